/-! ===== PURE 38: a quarter's close keeps the ranges ===== -/
section INV3
variable {T tr sl bu as B : Int → Int} {nt U : Int}
theorem qTr_KE {q : Int} (hq : 0 ≤ q ∧ q < 64) (h : KE B) : ∀ k : Nat, k ≤ 4 → KE (qTr T tr B q k)
  | 0, _ => h
  | k + 1, hk => by
    have ih := qTr_KE hq h k (by omega)
    refine KE_book ?_ (by omega) (by omega)
    unfold qL
    exact KE_up (KE_up ih (by omega) (by omega)) (by omega) (by omega)
theorem wholeZ_q {U : Int} {t q : Int} (hU : UB U B) (t0 : 0 ≤ t) (t1 : t < 4) (q0 : 0 ≤ q) (q1 : q < 64) : wholeZ (qSum B t q) ≤ 3 * U := by
  have a1 := hU (1 + 320 * t + 5 * q + 2) (by omega) (by omega)
  have a2 := hU (1 + 320 * t + 5 * q + 3) (by omega) (by omega)
  have a3 := hU (1 + 320 * t + 5 * q + 4) (by omega) (by omega)
  unfold wholeZ qSum
  omega
theorem qTr_BK (hT : told3 T) (htr : trOk tr) (hB : BS B) (hN : BN B) (hU : UB U B) (hA : ANr T B) (hK : 0 ≤ B 1867 ∧ B 1867 ≤ 40) (h : BK U B) : ∀ k : Nat, k ≤ 4 → BK U (qTr T tr B (B 0) k)
  | 0, _ => h
  | k + 1, hk => by
    obtain ⟨n1, n2⟩ := id hN
    have ih := qTr_BK hT htr hB hN hU hA hK h k (by omega)
    have hkp := qTr_keep (T := T) (tr := tr) hN hK k (by omega)
    have hBk := BS_q hkp hB
    have hAk := ANr_q hkp hN hA
    have hUk : UB U (qTr T tr B (B 0) k) := fun i i0 i1 => by rw [hkp.1 i (by omega)]; exact hU i i0 i1
    have h00 : qTr T tr B (B 0) k 0 = B 0 := hkp.1 0 (by omega)
    have hfr := provZ_rng (tr := tr) (t := (k : Int)) (q := B 0) (bs := tr (8 * k + 2)) hT htr hBk hAk (by omega) (by omega) n1 n2 (by omega)
    have hso := sumsOk_q (t := (k : Int)) (q := B 0) hBk (by omega) (by omega) n1 n2
    have hv := backZ_rng (l := T 2 / 4) hT.1 (by have := hT.2.1; omega) hso hfr
    have hw := wholeZ_q (t := (k : Int)) (q := B 0) hUk (by omega) (by omega) n1 n2
    intro i i0 i1
    show 0 ≤ bookZ (qL T tr (qTr T tr B (B 0) k) k (B 0)) k 0 _ (-2) i ∧ bookZ (qL T tr (qTr T tr B (B 0) k) k (B 0)) k 0 _ (-2) i ≤ _
    rw [book_lo (by omega) (by omega) (by omega)]
    unfold qL
    by_cases c : i = 1545 + 64 * k + B 0
    · rw [c, upZ_self]
      unfold qV qF
      omega
    · rw [upZ_ne c, upZ_ne (by omega)]
      exact ih i i0 i1
theorem yT_KE {y : Int} (hy : 0 ≤ y ∧ y < 16) (h : KE B) : ∀ k : Nat, k ≤ 4 → KE (yT T tr B y k)
  | 0, _ => h
  | k + 1, hk => by
    have ih := yT_KE hy h k (by omega)
    exact KE_book (KE_up ih (by omega) (by omega)) (by omega) (by omega)
theorem yT_AN2 (hT : told3 T) (hB : BS B) {y : Int} (hy : 0 ≤ y ∧ y < 16) (hK : 0 ≤ B 1867 ∧ B 1867 ≤ 40) (h : AN2 T B) : ∀ k : Nat, k ≤ 4 → AN2 T (yT T tr B y k)
  | 0, _ => h
  | k + 1, hk => by
    have ih := yT_AN2 hT hB hy hK h k (by omega)
    have hkp := yT_keep (T := T) (tr := tr) hy hK k (by omega)
    have hBk := BS_keep hkp hB
    have hh := hBk.2 k (by omega) (by omega)
    have hfr := frZ_rng (tr := tr) (t := (k : Int)) hT (sumsOk_y (t := (k : Int)) (y := y) hBk (by omega) (by omega) hy.1 hy.2) hh.1 hh.2.1
    intro i i0 i1
    show 0 ≤ bookZ (upZ (yT T tr B y k) (1801 + 16 * k + y) (frZ T tr k (ySum (yT T tr B y k) k y) (yT T tr B y k (1281 + 2 * k)) (yT T tr B y k (1282 + 2 * k)))) k 1 _ (-2) i ∧ bookZ (upZ (yT T tr B y k) (1801 + 16 * k + y) (frZ T tr k (ySum (yT T tr B y k) k y) (yT T tr B y k (1281 + 2 * k)) (yT T tr B y k (1282 + 2 * k)))) k 1 _ (-2) i ≤ _
    rw [book_lo (by omega) (by omega) (by omega)]
    by_cases c : i = 1801 + 16 * k + y
    · rw [c, upZ_self]; exact hfr
    · rw [upZ_ne c]; exact ih i i0 i1
theorem yA_KE (hT : told3 T) (hB : BS B) (hN : BN B) (hK : KE B) (hA8 : B 1865 ≤ 8) (hA : allA B) : ∀ k : Nat, (k : Int) ≤ B 1865 → KE (yA T tr B (yearZ B) k) ∧ yA T tr B (yearZ B) k 1866 ≤ B 1866 + 2 * k := by
  intro k
  induction k with
  | zero => intro _; exact ⟨hK, by show B 1866 ≤ B 1866 + 2 * ((0 : Nat) : Int); omega⟩
  | succ k ih =>
    intro hk
    obtain ⟨h1, h2⟩ := ih (by omega)
    have hKK := KE_K hK
    have hJ := yA_J (T := T) (tr := tr) hT hB hN ⟨hKK.1, hKK.2.1⟩ hA8 hA k (by omega)
    obtain ⟨j1, j2, j3, j4⟩ := id hJ
    have hBk := yJ_BS hJ hB
    have hNk : BN (yA T tr B (yearZ B) k) := by unfold BN; rw [j1 0 (by omega)]; exact hN
    have hAk := j3 k (by omega) (by omega)
    have hik := (hA k (by omega) (by omega)).2
    rw [← j4 k (by omega) (by omega) 9 (by omega) (by omega), ← j4 k (by omega) (by omega) 5 (by omega) (by omega)] at hik
    have hws := worthZ_rng (tr := tr) (use := AtZ (yA T tr B (yearZ B) k) k 2) hT hBk hNk hAk
    have e1 := clsZ_KE (T := T) (tr := tr) (a := (k : Int)) (y := yearZ B) (by omega) hAk h1 hT hws hik
    have e2 := clsZ_E (T := T) (tr := tr) (a := (k : Int)) (y := yearZ B) (by omega) hAk j2 hT hws hik
    refine ⟨e1, ?_⟩
    show clsZ T tr (yA T tr B (yearZ B) k) k (yearZ B) 1866 ≤ _
    omega
theorem yA_row (hT : told3 T) (hB : BS B) (hN : BN B) (hK : 0 ≤ B 1867 ∧ B 1867 ≤ 40) (hA8 : B 1865 ≤ 8) (hA : allA B) {a : Nat} (ha : (a : Int) < B 1865) : ∀ k : Nat, a < k → (k : Int) ≤ B 1865 → ∀ j : Int, 0 ≤ j → j < 48 → AtZ (yA T tr B (yearZ B) k) a j = AtZ (clsZ T tr (yA T tr B (yearZ B) a) a (yearZ B)) a j := by
  intro k
  induction k with
  | zero => intro h; exact absurd h (by omega)
  | succ k ih =>
    intro h hk j j0 j1
    by_cases c : a = k
    · subst c; rfl
    · have hJ := yA_J (T := T) (tr := tr) hT hB hN hK hA8 hA k (by omega)
      obtain ⟨i1, i2, i3, i4⟩ := id hJ
      have hBk := yJ_BS hJ hB
      have hNk : BN (yA T tr B (yearZ B) k) := by unfold BN; rw [i1 0 (by omega)]; exact hN
      have hAk := i3 k (by omega) (by omega)
      have hik := (hA k (by omega) (by omega)).2
      rw [← i4 k (by omega) (by omega) 9 (by omega) (by omega), ← i4 k (by omega) (by omega) 5 (by omega) (by omega)] at hik
      have hkeep := clsZ_keep (T := T) (tr := tr) (B := yA T tr B (yearZ B) k) (a := (k : Int)) (y := yearZ B) (by omega) hT hAk i2 (worthZ_rng hT hBk hNk hAk) hik
      rw [← ih (by omega) (by omega) j j0 j1]
      exact hkeep.1.1 _ (by omega)
theorem AO_up0 {a v : Int} (h : AO B a) (ha : 0 ≤ a) (hv : B 0 ≤ v) : AO (upZ B 0 v) a := by
  obtain ⟨c0, c1, c2, c3, c4, c5, c6, c7, c8, c9, c11, cu, c47⟩ := h
  have e : ∀ j : Int, 0 ≤ j → AtZ (upZ B 0 v) a j = AtZ B a j := fun j j0 => upZ_ne (by omega)
  unfold AO
  rw [upZ_self, e 0 (by omega), e 1 (by omega), e 2 (by omega), e 3 (by omega), e 4 (by omega), e 5 (by omega), e 6 (by omega), e 7 (by omega), e 8 (by omega), e 9 (by omega), e 11 (by omega), e 47 (by omega)]
  exact ⟨c0, c1, c2, c3, c4, ⟨c5.1, by omega⟩, c6, c7, c8, c9, c11, fun q q0 q1 => by rw [e _ (by omega)]; exact cu q q0 q1, c47⟩
theorem clqZ_BI (hT : told3 T) (htr : trOk tr) (hr : RowsOk T sl bu as) (hNt : RowsNt T as nt) (hnt : 0 ≤ nt ∧ nt ≤ 4) (hU : 2000000 ≤ U ∧ U ≤ 100000000) (h : BI T nt U B) (h63 : B 0 < 63) : BI T nt U (clqZ T tr sl bu as B nt) ∧ clqZ T tr sl bu as B nt 0 = B 0 + 1 := by
  obtain ⟨hB, hN, hUB, hFZ, hKE, hE, hAN, hBK, hA8, hX⟩ := h
  obtain ⟨n1, n2⟩ := id hN
  have hm : 0 ≤ B 0 % 4 ∧ B 0 % 4 < 4 := by omega
  have hKK := KE_K hKE
  have hK : 0 ≤ B 1867 ∧ B 1867 ≤ 40 := ⟨hKK.1, hKK.2.1⟩
  have hA := AX_allA hX
  have hANr := AN2_r hN hAN
  have hkp := qTr_keep (T := T) (tr := tr) hN hK nt.toNat (by omega)
  have qE := qTr_E (T := T) (tr := tr) (B := B) hN nt.toNat (by omega)
  have f0 : clq1 T tr B nt 0 = B 0 := clq1_lo hnt hN hK (by omega)
  have f65 : clq1 T tr B nt 1865 = B 1865 := clq1_lo hnt hN hK (by omega)
  have fE : clq1 T tr B nt 1866 = B 1866 + nt := by
    unfold clq1
    rw [uT_lo (by omega), qE]; omega
  have hNl : BN (clq1 T tr B nt) := by unfold BN; rw [f0]; exact hN
  have hKl := clq1_K (T := T) (tr := tr) hnt hN hK
  have hBl := clq1_BS (T := T) (tr := tr) hnt hN hK hB
  have hAl := clq1_A (T := T) (tr := tr) hnt hN hK hA
  have hyl : yearZ (clq1 T tr B nt) = yearZ B := congrArg (· / 4) f0
  have fKE : KE (clq1 T tr B nt) := by
    have := qTr_KE (T := T) (tr := tr) hN hKE nt.toNat (by omega)
    unfold clq1 KE
    rw [uT_lo (by omega), uT_lo (by omega)]
    exact this
  have fBK : BK U (clq1 T tr B nt) := fun i i0 i1 => by
    unfold clq1
    rw [uT_lo (by omega)]
    exact qTr_BK hT htr hB hN hUB hANr hK hBK nt.toNat (by omega) i i0 i1
  have fAN : AN2 T (clq1 T tr B nt) := fun i i0 i1 => by
    rw [clq1_lo hnt hN hK (by omega)]
    exact hAN i i0 i1
  have hat : ∀ a : Int, 0 ≤ a → a < B 1865 → ∀ j : Int, 0 ≤ j → j < 48 → AtZ (clq1 T tr B nt) a j = if j = 13 + B 0 % 4 then AtZ B a 2 else AtZ B a j := fun a a0 a1 j j0 j1 => clq1_at hnt hN hK a0 a1 j0 j1
  -- what stands ahead of what is told
  have mid : (∀ i : Int, i < 1289 ∨ i = 1865 → clq2 T tr B nt i = B i) ∧ KE (clq2 T tr B nt) ∧ clq2 T tr B nt 1866 ≤ B 1866 + 24 ∧ AN2 T (clq2 T tr B nt) ∧ BK U (clq2 T tr B nt) ∧ ∀ a : Int, 0 ≤ a → a < B 1865 → AX (upZ (clq2 T tr B nt) 0 (B 0 + 1)) nt a := by
    unfold clq2
    by_cases c3 : B 0 % 4 = 3
    · rw [if_pos c3]
      have hy2 : 0 ≤ yearZ (clq1 T tr B nt) ∧ yearZ (clq1 T tr B nt) < 16 := by rw [hyl]; unfold yearZ; omega
      have hkp2 := yT_keep (T := T) (tr := tr) (B := clq1 T tr B nt) hy2 hKl nt.toNat (by omega)
      have tE := yT_E (T := T) (tr := tr) (B := clq1 T tr B nt) hy2 nt.toNat (by omega)
      have tKE := yT_KE (T := T) (tr := tr) (B := clq1 T tr B nt) hy2 fKE nt.toNat (by omega)
      have tAN := yT_AN2 (T := T) (tr := tr) (B := clq1 T tr B nt) hT hBl hy2 hKl fAN nt.toNat (by omega)
      have yl : ∀ i : Int, i < 1801 ∨ i = 1865 → yrZ T tr (clq1 T tr B nt) nt i = clq1 T tr B nt i := fun i hi => yrZ_lo hT hnt hBl hNl hKl (by rw [f65]; exact hA8) hAl hi
      have t65 : yT T tr (clq1 T tr B nt) (yearZ (clq1 T tr B nt)) nt.toNat 1865 = B 1865 := (hkp2.1 1865 (by omega)).trans f65
      have t0 : yT T tr (clq1 T tr B nt) (yearZ (clq1 T tr B nt)) nt.toNat 0 = B 0 := (hkp2.1 0 (by omega)).trans f0
      have ty : yearZ (yT T tr (clq1 T tr B nt) (yearZ (clq1 T tr B nt)) nt.toNat) = yearZ (clq1 T tr B nt) := congrArg (· / 4) (t0.trans f0.symm)
      have tB := BS_keep hkp2 hBl
      have tN : BN (yT T tr (clq1 T tr B nt) (yearZ (clq1 T tr B nt)) nt.toNat) := by unfold BN; rw [t0]; exact hN
      have tA := allA_keep hkp2 (by rw [f65]; exact hA8.1) hAl
      have tat : ∀ a : Int, 0 ≤ a → ∀ j : Int, 0 ≤ j → AtZ (yT T tr (clq1 T tr B nt) (yearZ (clq1 T tr B nt)) nt.toNat) a j = AtZ (clq1 T tr B nt) a j := fun a a0 j j0 => hkp2.1 _ (by omega)
      have hyr : yrZ T tr (clq1 T tr B nt) nt = yA T tr (yT T tr (clq1 T tr B nt) (yearZ (clq1 T tr B nt)) nt.toNat) (yearZ (yT T tr (clq1 T tr B nt) (yearZ (clq1 T tr B nt)) nt.toNat)) (B 1865).toNat := by
        unfold yrZ
        rw [ty, f65]
      generalize yT T tr (clq1 T tr B nt) (yearZ (clq1 T tr B nt)) nt.toNat = B3 at *
      have aKE := yA_KE (T := T) (tr := tr) hT tB tN tKE (by rw [t65]; exact hA8.2) tA (B 1865).toNat (by rw [t65]; omega)
      have aJ := yA_J (T := T) (tr := tr) hT tB tN hkp2.2 (by rw [t65]; exact hA8.2) tA (B 1865).toNat (by rw [t65]; omega)
      have arow := fun (a : Nat) (ha : (a : Int) < B 1865) => yA_row (T := T) (tr := tr) hT tB tN hkp2.2 (by rw [t65]; exact hA8.2) tA (a := a) (by rw [t65]; exact ha) (B 1865).toNat (by omega) (by rw [t65]; omega)
      have aJa := fun (a : Nat) (ha : (a : Int) < B 1865) => yA_J (T := T) (tr := tr) hT tB tN hkp2.2 (by rw [t65]; exact hA8.2) tA a (by rw [t65]; omega)
      refine ⟨fun i hi => (yl i (by omega)).trans (clq1_lo hnt hN hK (by omega)), by rw [hyr]; exact aKE.1, by rw [hyr]; omega, fun i i0 i1 => ?_, fun i i0 i1 => ?_, fun a a0 a1 => ?_⟩
      · rw [hyr, aJ.1 i (by omega)]; exact tAN i i0 i1
      · rw [yl i (by omega)]; exact fBK i i0 i1
      · rw [hyr]
        obtain ⟨a', rfl⟩ := Int.eq_ofNat_of_zero_le a0
        have hAO := aJ.2.2.1 a' (by omega) (by rw [t65]; exact a1)
        have hrow := arow a' a1
        have hJa := aJa a' a1
        obtain ⟨q1, q2, q3, q4⟩ := id hJa
        have hAk := q3 a' (by omega) (by rw [t65]; exact a1)
        have hNa : BN (yA T tr B3 (yearZ B3) a') := by unfold BN; rw [q1 0 (by omega)]; exact tN
        have hws := worthZ_rng (tr := tr) (use := AtZ (yA T tr B3 (yearZ B3) a') a' 2) hT (yJ_BS hJa tB) hNa hAk
        obtain ⟨x0, x1, x2, x3, x4, x5⟩ := hX a' (by omega) a1
        have src : ∀ j : Int, 0 ≤ j → j < 48 → j ≠ 13 + B 0 % 4 → AtZ (yA T tr B3 (yearZ B3) a') a' j = AtZ B a' j := fun j j0 j1 j2 => by
          rw [q4 a' (by omega) (by rw [t65]; exact a1) j j0 j1, tat a' (by omega) j j0, hat a' (by omega) a1 j j0 j1, if_neg j2]
        have eu : ∀ j : Int, 0 ≤ j → AtZ (upZ (yA T tr B3 (yearZ B3) (B 1865).toNat) 0 (B 0 + 1)) a' j = AtZ (yA T tr B3 (yearZ B3) (B 1865).toNat) a' j := fun j j0 => upZ_ne (by omega)
        have hyu : yearZ (upZ (yA T tr B3 (yearZ B3) (B 1865).toNat) 0 (B 0 + 1)) = yearZ B + 1 := by
          unfold yearZ
          rw [upZ_self]; omega
        have hy3 : yearZ B3 = yearZ B := by rw [ty, hyl]
        have h4 := x0.2.2.2.2.1
        have hAO' := AO_up0 (v := B 0 + 1) hAO (by omega) (by rw [aJ.1 0 (by omega), t0]; omega)
        unfold AX
        rw [hyu, eu 0 (by omega), eu 1 (by omega), eu 9 (by omega), eu 47 (by omega), eu 5 (by omega), eu 4 (by omega), eu 27 (by omega)]
        refine ⟨hAO', ?_⟩
        rw [hrow 0 (by omega) (by omega), hrow 1 (by omega) (by omega), hrow 9 (by omega) (by omega), hrow 47 (by omega) (by omega), hrow 5 (by omega) (by omega), hrow 4 (by omega) (by omega), hrow 27 (by omega) (by omega)]
        by_cases c9 : AtZ B a' 9 = 1
        · have x47 := x0.2.2.2.2.2.2.2.2.2.2.2.2
          have hz : clsZ T tr (yA T tr B3 (yearZ B3) a') a' (yearZ B3) = yA T tr B3 (yearZ B3) a' := by
            unfold clsZ
            rw [if_pos (by rw [src 9 (by omega) (by omega) (by omega)]; exact c9)]
          rw [hz, src 0 (by omega) (by omega) (by omega), src 1 (by omega) (by omega) (by omega), src 9 (by omega) (by omega) (by omega), src 47 (by omega) (by omega) (by omega), src 27 (by omega) (by omega) (by omega), src 4 (by omega) (by omega) (by omega)]
          refine ⟨x1, x2, fun q => absurd c9 q, x4, x5.1, fun i i0 i1 => ?_⟩
          rw [eu (37 + i) (by omega), hrow (37 + i) (by omega) (by omega), hz, src (37 + i) (by omega) (by omega) (by omega)]
          exact x5.2 i i0 i1
        · have x3' := x3 c9
          have x47 := x0.2.2.2.2.2.2.2.2.2.2.2.2
          obtain ⟨r0, r1, r4, r5, r47, r9, r37⟩ := clsZ_row (T := T) (tr := tr) (a := a') (y := yearZ B3) hAk q2 hT hws (by rw [src 9 (by omega) (by omega) (by omega)]; exact c9) (by rw [src 5 (by omega) (by omega) (by omega), hy3]; omega)
          rw [src 4 (by omega) (by omega) (by omega), src 5 (by omega) (by omega) (by omega)] at r9
          rw [r0, r1, r4, r5, r47, src 1 (by omega) (by omega) (by omega), src 4 (by omega) (by omega) (by omega), src 5 (by omega) (by omega) (by omega)]
          rw [src 5 (by omega) (by omega) (by omega)] at r37
          refine ⟨x2, x2, fun q => by have := r9 q; omega, fun q => absurd q (by omega), by omega, fun i i0 i1 => ?_⟩
          rw [eu (37 + i) (by omega), hrow (37 + i) (by omega) (by omega), r37 i i0 i1]
          split
          · rw [src 0 (by omega) (by omega) (by omega)]; exact x0.1
          · rw [src (37 + i) (by omega) (by omega) (by omega)]; exact x5.2 i i0 (by omega)
    · rw [if_neg c3]
      refine ⟨fun i hi => clq1_lo hnt hN hK (by omega), fKE, by omega, fAN, fBK, fun a a0 a1 => ?_⟩
      obtain ⟨x0, x1, x2, x3, x4, x5⟩ := hX a a0 a1
      have eu : ∀ j : Int, 0 ≤ j → AtZ (upZ (clq1 T tr B nt) 0 (B 0 + 1)) a j = AtZ (clq1 T tr B nt) a j := fun j j0 => upZ_ne (by omega)
      have hyu : yearZ (upZ (clq1 T tr B nt) 0 (B 0 + 1)) = yearZ B := by
        unfold yearZ
        rw [upZ_self]; omega
      have src : ∀ j : Int, 0 ≤ j → j < 48 → j ≠ 13 + B 0 % 4 → AtZ (clq1 T tr B nt) a j = AtZ B a j := fun j j0 j1 j2 => by
        rw [hat a a0 a1 j j0 j1, if_neg j2]
      have hAO' := AO_up0 (v := B 0 + 1) (hAl a a0 (by rw [f65]; exact a1)).1 a0 (by rw [f0]; omega)
      unfold AX
      rw [hyu, eu 0 (by omega), eu 1 (by omega), eu 9 (by omega), eu 47 (by omega), eu 5 (by omega), eu 4 (by omega), eu 27 (by omega), src 0 (by omega) (by omega) (by omega), src 1 (by omega) (by omega) (by omega), src 9 (by omega) (by omega) (by omega), src 47 (by omega) (by omega) (by omega), src 5 (by omega) (by omega) (by omega), src 4 (by omega) (by omega) (by omega), src 27 (by omega) (by omega) (by omega)]
      have x47 := x0.2.2.2.2.2.2.2.2.2.2.2.2
      refine ⟨hAO', x1, x2, x3, x4, x5.1, fun i i0 i1 => ?_⟩
      rw [eu (37 + i) (by omega), src (37 + i) (by omega) (by omega) (by omega)]
      exact x5.2 i i0 i1
  obtain ⟨m1, m2, m3, m4, m5, m6⟩ := mid
  have u0 : upZ (clq2 T tr B nt) 0 (B 0 + 1) 0 = B 0 + 1 := upZ_self
  have ui : ∀ i : Int, i ≠ 0 → upZ (clq2 T tr B nt) 0 (B 0 + 1) i = clq2 T tr B nt i := fun i hi => upZ_ne hi
  have u65 : upZ (clq2 T tr B nt) 0 (B 0 + 1) 1865 = B 1865 := (ui 1865 (by omega)).trans (m1 1865 (by omega))
  have uN : BN (upZ (clq2 T tr B nt) 0 (B 0 + 1)) := by unfold BN; rw [u0]; omega
  have cb := fun (i : Int) (hi : i < 2084) (h5 : i ≠ 1865) => comZ_b (T := T) (sl := sl) (bu := bu) (as := as) (B := upZ (clq2 T tr B nt) 0 (B 0 + 1)) (i := i) hr (by rw [u65]; exact hA8) uN hi h5
  have cfar : ∀ i : Int, i < 2084 → i ≠ 1865 → (i < 1 ∨ 1281 ≤ i) → comZ T sl bu as (upZ (clq2 T tr B nt) 0 (B 0 + 1)) i = upZ (clq2 T tr B nt) 0 (B 0 + 1) i := fun i hi h5 h1 => (cb i hi h5).2.2 (fun t w t0 t1 w0 w1 => by rw [u0]; unfold sumI; omega)
  have cA := comZ_A (T := T) (sl := sl) (bu := bu) (as := as) (nt := nt) (B := upZ (clq2 T tr B nt) 0 (B 0 + 1)) hr hNt hnt.2 (by rw [u65]; exact hA8) uN (fun a a0 a1 => m6 a a0 (by rw [u65] at a1; exact a1))
  have c0 : comZ T sl bu as (upZ (clq2 T tr B nt) 0 (B 0 + 1)) 0 = B 0 + 1 := (cfar 0 (by omega) (by omega) (by omega)).trans u0
  have csum : ∀ i : Int, 1 ≤ i → i < 1281 → 0 ≤ comZ T sl bu as (upZ (clq2 T tr B nt) 0 (B 0 + 1)) i ∧ comZ T sl bu as (upZ (clq2 T tr B nt) 0 (B 0 + 1)) i ≤ U := by
    intro i i0 i1
    have b1 := cb i (by omega) (by omega)
    rw [ui i (by omega), m1 i (by omega)] at b1
    have b2 := hB.1 i i0 i1
    have b3 := hUB i i0 i1
    by_cases c : (i - 1) % 320 / 5 = B 0 + 1
    · have hz := hFZ ((i - 1) / 320) (B 0 + 1) ((i - 1) % 5) (by omega) (by omega) (by omega) (by omega) (by omega) (by omega)
      rw [show sumI ((i - 1) / 320) (B 0 + 1) ((i - 1) % 5) = i by unfold sumI; omega] at hz
      omega
    · rw [b1.2.2 (fun t w t0 t1 w0 w1 => by rw [u0]; unfold sumI; omega)]
      exact ⟨b2.1, b3⟩
  have c66 := cfar 1866 (by omega) (by omega) (by omega)
  have c67 := cfar 1867 (by omega) (by omega) (by omega)
  rw [ui _ (by omega)] at c66 c67
  refine ⟨⟨⟨fun i i0 i1 => ?_, fun t t0 t1 => ?_⟩, ?_, fun i i0 i1 => (csum i i0 i1).2, fun t q w t0 t1 q0 q1 w0 w1 => ?_, ?_, ?_, fun i i0 i1 => ?_, fun i i0 i1 => ?_, cA.1, cA.2⟩, c0⟩
  · have := csum i i0 i1
    unfold clqZ
    omega
  · unfold clqZ
    rw [cfar _ (by omega) (by omega) (by omega), cfar _ (by omega) (by omega) (by omega), ui _ (by omega), ui _ (by omega), m1 _ (by omega), m1 _ (by omega)]
    exact hB.2 t t0 t1
  · unfold BN clqZ
    rw [c0]; omega
  · unfold clqZ at q0 ⊢
    rw [c0] at q0
    rw [(cb (sumI t q w) (by unfold sumI; omega) (by unfold sumI; omega)).2.2 (fun t' w' a b c d => by rw [u0]; unfold sumI; omega), ui _ (by unfold sumI; omega), m1 _ (by unfold sumI; omega)]
    exact hFZ t q w t0 t1 (by omega) q1 w0 w1
  · unfold KE clqZ
    rw [c66, c67]
    exact m2
  · unfold clqZ
    rw [c66, c0]; omega
  · unfold clqZ
    rw [cfar i (by omega) (by omega) (by omega), ui i (by omega)]
    exact m4 i i0 i1
  · unfold clqZ
    rw [cfar i (by omega) (by omega) (by omega), ui i (by omega)]
    exact m5 i i0 i1
end INV3
