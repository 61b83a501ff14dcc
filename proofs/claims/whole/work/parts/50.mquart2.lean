/-! ===== PURE 20: a quarter's close: the uses, all ===== -/
def uT (B : Int → Int) (q : Int) : Nat → Int → Int
  | 0 => B
  | k + 1 => upZ (uT B q k) (2084 + 48 * k + (13 + q % 4)) (AtZ (uT B q k) k 2)
theorem uT_at {B : Int → Int} {q : Int} : ∀ k : Nat, ∀ i : Int, uT B q k i = if 2084 ≤ i ∧ i < 2084 + 48 * k ∧ (i - 2084) % 48 = 13 + q % 4 then B (i - (13 + q % 4) + 2) else B i := by
  intro k
  induction k with
  | zero => intro i; rw [if_neg (by omega)]; rfl
  | succ k ih =>
    intro i
    show upZ (uT B q k) (2084 + 48 * k + (13 + q % 4)) (uT B q k (2084 + 48 * k + 2)) i = _
    unfold upZ
    have hm : 0 ≤ q % 4 ∧ q % 4 < 4 := by omega
    by_cases h : i = 2084 + 48 * k + (13 + q % 4)
    · rw [if_pos h, ih, if_neg (by omega), if_pos (by omega)]
      congr 1; omega
    · rw [if_neg h, ih]
      by_cases c : 2084 ≤ i ∧ i < 2084 + 48 * k ∧ (i - 2084) % 48 = 13 + q % 4
      · rw [if_pos c, if_pos (by omega)]
      · rw [if_neg c, if_neg (by omega)]
theorem uT_lo {B : Int → Int} {q i : Int} {k : Nat} (h : i < 2084) : uT B q k i = B i := by
  rw [uT_at, if_neg (by omega)]
theorem uT_as {B : Int → Int} {q a j : Int} {k : Nat} (h0 : 0 ≤ a) (h2 : 0 ≤ j) (h3 : j < 48) : AtZ (uT B q k) a j = if a < k ∧ j = 13 + q % 4 then AtZ B a 2 else AtZ B a j := by
  unfold AtZ
  have hm : 0 ≤ q % 4 ∧ q % 4 < 4 := by omega
  rw [uT_at]
  by_cases c : a < k ∧ j = 13 + q % 4
  · rw [if_pos (by omega), if_pos c]
    congr 1; omega
  · rw [if_neg (by omega), if_neg c]
theorem AO_u {B : Int → Int} {q a : Int} {k : Nat} (h : AO B a) (h0 : 0 ≤ a) : AO (uT B q k) a := by
  obtain ⟨c0, c1, c2, c3, c4, c5, c6, c7, c8, c9, c11, cu, c47⟩ := h
  have hm : 0 ≤ q % 4 ∧ q % 4 < 4 := by omega
  have hx : ∀ j : Int, 0 ≤ j → j < 48 → (j < 13 ∨ 17 ≤ j) → AtZ (uT B q k) a j = AtZ B a j := fun j j0 j1 j2 => by
    rw [uT_as h0 j0 j1, if_neg (by omega)]
  unfold AO
  rw [uT_lo (by omega), hx 0 (by omega) (by omega) (by omega), hx 1 (by omega) (by omega) (by omega), hx 2 (by omega) (by omega) (by omega), hx 3 (by omega) (by omega) (by omega), hx 4 (by omega) (by omega) (by omega), hx 5 (by omega) (by omega) (by omega), hx 6 (by omega) (by omega) (by omega), hx 7 (by omega) (by omega) (by omega), hx 8 (by omega) (by omega) (by omega), hx 9 (by omega) (by omega) (by omega), hx 11 (by omega) (by omega) (by omega), hx 47 (by omega) (by omega) (by omega)]
  refine ⟨c0, c1, c2, c3, c4, c5, c6, c7, c8, c9, c11, fun j j0 j1 => ?_, c47⟩
  rw [uT_as h0 (by omega) (by omega)]
  split
  · exact c2
  · exact cu j j0 j1
/-- the bank behind a quarter's close, ahead of what is told of the next -/
def clq1 (T tr B : Int → Int) (nt : Int) : Int → Int := uT (qTr T tr B (B 0) nt.toNat) (B 0) (B 1865).toNat
def clq2 (T tr B : Int → Int) (nt : Int) : Int → Int := if B 0 % 4 = 3 then yrZ T tr (clq1 T tr B nt) nt else clq1 T tr B nt
def clqZ (T tr sl bu as B : Int → Int) (nt : Int) : Int → Int := comZ T sl bu as (upZ (clq2 T tr B nt) 0 (B 0 + 1))
theorem clq1_lo {T tr B : Int → Int} {nt i : Int} (hnt : 0 ≤ nt ∧ nt ≤ 4) (hN : BN B) (hK : 0 ≤ B 1867 ∧ B 1867 ≤ 40) (hi : i < 1289 ∨ (1801 ≤ i ∧ i ≤ 1865)) : clq1 T tr B nt i = B i := by
  unfold clq1
  rw [uT_lo (by omega)]
  exact (qTr_keep hN hK nt.toNat (by omega)).1 i (by omega)
theorem clq1_K {T tr B : Int → Int} {nt : Int} (hnt : 0 ≤ nt ∧ nt ≤ 4) (hN : BN B) (hK : 0 ≤ B 1867 ∧ B 1867 ≤ 40) : 0 ≤ clq1 T tr B nt 1867 ∧ clq1 T tr B nt 1867 ≤ 40 := by
  unfold clq1
  rw [uT_lo (by omega)]
  exact (qTr_keep hN hK nt.toNat (by omega)).2
theorem clq1_at {T tr B : Int → Int} {nt a j : Int} (hnt : 0 ≤ nt ∧ nt ≤ 4) (hN : BN B) (hK : 0 ≤ B 1867 ∧ B 1867 ≤ 40) (h0 : 0 ≤ a) (h1 : a < B 1865) (h2 : 0 ≤ j) (h3 : j < 48) : AtZ (clq1 T tr B nt) a j = if j = 13 + B 0 % 4 then AtZ B a 2 else AtZ B a j := by
  have hk := (qTr_keep (T := T) (tr := tr) hN hK nt.toNat (by omega)).1
  unfold clq1
  rw [uT_as h0 h2 h3]
  have e : ∀ j : Int, 0 ≤ j → j < 48 → AtZ (qTr T tr B (B 0) nt.toNat) a j = AtZ B a j := fun j j0 j1 => hk _ (by omega)
  rw [e 2 (by omega) (by omega), e j h2 h3]
  by_cases c : j = 13 + B 0 % 4
  · rw [if_pos (by omega), if_pos c]
  · rw [if_neg (by omega), if_neg c]
theorem clq1_A {T tr B : Int → Int} {nt : Int} (hnt : 0 ≤ nt ∧ nt ≤ 4) (hN : BN B) (hK : 0 ≤ B 1867 ∧ B 1867 ≤ 40) (hA : allA B) : allA (clq1 T tr B nt) := by
  have hk := qTr_keep (T := T) (tr := tr) hN hK nt.toNat (by omega)
  intro a a0 a1
  rw [clq1_lo hnt hN hK (by omega)] at a1
  have ha := hA a a0 a1
  have hq : AO (qTr T tr B (B 0) nt.toNat) a := AO_eq ha.1 (hk.1 0 (by omega)) (fun j j0 j1 => hk.1 _ (by omega))
  have hy : yearZ (clq1 T tr B nt) = yearZ B := congrArg (· / 4) (clq1_lo hnt hN hK (by omega))
  rw [hy, clq1_at hnt hN hK a0 a1 (by omega) (by omega), clq1_at hnt hN hK a0 a1 (by omega) (by omega), if_neg (by omega), if_neg (by omega)]
  exact ⟨AO_u hq a0, ha.2⟩
theorem clq1_BS {T tr B : Int → Int} {nt : Int} (hnt : 0 ≤ nt ∧ nt ≤ 4) (hN : BN B) (hK : 0 ≤ B 1867 ∧ B 1867 ≤ 40) (hB : BS B) : BS (clq1 T tr B nt) :=
  ⟨fun k k1 k2 => by rw [clq1_lo hnt hN hK (by omega)]; exact hB.1 k k1 k2, fun t t1 t2 => by rw [clq1_lo hnt hN hK (by omega), clq1_lo hnt hN hK (by omega)]; exact hB.2 t t1 t2⟩
theorem yrZ_lo {T tr B : Int → Int} {nt i : Int} (hT : told3 T) (hnt : 0 ≤ nt ∧ nt ≤ 4) (hB : BS B) (hN : BN B) (hK : 0 ≤ B 1867 ∧ B 1867 ≤ 40) (hA8 : 0 ≤ B 1865 ∧ B 1865 ≤ 8) (hA : allA B) (hi : i < 1801 ∨ i = 1865) : yrZ T tr B nt i = B i := by
  obtain ⟨n1, n2⟩ := id hN
  have hy : 0 ≤ yearZ B ∧ yearZ B < 16 := by unfold yearZ; omega
  have hkp := yT_keep (T := T) (tr := tr) hy hK nt.toNat (by omega)
  have hN1 : BN (yT T tr B (yearZ B) nt.toNat) := by unfold BN; rw [hkp.1 0 (by omega)]; exact hN
  have h65 : yT T tr B (yearZ B) nt.toNat 1865 = B 1865 := hkp.1 1865 (by omega)
  have hy1 : yearZ (yT T tr B (yearZ B) nt.toNat) = yearZ B := congrArg (· / 4) (hkp.1 0 (by omega))
  have hJ := yA_J (T := T) (tr := tr) hT (BS_keep hkp hB) hN1 hkp.2 (by rw [h65]; exact hA8.2) (allA_keep hkp hA8.1 hA) (B 1865).toNat (by rw [h65]; omega)
  rw [hy1] at hJ
  unfold yrZ
  rw [hJ.1 i (by omega), hkp.1 i (by omega)]
section MQ2
variable {M : MemT} {bk nt : Int} {T tr sl bu as B S : Int → Int} {ho ha : Int} {sm : Int32} {n : Nat}
theorem m_uT {B1 : Int → Int} (h : MOk M bk nt T tr sl bu as) (hn : 300 < n) (hN : BN B) (hA8 : 0 ≤ B1 1865 ∧ B1 1865 ≤ 8) : loopF (fun (s : MemT × Int32) => (fun (M23 : MemT) (v24 : Int32) => chk M23 8 139 (bd (g_X10_of n M23 139 1865) (fun r26 M27 => (if r26 ≤ v24 then some (.inr (M27, v24)) else (if (4 : Int32) = 0 then none else chk M27 8 139 (bd (g_X10_at n M27 139 v24 2) (fun r28 M29 => chk M29 8 139 (bd (g_X10_put n M29 139 v24 (13 + ((zi (B 0)) - (zi (B 0)) / 4 * 4)) r28) (fun r30 M31 => some (.inl (M31, v24 + 1))))))))))) s.1 s.2) n (WC M bk B1 S ho ha sm, 0) = some (WC M bk (uT B1 (B 0) (B1 1865).toNat) S ho ha sm, zi (B1 1865)) := by
  obtain ⟨n1, n2⟩ := id hN
  have e4 : zi (B 0) - zi (B 0) / 4 * 4 = zi (B 0 % 4) := by
    show zi (B 0) - zi (B 0) / zi 4 * zi 4 = _
    rw [zi_div n1 (by omega) (by omega) (by omega), zi_mul, zi_sub]
    congr 1; omega
  have e5 : (13 : Int32) + zi (B 0 % 4) = zi (13 + B 0 % 4) := zi_add 13 _
  have e0 : (WC M bk B1 S ho ha sm, (0 : Int32)) = (fun i : Nat => (WC M bk (uT B1 (B 0) i) S ho ha sm, zi i)) 0 := rfl
  rw [e0]
  refine loop_k (fun i : Nat => (WC M bk (uT B1 (B 0) i) S ho ha sm, zi i)) _ (B1 1865).toNat (fun i hi => ?_) ?_ n (by omega)
  · have rA : g_X10_of n (WC M bk (uT B1 (B 0) i) S ho ha sm) 139 1865 = some (zi (B1 1865), WC M bk (uT B1 (B 0) i) S ho ha sm) := by
      rw [← uT_lo (B := B1) (q := B 0) (k := i) (i := 1865) (by omega)]; exact m_of h (k := 1865) (by omega) (by omega)
    have r2 : g_X10_at n (WC M bk (uT B1 (B 0) i) S ho ha sm) 139 (zi i) 2 = some (zi (AtZ (uT B1 (B 0) i) i 2), _) := m_at h (k := 2) (by omega) (by omega) (by omega) (by omega)
    dsimp only
    rw [m_chk h, rA, i_bd, if_neg (by rw [zi_le (by omega) (by omega) (by omega) (by omega)]; omega), if_neg (by decide), m_chk h, r2, i_bd, m_chk h, e4, e5, m_put h (by omega) (by omega) (by omega) (by omega), i_bd, show zi (i : Int) + 1 = zi ((i + 1 : Nat) : Int) from zi_add (i : Int) 1]
    rfl
  · have rA : g_X10_of n (WC M bk (uT B1 (B 0) (B1 1865).toNat) S ho ha sm) 139 1865 = some (zi (B1 1865), WC M bk (uT B1 (B 0) (B1 1865).toNat) S ho ha sm) := by
      have := m_of (n := n) (M := M) (B := uT B1 (B 0) (B1 1865).toNat) (S := S) (ho := ho) (ha := ha) (sm := sm) h (k := 1865) (by omega) (by omega)
      rw [uT_lo (by omega)] at this
      exact this
    dsimp only
    rw [m_chk h, rA, i_bd, Int.toNat_of_nonneg hA8.1, if_pos (Int32.le_refl _)]
theorem m_closesQuarter (h : MOk M bk nt T tr sl bu as) (hT : told3 T) (htr : trOk tr) (hr : RowsOk T sl bu as) (hn : 300 < n) (hnt : 0 ≤ nt ∧ nt ≤ 4) (hB : BS B) (hN : 0 ≤ B 0 ∧ B 0 < 63) (hK : 0 ≤ B 1867 ∧ B 1867 ≤ 40) (hA8 : 0 ≤ B 1865 ∧ B 1865 ≤ 8) (hA : allA B) (hAN : ANr T B) : ∃ S1 ho1 ha1 sm1, g_X10_closesQuarter n (WC M bk B S ho ha sm) 139 = some ((), WC M bk (clqZ T tr sl bu as B nt) S1 ho1 ha1 sm1) := by
  have hN' : BN B := ⟨hN.1, by omega⟩
  obtain ⟨n1, n2⟩ := id hN
  obtain ⟨t, ht, S1, ho1, ha1, sm1, rfl⟩ := m_qT (n := n) (S := S) (ho := ho) (ha := ha) (sm := sm) h hT htr hn hnt hB hN' hK hAN
  have hq := qTr_keep (T := T) (tr := tr) hN' hK nt.toNat (by omega)
  have hq65 : qTr T tr B (B 0) nt.toNat 1865 = B 1865 := hq.1 1865 (by omega)
  have hu := m_uT (B := B) (n := n) (B1 := qTr T tr B (B 0) nt.toNat) (S := S1) (ho := ho1) (ha := ha1) (sm := sm1) h hn hN' (by rw [hq65]; exact hA8)
  have e4 : zi (B 0) - zi (B 0) / 4 * 4 = zi (B 0 % 4) := by
    show zi (B 0) - zi (B 0) / zi 4 * zi 4 = _
    rw [zi_div n1 (by omega) (by omega) (by omega), zi_mul, zi_sub]
    congr 1; omega
  rw [hq65] at hu
  have e3 : (zi (B 0 % 4) = 3) = (B 0 % 4 = 3) := zi_eq (b := 3) (by omega) (by omega) (by omega) (by omega)
  have z0 : g_X10_of n (WC M bk B S ho ha sm) 139 0 = some (zi (B 0), WC M bk B S ho ha sm) := m_of h (k := 0) (by omega) (by omega)
  have ep : zi (B 0) + 1 = zi (B 0 + 1) := zi_add _ 1
  have hlay : ∀ B1 S ho ha sm, g_X10_lay n (WC M bk B1 S ho ha sm) 139 0 (zi (B 0 + 1)) = some ((), WC M bk (upZ B1 0 (B 0 + 1)) S ho ha sm) := fun B1 S ho ha sm => m_lay h (k := 0) (by omega) (by omega)
  have hc1 : clq1 T tr B nt = uT (qTr T tr B (B 0) nt.toNat) (B 0) (B 1865).toNat := rfl
  have f65 : clq1 T tr B nt 1865 = B 1865 := clq1_lo hnt hN' hK (by omega)
  have f0 : clq1 T tr B nt 0 = B 0 := clq1_lo hnt hN' hK (by omega)
  have hBS := clq1_BS (T := T) (tr := tr) hnt hN' hK hB
  have hAl := clq1_A (T := T) (tr := tr) hnt hN' hK hA
  have hKl := clq1_K (T := T) (tr := tr) hnt hN' hK
  have hNl : BN (clq1 T tr B nt) := by unfold BN; rw [f0]; exact hN'
  rw [← hc1] at hu
  have hcom : ∀ B1 S ho ha sm, (B1 1865 = B 1865) → g_X10_comesNow n (WC M bk (upZ B1 0 (B 0 + 1)) S ho ha sm) 139 = some ((), WC M bk (comZ T sl bu as (upZ B1 0 (B 0 + 1))) S ho ha sm) := fun B1 S ho ha sm e => m_comesNow h hr (by omega) (by rw [upZ_ne (by omega), e]; exact hA8) (by unfold BN; rw [upZ_self]; omega)
  dsimp only at ht hu
  by_cases c3 : B 0 % 4 = 3
  · obtain ⟨S2, ho2, ha2, sm2, hy⟩ := m_closesYear (n := n) (B := clq1 T tr B nt) (S := S1) (ho := ho1) (ha := ha1) (sm := sm1) h hT htr hn hnt hBS hNl hKl (by rw [f65]; exact hA8) hAl
    refine ⟨S2, ho2, ha2, sm2, ?_⟩
    have hyl := yrZ_lo (tr := tr) (i := 1865) hT hnt hBS hNl hKl (by rw [f65]; exact hA8) hAl (by omega)
    unfold g_X10_closesQuarter clqZ clq2
    rw [m_chk h, z0, i_bd]
    dsimp only
    rw [ht, i_sb]
    dsimp only
    rw [hu, i_sb]
    dsimp only
    simp only [i_jp]
    rw [if_neg (by decide), e4, if_pos (by rw [e3]; exact c3), if_pos c3, m_chk h, hy, i_bd, m_chk h, ep, hlay, i_bd, m_chk h, hcom _ _ _ _ _ (by rw [hyl, f65]), i_bd]
  · refine ⟨S1, ho1, ha1, sm1, ?_⟩
    unfold g_X10_closesQuarter clqZ clq2
    rw [m_chk h, z0, i_bd]
    dsimp only
    rw [ht, i_sb]
    dsimp only
    rw [hu, i_sb]
    dsimp only
    simp only [i_jp]
    rw [if_neg (by decide), e4, if_neg (by rw [e3]; exact c3), if_neg c3, m_chk h, ep, hlay, i_bd, m_chk h, hcom _ _ _ _ _ f65, i_bd]
end MQ2
