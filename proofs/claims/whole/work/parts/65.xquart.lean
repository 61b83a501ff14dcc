/-! ===== PURE 35: a quarter's close, the component's side ===== -/
theorem RAn_eq2 {T B B1 : Int → Int} {R R1 : Nat → Nat → Int32} {a : Nat} (h : RAn T B R a) (hb : ∀ j : Int, 0 ≤ j → j < 48 → (j < 13 ∨ 17 ≤ j) → AtZ B1 a j = AtZ B a j) (h47 : AtZ B a 47 ≤ 10) (hr : ∀ o, (o = 10 + 5 * a ∨ o = 10 + 5 * a + 2 ∨ o = 10 + 5 * a + 3 ∨ o = 10 + 5 * a + 4) → R1 o = R o) : RAn T B1 R1 a := by
  have hf : ∀ x : Int, fstZ T B1 a x = fstZ T B a x := fun x => by
    unfold fstZ
    rw [hb 3 (by omega) (by omega) (by omega)]
  unfold RAn at h ⊢
  rw [hr (10 + 5 * a) (by omega), hr (10 + 5 * a + 2) (by omega), hr (10 + 5 * a + 3) (by omega), hr (10 + 5 * a + 4) (by omega), hb 0 (by omega) (by omega) (by omega), hb 1 (by omega) (by omega) (by omega), hb 2 (by omega) (by omega) (by omega), hb 3 (by omega) (by omega) (by omega), hb 4 (by omega) (by omega) (by omega), hb 5 (by omega) (by omega) (by omega), hb 6 (by omega) (by omega) (by omega), hb 7 (by omega) (by omega) (by omega), hb 8 (by omega) (by omega) (by omega), hb 9 (by omega) (by omega) (by omega), hb 10 (by omega) (by omega) (by omega), hb 11 (by omega) (by omega) (by omega), hb 12 (by omega) (by omega) (by omega), hb 47 (by omega) (by omega) (by omega), hf]
  refine ⟨h.1, h.2.1, fun i i0 i1 => ?_⟩
  rw [hb (17 + i) (by omega) (by omega) (by omega), hb (27 + i) (by omega) (by omega) (by omega), hb (37 + i) (by omega) (by omega) (by omega)]
  exact h.2.2 i i0 i1
theorem qTr_E {T tr B : Int → Int} {q : Int} (hq : 0 ≤ q ∧ q < 64) : ∀ k : Nat, k ≤ 4 → qTr T tr B q k 1866 = B 1866 + k
  | 0, _ => by show B 1866 = B 1866 + ((0 : Nat) : Int); omega
  | k + 1, hk => by
    have ih := qTr_E (T := T) (tr := tr) (B := B) hq k (by omega)
    show bookZ (qL T tr (qTr T tr B q k) k q) k 0 _ (-2) 1866 = _
    rw [bookZ_E (by omega) (by omega)]
    unfold qL
    rw [upZ_ne (by omega), upZ_ne (by omega), ih]
    omega
section XQ
variable {M : MemT} {c r : Nat} {R : Nat → Nat → Int32} {F : Nat → Int32} {S : Int → Int} {n : Nat} {T tr sl bu as B : Int → Int} {nt : Int} {a : Nat}
theorem c_wA15 (h : CSh M c r) (ha : a < 8) {k : Int} {v : Int32} (h0 : 0 ≤ k) (h1 : k < 4) : wI (WX M c R F S) (c + 10 + 10 + 5 * a + 1) (zi k) v = some (WX M c (up2 R (10 + 5 * a + 1) k.toNat v) F S) := x_wA15 (M := WF M (c + 60) F S) (wx_B (F := F) (S := S) h) ha h0 h1
theorem c_pB (h : CSh M c r) {k : Nat} {v : Int32} : pI (WX M c R F S) 1 (c + 10) k v = some (WX M c (up2 R 0 k v) F S) := x_pB (M := WF M (c + 60) F S) (wx_B (F := F) (S := S) h)
theorem c_quart1 (H : COk M c r R nt T tr sl bu as B) (hK : 0 ≤ B 1867 ∧ B 1867 ≤ 40) (hE : 0 ≤ B 1866 ∧ B 1866 ≤ 999900) (hQ : Q47 B) (hn : 10 < n) : ∃ R1 F1 S1, loopF (fun (s : MemT × Int32) => (fun (M3 : MemT) (v4 : Int32) => (gO M3 2 c 0).bind (fun j6 => (gI M3 6 j6 0).bind (fun v7 => (if v7 ≤ v4 then some (.inr (M3, v4)) else (gO M3 2 c 1).bind (fun j8 => (gI M3 1 j8 0).bind (fun v9 => (gO M3 2 c 0).bind (fun j10 => (gO M3 6 j10 3).bind (fun j11 => (aI M3 10 j11 v4).bind (fun v12 => chk M3 2 c (bd (g_X3_fractionByBasis n M3 c v4 v9 v12) (fun r13 M14 => (gO M14 2 c 1).bind (fun j15 => (gI M14 1 j15 0).bind (fun v16 => chk M14 2 c (bd (g_X3_ofQuarter n M14 c v4 v16) (fun r17 M18 => chk M18 5 r17 (bd (g_X6_backBy n M18 r17 r13) (fun r19 M20 => (gO M20 2 c 1).bind (fun j21 => chk M20 1 j21 (bd (g_X2_keepProvisional n M20 j21 v4 r13 r19) (fun r22 M23 => (gO M23 2 c 1).bind (fun j24 => chk M23 1 j24 (bd (g_X2_enter n M23 j24 v4 0 r19 ((-2))) (fun r25 M26 => some (.inl (M26, v4 + 1))))))))))))))))))))))))) s.1 s.2) n (WX M c R F S, 0) = some (WX M c R1 F1 S1, zi nt) ∧ RM (qTr T tr B (B 0) nt.toNat) R1 ∧ ∀ o, (o = 1 ∨ o = 2 ∨ 10 ≤ o) → R1 o = R o := by
  obtain ⟨h, hU, hRB, hnt, hT, htr, hB, hN, hAN⟩ := id H
  obtain ⟨n1, n2⟩ := id hN
  have key := loop_inv (step := fun (s : MemT × Int32) => (fun (M3 : MemT) (v4 : Int32) => (gO M3 2 c 0).bind (fun j6 => (gI M3 6 j6 0).bind (fun v7 => (if v7 ≤ v4 then some (.inr (M3, v4)) else (gO M3 2 c 1).bind (fun j8 => (gI M3 1 j8 0).bind (fun v9 => (gO M3 2 c 0).bind (fun j10 => (gO M3 6 j10 3).bind (fun j11 => (aI M3 10 j11 v4).bind (fun v12 => chk M3 2 c (bd (g_X3_fractionByBasis n M3 c v4 v9 v12) (fun r13 M14 => (gO M14 2 c 1).bind (fun j15 => (gI M14 1 j15 0).bind (fun v16 => chk M14 2 c (bd (g_X3_ofQuarter n M14 c v4 v16) (fun r17 M18 => chk M18 5 r17 (bd (g_X6_backBy n M18 r17 r13) (fun r19 M20 => (gO M20 2 c 1).bind (fun j21 => chk M20 1 j21 (bd (g_X2_keepProvisional n M20 j21 v4 r13 r19) (fun r22 M23 => (gO M23 2 c 1).bind (fun j24 => chk M23 1 j24 (bd (g_X2_enter n M23 j24 v4 0 r19 ((-2))) (fun r25 M26 => some (.inl (M26, v4 + 1))))))))))))))))))))))))) s.1 s.2) (fun k s => ∃ R1 F1 S1, s = (WX M c R1 F1 S1, zi (k : Int)) ∧ RM (qTr T tr B (B 0) k) R1 ∧ ∀ o, (o = 1 ∨ o = 2 ∨ 10 ≤ o) → R1 o = R o) (fun t => ∃ R1 F1 S1, t = (WX M c R1 F1 S1, zi nt) ∧ RM (qTr T tr B (B 0) nt.toNat) R1 ∧ ∀ o, (o = 1 ∨ o = 2 ∨ 10 ≤ o) → R1 o = R o) nt.toNat (fun k hk s hs => ?_) (fun s hs => ?_) n (by omega) (WX M c R F S, 0) ⟨R, F, S, rfl, hRB.1, fun o _ => rfl⟩
  · obtain ⟨t, ht, R1, F1, S1, rfl, m1, o1⟩ := key
    exact ⟨R1, F1, S1, ht, m1, o1⟩
  · obtain ⟨R1, F1, S1, rfl, m1, o1⟩ := hs
    have hkp := qTr_keep (T := T) (tr := tr) hN hK k (by omega)
    have hEk := qTr_E (T := T) (tr := tr) (B := B) hN k (by omega)
    have hBk := BS_q hkp hB
    have hAk := ANr_q hkp hN hAN
    have hRk := RBk_main hRB m1 hnt.2 (fun i hi => hkp.1 i (by omega)) o1 hQ
    have h00 : qTr T tr B (B 0) k 0 = B 0 := hkp.1 0 (by omega)
    have hN1 : BN (qTr T tr B (B 0) k) := by unfold BN; rw [h00]; exact hN
    have hk1 : 0 ≤ qL T tr (qTr T tr B (B 0) k) k (B 0) 1867 ∧ qL T tr (qTr T tr B (B 0) k) k (B 0) 1867 ≤ 40 := by
      unfold qL
      rw [upZ_ne (by omega), upZ_ne (by omega)]; exact hkp.2
    show ∃ s1, _ = some (Sum.inl s1) ∧ ∃ R1 F1 S1, s1 = (WX M c R1 F1 S1, zi ((k + 1 : Nat) : Int)) ∧ RM (bookZ (qL T tr (qTr T tr B (B 0) k) k (B 0)) k 0 (qV T tr (qTr T tr B (B 0) k) k (B 0)) (-2)) R1 ∧ _
    generalize qTr T tr B (B 0) k = Bk at hkp hEk hBk hAk hRk h00 hN1 hk1 m1
    have Hk : COk M c r R1 nt T tr sl bu as Bk := ⟨h, hU, hRk, hnt, hT, htr, hBk, hN1, hAk⟩
    have hb2 := (htr k (by omega) (by omega)).2.1
    obtain ⟨F2, S2, g2⟩ := c_byBasis (n := n) (F := F1) (S := S1) (t := (k : Int)) (q := B 0) (bs := tr (8 * k + 2)) Hk (by omega) (by omega) (by omega) n1 n2 hb2
    have hfr := provZ_rng (tr := tr) (t := (k : Int)) (q := B 0) (bs := tr (8 * k + 2)) hT htr hBk hAk (by omega) (by omega) n1 n2 (by omega)
    obtain ⟨F3, S3, g3, f3, s3⟩ := c_ofQuarter (n := n) (F := F2) (S := S2) (t := (k : Int)) (q := B 0) h hU hRk.2.1 m1 hBk hT (by omega) (by omega) (by omega) hnt.2 n1 n2
    have hso := sumsOk_q (t := (k : Int)) (q := B 0) hBk (by omega) (by omega) n1 n2
    have t1 := hT.2.1
    have t2 := hT.2.2
    have g4 := c_backBy (n := n) (R := R1) h f3 hT.1 (by omega) ⟨by omega, by omega⟩ (sumsOk_congr hso s3) (f := provZ T tr Bk k (B 0) (tr (8 * k + 2))) (by omega)
    rw [backZ_congr s3] at g4
    have eV : backZ (T 0) (T 1) (T 2 / 4) (qSum Bk k (B 0)) (provZ T tr Bk k (B 0) (tr (8 * k + 2))) = qV T tr Bk k (B 0) := rfl
    have eF : provZ T tr Bk k (B 0) (tr (8 * k + 2)) = qF T tr Bk k (B 0) := rfl
    rw [eV] at g4
    rw [eF] at g2 g4
    obtain ⟨R2, g5, m5, o5⟩ := x_keepProv (n := n) (f := qF T tr Bk k (B 0)) (v := qV T tr Bk k (B 0)) (wx_B (F := F3) (S := S3) h) m1 hN1 hkp.2.2 (t := (k : Int)) (by omega) (by omega)
    rw [h00] at m5
    have m5' : RM (qL T tr Bk k (B 0)) R2 := m5
    have hE5 : qL T tr Bk k (B 0) 1866 = Bk 1866 := by
      unfold qL
      rw [upZ_ne (by omega), upZ_ne (by omega)]
    have hN5 : BN (qL T tr Bk k (B 0)) := by
      unfold BN qL
      rw [upZ_ne (by omega), upZ_ne (by omega)]; exact hN1
    obtain ⟨R3, g7, m7, o7⟩ := c_enter (n := n) (F := F3) (S := S3) h m5' hN5 hk1 (by rw [hE5]; omega) (t := (k : Int)) (so := 0) (v := qV T tr Bk k (B 0)) (x := -2) (by omega) (by omega) (by omega) (by omega)
    refine ⟨_, ?_, R3, F3, S3, rfl, m7, fun o ho => ?_⟩
    · have g5' : g_X2_keepProvisional n (WX M c R1 F3 S3) (c + 10) (zi k) (zi (qF T tr Bk k (B 0))) (zi (qV T tr Bk k (B 0))) = some ((), WX M c R2 F3 S3) := g5
      have e2 : (-2 : Int32) = zi (-2) := by decide
      have e0 : R1 0 0 = zi (B 0) := m1.1.1.trans (congrArg zi h00)
      have ebs := (hU.2.1 (k : Int) (by omega) (by omega)).2.2.1
      dsimp only
      rw [c_o0 h, i_sb, c_gR h, i_sb, hU.1.1, if_neg (by rw [zi_le (by omega) (by omega) (by omega) (by omega)]; omega), c_o1 h, i_sb, c_now h, i_sb, e0, i_sb, c_r3 h, i_sb, c_a3 h (by omega) (by omega), i_sb, ebs, c_kC h, g2, i_bd, c_o1 h, i_sb, c_now h, i_sb, e0, c_kC h, g3, i_bd, c_kF h, g4, i_bd, c_o1 h, i_sb, c_kB h, g5', i_bd, c_o1 h, i_sb, c_kB h, e2]
      show bd (g_X2_enter n (WX M c R2 F3 S3) (c + 10) (zi k) (zi 0) _ _) _ = _
      rw [g7, i_bd]
      exact congrArg (fun x => some (Sum.inl (_, x))) (zi_add (k : Int) 1)
    · rw [o7 o (by omega) (by omega) (by omega), o5 o (by omega) (by omega), o1 o ho]
  · obtain ⟨R1, F1, S1, rfl, m1, o1⟩ := hs
    refine ⟨_, ?_, R1, F1, S1, rfl, m1, o1⟩
    dsimp only
    rw [c_o0 h, i_sb, c_gR h, i_sb, hU.1.1, Int.toNat_of_nonneg hnt.1, if_pos (Int32.le_refl _)]
theorem c_quart2 {B2 : Int → Int} (h : CSh M c r) (hRB : RBk T B2 nt R) (hnt : nt ≤ 4) (hN : BN B) (h00 : B2 0 = B 0) (hK : B2 1867 ≤ 40) (hA8 : 0 ≤ B2 1865 ∧ B2 1865 ≤ 8) (hQ : Q47 B2) (hn : 10 < n) : ∃ R1, loopF (fun (s : MemT × Int32) => (fun (M31 : MemT) (v32 : Int32) => (gO M31 2 c 1).bind (fun j34 => (gI M31 1 j34 1).bind (fun v35 => (if v35 ≤ v32 then some (.inr (M31, v32)) else (gO M31 2 c 1).bind (fun j36 => (gO M31 1 j36 5).bind (fun j37 => (aO M31 14 j37 v32).bind (fun j38 => (gO M31 0 j38 15).bind (fun j39 => (gO M31 2 c 1).bind (fun j40 => (gO M31 1 j40 5).bind (fun j41 => (aO M31 14 j41 v32).bind (fun j42 => (gI M31 0 j42 2).bind (fun v43 => (wI M31 j39 ((zi (B 0)) - (zi (B 0)) / 4 * 4) v43).bind (fun M44 => some (.inl (M44, v32 + 1))))))))))))))) s.1 s.2) n (WX M c R F S, 0) = some (WX M c R1 F S, zi (B2 1865)) ∧ RBk T (uT B2 (B 0) (B2 1865).toNat) nt R1 ∧ (∀ a : Nat, (a : Int) < B2 1865 → R1 (10 + 5 * a + 1) (B 0 % 4).toNat = zi (AtZ B2 a 2)) := by
  obtain ⟨n1, n2⟩ := id hN
  have hm : 0 ≤ B 0 % 4 ∧ B 0 % 4 < 4 := by omega
  have key := loop_inv (step := fun (s : MemT × Int32) => (fun (M31 : MemT) (v32 : Int32) => (gO M31 2 c 1).bind (fun j34 => (gI M31 1 j34 1).bind (fun v35 => (if v35 ≤ v32 then some (.inr (M31, v32)) else (gO M31 2 c 1).bind (fun j36 => (gO M31 1 j36 5).bind (fun j37 => (aO M31 14 j37 v32).bind (fun j38 => (gO M31 0 j38 15).bind (fun j39 => (gO M31 2 c 1).bind (fun j40 => (gO M31 1 j40 5).bind (fun j41 => (aO M31 14 j41 v32).bind (fun j42 => (gI M31 0 j42 2).bind (fun v43 => (wI M31 j39 ((zi (B 0)) - (zi (B 0)) / 4 * 4) v43).bind (fun M44 => some (.inl (M44, v32 + 1))))))))))))))) s.1 s.2) (fun k s => ∃ R1, s = (WX M c R1 F S, zi (k : Int)) ∧ RBk T (uT B2 (B 0) k) nt R1 ∧ (∀ a : Nat, a < k → R1 (10 + 5 * a + 1) (B 0 % 4).toNat = zi (AtZ B2 a 2))) (fun t => ∃ R1, t = (WX M c R1 F S, zi (B2 1865)) ∧ RBk T (uT B2 (B 0) (B2 1865).toNat) nt R1 ∧ (∀ a : Nat, (a : Int) < B2 1865 → R1 (10 + 5 * a + 1) (B 0 % 4).toNat = zi (AtZ B2 a 2))) (B2 1865).toNat (fun k hk s hs => ?_) (fun s hs => ?_) n (by omega) (WX M c R F S, 0) ⟨R, rfl, hRB, fun a ha => absurd ha (by omega)⟩
  · obtain ⟨t, ht, R1, rfl, q⟩ := key
    exact ⟨R1, ht, q⟩
  · obtain ⟨R1, rfl, m1, u1⟩ := hs
    have h65 : uT B2 (B 0) k 1865 = B2 1865 := uT_lo (by omega)
    have h0u : uT B2 (B 0) k 0 = B 0 := (uT_lo (by omega)).trans h00
    have hKu : uT B2 (B 0) k 1867 ≤ 40 := by rw [uT_lo (by omega)]; exact hK
    have hQu : Q47 (uT B2 (B 0) k) := fun a a0 a1 => by
      rw [h65] at a1
      rw [uT_as a0 (by omega) (by omega), if_neg (by omega)]
      exact hQ a a0 a1
    have h2u : AtZ (uT B2 (B 0) k) k 2 = AtZ B2 k 2 := by
      rw [uT_as (by omega) (by omega) (by omega), if_neg (by omega)]
    have g1 : R1 0 1 = zi (B2 1865) := m1.1.1.2.1.trans (congrArg zi h65)
    have rk := m1.2.2 k (by omega)
    have e2 : R1 (10 + 5 * k) 2 = zi (AtZ (uT B2 (B 0) k) k 2) := rk.1.2.2.1
    have e4 : zi (B 0) - zi (B 0) / 4 * 4 = zi (B 0 % 4) := zi_rem n1 (by omega) (m := 4) (by omega) (by omega)
    refine ⟨(WX M c (up2 R1 (10 + 5 * k + 1) (B 0 % 4).toNat (zi (AtZ (uT B2 (B 0) k) k 2))) F S, zi ((k + 1 : Nat) : Int)), ?_, _, rfl, ?_, fun a ha => ?_⟩
    · dsimp only
      rw [c_o1 h, i_sb, c_now h, i_sb, g1, if_neg (by rw [zi_le (by omega) (by omega) (by omega) (by omega)]; omega), i_sb, c_o5 h, i_sb, c_oA h (by omega), i_sb, c_oA15 h (by omega), i_sb, i_sb, c_o5 h, i_sb, c_oA h (by omega), i_sb, c_gA h (by omega), i_sb, e2, e4, c_wA15 h (by omega) hm.1 hm.2, i_sb]
      exact congrArg (fun x => some (Sum.inl (_, x))) (zi_add (k : Int) 1)
    · show RBk T (upZ (uT B2 (B 0) k) (2084 + 48 * k + (13 + B 0 % 4)) (AtZ (uT B2 (B 0) k) k 2)) nt _
      generalize uT B2 (B 0) k = Bu at *
      have hlo : ∀ i : Int, i < 2084 → upZ Bu (2084 + 48 * k + (13 + B 0 % 4)) (AtZ Bu k 2) i = Bu i := fun i hi => upZ_ne (by omega)
      have hro : ∀ o, o ≠ 10 + 5 * k + 1 → up2 R1 (10 + 5 * k + 1) (B 0 % 4).toNat (zi (AtZ Bu k 2)) o = R1 o := fun o ho => by funext j; exact up2_o ho
      refine ⟨RM_eq m1.1 hlo hKu (fun o ho => hro o (by omega)), fun t t0 t1 => ?_, fun a a1 => ?_⟩
      · rw [hlo _ (by omega), hlo _ (by omega), hro 1 (by omega), hro 2 (by omega)]
        exact m1.2.1 t t0 t1
      · rw [hlo _ (by omega)] at a1
        by_cases q : a = k
        · subst q
          have hq47 := hQu a (by omega) a1
          refine RA_of (RAn_eq2 (RAn_of rk) (fun j j0 j1 j2 => ?_) hq47 (fun o ho => hro o (by omega))) (fun u j j0 j1 => ?_)
          · rw [AtZ_up, if_neg (by omega)]
          · rw [hlo 0 (by omega), h0u] at j1
            rw [AtZ_up, if_neg (by omega)] at u
            rw [AtZ_up, if_neg (by omega), up2_k (by omega)]
            exact rk.2.2.1 u j j0 (by rw [h0u]; exact j1)
        · refine RA_eq (m1.2.2 a a1) (fun j j0 j1 => ?_) (hQu a (by omega) a1) (by rw [hlo 0 (by omega)]) (fun o o0 o1 => hro o (by omega))
          exact AtZ_oth (by omega) (by omega) (by omega)
    · by_cases q : a = k
      · subst q
        rw [up2_at, h2u]
      · rw [up2_o (by omega)]
        exact u1 a (by omega)
  · obtain ⟨R1, rfl, m1, u1⟩ := hs
    have h65 : uT B2 (B 0) (B2 1865).toNat 1865 = B2 1865 := uT_lo (by omega)
    have g1 : R1 0 1 = zi (B2 1865) := m1.1.1.2.1.trans (congrArg zi h65)
    refine ⟨_, ?_, R1, rfl, m1, fun a a1 => u1 a (by omega)⟩
    dsimp only
    rw [c_o1 h, i_sb, c_now h, i_sb, g1, Int.toNat_of_nonneg hA8.1, if_pos (Int32.le_refl _)]
theorem c_endYear (H : COk M c r R nt T tr sl bu as B) (hK : 0 ≤ B 1867 ∧ B 1867 ≤ 40) (hE : 0 ≤ B 1866 ∧ B 1866 ≤ 999000) (hA8 : 0 ≤ B 1865 ∧ B 1865 ≤ 8) (hA : allA B) (hX : ∀ a : Int, 0 ≤ a → a < B 1865 → AX2 B a ∧ AtZ B a 0 < nt) (hn : 10 < n) : ∃ R1 F1 S1, g_X3_endYear n (WX M c R F S) c = some ((), WX M c R1 F1 S1) ∧ RM (yrZ T tr B nt) R1 ∧ (∀ a : Nat, (a : Int) < B 1865 → RAn T (yrZ T tr B nt) R1 a) ∧ R1 1 = R 1 ∧ R1 2 = R 2 := by
  obtain ⟨h, hU, hRB, hnt, hT, htr, hB, hN, hAN⟩ := id H
  obtain ⟨n1, n2⟩ := id hN
  have hy : 0 ≤ yearZ B ∧ yearZ B < 16 := by unfold yearZ; omega
  have hQ : Q47 B := fun a a0 a1 => (hA a a0 a1).1.2.2.2.2.2.2.2.2.2.2.2.2.2
  obtain ⟨R1, F1, S1, g1, m1, o1⟩ := c_year1 (n := n) (F := F) (S := S) H hK (by omega) hQ hn
  have hkp := yT_keep (T := T) (tr := tr) hy hK nt.toNat (by omega)
  have hEk := yT_E (T := T) (tr := tr) (B := B) hy nt.toNat (by omega)
  have hRk := RBk_main hRB m1 hnt.2 (fun i hi => hkp.1 i (by omega)) o1 hQ
  have hN1 : BN (yT T tr B (yearZ B) nt.toNat) := by unfold BN; rw [hkp.1 0 (by omega)]; exact hN
  have h65 : yT T tr B (yearZ B) nt.toNat 1865 = B 1865 := hkp.1 1865 (by omega)
  have hy1 : yearZ (yT T tr B (yearZ B) nt.toNat) = yearZ B := congrArg (· / 4) (hkp.1 0 (by omega))
  have hX1 : ∀ a : Int, 0 ≤ a → a < yT T tr B (yearZ B) nt.toNat 1865 → AX2 (yT T tr B (yearZ B) nt.toNat) a ∧ AtZ (yT T tr B (yearZ B) nt.toNat) a 0 < nt := fun a a0 a1 => by
    rw [h65] at a1
    have hat : ∀ j : Int, 0 ≤ j → j < 48 → AtZ (yT T tr B (yearZ B) nt.toNat) a j = AtZ B a j := fun j j0 j1 => hkp.1 _ (by omega)
    unfold AX2
    rw [hy1, hat 9 (by omega) (by omega), hat 47 (by omega) (by omega), hat 5 (by omega) (by omega), hat 27 (by omega) (by omega), hat 0 (by omega) (by omega)]
    exact hX a a0 a1
  obtain ⟨R2, g2, m2, n2', o2, o2'⟩ := c_year2 (n := n) (tr := tr) (F := F1) (S := S1) h hU hRk hT (BS_keep hkp hB) hN1 hkp.2 (by omega) (by rw [h65]; exact hA8) (allA_keep hkp hA8.1 hA) hX1 (fun t t0 t1 => by
    have e := yT_ann (T := T) (tr := tr) hN hK (t := t.toNat) nt.toNat (by omega) (by omega)
    rw [Int.toNat_of_nonneg t0] at e
    have e2 := annZ_keep (T := T) (tr := tr) (B := B) (B1 := yT T tr B (yearZ B) nt.toNat) (t := t) (hkp.1 0 (by omega)) (fun i i0 i1 => hkp.1 i (by omega)) hN t0 (by omega)
    rw [e2, hy1]
    exact e) hn
  rw [hy1, h65] at g2 m2
  rw [hy1, h65] at n2'
  refine ⟨R2, F1, S1, ?_, m2, n2', o2.trans (o1 1 (by omega)), o2'.trans (o1 2 (by omega))⟩
  unfold g_X3_endYear
  dsimp only at g1 g2
  rw [c_kC h, c_thisYear h hRB.1 hN, i_bd, g1, i_sb]
  dsimp only
  rw [g2, i_sb]
theorem c_endQuarter (H : COk M c r R nt T tr sl bu as B) (hRows : RowsOk T sl bu as) (hN63 : B 0 < 63) (hK : 0 ≤ B 1867 ∧ B 1867 ≤ 40) (hE : 0 ≤ B 1866 ∧ B 1866 ≤ 990000) (hA8 : 0 ≤ B 1865 ∧ B 1865 ≤ 8) (hA : allA B) (hX : ∀ a : Int, 0 ≤ a → a < B 1865 → AX2 B a ∧ AtZ B a 0 < nt) (hn : 30 < n) : ∃ R1 F1 S1, g_X3_endQuarter n (WX M c R F S) c = some ((), WX M c R1 F1 S1) ∧ RBk T (clqZ T tr sl bu as B nt) nt R1 := by
  obtain ⟨h, hU, hRB, hnt, hT, htr, hB, hN, hAN⟩ := id H
  obtain ⟨n1, n2⟩ := id hN
  have hm : 0 ≤ B 0 % 4 ∧ B 0 % 4 < 4 := by omega
  have hQ : Q47 B := fun a a0 a1 => (hA a a0 a1).1.2.2.2.2.2.2.2.2.2.2.2.2.2
  obtain ⟨R1, F1, S1, g1, m1, o1⟩ := c_quart1 (n := n) (F := F) (S := S) H hK (by omega) hQ (by omega)
  have hkp := qTr_keep (T := T) (tr := tr) hN hK nt.toNat (by omega)
  have hEk := qTr_E (T := T) (tr := tr) (B := B) hN nt.toNat (by omega)
  have hRk := RBk_main hRB m1 hnt.2 (fun i hi => hkp.1 i (by omega)) o1 hQ
  have q65 : qTr T tr B (B 0) nt.toNat 1865 = B 1865 := hkp.1 1865 (by omega)
  have hQ2 : Q47 (qTr T tr B (B 0) nt.toNat) := fun a a0 a1 => by
    rw [q65] at a1
    have : AtZ (qTr T tr B (B 0) nt.toNat) a 47 = AtZ B a 47 := hkp.1 _ (by omega)
    rw [this]
    exact hQ a a0 a1
  obtain ⟨R2, g2, m2, u2⟩ := c_quart2 (n := n) (B := B) (F := F1) (S := S1) h hRk hnt.2 hN (hkp.1 0 (by omega)) hkp.2.2 (by rw [q65]; exact hA8) hQ2 (by omega)
  rw [q65] at g2 m2 u2
  have hc1 : uT (qTr T tr B (B 0) nt.toNat) (B 0) (B 1865).toNat = clq1 T tr B nt := rfl
  rw [hc1] at m2
  have f0 : clq1 T tr B nt 0 = B 0 := clq1_lo hnt hN hK (by omega)
  have f65 : clq1 T tr B nt 1865 = B 1865 := clq1_lo hnt hN hK (by omega)
  have fE : clq1 T tr B nt 1866 = B 1866 + nt := by
    unfold clq1
    rw [uT_lo (by omega), hEk]; omega
  have hNl : BN (clq1 T tr B nt) := by unfold BN; rw [f0]; exact hN
  have hKl := clq1_K (T := T) (tr := tr) hnt hN hK
  have hBl := clq1_BS (T := T) (tr := tr) hnt hN hK hB
  have hAl := clq1_A (T := T) (tr := tr) hnt hN hK hA
  have hyl : yearZ (clq1 T tr B nt) = yearZ B := congrArg (· / 4) f0
  have hAN1 : ANr T (clq1 T tr B nt) := fun t y t0 t1 y0 y1 => by
    rw [hyl] at y1
    have : yearZ B < 16 := by unfold yearZ; omega
    rw [clq1_lo hnt hN hK (by omega)]
    exact hAN t y t0 t1 y0 y1
  have hQl : Q47 (clq1 T tr B nt) := fun a a0 a1 => (hAl a a0 a1).1.2.2.2.2.2.2.2.2.2.2.2.2.2
  have hat : ∀ a : Int, 0 ≤ a → a < B 1865 → ∀ j : Int, 0 ≤ j → j < 48 → AtZ (clq1 T tr B nt) a j = if j = 13 + B 0 % 4 then AtZ B a 2 else AtZ B a j := fun a a0 a1 j j0 j1 => clq1_at hnt hN hK a0 a1 j0 j1
  -- the last step, from a memory and a bank
  have fin : ∀ (R4 : Nat → Nat → Int32) (F4 : Nat → Int32) (S4 B4 : Int → Int), B4 0 = B 0 → B4 1865 = B 1865 → B4 1867 ≤ 40 → Q47 B4 → RM B4 R4 → RH B4 nt R4 → (∀ a : Nat, (a : Int) < B 1865 → RAn T B4 R4 a ∧ (0 < AtZ B4 a 47 → ∀ j : Int, 0 ≤ j → j < (B 0 + 1) % 4 → R4 (10 + 5 * a + 1) j.toNat = zi (AtZ B4 a (13 + j)))) → ∃ R5, (gO (WX M c R4 F4 S4) 2 c 1).bind (fun j49 => (gI (WX M c R4 F4 S4) 1 j49 0).bind (fun v50 => (pI (WX M c R4 F4 S4) 1 j49 0 (v50 + 1)).bind (fun M51 => chk M51 2 c (bd (g_X3_bringTold n M51 c) (fun r52 M53 => some ((), M53)))))) = some ((), WX M c R5 F4 S4) ∧ RBk T (comZ T sl bu as (upZ B4 0 (B 0 + 1))) nt R5 := by
    intro R4 F4 S4 B4 b0 b65 b67 bQ bm bh ba
    have hlo : ∀ i : Int, i ≠ 0 → upZ B4 0 (B 0 + 1) i = B4 i := fun i hi => upZ_ne hi
    have hro : ∀ o, o ≠ 0 → up2 R4 0 0 (zi (B 0 + 1)) o = R4 o := fun o ho => by funext j; exact up2_o ho
    have hb5 : RBk T (upZ B4 0 (B 0 + 1)) nt (up2 R4 0 0 (zi (B 0 + 1))) := by
      refine ⟨RM_now bm b67, fun t t0 t1 => ?_, fun a a1 => ?_⟩
      · rw [hlo _ (by omega), hlo _ (by omega), hro 1 (by omega), hro 2 (by omega)]
        exact bh t t0 t1
      · rw [hlo _ (by omega), b65] at a1
        obtain ⟨ra, ru⟩ := ba a a1
        refine RA_of (RAn_eq ra (fun j j0 j1 => hlo _ (by omega)) (bQ a (by omega) (by omega)) (fun o o0 o1 => hro o (by omega))) (fun u j j0 j1 => ?_)
        rw [upZ_self] at j1
        have e47 : AtZ (upZ B4 0 (B 0 + 1)) a 47 = AtZ B4 a 47 := hlo _ (by omega)
        have e13 : AtZ (upZ B4 0 (B 0 + 1)) a (13 + j) = AtZ B4 a (13 + j) := hlo _ (by omega)
        rw [e47] at u
        rw [e13, hro _ (by omega)]
        exact ru u j j0 j1
    obtain ⟨R5, g5, m5⟩ := c_bringTold (n := n) (F := F4) (S := S4) h hU hRows hb5 hnt.2 (by unfold BN; rw [upZ_self]; omega) (by rw [hlo _ (by omega)]; exact b67) (by rw [hlo _ (by omega), b65]; exact hA8) (fun a a0 a1 => by
      rw [hlo _ (by omega), b65] at a1
      have e47 : AtZ (upZ B4 0 (B 0 + 1)) a 47 = AtZ B4 a 47 := hlo _ (by omega)
      rw [e47]
      exact bQ a a0 (by omega)) hn
    refine ⟨R5, ?_, m5⟩
    have e0 : R4 0 0 = zi (B 0) := bm.1.1.trans (congrArg zi b0)
    rw [c_o1 h, i_sb, c_now h, i_sb, e0, show zi (B 0) + 1 = zi (B 0 + 1) from zi_add _ 1, c_pB h, i_sb, c_kC h, g5, i_bd]
  have e4 : zi (B 0) - zi (B 0) / 4 * 4 = zi (B 0 % 4) := zi_rem n1 (by omega) (m := 4) (by omega) (by omega)
  have e3 : (zi (B 0 % 4) = 3) = (B 0 % 4 = 3) := zi_eq (b := 3) (by omega) (by omega) (by omega) (by omega)
  have l63 : zi (B 0) < 63 := by
    show zi _ < zi 63
    rw [zi_lt (by omega) (by omega) (by omega) (by omega)]; exact hN63
  have e2 : R1 0 0 = zi (B 0) := m1.1.1.trans (congrArg zi (hkp.1 0 (by omega)))
  unfold clqZ clq2
  dsimp only at g1 g2
  by_cases c3 : B 0 % 4 = 3
  · have Hl : COk M c r R2 nt T tr sl bu as (clq1 T tr B nt) := ⟨h, hU, m2, hnt, hT, htr, hBl, hNl, hAN1⟩
    have hXl : ∀ a : Int, 0 ≤ a → a < clq1 T tr B nt 1865 → AX2 (clq1 T tr B nt) a ∧ AtZ (clq1 T tr B nt) a 0 < nt := fun a a0 a1 => by
      rw [f65] at a1
      unfold AX2
      rw [hyl, hat a a0 a1 9 (by omega) (by omega), hat a a0 a1 47 (by omega) (by omega), hat a a0 a1 5 (by omega) (by omega), hat a a0 a1 27 (by omega) (by omega), hat a a0 a1 0 (by omega) (by omega), if_neg (by omega), if_neg (by omega), if_neg (by omega), if_neg (by omega), if_neg (by omega)]
      exact hX a a0 a1
    obtain ⟨R3, F3, S3, g3, m3, n3, o3, o3'⟩ := c_endYear (n := n) (F := F1) (S := S1) Hl hKl (by omega) (by rw [f65]; exact hA8) hAl hXl (by omega)
    rw [f65] at n3
    have yl : ∀ i : Int, i < 1801 ∨ i = 1865 → yrZ T tr (clq1 T tr B nt) nt i = clq1 T tr B nt i := fun i hi => yrZ_lo hT hnt hBl hNl hKl (by rw [f65]; exact hA8) hAl hi
    have hyl2 : 0 ≤ yearZ (clq1 T tr B nt) ∧ yearZ (clq1 T tr B nt) < 16 := by rw [hyl]; unfold yearZ; omega
    have hkp2 := yT_keep (T := T) (tr := tr) (B := clq1 T tr B nt) hyl2 hKl nt.toNat (by omega)
    have hJ := yA_J (T := T) (tr := tr) hT (BS_keep hkp2 hBl) (by unfold BN; rw [hkp2.1 0 (by omega)]; exact hNl) hkp2.2 (by rw [hkp2.1 1865 (by omega), f65]; exact hA8.2) (allA_keep hkp2 (by rw [f65]; exact hA8.1) hAl) (clq1 T tr B nt 1865).toNat (by rw [hkp2.1 1865 (by omega), f65]; omega)
    rw [show yearZ (yT T tr (clq1 T tr B nt) (yearZ (clq1 T tr B nt)) nt.toNat) = yearZ (clq1 T tr B nt) from congrArg (· / 4) (hkp2.1 0 (by omega))] at hJ
    have hJ' : yJ (yT T tr (clq1 T tr B nt) (yearZ (clq1 T tr B nt)) nt.toNat) (yrZ T tr (clq1 T tr B nt) nt) (clq1 T tr B nt 1865).toNat := hJ
    obtain ⟨R5, g5, m5⟩ := fin R3 F3 S3 (yrZ T tr (clq1 T tr B nt) nt) ((yl 0 (by omega)).trans f0) ((yl 1865 (by omega)).trans f65) hJ'.2.1.2 (fun a a0 a1 => by
      rw [yl 1865 (by omega), f65] at a1
      exact (hJ'.2.2.1 a a0 (by rw [hkp2.1 1865 (by omega), f65]; exact a1)).2.2.2.2.2.2.2.2.2.2.2.2.2) m3 (fun t t0 t1 => by
      rw [yl _ (by omega), yl _ (by omega), o3, o3']
      exact m2.2.1 t t0 t1) (fun a a1 => ⟨n3 a a1, fun _ j j0 j1 => absurd j1 (by omega)⟩)
    refine ⟨R5, F3, S3, ?_, by rw [if_pos c3]; exact m5⟩
    unfold g_X3_endQuarter
    rw [c_o1 h, i_sb, c_now h, i_sb, hRB.1.1.1, if_pos l63, g1, i_sb]
    dsimp only
    rw [c_o1 h, i_sb, c_now h, i_sb, e2, if_neg (by decide), g2, i_sb]
    dsimp only
    simp only [i_jp]
    rw [e4, if_pos (by rw [e3]; exact c3), c_kC h, g3, i_bd]
    exact g5
  · obtain ⟨R5, g5, m5⟩ := fin R2 F1 S1 (clq1 T tr B nt) f0 f65 hKl.2 hQl m2.1 m2.2.1 (fun a a1 => by
      have ra := m2.2.2 a (by rw [f65]; exact a1)
      refine ⟨RAn_of ra, fun u j j0 j1 => ?_⟩
      by_cases q : j = B 0 % 4
      · subst q
        rw [u2 a a1, hat a (by omega) a1 _ (by omega) (by omega), if_pos rfl]
        exact congrArg zi (hkp.1 _ (by omega))
      · exact ra.2.2.1 u j j0 (by rw [f0]; omega))
    refine ⟨R5, F1, S1, ?_, by rw [if_neg c3]; exact m5⟩
    unfold g_X3_endQuarter
    rw [c_o1 h, i_sb, c_now h, i_sb, hRB.1.1.1, if_pos l63, g1, i_sb]
    dsimp only
    rw [c_o1 h, i_sb, c_now h, i_sb, e2, if_neg (by decide), g2, i_sb]
    dsimp only
    simp only [i_jp]
    rw [e4, if_neg (by rw [e3]; exact c3)]
    exact g5
end XQ
