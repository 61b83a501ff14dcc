/-! ===== PURE 34: a year's end, the component's side ===== -/
theorem bookZ_E {B : Int → Int} {t so v x : Int} (t0 : 0 ≤ t) (s0 : 0 ≤ so) : bookZ B t so v x 1866 = B 1866 + 1 := by
  unfold bookZ
  dsimp only
  rw [if_neg (by omega), if_pos rfl]
theorem bookFor_E {B : Int → Int} {a so v : Int} (ha : 0 ≤ a) (t0 : 0 ≤ AtZ B a 0) (s0 : 0 ≤ so) : bookFor B a so v 1866 = B 1866 + 1 := by
  unfold bookFor
  rw [bookZ_E t0 s0, upZ_ne (by omega)]
theorem clsZ_E {T tr B : Int → Int} {a y : Int} (ha : 0 ≤ a) (hA : AO B a) (hK : 0 ≤ B 1867 ∧ B 1867 ≤ 40) (hT : told3 T) (hw : 0 ≤ worthZ T tr B a (AtZ B a 2) ∧ worthZ T tr B a (AtZ B a 2) ≤ T 1) (hi : AtZ B a 9 ≠ 1 → 0 ≤ y - AtZ B a 5 / 4 ∧ y - AtZ B a 5 / 4 ≤ 9) : B 1866 ≤ clsZ T tr B a y 1866 ∧ clsZ T tr B a y 1866 ≤ B 1866 + 2 := by
  have t1 := hT.2.1
  unfold clsZ
  split
  · omega
  · next c9 =>
    have hi2 := hi c9
    generalize worthZ T tr B a (AtZ B a 2) = w at hw
    generalize y - AtZ B a 5 / 4 = i at hi2
    have hA3 : AO (clsB B a i w) a := AO_clsB ha hA hi2
    have hk3 : aKeep a B (clsB B a i w) := by
      unfold clsB
      exact aKeep_up ha (aKeep_up ha (aKeep_up ha (aKeep_rf hK) (by omega)) (by omega)) (by omega)
    have e3 : clsB B a i w 1866 = B 1866 := by
      unfold clsB
      rw [upZ_ne (by omega), upZ_ne (by omega), upZ_ne (by omega)]
    generalize clsB B a i w = B3 at hA3 hk3 e3
    have h4 : aKeep a B (clsC T B3 a i w) ∧ AO (clsC T B3 a i w) a ∧ B 1866 ≤ clsC T B3 a i w 1866 ∧ clsC T B3 a i w 1866 ≤ B 1866 + 1 := by
      unfold clsC
      split
      · refine ⟨aKeep_up ha (aKeep_up ha hk3 (by omega)) (by omega), AO_set (AO_set hA3 ha (by omega) (by unfold okV; omega)) ha (by omega) (by unfold okV; omega), ?_⟩
        rw [upZ_ne (by omega), upZ_ne (by omega), e3]; omega
      · generalize adjZ T B3 a w (AtZ B3 a 6) = v
        have hA7 : AO (upZ B3 (2084 + 48 * a + (27 + i)) v) a := AO_set hA3 ha (by omega) (by unfold okV; omega)
        have hk7 : aKeep a B (upZ B3 (2084 + 48 * a + (27 + i)) v) := aKeep_up ha hk3 (by omega)
        refine ⟨aKeep_bookFor ha hk7 hA7.1 (by omega) (by omega), AO_bookFor ha hA7 (by omega) (by omega) hk7.2, ?_⟩
        rw [bookFor_E ha hA7.1.1 (by omega), upZ_ne (by omega), e3]; omega
    generalize clsC T B3 a i w = B4 at h4
    obtain ⟨k4, a4, e4, e4'⟩ := h4
    unfold clsF
    generalize AtZ B4 a 4 - 1 - i = d
    generalize AtZ B4 a 7 - 1 = k
    have h5 : B 1866 ≤ clsD T B4 a d k 1866 ∧ clsD T B4 a d k 1866 ≤ B 1866 + 2 := by
      unfold clsD
      split
      · generalize capZ B4 a (lastZ T B4 a d k (AtZ B4 a 6)) = v
        have hA1 : AO (upZ B4 (2084 + 48 * a + 11) 1) a := AO_set a4 ha (by omega) (by unfold okV; omega)
        have hA2 : AO (upZ (upZ B4 (2084 + 48 * a + 11) 1) (2084 + 48 * a + 12) v) a := AO_set hA1 ha (by omega) (by unfold okV; omega)
        rw [bookFor_E ha hA2.1.1 (by omega), upZ_ne (by omega), upZ_ne (by omega)]; omega
      · omega
    generalize clsD T B4 a d k = B5 at h5
    unfold clsE
    rw [upZ_ne (by omega)]
    unfold clsE1
    split
    · rw [upZ_ne (by omega)]; exact h5
    · exact h5
theorem yT_E {T tr B : Int → Int} {y : Int} (hy : 0 ≤ y ∧ y < 16) : ∀ k : Nat, k ≤ 4 → yT T tr B y k 1866 = B 1866 + k
  | 0, _ => by show B 1866 = B 1866 + ((0 : Nat) : Int); omega
  | k + 1, hk => by
    have ih := yT_E (T := T) (tr := tr) (B := B) hy k (by omega)
    show bookZ _ k 1 _ (-2) 1866 = _
    rw [bookZ_E (by omega) (by omega), upZ_ne (by omega), ih]
    omega
theorem ySum_keep {B B1 : Int → Int} {t y w : Int} (h : ∀ i : Int, 1 ≤ i → i < 1281 → B1 i = B i) (t0 : 0 ≤ t) (t1 : t < 4) (y0 : 0 ≤ y) (y1 : y < 16) (w0 : 0 ≤ w) (w1 : w < 5) : ySum B1 t y w = ySum B t y w := by
  unfold ySum
  rw [h _ (by omega) (by omega), h _ (by omega) (by omega), h _ (by omega) (by omega), h _ (by omega) (by omega)]
theorem annZ_now {T tr B : Int → Int} {t : Int} : annZ T tr B t (yearZ B) = frZ T tr t (ySum B t (yearZ B)) (B (1281 + 2 * t)) (B (1282 + 2 * t)) := by
  unfold annZ
  rw [if_neg (by omega)]
theorem annZ_keep {T tr B B1 : Int → Int} {t : Int} (h0 : B1 0 = B 0) (h : ∀ i : Int, 1 ≤ i → i < 1289 → B1 i = B i) (hN : BN B) (t0 : 0 ≤ t) (t1 : t < 4) : annZ T tr B1 t (yearZ B1) = annZ T tr B t (yearZ B) := by
  have hy : yearZ B1 = yearZ B := congrArg (· / 4) h0
  have hyr : 0 ≤ yearZ B ∧ yearZ B < 16 := by unfold yearZ; obtain ⟨n1, n2⟩ := hN; omega
  rw [annZ_now, annZ_now, hy, h _ (by omega) (by omega), h _ (by omega) (by omega)]
  exact frZ_congr (fun w w0 w1 => ySum_keep (fun i i0 i1 => h i i0 (by omega)) t0 t1 hyr.1 hyr.2 w0 w1)
theorem yT_ann {T tr B : Int → Int} (hN : BN B) (hK : 0 ≤ B 1867 ∧ B 1867 ≤ 40) {t : Nat} : ∀ k : Nat, k ≤ 4 → t < k → yT T tr B (yearZ B) k (1801 + 16 * t + yearZ B) = annZ T tr B t (yearZ B)
  | 0, _, h => absurd h (by omega)
  | k + 1, hk, h => by
    obtain ⟨n1, n2⟩ := id hN
    have hy : 0 ≤ yearZ B ∧ yearZ B < 16 := by unfold yearZ; omega
    have hkp := yT_keep (T := T) (tr := tr) hy hK k (by omega)
    show bookZ (upZ (yT T tr B (yearZ B) k) (1801 + 16 * k + yearZ B) (frZ T tr k (ySum (yT T tr B (yearZ B) k) k (yearZ B)) (yT T tr B (yearZ B) k (1281 + 2 * k)) (yT T tr B (yearZ B) k (1282 + 2 * k)))) k 1 _ (-2) (1801 + 16 * t + yearZ B) = _
    rw [book_lo (by omega) (by omega) (by omega)]
    by_cases c : t = k
    · subst c
      rw [upZ_self, annZ_now, hkp.1 _ (by omega), hkp.1 _ (by omega)]
      exact frZ_congr (fun w w0 w1 => ySum_keep (fun i i0 i1 => hkp.1 i (by omega)) (by omega) (by omega) hy.1 hy.2 w0 w1)
    · rw [upZ_ne (by omega)]
      exact yT_ann hN hK k (by omega) (by omega)
theorem RBk_main {T B B1 : Int → Int} {nt : Int} {R R1 : Nat → Nat → Int32} (h : RBk T B nt R) (hm : RM B1 R1) (hnt : nt ≤ 4) (hb : ∀ i : Int, (i = 0 ∨ (1281 ≤ i ∧ i < 1289) ∨ i = 1865 ∨ 2084 ≤ i) → B1 i = B i) (hr : ∀ o, (o = 1 ∨ o = 2 ∨ 10 ≤ o) → R1 o = R o) (hQ : Q47 B) : RBk T B1 nt R1 := by
  refine ⟨hm, fun t t0 t1 => ?_, fun a a1 => ?_⟩
  · rw [hr 1 (by omega), hr 2 (by omega), hb _ (by omega), hb _ (by omega)]
    exact h.2.1 t t0 t1
  · rw [hb _ (by omega)] at a1
    exact RA_eq (h.2.2 a a1) (fun j j0 j1 => hb _ (by omega)) (hQ a (by omega) a1) (by rw [hb 0 (by omega)]) (fun o o0 o1 => hr o (by omega))
section XYEAR
variable {M : MemT} {c r : Nat} {R : Nat → Nat → Int32} {F : Nat → Int32} {S : Int → Int} {n : Nat} {T tr sl bu as B : Int → Int} {nt : Int} {a : Nat}
theorem c_year1 (H : COk M c r R nt T tr sl bu as B) (hK : 0 ≤ B 1867 ∧ B 1867 ≤ 40) (hE : 0 ≤ B 1866 ∧ B 1866 ≤ 999900) (hQ : Q47 B) (hn : 10 < n) : ∃ R1 F1 S1, loopF (fun (s : MemT × Int32) => (fun (M3 : MemT) (v4 : Int32) => (gO M3 2 c 0).bind (fun j6 => (gI M3 6 j6 0).bind (fun v7 => (if v7 ≤ v4 then some (.inr (M3, v4)) else chk M3 2 c (bd (g_X3_ofYear n M3 c v4 (zi (yearZ B))) (fun r8 M9 => chk M9 5 r8 (bd (g_X6_fraction n M9 r8) (fun r10 M11 => chk M11 5 r8 (bd (g_X6_backBy n M11 r8 r10) (fun r12 M13 => (gO M13 2 c 1).bind (fun j14 => chk M13 1 j14 (bd (g_X2_keepAnnual n M13 j14 v4 (zi (yearZ B)) r10) (fun r15 M16 => (gO M16 2 c 1).bind (fun j17 => (gO M16 2 c 1).bind (fun j18 => chk M16 1 j18 (bd (g_X2_recoveredInYear n M16 j18 v4 (zi (yearZ B))) (fun r19 M20 => chk M20 1 j17 (bd (g_X2_enter n M20 j17 v4 1 (r12 - r19) ((-2))) (fun r21 M22 => some (.inl (M22, v4 + 1))))))))))))))))))))) s.1 s.2) n (WX M c R F S, 0) = some (WX M c R1 F1 S1, zi nt) ∧ RM (yT T tr B (yearZ B) nt.toNat) R1 ∧ ∀ o, (o = 1 ∨ o = 2 ∨ 10 ≤ o) → R1 o = R o := by
  obtain ⟨h, hU, hRB, hnt, hT, htr, hB, hN, hAN⟩ := id H
  obtain ⟨n1, n2⟩ := id hN
  have hy : 0 ≤ yearZ B ∧ yearZ B < 16 := by unfold yearZ; omega
  have key := loop_inv (step := fun (s : MemT × Int32) => (fun (M3 : MemT) (v4 : Int32) => (gO M3 2 c 0).bind (fun j6 => (gI M3 6 j6 0).bind (fun v7 => (if v7 ≤ v4 then some (.inr (M3, v4)) else chk M3 2 c (bd (g_X3_ofYear n M3 c v4 (zi (yearZ B))) (fun r8 M9 => chk M9 5 r8 (bd (g_X6_fraction n M9 r8) (fun r10 M11 => chk M11 5 r8 (bd (g_X6_backBy n M11 r8 r10) (fun r12 M13 => (gO M13 2 c 1).bind (fun j14 => chk M13 1 j14 (bd (g_X2_keepAnnual n M13 j14 v4 (zi (yearZ B)) r10) (fun r15 M16 => (gO M16 2 c 1).bind (fun j17 => (gO M16 2 c 1).bind (fun j18 => chk M16 1 j18 (bd (g_X2_recoveredInYear n M16 j18 v4 (zi (yearZ B))) (fun r19 M20 => chk M20 1 j17 (bd (g_X2_enter n M20 j17 v4 1 (r12 - r19) ((-2))) (fun r21 M22 => some (.inl (M22, v4 + 1))))))))))))))))))))) s.1 s.2) (fun k s => ∃ R1 F1 S1, s = (WX M c R1 F1 S1, zi (k : Int)) ∧ RM (yT T tr B (yearZ B) k) R1 ∧ ∀ o, (o = 1 ∨ o = 2 ∨ 10 ≤ o) → R1 o = R o) (fun t => ∃ R1 F1 S1, t = (WX M c R1 F1 S1, zi nt) ∧ RM (yT T tr B (yearZ B) nt.toNat) R1 ∧ ∀ o, (o = 1 ∨ o = 2 ∨ 10 ≤ o) → R1 o = R o) nt.toNat (fun k hk s hs => ?_) (fun s hs => ?_) n (by omega) (WX M c R F S, 0) ⟨R, F, S, rfl, hRB.1, fun o _ => rfl⟩
  · obtain ⟨t, ht, R1, F1, S1, rfl, m1, o1⟩ := key
    exact ⟨R1, F1, S1, ht, m1, o1⟩
  · obtain ⟨R1, F1, S1, rfl, m1, o1⟩ := hs
    have hkp := yT_keep (T := T) (tr := tr) hy hK k (by omega)
    have hEk := yT_E (T := T) (tr := tr) (B := B) hy k (by omega)
    have hBk := BS_keep hkp hB
    have hRk := RBk_main hRB m1 hnt.2 (fun i hi => hkp.1 i (by omega)) o1 hQ
    show ∃ s1, _ = some (Sum.inl s1) ∧ ∃ R1 F1 S1, s1 = (WX M c R1 F1 S1, zi ((k + 1 : Nat) : Int)) ∧ RM (bookZ (upZ (yT T tr B (yearZ B) k) (1801 + 16 * k + (yearZ B)) (frZ T tr k (ySum (yT T tr B (yearZ B) k) k (yearZ B)) (yT T tr B (yearZ B) k (1281 + 2 * k)) (yT T tr B (yearZ B) k (1282 + 2 * k)))) k 1 (backZ (T 0) (T 1) (T 2) (ySum (yT T tr B (yearZ B) k) k (yearZ B)) (frZ T tr k (ySum (yT T tr B (yearZ B) k) k (yearZ B)) (yT T tr B (yearZ B) k (1281 + 2 * k)) (yT T tr B (yearZ B) k (1282 + 2 * k))) - bkIn (upZ (yT T tr B (yearZ B) k) (1801 + 16 * k + (yearZ B)) (frZ T tr k (ySum (yT T tr B (yearZ B) k) k (yearZ B)) (yT T tr B (yearZ B) k (1281 + 2 * k)) (yT T tr B (yearZ B) k (1282 + 2 * k)))) k (yearZ B)) (-2)) R1 ∧ _
    have hN1 : BN (yT T tr B (yearZ B) k) := by unfold BN; rw [hkp.1 0 (by omega)]; exact hN
    generalize yT T tr B (yearZ B) k = Bk at hkp hEk hBk hRk hN1 m1
    obtain ⟨F2, S2, g2, f2, s2⟩ := c_ofYear (n := n) (F := F1) (S := S1) (t := (k : Int)) (y := yearZ B) h hU hRk.2.1 m1 hBk (by omega) (by omega) (by omega) hnt.2 hy.1 hy.2
    have hh := hBk.2 k (by omega) (by omega)
    have hso := sumsOk_y (t := (k : Int)) (y := yearZ B) hBk (by omega) (by omega) hy.1 hy.2
    have ht := htr k (by omega) (by omega)
    have t1 := hT.2.1
    have t2 := hT.2.2
    have g3 : g_X6_fraction n (WX M c R1 F2 S2) (c + 60) = some (zi (frZ T tr k (ySum Bk k (yearZ B)) (Bk (1281 + 2 * k)) (Bk (1282 + 2 * k))), WX M c R1 F2 S2) := by
      rw [c_fraction h f2 hT.1 ht.1 (by omega) (sumsOk_congr hso s2) (by omega)]
      exact congrArg (fun x => some (zi x, _)) (frZ_congr s2)
    have hfr := frZ_rng (tr := tr) (t := (k : Int)) hT hso hh.1 hh.2.1
    generalize frZ T tr k (ySum Bk k (yearZ B)) (Bk (1281 + 2 * k)) (Bk (1282 + 2 * k)) = f at g3 hfr
    have g4 := c_backBy (n := n) (R := R1) h f2 hT.1 (by omega) ⟨by omega, by omega⟩ (sumsOk_congr hso s2) (f := f) (by omega)
    rw [backZ_congr s2] at g4
    obtain ⟨R2, g5, m5, o5⟩ := x_keepAnn (n := n) (f := f) (wx_B (F := F2) (S := S2) h) m1 hkp.2.2 (t := (k : Int)) (y := yearZ B) (by omega) (by omega) hy.1 hy.2
    have g6 := x_recYear (n := n) (wx_B (F := F2) (S := S2) h) m5 (by omega) (t := (k : Int)) (y := yearZ B) (by omega) (by omega) hy.1 hy.2
    have hk1 : 0 ≤ upZ Bk (1801 + 16 * k + yearZ B) f 1867 ∧ upZ Bk (1801 + 16 * k + yearZ B) f 1867 ≤ 40 := by
      rw [upZ_ne (by omega)]; exact hkp.2
    obtain ⟨R3, g7, m7, o7⟩ := c_enter (n := n) (F := F2) (S := S2) h m5 (by unfold BN; rw [upZ_ne (by omega)]; exact hN1) hk1 (by rw [upZ_ne (by omega)]; omega) (t := (k : Int)) (so := 1) (v := backZ (T 0) (T 1) (T 2) (ySum Bk k (yearZ B)) f - bkIn (upZ Bk (1801 + 16 * k + yearZ B) f) k (yearZ B)) (x := -2) (by omega) (by omega) (by omega) (by omega)
    refine ⟨_, ?_, R3, F2, S2, rfl, m7, fun o ho => ?_⟩
    · have g5' : g_X2_keepAnnual n (WX M c R1 F2 S2) (c + 10) (zi k) (zi (yearZ B)) (zi f) = some ((), WX M c R2 F2 S2) := g5
      have g6' : g_X2_recoveredInYear n (WX M c R2 F2 S2) (c + 10) (zi k) (zi (yearZ B)) = some (zi (bkIn (upZ Bk (1801 + 16 * k + yearZ B) f) k (yearZ B)), WX M c R2 F2 S2) := g6
      have e2 : (-2 : Int32) = zi (-2) := by decide
      dsimp only
      rw [c_o0 h, i_sb, c_gR h, i_sb, hU.1.1, if_neg (by rw [zi_le (by omega) (by omega) (by omega) (by omega)]; omega), c_kC h, g2, i_bd, c_kF h, g3, i_bd, c_kF h, g4, i_bd, c_o1 h, i_sb, c_kB h, g5', i_bd, c_o1 h, i_sb, i_sb, c_kB h, g6', i_bd, c_kB h, zi_sub, e2]
      show bd (g_X2_enter n (WX M c R2 F2 S2) (c + 10) (zi k) (zi 1) _ _) _ = _
      rw [g7, i_bd]
      exact congrArg (fun x => some (Sum.inl (_, x))) (zi_add (k : Int) 1)
    · rw [o7 o (by omega) (by omega) (by omega), o5 o (by omega), o1 o ho]
  · obtain ⟨R1, F1, S1, rfl, m1, o1⟩ := hs
    refine ⟨_, ?_, R1, F1, S1, rfl, m1, o1⟩
    dsimp only
    rw [c_o0 h, i_sb, c_gR h, i_sb, hU.1.1, Int.toNat_of_nonneg hnt.1, if_pos (Int32.le_refl _)]
/-- more of an asset at a year's end -/
def AX2 (B : Int → Int) (a : Int) : Prop := (AtZ B a 9 ≠ 1 → AtZ B a 47 = yearZ B - AtZ B a 5 / 4 ∧ AtZ B a 47 ≤ 9) ∧ (AtZ B a 47 = 0 → AtZ B a 27 = 0)
theorem c_year2 (h : CSh M c r) (hU : RU M r nt T tr sl bu as) (hRB : RBk T B nt R) (hT : told3 T) (hB : BS B) (hN : BN B) (hK : 0 ≤ B 1867 ∧ B 1867 ≤ 40) (hE : 0 ≤ B 1866 ∧ B 1866 ≤ 999900) (hA8 : 0 ≤ B 1865 ∧ B 1865 ≤ 8) (hA : allA B) (hX : ∀ a : Int, 0 ≤ a → a < B 1865 → AX2 B a ∧ AtZ B a 0 < nt) (hAnn : ∀ t : Int, 0 ≤ t → t < nt → B (1801 + 16 * t + yearZ B) = annZ T tr B t (yearZ B)) (hn : 10 < n) : ∃ R1, loopF (fun (s : MemT × Int32) => (fun (M25 : MemT) (v26 : Int32) => (gO M25 2 c 1).bind (fun j28 => (gI M25 1 j28 1).bind (fun v29 => (if v29 ≤ v26 then some (.inr (M25, v26)) else (gO M25 2 c 1).bind (fun j30 => (gO M25 1 j30 5).bind (fun j31 => (aO M25 14 j31 v26).bind (fun j32 => (gI M25 0 j32 8).bind (fun v33 => (if v33 = 0 then chk M25 2 c (bd (g_X3_endInterval n M25 c v26 (zi (yearZ B))) (fun r34 M35 => some (.inl (M35, v26 + 1)))) else some (.inl (M25, v26 + 1))))))))))) s.1 s.2) n (WX M c R F S, 0) = some (WX M c R1 F S, zi (B 1865)) ∧ RM (yA T tr B (yearZ B) (B 1865).toNat) R1 ∧ (∀ a : Nat, (a : Int) < B 1865 → RAn T (yA T tr B (yearZ B) (B 1865).toNat) R1 a) ∧ R1 1 = R 1 ∧ R1 2 = R 2 := by
  obtain ⟨n1, n2⟩ := id hN
  have hy : 0 ≤ yearZ B ∧ yearZ B < 16 := by unfold yearZ; omega
  have key := loop_inv (step := fun (s : MemT × Int32) => (fun (M25 : MemT) (v26 : Int32) => (gO M25 2 c 1).bind (fun j28 => (gI M25 1 j28 1).bind (fun v29 => (if v29 ≤ v26 then some (.inr (M25, v26)) else (gO M25 2 c 1).bind (fun j30 => (gO M25 1 j30 5).bind (fun j31 => (aO M25 14 j31 v26).bind (fun j32 => (gI M25 0 j32 8).bind (fun v33 => (if v33 = 0 then chk M25 2 c (bd (g_X3_endInterval n M25 c v26 (zi (yearZ B))) (fun r34 M35 => some (.inl (M35, v26 + 1)))) else some (.inl (M25, v26 + 1))))))))))) s.1 s.2) (fun k s => ∃ R1, s = (WX M c R1 F S, zi (k : Int)) ∧ RM (yA T tr B (yearZ B) k) R1 ∧ (0 ≤ yA T tr B (yearZ B) k 1866 ∧ yA T tr B (yearZ B) k 1866 ≤ B 1866 + 2 * k) ∧ (∀ a : Nat, a < k → RAn T (yA T tr B (yearZ B) k) R1 a) ∧ (∀ a : Nat, k ≤ a → (a : Int) < B 1865 → RA T (yA T tr B (yearZ B) k) R1 a) ∧ R1 1 = R 1 ∧ R1 2 = R 2) (fun t => ∃ R1, t = (WX M c R1 F S, zi (B 1865)) ∧ RM (yA T tr B (yearZ B) (B 1865).toNat) R1 ∧ (∀ a : Nat, (a : Int) < B 1865 → RAn T (yA T tr B (yearZ B) (B 1865).toNat) R1 a) ∧ R1 1 = R 1 ∧ R1 2 = R 2) (B 1865).toNat (fun k hk s hs => ?_) (fun s hs => ?_) n (by omega) (WX M c R F S, 0) ⟨R, rfl, hRB.1, ⟨hE.1, by show B 1866 ≤ B 1866 + 2 * ((0 : Nat) : Int); omega⟩, fun a ha => absurd ha (by omega), fun a _ a1 => hRB.2.2 a a1, rfl, rfl⟩
  · obtain ⟨t, ht, R1, rfl, q⟩ := key
    exact ⟨R1, ht, q⟩
  · obtain ⟨R1, rfl, m1, ⟨e0, e1⟩, ra, rb, o1, o2⟩ := hs
    have hJ := yA_J (T := T) (tr := tr) hT hB hN hK hA8.2 hA k (by omega)
    obtain ⟨j1, j2, j3, j4⟩ := id hJ
    have hBk := yJ_BS hJ hB
    have hyr : yearZ (yA T tr B (yearZ B) k) = yearZ B := congrArg (· / 4) (j1 0 (by omega))
    have hNk : BN (yA T tr B (yearZ B) k) := by unfold BN; rw [j1 0 (by omega)]; exact hN
    have hAk := j3 k (by omega) (by omega)
    have hik := (hA k (by omega) (by omega)).2
    have hxk := hX k (by omega) (by omega)
    unfold AX2 at hxk
    have jk := fun j j0 j1' => j4 (k : Int) (by omega) (by omega) j j0 j1'
    rw [← jk 9 (by omega) (by omega), ← jk 5 (by omega) (by omega)] at hik
    rw [← jk 9 (by omega) (by omega), ← jk 47 (by omega) (by omega), ← jk 27 (by omega) (by omega), ← jk 5 (by omega) (by omega), ← jk 0 (by omega) (by omega)] at hxk
    have hAnk : yA T tr B (yearZ B) k (1801 + 16 * AtZ (yA T tr B (yearZ B) k) k 0 + yearZ B) = annZ T tr (yA T tr B (yearZ B) k) (AtZ (yA T tr B (yearZ B) k) k 0) (yearZ (yA T tr B (yearZ B) k)) := by
      have h0 := hAk.1
      rw [annZ_keep (j1 0 (by omega)) (fun i i0 i1 => j1 i (by omega)) hN h0.1 h0.2, ← hAnn _ h0.1 hxk.2]
      exact j1 _ (by omega)
    have hws := worthZ_rng (tr := tr) (use := AtZ (yA T tr B (yearZ B) k) k 2) hT hBk hNk hAk
    have hkeep := clsZ_keep (T := T) (tr := tr) (B := yA T tr B (yearZ B) k) (a := (k : Int)) (y := yearZ B) (by omega) hT hAk j2 hws hik
    have hcE := clsZ_E (T := T) (tr := tr) (B := yA T tr B (yearZ B) k) (a := (k : Int)) (y := yearZ B) (by omega) hAk j2 hT hws hik
    have rk := rb k (by omega) (by omega)
    have e8 : R1 (10 + 5 * k) 8 = zi (AtZ (yA T tr B (yearZ B) k) k 9) := rk.2.1.2.2.1
    have h9' := hAk.2.2.2.2.2.2.2.2.2.1
    show ∃ s1, _ = some (Sum.inl s1) ∧ ∃ R1, s1 = (WX M c R1 F S, zi ((k + 1 : Nat) : Int)) ∧ RM (clsZ T tr (yA T tr B (yearZ B) k) k (yearZ B)) R1 ∧ (0 ≤ clsZ T tr (yA T tr B (yearZ B) k) k (yearZ B) 1866 ∧ clsZ T tr (yA T tr B (yearZ B) k) k (yearZ B) 1866 ≤ B 1866 + 2 * ((k + 1 : Nat) : Int)) ∧ (∀ a : Nat, a < k + 1 → RAn T (clsZ T tr (yA T tr B (yearZ B) k) k (yearZ B)) R1 a) ∧ (∀ a : Nat, k + 1 ≤ a → (a : Int) < B 1865 → RA T (clsZ T tr (yA T tr B (yearZ B) k) k (yearZ B)) R1 a) ∧ _
    have h65 : yA T tr B (yearZ B) k 1865 = B 1865 := j1 1865 (by omega)
    generalize yA T tr B (yearZ B) k = Bk at *
    have g1 : R1 0 1 = zi (B 1865) := m1.1.2.1.trans (congrArg zi h65)
    dsimp only
    rw [c_o1 h, i_sb, c_now h, i_sb, g1, if_neg (by rw [zi_le (by omega) (by omega) (by omega) (by omega)]; omega), i_sb, c_o5 h, i_sb, c_oA h (by omega), i_sb, c_gA h (by omega), i_sb, e8]
    by_cases z9 : AtZ Bk k 9 = 1
    · have hz : clsZ T tr Bk k (yearZ B) = Bk := by
        unfold clsZ
        rw [if_pos z9]
      rw [hz, z9, if_neg (by decide), show zi (k : Int) + 1 = zi ((k + 1 : Nat) : Int) from zi_add (k : Int) 1]
      refine ⟨_, rfl, R1, rfl, m1, ⟨e0, by omega⟩, fun a ha => ?_, fun a ha a1 => rb a (by omega) a1, o1, o2⟩
      by_cases q : a = k
      · subst q; exact RAn_of rk
      · exact ra a (by omega)
    · have z9' : AtZ Bk k 9 = 0 := by omega
      obtain ⟨R2, g2, m2, n2', o2'⟩ := c_endInterval (n := n) (F := F) (S := S) (a := k) h hU hT m1 hBk hNk j2 ⟨e0, by omega⟩ (by omega) rk hAk z9' (by rw [hyr]; exact (hxk.1.1 z9).1) (hxk.1.1 z9).2 hxk.1.2 (by rw [hyr] at hAnk ⊢; exact hAnk) (by omega)
      rw [hyr] at g2 m2 n2'
      rw [z9', if_pos (by decide), c_kC h, g2, i_bd, show zi (k : Int) + 1 = zi ((k + 1 : Nat) : Int) from zi_add (k : Int) 1]
      refine ⟨_, rfl, R2, rfl, m2, ⟨by omega, by omega⟩, fun a ha => ?_, fun a ha a1 => ?_, (o2' 1 (by omega) (by omega) (by omega) (by omega)).trans o1, (o2' 2 (by omega) (by omega) (by omega) (by omega)).trans o2⟩
      · by_cases q : a = k
        · subst q; exact n2'
        · exact RAn_eq (ra a (by omega)) (fun j j0 j1' => hkeep.1.1 _ (by omega)) (j3 a (by omega) (by omega)).2.2.2.2.2.2.2.2.2.2.2.2.2 (fun o q0 q1 => o2' o (by omega) (by omega) (by omega) (by omega))
      · exact RA_eq (rb a (by omega) a1) (fun j j0 j1' => hkeep.1.1 _ (by omega)) (j3 a (by omega) (by omega)).2.2.2.2.2.2.2.2.2.2.2.2.2 (by rw [hkeep.1.1 0 (by omega)]) (fun o q0 q1 => o2' o (by omega) (by omega) (by omega) (by omega))
  · obtain ⟨R1, rfl, m1, -, ra, rb, o1, o2⟩ := hs
    have hJ := yA_J (T := T) (tr := tr) hT hB hN hK hA8.2 hA (B 1865).toNat (by omega)
    have g1 : R1 0 1 = zi (B 1865) := m1.1.2.1.trans (congrArg zi (hJ.1 1865 (by omega)))
    refine ⟨_, ?_, R1, rfl, m1, fun a a1 => ra a (by omega), o1, o2⟩
    dsimp only
    rw [c_o1 h, i_sb, c_now h, i_sb, g1, Int.toNat_of_nonneg hA8.1, if_pos (Int32.le_refl _)]
end XYEAR
