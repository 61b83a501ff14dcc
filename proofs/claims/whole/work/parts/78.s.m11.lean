/-! ===== PURE 66: both sides in one memory ===== -/
def WD (k : Nat) : Int := [116, 114, 97, 100, 101, 114, 32, 104, 101, 97, 100, 32, 115, 116, 97, 114, 116, 32, 114, 111, 117, 110, 100, 32, 115, 116, 101, 112, 32, 108, 105, 109, 105, 116, 32, 115, 101, 101, 100, 32, 115, 97, 108, 101, 32, 98, 117, 121, 32, 97, 115, 115, 101, 116, 32, 117, 112, 32, 100, 111, 119, 110, 32, 110, 101, 97, 114, 32].getD k 0
/-- what the component is made of, but for its past -/
def TSh (M : MemT) (r s q : Nat) : Prop :=
  (mK M 0 = 7 ∧ mR M 0 0 = some 1 ∧ mR M 0 2 = some 2 ∧ mR M 0 3 = some s ∧ mR M 0 4 = some 13 ∧ mR M 0 5 = some 75) ∧ (mK M 1 = 11 ∧ mL M 1 = 700) ∧ (mK M 2 = 4 ∧ mR M 2 12 = some 3 ∧ mK M 3 = 12 ∧ mL M 3 = 4) ∧ CSh M 13 r ∧ RSh M s ∧ CSh M 75 q ∧ ((r = 4 ∧ s = 14) ∨ (r = 14 ∧ s = 4)) ∧ (q = 4 ∨ q = 14 ∨ q = 76) ∧ (mK M 149 = 13 ∧ mL M 149 = 1) ∧ mL M 141 = 68
def TD (nt U : Int) (T tr sl bu as : Int → Int) : Prop := (0 ≤ nt ∧ nt ≤ 4) ∧ told3 T ∧ trOk tr ∧ RowsOk T sl bu as ∧ RowsNt T as nt ∧ (2000000 ≤ U ∧ U ≤ 100000000)
def BkI (M : MemT) (b : Int) (B : Int → Int) : Prop := ∀ j : Int, 0 ≤ j → j < 2468 → mI M 147 (2468 * b + j).toNat = zi (B j)
/-- the rows of a text that is being read: what is told of traders stays in range -/
def TR2 (M : MemT) : Prop := ∀ t : Nat, t < 4 → ∃ a b c d : Int, (mI M 142 (32 + 8 * t + 1) = zi a ∧ 0 ≤ a ∧ a ≤ 2) ∧ (mI M 142 (32 + 8 * t + 2) = zi b ∧ 0 ≤ b ∧ b ≤ 1) ∧ (mI M 142 (32 + 8 * t + 6) = zi c ∧ 0 ≤ c ∧ c ≤ 1) ∧ (mI M 142 (32 + 8 * t + 7) = zi d ∧ 0 ≤ d ∧ d ≤ 1000)
theorem TR2_f {M M1 : MemT} (h : TR2 M) (e : ∀ k, mI M1 142 k = mI M 142 k) : TR2 M1 := by
  intro t ht
  rw [e, e, e, e]
  exact h t ht
def TI (M : MemT) (old cnt tl kp : Int) : Prop :=
  (mI M 137 0 = zi cnt ∧ mI M 137 1 = zi old ∧ mI M 139 22 = zi cnt) ∧ ((0 ≤ old ∧ old < 20) ∧ (0 ≤ cnt ∧ cnt ≤ 20)) ∧ (mI M 2 0 = mI M 139 4 ∧ mI M 2 1 = mI M 139 5) ∧ (mI M 0 1 = zi tl ∧ mI M 139 1 = zi tl ∧ 0 ≤ tl ∧ tl ≤ 700) ∧ (mI M 0 8 = zi kp ∧ mI M 139 23 = zi kp ∧ (kp = 0 ∨ kp = 1)) ∧ (∀ k : Nat, k < 700 → ∃ x : Int, (-128 ≤ x ∧ x < 128) ∧ mI M 1 k = zi x ∧ mI M 140 k = zi (if x < 0 then x + 256 else x)) ∧ ((∀ k : Nat, k < 68 → mI M 141 k = zi (WD k)) ∧ TR2 M)
def UDs (M : MemT) (P : Nat → Nat) (old cnt : Int) (T : Int → Int) (nt U : Int) (Bs : Nat → Int → Int) : Prop := ∀ i : Nat, (i : Int) < cnt → P ((old + i) % 20).toNat ≠ 0 ∧ RBk T (Bs i) nt (rows M (P ((old + i) % 20).toNat)) ∧ BkI M (3 + i) (Bs i) ∧ BI T nt U (Bs i)
def IMs (M : MemT) (P : Nat → Nat) (kp : Int) (T : Int → Int) (nt U : Int) (Bi : Int → Int) : Prop := kp = 1 → P 20 ≠ 0 ∧ RBk T Bi nt (rows M (P 20)) ∧ BkI M 2 Bi ∧ BI T nt U Bi
def TOP (M : MemT) (r s q : Nat) (P : Nat → Nat) (old cnt tl kp nt : Int) (T tr sl bu as B Bi : Int → Int) (Bs : Nat → Int → Int) (U : Int) : Prop :=
  TSh M r s q ∧ PGe M P ∧ TD nt U T tr sl bu as ∧ RU M r nt T tr sl bu as ∧ RBk T B nt (rows M 23) ∧ BI T nt U B ∧ MOk M 0 nt T tr sl bu as ∧ BkI M 0 B ∧ TI M old cnt tl kp ∧ UDs M P old cnt T nt U Bs ∧ IMs M P kp T nt U Bi
def TopE (M : MemT) (U : Int) : Prop := ∃ r s q P old cnt tl kp nt T tr sl bu as B Bi Bs, TOP M r s q P old cnt tl kp nt T tr sl bu as B Bi Bs U
/-- what no call needs again -/
def scr (y k : Nat) : Prop := y = 73 ∨ (85 ≤ y ∧ y < 137) ∨ (y = 139 ∧ ¬ (k = 1 ∨ k = 4 ∨ k = 5 ∨ k = 11 ∨ k = 21 ∨ k = 22 ∨ k = 23)) ∨ (y = 147 ∧ 2468 ≤ k ∧ k < 4936)
/-- any memory is one with its own rows -/
theorem WX_self {M : MemT} {c : Nat} : WX M c (rows M (c + 10)) (mI M (c + 60)) (fun j => (mJ M (c + 61) j.toNat).toInt) = M := by
  unfold WX WR WF
  refine Prod.ext rfl (Prod.ext rfl (Prod.ext rfl (Prod.ext rfl (Prod.ext ?_ ?_))))
  · funext x k
    show (if c + 10 ≤ x ∧ x < c + 10 + 50 then mI M (c + 10 + (x - (c + 10))) k else if x = c + 60 then mI M (c + 60) k else mI M x k) = mI M x k
    by_cases h : c + 10 ≤ x ∧ x < c + 10 + 50
    · rw [if_pos h, show c + 10 + (x - (c + 10)) = x by omega]
    · rw [if_neg h]
      by_cases h2 : x = c + 60
      · rw [if_pos h2, h2]
      · rw [if_neg h2]
  · funext x k
    show (if x = c + 60 + 1 then zj (mJ M (c + 61) ((k : Int)).toNat).toInt else mJ M x k) = mJ M x k
    by_cases h : x = c + 60 + 1
    · rw [if_pos h, zj_int, h, Int.toNat_natCast]
    · rw [if_neg h]
theorem WC_self {M : MemT} {B : Int → Int} (h : BkI M 0 B) : ∃ S ho ha sm, WC M 0 B S ho ha sm = M := by
  refine ⟨fun j => (mJ M 148 j.toNat).toInt, (mJ M 139 25).toInt, (mJ M 139 26).toInt, mI M 139 27, ?_⟩
  unfold WC
  refine Prod.ext rfl (Prod.ext rfl (Prod.ext rfl (Prod.ext rfl (Prod.ext ?_ ?_))))
  · funext x k
    show (if x = 147 then (if 2468 * (0 : Int) ≤ (k : Int) ∧ (k : Int) < 2468 * (0 : Int) + 2468 then zi (B ((k : Int) - 2468 * 0)) else mI M 147 k) else if x = 139 ∧ k = 27 then mI M 139 27 else mI M x k) = mI M x k
    by_cases hx : x = 147
    · rw [if_pos hx, hx]
      by_cases c : 2468 * (0 : Int) ≤ (k : Int) ∧ (k : Int) < 2468 * (0 : Int) + 2468
      · rw [if_pos c, ← h _ (by omega) (by omega)]
        exact congrArg (mI M 147) (by omega)
      · rw [if_neg c]
    · rw [if_neg hx]
      by_cases c : x = 139 ∧ k = 27
      · rw [if_pos c, c.1, c.2]
      · rw [if_neg c]
  · funext x k
    show (if x = 148 then zj (mJ M 148 ((k : Int)).toNat).toInt else if x = 139 ∧ k = 25 then zj (mJ M 139 25).toInt else if x = 139 ∧ k = 26 then zj (mJ M 139 26).toInt else mJ M x k) = mJ M x k
    by_cases h1 : x = 148
    · rw [if_pos h1, zj_int, h1, Int.toNat_natCast]
    · rw [if_neg h1]
      by_cases h2 : x = 139 ∧ k = 25
      · rw [if_pos h2, zj_int, h2.1, h2.2]
      · rw [if_neg h2]
        by_cases h3 : x = 139 ∧ k = 26
        · rw [if_pos h3, zj_int, h3.1, h3.2]
        · rw [if_neg h3]
section M11
variable {M M1 : MemT} {r s q : Nat} {P : Nat → Nat} {old cnt tl kp nt U V : Int} {T tr sl bu as B Bi : Int → Int} {Bs : Nat → Int → Int} {n : Nat}
theorem RU_f (h : RU M r nt T tr sl bu as) (e : ∀ y, r ≤ y → y < r + 9 → mI M1 y = mI M y) : RU M1 r nt T tr sl bu as := by
  unfold RU at h ⊢
  rw [e r (by omega) (by omega), e (r + 1) (by omega) (by omega), e (r + 2) (by omega) (by omega), e (r + 3) (by omega) (by omega), e (r + 4) (by omega) (by omega), e (r + 5) (by omega) (by omega), e (r + 6) (by omega) (by omega), e (r + 7) (by omega) (by omega), e (r + 8) (by omega) (by omega)]
  exact h
theorem MOk_f (h : MOk M 0 nt T tr sl bu as) (hs : ∀ y, 139 ≤ y → y < 149 → SE M M1 y) (e : ∀ y k, 139 ≤ y → y < 147 → (y ≠ 139 ∨ k = 11 ∨ k = 21) → mI M1 y k = mI M y k) : MOk M1 0 nt T tr sl bu as := by
  obtain ⟨hS, hb, hb1, hn, h1, h2, h3, h4, h5⟩ := h
  have e' : ∀ y k, 140 ≤ y → y < 147 → mI M1 y k = mI M y k := fun y k h1 h2 => e y k (by omega) h2 (by omega)
  exact ⟨MShape_f hS hs, (e 139 21 (by omega) (by omega) (by omega)).trans hb, hb1, (e 139 11 (by omega) (by omega) (by omega)).trans hn, fun k k0 k1 => (e' _ _ (by omega) (by omega)).trans (h1 k k0 k1), fun k k0 k1 => (e' _ _ (by omega) (by omega)).trans (h2 k k0 k1), fun k k0 k1 => (e' _ _ (by omega) (by omega)).trans (h3 k k0 k1), fun k k0 k1 => (e' _ _ (by omega) (by omega)).trans (h4 k k0 k1), fun k k0 k1 => (e' _ _ (by omega) (by omega)).trans (h5 k k0 k1)⟩
theorem TSh_f (h : TSh M r s q) (f : ∀ y, y < 150 → y ≠ 138 → SE M M1 y) : TSh M1 r s q := by
  obtain ⟨⟨a1, a2, a3, a4, a5, a6⟩, ⟨b1, b2⟩, ⟨c1, c2, c3, c4⟩, hC, hR, hC2, hrs, hq, ⟨o1, o2⟩, w1⟩ := h
  have f0 := f 0 (by omega) (by omega)
  have f2 := f 2 (by omega) (by omega)
  have f3 := f 3 (by omega) (by omega)
  exact ⟨⟨f0.1.trans a1, (f0.2.2 _).trans a2, (f0.2.2 _).trans a3, (f0.2.2 _).trans a4, (f0.2.2 _).trans a5, (f0.2.2 _).trans a6⟩, ⟨(f 1 (by omega) (by omega)).1.trans b1, (f 1 (by omega) (by omega)).2.1.trans b2⟩, ⟨f2.1.trans c1, (f2.2.2 _).trans c2, f3.1.trans c3, f3.2.1.trans c4⟩, CSh_f hC (fun y h1 h2 => f y (by omega) (by omega)) (fun y h1 h2 => f y (by omega) (by omega)), RSh_f hR (fun y h1 h2 => f y (by omega) (by omega)), CSh_f hC2 (fun y h1 h2 => f y (by omega) (by omega)) (fun y h1 h2 => f y (by omega) (by omega)), hrs, hq, ⟨(f 149 (by omega) (by omega)).1.trans o1, (f 149 (by omega) (by omega)).2.1.trans o2⟩, (f 141 (by omega) (by omega)).2.1.trans w1⟩
theorem TI_f (h : TI M old cnt tl kp) (e : ∀ y k, y < 147 → ¬ scr y k → mI M1 y k = mI M y k) : TI M1 old cnt tl kp := by
  obtain ⟨⟨a1, a2, a3⟩, hr, ⟨b1, b2⟩, ⟨c1, c2, c3⟩, ⟨d1, d2, d3⟩, ht, hw⟩ := h
  have g : ∀ y k, y < 147 → y ≠ 73 → (y < 85 ∨ 137 ≤ y) → (y ≠ 139 ∨ k = 1 ∨ k = 4 ∨ k = 5 ∨ k = 11 ∨ k = 21 ∨ k = 22 ∨ k = 23) → mI M1 y k = mI M y k := fun y k h1 h2 h3 h4 => e y k h1 (by unfold scr; omega)
  refine ⟨⟨(g _ _ (by omega) (by omega) (by omega) (by omega)).trans a1, (g _ _ (by omega) (by omega) (by omega) (by omega)).trans a2, (g _ _ (by omega) (by omega) (by omega) (by omega)).trans a3⟩, hr, ⟨?_, ?_⟩, ⟨(g _ _ (by omega) (by omega) (by omega) (by omega)).trans c1, (g _ _ (by omega) (by omega) (by omega) (by omega)).trans c2, c3⟩, ⟨(g _ _ (by omega) (by omega) (by omega) (by omega)).trans d1, (g _ _ (by omega) (by omega) (by omega) (by omega)).trans d2, d3⟩, fun k hk => ?_, ⟨fun k hk => (g _ _ (by omega) (by omega) (by omega) (by omega)).trans (hw.1 k hk), TR2_f hw.2 (fun k => g _ _ (by omega) (by omega) (by omega) (by omega))⟩⟩
  · rw [g 2 0 (by omega) (by omega) (by omega) (by omega), g 139 4 (by omega) (by omega) (by omega) (by omega), b1]
  · rw [g 2 1 (by omega) (by omega) (by omega) (by omega), g 139 5 (by omega) (by omega) (by omega) (by omega), b2]
  · rw [g 1 k (by omega) (by omega) (by omega) (by omega), g 140 k (by omega) (by omega) (by omega) (by omega)]
    exact ht k hk
theorem UDs_f (h : UDs M P old cnt T nt U Bs) (hr : 0 ≤ old ∧ old < 20 ∧ cnt ≤ 20) (hP : PGe M P) (e : ∀ y k, 147 ≤ y → y < mN M → ¬ scr y k → mI M1 y k = mI M y k) : UDs M1 P old cnt T nt U Bs := by
  intro i hi
  obtain ⟨h1, h2, h3, h4⟩ := h i hi
  have hN := hP.2.2.2.1
  obtain ⟨g1, g2, -⟩ := hP.2.2.2.2.1 _ (by omega) h1
  refine ⟨h1, RBk_c h2 (fun o ho => ?_) (BI_8 h4).2, fun j j0 j1 => (e 147 _ (by omega) (by omega) (by unfold scr; omega)).trans (h3 j j0 j1), h4⟩
  funext k
  exact e _ _ (by omega) (by omega) (by unfold scr; omega)
theorem IMs_f (h : IMs M P kp T nt U Bi) (hP : PGe M P) (e : ∀ y k, 147 ≤ y → y < mN M → ¬ scr y k → mI M1 y k = mI M y k) : IMs M1 P kp T nt U Bi := by
  intro hk
  obtain ⟨h1, h2, h3, h4⟩ := h hk
  have hN := hP.2.2.2.1
  obtain ⟨g1, g2, -⟩ := hP.2.2.2.2.1 _ (by omega) h1
  refine ⟨h1, RBk_c h2 (fun o ho => ?_) (BI_8 h4).2, fun j j0 j1 => (e 147 _ (by omega) (by omega) (by unfold scr; omega)).trans (h3 j j0 j1), h4⟩
  funext k
  exact e _ _ (by omega) (by omega) (by unfold scr; omega)
theorem BkI_f {b : Int} (h : BkI M b B) (e : ∀ k, mI M1 147 k = mI M 147 k) : BkI M1 b B := fun j j0 j1 => (e _).trans (h j j0 j1)
/-- nothing but scratch has changed -/
theorem TOP_f (h : TOP M r s q P old cnt tl kp nt T tr sl bu as B Bi Bs U) (hN : mN M ≤ mN M1) (f : ∀ y, y < mN M → SE M M1 y) (e : ∀ y k, y < mN M → ¬ scr y k → mI M1 y k = mI M y k) : TOP M1 r s q P old cnt tl kp nt T tr sl bu as B Bi Bs U := by
  obtain ⟨hS, hP, hD, hU, hR, hB, hM, hb, hI, hu, hi⟩ := h
  have h150 := hP.2.2.2.1
  have hrs := hS.2.2.2.2.2.2.1
  refine ⟨TSh_f hS (fun y hy _ => f y (by omega)), PGe_f hP hN (fun y hy => f y (by omega)), hD, RU_f hU (fun y h1 h2 => ?_), RBk_c hR (fun o ho => ?_) (BI_8 hB).2, hB, MOk_f hM (fun y h1 h2 => f y (by omega)) (fun y k h1 h2 h3 => e y k (by omega) (by unfold scr; omega)), fun j j0 j1 => (e 147 _ (by omega) (by unfold scr; omega)).trans (hb j j0 j1), TI_f hI (fun y k h1 h2 => e y k (by omega) h2), UDs_f hu ⟨hI.2.1.1.1, hI.2.1.1.2, hI.2.1.2.2⟩ hP (fun y k h1 h2 h3 => e y k h2 h3), IMs_f hi hP (fun y k h1 h2 h3 => e y k h2 h3)⟩
  · funext k
    exact e y k (by omega) (by unfold scr; omega)
  · funext k
    exact e _ k (by omega) (by unfold scr; omega)
theorem TOP_X (h : TOP M r s q P old cnt tl kp nt T tr sl bu as B Bi Bs U) : XQr M 13 r (rows M 23) nt T tr sl bu as B U := by
  obtain ⟨hS, hP, ⟨d1, d2, d3, d4, d5, d6⟩, hU, hR, hB, hM, hb, hI, hu, hi⟩ := h
  exact ⟨⟨hS.1.1, hS.1.2.2.2.2.1, by omega⟩, ⟨hS.2.2.2.1, hU, hR, d1, d2, d3, hB.1, hB.2.1, AN2_r hB.2.1 hB.2.2.2.2.2.2.1⟩, d4, hB, d6⟩
theorem TOP_M (h : TOP M r s q P old cnt tl kp nt T tr sl bu as B Bi Bs U) : MQr M nt T tr sl bu as B U := by
  obtain ⟨hS, hP, ⟨d1, d2, d3, d4, d5, d6⟩, hU, hR, hB, hM, hb, hI, hu, hi⟩ := h
  exact ⟨hM, d1, d2, d3, d4, hB, d6⟩
theorem WX_scr {F : Nat → Int32} {S : Int → Int} {y k : Nat} (h : ¬ scr y k) : mI (WX M 13 (rows M 23) F S) y k = mI M y k := by
  unfold scr at h
  rw [WX_I]
  by_cases c : 13 + 10 ≤ y ∧ y < 13 + 10 + 50
  · rw [if_pos c]
    show mI M (23 + (y - (13 + 10))) k = _
    rw [show 23 + (y - (13 + 10)) = y by omega]
  · rw [if_neg c, if_neg (by omega)]
theorem WC_scr {S : Int → Int} {ho ha : Int} {sm : Int32} {v : Int32} (hb : BkI M 0 B) {y k : Nat} (h : ¬ scr y k) : mI (WC (sI M 139 2 v) 0 B S ho ha sm) y k = mI M y k := by
  unfold scr at h
  show (if y = 147 then (if 2468 * (0 : Int) ≤ (k : Int) ∧ (k : Int) < 2468 * (0 : Int) + 2468 then zi (B ((k : Int) - 2468 * 0)) else (if (147 : Nat) = 139 ∧ k = 2 then v else mI M 147 k)) else if y = 139 ∧ k = 27 then sm else (if y = 139 ∧ k = 2 then v else mI M y k)) = mI M y k
  by_cases hx : y = 147
  · rw [if_pos hx, hx]
    by_cases c : 2468 * (0 : Int) ≤ (k : Int) ∧ (k : Int) < 2468 * (0 : Int) + 2468
    · rw [if_pos c, ← hb _ (by omega) (by omega)]
      exact congrArg (mI M 147) (by omega)
    · rw [if_neg c, if_neg (by omega)]
  · rw [if_neg hx, if_neg (by omega), if_neg (by omega)]
theorem TOP_U (h : TOP M r s q P old cnt tl kp nt T tr sl bu as B Bi Bs U) (hU2 : U ≤ 99000000) : TOP M r s q P old cnt tl kp nt T tr sl bu as B Bi Bs (U + 100000) := by
  obtain ⟨t1, t2, ⟨d1, d2, d3, d4, d5, d6⟩, t4, t5, t6, t7, t8, t9, t10, t11⟩ := h
  exact ⟨t1, t2, ⟨d1, d2, d3, d4, d5, by omega⟩, t4, t5, BI_le t6 (by omega), t7, t8, t9, fun i hi => ⟨(t10 i hi).1, (t10 i hi).2.1, (t10 i hi).2.2.1, BI_le (t10 i hi).2.2.2 (by omega)⟩, fun hk => ⟨(t11 hk).1, (t11 hk).2.1, (t11 hk).2.2.1, BI_le (t11 hk).2.2.2 (by omega)⟩⟩
theorem TOP_E (h : TOP M r s q P old cnt tl kp nt T tr sl bu as B Bi Bs U) : TopE M U := ⟨r, s, q, P, old, cnt, tl, kp, nt, T, tr, sl, bu, as, B, Bi, Bs, h⟩
/-- both sides answer alike, one after the other -/
def RunsTo (gx gm : MemT → Option (Int32 × MemT)) (M : MemT) (V : Int) : Prop := ∃ v M1 M2, gx M = some (v, M1) ∧ mK M1 139 = 8 ∧ gm M1 = some (v, M2) ∧ TopE M2 V
/-- a question: both sides one after the other -/
theorem Q_run {gx gm : MemT → Option (Int32 × MemT)} (h : TOP M r s q P old cnt tl kp nt T tr sl bu as B Bi Bs U) (hU2 : U ≤ 99000000) (hq : ∀ M' F S S' ho ha sm, XQr M 13 r (rows M 23) nt T tr sl bu as B U → MQr M' nt T tr sl bu as B U → TOP M r s q P old cnt tl kp nt T tr sl bu as B Bi Bs U → (∀ y k, ¬ scr y k → mI M' y k = mI M y k) → QP (gx (WX M 13 (rows M 23) F S)) (gm (WC M' 0 B S' ho ha sm)) M (sI M' 139 2 0) 13 (rows M 23) B) : RunsTo gx gm M (U + 100000) := by
  have hX := TOP_X h
  have hMq := TOP_M h
  have eX : M = WX M 13 (rows M 23) (mI M 73) (fun j => (mJ M 74 j.toNat).toInt) := (WX_self (c := 13)).symm
  obtain ⟨S0, ho0, ha0, sm0, eM⟩ := WC_self (M := M) h.2.2.2.2.2.2.2.1
  obtain ⟨v, F1, S1, S2, ho2, ha2, sm2, g1, g2⟩ := hq M (mI M 73) (fun j => (mJ M 74 j.toNat).toInt) S0 ho0 ha0 sm0 hX hMq h (fun _ _ _ => rfl)
  have h1 : TOP (WX M 13 (rows M 23) F1 S1) r s q P old cnt tl kp nt T tr sl bu as B Bi Bs U := TOP_f h (Nat.le_refl _) (fun _ _ => ⟨rfl, rfl, fun _ => rfl⟩) (fun y k _ hs => WX_scr hs)
  have hM1 := TOP_M h1
  obtain ⟨S3, ho3, ha3, sm3, eM1⟩ := WC_self (M := WX M 13 (rows M 23) F1 S1) h1.2.2.2.2.2.2.2.1
  obtain ⟨v', F1', S1', S2', ho2', ha2', sm2', g1', g2'⟩ := hq (WX M 13 (rows M 23) F1 S1) (mI M 73) (fun j => (mJ M 74 j.toNat).toInt) S3 ho3 ha3 sm3 hX hM1 h (fun y k hs => WX_scr hs)
  rw [eM1] at g2'
  rw [← eX] at g1 g1'
  rw [g1] at g1'
  have ev : v = v' := congrArg Prod.fst (Option.some.inj g1')
  have h2 : TOP (WC (sI (WX M 13 (rows M 23) F1 S1) 139 2 0) 0 B S2' ho2' ha2' sm2') r s q P old cnt tl kp nt T tr sl bu as B Bi Bs U := TOP_f h1 (Nat.le_refl _) (fun _ _ => ⟨rfl, rfl, fun _ => rfl⟩) (fun y k _ hs => WC_scr h1.2.2.2.2.2.2.2.1 hs)
  exact ⟨v, WX M 13 (rows M 23) F1 S1, _, g1, hM1.1.1.1, by rw [ev]; exact g2', TOP_E (TOP_U h2 hU2)⟩
end M11
