/-! ===== PURE 26: the component's fractions, what comes back ===== -/
section XFRAC
variable {M : MemT} {c r : Nat} {R : Nat → Nat → Int32} {F : Nat → Int32} {S : Int → Int} {n : Nat} {T tr sl bu as B : Int → Int} {nt : Int} {w m s l ho ha : Int}
theorem c_fractionOf (h : CSh M c r) (hF : FOk F w m s l ho ha) (hw : 0 ≤ w ∧ w ≤ 2) (hs : 0 < s ∧ s ≤ 1000) {o a : Int} (h0 : 0 ≤ o ∧ o ≤ 2199023255552) (h1 : 0 ≤ a ∧ a ≤ 4398046511104) : g_X6_fractionOf n (WX M c R F S) (c + 60) (zj o) (zj a) = some (zi (fracZ w s o a), WX M c R F S) := by
  obtain ⟨f3, f4, f5, f6, f1, f2⟩ := hF
  obtain ⟨ho1, ho2⟩ := h0
  obtain ⟨hs1, hs2⟩ := hs
  have hm1 : 0 ≤ s * o := Int.mul_nonneg (by omega) ho1
  have hm2 : s * o ≤ 1000 * 2199023255552 := Int.mul_le_mul hs2 ho2 ho1 (by omega)
  have e0 : (lg_cmp (zj a) 0 = 0) = (a = 0) := by
    rw [lg_cmp_eq]
    show (zj a = zj 0) = _
    rw [zj_eq (by omega) (by omega) (by omega) (by omega)]
  unfold g_X6_fractionOf fracZ
  simp only [e0]
  by_cases c0 : a = 0
  · rw [if_pos c0, if_pos c0, c_gF h, i_sb, f5]
  · rw [if_neg c0, if_neg c0, c_gF h, i_sb, f5, c_gF h, i_sb, f3, zi_64 (by omega) (by omega), zj_mul, x_cut n _ (by omega) (by omega) (by omega) (by omega) hw.1 hw.2, i_bd, zj_32]
theorem c_fraction (h : CSh M c r) (hF : FOk F w m s l ho ha) (hw : 0 ≤ w ∧ w ≤ 2) (hm : 0 ≤ m ∧ m ≤ 2) (hs : 0 < s ∧ s ≤ 1000) (hS : sumsOk S) (hh : 0 ≤ ho ∧ ho ≤ 1000000 ∧ 0 ≤ ha ∧ ha ≤ 1000000) : g_X6_fraction n (WX M c R F S) (c + 60) = some (zi (fracZ w s (ownZ m S ho) (allZ m S ha)), WX M c R F S) := by
  have hF' := hF
  obtain ⟨f3, f4, f5, f6, f1, f2⟩ := hF
  have s0 := hS 0 (by omega) (by omega)
  have s1 := hS 1 (by omega) (by omega)
  have s2 := hS 2 (by omega) (by omega)
  have s3 := hS 3 (by omega) (by omega)
  have r0 : aJ (WX M c R F S) (c + 61) 0 = some (zj (S 0)) := c_S h (w := 0) (by omega) (by omega)
  have r1 : aJ (WX M c R F S) (c + 61) 1 = some (zj (S 1)) := c_S h (w := 1) (by omega) (by omega)
  have r2 : aJ (WX M c R F S) (c + 61) 2 = some (zj (S 2)) := c_S h (w := 2) (by omega) (by omega)
  have r3 : aJ (WX M c R F S) (c + 61) 3 = some (zj (S 3)) := c_S h (w := 3) (by omega) (by omega)
  have e1 : (zi m = 0) = (m = 0) := zi_eq (b := 0) (by omega) (by omega) (by omega) (by omega)
  have e2 : (zi m = 1) = (m = 1) := zi_eq (b := 1) (by omega) (by omega) (by omega) (by omega)
  unfold g_X6_fraction ownZ allZ
  rw [c_gF h, i_sb, f4]
  simp only [e1]
  by_cases m0 : m = 0
  · rw [if_pos m0, if_pos m0, if_pos m0, c_oF h, i_sb, r0, i_sb, i_sb, r0, i_sb, i_sb, r1, i_sb, c_kF h, zj_add, c_fractionOf h hF' hw hs (by omega) (by omega), i_bd]
  · rw [if_neg m0, if_neg m0, if_neg m0, i_sb]
    simp only [e2]
    by_cases m1 : m = 1
    · rw [if_pos m1, if_pos m1, if_pos m1, c_oF h, i_sb, r2, i_sb, i_sb, r2, i_sb, i_sb, r3, i_sb, c_kF h, zj_add, c_fractionOf h hF' hw hs (by omega) (by omega), i_bd]
    · rw [if_neg m1, if_neg m1, if_neg m1, c_gF h, i_sb, f1, c_gF h, i_sb, f2, c_kF h, zi_64 (by omega) (by omega), zi_64 (by omega) (by omega), c_fractionOf h hF' hw hs (by omega) (by omega), i_bd]
theorem c_withSales (h : CSh M c r) (hF : FOk F w m s l ho ha) (hw : 0 ≤ w ∧ w ≤ 2) (hs : 0 < s ∧ s ≤ 1000) (hS : sumsOk S) {x : Int} (hx : 0 ≤ x ∧ x ≤ 1000000000) : g_X6_fractionWithSales n (WX M c R F S) (c + 60) (zi x) = some (zi (fracZ w s (S 0 + x) (S 0 + x + S 1)), WX M c R F S) := by
  have s0 := hS 0 (by omega) (by omega)
  have s1 := hS 1 (by omega) (by omega)
  have r0 : aJ (WX M c R F S) (c + 61) 0 = some (zj (S 0)) := c_S h (w := 0) (by omega) (by omega)
  have r1 : aJ (WX M c R F S) (c + 61) 1 = some (zj (S 1)) := c_S h (w := 1) (by omega) (by omega)
  unfold g_X6_fractionWithSales
  simp only [c_oF h, i_sb, r0, r1, c_kF h, zi_64 (show -2147483648 ≤ x by omega) (by omega), zj_add]
  rw [c_fractionOf h hF hw hs (by omega) (by omega), i_bd]
theorem c_allTax (h : CSh M c r) : g_X6_allTax n (WX M c R F S) (c + 60) = some (zj (wholeZ S), WX M c R F S) := by
  have r2 : aJ (WX M c R F S) (c + 61) 2 = some (zj (S 2)) := c_S h (w := 2) (by omega) (by omega)
  have r3 : aJ (WX M c R F S) (c + 61) 3 = some (zj (S 3)) := c_S h (w := 3) (by omega) (by omega)
  have r4 : aJ (WX M c R F S) (c + 61) 4 = some (zj (S 4)) := c_S h (w := 4) (by omega) (by omega)
  unfold g_X6_allTax
  simp only [c_oF h, i_sb, r2, r3, r4, zj_add]
  rfl
def lefZ (w s : Int) (S : Int → Int) (f : Int) : Int := S 3 + S 4 - cutZ w (S 4 * f) s
theorem lefZ_its {w s f : Int} {S : Int → Int} : lefZ w s S f = wholeZ S - itsZ w s S f := by
  unfold lefZ wholeZ itsZ
  omega
theorem lefZ_rng {w s f : Int} {S : Int → Int} (hs : 0 < s ∧ s ≤ 1000) (hS : sumsOk S) (hf : 0 ≤ f ∧ f ≤ 1000) : -1152921504606846976 ≤ lefZ w s S f ∧ lefZ w s S f ≤ 1152921504606846976 := by
  have s3 := hS 3 (by omega) (by omega)
  have s4 := hS 4 (by omega) (by omega)
  have hp1 : 0 ≤ S 4 * f := Int.mul_nonneg s4.1 hf.1
  have hp2 : S 4 * f ≤ 1099511627776 * 1000 := Int.mul_le_mul s4.2 hf.2 hf.1 (by omega)
  have hc := cutZ_abs (w := w) (a := S 4 * f) (b := s) hs.1
  unfold lefZ
  omega
theorem c_leftBy (h : CSh M c r) (hF : FOk F w m s l ho ha) (hw : 0 ≤ w ∧ w ≤ 2) (hs : 0 < s ∧ s ≤ 1000) (hS : sumsOk S) {f : Int} (hf : 0 ≤ f ∧ f ≤ 1000) : g_X6_leftBy n (WX M c R F S) (c + 60) (zi f) = some (zj (lefZ w s S f), WX M c R F S) := by
  obtain ⟨f3, f4, f5, f6, f1, f2⟩ := hF
  have s4 := hS 4 (by omega) (by omega)
  have r3 : aJ (WX M c R F S) (c + 61) 3 = some (zj (S 3)) := c_S h (w := 3) (by omega) (by omega)
  have r4 : aJ (WX M c R F S) (c + 61) 4 = some (zj (S 4)) := c_S h (w := 4) (by omega) (by omega)
  have hp1 : 0 ≤ S 4 * f := Int.mul_nonneg s4.1 hf.1
  have hp2 : S 4 * f ≤ 1099511627776 * 1000 := Int.mul_le_mul s4.2 hf.2 hf.1 (by omega)
  unfold g_X6_leftBy
  simp only [c_oF h, i_sb, r3, r4, c_gF h, f5, f3, zi_64 (show -2147483648 ≤ f by omega) (by omega), zi_64 (show -2147483648 ≤ s by omega) (by omega), zj_mul, zj_add]
  rw [x_cut n _ (by omega) (by omega) hs.1 (by omega) hw.1 hw.2, i_bd, zj_sub]
  rfl
theorem c_isSmallLeft (h : CSh M c r) (hF : FOk F w m s l ho ha) (hl : r31 l) (hS : sumsOk S) {x : Int} (hx : -1152921504606846976 ≤ x ∧ x ≤ 1152921504606846976) : g_X6_isSmallLeft n (WX M c R F S) (c + 60) (zj x) = some (bI2 (x ≤ l ∧ 2 * x ≤ wholeZ S), WX M c R F S) := by
  obtain ⟨f3, f4, f5, f6, f1, f2⟩ := hF
  obtain ⟨l1, l2⟩ := hl
  have s2 := hS 2 (by omega) (by omega)
  have s3 := hS 3 (by omega) (by omega)
  have s4 := hS 4 (by omega) (by omega)
  have k1 : (zj l < zj x) = (l < x) := zj_lt (by omega) (by omega) (by omega) (by omega)
  have k2 : (zj (wholeZ S) < zj (2 * x)) = (wholeZ S < 2 * x) := zj_lt (by unfold wholeZ; omega) (by unfold wholeZ; omega) (by omega) (by omega)
  unfold g_X6_isSmallLeft bI2
  rw [c_gF h, i_sb, f6, zi_64 l1 l2]
  simp only [lg_gt, k1]
  by_cases c1 : l < x
  · rw [if_pos c1, if_neg (by omega)]; exact i_rz0
  · have y2 : (2 : Int64) = zj 2 := rfl
    rw [if_neg c1, c_kF h, c_allTax h, i_bd]
    simp only [y2, zj_mul, k2]
    by_cases c2 : wholeZ S < 2 * x
    · rw [if_pos c2, if_neg (by omega)]; exact i_rz0
    · rw [if_neg c2, if_pos (by omega)]; exact i_rz1
theorem c_isSmall (h : CSh M c r) (hF : FOk F w m s l ho ha) (hw : 0 ≤ w ∧ w ≤ 2) (hs : 0 < s ∧ s ≤ 1000) (hl : r31 l) (hS : sumsOk S) {f : Int} (hf : 0 ≤ f ∧ f ≤ 1000) : g_X6_isSmall n (WX M c R F S) (c + 60) (zi f) = some (smallI w s l S f, WX M c R F S) := by
  unfold g_X6_isSmall
  rw [c_kF h, c_leftBy h hF hw hs hS hf, i_bd, c_kF h, c_isSmallLeft h hF hl hS (lefZ_rng hs hS hf), i_bd, rz_bI, lefZ_its]
  rfl
theorem c_backBy (h : CSh M c r) (hF : FOk F w m s l ho ha) (hw : 0 ≤ w ∧ w ≤ 2) (hs : 0 < s ∧ s ≤ 1000) (hl : r31 l) (hS : sumsOk S) {f : Int} (hf : 0 ≤ f ∧ f ≤ 1000) : g_X6_backBy n (WX M c R F S) (c + 60) (zi f) = some (zi (backZ w s l S f), WX M c R F S) := by
  unfold g_X6_backBy
  rw [c_kF h, c_leftBy h hF hw hs hS hf, i_bd, c_kF h, c_isSmallLeft h hF hl hS (lefZ_rng hs hS hf), i_bd]
  show (if bI2 _ = zi 0 then _ else _) = _
  simp only [bI_0, lefZ_its]
  unfold backZ
  by_cases c1 : wholeZ S - itsZ w s S f ≤ l ∧ 2 * (wholeZ S - itsZ w s S f) ≤ wholeZ S
  · rw [if_neg (fun q => q c1), if_pos c1, c_kF h, c_allTax h, i_bd, zj_32]
  · rw [if_pos c1, if_neg c1, c_kF h, c_allTax h, i_bd, zj_sub, zj_32, show wholeZ S - (wholeZ S - itsZ w s S f) = itsZ w s S f by omega]
theorem c_leastLimit (h : CSh M c r) (hF : FOk F w m s l ho ha) (hw : 0 ≤ w ∧ w ≤ 2) (hs : 0 < s ∧ s ≤ 1000) (hS : sumsOk S) {f : Int} (hf : 0 ≤ f ∧ f ≤ 1000) : g_X6_leastLimit n (WX M c R F S) (c + 60) (zi f) = some (zi (if 2 * lefZ w s S f ≤ wholeZ S then lefZ w s S f else -2), WX M c R F S) := by
  have hx := lefZ_rng (w := w) hs hS hf
  have s2 := hS 2 (by omega) (by omega)
  have s3 := hS 3 (by omega) (by omega)
  have s4 := hS 4 (by omega) (by omega)
  have k2 : (zj (wholeZ S) < zj (2 * lefZ w s S f)) = (wholeZ S < 2 * lefZ w s S f) := zj_lt (by unfold wholeZ; omega) (by unfold wholeZ; omega) (by omega) (by omega)
  unfold g_X6_leastLimit
  rw [c_kF h, c_leftBy h hF hw hs hS hf, i_bd, c_kF h, c_allTax h, i_bd]
  have y2 : (2 : Int64) = zj 2 := rfl
  simp only [lg_gt, y2, zj_mul, k2]
  by_cases c2 : wholeZ S < 2 * lefZ w s S f
  · rw [if_pos c2, if_neg (by omega)]; rfl
  · rw [if_neg c2, if_pos (by omega), zj_32]
/-- what stands round a clerk: memory, rules, books, ranges -/
def COk (M : MemT) (c r : Nat) (R : Nat → Nat → Int32) (nt : Int) (T tr sl bu as B : Int → Int) : Prop :=
  CSh M c r ∧ RU M r nt T tr sl bu as ∧ RBk T B nt R ∧ (0 ≤ nt ∧ nt ≤ 4) ∧ told3 T ∧ trOk tr ∧ BS B ∧ BN B ∧ ANr T B
theorem annZ_r {T tr B : Int → Int} {t y : Int} (hT : told3 T) (hB : BS B) (hN : BN B) (hA : ANr T B) (h0 : 0 ≤ t) (h1 : t < 4) (y0 : 0 ≤ y) (y1 : y < 16) : 0 ≤ annZ T tr B t y ∧ annZ T tr B t y ≤ T 1 := by
  have hh := hB.2 t h0 h1
  unfold annZ
  split
  · exact hA t y h0 h1 y0 (by assumption)
  · exact frZ_rng hT (sumsOk_y hB h0 h1 y0 y1) hh.1 hh.2.1
theorem c_annual (H : COk M c r R nt T tr sl bu as B) (hn : 5 < n) {t y : Int} (t0 : 0 ≤ t) (t1 : t < nt) (y0 : 0 ≤ y) (y1 : y < 16) : ∃ F1 S1, g_X3_annualFraction n (WX M c R F S) c (zi t) (zi y) = some (zi (annZ T tr B t y), WX M c R F1 S1) := by
  obtain ⟨h, hU, ⟨hR, hH, hA⟩, hnt, hT, htr, hB, hN, hAN⟩ := H
  obtain ⟨n1, n2⟩ := id hN
  have hy : 0 ≤ yearZ B ∧ yearZ B < 16 := by unfold yearZ; omega
  have e1 : (zi (yearZ B) ≤ zi y) = (yearZ B ≤ y) := zi_le (by omega) (by omega) (by omega) (by omega)
  unfold g_X3_annualFraction annZ
  rw [c_kC h, c_thisYear h hR hN, i_bd]
  simp only [e1]
  by_cases c1 : yearZ B ≤ y
  · obtain ⟨F1, S1, g1, f1, s1⟩ := c_ofYear (n := n) (F := F) (S := S) h hU hH hR hB hn t0 t1 hnt.2 y0 y1
    have hh := hB.2 t t0 (by omega)
    refine ⟨F1, S1, ?_⟩
    rw [if_pos c1, if_neg (by omega), c_kC h, g1, i_bd, c_kF h, c_fraction h f1 hT.1 (htr t t0 (by omega)).1 (by have := hT.2.1; omega) (sumsOk_congr (sumsOk_y hB t0 (by omega) y0 y1) s1) (by omega), i_bd]
    exact congrArg (fun x => some (zi x, _)) (frZ_congr s1)
  · refine ⟨F, S, ?_⟩
    rw [if_neg c1, if_pos (by omega), c_o1 h, i_sb, c_kB h]
    show bd (g_X2_keptAnnual n (WR (WF M (c + 60) F S) (c + 10) R) (c + 10) _ _) _ = _
    rw [x_keptAnnual (wx_B h) hR t0 (by omega) y0 (by omega), i_bd]
    rfl
theorem c_yearBack (H : COk M c r R nt T tr sl bu as B) (hn : 5 < n) {t y : Int} (t0 : 0 ≤ t) (t1 : t < nt) (y0 : 0 ≤ y) (y1 : y < 16) : ∃ F1 S1, g_X3_yearBack n (WX M c R F S) c (zi t) (zi y) = some (zi (backZ (T 0) (T 1) (T 2) (ySum B t y) (annZ T tr B t y)), WX M c R F1 S1) := by
  obtain ⟨F1, S1, g1⟩ := c_annual (n := n) (F := F) (S := S) H hn t0 t1 y0 y1
  obtain ⟨h, hU, ⟨hR, hH, hA⟩, hnt, hT, htr, hB, hN, hAN⟩ := H
  obtain ⟨F2, S2, g2, f2, s2⟩ := c_ofYear (n := n) (F := F1) (S := S1) h hU hH hR hB hn t0 t1 hnt.2 y0 y1
  have hr := annZ_r (tr := tr) hT hB hN hAN t0 (show t < 4 by omega) y0 y1
  have ht1 := hT.2.1
  have ht2 := hT.2.2
  refine ⟨F2, S2, ?_⟩
  unfold g_X3_yearBack
  rw [c_kC h, g1, i_bd, c_kC h, g2, i_bd, c_kF h, c_backBy h f2 hT.1 (by omega) ⟨by omega, by omega⟩ (sumsOk_congr (sumsOk_y hB t0 (by omega) y0 y1) s2) (by omega), i_bd, backZ_congr s2]
theorem c_trued (H : COk M c r R nt T tr sl bu as B) (hn : 5 < n) {t y : Int} (t0 : 0 ≤ t) (t1 : t < nt) (y0 : 0 ≤ y) (y1 : y < 16) : ∃ F1 S1, g_X3_trued n (WX M c R F S) c (zi t) (zi y) = some (zi (backZ (T 0) (T 1) (T 2) (ySum B t y) (annZ T tr B t y) - bkIn B t y), WX M c R F1 S1) := by
  obtain ⟨F1, S1, g1⟩ := c_yearBack (n := n) (F := F) (S := S) H hn t0 t1 y0 y1
  obtain ⟨h, hU, ⟨hR, hH, hA⟩, hnt, hT, htr, hB, hN, hAN⟩ := H
  refine ⟨F1, S1, ?_⟩
  unfold g_X3_trued
  rw [c_kC h, g1, i_bd, c_o1 h, i_sb, c_kB h]
  show bd (g_X2_recoveredInYear n (WR (WF M (c + 60) F1 S1) (c + 10) R) (c + 10) _ _) _ = _
  rw [x_recYear (wx_B h) hR hn t0 (by omega) y0 y1, i_bd, zi_sub]
  rfl
theorem c_byBasis (H : COk M c r R nt T tr sl bu as B) (hn : 5 < n) {t q bs : Int} (t0 : 0 ≤ t) (t1 : t < nt) (q0 : 0 ≤ q) (q1 : q < 64) (hb : 0 ≤ bs ∧ bs ≤ 1) : ∃ F1 S1, g_X3_fractionByBasis n (WX M c R F S) c (zi t) (zi q) (zi bs) = some (zi (provZ T tr B t q bs), WX M c R F1 S1) := by
  obtain ⟨h, hU, ⟨hR, hH, hA⟩, hnt, hT, htr, hB, hN, hAN⟩ := H
  obtain ⟨F1, S1, g1, f1, s1⟩ := c_ofQuarter (n := n) (F := F) (S := S) h hU hH hR hB hT hn t0 t1 hnt.2 q0 q1
  have hh := hB.2 t t0 (by omega)
  have ht := htr t t0 (by omega)
  have ht1 := hT.2.1
  have g3 : g_X6_fraction n (WX M c R F1 S1) (c + 60) = some (zi (frZ T tr t (qSum B t q) (B (1281 + 2 * t)) (B (1282 + 2 * t))), WX M c R F1 S1) := by
    rw [c_fraction h f1 hT.1 ht.1 (by omega) (sumsOk_congr (sumsOk_q hB t0 (by omega) q0 q1) s1) (by omega)]
    exact congrArg (fun x => some (zi x, _)) (frZ_congr s1)
  have e1 : (zi bs = 1) = (bs = 1) := zi_eq (b := 1) (by omega) (by omega) (by omega) (by omega)
  have e4 : zi q / 4 = zi (q / 4) := zi_div q0 (by omega) (b := 4) (by omega) (by omega)
  have el : (zi (q / 4) ≤ 0) = (q / 4 ≤ 0) := zi_le (b := 0) (by omega) (by omega) (by omega) (by omega)
  have hu := (hU.2.1 t t0 t1).2.2.2.1
  have hz : ((4 : Int32) = 0) = False := eq_false (by decide)
  have em : (-2 : Int32) = zi (-2) := by decide
  by_cases b1 : bs = 1
  · by_cases c4 : q / 4 ≤ 0
    · have e7 : (zi (if tr (8 * t + 6) = 1 then tr (8 * t + 7) else -2) = zi (-2)) = ¬ (tr (8 * t + 6) = 1) := by
        by_cases c6 : tr (8 * t + 6) = 1
        · rw [if_pos c6, zi_eq (by omega) (by omega) (by omega) (by omega)]
          exact propext ⟨fun q => absurd q (by omega), fun q => absurd c6 q⟩
        · rw [if_neg c6]
          exact propext ⟨fun _ => c6, fun _ => rfl⟩
      by_cases c6 : tr (8 * t + 6) = 1
      · refine ⟨F, S, ?_⟩
        unfold g_X3_fractionByBasis provZ
        simp only [i_jp, e1, hz, if_false]
        rw [if_pos b1, e4, if_pos (show zi (q / 4) ≤ 0 by rw [el]; exact c4), if_pos b1, c_o0 h, i_sb, c_r4 h, i_sb, c_a4 h t0 (by omega), i_sb, hu, if_neg (by rw [em, e7]; exact fun q => q c6), i_sb, c_r4 h, i_sb, c_a4 h t0 (by omega), i_sb, hu, i_sb, c_gR h, i_sb, hU.1.2.2.1, if_pos c6, if_pos c6, if_neg (show ¬ bs = 0 by omega), if_pos (show q < 4 by omega)]
        have elt : (zi (T 1) < zi (tr (8 * t + 7))) = (T 1 < tr (8 * t + 7)) := zi_lt (by omega) (by omega) (by omega) (by omega)
        unfold firZ
        simp only [elt]
        by_cases c7 : T 1 ≤ tr (8 * t + 7)
        · rw [if_pos c7]
          by_cases c8 : T 1 < tr (8 * t + 7)
          · rw [if_pos c8]
          · rw [if_neg c8, show tr (8 * t + 7) = T 1 by omega]
        · rw [if_neg c7, if_neg (by omega)]
      · refine ⟨F1, S1, ?_⟩
        unfold g_X3_fractionByBasis provZ
        simp only [i_jp, e1, hz, if_false]
        rw [if_pos b1, e4, if_pos (show zi (q / 4) ≤ 0 by rw [el]; exact c4), if_pos b1, c_o0 h, i_sb, c_r4 h, i_sb, c_a4 h t0 (by omega), i_sb, hu, if_pos (by rw [em, e7]; exact c6), c_kC h, g1, i_bd, c_kF h, g3, i_bd, if_neg (by omega), if_pos (by omega), if_neg c6]
    · refine ⟨F, S, ?_⟩
      unfold g_X3_fractionByBasis provZ
      simp only [i_jp, e1, hz, if_false]
      rw [if_pos b1, e4, if_neg (show ¬ (zi (q / 4) ≤ 0) by rw [el]; exact c4), c_o1 h, i_sb, c_kB h]
      show bd (g_X2_keptAnnual n (WR (WF M (c + 60) F S) (c + 10) R) (c + 10) _ (zi (q / 4) - zi 1)) _ = _
      rw [zi_sub, x_keptAnnual (wx_B h) hR t0 (by omega) (by omega) (by omega), i_bd, if_neg (by omega), if_neg (by omega), show 1801 + 16 * t + (q / 4 - 1) = 1801 + 16 * t + q / 4 - 1 by omega]
      rfl
  · refine ⟨F1, S1, ?_⟩
    unfold g_X3_fractionByBasis provZ
    simp only [i_jp, e1, hz, if_false]
    rw [if_neg b1, if_neg b1, c_kC h, g1, i_bd, c_kF h, g3, i_bd, if_pos (by omega)]
end XFRAC
