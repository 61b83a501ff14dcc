/-! ===== PURE 27: the component's amounts of an asset, its worth ===== -/
section XWORTH
variable {M : MemT} {c r : Nat} {R : Nat → Nat → Int32} {F : Nat → Int32} {S : Int → Int} {n : Nat} {T tr sl bu as B : Int → Int} {nt : Int} {a : Nat}
theorem c_gA (h : CSh M c r) (ha : a < 8) {k : Nat} : gI (WX M c R F S) 0 (c + 10 + 10 + 5 * a) k = some (R (10 + 5 * a) k) := x_gA (M := WF M (c + 60) F S) (wx_B (F := F) (S := S) h) ha
theorem c_oA15 (h : CSh M c r) (ha : a < 8) : gO (WX M c R F S) 0 (c + 10 + 10 + 5 * a) 15 = some (c + 10 + 10 + 5 * a + 1) := x_oA15 (M := WF M (c + 60) F S) (wx_B (F := F) (S := S) h) ha
theorem c_aA15 (h : CSh M c r) (ha : a < 8) {k : Int} (h0 : 0 ≤ k) (h1 : k < 4) : aI (WX M c R F S) 10 (c + 10 + 10 + 5 * a + 1) (zi k) = some (R (10 + 5 * a + 1) k.toNat) := x_aA15 (M := WF M (c + 60) F S) (wx_B (F := F) (S := S) h) ha h0 h1
theorem c_qWorth (h : CSh M c r) (hU : RU M r nt T tr sl bu as) {u f : Int} (hu : 0 ≤ u ∧ u ≤ 2) : g_X3_quarterWorth n (WX M c R F S) c (zi u) (zi f) = some (zi (qwZ T f u), WX M c R F S) := by
  have e0 : (zi u = 0) = (u = 0) := zi_eq (b := 0) (by omega) (by omega) (by omega) (by omega)
  have e1 : (zi u = 1) = (u = 1) := zi_eq (b := 1) (by omega) (by omega) (by omega) (by omega)
  unfold g_X3_quarterWorth qwZ
  simp only [e0, e1]
  by_cases c0 : u = 0
  · rw [if_pos c0, if_pos c0, c_o0 h, i_sb, c_gR h, i_sb, hU.1.2.2.1]
  · rw [if_neg c0, if_neg c0]
    by_cases c1 : u = 1
    · rw [if_pos c1, if_pos c1]; rfl
    · rw [if_neg c1, if_neg c1]
theorem c_worthBy (h : CSh M c r) (hU : RU M r nt T tr sl bu as) (hR : RM B R) (hT : told3 T) (hN : BN B) (ha : a < 8) (hRA : RA T B R a) (hA : AO B a) (hth : AtZ B a 47 = yearZ B - AtZ B a 5 / 4) (hn : 5 < n) {use f : Int} (hu : 0 ≤ use ∧ use ≤ 2) (hf : 0 ≤ f ∧ f ≤ T 1) : g_X3_worthBy n (WX M c R F S) c (c + 10 + 10 + 5 * a) (zi use) (zi f) = some (zi (wthZ T B a use f), WX M c R F S) := by
  obtain ⟨n1, n2⟩ := id hN
  have h47 := hA.2.2.2.2.2.2.2.2.2.2.2.2
  have hAu := hA.2.2.2.2.2.2.2.2.2.2.2.1
  have t1 := hT.2.1
  have e14 := hRA.2.1.2.2.2.2.2.2.2.2
  have e0 : (zi (AtZ B a 47) = 0) = (AtZ B a 47 = 0) := zi_eq (b := 0) (by omega) (by omega) (by omega) (by omega)
  unfold g_X3_worthBy wthZ
  rw [c_gA h ha, i_sb, e14]
  simp only [e0]
  by_cases c0 : AtZ B a 47 = 0
  · rw [if_pos c0, if_pos (by omega), c_kC h, c_qWorth h hU hu, i_bd]
  · rw [if_neg c0, if_neg (by omega)]
    have hz : ((4 : Int32) = 0) = False := eq_false (by decide)
    simp only [hz, if_false, i_jp]
    rw [show (WX M c R F S, (0 : Int32), (0 : Int32)) = (fun i : Nat => (WX M c R F S, zi (accW T B a use f i), zi (i : Int))) 0 from rfl]
    rw [loop_k (fun i : Nat => (WX M c R F S, zi (accW T B a use f i), zi (i : Int))) (WX M c R F S, zi (accW T B a use f 4), zi 4) 4 (fun i hi => ?_) ?_ n (by omega), i_sb]
    · dsimp only
      have hacc := accW_rng (B := B) (a := a) (use := use) hT hf 4
      have hacc1 := hacc.1
      have hacc2 : accW T B a use f 4 ≤ 4000 := by have := hacc.2; omega
      rw [c_o0 h, i_sb, c_gR h, i_sb, hU.1.2.1, zi_64 (by omega) (by omega), show (4 : Int64) = zj 4 from rfl, x_cut n _ (by omega) (by omega) (by omega) (by omega) hT.1.1 hT.1.2, i_bd, zj_32]
    · dsimp only
      rw [if_pos (by show zi 4 ≤ zi ((4 : Nat) : Int); exact Int32.le_refl _)]; rfl
    · dsimp only
      have em : zi (B 0) - zi (B 0) / 4 * 4 = zi (B 0 % 4) := zi_rem n1 (by omega) (m := 4) (by omega) (by omega)
      have em2 : (zi (B 0 % 4) ≤ zi i) = (B 0 % 4 ≤ i) := zi_le (by omega) (by omega) (by omega) (by omega)
      have h10 : ((1 : Int32) = 0) = False := eq_false (by decide)
      rw [if_neg (by show ¬ (zi 4 ≤ zi (i : Int)); rw [zi_le (by omega) (by omega) (by omega) (by omega)]; omega), c_o1 h, i_sb, c_now h, i_sb, hR.1.1, em]
      simp only [em2, h10, if_false, if_true]
      show _ = some (Sum.inl (WX M c R F S, zi (accW T B a use f i + qwZ T f (usZ B a use i)), zi ((i + 1 : Nat) : Int)))
      rw [show zi ((i + 1 : Nat) : Int) = zi (i : Int) + 1 from (zi_add (i : Int) 1).symm]
      unfold usZ
      by_cases cq : B 0 % 4 ≤ (i : Int)
      · rw [if_pos cq, if_pos cq, c_kC h, c_qWorth h hU hu, i_bd, zi_add]
      · have hv := hAu (i : Int) (by omega) (by omega)
        have he := hRA.2.2.1 (by omega) (i : Int) (by omega) (by omega)
        rw [if_neg cq, if_neg cq, c_oA15 h ha, i_sb, c_aA15 h ha (by omega) (by omega), i_sb, he, c_kC h, c_qWorth h hU hv, i_bd, zi_add]
theorem c_adjustedBy (h : CSh M c r) (hU : RU M r nt T tr sl bu as) (hT : told3 T) (ha : a < 8) (e3 : R (10 + 5 * a) 3 = zi (AtZ B a 3)) (e4 : R (10 + 5 * a) 4 = zi (AtZ B a 4)) (hA : AO B a) {w b : Int} (hw : -1000 ≤ w - b ∧ w - b ≤ 1000) : g_X3_adjustedBy n (WX M c R F S) c (c + 10 + 10 + 5 * a) (zi w) (zi b) = some (zi (adjZ T B a w b), WX M c R F S) := by
  have hs := spanT hT hA
  obtain ⟨t0, t1, t2⟩ := hT
  obtain ⟨-, -, -, h3, h4, -⟩ := hA
  have hp := mul_rng (a := AtZ B a 3) (b := w - b) (x := 99999) (y := 1000) (by omega) (by omega) (by omega) (by omega)
  unfold g_X3_adjustedBy adjZ
  rw [c_gA h ha, i_sb, c_gA h ha, i_sb, c_o0 h, i_sb, c_gR h, i_sb, i_sb, c_gR h, i_sb, hU.1.2.2.1, hU.1.2.1, e3, e4, zi_sub, zi_64 (by omega) (by omega), zi_64 (by omega) (by omega), zi_64 (by omega) (by omega), zi_64 (by omega) (by omega), zj_mul, zj_mul, x_cut n _ (by omega) (by omega) hs.1 (by omega) t0.1 t0.2, i_bd, zj_32]
theorem c_firstBy (h : CSh M c r) (hU : RU M r nt T tr sl bu as) (hT : told3 T) (ha : a < 8) (e3 : R (10 + 5 * a) 3 = zi (AtZ B a 3)) (hA : AO B a) {b : Int} (hb : 0 ≤ b ∧ b ≤ 1000) : g_X3_firstBy n (WX M c R F S) c (c + 10 + 10 + 5 * a) (zi b) = some (zi (fstZ T B a b), WX M c R F S) := by
  obtain ⟨t0, t1, t2⟩ := hT
  obtain ⟨-, -, -, h3, -⟩ := hA
  have hp := mul_rng (a := AtZ B a 3) (b := b) (x := 99999) (y := 1000) (by omega) (by omega) (by omega) (by omega)
  unfold g_X3_firstBy fstZ
  rw [c_gA h ha, i_sb, c_o0 h, i_sb, c_gR h, i_sb, i_sb, c_gR h, i_sb, hU.1.2.2.1, hU.1.2.1, e3, zi_64 (by omega) (by omega), zi_64 (by omega) (by omega), zi_64 (by omega) (by omega), zj_mul, x_cut n _ (by omega) (by omega) (by omega) (by omega) t0.1 t0.2, i_bd, zj_32]
theorem c_finalFor (h : CSh M c r) (hU : RU M r nt T tr sl bu as) (hT : told3 T) (ha : a < 8) (e3 : R (10 + 5 * a) 3 = zi (AtZ B a 3)) (e4 : R (10 + 5 * a) 4 = zi (AtZ B a 4)) (hA : AO B a) {d k b : Int} (hd : -10 ≤ d ∧ d ≤ 10) (hk : -2 ≤ k ∧ k ≤ 3) (hb : 0 ≤ b ∧ b ≤ 1000) : g_X3_finalFor n (WX M c R F S) c (c + 10 + 10 + 5 * a) (zi k) (zi d) (zi b) = some (zi (lastZ T B a d k b), WX M c R F S) := by
  have hs := spanT hT hA
  obtain ⟨t0, t1, t2⟩ := hT
  obtain ⟨-, -, -, h3, h4, -⟩ := hA
  have hp1 := mul_rng (a := AtZ B a 3) (b := d) (x := 99999) (y := 10) (by omega) (by omega) (by omega) (by omega)
  have hg : -1000 ≤ (if k = 0 then T 1 else 0) - b ∧ (if k = 0 then T 1 else 0) - b ≤ 1000 := by split <;> omega
  have hp := mul_rng (a := AtZ B a 3 * d) (b := (if k = 0 then T 1 else 0) - b) (x := 999990) (y := 1000) (by omega) (by omega) hg.1 hg.2
  have e0 : (zi k = 0) = (k = 0) := zi_eq (b := 0) (by omega) (by omega) (by omega) (by omega)
  have tail : ∀ g : Int, g = (if k = 0 then T 1 else 0) → ((gI (WX M c R F S) 0 (c + 10 + 10 + 5 * a) 3).bind (fun v4 => (gI (WX M c R F S) 0 (c + 10 + 10 + 5 * a) 4).bind (fun v5 => (gO (WX M c R F S) 2 c 0).bind (fun j6 => (gI (WX M c R F S) 6 j6 8).bind (fun v7 => (gO (WX M c R F S) 2 c 0).bind (fun j8 => (gI (WX M c R F S) 6 j8 7).bind (fun v9 => bd (g_X9_cut n (WX M c R F S) (((Int32.toInt64 v4) * (Int32.toInt64 (zi d))) * (Int32.toInt64 (zi g - zi b))) ((Int32.toInt64 v5) * (Int32.toInt64 v7)) v9) (fun r10 M11 => some (Int64.toInt32 r10, M11))))))))) = some (zi (lastZ T B a d k b), WX M c R F S) := by
    intro g hg'
    unfold lastZ
    rw [← hg'] at hg hp ⊢
    rw [c_gA h ha, i_sb, c_gA h ha, i_sb, c_o0 h, i_sb, c_gR h, i_sb, i_sb, c_gR h, i_sb, hU.1.2.2.1, hU.1.2.1, e3, e4, zi_sub, zi_64 (by omega) (by omega), zi_64 (by omega) (by omega), zi_64 (by omega) (by omega), zi_64 (by omega) (by omega), zi_64 (by omega) (by omega), zj_mul, zj_mul, zj_mul, x_cut n _ (by omega) (by omega) hs.1 (by omega) t0.1 t0.2, i_bd, zj_32]
  unfold g_X3_finalFor
  simp only [i_jp, e0]
  by_cases c0 : k = 0
  · rw [if_pos c0, c_o0 h, i_sb, c_gR h, i_sb, hU.1.2.2.1]
    have := tail (T 1) (if_pos c0).symm
    rw [c_o0 h] at this
    exact this
  · rw [if_neg c0]
    exact tail 0 (if_neg c0).symm
theorem c_worthNow (H : COk M c r R nt T tr sl bu as B) (ha : a < 8) (hRA : RA T B R a) (hA : AO B a) (hO : AtZ B a 0 < nt) (hth : AtZ B a 47 = yearZ B - AtZ B a 5 / 4) (hn : 5 < n) {use : Int} (hu : 0 ≤ use ∧ use ≤ 2) : ∃ F1 S1, g_X3_worthNow n (WX M c R F S) c (c + 10 + 10 + 5 * a) (zi use) = some (zi (worthZ T tr B a use), WX M c R F1 S1) := by
  have H' := H
  obtain ⟨h, hU, ⟨hR, hH, -⟩, hnt, hT, htr, hB, hN, hAN⟩ := H
  obtain ⟨n1, n2⟩ := id hN
  have hy : 0 ≤ yearZ B ∧ yearZ B < 16 := by unfold yearZ; omega
  obtain ⟨F1, S1, g1⟩ := c_annual (n := n) (F := F) (S := S) H' hn hA.1.1 hO hy.1 hy.2
  have hr := annZ_r (tr := tr) hT hB hN hAN hA.1.1 hA.1.2 hy.1 hy.2
  refine ⟨F1, S1, ?_⟩
  unfold g_X3_worthNow worthZ
  rw [c_gA h ha, i_sb, hRA.1.1, c_kC h, c_thisYear h hR hN, i_bd, c_kC h, g1, i_bd, c_kC h, c_worthBy h hU hR hT hN ha hRA hA hth hn hu hr, i_bd]
def basZ (T tr B : Int → Int) (a : Int) : Int := if 0 < AtZ B a 47 then AtZ B a 6 else worthZ T tr B a (AtZ B a 2)
theorem c_baseNow (H : COk M c r R nt T tr sl bu as B) (ha : a < 8) (hRA : RA T B R a) (hA : AO B a) (hO : AtZ B a 0 < nt) (hth : AtZ B a 47 = yearZ B - AtZ B a 5 / 4) (hn : 5 < n) : ∃ F1 S1, g_X3_baseNow n (WX M c R F S) c (c + 10 + 10 + 5 * a) = some (zi (basZ T tr B a), WX M c R F1 S1) := by
  have H' := H
  obtain ⟨h, hU, ⟨hR, hH, -⟩, hnt, hT, htr, hB, hN, hAN⟩ := H
  have h47 := hA.2.2.2.2.2.2.2.2.2.2.2.2
  have e14 := hRA.2.1.2.2.2.2.2.2.2.2
  have e0 : (zi (AtZ B a 47) ≤ 0) = (AtZ B a 47 ≤ 0) := zi_le (b := 0) (by omega) (by omega) (by omega) (by omega)
  obtain ⟨F1, S1, g1⟩ := c_worthNow (n := n) (F := F) (S := S) H' ha hRA hA hO hth hn hA.2.2.1
  by_cases c0 : AtZ B a 47 ≤ 0
  · refine ⟨F1, S1, ?_⟩
    unfold g_X3_baseNow basZ
    rw [c_gA h ha, i_sb, e14, if_pos (show zi (AtZ B a 47) ≤ 0 by rw [e0]; exact c0), if_neg (show ¬ (0 < AtZ B a 47) by omega), c_gA h ha, i_sb, hRA.1.2.2.1, c_kC h, g1, i_bd]
  · refine ⟨F, S, ?_⟩
    unfold g_X3_baseNow basZ
    rw [c_gA h ha, i_sb, e14, if_neg (show ¬ (zi (AtZ B a 47) ≤ 0) by rw [e0]; exact c0), if_pos (show 0 < AtZ B a 47 by omega), c_gA h ha, i_sb, hRA.2.1.2.2.2.1]
end XWORTH
