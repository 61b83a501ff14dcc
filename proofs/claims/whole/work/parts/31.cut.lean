/-! ===== PURE 1: CUT ===== -/
theorem zj_nonneg {x : Int64} : (0 ≤ x) = (x.toBitVec.msb = false) := by
  rw [Int64.le_iff_toInt_le]
  show ((0 : Int) ≤ x.toBitVec.toInt) = _
  rw [BitVec.msb_eq_toInt, decide_eq_false_iff_not, Int.not_lt]
theorem xor_sign {a b : Int} (h1 : -9223372036854775808 ≤ a) (h2 : a ≤ 9223372036854775807) (h3 : 0 < b) (h4 : b ≤ 9223372036854775807) : (0 ≤ zj a ^^^ zj b) = (0 ≤ a) := by
  have hb : (zj b).toBitVec.msb = false := by
    rw [← zj_nonneg]
    show zj 0 ≤ zj b
    rw [zj_le (by omega) (by omega) (by omega) (by omega)]; omega
  have ha : ((zj a).toBitVec.msb = false) = (0 ≤ a) := by
    rw [← zj_nonneg]
    show (zj 0 ≤ zj a) = _
    rw [zj_le (by omega) (by omega) (by omega) (by omega)]
  rw [zj_nonneg, Int64.toBitVec_xor, BitVec.msb_xor, hb, Bool.xor_false, ha]
theorem floor_t {a b : Int} (hb : 0 < b) : a / b = if 0 ≤ a ∨ a.tdiv b * b = a then a.tdiv b else a.tdiv b - 1 := by
  have h := Int.tdiv_eq_ediv (a := a) (b := b)
  have hs : b.sign = 1 := Int.sign_eq_one_of_pos hb
  have hd : b ∣ a ↔ a.tdiv b * b = a := ⟨fun hd => Int.tdiv_mul_cancel hd, fun he => ⟨a.tdiv b, by rw [Int.mul_comm]; exact he.symm⟩⟩
  rw [hs] at h
  by_cases hc : 0 ≤ a ∨ b ∣ a
  · rw [if_pos hc] at h
    have hc2 : 0 ≤ a ∨ a.tdiv b * b = a := hc.elim Or.inl (fun q => Or.inr (hd.mp q))
    rw [if_pos hc2]; omega
  · rw [if_neg hc] at h
    have hc2 : ¬ (0 ≤ a ∨ a.tdiv b * b = a) := fun q => hc (q.elim Or.inl (fun q => Or.inr (hd.mpr q)))
    rw [if_neg hc2]; omega
theorem tdiv_small {a b : Int} : (a.tdiv b * b).natAbs ≤ a.natAbs := by
  rw [Int.natAbs_mul, Int.natAbs_tdiv]
  exact Nat.div_mul_le_self _ _
theorem j_floorDiv (n : Nat) (M : MemT) {a b : Int} (h1 : -4611686018427387904 ≤ a) (h2 : a ≤ 4611686018427387904) (h3 : 0 < b) (h4 : b ≤ 4611686018427387904) : g_J9_floorDiv_f86c9 n M (zj a) (zj b) = some (zj (a / b), M) := by
  have hq := Int.natAbs_tdiv_le_natAbs a b
  have hm := tdiv_small (a := a) (b := b)
  unfold g_J9_floorDiv_f86c9
  have e0 : ((zj b : Int64) = 0) = False := by
    show (zj b = zj 0) = _
    rw [zj_eq (by omega) (by omega) (by omega) (by omega)]
    exact eq_false (by omega)
  simp only [e0, if_false, lg_cmp_ge0, xor_sign (a := a) (b := b) (by omega) (by omega) h3 (by omega)]
  rw [zj_div (by omega) (by omega) h3 (by omega), floor_t h3]
  by_cases ha : 0 ≤ a
  · rw [if_pos ha, if_pos (Or.inl ha)]
  · rw [if_neg ha]
    have e1 : (lg_cmp (zj (a.tdiv b) * zj b) (zj a) = 0) = (a.tdiv b * b = a) := by
      rw [zj_mul, lg_cmp_eq, zj_eq (by omega) (by omega) (by omega) (by omega)]
    simp only [e1]
    by_cases hd : a.tdiv b * b = a
    · rw [if_pos hd, if_pos (Or.inr hd)]
    · rw [if_neg hd, if_neg (fun q => q.elim ha hd)]
      show some (zj (a.tdiv b) - zj 1, M) = _
      rw [zj_sub]
theorem m_quotient (n : Nat) (M : MemT) {a b : Int} (h1 : -4611686018427387904 ≤ a) (h2 : a ≤ 4611686018427387904) (h3 : 0 < b) (h4 : b ≤ 4611686018427387904) : g_X10_quotient n M (zj a) (zj b) = some (zj (a / b), M) := by
  have hm := tdiv_small (a := a) (b := b)
  have ht := Int.tmod_add_tdiv_mul a b
  have htm : (a.tmod b).natAbs ≤ a.natAbs := by rw [Int.natAbs_tmod]; exact Nat.mod_le _ _
  unfold g_X10_quotient
  have e0 : ((zj b : Int64) = 0) = False := by
    show (zj b = zj 0) = _
    rw [zj_eq (by omega) (by omega) (by omega) (by omega)]
    exact eq_false (by omega)
  simp only [e0, if_false, lg_cmp_ge0]
  rw [zj_div (by omega) (by omega) h3 (by omega), zj_mul, zj_sub, floor_t h3]
  have e1 : ((0 : Int64) ≤ zj (a - a.tdiv b * b)) = (0 ≤ a ∨ a.tdiv b * b = a) := by
    show (zj 0 ≤ _) = _
    rw [zj_le (by omega) (by omega) (by omega) (by omega)]
    refine propext ⟨fun h => ?_, fun h => ?_⟩
    · by_cases ha : 0 ≤ a
      · exact Or.inl ha
      · refine Or.inr ?_
        have h5 : (a.tmod b) ≤ 0 := by
          have := Int.tmod_nonneg b (a := -a) (by omega)
          rw [Int.neg_tmod] at this; omega
        omega
    · rcases h with h | h
      · have := Int.tmod_nonneg b h; omega
      · omega
  simp only [e1]
  by_cases hc : 0 ≤ a ∨ a.tdiv b * b = a
  · rw [if_pos hc, if_pos hc]
  · rw [if_neg hc, if_neg hc]
    show some (zj (a.tdiv b) - zj 1, M) = _
    rw [zj_sub]
theorem x_cut (n : Nat) (M : MemT) {a b w : Int} (h1 : -1152921504606846976 ≤ a) (h2 : a ≤ 1152921504606846976) (h3 : 0 < b) (h4 : b ≤ 1152921504606846976) (hw : 0 ≤ w) (hw2 : w ≤ 2) : g_X9_cut n M (zj a) (zj b) (zi w) = some (zj (cutZ w a b), M) := by
  unfold g_X9_cut cutZ
  have e0 : (0 < lg_cmp (zj b) 0) = True := by
    rw [lg_cmp_gt]
    show (zj 0 < zj b) = _
    rw [zj_lt (by omega) (by omega) (by omega) (by omega)]
    exact eq_true (by omega)
  have e1 : (zi w = 0) = (w = 0) := zi_eq (b := 0) (by omega) (by omega) (by omega) (by omega)
  have e2 : (zi w = 1) = (w = 1) := zi_eq (b := 1) (by omega) (by omega) (by omega) (by omega)
  have e3 : (2 : Int64) = zj 2 := rfl
  simp only [e0, if_true, e1, e2, e3, zj_mul, zj_add, zj_neg]
  rw [j_floorDiv n M (by omega) (by omega) h3 (by omega), j_floorDiv n M (by omega) (by omega) h3 (by omega), j_floorDiv n M (by omega) (by omega) (by omega) (by omega)]
  simp only [bd, zj_neg]
  split
  · rfl
  · split <;> rfl
theorem m_cutBy (n : Nat) (M : MemT) {a b w : Int} (h1 : -1152921504606846976 ≤ a) (h2 : a ≤ 1152921504606846976) (h3 : 0 < b) (h4 : b ≤ 1152921504606846976) (hw : 0 ≤ w) (hw2 : w ≤ 2) : g_X10_cutBy n M (zi w) (zj a) (zj b) = some (zj (cutZ w a b), M) := by
  unfold g_X10_cutBy cutZ
  have e1 : (zi w = 0) = (w = 0) := zi_eq (b := 0) (by omega) (by omega) (by omega) (by omega)
  have e2 : (zi w = 1) = (w = 1) := zi_eq (b := 1) (by omega) (by omega) (by omega) (by omega)
  have e3 : (2 : Int64) = zj 2 := rfl
  simp only [e1, e2, e3, zj_mul, zj_add, zj_neg]
  rw [m_quotient n M (by omega) (by omega) h3 (by omega), m_quotient n M (by omega) (by omega) h3 (by omega), m_quotient n M (by omega) (by omega) (by omega) (by omega)]
  simp only [bd, zj_neg]
  split
  · rfl
  · split <;> rfl
