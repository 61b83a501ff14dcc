/-! ===== PURE 4: the reference's fractions and what comes back ===== -/
def ownZ (m : Int) (S : Int → Int) (ho : Int) : Int := if m = 0 then S 0 else if m = 1 then S 2 else ho
def allZ (m : Int) (S : Int → Int) (ha : Int) : Int := if m = 0 then S 0 + S 1 else if m = 1 then S 2 + S 3 else ha
def fracZ (way step own whole : Int) : Int := if whole = 0 then step else cutZ way (step * own) whole
def itsZ (way step : Int) (S : Int → Int) (f : Int) : Int := S 2 + cutZ way (S 4 * f) step
def wholeZ (S : Int → Int) : Int := S 2 + S 3 + S 4
def smallZ (way step limit : Int) (S : Int → Int) (f : Int) : Prop := wholeZ S - itsZ way step S f ≤ limit ∧ 2 * (wholeZ S - itsZ way step S f) ≤ wholeZ S
def smallI (way step limit : Int) (S : Int → Int) (f : Int) : Int32 := if wholeZ S - itsZ way step S f ≤ limit ∧ 2 * (wholeZ S - itsZ way step S f) ≤ wholeZ S then 1 else 0
def backZ (way step limit : Int) (S : Int → Int) (f : Int) : Int := if wholeZ S - itsZ way step S f ≤ limit ∧ 2 * (wholeZ S - itsZ way step S f) ≤ wholeZ S then wholeZ S else itsZ way step S f
def sumsOk (S : Int → Int) : Prop := ∀ w : Int, 0 ≤ w → w < 5 → 0 ≤ S w ∧ S w ≤ 1099511627776
theorem ediv_abs {a b : Int} (hb : 0 < b) : -(a.natAbs : Int) ≤ a / b ∧ a / b ≤ a.natAbs := by
  have h1 := Int.emod_add_mul_ediv a b
  have h2 := Int.emod_nonneg a (show b ≠ 0 by omega)
  have h3 := Int.emod_lt_of_pos a hb
  rcases Int.le_total 0 (a / b) with h | h
  · have : a / b ≤ b * (a / b) := by
      have := Int.mul_le_mul_of_nonneg_right (show (1 : Int) ≤ b by omega) h
      omega
    omega
  · have : b * (a / b) ≤ a / b := by
      have := Int.mul_le_mul_of_nonpos_right (show (1 : Int) ≤ b by omega) h
      omega
    refine ⟨?_, by omega⟩
    by_cases ha : 0 ≤ a
    · have := Int.ediv_nonneg ha (show 0 ≤ b by omega); omega
    · have h5 : a ≤ a / b := by
        by_cases hk : a ≤ a / b
        · exact hk
        · exfalso
          have h6 : a / b ≤ a - 1 := by omega
          have h7 : b * (a / b) ≤ b * (a - 1) := Int.mul_le_mul_of_nonneg_left h6 (by omega)
          have h8 : b * (a - 1) ≤ a - b := by
            have h9 : (b - 1) * a ≤ 0 := Int.mul_nonpos_of_nonneg_of_nonpos (by omega) (by omega)
            rw [Int.mul_sub, Int.mul_one]
            rw [Int.sub_mul, Int.one_mul] at h9
            omega
          omega
      omega
theorem cutZ_abs {w a b : Int} (hb : 0 < b) : -(a.natAbs + 1 : Int) ≤ cutZ w a b ∧ cutZ w a b ≤ a.natAbs + 1 := by
  unfold cutZ
  split
  · have := ediv_abs (a := a) hb; omega
  · split
    · have := ediv_abs (a := -a) hb; omega
    · have e : (2 * a + b) / (2 * b) = (2 * a + b) / 2 / b := by rw [Int.ediv_ediv_of_nonneg (by omega)]
      have h1 : (2 * a + b) / 2 = a + b / 2 := by omega
      have h2 : (a + b / 2) / b ≤ a.natAbs + 1 ∧ -(a.natAbs + 1 : Int) ≤ (a + b / 2) / b := by
        have h3 := ediv_abs (a := a) hb
        have h4 : (a + b / 2) / b ≤ a / b + 1 := by
          have : (a + b / 2) / b ≤ (a + b) / b := Int.ediv_le_ediv hb (by omega)
          rw [Int.add_ediv_of_dvd_right (Int.dvd_refl b), Int.ediv_self (by omega)] at this
          exact this
        have h5 : a / b ≤ (a + b / 2) / b := Int.ediv_le_ediv hb (by omega)
        omega
      rw [e, h1]; omega
section MFRAC
variable {M : MemT} {bk nt : Int} {T tr sl bu as B S : Int → Int} {ho ha : Int} {sm : Int32} {n : Nat}
theorem m_cut (h : MOk M bk nt T tr sl bu as) (hT : 0 ≤ T 0 ∧ T 0 ≤ 2) {a b : Int} (h1 : -1152921504606846976 ≤ a) (h2 : a ≤ 1152921504606846976) (h3 : 0 < b) (h4 : b ≤ 1152921504606846976) : g_X10_cut n (WC M bk B S ho ha sm) 139 (zj a) (zj b) = some (zj (cutZ (T 0) a b), WC M bk B S ho ha sm) := by
  unfold g_X10_cut
  rw [m_told h, i_sb]
  show (aI _ 10 146 (zi 0)).bind _ = _
  rw [m_T h (by omega) (by omega), i_sb, m_cutBy n _ h1 h2 h3 h4 hT.1 hT.2, i_bd]
theorem m_fracTail {M : MemT} {w s o a : Int} (hw : 0 ≤ w ∧ w ≤ 2) (hs : 0 < s ∧ s ≤ 1000) (ho : 0 ≤ o ∧ o ≤ 2199023255552) (ha : 0 ≤ a ∧ a ≤ 4398046511104) : (if (lg_cmp (zj a) 0) = 0 then some (zi s, M) else bd (g_X10_cutBy n M (zi w) ((Int32.toInt64 (zi s)) * zj o) (zj a)) (fun r7 M8 => some (Int64.toInt32 r7, M8))) = some (zi (fracZ w s o a), M) := by
  obtain ⟨ho1, ho2⟩ := ho
  obtain ⟨hs1, hs2⟩ := hs
  have hm1 : 0 ≤ s * o := Int.mul_nonneg (by omega) ho1
  have hm2 : s * o ≤ 1000 * 2199023255552 := Int.mul_le_mul hs2 ho2 ho1 (by omega)
  unfold fracZ
  have e0 : (lg_cmp (zj a) 0 = 0) = (a = 0) := by
    rw [lg_cmp_eq]
    show (zj a = zj 0) = _
    rw [zj_eq (by omega) (by omega) (by omega) (by omega)]
  simp only [e0]
  split
  · rfl
  · rw [zi_64 (by omega) (by omega), zj_mul, m_cutBy n M (by omega) (by omega) (by omega) (by omega) hw.1 hw.2, i_bd, zj_32]
theorem m_fractionBy (h : MOk M bk nt T tr sl bu as) {m w s : Int} (hm : 0 ≤ m ∧ m ≤ 2) (hw : 0 ≤ w ∧ w ≤ 2) (hs : 0 < s ∧ s ≤ 1000) (hS : sumsOk S) (hh : 0 ≤ ho ∧ ho ≤ 1000000 ∧ 0 ≤ ha ∧ ha ≤ 1000000) : g_X10_fractionBy n (WC M bk B S ho ha sm) 139 (zi m) (zi w) (zi s) = some (zi (fracZ w s (ownZ m S ho) (allZ m S ha)), WC M bk B S ho ha sm) := by
  unfold g_X10_fractionBy
  have e1 : (zi m = 0) = (m = 0) := zi_eq (b := 0) (by omega) (by omega) (by omega) (by omega)
  have e2 : (zi m = 1) = (m = 1) := zi_eq (b := 1) (by omega) (by omega) (by omega) (by omega)
  have s0 := hS 0 (by omega) (by omega)
  have s1 := hS 1 (by omega) (by omega)
  have s2 := hS 2 (by omega) (by omega)
  have s3 := hS 3 (by omega) (by omega)
  have r0 : aJ (WC M bk B S ho ha sm) 148 0 = some (zj (S 0)) := m_S h (w := 0) (by omega) (by omega)
  have r1 : aJ (WC M bk B S ho ha sm) 148 1 = some (zj (S 1)) := m_S h (w := 1) (by omega) (by omega)
  have r2 : aJ (WC M bk B S ho ha sm) 148 2 = some (zj (S 2)) := m_S h (w := 2) (by omega) (by omega)
  have r3 : aJ (WC M bk B S ho ha sm) 148 3 = some (zj (S 3)) := m_S h (w := 3) (by omega) (by omega)
  simp only [i_jp, e1, e2, m_sum h, i_sb, r0, r1, r2, r3, zj_add, i_gJ (M := WC M bk B S ho ha sm) (show mK (WC M bk B S ho ha sm) 139 = 8 from h.1.1), w_Jho, w_Jha]
  unfold ownZ allZ
  by_cases m0 : m = 0
  · simp only [m0, if_true]
    exact m_fracTail hw hs (by omega) (by omega)
  · by_cases m1 : m = 1
    · simp only [m1, if_true, if_false, show ¬ (1 : Int) = 0 by omega]
      exact m_fracTail hw hs (by omega) (by omega)
    · simp only [m0, m1, if_false]
      exact m_fracTail hw hs (by omega) (by omega)
end MFRAC
