/-! ===== PURE 11: the reference: small questions ===== -/
def bI (p : Prop) [Decidable p] : Int32 := if p then 1 else 0
section MASK
variable {M : MemT} {bk nt : Int} {T tr sl bu as B S : Int → Int} {ho ha : Int} {sm : Int32} {n : Nat}
theorem i_rz0 {M : MemT} : rz 0 M = some (0, M) := if_pos (Or.inl rfl)
theorem i_rz1 {M : MemT} : rz 1 M = some (1, M) := if_pos (Or.inr rfl)
theorem m_isIn {x a b : Int} (hx : r31 x) (ha : r31 a) (hb : r31 b) {M : MemT} : g_X10_isIn n M (zi x) (zi a) (zi b) = some (if a ≤ x ∧ x ≤ b then 1 else 0, M) := by
  obtain ⟨x1, x2⟩ := hx
  obtain ⟨a1, a2⟩ := ha
  obtain ⟨b1, b2⟩ := hb
  unfold g_X10_isIn
  simp only [zi_lt x1 x2 a1 a2, zi_lt b1 b2 x1 x2, i_rz0, i_rz1]
  by_cases c1 : x < a
  · rw [if_pos c1, if_neg (by omega)]
  · by_cases c2 : b < x
    · rw [if_neg c1, if_pos c2, if_neg (by omega)]
    · rw [if_neg c1, if_neg c2, if_pos (by omega)]
theorem x_isIn {x a b : Int} (hx : r31 x) (ha : r31 a) (hb : r31 b) {M : MemT} : g_X9_isIn n M (zi x) (zi a) (zi b) = some (if a ≤ x ∧ x ≤ b then 1 else 0, M) := by
  obtain ⟨x1, x2⟩ := hx
  obtain ⟨a1, a2⟩ := ha
  obtain ⟨b1, b2⟩ := hb
  unfold g_X9_isIn
  simp only [zi_lt x1 x2 a1 a2, zi_lt b1 b2 x1 x2, i_rz0, i_rz1]
  by_cases c1 : x < a
  · rw [if_pos c1, if_neg (by omega)]
  · by_cases c2 : b < x
    · rw [if_neg c1, if_pos c2, if_neg (by omega)]
    · rw [if_neg c1, if_neg c2, if_pos (by omega)]
theorem m_isAsset {ha' : Int} (h : MOk M bk nt T tr sl bu as) (hA : 0 ≤ B 1865 ∧ B 1865 ≤ 8) {a : Int} (ha : r31 a) : g_X10_isAsset n (WC M bk B S ho ha' sm) 139 (zi a) = some (if 0 ≤ a ∧ a < B 1865 then 1 else 0, WC M bk B S ho ha' sm) := by
  obtain ⟨a1, a2⟩ := ha
  unfold g_X10_isAsset
  have rA : g_X10_of n (WC M bk B S ho ha' sm) 139 1865 = some (zi (B 1865), WC M bk B S ho ha' sm) := m_of h (k := 1865) (by omega) (by omega)
  have e1 : (zi a < 0) = (a < 0) := zi_lt (b := 0) a1 a2 (by omega) (by omega)
  have e2 : (zi (B 1865) ≤ zi a) = (B 1865 ≤ a) := zi_le (by omega) (by omega) a1 a2
  rw [m_chk h, rA, i_bd]
  simp only [e1, e2, i_rz0, i_rz1]
  by_cases c1 : a < 0
  · rw [if_pos c1, if_neg (by omega)]
  · by_cases c2 : B 1865 ≤ a
    · rw [if_neg c1, if_pos c2, if_neg (by omega)]
    · rw [if_neg c1, if_neg c2, if_pos (by omega)]
theorem m_isGone (h : MOk M bk nt T tr sl bu as) {a : Int} (h0 : 0 ≤ a) (h1 : a < 8) (hA : AO B a) : g_X10_isGone n (WC M bk B S ho ha sm) 139 (zi a) = some (if AtZ B a 9 = 1 ∨ 0 < AtZ B a 7 then 1 else 0, WC M bk B S ho ha sm) := by
  obtain ⟨-, -, -, -, -, -, -, h7, -, h9, -⟩ := hA
  have r9 : g_X10_at n (WC M bk B S ho ha sm) 139 (zi a) 9 = some (zi (AtZ B a 9), _) := m_at h (k := 9) h0 h1 (by omega) (by omega)
  have r7 : g_X10_at n (WC M bk B S ho ha sm) 139 (zi a) 7 = some (zi (AtZ B a 7), _) := m_at h (k := 7) h0 h1 (by omega) (by omega)
  have e9 : (zi (AtZ B a 9) = 1) = (AtZ B a 9 = 1) := zi_eq (b := 1) (by omega) (by omega) (by omega) (by omega)
  have e7 : (zi (AtZ B a 7) ≤ 0) = (AtZ B a 7 ≤ 0) := zi_le (b := 0) (by omega) (by omega) (by omega) (by omega)
  unfold g_X10_isGone
  rw [m_chk h, r9, i_bd]
  simp only [e9, m_chk h, r7, i_bd, e7, i_rz0, i_rz1]
  by_cases c1 : AtZ B a 9 = 1
  · rw [if_pos c1, if_pos (Or.inl c1)]
  · by_cases c2 : AtZ B a 7 ≤ 0
    · rw [if_neg c1, if_pos c2, if_neg (by omega)]
    · rw [if_neg c1, if_neg c2, if_pos (by omega)]
theorem m_isThrough (h : MOk M bk nt T tr sl bu as) {a : Int} (h0 : 0 ≤ a) (h1 : a < 8) (hA : AO B a) : g_X10_isThrough n (WC M bk B S ho ha sm) 139 (zi a) = some (if 0 < AtZ B a 47 then 1 else 0, WC M bk B S ho ha sm) := by
  have h47 := hA.2.2.2.2.2.2.2.2.2.2.2.2
  have r47 : g_X10_at n (WC M bk B S ho ha sm) 139 (zi a) 47 = some (zi (AtZ B a 47), _) := m_at h (k := 47) h0 h1 (by omega) (by omega)
  have e7 : (zi (AtZ B a 47) ≤ 0) = (AtZ B a 47 ≤ 0) := zi_le (b := 0) (by omega) (by omega) (by omega) (by omega)
  unfold g_X10_isThrough
  rw [m_chk h, r47, i_bd]
  simp only [e7, i_rz0, i_rz1]
  by_cases c2 : AtZ B a 47 ≤ 0
  · rw [if_pos c2, if_neg (by omega)]
  · rw [if_neg c2, if_pos (by omega)]
theorem m_behindOf (h : MOk M bk nt T tr sl bu as) (hN : BN B) {a : Int} (h0 : 0 ≤ a) (h1 : a < 8) (hA : AO B a) : g_X10_behindOf n (WC M bk B S ho ha sm) 139 (zi a) = some (zi (AtZ B a 4 - 1 - (yearZ B - AtZ B a 5 / 4)), WC M bk B S ho ha sm) := by
  have hA5 := hA.2.2.2.2.2.1
  have r4 : g_X10_at n (WC M bk B S ho ha sm) 139 (zi a) 4 = some (zi (AtZ B a 4), _) := m_at h (k := 4) h0 h1 (by omega) (by omega)
  obtain ⟨n1, n2⟩ := id hN
  unfold g_X10_behindOf
  rw [m_chk h, r4, i_bd, m_chk h, m_year h hN, i_bd, m_chk h, m_intervalOf h h0 h1 (by omega), i_bd]
  show some (zi (AtZ B a 4) - zi 1 - _, _) = _
  rw [zi_sub, zi_sub]
theorem m_baseNow (h : MOk M bk nt T tr sl bu as) (hT : told3 T) (htr : trOk tr) (hn : 5 < n) (hB : BS B) (hN : BN B) {a : Int} (h0 : 0 ≤ a) (h1 : a < 8) (hA : AO B a) : ∃ S1 ho1 ha1, g_X10_baseNow n (WC M bk B S ho ha sm) 139 (zi a) = some (zi (if 0 < AtZ B a 47 then AtZ B a 6 else worthZ T tr B a (AtZ B a 2)), WC M bk B S1 ho1 ha1 sm) := by
  have r2 : g_X10_at n (WC M bk B S ho ha sm) 139 (zi a) 2 = some (zi (AtZ B a 2), _) := m_at h (k := 2) h0 h1 (by omega) (by omega)
  have r6 : g_X10_at n (WC M bk B S ho ha sm) 139 (zi a) 6 = some (zi (AtZ B a 6), _) := m_at h (k := 6) h0 h1 (by omega) (by omega)
  obtain ⟨S1, ho1, ha1, hw⟩ := m_worthBy (n := n) (S := S) (ho := ho) (ha := ha) (sm := sm) h hT htr hn hB hN h0 h1 hA hA.2.2.1
  by_cases c : 0 < AtZ B a 47
  · refine ⟨S, ho, ha, ?_⟩
    unfold g_X10_baseNow
    rw [m_chk h, m_isThrough h h0 h1 hA, i_bd, if_pos c, if_neg (by decide), m_chk h, r6, i_bd, if_pos c]
  · refine ⟨S1, ho1, ha1, ?_⟩
    unfold g_X10_baseNow
    rw [m_chk h, m_isThrough h h0 h1 hA, i_bd, if_neg c, if_pos (by decide), m_chk h, r2, i_bd, m_chk h, hw, i_bd, if_neg c]
end MASK
