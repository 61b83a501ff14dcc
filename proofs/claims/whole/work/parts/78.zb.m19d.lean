/-! ===== PURE 74d: chance ===== -/
section M19d
variable {M M1 : MemT} {r s q : Nat} {P : Nat → Nat} {old cnt tl kp nt U : Int} {T tr sl bu as B Bi : Int → Int} {Bs : Nat → Int → Int} {n : Nat}
theorem r_chance (h : TOP M r s q P old cnt tl kp nt T tr sl bu as B Bi Bs U) (hU2 : U ≤ 90000000) (hn : 100000010 < n) (x1 x2 x3 : Int32) : RunsTo (fun M => g_X9_chance n M 0 x1 x2 x3) (fun M => g_X10_chance n M 139 x1 x2 x3) M (U + 100000) := by
  obtain ⟨sd, rfl, sd1, sd2⟩ := zi_ex x1
  obtain ⟨k, rfl, k1, k2⟩ := zi_ex x2
  obtain ⟨t, rfl, t1, t2⟩ := zi_ex x3
  have hD := h.2.2.1
  have hnt4 := hD.1
  obtain ⟨n1, n2⟩ := h.2.2.2.2.2.1.2.1
  have k7 := h.1.1.1
  have k8 := h.2.2.2.2.2.2.1.1.1
  have xi1 : g_X9_isIn n M (zi k) 1 8 = some (bI2 (1 ≤ k ∧ k ≤ 8), M) := x_isIn2 (a := 1) (b := 8) k1 k2 (by omega) (by omega) (by omega) (by omega)
  have mi1 : ∀ M1, g_X10_isIn n M1 (zi k) 1 8 = some (bI2 (1 ≤ k ∧ k ≤ 8), M1) := fun M1 => m_isIn2 (a := 1) (b := 8) k1 k2 (by omega) (by omega) (by omega) (by omega)
  have esd : (zi sd < (-1 : Int32)) = (sd < -1) := zi_lt (b := -1) (by omega) (by omega) (by omega) (by omega)
  have esq : (zi sd = (-1 : Int32)) = (sd = -1) := zi_eq (b := -1) (by omega) (by omega) (by omega) (by omega)
  have es0 : ((0 : Int32) ≤ zi sd) = (0 ≤ sd) := zi_le (a := 0) (by omega) (by omega) (by omega) (by omega)
  have m63 : 1 ≤ k ∧ k ≤ 8 → (zi (B 0) + zi k ≤ 63) = (B 0 + k ≤ 63) := fun c => by
    rw [zi_add]
    exact zi_le (b := 63) (by omega) (by omega) (by omega) (by omega)
  have mk : ∀ M1 r1 s1 q1 P1, TOP M1 r1 s1 q1 P1 old cnt tl kp nt T tr sl bu as B Bi Bs U → (pI M1 8 139 2 0 = some (sI M1 139 2 0)) ∧ TOP (sI M1 139 2 0) r1 s1 q1 P1 old cnt tl kp nt T tr sl bu as B Bi Bs U := fun M1 r1 s1 q1 P1 h1 => ⟨i_pI h1.2.2.2.2.2.2.1.1.1, top_M0 h1⟩
  have mof : ∀ (M1 : MemT) r1 s1 q1 P1, TOP M1 r1 s1 q1 P1 old cnt tl kp nt T tr sl bu as B Bi Bs U → g_X10_of n M1 139 0 = some (zi (B 0), M1) := fun M1 r1 s1 q1 P1 h1 => bk_of (k := 0) h1.2.2.2.2.2.2.1 h1.2.2.2.2.2.2.2.1 (by omega) (by omega)
  by_cases C : -1 ≤ sd ∧ (1 ≤ k ∧ k ≤ 8) ∧ B 0 + k ≤ 63 ∧ (0 ≤ t ∧ t < nt)
  · obtain ⟨M1, g1, h1⟩ := ch_X h hU2 hn sd1 sd2 k1 k2 t1 t2 C
    obtain ⟨M2, g2, h2⟩ := ch_M h1 hU2 hn sd1 sd2 k1 k2 t1 t2 C
    exact ⟨_, M1, M2, g1, h1.2.2.2.2.2.2.1.1.1, g2, TOP_E (TOP_U h2 (by omega))⟩
  · obtain ⟨p1, hT1'⟩ := mk _ _ _ _ _ h
    have k81 : mK (sI M 139 2 0) 139 = 8 := k8
    refine ⟨zi (-999999), M, sI M 139 2 0, ?_, k8, ?_, TOP_E (TOP_U hT1' (by omega))⟩
    · show g_X9_chance n M 0 (zi sd) (zi k) (zi t) = _
      unfold g_X9_chance
      by_cases c0 : -1 ≤ sd
      · rw [if_neg (by rw [esd]; omega), xi1, i_bd]
        by_cases c1 : 1 ≤ k ∧ k ≤ 8
        · rw [if_neg (bz_t c1), i_chk k7, top_me h c1.1 (by omega), i_bd]
          by_cases c2 : B 0 + k ≤ 63
          · rw [if_neg (bz_t c2), i_chk k7, top_tr h t1 t2, i_bd, if_pos (bz_f (fun c3 => C ⟨c0, c1, c2, c3⟩))]
            rfl
          · rw [if_pos (bz_f c2)]
            rfl
        · rw [if_pos (bz_f c1)]
          rfl
      · rw [if_pos (by rw [esd]; omega)]
        rfl
    · show g_X10_chance n M 139 (zi sd) (zi k) (zi t) = _
      unfold g_X10_chance
      rw [p1, i_sb]
      by_cases c0 : -1 ≤ sd
      · rw [if_neg (by rw [esd]; omega), mi1, i_bd]
        by_cases c1 : 1 ≤ k ∧ k ≤ 8
        · rw [if_neg (bz_t c1), i_chk k81, top_mtr hT1' t1 t2, i_bd]
          by_cases c3 : 0 ≤ t ∧ t < nt
          · rw [if_neg (bz_t c3), i_chk k81, mof _ _ _ _ _ hT1', i_bd, if_neg (by rw [m63 c1]; exact fun c2 => C ⟨c0, c1, c2, c3⟩)]
            rfl
          · rw [if_pos (bz_f c3)]
            rfl
        · rw [if_pos (bz_f c1)]
          rfl
      · rw [if_pos (by rw [esd]; omega)]
        rfl
end M19d
