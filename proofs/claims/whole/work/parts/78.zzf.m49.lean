/-! ===== PURE 104: text, whole ===== -/
section M49
variable {M : MemT} {r s q : Nat} {P : Nat → Nat} {old cnt tl kp nt U : Int} {T tr sl bu as B Bi : Int → Int} {Bs : Nat → Int → Int} {n : Nat}
theorem r_text (h : TOP M r s q P old cnt tl kp nt T tr sl bu as B Bi Bs U) (hU2 : U ≤ 99000000) (hn : 100000010 < n) (x : Int32) : RunsTo (fun M => g_X9_text n M 0 x) (fun M => g_X10_text n M 139 x) M (U + 100000) := by
  obtain ⟨tS, hP, hD, hU, hR0, hB0, hM, hb0, hI, hu, hi⟩ := id h
  obtain ⟨-, -, -, ⟨c1, c2, c3, c4⟩, -, ht, -⟩ := id hI
  have k7 := tS.1.1
  have k8 : mK M 139 = 8 := hM.1.1
  obtain ⟨z, ez, z1, z2⟩ := zi_ex x
  have e0 : (zi z < (0 : Int32)) = (z < 0) := zi_lt (b := 0) (by omega) (by omega) (by omega) (by omega)
  have e1 : (zi z ≤ zi tl) = (z ≤ tl) := zi_le (by omega) (by omega) (by omega) (by omega)
  by_cases c0 : z < 0
  · refine ⟨-2, M, sI M 139 2 0, ?_, k8, ?_, TOP_E (TOP_U (top_M0 h) hU2)⟩
    · show g_X9_text n M 0 x = _
      unfold g_X9_text
      rw [ez, if_pos (by rw [e0]; exact c0)]
    · show g_X10_text n M 139 x = _
      unfold g_X10_text
      rw [ez, i_pI k8, i_sb, if_pos (by rw [e0]; exact c0)]
  · by_cases c9 : z ≤ tl
    · have htp : ∀ k : Nat, k < 700 → mI M 1 k = zi (sgn8 ((mI M 140 k).toInt)) ∧ 0 ≤ (mI M 140 k).toInt ∧ (mI M 140 k).toInt < 256 := fun k hk => by
        obtain ⟨y, hy, h1, h2⟩ := ht k hk
        rw [h2]
        by_cases cy : y < 0
        · rw [if_pos cy, zi_back (by omega) (by omega), h1]
          unfold sgn8
          rw [if_neg (by omega)]
          exact ⟨congrArg zi (by omega), by omega, by omega⟩
        · rw [if_neg cy, zi_back (by omega) (by omega), h1]
          unfold sgn8
          rw [if_pos (by omega)]
          exact ⟨rfl, by omega, by omega⟩
      have hy : ∀ k : Nat, k < 700 → mI M 140 k = zi ((mI M 140 k).toInt) := fun k _ => (zi_int _).symm
      obtain ⟨len, hlen⟩ : ∃ len : Nat, z = (len : Int) := ⟨z.toNat, by omega⟩
      subst hlen
      rw [ez]
      cases hr : txR (fun k => (mI M 140 k).toInt) len 701 0 st0 0 with
      | inl y => exact r_txF (u := fun k => (mI M 140 k).toInt) (c := y.1) (pl := y.2) h hU2 hn c9 htp hy hr
      | inr y => exact r_txO (u := fun k => (mI M 140 k).toInt) (σ := y.1) (c := y.2) h hU2 hn c9 htp hy hr
    · refine ⟨-2, M, sI M 139 2 0, ?_, k8, ?_, TOP_E (TOP_U (top_M0 h) hU2)⟩
      · show g_X9_text n M 0 x = _
        unfold g_X9_text
        rw [ez, if_neg (by rw [e0]; exact c0), i_gI k7, i_sb, c1, if_neg (by rw [e1]; exact c9)]
      · show g_X10_text n M 139 x = _
        unfold g_X10_text
        rw [ez, i_pI k8, i_sb, if_neg (by rw [e0]; exact c0), i_gI (M := sI M 139 2 0) k8, i_sb, sI_ne (by omega), c2, if_neg (by rw [e1]; exact c9)]
end M49
