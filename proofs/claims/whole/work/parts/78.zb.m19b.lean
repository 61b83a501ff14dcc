/-! ===== PURE 74b: chance ===== -/
section M19b
variable {M M1 : MemT} {r s q : Nat} {P : Nat → Nat} {old cnt tl kp nt U : Int} {T tr sl bu as B Bi : Int → Int} {Bs : Nat → Int → Int} {n : Nat}
theorem ch_X (h : TOP M r s q P old cnt tl kp nt T tr sl bu as B Bi Bs U) (hU2 : U ≤ 90000000) (hn : 100000010 < n) {sd k t : Int} (sd1 : -2147483648 ≤ sd) (sd2 : sd ≤ 2147483647) (k1 : -2147483648 ≤ k) (k2 : k ≤ 2147483647) (t1 : -2147483648 ≤ t) (t2 : t ≤ 2147483647) (C : -1 ≤ sd ∧ (1 ≤ k ∧ k ≤ 8) ∧ B 0 + k ≤ 63 ∧ (0 ≤ t ∧ t < nt)) : ∃ M1, g_X9_chance n M 0 (zi sd) (zi k) (zi t) = some (zi (dS (chI T tr sl bu as nt t B (if sd = -1 then Int32.toInt64 (zi (T 3)) else Int32.toInt64 (zi sd)) k.toNat).1 B t 4), M1) ∧ TOP M1 r s r P old cnt tl kp nt T tr sl bu as B Bi Bs U := by
  have hD := h.2.2.1
  have hnt4 := hD.1
  obtain ⟨n1, n2⟩ := h.2.2.2.2.2.1.2.1
  have k7 := h.1.1.1
  have k8 := h.2.2.2.2.2.2.1.1.1
  have esd : (zi sd < (-1 : Int32)) = (sd < -1) := zi_lt (b := -1) (by omega) (by omega) (by omega) (by omega)
  have esq : (zi sd = (-1 : Int32)) = (sd = -1) := zi_eq (b := -1) (by omega) (by omega) (by omega) (by omega)
  have es0 : ((0 : Int32) ≤ zi sd) = (0 ≤ sd) := zi_le (a := 0) (by omega) (by omega) (by omega) (by omega)
  have xi1 : g_X9_isIn n M (zi k) 1 8 = some (bI2 (1 ≤ k ∧ k ≤ 8), M) := x_isIn2 (a := 1) (b := 8) k1 k2 (by omega) (by omega) (by omega) (by omega)
  obtain ⟨c0, c1, c2, c3⟩ := C
  obtain ⟨W, gi, hX, hR23, ⟨w7, w4, w5⟩, hB23, wk13, wr13, ⟨wr0, wkr, wIr⟩, hT⟩ := imit (n := n) h (by omega)
  have hU7 : mI M r 10 = zi (T 3) := h.2.2.2.1.1.2.2.2.2.1
  generalize hv0 : (if sd = -1 then Int32.toInt64 (zi (T 3)) else Int32.toInt64 (zi sd)) = v0
  obtain ⟨R1, F1, S1, gl, hR1⟩ := t_ch (n := n) (F := mI W 135) (S := fun j => (mJ W 136 j.toNat).toInt) hX hD.2.2.2.2.1 hU2 (by omega) c3.1 (by omega) v0 (show 0 ≤ k by omega) c1.2 c2
  rw [show WX W 75 (rows W 85) (mI W 135) (fun j => (mJ W 136 j.toNat).toInt) = W from WX_self (c := 75)] at gl
  have h8C := (BI_8 (chI_BI (tr := tr) (sl := sl) (bu := bu) (U := U) hD.2.1 hD.2.2.1 hD.2.2.2.1 hD.2.2.2.2.1 hD.1 ⟨hD.2.2.2.2.2.1, hU2⟩ h.2.2.2.2.2.1 c3.1 (show t < 4 by omega) v0 k.toNat (by omega) (by omega)).1).2
  generalize (chI T tr sl bu as nt t B v0 k.toNat).1 = CB at gl hR1 h8C ⊢
  generalize (chI T tr sl bu as nt t B v0 k.toNat).2 = Cv at gl
  have hC := hX.2.1.1
  refine ⟨WX W 75 R1 F1 S1, ?_, hT R1 F1 S1⟩
  have q3 := dS_loop (n := n) (W := WX W 75 R1 F1 S1) (B := B) (C := CB) (t := t) w7 w5 w4 hC.1.1 hC.1.2.2.1 wk13 wr13 hC.2.2.1 hB23 (RBk_c hR1 (fun o ho => funext fun k => by show mI (WX W 75 R1 F1 S1) (85 + o) k = _; rw [WX_I, if_pos (by omega)]; exact congrArg (fun z => R1 z k) (by omega)) h8C).1 (RBk_c hR23 (fun o ho => funext fun k => by show mI (WX W 75 R1 F1 S1) (23 + o) k = _; rw [WX_I, if_neg (by omega), if_neg (by omega)]; rfl) (BI_8 h.2.2.2.2.2.1).2).1 c3.1 (by omega) (by omega)
  unfold g_X9_chance
  dsimp only at gl q3
  rw [if_neg (by rw [esd]; omega), xi1, i_bd, if_neg (bz_t c1), i_chk k7, top_me h c1.1 (by omega), i_bd, if_neg (bz_t c2), i_chk k7, top_tr h t1 t2, i_bd, if_neg (bz_t c3), i_gO k7 h.1.1.2.2.2.2.2, i_sb, i_gO k7 h.1.1.2.2.2.2.1, i_sb, i_chk h.1.2.2.2.2.2.1.1.1, gi, i_bd, i_jp]
  by_cases cs : sd = -1
  · rw [if_pos cs] at hv0
    rw [if_pos (by rw [esq]; exact cs), i_gO w7 w4, i_sb, i_gO wk13 wr0, i_sb, i_gI wkr, i_sb, wIr, hU7, hv0]
    dsimp only
    rw [gl, i_sb]
    dsimp only
    rw [q3, i_sb]
  · rw [if_neg cs] at hv0
    rw [if_neg (by rw [esq]; exact cs), hv0]
    dsimp only
    rw [gl, i_sb]
    dsimp only
    rw [q3, i_sb]
end M19b
