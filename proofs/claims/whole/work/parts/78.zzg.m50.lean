/-! ===== PURE 105: trader ===== -/
section M50
variable {M : MemT} {r s q : Nat} {P : Nat → Nat} {old cnt tl kp nt U : Int} {T tr sl bu as B Bi : Int → Int} {Bs : Nat → Int → Int} {n L : Nat} {sc : Nat → Int32} {i : Int}
theorem lg_self (x : Int64) : lg_cmp x x = 0 := by
  have h1 : (0 : Int32) ≤ lg_cmp x x := by rw [lg_cmp_ge0]; exact Int64.le_refl _
  have h2 : ¬ ((0 : Int32) < lg_cmp x x) := by rw [lg_gt]; exact Int64.lt_irrefl
  exact (Int32.le_antisymm h1 (Int32.not_lt.mp h2)).symm
theorem lw_4 (h : TOP M r s q P old cnt tl kp nt T tr sl bu as B Bi Bs U) (hU2 : U ≤ 99000000) (hn : 10 < n) (h0 : 0 ≤ i) (h1 : i + 6 ≤ L) (hL : L ≤ 3072) : ∃ M2, g_law_c4 n L sc 0 139 149 M (zi i) = some (.inl (M2, zi (i + 6))) ∧ TopE M2 (U + 100000) := by
  have hX := TOP_X h
  have hM0 := TOP_M h
  have k7 : mK M 0 = 7 := h.1.1.1
  obtain ⟨ko, lo⟩ := h.1.2.2.2.2.2.2.2.2.1
  have i1 := law_ix (i := i) (j := 1) h0 h1 hL (by omega) (by omega)
  have i2 := law_ix (i := i) (j := 2) h0 h1 hL (by omega) (by omega)
  obtain ⟨t, et, t1, t2⟩ := zi_ex (sc (zi i + 1).toNatClampNeg)
  have eX : WX M 13 (rows M 23) (mI M 73) (fun j => (mJ M 74 j.toNat).toInt) = M := WX_self (c := 13)
  obtain ⟨S0, ho0, ha0, sm0, eM⟩ := WC_self (M := M) h.2.2.2.2.2.2.2.1
  obtain ⟨k, v, F1, S1, S2, ho2, ha2, sm2, kk, g1, -⟩ := Q_trader (n := n) (F := mI M 73) (S := fun j => (mJ M 74 j.toNat).toInt) (S' := S0) (ho := ho0) (ha := ha0) (sm := sm0) hX hM0 hn t1 t2 (sc (zi i + 2).toNatClampNeg)
  rw [eX, ← et] at g1
  have hT1 : TOP (WX M 13 (rows M 23) F1 S1) r s q P old cnt tl kp nt T tr sl bu as B Bi Bs U := TOP_f h (Nat.le_refl _) (fun _ _ => ⟨rfl, rfl, fun _ => rfl⟩) (fun y k _ hs => WX_scr hs)
  have hT2 : ∀ w : Int64, TOP (sJ (WX M 13 (rows M 23) F1 S1) 149 0 w) r s q P old cnt tl kp nt T tr sl bu as B Bi Bs U := fun w => TOP_f hT1 (Nat.le_refl _) (fun _ _ => ⟨rfl, rfl, fun _ => rfl⟩) (fun y k _ hs => rfl)
  have ko1 : mK (WX M 13 (rows M 23) F1 S1) 149 = 13 := ko
  have lo1 : (mL (WX M 13 (rows M 23) F1 S1) 149 : Int) = 1 := by show ((mL M 149 : Nat) : Int) = 1; rw [lo]; rfl
  -- the reference, after the component
  have sec : ∀ M3, TOP M3 r s q P old cnt tl kp nt T tr sl bu as B Bi Bs U → ∃ S5 ho5 ha5 sm5, g_X10_trader n M3 139 (sc (zi i + 1).toNatClampNeg) (sc (zi i + 2).toNatClampNeg) = some ((if k = 0 then v else 0), WC (sI M3 139 2 (zi (k : Int))) 0 B S5 ho5 ha5 sm5) := fun M3 h3 => by
    obtain ⟨S3, ho3, ha3, sm3, eM3⟩ := WC_self (M := M3) h3.2.2.2.2.2.2.2.1
    obtain ⟨k', v', F1', S1', S2', ho2', ha2', sm2', kk', g1', g2'⟩ := Q_trader (n := n) (F := mI M 73) (S := fun j => (mJ M 74 j.toNat).toInt) (S' := S3) (ho := ho3) (ha := ha3) (sm := sm3) hX (TOP_M h3) hn t1 t2 (sc (zi i + 2).toNatClampNeg)
    rw [eX, ← et, g1] at g1'
    have ekv := congrArg Prod.fst (Option.some.inj g1')
    have ek : k = k' := congrArg Prod.fst ekv
    have ev : v = v' := congrArg Prod.snd ekv
    subst ek ev
    rw [eM3, ← et] at g2'
    exact ⟨S2', ho2', ha2', sm2', g2'⟩
  have fin : ∀ M3 (x : Int32), TOP M3 r s q P old cnt tl kp nt T tr sl bu as B Bi Bs U → x = zi (k : Int) → (k = 0 → mJ M3 149 0 = v.toInt64) → g_L_trader n M 0 (sc (zi i + 1).toNatClampNeg) (sc (zi i + 2).toNatClampNeg) 149 = some (x, M3) → ∃ M2, g_law_c4 n L sc 0 139 149 M (zi i) = some (.inl (M2, zi (i + 6))) ∧ TopE M2 (U + 100000) := fun M3 x h3 ex hv gL => by
    obtain ⟨S5, ho5, ha5, sm5, g5⟩ := sec M3 h3
    have h6 : TOP (WC (sI M3 139 2 (zi (k : Int))) 0 B S5 ho5 ha5 sm5) r s q P old cnt tl kp nt T tr sl bu as B Bi Bs U := TOP_f h3 (Nat.le_refl _) (fun _ _ => ⟨rfl, rfl, fun _ => rfl⟩) (fun y k _ hs => WC_scr h3.2.2.2.2.2.2.2.1 hs)
    have k8 : mK M3 139 = 8 := (TOP_M h3).1.1.1
    have k86 : mK (WC (sI M3 139 2 (zi (k : Int))) 0 B S5 ho5 ha5 sm5) 139 = 8 := k8
    have i62 : mI (WC (sI M3 139 2 (zi (k : Int))) 0 B S5 ho5 ha5 sm5) 139 2 = zi (k : Int) := (show mI (WC (sI M3 139 2 (zi (k : Int))) 0 B S5 ho5 ha5 sm5) 139 2 = mI (sI M3 139 2 (zi (k : Int))) 139 2 from rfl).trans sI_at
    have j6 : mJ (WC (sI M3 139 2 (zi (k : Int))) 0 B S5 ho5 ha5 sm5) 149 0 = mJ M3 149 0 := rfl
    have th : g_X10_thrown n (WC (sI M3 139 2 (zi (k : Int))) 0 B S5 ho5 ha5 sm5) 139 = some (zi (k : Int), WC (sI M3 139 2 (zi (k : Int))) 0 B S5 ho5 ha5 sm5) := by
      unfold g_X10_thrown
      rw [i_gI k86, i_sb, i62]
    have ko6 : mK (WC (sI M3 139 2 (zi (k : Int))) 0 B S5 ho5 ha5 sm5) 149 = 13 := h6.1.2.2.2.2.2.2.2.2.1.1
    have lo6 : (mL (WC (sI M3 139 2 (zi (k : Int))) 0 B S5 ho5 ha5 sm5) 149 : Int) = 1 := by rw [h6.1.2.2.2.2.2.2.2.2.1.2]; rfl
    refine ⟨_, ?_, TOP_E (TOP_U h6 hU2)⟩
    unfold g_law_c4
    rw [if_neg (show ¬ (zi i + 1 < 0 ∨ L ≤ (zi i + 1).toNatClampNeg) from i1)]
    rw [if_neg (show ¬ (zi i + 2 < 0 ∨ L ≤ (zi i + 2).toNatClampNeg) from i2)]
    rw [gL, i_bd]
    rw [if_neg (show ¬ (zi i + 1 < 0 ∨ L ≤ (zi i + 1).toNatClampNeg) from i1)]
    rw [if_neg (show ¬ (zi i + 2 < 0 ∨ L ≤ (zi i + 2).toNatClampNeg) from i2)]
    rw [i_chk k8, g5, i_bd, i_chk k86, th, i_bd, if_pos ex.symm, show zi i + 6 = zi (i + 6) from zi_add i 6]
    by_cases c : k = 0
    · rw [if_pos (show x = 0 by rw [ex, c]; rfl), show aJ (WC (sI M3 139 2 (zi (k : Int))) 0 B S5 ho5 ha5 sm5) 149 0 = some (mJ (WC (sI M3 139 2 (zi (k : Int))) 0 B S5 ho5 ha5 sm5) 149 0) from i_aJ (k := 0) (N := 1) ko6 lo6 (by omega) (by omega) (by omega), i_sb, j6, hv c, if_pos c, lg_self, if_pos rfl]
    · rw [if_neg (show ¬ (x = 0) by
        rw [ex]
        show ¬ (zi (k : Int) = zi 0)
        rw [zi_eq (by omega) (by omega) (by omega) (by omega)]
        omega)]
  rcases (show k = 0 ∨ k = 1 ∨ k = 2 by omega) with c | c | c
  · subst c
    refine fin (sJ (WX M 13 (rows M 23) F1 S1) 149 0 v.toInt64) 0 (hT2 _) rfl (fun _ => rfl) ?_
    unfold g_L_trader
    rw [i_chk k7, g1]
    show (wJ (WX M 13 (rows M 23) F1 S1) 149 0 v.toInt64).bind (fun M2 => some ((0 : Int32), M2)) = _
    rw [show wJ (WX M 13 (rows M 23) F1 S1) 149 0 v.toInt64 = some (sJ (WX M 13 (rows M 23) F1 S1) 149 0 v.toInt64) from i_wJ (k := 0) (N := 1) ko1 lo1 (by omega) (by omega) (by omega), i_sb]
  · subst c
    refine fin (WX M 13 (rows M 23) F1 S1) 1 hT1 rfl (fun q => absurd q (by omega)) ?_
    unfold g_L_trader
    rw [i_chk k7, g1]
    rfl
  · subst c
    refine fin (WX M 13 (rows M 23) F1 S1) 2 hT1 rfl (fun q => absurd q (by omega)) ?_
    unfold g_L_trader
    rw [i_chk k7, g1]
    rfl
end M50
