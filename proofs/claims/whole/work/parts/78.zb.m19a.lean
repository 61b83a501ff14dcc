/-! ===== PURE 74: chance, both sides ===== -/
theorem asN_J {Y : MemT} {v : Int64} : sJ (asN (sJ Y 139 28 v)) 139 28 v = asN (sJ Y 139 28 v) := by
  unfold asN sI LB sJ
  refine Prod.ext rfl (Prod.ext rfl (Prod.ext rfl (Prod.ext rfl (Prod.ext rfl ?_))))
  funext y j
  show (if y = 139 ∧ j = 28 then v else if y = 139 ∧ j = 28 then v else mJ Y y j) = (if y = 139 ∧ j = 28 then v else mJ Y y j)
  by_cases h : y = 139 ∧ j = 28
  · rw [if_pos h, if_pos h]
  · rw [if_neg h, if_neg h]
section M19
variable {M M1 : MemT} {r s q : Nat} {P : Nat → Nat} {old cnt tl kp nt U : Int} {T tr sl bu as B Bi : Int → Int} {Bs : Nat → Int → Int} {n : Nat}
theorem dS_loop {W : MemT} {C : Int → Int} {t : Int} (w7 : mK W 0 = 7) (w5 : mR W 0 5 = some 75) (w4 : mR W 0 4 = some 13) (k75 : mK W 75 = 2) (r75 : mR W 75 1 = some 85) (k13 : mK W 13 = 2) (r13 : mR W 13 1 = some 23) (h85 : BSh W 85) (h23 : BSh W 23) (hC : RM C (rows W 85)) (hB : RM B (rows W 23)) (t0 : 0 ≤ t) (t1 : t < 4) (hn : 4 < n) : loopF (fun (s : MemT × Int32 × Int32) => (fun (M40 : MemT) (v41 : Int32) (v42 : Int32) => (if 4 ≤ v42 then some (.inr (M40, v41, v42)) else (gO M40 7 0 5).bind (fun j44 => (gO M40 2 j44 1).bind (fun j45 => chk M40 1 j45 (bd (g_X2_totalOf n M40 j45 (zi t) v42) (fun r46 M47 => (gO M47 7 0 4).bind (fun j48 => (gO M47 2 j48 1).bind (fun j49 => chk M47 1 j49 (bd (g_X2_totalOf n M47 j49 (zi t) v42) (fun r50 M51 => some (.inl (M51, v41 + (r46 - r50), v42 + 1)))))))))))) s.1 s.2.1 s.2.2) n (W, 0, 0) = some (W, zi (dS C B t 4), zi 4) := by
  refine loop_k (fun i : Nat => (W, zi (dS C B t i), zi (i : Int))) _ 4 (fun i hi => ?_) ?_ n hn
  · dsimp only
    rw [if_neg (by show ¬ (zi 4 ≤ zi (i : Int)); rw [zi_le (by omega) (by omega) (by omega) (by omega)]; omega), i_gO w7 w5, i_sb, i_gO k75 r75, i_sb, i_chk h85.1, tot_x h85 hC t0 t1 (by omega) (by omega), i_bd, i_gO w7 w4, i_sb, i_gO k13 r13, i_sb, i_chk h23.1, tot_x h23 hB t0 t1 (by omega) (by omega), i_bd, zi_sub, zi_add, show zi (i : Int) + 1 = zi ((i + 1 : Nat) : Int) from zi_add (i : Int) 1]
    rfl
  · dsimp only
    rw [if_pos (by show zi 4 ≤ zi ((4 : Nat) : Int); exact Int32.le_refl _)]
    rfl
end M19
