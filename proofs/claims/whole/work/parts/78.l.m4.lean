/-! ===== PURE 59: canUndo over the laid bank ===== -/
section M4
variable {M : MemT} {B S : Int → Int} {ho ha : Int} {sm : Int32} {n : Nat} {nt : Int} {T tr sl bu as : Int → Int}
theorem w_allx {x k : Nat} (hx : x = 147) : mI (WC M 0 B S ho ha sm) x k = if (k : Int) < 2468 then zi (B k) else mI M 147 k := by
  show (if x = 147 then (if 2468 * (0 : Int) ≤ (k : Int) ∧ (k : Int) < 2468 * (0 : Int) + 2468 then zi (B ((k : Int) - 2468 * 0)) else mI M 147 k) else if x = 139 ∧ k = 27 then sm else mI M x k) = _
  rw [if_pos hx]
  by_cases c : (k : Int) < 2468
  · rw [if_pos (by omega), if_pos c, show (k : Int) - 2468 * 0 = k by omega]
  · rw [if_neg (by omega), if_neg c]
theorem w_all {k : Nat} : mI (WC M 0 B S ho ha sm) 147 k = if (k : Int) < 2468 then zi (B k) else mI M 147 k := w_allx rfl
theorem LB_WC {b : Int} {f : Int → Int32} (hb : 1 ≤ b) : LB (WC M 0 B S ho ha sm) b 2468 f = WC (LB M b 2468 f) 0 B S ho ha sm := by
  unfold LB WC
  refine Prod.ext rfl (Prod.ext rfl (Prod.ext rfl (Prod.ext rfl (Prod.ext ?_ rfl))))
  funext x k
  show (if x = 147 ∧ 2468 * b ≤ (k : Int) ∧ (k : Int) < 2468 * b + 2468 then f ((k : Int) - 2468 * b) else (if x = 147 then (if 2468 * (0 : Int) ≤ (k : Int) ∧ (k : Int) < 2468 * (0 : Int) + 2468 then zi (B ((k : Int) - 2468 * 0)) else M.2.2.2.2.1 147 k) else if x = 139 ∧ k = 27 then sm else M.2.2.2.2.1 x k)) = (if x = 147 then (if 2468 * (0 : Int) ≤ (k : Int) ∧ (k : Int) < 2468 * (0 : Int) + 2468 then zi (B ((k : Int) - 2468 * 0)) else (if (147 : Nat) = 147 ∧ 2468 * b ≤ (k : Int) ∧ (k : Int) < 2468 * b + 2468 then f ((k : Int) - 2468 * b) else M.2.2.2.2.1 147 k)) else if x = 139 ∧ k = 27 then sm else (if x = 147 ∧ 2468 * b ≤ (k : Int) ∧ (k : Int) < 2468 * b + 2468 then f ((k : Int) - 2468 * b) else M.2.2.2.2.1 x k))
  by_cases hx : x = 147
  · rw [if_pos hx, if_pos hx]
    by_cases d : 2468 * b ≤ (k : Int) ∧ (k : Int) < 2468 * b + 2468
    · rw [if_pos ⟨hx, d⟩, if_neg (by omega), if_pos ⟨rfl, d⟩]
    · rw [if_neg (fun q => d q.2), if_neg (show ¬ ((147 : Nat) = 147 ∧ 2468 * b ≤ (k : Int) ∧ (k : Int) < 2468 * b + 2468) from fun q => d q.2)]
  · rw [if_neg (fun q => hx q.1), if_neg hx, if_neg hx]
    by_cases h27 : x = 139 ∧ k = 27
    · rw [if_pos h27, if_pos h27]
    · rw [if_neg h27, if_neg h27, if_neg (fun q => hx q.1)]
theorem shM_WC : ∀ k, shM (WC M 0 B S ho ha sm) k = WC (shM M k) 0 B S ho ha sm := by
  intro k
  induction k with
  | zero => rfl
  | succ k ih =>
    show LB (shM (WC M 0 B S ho ha sm) k) (3 + k) 2468 (fun j => mI (shM (WC M 0 B S ho ha sm) k) 147 (2468 * (4 + k) + j).toNat) = WC (LB (shM M k) (3 + k) 2468 (fun j => mI (shM M k) 147 (2468 * (4 + k) + j).toNat)) 0 B S ho ha sm
    rw [ih, ← LB_WC (by omega)]
    exact LB_congr (fun j j0 j1 => by rw [w_all, if_neg (by omega)])
theorem s22_WC {v : Int32} : sI (WC M 0 B S ho ha sm) 139 22 v = WC (sI M 139 22 v) 0 B S ho ha sm := by
  unfold WC sI
  refine Prod.ext rfl (Prod.ext rfl (Prod.ext rfl (Prod.ext rfl (Prod.ext ?_ rfl))))
  funext x k
  show (if x = 139 ∧ k = 22 then v else if x = 147 then _ else if x = 139 ∧ k = 27 then sm else M.2.2.2.2.1 x k) = if x = 147 then (if _ then _ else (if (147 : Nat) = 139 ∧ k = 22 then v else M.2.2.2.2.1 147 k)) else if x = 139 ∧ k = 27 then sm else (if x = 139 ∧ k = 22 then v else M.2.2.2.2.1 x k)
  by_cases hx : x = 147
  · rw [if_neg (by omega), if_pos hx, if_pos hx, if_neg (show ¬ ((147 : Nat) = 139 ∧ k = 22) by omega)]
    rfl
  · rw [if_neg hx, if_neg hx]
    by_cases h27 : x = 139 ∧ k = 27
    · rw [if_neg (by omega), if_pos h27, if_pos h27]
    · rw [if_neg h27, if_neg h27]
/-- the reference's memory after canUndo -/
def MU (M : MemT) (u : Int) (B : Int → Int) : MemT := if u = 20 then sI (LB (sI (shM M 19) 139 22 (zi 19)) 22 2468 (fun j => zi (B j))) 139 22 (zi 20) else sI (LB M (3 + u) 2468 (fun j => zi (B j))) 139 22 (zi (u + 1))
theorem m_canUndo (h : MOk M 0 nt T tr sl bu as) (hn : 3000 < n) {u : Int} (u0 : 0 ≤ u) (u1 : u ≤ 20) (hu : mI M 139 22 = zi u) : g_X10_canUndo n (WC M 0 B S ho ha sm) 139 = some ((), WC (MU M u B) 0 B S ho ha sm) := by
  have hS : MShape (WC M 0 B S ho ha sm) := h.1
  rw [r_canUndo hS hn u0 u1 (by rw [w_I (by decide) (by omega)]; exact hu)]
  have ef : ∀ N : MemT, ∀ b : Int, LB N b 2468 (fun j => mI (WC M 0 B S ho ha sm) 147 (2468 * 0 + j).toNat) = LB N b 2468 (fun j => zi (B j)) := fun N b => LB_congr (fun j j0 j1 => by
    rw [w_all, if_pos (by omega)]
    exact congrArg zi (congrArg B (by omega)))
  unfold MU
  by_cases c : u = 20
  · rw [if_pos c, if_pos c, ef, shM_WC, s22_WC, LB_WC (by omega), s22_WC]
  · rw [if_neg c, if_neg c, ef, LB_WC (by omega), s22_WC]
theorem MU_o {u : Int} (u0 : 0 ≤ u) {x k : Nat} (hx : x ≠ 147 ∨ (k : Int) < 2468 * 3) (h22 : x ≠ 139 ∨ k ≠ 22) : mI (MU M u B) x k = mI M x k := by
  unfold MU
  by_cases c : u = 20
  · rw [if_pos c, s22o h22, LB_I, if_neg (by omega), s22o h22, shM_o hx]
  · rw [if_neg c, s22o h22, LB_I, if_neg (by omega)]
theorem MU_u {u : Int} : mI (MU M u B) 139 22 = zi (if u = 20 then 20 else u + 1) := by
  unfold MU
  by_cases c : u = 20
  · rw [if_pos c, if_pos c, s22]
  · rw [if_neg c, if_neg c, s22]
theorem MU_b {u : Int} (u0 : 0 ≤ u) (u1 : u ≤ 20) {i : Nat} {j : Int} (j0 : 0 ≤ j) (j1 : j < 2468) (hi : (i : Int) < (if u = 20 then 20 else u + 1)) : mI (MU M u B) 147 (2468 * (3 + (i : Int)) + j).toNat = if (i : Int) + 1 = (if u = 20 then 20 else u + 1) then zi (B j) else if u = 20 then mI M 147 (2468 * (4 + (i : Int)) + j).toNat else mI M 147 (2468 * (3 + (i : Int)) + j).toNat := by
  unfold MU
  by_cases c : u = 20
  · rw [if_pos c] at hi
    rw [if_pos c, if_pos c, if_pos c, s22o (by omega), LB_I]
    by_cases d : (i : Int) + 1 = 20
    · rw [if_pos (by omega), if_pos d]
      exact congrArg zi (congrArg B (by omega))
    · rw [if_neg (by omega), if_neg d, s22o (by omega), shM_b j0 j1, if_pos (by omega)]
  · rw [if_neg c] at hi
    rw [if_neg c, if_neg c, if_neg c, s22o (by omega), LB_I]
    by_cases d : (i : Int) + 1 = u + 1
    · rw [if_pos (by omega), if_pos d]
      exact congrArg zi (congrArg B (by omega))
    · rw [if_neg (by omega), if_neg d]
theorem MU_S {u : Int} (h : MShape M) : MShape (MU M u B) := by
  unfold MU
  split
  · exact MS_s (MS_L (MS_s (shM_S h 19)))
  · exact MS_s (MS_L h)
theorem MOk_frame {M1 : MemT} (h : MOk M 0 nt T tr sl bu as) (hs : MShape M1) (e : ∀ x k, x ≠ 147 → (x ≠ 139 ∨ (k ≠ 22 ∧ k ≠ 2)) → mI M1 x k = mI M x k) : MOk M1 0 nt T tr sl bu as := by
  obtain ⟨hS, hb, hb1, hn, h1, h2, h3, h4, h5⟩ := h
  exact ⟨hs, (e _ _ (by omega) (by omega)).trans hb, hb1, (e _ _ (by omega) (by omega)).trans hn, fun k k0 k1 => (e _ _ (by omega) (by omega)).trans (h1 k k0 k1), fun k k0 k1 => (e _ _ (by omega) (by omega)).trans (h2 k k0 k1), fun k k0 k1 => (e _ _ (by omega) (by omega)).trans (h3 k k0 k1), fun k k0 k1 => (e _ _ (by omega) (by omega)).trans (h4 k k0 k1), fun k k0 k1 => (e _ _ (by omega) (by omega)).trans (h5 k k0 k1)⟩
theorem MU_Ok {u : Int} (u0 : 0 ≤ u) (h : MOk M 0 nt T tr sl bu as) : MOk (MU M u B) 0 nt T tr sl bu as := MOk_frame h (MU_S h.1) (fun x k hx hk => MU_o u0 (Or.inl hx) (by omega))
end M4
