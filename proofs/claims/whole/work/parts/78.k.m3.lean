/-! ===== PURE 58: the reference's banks: copyBank, canUndo ===== -/
def LB (M : MemT) (b N : Int) (f : Int → Int32) : MemT := (M.1, M.2.1, M.2.2.1, M.2.2.2.1, fun x k => if x = 147 ∧ 2468 * b ≤ (k : Int) ∧ (k : Int) < 2468 * b + N then f ((k : Int) - 2468 * b) else M.2.2.2.2.1 x k, M.2.2.2.2.2)
theorem LB_0 {M : MemT} {b : Int} {f : Int → Int32} : LB M b 0 f = M := by
  unfold LB
  refine Prod.ext rfl (Prod.ext rfl (Prod.ext rfl (Prod.ext rfl (Prod.ext ?_ rfl))))
  funext x k
  exact if_neg (by omega)
theorem LB_I {M : MemT} {b N : Int} {f : Int → Int32} {x k : Nat} : mI (LB M b N f) x k = if x = 147 ∧ 2468 * b ≤ (k : Int) ∧ (k : Int) < 2468 * b + N then f ((k : Int) - 2468 * b) else mI M x k := rfl
theorem LB_set {M : MemT} {b : Int} {f : Int → Int32} (hb : 0 ≤ b) {i : Nat} : sI (LB M b i f) 147 (2468 * b + i).toNat (f i) = LB M b ((i + 1 : Nat) : Int) f := by
  unfold LB sI
  refine Prod.ext rfl (Prod.ext rfl (Prod.ext rfl (Prod.ext rfl (Prod.ext ?_ rfl))))
  funext x k
  show (if x = 147 ∧ k = (2468 * b + i).toNat then f i else if x = 147 ∧ 2468 * b ≤ (k : Int) ∧ (k : Int) < 2468 * b + i then f ((k : Int) - 2468 * b) else M.2.2.2.2.1 x k) = if x = 147 ∧ 2468 * b ≤ (k : Int) ∧ (k : Int) < 2468 * b + ((i + 1 : Nat) : Int) then f ((k : Int) - 2468 * b) else M.2.2.2.2.1 x k
  by_cases c : x = 147 ∧ k = (2468 * b + i).toNat
  · rw [if_pos c, if_pos (by omega)]
    exact congrArg f (by omega)
  · rw [if_neg c]
    by_cases d : x = 147 ∧ 2468 * b ≤ (k : Int) ∧ (k : Int) < 2468 * b + i
    · rw [if_pos d, if_pos (by omega)]
    · rw [if_neg d, if_neg (by omega)]
theorem LB_congr {M : MemT} {b : Int} {f g : Int → Int32} (h : ∀ j : Int, 0 ≤ j → j < 2468 → f j = g j) : LB M b 2468 f = LB M b 2468 g := by
  unfold LB
  refine Prod.ext rfl (Prod.ext rfl (Prod.ext rfl (Prod.ext rfl (Prod.ext ?_ rfl))))
  funext x k
  show (if x = 147 ∧ 2468 * b ≤ (k : Int) ∧ (k : Int) < 2468 * b + 2468 then f ((k : Int) - 2468 * b) else M.2.2.2.2.1 x k) = if x = 147 ∧ 2468 * b ≤ (k : Int) ∧ (k : Int) < 2468 * b + 2468 then g ((k : Int) - 2468 * b) else M.2.2.2.2.1 x k
  by_cases d : x = 147 ∧ 2468 * b ≤ (k : Int) ∧ (k : Int) < 2468 * b + 2468
  · rw [if_pos d, if_pos d, h _ (by omega) (by omega)]
  · rw [if_neg d, if_neg d]
theorem r_copyBank {M : MemT} (h : MShape M) {n : Nat} (hn : 3000 < n) {a b : Int} (a0 : 0 ≤ a) (a1 : a < 23) (b0 : 0 ≤ b) (b1 : b < 23) (hab : a ≠ b) : g_X10_copyBank n M 139 (zi a) (zi b) = some ((), LB M b 2468 (fun j => mI M 147 (2468 * a + j).toNat)) := by
  have hl : (mL M 147 : Int) = 56764 := by rw [h.2.2.2.2.2.2.2.2.2.1]; rfl
  have hk : mK M 147 = 10 := h.2.2.1.2.2.2.2.2.2.2.1
  have h20 : mR M 139 20 = some 147 := h.2.1.2.2.2.2.2.2.2.1
  have key := loop_k (step := fun (s : MemT × Int32) => (fun (M1 : MemT) (v2 : Int32) => (if 2468 ≤ v2 then some (.inr (M1, v2)) else (gO M1 8 139 20).bind (fun j4 => (gO M1 8 139 20).bind (fun j5 => (aI M1 10 j5 ((2468 * (zi a)) + v2)).bind (fun v6 => (wI M1 j4 ((2468 * (zi b)) + v2) v6).bind (fun M7 => some (.inl (M7, v2 + 1)))))))) s.1 s.2) (fun i : Nat => (LB M b i (fun j => mI M 147 (2468 * a + j).toNat), zi (i : Int))) (LB M b 2468 (fun j => mI M 147 (2468 * a + j).toNat), zi 2468) 2468 (fun i hi => ?_) ?_ n (by omega)
  · have e0 : (LB M b ((0 : Nat) : Int) (fun j => mI M 147 (2468 * a + j).toNat), zi ((0 : Nat) : Int)) = (M, (0 : Int32)) := by
      show (LB M b 0 _, (0 : Int32)) = _
      rw [LB_0]
    dsimp only at key
    rw [e0] at key
    unfold g_X10_copyBank
    dsimp only
    rw [key, i_sb]
  · have ea : (2468 : Int32) * zi a + zi (i : Int) = zi (2468 * a + i) := by show zi 2468 * zi a + _ = _; rw [zi_mul, zi_add]
    have eb : (2468 : Int32) * zi b + zi (i : Int) = zi (2468 * b + i) := by show zi 2468 * zi b + _ = _; rw [zi_mul, zi_add]
    have ev : mI (LB M b i (fun j => mI M 147 (2468 * a + j).toNat)) 147 (2468 * a + i).toNat = mI M 147 (2468 * a + i).toNat := by
      rw [LB_I, if_neg (by omega)]
    dsimp only
    rw [if_neg (by show ¬ (zi 2468 ≤ zi (i : Int)); rw [zi_le (by omega) (by omega) (by omega) (by omega)]; omega), i_gO (M := LB M b i _) h.1 h20, i_sb, i_sb, ea, i_aI (M := LB M b i _) (N := 56764) hk hl (by omega) (by omega) (by omega), i_sb, ev, eb, i_wI (M := LB M b i _) (N := 56764) hk hl (by omega) (by omega) (by omega), i_sb, show zi (i : Int) + 1 = zi ((i + 1 : Nat) : Int) from zi_add (i : Int) 1]
    exact congrArg (fun m => some (Sum.inl (m, zi ((i + 1 : Nat) : Int)))) (LB_set (f := fun j => mI M 147 (2468 * a + j).toNat) b0)
  · dsimp only
    rw [if_pos (by show zi 2468 ≤ zi ((2468 : Nat) : Int); exact Int32.le_refl _)]
    rfl
def shM (M : MemT) : Nat → MemT
  | 0 => M
  | k + 1 => LB (shM M k) (3 + k) 2468 (fun j => mI (shM M k) 147 (2468 * (4 + k) + j).toNat)
theorem shM_S {M : MemT} (h : MShape M) : ∀ k, MShape (shM M k) := by
  intro k
  induction k with
  | zero => exact h
  | succ k ih => exact ih
theorem shM_o {M : MemT} {x y : Nat} (hx : x ≠ 147 ∨ (y : Int) < 2468 * 3) : ∀ k, mI (shM M k) x y = mI M x y := by
  intro k
  induction k with
  | zero => rfl
  | succ k ih =>
    show mI (LB (shM M k) (3 + k) 2468 _) x y = _
    rw [LB_I, if_neg (by omega), ih]
theorem shM_b {M : MemT} {i : Nat} {j : Int} (j0 : 0 ≤ j) (j1 : j < 2468) : ∀ k, mI (shM M k) 147 (2468 * (3 + (i : Int)) + j).toNat = if i < k then mI M 147 (2468 * (4 + (i : Int)) + j).toNat else mI M 147 (2468 * (3 + (i : Int)) + j).toNat := by
  intro k
  induction k generalizing i with
  | zero => rfl
  | succ k ih =>
    show mI (LB (shM M k) (3 + k) 2468 _) 147 _ = _
    rw [LB_I]
    by_cases c : i = k
    · subst c
      rw [if_pos (by omega), if_pos (by omega), show 2468 * (4 + (i : Int)) + (((2468 * (3 + (i : Int)) + j).toNat : Int) - 2468 * (3 + (i : Int))) = 2468 * (3 + ((i + 1 : Nat) : Int)) + j by omega, ih, if_neg (by omega), show 2468 * (3 + ((i + 1 : Nat) : Int)) + j = 2468 * (4 + (i : Int)) + j by omega]
    · rw [if_neg (by omega), ih]
      by_cases d : i < k
      · rw [if_pos d, if_pos (by omega)]
      · rw [if_neg d, if_neg (by omega)]
theorem r_shift {M : MemT} (h : MShape M) {n : Nat} (hn : 3000 < n) : loopF (fun (s : MemT × Int32) => (fun (M9 : MemT) (v10 : Int32) => (if 20 ≤ v10 then some (.inr (M9, v10)) else chk M9 8 139 (bd (g_X10_copyBank n M9 139 (3 + v10) (2 + v10)) (fun r12 M13 => some (.inl (M13, v10 + 1)))))) s.1 s.2) n (M, 1) = some (shM M 19, zi 20) := by
  rw [show (M, (1 : Int32)) = (fun k : Nat => (shM M k, zi (1 + (k : Int)))) 0 from rfl]
  refine loop_k (fun k : Nat => (shM M k, zi (1 + (k : Int)))) _ 19 (fun i hi => ?_) ?_ n (by omega)
  · have e3 : (3 : Int32) + zi (1 + (i : Int)) = zi (4 + i) := (zi_add 3 _).trans (congrArg zi (by omega))
    have e2 : (2 : Int32) + zi (1 + (i : Int)) = zi (3 + i) := (zi_add 2 _).trans (congrArg zi (by omega))
    dsimp only
    rw [if_neg (by show ¬ (zi 20 ≤ zi (1 + (i : Int))); rw [zi_le (by omega) (by omega) (by omega) (by omega)]; omega), i_chk (M := shM M i) (shM_S h i).1, e3, e2, r_copyBank (shM_S h i) hn (by omega) (by omega) (by omega) (by omega) (by omega), i_bd, show zi (1 + (i : Int)) + 1 = zi (1 + ((i + 1 : Nat) : Int)) from (zi_add _ 1).trans (congrArg zi (by omega))]
    rfl
  · dsimp only
    rw [if_pos (by show zi 20 ≤ zi (1 + ((19 : Nat) : Int)); exact Int32.le_refl _)]
    rfl
theorem g22 {M : MemT} (h : MShape M) : gI M 8 139 22 = some (mI M 139 22) := i_gI h.1
theorem p22 {M : MemT} (h : MShape M) {v : Int32} : pI M 8 139 22 v = some (sI M 139 22 v) := i_pI h.1
theorem s22 {M : MemT} {v : Int32} : mI (sI M 139 22 v) 139 22 = v := by
  show up2 M.2.2.2.2.1 139 22 v 139 22 = v
  exact up2_at
theorem s22o {M : MemT} {x k : Nat} {v : Int32} (h : x ≠ 139 ∨ k ≠ 22) : mI (sI M 139 22 v) x k = mI M x k := if_neg (fun q => by omega)
theorem MS_s {M : MemT} {v : Int32} (h : MShape M) : MShape (sI M 139 22 v) := h
theorem MS_L {M : MemT} {b N : Int} {f : Int → Int32} (h : MShape M) : MShape (LB M b N f) := h
/-- the reference makes room and keeps bank 0 -/
theorem r_canUndo {M : MemT} (h : MShape M) {n : Nat} (hn : 3000 < n) {u : Int} (u0 : 0 ≤ u) (u1 : u ≤ 20) (hu : mI M 139 22 = zi u) : g_X10_canUndo n M 139 = some ((), if u = 20 then sI (LB (sI (shM M 19) 139 22 (zi 19)) 22 2468 (fun j => mI M 147 (2468 * 0 + j).toNat)) 139 22 (zi 20) else sI (LB M (3 + u) 2468 (fun j => mI M 147 (2468 * 0 + j).toNat)) 139 22 (zi (u + 1))) := by
  have sh := r_shift (n := n) h hn
  have hW := shM_S h 19
  have hWo : ∀ j : Int, 0 ≤ j → j < 2468 → mI (shM M 19) 147 (2468 * 0 + j).toNat = mI M 147 (2468 * 0 + j).toNat := fun j j0 j1 => shM_o (by omega) 19
  generalize shM M 19 = W at sh hW hWo ⊢
  dsimp only at sh
  unfold g_X10_canUndo
  rw [g22 h, i_sb, hu, i_jp]
  have e20 : (zi u = 20) = (u = 20) := zi_eq (b := 20) (by omega) (by omega) (by omega) (by omega)
  by_cases c : u = 20
  · have h2 : MShape (sI W 139 22 (zi 19)) := MS_s hW
    have cb := r_copyBank h2 hn (a := 0) (b := 22) (by omega) (by omega) (by omega) (by omega) (by omega)
    have h3 : MShape (LB (sI (W) 139 22 (zi 19)) 22 2468 (fun j => mI (sI (W) 139 22 (zi 19)) 147 (2468 * 0 + j).toNat)) := MS_L h2
    have e22 : (3 : Int32) + zi 19 = zi 22 := zi_add 3 19
    have cb' : g_X10_copyBank n (sI (W) 139 22 (zi 19)) 139 0 (zi 22) = _ := cb
    have ec : (19 : Int32) = zi 19 := rfl
    rw [if_pos (by rw [e20]; exact c), if_pos c, sh, i_sb]
    dsimp only
    rw [p22 (hW), i_sb, ec, g22 h2, i_sb, s22, i_chk (M := sI (W) 139 22 (zi 19)) h2.1, e22, cb', i_bd, g22 h3, i_sb, p22 h3, i_sb, LB_I, if_neg (by omega), s22, show zi 19 + 1 = zi 20 from zi_add 19 1]
    refine congrArg (fun m => some ((), sI m 139 22 (zi 20))) (LB_congr (fun j j0 j1 => ?_))
    rw [s22o (by omega), hWo j j0 j1]
  · have cb := r_copyBank h hn (a := 0) (b := 3 + u) (by omega) (by omega) (by omega) (by omega) (by omega)
    have h3 : MShape (LB M (3 + u) 2468 (fun j => mI M 147 (2468 * 0 + j).toNat)) := MS_L h
    have cb' : g_X10_copyBank n M 139 0 (zi (3 + u)) = _ := cb
    have e3 : (3 : Int32) + zi u = zi (3 + u) := zi_add 3 u
    rw [if_neg (by rw [e20]; exact c), if_neg c]
    dsimp only
    rw [g22 h, i_sb, i_chk h.1, hu, e3, cb', i_bd, g22 h3, i_sb, p22 h3, i_sb, LB_I, if_neg (by omega), hu, show zi u + 1 = zi (u + 1) from zi_add u 1]
