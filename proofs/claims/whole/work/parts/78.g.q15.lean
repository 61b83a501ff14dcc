/-! ===== PURE 54: named, fault, count, trader ===== -/
def shutZ (B : Int → Int) : Nat → Int
  | 0 => 0
  | k + 1 => shutZ B k + AtZ B k 9
def opZ (B : Int → Int) (t : Int) : Nat → Int32
  | 0 => 0
  | k + 1 => if AtZ B k 9 = 0 ∧ AtZ B k 0 = t then opZ B t k ||| ((1 : Int32) <<< (zi (k : Int) &&& 31)) else opZ B t k
theorem sI_sI {M : MemT} {x k : Nat} {v w : Int32} : sI (sI M x k v) x k w = sI M x k w := by
  unfold sI
  refine congrArg (fun f => (M.1, M.2.1, M.2.2.1, M.2.2.2.1, f, M.2.2.2.2.2)) ?_
  funext y j
  show (if y = x ∧ j = k then w else (if y = x ∧ j = k then v else M.2.2.2.2.1 y j)) = (if y = x ∧ j = k then w else M.2.2.2.2.1 y j)
  by_cases q : y = x ∧ j = k
  · rw [if_pos q, if_pos q]
  · rw [if_neg q, if_neg q, if_neg q]
section Q15
variable {M M' : MemT} {c r : Nat} {R : Nat → Nat → Int32} {F : Nat → Int32} {S S' : Int → Int} {n : Nat} {T tr sl bu as B : Int → Int} {nt U ho ha : Int} {sm : Int32}
theorem c_b3 (h : CSh M c r) : gO (WX M c R F S) 1 (c + 10) 3 = some (c + 10 + 1) := x_o3 (M := WF M (c + 60) F S) (wx_B (F := F) (S := S) h)
theorem c_b4 (h : CSh M c r) : gO (WX M c R F S) 1 (c + 10) 4 = some (c + 10 + 2) := x_o4 (M := WF M (c + 60) F S) (wx_B (F := F) (S := S) h)
theorem c_v3 (h : CSh M c r) {k : Int} (h0 : 0 ≤ k) (h1 : k < 4) : aI (WX M c R F S) 10 (c + 10 + 1) (zi k) = some (R 1 k.toNat) := x_a3 (M := WF M (c + 60) F S) (wx_B (F := F) (S := S) h) h0 h1
theorem c_v4 (h : CSh M c r) {k : Int} (h0 : 0 ≤ k) (h1 : k < 4) : aI (WX M c R F S) 10 (c + 10 + 2) (zi k) = some (R 2 k.toNat) := x_a4 (M := WF M (c + 60) F S) (wx_B (F := F) (S := S) h) h0 h1
theorem wx_out {x k : Nat} (h : x < c + 10 ∨ c + 61 ≤ x) : mI (WX M c R F S) x k = mI M x k := by
  unfold WX
  rw [xr_out (by omega)]
  show (if x = c + 60 then F k else mI M x k) = _
  rw [if_neg (by omega)]
theorem ms_I (h : MOk M' 0 nt T tr sl bu as) {k : Nat} (h2 : k ≠ 2) (h27 : k ≠ 27) : gI (WC (sI M' 139 2 0) 0 B S' ho ha sm) 8 139 k = some (mI M' 139 k) := by
  rw [i_gI (M := WC (sI M' 139 2 0) 0 B S' ho ha sm) h.1.1, w_I (by decide) (by omega)]
  exact congrArg some (if_neg (fun q => h2 q.2))
theorem m_trA (h : MOk M' 0 nt T tr sl bu as) {w : Int} (h2 : 0 ≤ w) (h3 : w < 64) : aI (WC M' 0 B S' ho ha sm) 10 142 (zi w) = some (zi (tr w)) := by
  obtain ⟨hS, -, -, -, -, hr, -⟩ := id h
  rw [i_aI (M := WC M' 0 B S' ho ha sm) (N := 64) hS.2.2.1.2.2.1 (by rw [w_L, hS.2.2.2.2.1]; rfl) (by omega) (by omega) (by omega), w_I (by decide) (by simp), hr _ (by omega) (by omega)]
def nmP (tr : Int → Int) (x : Int32) (i : Nat) : Bool := decide (zi (tr (8 * (i : Int))) = x)
theorem xq_nm (hx : XQr M c r R nt T tr sl bu as B U) (hnt : 0 ≤ nt ∧ nt ≤ 4) (hn : 10 < n) (x : Int32) : loopF (fun (s : MemT × Int32) => (fun (M1 : MemT) (v2 : Int32) => (gI M1 6 r 0).bind (fun v4 => (if v4 ≤ v2 then some (.inr (((-1), M1))) else (gO M1 6 r 1).bind (fun j5 => (aI M1 10 j5 v2).bind (fun v6 => (if v6 = x then some (.inr ((v2, M1))) else some (.inl (M1, v2 + 1)))))))) s.1 s.2) n (WX M c R F S, 0) = some (match fnd (nmP tr x) 0 nt.toNat with | some i => (zi (i : Int), WX M c R F S) | none => (-1, WX M c R F S)) := by
  have u := xq_U hx
  rw [show (WX M c R F S, (0 : Int32)) = (fun i : Nat => (WX M c R F S, zi (i : Int))) 0 from rfl]
  refine loop_find (fun i : Nat => (WX M c R F S, zi (i : Int))) (fun i => (zi (i : Int), WX M c R F S)) (-1, WX M c R F S) nt.toNat (nmP tr x) (fun i hi hp => ?_) (fun i hi hp => ?_) ?_ n (by omega)
  · unfold nmP at hp
    have hp' := of_decide_eq_false hp
    have un := (u.2.1 (i : Int) (by omega) (by omega)).1
    dsimp only
    rw [c_gR (xq_C hx), i_sb, u.1.1, if_neg (by rw [zi_le (by omega) (by omega) (by omega) (by omega)]; omega), c_r1 (xq_C hx), i_sb, c_a1 (xq_C hx) (by omega) (by omega), i_sb, un, if_neg hp', show zi (i : Int) + 1 = zi ((i + 1 : Nat) : Int) from zi_add (i : Int) 1]
  · unfold nmP at hp
    have hp' := of_decide_eq_true hp
    have un := (u.2.1 (i : Int) (by omega) (by omega)).1
    dsimp only
    rw [c_gR (xq_C hx), i_sb, u.1.1, if_neg (by rw [zi_le (by omega) (by omega) (by omega) (by omega)]; omega), c_r1 (xq_C hx), i_sb, c_a1 (xq_C hx) (by omega) (by omega), i_sb, un, if_pos hp']
  · dsimp only
    rw [c_gR (xq_C hx), i_sb, u.1.1, if_pos (by rw [zi_le (by omega) (by omega) (by omega) (by omega)]; omega)]
theorem mq_nm (hm0 : MQr M' nt T tr sl bu as B U) (hn : 10 < n) (x : Int32) : loopF (fun (s : MemT × Int32) => (fun (M1 : MemT) (v2 : Int32) => (if (zi nt) ≤ v2 then some (.inr (((-1), M1))) else (gO M1 8 139 13).bind (fun j4 => (aI M1 10 j4 ((0 : Int32) + (8 * v2))).bind (fun v5 => (if v5 = x then some (.inr ((v2, M1))) else some (.inl (M1, v2 + 1))))))) s.1 s.2) n (WC M' 0 B S' ho ha sm, 0) = some (match fnd (nmP tr x) 0 nt.toNat with | some i => (zi (i : Int), WC M' 0 B S' ho ha sm) | none => (-1, WC M' 0 B S' ho ha sm)) := by
  have hnt := hm0.2.1
  have ea : ∀ i : Nat, (0 : Int32) + 8 * zi (i : Int) = zi (8 * (i : Int)) := fun i => by
    show zi 0 + zi 8 * zi (i : Int) = _
    rw [zi_mul, zi_add, Int.zero_add]
  rw [show (WC M' 0 B S' ho ha sm, (0 : Int32)) = (fun i : Nat => (WC M' 0 B S' ho ha sm, zi (i : Int))) 0 from rfl]
  refine loop_find (fun i : Nat => (WC M' 0 B S' ho ha sm, zi (i : Int))) (fun i => (zi (i : Int), WC M' 0 B S' ho ha sm)) (-1, WC M' 0 B S' ho ha sm) nt.toNat (nmP tr x) (fun i hi hp => ?_) (fun i hi hp => ?_) ?_ n (by omega)
  · unfold nmP at hp
    have hp' := of_decide_eq_false hp
    dsimp only
    rw [if_neg (by rw [zi_le (by omega) (by omega) (by omega) (by omega)]; omega), m_tr (mq_h hm0), i_sb, ea, m_trA (mq_h hm0) (by omega) (by omega), i_sb, if_neg hp', show zi (i : Int) + 1 = zi ((i + 1 : Nat) : Int) from zi_add (i : Int) 1]
  · unfold nmP at hp
    have hp' := of_decide_eq_true hp
    dsimp only
    rw [if_neg (by rw [zi_le (by omega) (by omega) (by omega) (by omega)]; omega), m_tr (mq_h hm0), i_sb, ea, m_trA (mq_h hm0) (by omega) (by omega), i_sb, if_pos hp']
  · dsimp only
    rw [if_pos (by rw [zi_le (by omega) (by omega) (by omega) (by omega)]; omega)]
theorem Q_named (hx : XQr M c r R nt T tr sl bu as B U) (hm : MQr M' nt T tr sl bu as B U) (hn : 10 < n) (x : Int32) : QP (g_X9_named n (WX M c R F S) 0 x) (g_X10_named n (WC M' 0 B S' ho ha sm) 139 x) M (sI M' 139 2 0) c R B := by
  have hmz := mq_thr0 (v := (0 : Int32)) hm
  have kr : mK M r = 6 := (xq_C hx).2.2.2.1.1
  have gx := xq_nm (n := n) (F := F) (S := S) hx hm.2.1 hn x
  have gm := mq_nm (n := n) (S' := S') (ho := ho) (ha := ha) (sm := sm) hmz hn x
  dsimp only at gx gm
  have h1 : g_X9_named n (WX M c R F S) 0 x = some (match fnd (nmP tr x) 0 nt.toNat with | some i => (zi (i : Int), WX M c R F S) | none => (-1, WX M c R F S)) := by
    unfold g_X9_named g_X7_traderNamed
    rw [xq_o4 hx, i_sb, c_o0 (xq_C hx), i_sb, i_chk (M := WX M c R F S) kr, gx]
    cases fnd (nmP tr x) 0 nt.toNat <;> rfl
  have h2 : g_X10_named n (WC M' 0 B S' ho ha sm) 139 x = some (match fnd (nmP tr x) 0 nt.toNat with | some i => (zi (i : Int), WC (sI M' 139 2 0) 0 B S' ho ha sm) | none => (-1, WC (sI M' 139 2 0) 0 B S' ho ha sm)) := by
    unfold g_X10_named g_X10_nameAt
    rw [m_thr0 (mq_h hm), i_sb, m_gnt (mq_h hmz), i_sb, m_chk (mq_h hmz), gm]
    cases fnd (nmP tr x) 0 nt.toNat <;> rfl
  rw [h1, h2]
  cases fnd (nmP tr x) 0 nt.toNat with
  | none => exact ⟨-1, _, _, _, _, _, _, rfl, rfl⟩
  | some i => exact ⟨zi (i : Int), _, _, _, _, _, _, rfl, rfl⟩
theorem Q_fault (hx : XQr M c r R nt T tr sl bu as B U) (hm : MQr M' nt T tr sl bu as B U) (h2 : mK M 2 = 4 ∧ mR M 0 2 = some 2) (hf : mI M 2 0 = mI M' 139 4) (hp : mI M 2 1 = mI M' 139 5) (w : Int32) : QP (g_X9_fault n (WX M c R F S) 0 w) (g_X10_fault n (WC M' 0 B S' ho ha sm) 139 w) M (sI M' 139 2 0) c R B := by
  have c0 := hx.1.2.2
  have o2 : gO (WX M c R F S) 7 0 2 = some 2 := i_gO hx.1.1 h2.2
  have g0 : gI (WX M c R F S) 4 2 0 = some (mI M' 139 4) := by rw [i_gI (M := WX M c R F S) h2.1, wx_out (by omega), hf]
  have g1 : gI (WX M c R F S) 4 2 1 = some (mI M' 139 5) := by rw [i_gI (M := WX M c R F S) h2.1, wx_out (by omega), hp]
  unfold g_X9_fault g_X10_fault
  rw [m_thr0 (mq_h hm), i_sb]
  by_cases c1 : w = 0
  · rw [if_pos c1, if_pos c1, o2, i_sb, g0, i_sb, ms_I (mq_h hm) (by omega) (by omega), i_sb]
    exact ⟨_, _, _, _, _, _, _, rfl, rfl⟩
  · rw [if_neg c1, if_neg c1]
    by_cases c2 : w = 1
    · rw [if_pos c2, if_pos c2, o2, i_sb, g1, i_sb, ms_I (mq_h hm) (by omega) (by omega), i_sb]
      exact ⟨_, _, _, _, _, _, _, rfl, rfl⟩
    · rw [if_neg c2, if_neg c2]
      exact ⟨_, _, _, _, _, _, _, rfl, rfl⟩
theorem shutZ_r (h : ∀ a : Int, 0 ≤ a → a < B 1865 → AtZ B a 9 = 0 ∨ AtZ B a 9 = 1) : ∀ k : Nat, (k : Int) ≤ B 1865 → 0 ≤ shutZ B k ∧ shutZ B k ≤ k := by
  intro k
  induction k with
  | zero => intro _; exact ⟨Int.le_refl _, Int.le_refl _⟩
  | succ k ih =>
    intro hk
    have h1 := ih (by omega)
    have h2 := h k (by omega) (by omega)
    show 0 ≤ shutZ B k + AtZ B k 9 ∧ shutZ B k + AtZ B k 9 ≤ _
    omega
theorem xq_sh (hx : XQr M c r R nt T tr sl bu as B U) (hm : MQr M' nt T tr sl bu as B U) (hn : 10 < n) : loopF (fun (s : MemT × Int32 × Int32) => (fun (M1 : MemT) (v2 : Int32) (v3 : Int32) => (gI M1 1 (c + 10) 1).bind (fun v5 => (if v5 ≤ v3 then some (.inr (M1, v2, v3)) else (if 8 ≤ v3 then some (.inr (M1, v2, v3)) else (gO M1 1 (c + 10) 5).bind (fun j6 => (aO M1 14 j6 v3).bind (fun j7 => (gI M1 0 j7 8).bind (fun v8 => (if v8 = 0 then some (.inl (M1, v2, v3 + 1)) else some (.inl (M1, v2 + 1, v3 + 1)))))))))) s.1 s.2.1 s.2.2) n (WX M c R F S, 0, 0) = some (WX M c R F S, zi (shutZ B (B 1865).toNat), zi ((B 1865).toNat : Int)) := by
  have h8 := mq_8 hm
  have r1 := (xq_R hx).1.2.1
  rw [show (WX M c R F S, (0 : Int32), (0 : Int32)) = (fun i : Nat => (WX M c R F S, zi (shutZ B i), zi (i : Int))) 0 from rfl]
  refine loop_k (fun i : Nat => (WX M c R F S, zi (shutZ B i), zi (i : Int))) _ (B 1865).toNat (fun i hi => ?_) ?_ n (by omega)
  · have ra := (hx.2.1.2.2.1.2.2 i (by omega)).2.1.2.2.1
    have a9 := (mq_A hm (show (0 : Int) ≤ i by omega) (by omega)).1.2.2.2.2.2.2.2.2.2.1
    have i8 : i < 8 := by omega
    have e1 : zi (shutZ B i) + 1 = zi (shutZ B i + 1) := zi_add _ 1
    have q9 : (zi (AtZ B i 9) = 0) = (AtZ B i 9 = 0) := zi_eq (b := 0) (by omega) (by omega) (by omega) (by omega)
    dsimp only
    rw [c_now (xq_C hx), i_sb, r1, if_neg (by rw [zi_le (by omega) (by omega) (by omega) (by omega)]; omega), if_neg (by show ¬ (zi 8 ≤ zi _); rw [zi_le (by omega) (by omega) (by omega) (by omega)]; omega), c_o5 (xq_C hx), i_sb, c_oA (xq_C hx) i8, i_sb, c_gA (xq_C hx) i8, i_sb, ra, e1, show zi (i : Int) + 1 = zi ((i + 1 : Nat) : Int) from zi_add (i : Int) 1]
    show _ = some (Sum.inl (WX M c R F S, zi (shutZ B i + AtZ B i 9), zi ((i + 1 : Nat) : Int)))
    by_cases d : AtZ B i 9 = 0
    · rw [if_pos (by rw [q9]; exact d), d, Int.add_zero]
    · rw [if_neg (by rw [q9]; exact d), show AtZ B i 9 = 1 by omega]
  · dsimp only
    rw [c_now (xq_C hx), i_sb, r1, if_pos (by rw [zi_le (by omega) (by omega) (by omega) (by omega)]; omega)]
theorem mq_sh (hm0 : MQr M' nt T tr sl bu as B U) (hn : 10 < n) : loopF (fun (s : MemT × Int32 × Int32) => (fun (M11 : MemT) (v12 : Int32) (v13 : Int32) => chk M11 8 139 (bd (g_X10_of n M11 139 1865) (fun r15 M16 => (if r15 ≤ v13 then some (.inr (M16, v12, v13)) else chk M16 8 139 (bd (g_X10_at n M16 139 v13 9) (fun r17 M18 => some (.inl (M18, v12 + r17, v13 + 1)))))))) s.1 s.2.1 s.2.2) n (WC M' 0 B S' ho ha sm, 0, 0) = some (WC M' 0 B S' ho ha sm, zi (shutZ B (B 1865).toNat), zi ((B 1865).toNat : Int)) := by
  have h8 := mq_8 hm0
  have r1 : g_X10_of n (WC M' 0 B S' ho ha sm) 139 1865 = some (zi (B 1865), WC M' 0 B S' ho ha sm) := m_of (mq_h hm0) (k := 1865) (by omega) (by omega)
  rw [show (WC M' 0 B S' ho ha sm, (0 : Int32), (0 : Int32)) = (fun i : Nat => (WC M' 0 B S' ho ha sm, zi (shutZ B i), zi (i : Int))) 0 from rfl]
  refine loop_k (fun i : Nat => (WC M' 0 B S' ho ha sm, zi (shutZ B i), zi (i : Int))) _ (B 1865).toNat (fun i hi => ?_) ?_ n (by omega)
  · have r9 : g_X10_at n (WC M' 0 B S' ho ha sm) 139 (zi (i : Int)) 9 = some (zi (AtZ B i 9), _) := m_at (mq_h hm0) (k := 9) (by omega) (by omega) (by omega) (by omega)
    dsimp only
    rw [m_chk (mq_h hm0), r1, i_bd, if_neg (by rw [zi_le (by omega) (by omega) (by omega) (by omega)]; omega), m_chk (mq_h hm0), r9, i_bd, zi_add, show zi (i : Int) + 1 = zi ((i + 1 : Nat) : Int) from zi_add (i : Int) 1]
    rfl
  · dsimp only
    rw [m_chk (mq_h hm0), r1, i_bd, if_pos (by rw [zi_le (by omega) (by omega) (by omega) (by omega)]; omega)]
theorem Q_count (hx : XQr M c r R nt T tr sl bu as B U) (hm : MQr M' nt T tr sl bu as B U) (hn : 10 < n) {p : Nat} (h6 : mR M 0 6 = some p ∧ mK M p = 3) (hp : p < c + 10 ∨ c + 61 ≤ p) (hc : mI M p 0 = mI M' 139 22) (ht : mI M 0 1 = mI M' 139 1) (w : Int32) : QP (g_X9_count n (WX M c R F S) 0 w) (g_X10_count n (WC M' 0 B S' ho ha sm) 139 w) M (sI M' 139 2 0) c R B := by
  have hmz := mq_thr0 (v := (0 : Int32)) hm
  have c0 := hx.1.2.2
  have u := xq_U hx
  have rr := xq_R hx
  have o6 : gO (WX M c R F S) 7 0 6 = some p := i_gO hx.1.1 h6.1
  have g10 : gI (WX M c R F S) 3 p 0 = some (mI M' 139 22) := by rw [i_gI (M := WX M c R F S) h6.2, wx_out hp, hc]
  have g11 : gI (WX M c R F S) 7 0 1 = some (mI M' 139 1) := by rw [i_gI (M := WX M c R F S) hx.1.1, wx_out (by omega), ht]
  have gs := xq_sh (n := n) (F := F) (S := S) hx hm hn
  have gt := mq_sh (n := n) (S' := S') (ho := ho) (ha := ha) (sm := sm) hmz hn
  dsimp only at gs gt
  have o0 : g_X10_of n (WC (sI M' 139 2 0) 0 B S' ho ha sm) 139 0 = some (zi (B 0), WC (sI M' 139 2 0) 0 B S' ho ha sm) := m_of (mq_h hmz) (k := 0) (by omega) (by omega)
  have o1865 : g_X10_of n (WC (sI M' 139 2 0) 0 B S' ho ha sm) 139 1865 = some (zi (B 1865), WC (sI M' 139 2 0) 0 B S' ho ha sm) := m_of (mq_h hmz) (k := 1865) (by omega) (by omega)
  have o1866 : g_X10_of n (WC (sI M' 139 2 0) 0 B S' ho ha sm) 139 1866 = some (zi (B 1866), WC (sI M' 139 2 0) 0 B S' ho ha sm) := m_of (mq_h hmz) (k := 1866) (by omega) (by omega)
  have rT0 : aI (WC (sI M' 139 2 0) 0 B S' ho ha sm) 10 146 0 = some (zi (T 0)) := m_T (mq_h hmz) (w := 0) (by omega) (by omega)
  have rT1 : aI (WC (sI M' 139 2 0) 0 B S' ho ha sm) 10 146 1 = some (zi (T 1)) := m_T (mq_h hmz) (w := 1) (by omega) (by omega)
  have rT2 : aI (WC (sI M' 139 2 0) 0 B S' ho ha sm) 10 146 2 = some (zi (T 2)) := m_T (mq_h hmz) (w := 2) (by omega) (by omega)
  have rT4 : aI (WC (sI M' 139 2 0) 0 B S' ho ha sm) 10 146 4 = some (zi (T 4)) := m_T (mq_h hmz) (w := 4) (by omega) (by omega)
  have rT5 : aI (WC (sI M' 139 2 0) 0 B S' ho ha sm) 10 146 5 = some (zi (T 5)) := m_T (mq_h hmz) (w := 5) (by omega) (by omega)
  have rT6 : aI (WC (sI M' 139 2 0) 0 B S' ho ha sm) 10 146 6 = some (zi (T 6)) := m_T (mq_h hmz) (w := 6) (by omega) (by omega)
  unfold g_X9_count g_X10_count
  rw [m_thr0 (mq_h hm), i_sb]
  by_cases d0 : w = 0
  · rw [if_pos d0, if_pos d0]
    rw [xq_o4 hx, i_sb, c_o0 (xq_C hx), i_sb, c_gR (xq_C hx), i_sb, u.1.1]
    rw [m_gnt (mq_h hmz), i_sb]
    exact ⟨_, _, _, _, _, _, _, rfl, rfl⟩
  rw [if_neg d0, if_neg d0]
  by_cases d1 : w = 1
  · rw [if_pos d1, if_pos d1]
    rw [xq_o4 hx, i_sb, c_o1 (xq_C hx), i_sb, c_now (xq_C hx), i_sb, rr.1.1]
    rw [m_chk (mq_h hmz), o0, i_bd]
    exact ⟨_, _, _, _, _, _, _, rfl, rfl⟩
  rw [if_neg d1, if_neg d1]
  by_cases d2 : w = 2
  · rw [if_pos d2, if_pos d2]
    rw [xq_o4 hx, i_sb, c_o1 (xq_C hx), i_sb, c_now (xq_C hx), i_sb, rr.1.2.1]
    rw [m_chk (mq_h hmz), o1865, i_bd]
    exact ⟨_, _, _, _, _, _, _, rfl, rfl⟩
  rw [if_neg d2, if_neg d2]
  by_cases d3 : w = 3
  · rw [if_pos d3, if_pos d3]
    rw [xq_o4 hx, i_sb, c_o1 (xq_C hx), i_sb, c_kB (xq_C hx)]
    unfold g_X2_shutAssets
    dsimp only
    rw [gs, i_sb, i_bd]
    dsimp only
    rw [gt, i_sb]
    exact ⟨_, _, _, _, _, _, _, rfl, rfl⟩
  rw [if_neg d3, if_neg d3]
  by_cases d4 : w = 4
  · rw [if_pos d4, if_pos d4]
    rw [xq_o4 hx, i_sb, c_o1 (xq_C hx), i_sb, c_now (xq_C hx), i_sb, rr.1.2.2]
    rw [m_chk (mq_h hmz), o1866, i_bd]
    exact ⟨_, _, _, _, _, _, _, rfl, rfl⟩
  rw [if_neg d4, if_neg d4]
  by_cases d5 : w = 5
  · rw [if_pos d5, if_pos d5]
    rw [xq_o4 hx, i_sb, c_o0 (xq_C hx), i_sb, c_gR (xq_C hx), i_sb, u.1.2.2.1]
    rw [m_told (mq_h hmz), i_sb, rT1, i_sb]
    exact ⟨_, _, _, _, _, _, _, rfl, rfl⟩
  rw [if_neg d5, if_neg d5]
  by_cases d6 : w = 6
  · rw [if_pos d6, if_pos d6]
    rw [xq_o4 hx, i_sb, c_o0 (xq_C hx), i_sb, c_gR (xq_C hx), i_sb, u.1.2.1]
    rw [m_told (mq_h hmz), i_sb, rT0, i_sb]
    exact ⟨_, _, _, _, _, _, _, rfl, rfl⟩
  rw [if_neg d6, if_neg d6]
  by_cases d7 : w = 7
  · rw [if_pos d7, if_pos d7]
    rw [xq_o4 hx, i_sb, c_o0 (xq_C hx), i_sb, c_gR (xq_C hx), i_sb, u.1.2.2.2.1]
    rw [m_told (mq_h hmz), i_sb, rT2, i_sb]
    exact ⟨_, _, _, _, _, _, _, rfl, rfl⟩
  rw [if_neg d7, if_neg d7]
  by_cases d8 : w = 8
  · rw [if_pos d8, if_pos d8]
    rw [xq_o4 hx, i_sb, c_o0 (xq_C hx), i_sb, c_gR (xq_C hx), i_sb, u.1.2.2.2.2.2.1]
    rw [m_told (mq_h hmz), i_sb, rT4, i_sb]
    exact ⟨_, _, _, _, _, _, _, rfl, rfl⟩
  rw [if_neg d8, if_neg d8]
  by_cases d9 : w = 9
  · rw [if_pos d9, if_pos d9]
    rw [xq_o4 hx, i_sb, c_o0 (xq_C hx), i_sb, c_gR (xq_C hx), i_sb, u.1.2.2.2.2.2.2.1]
    rw [m_told (mq_h hmz), i_sb, rT5, i_sb]
    exact ⟨_, _, _, _, _, _, _, rfl, rfl⟩
  rw [if_neg d9, if_neg d9]
  by_cases d10 : w = 10
  · rw [if_pos d10, if_pos d10]
    rw [o6, i_sb, g10, i_sb]
    rw [ms_I (mq_h hm) (by omega) (by omega), i_sb]
    exact ⟨_, _, _, _, _, _, _, rfl, rfl⟩
  rw [if_neg d10, if_neg d10]
  by_cases d11 : w = 11
  · rw [if_pos d11, if_pos d11]
    rw [g11, i_sb]
    rw [ms_I (mq_h hm) (by omega) (by omega), i_sb]
    exact ⟨_, _, _, _, _, _, _, rfl, rfl⟩
  rw [if_neg d11, if_neg d11]
  by_cases d12 : w = 12
  · rw [if_pos d12, if_pos d12]
    rw [xq_o4 hx, i_sb, c_o0 (xq_C hx), i_sb, c_gR (xq_C hx), i_sb, u.1.2.2.2.2.2.2.2]
    rw [m_told (mq_h hmz), i_sb, rT6, i_sb]
    exact ⟨_, _, _, _, _, _, _, rfl, rfl⟩
  rw [if_neg d12, if_neg d12]
  exact ⟨_, _, _, _, _, _, _, rfl, rfl⟩
theorem xq_op (hx : XQr M c r R nt T tr sl bu as B U) (hm : MQr M' nt T tr sl bu as B U) (hn : 10 < n) {t : Int} (ht : 0 ≤ t ∧ t < nt) : loopF (fun (s : MemT × Int32 × Int32) => (fun (M1 : MemT) (v2 : Int32) (v3 : Int32) => (gI M1 1 (c + 10) 1).bind (fun v5 => (if v5 ≤ v3 then some (.inr (M1, v2, v3)) else (if 8 ≤ v3 then some (.inr (M1, v2, v3)) else (gO M1 1 (c + 10) 5).bind (fun j6 => (aO M1 14 j6 v3).bind (fun j7 => (gI M1 0 j7 8).bind (fun v8 => (if v8 = 0 then (gO M1 1 (c + 10) 5).bind (fun j9 => (aO M1 14 j9 v3).bind (fun j10 => (gI M1 0 j10 0).bind (fun v11 => (if v11 = (zi t) then some (.inl (M1, v2 ||| (1 <<< (v3 &&& 31)), v3 + 1)) else some (.inl (M1, v2, v3 + 1)))))) else some (.inl (M1, v2, v3 + 1)))))))))) s.1 s.2.1 s.2.2) n (WX M c R F S, 0, 0) = some (WX M c R F S, opZ B t (B 1865).toNat, zi ((B 1865).toNat : Int)) := by
  have h8 := mq_8 hm
  have hnt := hm.2.1
  have r1 := (xq_R hx).1.2.1
  rw [show (WX M c R F S, (0 : Int32), (0 : Int32)) = (fun i : Nat => (WX M c R F S, opZ B t i, zi (i : Int))) 0 from rfl]
  refine loop_k (fun i : Nat => (WX M c R F S, opZ B t i, zi (i : Int))) _ (B 1865).toNat (fun i hi => ?_) ?_ n (by omega)
  · have ra8 := (hx.2.1.2.2.1.2.2 i (by omega)).2.1.2.2.1
    have ra0 := (hx.2.1.2.2.1.2.2 i (by omega)).1.1
    have ax := (mq_A hm (show (0 : Int) ≤ i by omega) (by omega)).1
    have a9 := ax.2.2.2.2.2.2.2.2.2.1
    have a0 := ax.1
    have i8 : i < 8 := by omega
    have q9 : (zi (AtZ B i 9) = 0) = (AtZ B i 9 = 0) := zi_eq (b := 0) (by omega) (by omega) (by omega) (by omega)
    have q0 : (zi (AtZ B i 0) = zi t) = (AtZ B i 0 = t) := zi_eq (by omega) (by omega) (by omega) (by omega)
    dsimp only
    rw [c_now (xq_C hx), i_sb, r1, if_neg (by rw [zi_le (by omega) (by omega) (by omega) (by omega)]; omega), if_neg (by show ¬ (zi 8 ≤ zi _); rw [zi_le (by omega) (by omega) (by omega) (by omega)]; omega), c_o5 (xq_C hx), i_sb, c_oA (xq_C hx) i8, i_sb, c_gA (xq_C hx) i8, i_sb, ra8, show zi (i : Int) + 1 = zi ((i + 1 : Nat) : Int) from zi_add (i : Int) 1]
    show _ = some (Sum.inl (WX M c R F S, (if AtZ B i 9 = 0 ∧ AtZ B i 0 = t then opZ B t i ||| ((1 : Int32) <<< (zi (i : Int) &&& 31)) else opZ B t i), zi ((i + 1 : Nat) : Int)))
    by_cases d : AtZ B i 9 = 0
    · rw [if_pos (by rw [q9]; exact d), i_sb, c_oA (xq_C hx) i8, i_sb, c_gA (xq_C hx) i8, i_sb, ra0]
      by_cases d2 : AtZ B i 0 = t
      · rw [if_pos (by rw [q0]; exact d2), if_pos ⟨d, d2⟩]
      · rw [if_neg (by rw [q0]; exact d2), if_neg (fun q => d2 q.2)]
    · rw [if_neg (by rw [q9]; exact d), if_neg (fun q => d q.1)]
  · dsimp only
    rw [c_now (xq_C hx), i_sb, r1, if_pos (by rw [zi_le (by omega) (by omega) (by omega) (by omega)]; omega)]
theorem mq_op (hm0 : MQr M' nt T tr sl bu as B U) (hn : 10 < n) {t : Int} (ht : 0 ≤ t ∧ t < nt) : loopF (fun (s : MemT × Int32 × Int32) => (fun (M24 : MemT) (v25 : Int32) (v26 : Int32) => chk M24 8 139 (bd (g_X10_of n M24 139 1865) (fun r28 M29 => (if r28 ≤ v26 then some (.inr (M29, v25, v26)) else chk M29 8 139 (bd (g_X10_at n M29 139 v26 0) (fun r30 M31 => (if r30 = (zi t) then chk M31 8 139 (bd (g_X10_at n M31 139 v26 9) (fun r32 M33 => (if r32 = 0 then some (.inl (M33, v25 ||| (1 <<< (v26 &&& 31)), v26 + 1)) else some (.inl (M33, v25 ||| 0, v26 + 1))))) else some (.inl (M31, v25 ||| 0, v26 + 1))))))))) s.1 s.2.1 s.2.2) n (WC M' 0 B S' ho ha sm, 0, 0) = some (WC M' 0 B S' ho ha sm, opZ B t (B 1865).toNat, zi ((B 1865).toNat : Int)) := by
  have h8 := mq_8 hm0
  have hnt := hm0.2.1
  have r1 : g_X10_of n (WC M' 0 B S' ho ha sm) 139 1865 = some (zi (B 1865), WC M' 0 B S' ho ha sm) := m_of (mq_h hm0) (k := 1865) (by omega) (by omega)
  have or0 : ∀ v : Int32, v ||| 0 = v := fun v => Int32.or_zero
  rw [show (WC M' 0 B S' ho ha sm, (0 : Int32), (0 : Int32)) = (fun i : Nat => (WC M' 0 B S' ho ha sm, opZ B t i, zi (i : Int))) 0 from rfl]
  refine loop_k (fun i : Nat => (WC M' 0 B S' ho ha sm, opZ B t i, zi (i : Int))) _ (B 1865).toNat (fun i hi => ?_) ?_ n (by omega)
  · have r9 : g_X10_at n (WC M' 0 B S' ho ha sm) 139 (zi (i : Int)) 9 = some (zi (AtZ B i 9), _) := m_at (mq_h hm0) (k := 9) (by omega) (by omega) (by omega) (by omega)
    have r0 : g_X10_at n (WC M' 0 B S' ho ha sm) 139 (zi (i : Int)) 0 = some (zi (AtZ B i 0), _) := m_at (mq_h hm0) (k := 0) (by omega) (by omega) (by omega) (by omega)
    have ax := (mq_A hm0 (show (0 : Int) ≤ i by omega) (by omega)).1
    have a9 := ax.2.2.2.2.2.2.2.2.2.1
    have a0 := ax.1
    have q9 : (zi (AtZ B i 9) = 0) = (AtZ B i 9 = 0) := zi_eq (b := 0) (by omega) (by omega) (by omega) (by omega)
    have q0 : (zi (AtZ B i 0) = zi t) = (AtZ B i 0 = t) := zi_eq (by omega) (by omega) (by omega) (by omega)
    dsimp only
    rw [m_chk (mq_h hm0), r1, i_bd, if_neg (by rw [zi_le (by omega) (by omega) (by omega) (by omega)]; omega), m_chk (mq_h hm0), r0, i_bd, or0, show zi (i : Int) + 1 = zi ((i + 1 : Nat) : Int) from zi_add (i : Int) 1]
    show _ = some (Sum.inl (WC M' 0 B S' ho ha sm, (if AtZ B i 9 = 0 ∧ AtZ B i 0 = t then opZ B t i ||| ((1 : Int32) <<< (zi (i : Int) &&& 31)) else opZ B t i), zi ((i + 1 : Nat) : Int)))
    by_cases d2 : AtZ B i 0 = t
    · rw [if_pos (by rw [q0]; exact d2), m_chk (mq_h hm0), r9, i_bd]
      by_cases d : AtZ B i 9 = 0
      · rw [if_pos (by rw [q9]; exact d), if_pos ⟨d, d2⟩]
      · rw [if_neg (by rw [q9]; exact d), if_neg (fun q => d q.1)]
    · rw [if_neg (by rw [q0]; exact d2), if_neg (fun q => d2 q.2)]
  · dsimp only
    rw [m_chk (mq_h hm0), r1, i_bd, if_pos (by rw [zi_le (by omega) (by omega) (by omega) (by omega)]; omega)]
/-- trader: an answer, or one of two throws -/
def TP (gx : Option ((Nat × Int32) × MemT)) (gm : Option (Int32 × MemT)) (M M' : MemT) (c : Nat) (R : Nat → Nat → Int32) (B : Int → Int) : Prop := ∃ k v F1 S1 S2 ho2 ha2 sm2, k ≤ 2 ∧ gx = some ((k, v), WX M c R F1 S1) ∧ gm = some ((if k = 0 then v else 0), WC (sI M' 139 2 (zi (k : Int))) 0 B S2 ho2 ha2 sm2)
theorem Q_trader (hx : XQr M c r R nt T tr sl bu as B U) (hm : MQr M' nt T tr sl bu as B U) (hn : 10 < n) {t : Int} (t1 : -2147483648 ≤ t) (t2 : t ≤ 2147483647) (w : Int32) : TP (g_X9_trader n (WX M c R F S) 0 (zi t) w) (g_X10_trader n (WC M' 0 B S' ho ha sm) 139 (zi t) w) M M' c R B := by
  have hmz := mq_thr0 (v := (0 : Int32)) hm
  have hnt := hm.2.1
  have u := xq_U hx
  have rh := hx.2.1.2.2.1.2.1
  have fl : ∀ k : Int, g_X10_fails n (WC (sI M' 139 2 0) 0 B S' ho ha sm) 139 (zi k) = some (0, WC (sI M' 139 2 (zi k)) 0 B S' ho ha sm) := fun k => by
    unfold g_X10_fails
    rw [m_thr0 (mq_h hmz), i_sb, sI_sI]
  have f1 : g_X10_fails n (WC (sI M' 139 2 0) 0 B S' ho ha sm) 139 1 = some (0, WC (sI M' 139 2 (zi ((1 : Nat) : Int))) 0 B S' ho ha sm) := fl 1
  have f2 : g_X10_fails n (WC (sI M' 139 2 0) 0 B S' ho ha sm) 139 2 = some (0, WC (sI M' 139 2 (zi ((2 : Nat) : Int))) 0 B S' ho ha sm) := fl 2
  have hB := wx_B (F := F) (S := S) (xq_C hx)
  unfold g_X9_trader g_X10_trader
  rw [m_thr0 (mq_h hm), i_sb, xq_ko hx, xq_tr hx t1 t2, i_bd, m_chk (mq_h hmz), mq_tr hmz t1 t2, i_bd]
  by_cases c1 : 0 ≤ t ∧ t < nt
  · have z1 : bI2 (0 ≤ t ∧ t < nt) ≠ (0 : Int32) := fun q => ((bI_0 _).mp q) c1
    have ut := u.2.1 t c1.1 c1.2
    have rt := rh t c1.1 c1.2
    have t4 : t < 4 := by omega
    have l1 : g_X10_told1 n (WC (sI M' 139 2 0) 0 B S' ho ha sm) 139 (zi t) 1 = some (zi (tr (8 * t + 1)), _) := m_told1 (mq_h hmz) (w := 1) c1.1 t4 (by omega) (by omega)
    have l2 : g_X10_told1 n (WC (sI M' 139 2 0) 0 B S' ho ha sm) 139 (zi t) 2 = some (zi (tr (8 * t + 2)), _) := m_told1 (mq_h hmz) (w := 2) c1.1 t4 (by omega) (by omega)
    have l6 : g_X10_told1 n (WC (sI M' 139 2 0) 0 B S' ho ha sm) 139 (zi t) 6 = some (zi (tr (8 * t + 6)), _) := m_told1 (mq_h hmz) (w := 6) c1.1 t4 (by omega) (by omega)
    have l7 : g_X10_told1 n (WC (sI M' 139 2 0) 0 B S' ho ha sm) 139 (zi t) 7 = some (zi (tr (8 * t + 7)), _) := m_told1 (mq_h hmz) (w := 7) c1.1 t4 (by omega) (by omega)
    have e2 : (1281 : Int32) + 2 * zi t = zi (1281 + 2 * t) := by show zi 1281 + zi 2 * zi t = _; rw [zi_mul, zi_add]
    have e3 : zi (1281 + 2 * t) + 1 = zi (1282 + 2 * t) := (zi_add (1281 + 2 * t) 1).trans (congrArg zi (by omega))
    have gs := xq_op (n := n) (F := F) (S := S) hx hm hn c1
    have gt := mq_op (n := n) (S' := S') (ho := ho) (ha := ha) (sm := sm) hmz hn c1
    have hr6 := (hm.2.2.2.1 t c1.1 t4)
    dsimp only at gs gt
    rw [if_neg z1, if_neg z1]
    by_cases d0 : w = 0
    · rw [if_pos d0, if_pos d0, xq_o4 hx, i_sb, c_o0 (xq_C hx), i_sb, c_r2 (xq_C hx), i_sb, c_a2 (xq_C hx) c1.1 t4, i_sb, ut.2.1, m_chk (mq_h hmz), l1, i_bd]
      exact ⟨0, _, _, _, _, _, _, _, by omega, rfl, rfl⟩
    rw [if_neg d0, if_neg d0]
    by_cases d1 : w = 1
    · rw [if_pos d1, if_pos d1, xq_o4 hx, i_sb, c_o0 (xq_C hx), i_sb, c_r3 (xq_C hx), i_sb, c_a3 (xq_C hx) c1.1 t4, i_sb, ut.2.2.1, m_chk (mq_h hmz), l2, i_bd]
      exact ⟨0, _, _, _, _, _, _, _, by omega, rfl, rfl⟩
    rw [if_neg d1, if_neg d1]
    by_cases d2 : w = 2
    · rw [if_pos d2, if_pos d2, xq_o4 hx, i_sb, c_o1 (xq_C hx), i_sb, c_b3 (xq_C hx), i_sb, c_v3 (xq_C hx) c1.1 t4, i_sb, rt.1, m_chk (mq_h hmz), e2, m_of (mq_h hmz) (by omega) (by omega), i_bd]
      exact ⟨0, _, _, _, _, _, _, _, by omega, rfl, rfl⟩
    rw [if_neg d2, if_neg d2]
    by_cases d3 : w = 3
    · rw [if_pos d3, if_pos d3, xq_o4 hx, i_sb, c_o1 (xq_C hx), i_sb, c_b4 (xq_C hx), i_sb, c_v4 (xq_C hx) c1.1 t4, i_sb, rt.2, m_chk (mq_h hmz), e2, e3, m_of (mq_h hmz) (by omega) (by omega), i_bd]
      exact ⟨0, _, _, _, _, _, _, _, by omega, rfl, rfl⟩
    rw [if_neg d3, if_neg d3]
    by_cases d4 : w = 4
    · rw [if_pos d4, if_pos d4, xq_o4 hx, i_sb, c_o0 (xq_C hx), i_sb, c_r4 (xq_C hx), i_sb, c_a4 (xq_C hx) c1.1 t4, i_sb, ut.2.2.2.1, m_chk (mq_h hmz), l6, i_bd]
      by_cases e : tr (8 * t + 6) = 1
      · rw [e, if_pos (show zi 1 = (1 : Int32) from rfl), if_pos rfl, m_chk (mq_h hmz), l7, i_bd]
        exact ⟨0, _, _, _, _, _, _, _, by omega, rfl, rfl⟩
      · have q6 : (zi (tr (8 * t + 6)) = 1) = (tr (8 * t + 6) = 1) := zi_eq (b := 1) (by omega) (by omega) (by omega) (by omega)
        rw [if_neg e, if_neg (by rw [q6]; exact e)]
        exact ⟨0, _, _, _, _, _, _, _, by omega, rfl, rfl⟩
    rw [if_neg d4, if_neg d4]
    by_cases d5 : w = 5
    · rw [if_pos d5, if_pos d5, xq_o4 hx, i_sb, c_o1 (xq_C hx), i_sb, c_kB (xq_C hx)]
      unfold g_X2_openAssetsOf
      dsimp only
      rw [gs, i_sb, i_bd, gt, i_sb]
      exact ⟨0, _, _, _, _, _, _, _, by omega, rfl, rfl⟩
    rw [if_neg d5, if_neg d5, m_chk (mq_h hmz), f2, i_bd]
    exact ⟨2, _, _, _, _, _, _, _, by omega, rfl, rfl⟩
  · have z1 : bI2 (0 ≤ t ∧ t < nt) = (0 : Int32) := (bI_0 _).mpr c1
    rw [if_pos z1, if_pos z1, m_chk (mq_h hmz), f1, i_bd]
    exact ⟨1, _, _, _, _, _, _, _, by omega, rfl, rfl⟩
end Q15
