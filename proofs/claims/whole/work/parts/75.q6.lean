section Q6
variable {M M' : MemT} {c r : Nat} {R : Nat → Nat → Int32} {F : Nat → Int32} {S S' : Int → Int} {n : Nat} {T tr sl bu as B : Int → Int} {nt U ho ha : Int} {sm : Int32}
theorem ob_all {s : Int32} {B : Int → Int} {a : Int} (hs : obOk s) : ∀ k : Nat, (∀ i : Int, 0 ≤ i → i < k → 0 ≤ AtZ B a (37 + i) ∧ AtZ B a (37 + i) < 4) → obOk (obZ s B a k) := by
  intro k
  induction k with
  | zero => intro _; exact hs
  | succ k ih =>
    intro h
    obtain ⟨j, hj, e⟩ := ih (fun i i0 i1 => h i i0 (by omega))
    have ho := h k (by omega) (by omega)
    obtain ⟨o, eo⟩ := Int.eq_ofNat_of_zero_le ho.1
    have h16 := or16 j hj o (by omega)
    refine ⟨j ||| (1 <<< o), h16.2, ?_⟩
    show obZ s B a k ||| _ = _
    rw [e, eo, ← zi_nI, h16.1]
theorem xq_own (hx : XQr M c r R nt T tr sl bu as B U) {a' : Nat} (c1 : (a' : Int) < B 1865) (hn : 20 < n) (s : Int32) : loopF (fun (s : MemT × Int32 × Int32) => (fun (M11 : MemT) (v12 : Int32) (v13 : Int32) => (gI M11 0 (c + 10 + 10 + 5 * a') 14).bind (fun v15 => (if v15 ≤ v13 then some (.inr (M11, v12, v13)) else (gO M11 0 (c + 10 + 10 + 5 * a') 18).bind (fun j16 => (aL M11 j16).bind (fun v17 => (if v17 ≤ v13 then some (.inr (M11, v12, v13)) else (gO M11 0 (c + 10 + 10 + 5 * a') 18).bind (fun j18 => (aI M11 10 j18 v13).bind (fun v19 => some (.inl (M11, v12 ||| (1 <<< (v19 &&& 31)), v13 + 1)))))))))) s.1 s.2.1 s.2.2) n (WX M c R F S, s, 0) = some (WX M c R F S, obZ s B a' (AtZ B a' 47).toNat, zi (AtZ B a' 47)) := by
  have h8 := hx.2.2.2.1.2.2.2.2.2.2.2.2.1
  have a8 : a' < 8 := by omega
  have ra := hx.2.1.2.2.1.2.2 a' c1
  have ax := hx.2.2.2.1.2.2.2.2.2.2.2.2.2 a' (by omega) c1
  have e47 := ax.1.2.2.2.2.2.2.2.2.2.2.2.2
  have r14 := ra.2.1.2.2.2.2.2.2.2.2
  have hL : aL (WX M c R F S) (c + 10 + 10 + 5 * a' + 4) = some (zi 10) := by
    have hs := ((xq_C hx).2.2.1.2.2.2.2.2 a' a8).2
    exact i_aL (M := WX M c R F S) hs.2.2.1.2.2.2 hs.2.2.2.2.2.2
  rw [show (WX M c R F S, s, (0 : Int32)) = (fun i : Nat => (WX M c R F S, obZ s B a' i, zi (i : Int))) 0 from rfl]
  refine loop_k (fun i : Nat => (WX M c R F S, obZ s B a' i, zi (i : Int))) _ (AtZ B a' 47).toNat (fun i hi => ?_) ?_ n (by omega)
  · have rr := (ra.2.2.2 i (by omega) (by omega)).2.2
    dsimp only
    rw [c_gA (xq_C hx) a8, i_sb, r14, if_neg (by rw [zi_le (by omega) (by omega) (by omega) (by omega)]; omega), c_oA18 (xq_C hx) a8, i_sb, hL, i_sb, if_neg (by rw [zi_le (by omega) (by omega) (by omega) (by omega)]; omega), i_sb, c_aA18 (xq_C hx) a8 (by omega) (by omega), i_sb, rr, show zi (i : Int) + 1 = zi ((i + 1 : Nat) : Int) from zi_add (i : Int) 1]
    rfl
  · dsimp only
    rw [c_gA (xq_C hx) a8, i_sb, r14, Int.toNat_of_nonneg e47.1, if_pos (Int32.le_refl _)]
theorem mq_own (hm0 : MQr M' nt T tr sl bu as B U) {a' : Nat} (c1 : (a' : Int) < B 1865) (hn : 20 < n) (s : Int32) : loopF (fun (s : MemT × Int32 × Int32) => (fun (M9 : MemT) (v10 : Int32) (v11 : Int32) => chk M9 8 139 (bd (g_X10_at n M9 139 (zi (a' : Int)) 47) (fun r13 M14 => (if r13 ≤ v11 then some (.inr (M14, v10, v11)) else chk M14 8 139 (bd (g_X10_at n M14 139 (zi (a' : Int)) (37 + v11)) (fun r15 M16 => some (.inl (M16, v10 ||| (1 <<< (r15 &&& 31)), v11 + 1)))))))) s.1 s.2.1 s.2.2) n (WC M' 0 B S ho ha sm, s, 0) = some (WC M' 0 B S ho ha sm, obZ s B a' (AtZ B a' 47).toNat, zi (AtZ B a' 47)) := by
  have h8 := mq_8 hm0
  have ax := mq_A hm0 (show (0 : Int) ≤ a' by omega) c1
  have e47 := ax.1.2.2.2.2.2.2.2.2.2.2.2.2
  have r47 : g_X10_at n (WC M' 0 B S ho ha sm) 139 (zi (a' : Int)) 47 = some (zi (AtZ B a' 47), _) := m_at (mq_h hm0) (k := 47) (by omega) (by omega) (by omega) (by omega)
  rw [show (WC M' 0 B S ho ha sm, s, (0 : Int32)) = (fun i : Nat => (WC M' 0 B S ho ha sm, obZ s B a' i, zi (i : Int))) 0 from rfl]
  refine loop_k (fun i : Nat => (WC M' 0 B S ho ha sm, obZ s B a' i, zi (i : Int))) _ (AtZ B a' 47).toNat (fun i hi => ?_) ?_ n (by omega)
  · have e37 : (37 : Int32) + zi (i : Int) = zi (37 + i) := zi_add 37 _
    dsimp only
    rw [m_chk (mq_h hm0), r47, i_bd, if_neg (by rw [zi_le (by omega) (by omega) (by omega) (by omega)]; omega), m_chk (mq_h hm0), e37, m_at (mq_h hm0) (by omega) (by omega) (by omega) (by omega), i_bd, show zi (i : Int) + 1 = zi ((i + 1 : Nat) : Int) from zi_add (i : Int) 1]
    rfl
  · dsimp only
    rw [m_chk (mq_h hm0), r47, i_bd, Int.toNat_of_nonneg e47.1, if_pos (Int32.le_refl _)]
def pcA (v : Int32) : Nat → Int32
  | 0 => 0
  | i + 1 => pcA v i + ((v >>> (zi (i : Int) &&& 31)) &&& 1)
theorem mq_pop {M0 : MemT} {v18 : Int32} (hn : 20 < n) : loopF (fun (s : MemT × Int32 × Int32) => (fun (M20 : MemT) (v21 : Int32) (v22 : Int32) => (if 4 ≤ v22 then some (.inr (M20, v21, v22)) else some (.inl (M20, v21 + ((v18 >>> (v22 &&& 31)) &&& 1), v22 + 1)))) s.1 s.2.1 s.2.2) n (M0, 0, 0) = some (M0, pc4 v18, zi 4) := by
  rw [show (M0, (0 : Int32), (0 : Int32)) = (fun i : Nat => (M0, pcA v18 i, zi (i : Int))) 0 from rfl]
  refine loop_k (fun i : Nat => (M0, pcA v18 i, zi (i : Int))) _ 4 (fun i hi => ?_) ?_ n (by omega)
  · dsimp only
    rw [if_neg (by show ¬ (zi 4 ≤ zi (i : Int)); rw [zi_le (by omega) (by omega) (by omega) (by omega)]; omega), show zi (i : Int) + 1 = zi ((i + 1 : Nat) : Int) from zi_add (i : Int) 1]
    rfl
  · dsimp only
    rw [if_pos (by show zi 4 ≤ zi ((4 : Nat) : Int); exact Int32.le_refl _)]; rfl
end Q6
