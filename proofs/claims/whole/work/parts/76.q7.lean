/-! ===== PURE 46: owners, even, bestWait ===== -/
section Q7
variable {M M' : MemT} {c r : Nat} {R : Nat → Nat → Int32} {F : Nat → Int32} {S S' : Int → Int} {n : Nat} {T tr sl bu as B : Int → Int} {nt U ho ha : Int} {sm : Int32}
theorem Q_owners (hx : XQr M c r R nt T tr sl bu as B U) (hm : MQr M' nt T tr sl bu as B U) (hn : 20 < n) {a : Int} (a1 : -2147483648 ≤ a) (a2 : a ≤ 2147483647) : QP (g_X9_owners n (WX M c R F S) 0 (zi a)) (g_X10_owners n (WC M' 0 B S' ho ha sm) 139 (zi a)) M (sI M' 139 2 0) c R B := by
  have hm0 := mq_thr0 (v := zi 0) hm
  have hnt := hm.2.1
  have h8 := mq_8 hm
  obtain ⟨n1, n2⟩ := mq_N hm
  have hy : 0 ≤ yearZ B ∧ yearZ B < 16 := by unfold yearZ; omega
  have hT := hm.2.2.1
  have htr := hm.2.2.2.1
  have hAN := AN2_r (mq_N hm) hm.2.2.2.2.2.1.2.2.2.2.2.2.1
  have t1r := hT.2.1
  have t2r := hT.2.2
  by_cases c1 : 0 ≤ a ∧ a < B 1865
  · obtain ⟨a', rfl⟩ := Int.eq_ofNat_of_zero_le c1.1
    have a8 : a' < 8 := by omega
    have ra := hx.2.1.2.2.1.2.2 a' c1.2
    have ax := mq_A hm c1.1 c1.2
    have e9 := ax.1.2.2.2.2.2.2.2.2.2.1
    have e47 := ax.1.2.2.2.2.2.2.2.2.2.2.2.2
    have e4 := ax.1.2.2.2.2.1
    have hmz := mq_thr0 (v := (0 : Int32)) hm
    have z1 : bI2 (0 ≤ (a' : Int) ∧ (a' : Int) < B 1865) ≠ (0 : Int32) := fun q => ((bI_0 _).mp q) c1
    have q9 : (zi (AtZ B a' 9) = 0) = (AtZ B a' 9 = 0) := zi_eq (b := 0) (by omega) (by omega) (by omega) (by omega)
    have q9m : (zi (AtZ B a' 9) = 1) = (AtZ B a' 9 = 1) := zi_eq (b := 1) (by omega) (by omega) (by omega) (by omega)
    have r9 : g_X10_at n (WC (sI M' 139 2 0) 0 B S' ho ha sm) 139 (zi (a' : Int)) 9 = some (zi (AtZ B a' 9), _) := m_at (mq_h hmz) (k := 9) (by omega) (by omega) (by omega) (by omega)
    have r0 : g_X10_at n (WC (sI M' 139 2 0) 0 B S' ho ha sm) 139 (zi (a' : Int)) 0 = some (zi (AtZ B a' 0), _) := m_at (mq_h hmz) (k := 0) (by omega) (by omega) (by omega) (by omega)
    by_cases c9 : AtZ B a' 9 = 0
    · obtain ⟨o, eo⟩ := Int.eq_ofNat_of_zero_le ax.1.1.1
      have o16 := one16 o (by have := ax.1.1.2; omega)
      have hs : obOk ((1 : Int32) <<< (zi (AtZ B a' 0) &&& 31)) := ⟨_, o16.2, by rw [eo, ← zi_nI]; exact o16.1⟩
      have hob := ob_all (s := (1 : Int32) <<< (zi (AtZ B a' 0) &&& 31)) (B := B) (a := (a' : Int)) hs (AtZ B a' 47).toNat (fun i i0 i1 => ax.2.2.2.2.2.2 i i0 (by omega))
      obtain ⟨k, k16, ek⟩ := hob
      have gx := xq_own (n := n) (F := F) (S := S) hx c1.2 (by omega) ((1 : Int32) <<< (zi (AtZ B a' 0) &&& 31))
      have gm := mq_own (n := n) (S := S') (ho := ho) (ha := ha) (sm := sm) hmz c1.2 (by omega) ((1 : Int32) <<< (zi (AtZ B a' 0) &&& 31))
      have gp := mq_pop (n := n) (M0 := WC (sI M' 139 2 0) 0 B S' ho ha sm) (v18 := obZ ((1 : Int32) <<< (zi (AtZ B a' 0) &&& 31)) B a' (AtZ B a' 47).toNat) (by omega)
      have gb := pc_bits n (WX M c R F S) k k16
      rw [ek] at gx gm gp
      dsimp only at gx gm gp
      refine ⟨pc4 (nI k), F, S, S', ho, ha, sm, ?_, ?_⟩
      · unfold g_X9_owners
        rw [xq_ko hx, xq_as hx a1 a2, i_bd, if_neg z1, xq_o4 hx, i_sb, c_o1 (xq_C hx), i_sb, c_o5 (xq_C hx), i_sb, c_oA (xq_C hx) a8, i_sb, c_gA (xq_C hx) a8, i_sb, ra.2.1.2.2.1, i_jp, if_pos (by rw [q9]; exact c9), c_gA (xq_C hx) a8, i_sb, ra.1.1]
        dsimp only
        rw [gx, i_sb, gb, i_bd]
      · unfold g_X10_owners
        rw [m_thr0 (mq_h hm), i_sb, m_chk (mq_h hmz), mq_as hmz a1 a2, i_bd, if_neg z1, m_chk (mq_h hmz), r9, i_bd, i_jp, if_neg (by rw [q9m]; omega), m_chk (mq_h hmz), r0, i_bd]
        dsimp only
        rw [gm, i_sb]
        dsimp only
        rw [gp, i_sb]
    · have hob := ob_all (s := (0 : Int32)) (B := B) (a := (a' : Int)) ⟨0, by omega, rfl⟩ (AtZ B a' 47).toNat (fun i i0 i1 => ax.2.2.2.2.2.2 i i0 (by omega))
      obtain ⟨k, k16, ek⟩ := hob
      have gx := xq_own (n := n) (F := F) (S := S) hx c1.2 (by omega) ((0 : Int32))
      have gm := mq_own (n := n) (S := S') (ho := ho) (ha := ha) (sm := sm) hmz c1.2 (by omega) ((0 : Int32))
      have gp := mq_pop (n := n) (M0 := WC (sI M' 139 2 0) 0 B S' ho ha sm) (v18 := obZ ((0 : Int32)) B a' (AtZ B a' 47).toNat) (by omega)
      have gb := pc_bits n (WX M c R F S) k k16
      rw [ek] at gx gm gp
      dsimp only at gx gm gp
      refine ⟨pc4 (nI k), F, S, S', ho, ha, sm, ?_, ?_⟩
      · unfold g_X9_owners
        rw [xq_ko hx, xq_as hx a1 a2, i_bd, if_neg z1, xq_o4 hx, i_sb, c_o1 (xq_C hx), i_sb, c_o5 (xq_C hx), i_sb, c_oA (xq_C hx) a8, i_sb, c_gA (xq_C hx) a8, i_sb, ra.2.1.2.2.1, i_jp, if_neg (by rw [q9]; exact c9)]
        dsimp only
        rw [gx, i_sb, gb, i_bd]
      · unfold g_X10_owners
        rw [m_thr0 (mq_h hm), i_sb, m_chk (mq_h hmz), mq_as hmz a1 a2, i_bd, if_neg z1, m_chk (mq_h hmz), r9, i_bd, i_jp, if_pos (by rw [q9m]; omega)]
        dsimp only
        rw [gm, i_sb]
        dsimp only
        rw [gp, i_sb]
  · have hmz := mq_thr0 (v := (0 : Int32)) hm
    have e0 : bI2 (0 ≤ a ∧ a < B 1865) = (0 : Int32) := (bI_0 (0 ≤ a ∧ a < B 1865)).mpr c1
    refine qp_mk (-1) (F1 := F) (S1 := S) (S2 := S') (ho2 := ho) (ha2 := ha) (sm2 := sm) ?_ ?_
    · unfold g_X9_owners
      rw [xq_ko hx, xq_as hx a1 a2, i_bd, if_pos e0]
      rfl
    · unfold g_X10_owners
      rw [m_thr0 (mq_h hm), i_sb, m_chk (mq_h hmz), mq_as hmz a1 a2, i_bd, if_pos e0]
      rfl
theorem lg_l0 (x y : Int64) : (lg_cmp x y < 0) = (x < y) := propext (lg_cmp_lt x y)
theorem adjZ_r {a w b : Int} (hT : told3 T) (hA : AO B a) (hw : -1000 ≤ w - b ∧ w - b ≤ 1000) : -99999001 ≤ adjZ T B a w b ∧ adjZ T B a w b ≤ 99999001 := by
  have hs := spanT hT hA
  obtain ⟨-, -, -, h3, h4, -⟩ := hA
  have hp := mul_rng (a := AtZ B a 3) (b := w - b) (x := 99999) (y := 1000) (by omega) (by omega) (by omega) (by omega)
  have hc := cutZ_abs (w := T 0) (a := AtZ B a 3 * (w - b)) hs.1
  unfold adjZ
  omega
def evP (T B : Int → Int) (a m : Int) (i : Nat) : Bool := decide (m ≤ adjZ T B a i (AtZ B a 6))
theorem xq_even (hx : XQr M c r R nt T tr sl bu as B U) (hT : told3 T) {a' : Nat} (c1 : (a' : Int) < B 1865) (hn : 2000 < n) {m : Int} (hm1 : -99999 ≤ m ∧ m ≤ 99999) : loopF (fun (s : MemT × Int32) => (fun (M10 : MemT) (v11 : Int32) => (gO M10 7 0 4).bind (fun j13 => (gO M10 2 j13 0).bind (fun j14 => (gI M10 6 j14 8).bind (fun v15 => (if v15 < v11 then some (.inr (((-2), M10))) else (gO M10 7 0 4).bind (fun j16 => (gI M10 0 (c + 10 + 10 + 5 * a') 9).bind (fun v17 => chk M10 2 j16 (bd (g_X3_adjustedBy n M10 j16 (c + 10 + 10 + 5 * a') v11 v17) (fun r18 M19 => (if r18 < (zi m) then some (.inl (M19, v11 + 1)) else some (.inr ((v11, M19))))))))))))) s.1 s.2) n (WX M c R F S, 0) = some (match fnd (evP T B a' m) 0 (T 1 + 1).toNat with | some i => (zi (i : Int), WX M c R F S) | none => (zi (-2), WX M c R F S)) := by
  have h8 := hx.2.2.2.1.2.2.2.2.2.2.2.2.1
  have a8 : a' < 8 := by omega
  have ra := hx.2.1.2.2.1.2.2 a' c1
  have ax := hx.2.2.2.1.2.2.2.2.2.2.2.2.2 a' (by omega) c1
  have e6 := ax.1.2.2.2.2.2.2.1
  have t1 := hT.2.1
  have gA := fun (i : Nat) (hi : (i : Int) ≤ T 1) => c_adjustedBy (n := n) (R := R) (F := F) (S := S) (a := a') (w := (i : Int)) (b := AtZ B a' 6) (xq_C hx) (xq_U hx) hT a8 ra.1.2.2.2.1 ra.1.2.2.2.2.1 ax.1 (by omega)
  have hr := fun (i : Nat) (hi : (i : Int) ≤ T 1) => adjZ_r (a := (a' : Int)) (w := (i : Int)) (b := AtZ B a' 6) hT ax.1 (by omega)
  have lt : ∀ i : Nat, (i : Int) ≤ T 1 → (zi (adjZ T B a' i (AtZ B a' 6)) < zi m) = (adjZ T B a' i (AtZ B a' 6) < m) := fun i hi => by
    have := hr i hi
    exact zi_lt (by omega) (by omega) (by omega) (by omega)
  rw [show (WX M c R F S, (0 : Int32)) = (fun i : Nat => (WX M c R F S, zi (i : Int))) 0 from rfl]
  refine loop_find (fun i : Nat => (WX M c R F S, zi (i : Int))) (fun i => (zi (i : Int), WX M c R F S)) (zi (-2), WX M c R F S) (T 1 + 1).toNat (evP T B a' m) (fun i hi hp => ?_) (fun i hi hp => ?_) ?_ n (by omega)
  · unfold evP at hp
    have hp' := of_decide_eq_false hp
    dsimp only
    rw [xq_o4 hx, i_sb, c_o0 (xq_C hx), i_sb, c_gR (xq_C hx), i_sb, (xq_U hx).1.2.2.1, if_neg (by rw [zi_lt (by omega) (by omega) (by omega) (by omega)]; omega), i_sb, c_gA (xq_C hx) a8, i_sb, ra.2.1.2.2.2.1, c_kC (xq_C hx), gA i (by omega), i_bd, if_pos (by rw [lt i (by omega)]; omega), show zi (i : Int) + 1 = zi ((i + 1 : Nat) : Int) from zi_add (i : Int) 1]
  · unfold evP at hp
    have hp' := of_decide_eq_true hp
    dsimp only
    rw [xq_o4 hx, i_sb, c_o0 (xq_C hx), i_sb, c_gR (xq_C hx), i_sb, (xq_U hx).1.2.2.1, if_neg (by rw [zi_lt (by omega) (by omega) (by omega) (by omega)]; omega), i_sb, c_gA (xq_C hx) a8, i_sb, ra.2.1.2.2.2.1, c_kC (xq_C hx), gA i (by omega), i_bd, if_neg (by rw [lt i (by omega)]; omega)]
  · dsimp only
    rw [xq_o4 hx, i_sb, c_o0 (xq_C hx), i_sb, c_gR (xq_C hx), i_sb, (xq_U hx).1.2.2.1, if_pos (by rw [zi_lt (by omega) (by omega) (by omega) (by omega)]; omega)]
    rfl
theorem mq_even (hm0 : MQr M' nt T tr sl bu as B U) {a' : Nat} (c1 : (a' : Int) < B 1865) (hn : 2000 < n) {m : Int} (hm1 : -99999 ≤ m ∧ m ≤ 99999) : loopF (fun (s : MemT × Int32) => (fun (M8 : MemT) (v9 : Int32) => (gO M8 8 139 17).bind (fun j11 => (aI M8 10 j11 1).bind (fun v12 => (if v12 < v9 then some (.inr (((-2), M8))) else chk M8 8 139 (bd (g_X10_at n M8 139 (zi (a' : Int)) 6) (fun r13 M14 => chk M14 8 139 (bd (g_X10_adjustedBy n M14 139 (zi (a' : Int)) v9 r13) (fun r15 M16 => (if (lg_cmp r15 (Int32.toInt64 (zi m))) < 0 then some (.inl (M16, v9 + 1)) else some (.inr ((v9, M16)))))))))))) s.1 s.2) n (WC M' 0 B S ho ha sm, 0) = some (match fnd (evP T B a' m) 0 (T 1 + 1).toNat with | some i => (zi (i : Int), WC M' 0 B S ho ha sm) | none => (zi (-2), WC M' 0 B S ho ha sm)) := by
  have h8 := mq_8 hm0
  have hT := hm0.2.2.1
  have ax := mq_A hm0 (show (0 : Int) ≤ a' by omega) c1
  have e6 := ax.1.2.2.2.2.2.2.1
  have t1 := hT.2.1
  have r6 : g_X10_at n (WC M' 0 B S ho ha sm) 139 (zi (a' : Int)) 6 = some (zi (AtZ B a' 6), _) := m_at (mq_h hm0) (k := 6) (by omega) (by omega) (by omega) (by omega)
  have rT : aI (WC M' 0 B S ho ha sm) 10 146 1 = some (zi (T 1)) := m_T (mq_h hm0) (w := 1) (by omega) (by omega)
  have gA := fun (i : Nat) (hi : (i : Int) ≤ T 1) => m_adjustedBy (n := n) (B := B) (S := S) (ho := ho) (ha := ha) (sm := sm) (a := (a' : Int)) (w := (i : Int)) (b := AtZ B a' 6) (mq_h hm0) hT (by omega) (by omega) ax.1 (by omega)
  have hr := fun (i : Nat) (hi : (i : Int) ≤ T 1) => adjZ_r (a := (a' : Int)) (w := (i : Int)) (b := AtZ B a' 6) hT ax.1 (by omega)
  have lt : ∀ i : Nat, (i : Int) ≤ T 1 → (lg_cmp (zj (adjZ T B a' i (AtZ B a' 6))) (zi m).toInt64 < 0) = (adjZ T B a' i (AtZ B a' 6) < m) := fun i hi => by
    have := hr i hi
    rw [lg_l0, zi_64 (by omega) (by omega)]
    exact zj_lt (by omega) (by omega) (by omega) (by omega)
  rw [show (WC M' 0 B S ho ha sm, (0 : Int32)) = (fun i : Nat => (WC M' 0 B S ho ha sm, zi (i : Int))) 0 from rfl]
  refine loop_find (fun i : Nat => (WC M' 0 B S ho ha sm, zi (i : Int))) (fun i => (zi (i : Int), WC M' 0 B S ho ha sm)) (zi (-2), WC M' 0 B S ho ha sm) (T 1 + 1).toNat (evP T B a' m) (fun i hi hp => ?_) (fun i hi hp => ?_) ?_ n (by omega)
  · unfold evP at hp
    have hp' := of_decide_eq_false hp
    dsimp only
    rw [m_told (mq_h hm0), i_sb, rT, i_sb, if_neg (by rw [zi_lt (by omega) (by omega) (by omega) (by omega)]; omega), m_chk (mq_h hm0), r6, i_bd, m_chk (mq_h hm0), gA i (by omega), i_bd, if_pos (by rw [lt i (by omega)]; omega), show zi (i : Int) + 1 = zi ((i + 1 : Nat) : Int) from zi_add (i : Int) 1]
  · unfold evP at hp
    have hp' := of_decide_eq_true hp
    dsimp only
    rw [m_told (mq_h hm0), i_sb, rT, i_sb, if_neg (by rw [zi_lt (by omega) (by omega) (by omega) (by omega)]; omega), m_chk (mq_h hm0), r6, i_bd, m_chk (mq_h hm0), gA i (by omega), i_bd, if_neg (by rw [lt i (by omega)]; omega)]
  · dsimp only
    rw [m_told (mq_h hm0), i_sb, rT, i_sb, if_pos (by rw [zi_lt (by omega) (by omega) (by omega) (by omega)]; omega)]
    rfl
theorem Q_even (hx : XQr M c r R nt T tr sl bu as B U) (hm : MQr M' nt T tr sl bu as B U) (hn : 2000 < n) {a : Int} {m : Int} (a1 : -2147483648 ≤ a) (a2 : a ≤ 2147483647) (m1 : -2147483648 ≤ m) (m2 : m ≤ 2147483647) : QP (g_X9_even n (WX M c R F S) 0 (zi a) (zi m)) (g_X10_even n (WC M' 0 B S' ho ha sm) 139 (zi a) (zi m)) M (sI M' 139 2 0) c R B := by
  have hm0 := mq_thr0 (v := zi 0) hm
  have hnt := hm.2.1
  have h8 := mq_8 hm
  obtain ⟨n1, n2⟩ := mq_N hm
  have hy : 0 ≤ yearZ B ∧ yearZ B < 16 := by unfold yearZ; omega
  have hT := hm.2.2.1
  have htr := hm.2.2.2.1
  have hAN := AN2_r (mq_N hm) hm.2.2.2.2.2.1.2.2.2.2.2.2.1
  have t1r := hT.2.1
  have t2r := hT.2.2
  by_cases c1 : 0 ≤ a ∧ a < B 1865
  · obtain ⟨a', rfl⟩ := Int.eq_ofNat_of_zero_le c1.1
    have a8 : a' < 8 := by omega
    have ra := hx.2.1.2.2.1.2.2 a' c1.2
    have ax := mq_A hm c1.1 c1.2
    have e9 := ax.1.2.2.2.2.2.2.2.2.2.1
    have e47 := ax.1.2.2.2.2.2.2.2.2.2.2.2.2
    have e4 := ax.1.2.2.2.2.1
    have hmz := mq_thr0 (v := (0 : Int32)) hm
    have z1 : bI2 (0 ≤ (a' : Int) ∧ (a' : Int) < B 1865) ≠ (0 : Int32) := fun q => ((bI_0 _).mp q) c1
    have em' : (-99999 : Int32) = zi (-99999) := by decide
    have e99 : (99999 : Int32) = zi 99999 := rfl
    have t31 := hT.2.1
    by_cases c2 : -99999 ≤ m ∧ m ≤ 99999
    · have z2 : bI2 (-99999 ≤ m ∧ m ≤ 99999) ≠ (0 : Int32) := fun q => ((bI_0 _).mp q) c2
      by_cases c4 : AtZ B a' 47 = 0
      · have z3 : bI2 (0 < AtZ B a' 47) = (0 : Int32) := (bI_0 _).mpr (by omega)
        refine qp_mk (-3) (F1 := F) (S1 := S) (S2 := S') (ho2 := ho) (ha2 := ha) (sm2 := sm) ?_ ?_
        · unfold g_X9_even
          rw [xq_ko hx, xq_as hx a1 a2, i_bd, if_neg z1, em', e99, x_isIn2 m1 m2 (by omega) (by omega) (by omega) (by omega), i_bd, if_neg z2, xq_o4 hx, i_sb, c_o1 (xq_C hx), i_sb, c_o5 (xq_C hx), i_sb, c_oA (xq_C hx) a8, i_sb, c_gA (xq_C hx) a8, i_sb, ra.2.1.2.2.2.2.2.2.2.2, if_pos (by rw [c4]; rfl)]
          rfl
        · unfold g_X10_even
          rw [m_thr0 (mq_h hm), i_sb, m_chk (mq_h hmz), mq_as hmz a1 a2, i_bd, if_neg z1, em', e99, m_isIn2 m1 m2 (by omega) (by omega) (by omega) (by omega), i_bd, if_neg z2, m_chk (mq_h hmz), mq_thr hmz c1.1 c1.2, i_bd, if_pos z3]
          rfl
      · have z3 : bI2 (0 < AtZ B a' 47) ≠ (0 : Int32) := fun q => ((bI_0 _).mp q) (by omega)
        have gx := xq_even (n := n) (F := F) (S := S) hx hT c1.2 hn c2
        have gm := mq_even (n := n) (S := S') (ho := ho) (ha := ha) (sm := sm) hmz c1.2 hn c2
        dsimp only at gx gm
        have e0 : (zi (AtZ B a' 47) = 0) = (AtZ B a' 47 = 0) := zi_eq (b := 0) (by omega) (by omega) (by omega) (by omega)
        have hq : QP (g_X9_even n (WX M c R F S) 0 (zi ↑a') (zi m)) (g_X10_even n (WC M' 0 B S' ho ha sm) 139 (zi ↑a') (zi m)) M (sI M' 139 2 0) c R B := by
          have h1 : g_X9_even n (WX M c R F S) 0 (zi ↑a') (zi m) = some (match fnd (evP T B a' m) 0 (T 1 + 1).toNat with | some i => (zi (i : Int), WX M c R F S) | none => (zi (-2), WX M c R F S)) := by
            unfold g_X9_even
            rw [xq_ko hx, xq_as hx a1 a2, i_bd, if_neg z1, em', e99, x_isIn2 m1 m2 (by omega) (by omega) (by omega) (by omega), i_bd, if_neg z2, xq_o4 hx, i_sb, c_o1 (xq_C hx), i_sb, c_o5 (xq_C hx), i_sb, c_oA (xq_C hx) a8, i_sb, c_gA (xq_C hx) a8, i_sb, ra.2.1.2.2.2.2.2.2.2.2, if_neg (by rw [e0]; exact c4)]
            exact gx
          have h2 : g_X10_even n (WC M' 0 B S' ho ha sm) 139 (zi ↑a') (zi m) = some (match fnd (evP T B a' m) 0 (T 1 + 1).toNat with | some i => (zi (i : Int), WC (sI M' 139 2 0) 0 B S' ho ha sm) | none => (zi (-2), WC (sI M' 139 2 0) 0 B S' ho ha sm)) := by
            unfold g_X10_even
            rw [m_thr0 (mq_h hm), i_sb, m_chk (mq_h hmz), mq_as hmz a1 a2, i_bd, if_neg z1, em', e99, m_isIn2 m1 m2 (by omega) (by omega) (by omega) (by omega), i_bd, if_neg z2, m_chk (mq_h hmz), mq_thr hmz c1.1 c1.2, i_bd, if_neg z3]
            exact gm
          rw [h1, h2]
          cases fnd (evP T B a' m) 0 (T 1 + 1).toNat with
          | none => exact qp_mk (-2) rfl rfl
          | some i => exact qp_mk (i : Int) rfl rfl
        exact hq
    · have z2 : bI2 (-99999 ≤ m ∧ m ≤ 99999) = (0 : Int32) := (bI_0 _).mpr c2
      refine qp_mk (-1) (F1 := F) (S1 := S) (S2 := S') (ho2 := ho) (ha2 := ha) (sm2 := sm) ?_ ?_
      · unfold g_X9_even
        rw [xq_ko hx, xq_as hx a1 a2, i_bd, if_neg z1, em', e99, x_isIn2 m1 m2 (by omega) (by omega) (by omega) (by omega), i_bd, if_pos z2]
        rfl
      · unfold g_X10_even
        rw [m_thr0 (mq_h hm), i_sb, m_chk (mq_h hmz), mq_as hmz a1 a2, i_bd, if_neg z1, em', e99, m_isIn2 m1 m2 (by omega) (by omega) (by omega) (by omega), i_bd, if_pos z2]
        rfl
  · have hmz := mq_thr0 (v := (0 : Int32)) hm
    have e0 : bI2 (0 ≤ a ∧ a < B 1865) = (0 : Int32) := (bI_0 (0 ≤ a ∧ a < B 1865)).mpr c1
    refine qp_mk (-1) (F1 := F) (S1 := S) (S2 := S') (ho2 := ho) (ha2 := ha) (sm2 := sm) ?_ ?_
    · unfold g_X9_even
      rw [xq_ko hx, xq_as hx a1 a2, i_bd, if_pos e0]
      rfl
    · unfold g_X10_even
      rw [m_thr0 (mq_h hm), i_sb, m_chk (mq_h hmz), mq_as hmz a1 a2, i_bd, if_pos e0]
      rfl
end Q7
