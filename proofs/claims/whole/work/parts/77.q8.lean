/-! ===== PURE 47: the best of several ===== -/
def amZ (b0 : Int) (bst val : Nat → Int) : Nat → Int × Int
  | 0 => (b0, -1)
  | k + 1 => if (amZ b0 bst val k).2 < val k then (bst k, val k) else amZ b0 bst val k
theorem amZ_r {b0 : Int} {bst val : Nat → Int} {N : Nat} {hi : Int} (h0 : 0 ≤ hi) (h : ∀ i, i < N → 0 ≤ val i ∧ val i ≤ hi) : ∀ k, k ≤ N → -1 ≤ (amZ b0 bst val k).2 ∧ (amZ b0 bst val k).2 ≤ hi
  | 0, _ => ⟨Int.le_refl _, by show (-1 : Int) ≤ hi; omega⟩
  | k + 1, hk => by
    have ih := amZ_r (b0 := b0) (bst := bst) h0 h k (by omega)
    have hv := h k (by omega)
    show -1 ≤ (if (amZ b0 bst val k).2 < val k then (bst k, val k) else amZ b0 bst val k).2 ∧ (if (amZ b0 bst val k).2 < val k then (bst k, val k) else amZ b0 bst val k).2 ≤ hi
    split
    · exact ⟨by omega, hv.2⟩
    · exact ih
theorem amZ_1 {b0 : Int} {bst val : Nat → Int} (h : 0 ≤ val 0) : amZ b0 bst val 1 = (bst 0, val 0) := if_pos (show (-1 : Int) < val 0 by omega)
theorem amZ_b {b0 : Int} {bst val : Nat → Int} (hb : ∀ i, 0 ≤ bst i) (h : 0 ≤ val 0) : ∀ k, 0 ≤ (amZ b0 bst val (k + 1)).1 ∧ ((∀ i, 0 < bst i) → 0 < (amZ b0 bst val (k + 1)).1)
  | 0 => by rw [amZ_1 h]; exact ⟨hb 0, fun z => z 0⟩
  | k + 1 => by
    have ih := amZ_b (b0 := b0) hb h k
    show 0 ≤ (if (amZ b0 bst val (k + 1)).2 < val (k + 1) then (bst (k + 1), val (k + 1)) else amZ b0 bst val (k + 1)).1 ∧ (_ → 0 < (if (amZ b0 bst val (k + 1)).2 < val (k + 1) then (bst (k + 1), val (k + 1)) else amZ b0 bst val (k + 1)).1)
    split
    · exact ⟨hb _, fun z => z _⟩
    · exact ih
/-- a step of the component: as long as it is not more, it stays -/
theorem am_x {X : Type} {b0 : Int} {bst val : Nat → Int} {k : Nat} {W : MemT} {v : Int32} {hi : Int} (hh : hi ≤ 2147483647) (h1 : 0 ≤ val k ∧ val k ≤ hi) (h2 : -1 ≤ (amZ b0 bst val k).2 ∧ (amZ b0 bst val k).2 ≤ hi) : (if zi (val k) ≤ zi (amZ b0 bst val k).2 then (some (.inl (W, zi (amZ b0 bst val k).1, zi (amZ b0 bst val k).2, v)) : Option ((MemT × Int32 × Int32 × Int32) ⊕ X)) else some (.inl (W, zi (bst k), zi (val k), v))) = some (.inl (W, zi (amZ b0 bst val (k + 1)).1, zi (amZ b0 bst val (k + 1)).2, v)) := by
  have e : (zi (val k) ≤ zi (amZ b0 bst val k).2) = (val k ≤ (amZ b0 bst val k).2) := zi_le (by omega) (by omega) (by omega) (by omega)
  show _ = some (Sum.inl (W, zi (if (amZ b0 bst val k).2 < val k then (bst k, val k) else amZ b0 bst val k).1, zi (if (amZ b0 bst val k).2 < val k then (bst k, val k) else amZ b0 bst val k).2, v))
  simp only [e]
  by_cases c : val k ≤ (amZ b0 bst val k).2
  · rw [if_pos c, if_neg (by omega)]
  · rw [if_neg c, if_pos (by omega)]
/-- the reference's state: at first a word of its own -/
def amM (b1 : Int) (b0 : Int) (bst val : Nat → Int) : Nat → Int × Int
  | 0 => (b1, 0)
  | k + 1 => amZ b0 bst val (k + 1)
section Q8
variable {M M' : MemT} {c r : Nat} {R : Nat → Nat → Int32} {F : Nat → Int32} {S S' : Int → Int} {n : Nat} {T tr sl bu as B : Int → Int} {nt U ho ha : Int} {sm : Int32}
theorem back_hi (hU : UB U B) (hUU : 2000000 ≤ U ∧ U ≤ 100000000) (hB : BS B) {t y w s l f : Int} (t0 : 0 ≤ t) (t1 : t < 4) (y0 : 0 ≤ y) (y1 : y < 16) (hw : 0 ≤ w ∧ w ≤ 2) (hs : 0 < s) (hf : 0 ≤ f ∧ f ≤ s) : 0 ≤ backZ w s l (ySum B t y) f ∧ backZ w s l (ySum B t y) f ≤ 1200000000 := by
  have h := backZ_rng (l := l) hw hs (sumsOk_y hB t0 t1 y0 y1) hf
  refine ⟨h.1, Int.le_trans h.2 ?_⟩
  have b : ∀ w : Int, 0 ≤ w → w < 5 → ySum B t y w ≤ 400000000 := fun w w0 w1 => by
    have b1 := hU (1 + 320 * t + 5 * (4 * y) + w) (by omega) (by omega)
    have b2 := hU (1 + 320 * t + 5 * (4 * y + 1) + w) (by omega) (by omega)
    have b3 := hU (1 + 320 * t + 5 * (4 * y + 2) + w) (by omega) (by omega)
    have b4 := hU (1 + 320 * t + 5 * (4 * y + 3) + w) (by omega) (by omega)
    unfold ySum
    omega
  have b2 := b 2 (by omega) (by omega)
  have b3 := b 3 (by omega) (by omega)
  have b4 := b 4 (by omega) (by omega)
  unfold wholeZ
  omega
def leV (T tr B : Int → Int) (y : Int) (i : Nat) : Int := backZ (T 0) (T 1) (T 2) (ySum B i y) (annZ T tr B i y)
def idI (i : Nat) : Int := i
theorem leV_r (hm : MQr M' nt T tr sl bu as B U) {y : Int} (y0 : 0 ≤ y) (y1 : y < 16) : ∀ i : Nat, i < nt.toNat → 0 ≤ leV T tr B y i ∧ leV T tr B y i ≤ 1200000000 := fun i hi => by
  obtain ⟨hO, hnt, hT, htr, hRows, hBI, hU⟩ := id hm
  have hr := annZ_r (tr := tr) (t := (i : Int)) (y := y) hT hBI.1 hBI.2.1 (AN2_r hBI.2.1 hBI.2.2.2.2.2.2.1) (by omega) (by omega) y0 y1
  exact back_hi hBI.2.2.1 hU hBI.1 (by omega) (by omega) y0 y1 hT.1 (by have := hT.2.1; omega) hr
theorem xq_leader (hx : XQr M c r R nt T tr sl bu as B U) (hm : MQr M' nt T tr sl bu as B U) (hn : 10 < n) {y : Int} (y0 : 0 ≤ y) (y1 : y < 16) : ∃ F1 S1, loopF (fun (s : MemT × Int32 × Int32 × Int32) => (fun (M5 : MemT) (v6 : Int32) (v7 : Int32) (v8 : Int32) => (gO M5 7 0 4).bind (fun j10 => (gO M5 2 j10 0).bind (fun j11 => (gI M5 6 j11 0).bind (fun v12 => (if v12 ≤ v8 then some (.inr (M5, v6, v7, v8)) else (gO M5 7 0 4).bind (fun j13 => chk M5 2 j13 (bd (g_X3_yearBack n M5 j13 v8 (zi y)) (fun r14 M15 => (if r14 ≤ v7 then some (.inl (M15, v6, v7, v8 + 1)) else some (.inl (M15, v8, r14, v8 + 1))))))))))) s.1 s.2.1 s.2.2.1 s.2.2.2) n (WX M c R F S, (-2), (-1), 0) = some (WX M c R F1 S1, zi (amZ (-2) idI (leV T tr B y) nt.toNat).1, zi (amZ (-2) idI (leV T tr B y) nt.toNat).2, zi nt) := by
  have hnt := hm.2.1
  have hv := leV_r hm y0 y1
  have key := loop_inv (step := fun (s : MemT × Int32 × Int32 × Int32) => (fun (M5 : MemT) (v6 : Int32) (v7 : Int32) (v8 : Int32) => (gO M5 7 0 4).bind (fun j10 => (gO M5 2 j10 0).bind (fun j11 => (gI M5 6 j11 0).bind (fun v12 => (if v12 ≤ v8 then some (.inr (M5, v6, v7, v8)) else (gO M5 7 0 4).bind (fun j13 => chk M5 2 j13 (bd (g_X3_yearBack n M5 j13 v8 (zi y)) (fun r14 M15 => (if r14 ≤ v7 then some (.inl (M15, v6, v7, v8 + 1)) else some (.inl (M15, v8, r14, v8 + 1))))))))))) s.1 s.2.1 s.2.2.1 s.2.2.2) (fun k s => ∃ F1 S1, s = (WX M c R F1 S1, zi (amZ (-2) idI (leV T tr B y) k).1, zi (amZ (-2) idI (leV T tr B y) k).2, zi (k : Int))) (fun t => ∃ F1 S1, t = (WX M c R F1 S1, zi (amZ (-2) idI (leV T tr B y) nt.toNat).1, zi (amZ (-2) idI (leV T tr B y) nt.toNat).2, zi nt)) nt.toNat (fun k hk s hs => ?_) (fun s hs => ?_) n (by omega) _ ⟨F, S, rfl⟩
  · obtain ⟨t, ht, F1, S1, rfl⟩ := key
    exact ⟨F1, S1, ht⟩
  · obtain ⟨F1, S1, rfl⟩ := hs
    obtain ⟨F2, S2, g⟩ := c_yearBack (n := n) (F := F1) (S := S1) (t := (k : Int)) (y := y) hx.2.1 (by omega) (by omega) (by omega) y0 y1
    have ha := amZ_r (b0 := -2) (bst := idI) (by omega) hv k (by omega)
    refine ⟨_, ?_, F2, S2, rfl⟩
    dsimp only
    rw [xq_o4 hx, i_sb, c_o0 (xq_C hx), i_sb, c_gR (xq_C hx), i_sb, (xq_U hx).1.1, if_neg (by rw [zi_le (by omega) (by omega) (by omega) (by omega)]; omega), i_sb, c_kC (xq_C hx), g, i_bd, show zi (k : Int) + 1 = zi ((k + 1 : Nat) : Int) from zi_add (k : Int) 1]
    exact am_x (bst := idI) (val := leV T tr B y) (by omega) (hv k hk) ha
  · obtain ⟨F1, S1, rfl⟩ := hs
    refine ⟨_, ?_, F1, S1, rfl⟩
    dsimp only
    rw [xq_o4 hx, i_sb, c_o0 (xq_C hx), i_sb, c_gR (xq_C hx), i_sb, (xq_U hx).1.1, Int.toNat_of_nonneg hnt.1, if_pos (Int32.le_refl _)]
theorem mq_leader (hm0 : MQr M' nt T tr sl bu as B U) (hn : 10 < n) {y : Int} (y0 : 0 ≤ y) (y1 : y < 16) : ∃ S1 ho1 ha1 sm1, loopF (fun (s : MemT × Int32 × Int32 × Int32) => (fun (M6 : MemT) (v7 : Int32) (v8 : Int32) (v9 : Int32) => (gI M6 8 139 11).bind (fun v11 => (if v11 ≤ v9 then some (.inr (M6, v7, v8, v9)) else chk M6 8 139 (bd (g_X10_backOf n M6 139 v9 (zi y)) (fun r12 M13 => jp (fun (s : MemT) => (fun (M15 : MemT)  => some (.inl (M15, v9, r12, v9 + 1))) s) (fun K14 => (if v7 < 0 then K14 M13 else (if v8 < r12 then K14 M13 else some (.inl (M13, v7, v8, v9 + 1)))))))))) s.1 s.2.1 s.2.2.1 s.2.2.2) n (WC M' 0 B S ho ha sm, (-2), 0, 0) = some (WC M' 0 B S1 ho1 ha1 sm1, zi (amM (-2) (-2) idI (leV T tr B y) nt.toNat).1, zi (amM (-2) (-2) idI (leV T tr B y) nt.toNat).2, zi nt) := by
  have hnt := hm0.2.1
  have hv := leV_r hm0 y0 y1
  have key := loop_inv (step := fun (s : MemT × Int32 × Int32 × Int32) => (fun (M6 : MemT) (v7 : Int32) (v8 : Int32) (v9 : Int32) => (gI M6 8 139 11).bind (fun v11 => (if v11 ≤ v9 then some (.inr (M6, v7, v8, v9)) else chk M6 8 139 (bd (g_X10_backOf n M6 139 v9 (zi y)) (fun r12 M13 => jp (fun (s : MemT) => (fun (M15 : MemT)  => some (.inl (M15, v9, r12, v9 + 1))) s) (fun K14 => (if v7 < 0 then K14 M13 else (if v8 < r12 then K14 M13 else some (.inl (M13, v7, v8, v9 + 1)))))))))) s.1 s.2.1 s.2.2.1 s.2.2.2) (fun k s => ∃ S1 ho1 ha1 sm1, s = (WC M' 0 B S1 ho1 ha1 sm1, zi (amM (-2) (-2) idI (leV T tr B y) k).1, zi (amM (-2) (-2) idI (leV T tr B y) k).2, zi (k : Int))) (fun t => ∃ S1 ho1 ha1 sm1, t = (WC M' 0 B S1 ho1 ha1 sm1, zi (amM (-2) (-2) idI (leV T tr B y) nt.toNat).1, zi (amM (-2) (-2) idI (leV T tr B y) nt.toNat).2, zi nt)) nt.toNat (fun k hk s hs => ?_) (fun s hs => ?_) n (by omega) _ ⟨S, ho, ha, sm, rfl⟩
  · obtain ⟨t, ht, S1, ho1, ha1, sm1, rfl⟩ := key
    exact ⟨S1, ho1, ha1, sm1, ht⟩
  · obtain ⟨S1, ho1, ha1, sm1, rfl⟩ := hs
    obtain ⟨S2, -, g⟩ := mq_backOf (n := n) (S := S1) (ho := ho1) (ha := ha1) (sm := sm1) (t := (k : Int)) (y := y) hm0 hn (by omega) (by omega) y0 y1
    refine ⟨_, ?_, S2, B (1281 + 2 * k), B (1282 + 2 * k), smallI (T 0) (T 1) (T 2) (ySum B k y) (annZ T tr B k y), rfl⟩
    have eV : backZ (T 0) (T 1) (T 2) (ySum B k y) (annZ T tr B k y) = leV T tr B y k := rfl
    have vk := hv k hk
    dsimp only
    simp only [i_jp]
    rw [m_gnt (mq_h hm0), i_sb, if_neg (by rw [zi_le (by omega) (by omega) (by omega) (by omega)]; omega), m_chk (mq_h hm0), g, i_bd, eV, show zi (k : Int) + 1 = zi ((k + 1 : Nat) : Int) from zi_add (k : Int) 1]
    cases k with
    | zero =>
      rw [if_pos (show zi (amM (-2) (-2) idI (leV T tr B y) 0).1 < 0 from (show zi (-2) < (0 : Int32) by decide))]
      show _ = some (Sum.inl (_, zi (amZ (-2) idI (leV T tr B y) 1).1, zi (amZ (-2) idI (leV T tr B y) 1).2, _))
      rw [amZ_1 vk.1]
      rfl
    | succ j =>
      have ha := amZ_r (b0 := -2) (bst := idI) (by omega) hv (j + 1) (by omega)
      have hb := (amZ_b (b0 := -2) (bst := idI) (val := leV T tr B y) (fun i => by unfold idI; omega) (hv 0 (by omega)).1 j).1
      have hb2 : (amZ (-2) idI (leV T tr B y) (j + 1)).1 ≤ 2147483647 := by
        have : ∀ k, k ≤ 5 → (amZ (-2) idI (leV T tr B y) k).1 ≤ 5 := fun k => by
          induction k with
          | zero => intro _; show (-2 : Int) ≤ 5; omega
          | succ k ih =>
            intro hk5
            show (if (amZ (-2) idI (leV T tr B y) k).2 < leV T tr B y k then (idI k, leV T tr B y k) else amZ (-2) idI (leV T tr B y) k).1 ≤ 5
            split
            · show (k : Int) ≤ 5; omega
            · exact ih (by omega)
        have := this (j + 1) (by omega)
        omega
      have e1 : (zi (amZ (-2) idI (leV T tr B y) (j + 1)).1 < 0) = False := by
        show (zi _ < zi 0) = False
        rw [zi_lt (by omega) hb2 (by omega) (by omega)]; exact eq_false (by omega)
      have e2 : (zi (amZ (-2) idI (leV T tr B y) (j + 1)).2 < zi (leV T tr B y (j + 1))) = ((amZ (-2) idI (leV T tr B y) (j + 1)).2 < leV T tr B y (j + 1)) := zi_lt (by omega) (by omega) (by omega) (by omega)
      show (if zi (amZ (-2) idI (leV T tr B y) (j + 1)).1 < 0 then _ else _) = some (Sum.inl (_, zi (if (amZ (-2) idI (leV T tr B y) (j + 1)).2 < leV T tr B y (j + 1) then (idI (j + 1), leV T tr B y (j + 1)) else amZ (-2) idI (leV T tr B y) (j + 1)).1, zi (if (amZ (-2) idI (leV T tr B y) (j + 1)).2 < leV T tr B y (j + 1) then (idI (j + 1), leV T tr B y (j + 1)) else amZ (-2) idI (leV T tr B y) (j + 1)).2, _))
      simp only [e1, if_false]
      show (if zi (amZ (-2) idI (leV T tr B y) (j + 1)).2 < zi (leV T tr B y (j + 1)) then _ else _) = _
      simp only [e2]
      by_cases q : (amZ (-2) idI (leV T tr B y) (j + 1)).2 < leV T tr B y (j + 1)
      · rw [if_pos q, if_pos q]; rfl
      · rw [if_neg q, if_neg q]; rfl
  · obtain ⟨S1, ho1, ha1, sm1, rfl⟩ := hs
    refine ⟨_, ?_, S1, ho1, ha1, sm1, rfl⟩
    dsimp only
    rw [m_gnt (mq_h hm0), i_sb, Int.toNat_of_nonneg hnt.1, if_pos (Int32.le_refl _)]
theorem amM_1 {b0 : Int} {bst val : Nat → Int} : ∀ k, (amM b0 b0 bst val k).1 = (amZ b0 bst val k).1
  | 0 => rfl
  | _ + 1 => rfl
theorem Q_leader (hx : XQr M c r R nt T tr sl bu as B U) (hm : MQr M' nt T tr sl bu as B U) (hn : 10 < n) {y : Int} (y1 : -2147483648 ≤ y) (y2 : y ≤ 2147483647) : QP (g_X9_leader n (WX M c R F S) 0 (zi y)) (g_X10_leader n (WC M' 0 B S' ho ha sm) 139 (zi y)) M (sI M' 139 2 0) c R B := by
  have hmz := mq_thr0 (v := (0 : Int32)) hm
  obtain ⟨n1, n2⟩ := mq_N hm
  have hyr : 0 ≤ yearZ B ∧ yearZ B < 16 := by unfold yearZ; omega
  have e15 : (15 : Int32) = zi 15 := rfl
  have e00 : (0 : Int32) = zi 0 := rfl
  have gI := m_isIn2 (n := n) (x := y) (a := 0) (b := 15) (M := WC (sI M' 139 2 0) 0 B S' ho ha sm) y1 y2 (by omega) (by omega) (by omega) (by omega)
  have gI' : g_X10_isIn n (WC (sI M' 139 2 0) 0 B S' ho ha sm) (zi y) 0 15 = _ := gI
  by_cases c1 : 0 ≤ y ∧ y ≤ 15
  · have z1 : bI2 (0 ≤ y ∧ y ≤ 15) ≠ (0 : Int32) := fun q => ((bI_0 _).mp q) c1
    by_cases c2 : y ≤ yearZ B
    · have z2 : bI2 (0 ≤ y ∧ y ≤ yearZ B) ≠ (0 : Int32) := fun q => ((bI_0 _).mp q) ⟨c1.1, c2⟩
      obtain ⟨F1, S1, gx⟩ := xq_leader (n := n) (F := F) (S := S) hx hm hn c1.1 (show y < 16 by omega)
      obtain ⟨S2, ho2, ha2, sm2, gm⟩ := mq_leader (n := n) (S := S') (ho := ho) (ha := ha) (sm := sm) hmz hn c1.1 (show y < 16 by omega)
      rw [amM_1] at gm
      dsimp only at gx gm
      refine qp_mk (amZ (-2) idI (leV T tr B y) nt.toNat).1 (F1 := F1) (S1 := S1) (S2 := S2) (ho2 := ho2) (ha2 := ha2) (sm2 := sm2) ?_ ?_
      · unfold g_X9_leader
        rw [xq_yr y1 y2, i_bd, if_neg z1, xq_ko hx, xq_bg hx y1 y2, i_bd, if_neg z2]
        dsimp only
        rw [gx, i_sb]
      · unfold g_X10_leader
        rw [m_thr0 (mq_h hm), i_sb, gI', i_bd, if_neg z1, m_chk (mq_h hmz), mq_y hmz, i_bd, if_pos (by rw [zi_le (by omega) (by omega) (by omega) (by omega)]; exact c2)]
        dsimp only
        rw [gm, i_sb]
    · have z2 : bI2 (0 ≤ y ∧ y ≤ yearZ B) = (0 : Int32) := (bI_0 _).mpr (fun q => c2 q.2)
      refine qp_mk (-2) (F1 := F) (S1 := S) (S2 := S') (ho2 := ho) (ha2 := ha) (sm2 := sm) ?_ ?_
      · unfold g_X9_leader
        rw [xq_yr y1 y2, i_bd, if_neg z1, xq_ko hx, xq_bg hx y1 y2, i_bd, if_pos z2]
        rfl
      · unfold g_X10_leader
        rw [m_thr0 (mq_h hm), i_sb, gI', i_bd, if_neg z1, m_chk (mq_h hmz), mq_y hmz, i_bd, if_neg (by rw [zi_le (by omega) (by omega) (by omega) (by omega)]; exact c2)]
        rfl
  · have z1 : bI2 (0 ≤ y ∧ y ≤ 15) = (0 : Int32) := (bI_0 _).mpr c1
    refine qp_mk (-1) (F1 := F) (S1 := S) (S2 := S') (ho2 := ho) (ha2 := ha) (sm2 := sm) ?_ ?_
    · unfold g_X9_leader
      rw [xq_yr y1 y2, i_bd, if_pos z1]
      rfl
    · unfold g_X10_leader
      rw [m_thr0 (mq_h hm), i_sb, gI', i_bd, if_pos z1]
      rfl
end Q8
