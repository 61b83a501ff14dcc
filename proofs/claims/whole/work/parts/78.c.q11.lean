/-! ===== PURE 50: bestMethod, bestStep, rise ===== -/
section Q11
variable {M M' : MemT} {c r : Nat} {R : Nat → Nat → Int32} {F : Nat → Int32} {S S' : Int → Int} {n : Nat} {T tr sl bu as B : Int → Int} {nt U ho ha : Int} {sm : Int32}
theorem back1_of {f lim : Int} {R1 : Option (Int32 × MemT)} (hT : told3 T) (hO : MOk M' 0 nt T tr sl bu as) (h : g_X10_backBy n (WC M' 0 B S ho ha sm) 139 (zi f) (zi (T 0)) (zi (T 1)) (zi lim) = R1) : g_X10_back1 n (WC M' 0 B S ho ha sm) 139 (zi f) (zi lim) = bd R1 (fun r5 M6 => some (r5, M6)) := by
  have r0 : aI (WC M' 0 B S ho ha sm) 10 146 0 = some (zi (T 0)) := m_T hO (w := 0) (by omega) (by omega)
  have r1 : aI (WC M' 0 B S ho ha sm) 10 146 1 = some (zi (T 1)) := m_T hO (w := 1) (by omega) (by omega)
  unfold g_X10_back1
  rw [m_told hO, i_sb, r0, i_sb, i_sb, r1, i_sb, m_chk hO, h]
theorem mq_bm (hm0 : MQr M' nt T tr sl bu as B U) (hn : 2000 < n) {t y : Int} (t0 : 0 ≤ t) (t1 : t < nt) (y0 : 0 ≤ y) (y1 : y < 16) (hS : ∀ w : Int, 0 ≤ w → w < 5 → S w = ySum B t y w) : ∃ sm1, loopF (fun (s : MemT × Int32 × Int32 × Int32) => (fun (M10 : MemT) (v11 : Int32) (v12 : Int32) (v13 : Int32) => (if 3 ≤ v13 then some (.inr (M10, v11, v12, v13)) else (gO M10 8 139 17).bind (fun j15 => (aI M10 10 j15 0).bind (fun v16 => (gO M10 8 139 17).bind (fun j17 => (aI M10 10 j17 1).bind (fun v18 => chk M10 8 139 (bd (g_X10_fractionBy n M10 139 v13 v16 v18) (fun r19 M20 => (gO M20 8 139 17).bind (fun j21 => (aI M20 10 j21 2).bind (fun v22 => chk M20 8 139 (bd (g_X10_back1 n M20 139 r19 v22) (fun r23 M24 => jp (fun (s : MemT × Int32) => (fun (M26 : MemT) (v27 : Int32) => (if v13 = 0 then some (.inl (M26, v27, r23, v13 + 1)) else (if r23 ≤ v12 then some (.inl (M26, v27, v12, v13 + 1)) else some (.inl (M26, v27, r23, v13 + 1))))) s.1 s.2) (fun K25 => jp (fun (s : MemT) => (fun (M29 : MemT)  => K25 (M29, v13)) s) (fun K28 => (if v13 = 0 then K28 M24 else (if r23 ≤ v12 then K25 (M24, v11) else K28 M24)))))))))))))))) s.1 s.2.1 s.2.2.1 s.2.2.2) n (WC M' 0 B S (B (1281 + 2 * t)) (B (1282 + 2 * t)) sm, 0, 0, 0) = some (WC M' 0 B S (B (1281 + 2 * t)) (B (1282 + 2 * t)) sm1, zi (amM 0 0 mtI (fun i => bsV T B t y i (T 1)) 3).1, zi (amM 0 0 mtI (fun i => bsV T B t y i (T 1)) 3).2, zi (0 + 3)) := by
  have hnt := hm0.2.1
  have hT := hm0.2.2.1
  have t1r := hT.2.1
  have hv := fun i (hi : i < 3) => bsV_r hm0 (m := ((i : Nat) : Int)) (s := T 1) t0 t1 y0 y1 (by omega)
  have key := loop_inv (step := fun (s : MemT × Int32 × Int32 × Int32) => (fun (M10 : MemT) (v11 : Int32) (v12 : Int32) (v13 : Int32) => (if 3 ≤ v13 then some (.inr (M10, v11, v12, v13)) else (gO M10 8 139 17).bind (fun j15 => (aI M10 10 j15 0).bind (fun v16 => (gO M10 8 139 17).bind (fun j17 => (aI M10 10 j17 1).bind (fun v18 => chk M10 8 139 (bd (g_X10_fractionBy n M10 139 v13 v16 v18) (fun r19 M20 => (gO M20 8 139 17).bind (fun j21 => (aI M20 10 j21 2).bind (fun v22 => chk M20 8 139 (bd (g_X10_back1 n M20 139 r19 v22) (fun r23 M24 => jp (fun (s : MemT × Int32) => (fun (M26 : MemT) (v27 : Int32) => (if v13 = 0 then some (.inl (M26, v27, r23, v13 + 1)) else (if r23 ≤ v12 then some (.inl (M26, v27, v12, v13 + 1)) else some (.inl (M26, v27, r23, v13 + 1))))) s.1 s.2) (fun K25 => jp (fun (s : MemT) => (fun (M29 : MemT)  => K25 (M29, v13)) s) (fun K28 => (if v13 = 0 then K28 M24 else (if r23 ≤ v12 then K25 (M24, v11) else K28 M24)))))))))))))))) s.1 s.2.1 s.2.2.1 s.2.2.2) (fun k s => ∃ sm1, s = (WC M' 0 B S (B (1281 + 2 * t)) (B (1282 + 2 * t)) sm1, zi (amM 0 0 mtI (fun i => bsV T B t y i (T 1)) k).1, zi (amM 0 0 mtI (fun i => bsV T B t y i (T 1)) k).2, zi (0 + (k : Int)))) (fun u => ∃ sm1, u = (WC M' 0 B S (B (1281 + 2 * t)) (B (1282 + 2 * t)) sm1, zi (amM 0 0 mtI (fun i => bsV T B t y i (T 1)) 3).1, zi (amM 0 0 mtI (fun i => bsV T B t y i (T 1)) 3).2, zi (0 + 3))) 3 (fun k hk s hs => ?_) (fun s hs => ?_) n (by omega) _ ⟨sm, rfl⟩
  · obtain ⟨u, hu, sm1, rfl⟩ := key
    exact ⟨sm1, hu⟩
  · obtain ⟨sm1, rfl⟩ := hs
    obtain ⟨f, sm2, g3, g4⟩ := mq_bs (n := n) (S := S) (sm := sm1) hm0 (m := (k : Int)) (s := T 1) t0 t1 y0 y1 (by omega) (by omega) hS
    have g5 := back1_of (lim := T 2) hT (mq_h hm0) g4
    rw [i_bd] at g5
    have rT0 : ∀ sm, aI (WC M' 0 B S (B (1281 + 2 * t)) (B (1282 + 2 * t)) sm) 10 146 0 = some (zi (T 0)) := fun sm => m_T (mq_h hm0) (w := 0) (by omega) (by omega)
    have rT1 : ∀ sm, aI (WC M' 0 B S (B (1281 + 2 * t)) (B (1282 + 2 * t)) sm) 10 146 1 = some (zi (T 1)) := fun sm => m_T (mq_h hm0) (w := 1) (by omega) (by omega)
    have rT2 : ∀ sm, aI (WC M' 0 B S (B (1281 + 2 * t)) (B (1282 + 2 * t)) sm) 10 146 2 = some (zi (T 2)) := fun sm => m_T (mq_h hm0) (w := 2) (by omega) (by omega)
    have es : zi (0 + (k : Int)) = zi (k : Int) := congrArg zi (by omega)
    have vk := hv k hk
    refine ⟨_, ?_, sm2, rfl⟩
    dsimp only
    simp only [i_jp]
    rw [if_neg (by show ¬ (zi 3 ≤ zi _); rw [zi_le (by omega) (by omega) (by omega) (by omega)]; omega), m_told (mq_h hm0), i_sb, rT0, i_sb, i_sb, rT1, i_sb, m_chk (mq_h hm0), es, g3, i_bd, m_told (mq_h hm0), i_sb, rT2, i_sb, m_chk (mq_h hm0), g5, i_bd, show zi (k : Int) + 1 = zi (0 + ((k + 1 : Nat) : Int)) from (zi_add (k : Int) 1).trans (congrArg zi (by omega))]
    have ez : (zi (k : Int) = 0) = ((k : Int) = 0) := zi_eq (b := 0) (by omega) (by omega) (by omega) (by omega)
    simp only [ez]
    cases k with
    | zero =>
      rw [if_pos (by rfl), if_pos (by rfl)]
      show _ = some (Sum.inl (_, zi (amZ 0 mtI (fun i => bsV T B t y i (T 1)) 1).1, zi (amZ 0 mtI (fun i => bsV T B t y i (T 1)) 1).2, _))
      rw [amZ_1 vk.1]
      rfl
    | succ j =>
      have ha := amZ_r (b0 := 0) (bst := mtI) (val := fun i => bsV T B t y i (T 1)) (hi := 1200000000) (by omega) hv (j + 1) (by omega)
      have e2 : (zi (bsV T B t y ((j + 1 : Nat) : Int) (T 1)) ≤ zi (amZ 0 mtI (fun i => bsV T B t y i (T 1)) (j + 1)).2) = (bsV T B t y ((j + 1 : Nat) : Int) (T 1) ≤ (amZ 0 mtI (fun i => bsV T B t y i (T 1)) (j + 1)).2) := zi_le (by omega) (by omega) (by omega) (by omega)
      have nz : ¬ (((j + 1 : Nat) : Int) = 0) := by omega
      have em : zi ((j + 1 : Nat) : Int) = zi (mtI (j + 1)) := congrArg zi (by unfold mtI; omega)
      simp only [nz, if_false]
      show (if zi (bsV T B t y ((j + 1 : Nat) : Int) (T 1)) ≤ zi (amZ 0 mtI (fun i => bsV T B t y i (T 1)) (j + 1)).2 then _ else _) = some (Sum.inl (_, zi (if (amZ 0 mtI (fun i => bsV T B t y i (T 1)) (j + 1)).2 < bsV T B t y ((j + 1 : Nat) : Int) (T 1) then (mtI (j + 1), bsV T B t y ((j + 1 : Nat) : Int) (T 1)) else amZ 0 mtI (fun i => bsV T B t y i (T 1)) (j + 1)).1, zi (if (amZ 0 mtI (fun i => bsV T B t y i (T 1)) (j + 1)).2 < bsV T B t y ((j + 1 : Nat) : Int) (T 1) then (mtI (j + 1), bsV T B t y ((j + 1 : Nat) : Int) (T 1)) else amZ 0 mtI (fun i => bsV T B t y i (T 1)) (j + 1)).2, _))
      by_cases q : bsV T B t y ((j + 1 : Nat) : Int) (T 1) ≤ (amZ 0 mtI (fun i => bsV T B t y i (T 1)) (j + 1)).2
      · have q' : zi (bsV T B t y ((j + 1 : Nat) : Int) (T 1)) ≤ zi (amM 0 0 mtI (fun i => bsV T B t y i (T 1)) (j + 1)).2 := by
          show zi (bsV T B t y ((j + 1 : Nat) : Int) (T 1)) ≤ zi (amZ 0 mtI (fun i => bsV T B t y i (T 1)) (j + 1)).2
          rw [e2]; exact q
        rw [if_pos q', if_pos (show zi (bsV T B t y ((j + 1 : Nat) : Int) (T 1)) ≤ zi (amZ 0 mtI (fun i => bsV T B t y i (T 1)) (j + 1)).2 by rw [e2]; exact q), if_neg (show ¬ ((amZ 0 mtI (fun i => bsV T B t y i (T 1)) (j + 1)).2 < bsV T B t y ((j + 1 : Nat) : Int) (T 1)) by omega)]
        rfl
      · have q' : ¬ (zi (bsV T B t y ((j + 1 : Nat) : Int) (T 1)) ≤ zi (amM 0 0 mtI (fun i => bsV T B t y i (T 1)) (j + 1)).2) := by
          show ¬ (zi (bsV T B t y ((j + 1 : Nat) : Int) (T 1)) ≤ zi (amZ 0 mtI (fun i => bsV T B t y i (T 1)) (j + 1)).2)
          rw [e2]; exact q
        rw [if_neg q', if_neg (show ¬ (zi (bsV T B t y ((j + 1 : Nat) : Int) (T 1)) ≤ zi (amZ 0 mtI (fun i => bsV T B t y i (T 1)) (j + 1)).2) by rw [e2]; exact q), if_pos (show (amZ 0 mtI (fun i => bsV T B t y i (T 1)) (j + 1)).2 < bsV T B t y ((j + 1 : Nat) : Int) (T 1) by omega), em, if_neg q']
  · obtain ⟨sm1, rfl⟩ := hs
    refine ⟨_, ?_, sm1, rfl⟩
    dsimp only
    rw [if_pos (by show zi 3 ≤ zi _; rw [zi_le (by omega) (by omega) (by omega) (by omega)]; omega)]
    rfl
theorem Q_bestMethod (hx : XQr M c r R nt T tr sl bu as B U) (hm : MQr M' nt T tr sl bu as B U) (hn : 2000 < n) {t : Int} {y : Int} (t1 : -2147483648 ≤ t) (t2 : t ≤ 2147483647) (y1 : -2147483648 ≤ y) (y2 : y ≤ 2147483647) : QP (g_X9_bestMethod n (WX M c R F S) 0 (zi t) (zi y)) (g_X10_bestMethod n (WC M' 0 B S' ho ha sm) 139 (zi t) (zi y)) M (sI M' 139 2 0) c R B := by
  have hm0 := mq_thr0 (v := zi 0) hm
  have hnt := hm.2.1
  have h8 := mq_8 hm
  obtain ⟨n1, n2⟩ := mq_N hm
  have hy : 0 ≤ yearZ B ∧ yearZ B < 16 := by unfold yearZ; omega
  have hT := hm.2.2.1
  have htr := hm.2.2.2.1
  have hAN := AN2_r (mq_N hm) hm.2.2.2.2.2.1.2.2.2.2.2.2.1
  have t1r := hT.2.1
  have t2r := hT.2.2
  have hmz := mq_thr0 (v := (0 : Int32)) hm
  have gI' : g_X10_isIn n (WC (sI M' 139 2 0) 0 B S' ho ha sm) (zi y) 0 15 = _ := m_isIn2 (n := n) (x := y) (a := 0) (b := 15) (M := WC (sI M' 139 2 0) 0 B S' ho ha sm) y1 y2 (by omega) (by omega) (by omega) (by omega)
  by_cases c1 : 0 ≤ t ∧ t < nt
  · have z1 : bI2 (0 ≤ t ∧ t < nt) ≠ (0 : Int32) := fun q => ((bI_0 _).mp q) c1
    by_cases c2 : 0 ≤ y ∧ y ≤ 15
    · have z2 : bI2 (0 ≤ y ∧ y ≤ 15) ≠ (0 : Int32) := fun q => ((bI_0 _).mp q) c2
      by_cases c3 : y ≤ yearZ B
      · have z3 : bI2 (0 ≤ y ∧ y ≤ yearZ B) ≠ (0 : Int32) := fun q => ((bI_0 _).mp q) ⟨c2.1, c3⟩
        obtain ⟨F2, S2, g2, f2, s2⟩ := c_ofYear (n := n) (F := F) (S := S) (t := t) (y := y) (xq_C hx) (xq_U hx) hx.2.1.2.2.1.2.1 (xq_R hx) (mq_BS hm) (by omega) c1.1 c1.2 hnt.2 c2.1 (by omega)
        obtain ⟨S3, s3, gm⟩ := m_layYear (n := n) (B := B) (S := S') (ho := ho) (ha := ha) (sm := sm) (t := t) (y := y) (mq_h hmz) (by omega) (mq_BS hm) c1.1 (by omega) c2.1 (by omega)
        obtain ⟨F3, gx⟩ := xq_bm (n := n) (F := F2) (S := S2) hx hm hn c1.1 c1.2 c2.1 (show y < 16 by omega) s2 f2
        obtain ⟨sm3, gl⟩ := mq_bm (n := n) (S := S3) (sm := sm) hmz hn c1.1 c1.2 c2.1 (show y < 16 by omega) s3
        dsimp only at gx gl
        refine qp_mk (amZ 0 mtI (fun i => bsV T B t y i (T 1)) 3).1 (F1 := F3) (S1 := S2) (S2 := S3) (ho2 := B (1281 + 2 * t)) (ha2 := B (1282 + 2 * t)) (sm2 := sm3) ?_ ?_
        · unfold g_X9_bestMethod
          rw [xq_ko hx, xq_tr hx t1 t2, i_bd, if_neg z1, xq_yr y1 y2, i_bd, if_neg z2, xq_ko hx, xq_bg hx y1 y2, i_bd, if_neg z3, xq_o4 hx, i_sb, c_kC (xq_C hx), g2, i_bd]
          dsimp only
          rw [gx, i_sb]
        · unfold g_X10_bestMethod
          rw [m_thr0 (mq_h hm), i_sb, m_chk (mq_h hmz), mq_tr hmz t1 t2, i_bd, if_neg z1, gI', i_bd, if_neg z2, m_chk (mq_h hmz), mq_y hmz, i_bd, if_pos (by rw [zi_le (by omega) (by omega) (by omega) (by omega)]; exact c3), m_chk (mq_h hmz), gm, i_bd]
          dsimp only
          rw [gl, i_sb]
          rfl
      · have z3 : bI2 (0 ≤ y ∧ y ≤ yearZ B) = (0 : Int32) := (bI_0 _).mpr (fun q => c3 q.2)
        refine qp_mk (-2) (F1 := F) (S1 := S) (S2 := S') (ho2 := ho) (ha2 := ha) (sm2 := sm) ?_ ?_
        · unfold g_X9_bestMethod
          rw [xq_ko hx, xq_tr hx t1 t2, i_bd, if_neg z1, xq_yr y1 y2, i_bd, if_neg z2, xq_ko hx, xq_bg hx y1 y2, i_bd, if_pos z3]
          rfl
        · unfold g_X10_bestMethod
          rw [m_thr0 (mq_h hm), i_sb, m_chk (mq_h hmz), mq_tr hmz t1 t2, i_bd, if_neg z1, gI', i_bd, if_neg z2, m_chk (mq_h hmz), mq_y hmz, i_bd, if_neg (by rw [zi_le (by omega) (by omega) (by omega) (by omega)]; exact c3)]
          rfl
    · have z2 : bI2 (0 ≤ y ∧ y ≤ 15) = (0 : Int32) := (bI_0 _).mpr c2
      refine qp_mk (-1) (F1 := F) (S1 := S) (S2 := S') (ho2 := ho) (ha2 := ha) (sm2 := sm) ?_ ?_
      · unfold g_X9_bestMethod
        rw [xq_ko hx, xq_tr hx t1 t2, i_bd, if_neg z1, xq_yr y1 y2, i_bd, if_pos z2]
        rfl
      · unfold g_X10_bestMethod
        rw [m_thr0 (mq_h hm), i_sb, m_chk (mq_h hmz), mq_tr hmz t1 t2, i_bd, if_neg z1, gI', i_bd, if_pos z2]
        rfl
  · have hmz := mq_thr0 (v := (0 : Int32)) hm
    have e0 : bI2 (0 ≤ t ∧ t < nt) = (0 : Int32) := (bI_0 (0 ≤ t ∧ t < nt)).mpr c1
    refine qp_mk (-1) (F1 := F) (S1 := S) (S2 := S') (ho2 := ho) (ha2 := ha) (sm2 := sm) ?_ ?_
    · unfold g_X9_bestMethod
      rw [xq_ko hx, xq_tr hx t1 t2, i_bd, if_pos e0]
      rfl
    · unfold g_X10_bestMethod
      rw [m_thr0 (mq_h hm), i_sb, m_chk (mq_h hmz), mq_tr hmz t1 t2, i_bd, if_pos e0]
      rfl
theorem Q_bestStep (hx : XQr M c r R nt T tr sl bu as B U) (hm : MQr M' nt T tr sl bu as B U) (hn : 2000 < n) {t : Int} {y : Int} (t1 : -2147483648 ≤ t) (t2 : t ≤ 2147483647) (y1 : -2147483648 ≤ y) (y2 : y ≤ 2147483647) : QP (g_X9_bestStep n (WX M c R F S) 0 (zi t) (zi y)) (g_X10_bestStep n (WC M' 0 B S' ho ha sm) 139 (zi t) (zi y)) M (sI M' 139 2 0) c R B := by
  have hm0 := mq_thr0 (v := zi 0) hm
  have hnt := hm.2.1
  have h8 := mq_8 hm
  obtain ⟨n1, n2⟩ := mq_N hm
  have hy : 0 ≤ yearZ B ∧ yearZ B < 16 := by unfold yearZ; omega
  have hT := hm.2.2.1
  have htr := hm.2.2.2.1
  have hAN := AN2_r (mq_N hm) hm.2.2.2.2.2.1.2.2.2.2.2.2.1
  have t1r := hT.2.1
  have t2r := hT.2.2
  have hmz := mq_thr0 (v := (0 : Int32)) hm
  have gI' : g_X10_isIn n (WC (sI M' 139 2 0) 0 B S' ho ha sm) (zi y) 0 15 = _ := m_isIn2 (n := n) (x := y) (a := 0) (b := 15) (M := WC (sI M' 139 2 0) 0 B S' ho ha sm) y1 y2 (by omega) (by omega) (by omega) (by omega)
  by_cases c1 : 0 ≤ t ∧ t < nt
  · have z1 : bI2 (0 ≤ t ∧ t < nt) ≠ (0 : Int32) := fun q => ((bI_0 _).mp q) c1
    by_cases c2 : 0 ≤ y ∧ y ≤ 15
    · have z2 : bI2 (0 ≤ y ∧ y ≤ 15) ≠ (0 : Int32) := fun q => ((bI_0 _).mp q) c2
      by_cases c3 : y ≤ yearZ B
      · have z3 : bI2 (0 ≤ y ∧ y ≤ yearZ B) ≠ (0 : Int32) := fun q => ((bI_0 _).mp q) ⟨c2.1, c3⟩
        obtain ⟨F2, S2, g2, f2, s2⟩ := c_ofYear (n := n) (F := F) (S := S) (t := t) (y := y) (xq_C hx) (xq_U hx) hx.2.1.2.2.1.2.1 (xq_R hx) (mq_BS hm) (by omega) c1.1 c1.2 hnt.2 c2.1 (by omega)
        obtain ⟨S3, s3, gm⟩ := m_layYear (n := n) (B := B) (S := S') (ho := ho) (ha := ha) (sm := sm) (t := t) (y := y) (mq_h hmz) (by omega) (mq_BS hm) c1.1 (by omega) c2.1 (by omega)
        obtain ⟨F3, gx⟩ := xq_bst (n := n) (F := F2) (S := S2) hx hm hn c1.1 c1.2 c2.1 (show y < 16 by omega) s2 f2
        obtain ⟨sm3, gl⟩ := mq_bst (n := n) (S := S3) (sm := sm) hmz hn c1.1 c1.2 c2.1 (show y < 16 by omega) s3
        dsimp only at gx gl
        refine qp_mk (amZ 10 stI (fun i => bsV T B t y (tr (8 * t + 1)) (stI i)) 991).1 (F1 := F3) (S1 := S2) (S2 := S3) (ho2 := B (1281 + 2 * t)) (ha2 := B (1282 + 2 * t)) (sm2 := sm3) ?_ ?_
        · unfold g_X9_bestStep
          rw [xq_ko hx, xq_tr hx t1 t2, i_bd, if_neg z1, xq_yr y1 y2, i_bd, if_neg z2, xq_ko hx, xq_bg hx y1 y2, i_bd, if_neg z3, xq_o4 hx, i_sb, c_kC (xq_C hx), g2, i_bd]
          dsimp only
          rw [gx, i_sb]
        · unfold g_X10_bestStep
          rw [m_thr0 (mq_h hm), i_sb, m_chk (mq_h hmz), mq_tr hmz t1 t2, i_bd, if_neg z1, gI', i_bd, if_neg z2, m_chk (mq_h hmz), mq_y hmz, i_bd, if_pos (by rw [zi_le (by omega) (by omega) (by omega) (by omega)]; exact c3), m_chk (mq_h hmz), gm, i_bd]
          dsimp only
          rw [gl, i_sb]
          rfl
      · have z3 : bI2 (0 ≤ y ∧ y ≤ yearZ B) = (0 : Int32) := (bI_0 _).mpr (fun q => c3 q.2)
        refine qp_mk (-2) (F1 := F) (S1 := S) (S2 := S') (ho2 := ho) (ha2 := ha) (sm2 := sm) ?_ ?_
        · unfold g_X9_bestStep
          rw [xq_ko hx, xq_tr hx t1 t2, i_bd, if_neg z1, xq_yr y1 y2, i_bd, if_neg z2, xq_ko hx, xq_bg hx y1 y2, i_bd, if_pos z3]
          rfl
        · unfold g_X10_bestStep
          rw [m_thr0 (mq_h hm), i_sb, m_chk (mq_h hmz), mq_tr hmz t1 t2, i_bd, if_neg z1, gI', i_bd, if_neg z2, m_chk (mq_h hmz), mq_y hmz, i_bd, if_neg (by rw [zi_le (by omega) (by omega) (by omega) (by omega)]; exact c3)]
          rfl
    · have z2 : bI2 (0 ≤ y ∧ y ≤ 15) = (0 : Int32) := (bI_0 _).mpr c2
      refine qp_mk (-1) (F1 := F) (S1 := S) (S2 := S') (ho2 := ho) (ha2 := ha) (sm2 := sm) ?_ ?_
      · unfold g_X9_bestStep
        rw [xq_ko hx, xq_tr hx t1 t2, i_bd, if_neg z1, xq_yr y1 y2, i_bd, if_pos z2]
        rfl
      · unfold g_X10_bestStep
        rw [m_thr0 (mq_h hm), i_sb, m_chk (mq_h hmz), mq_tr hmz t1 t2, i_bd, if_neg z1, gI', i_bd, if_pos z2]
        rfl
  · have hmz := mq_thr0 (v := (0 : Int32)) hm
    have e0 : bI2 (0 ≤ t ∧ t < nt) = (0 : Int32) := (bI_0 (0 ≤ t ∧ t < nt)).mpr c1
    refine qp_mk (-1) (F1 := F) (S1 := S) (S2 := S') (ho2 := ho) (ha2 := ha) (sm2 := sm) ?_ ?_
    · unfold g_X9_bestStep
      rw [xq_ko hx, xq_tr hx t1 t2, i_bd, if_pos e0]
      rfl
    · unfold g_X10_bestStep
      rw [m_thr0 (mq_h hm), i_sb, m_chk (mq_h hmz), mq_tr hmz t1 t2, i_bd, if_pos e0]
      rfl
def rsZ (V : Nat → Int) : Nat → Int × Int
  | 0 => (0, 0)
  | k + 1 => (max (rsZ V k).1 (if k = 0 then 1 else if V (k - 1) < V k then (rsZ V k).2 + 1 else 1), if k = 0 then 1 else if V (k - 1) < V k then (rsZ V k).2 + 1 else 1)
theorem rsZ_r (V : Nat → Int) : ∀ k : Nat, 0 ≤ (rsZ V k).1 ∧ (rsZ V k).1 ≤ k ∧ 0 ≤ (rsZ V k).2 ∧ (rsZ V k).2 ≤ k ∧ (0 < k → 1 ≤ (rsZ V k).2)
  | 0 => ⟨Int.le_refl _, Int.le_refl _, Int.le_refl _, Int.le_refl _, fun h => absurd h (by omega)⟩
  | k + 1 => by
    have ih := rsZ_r V k
    have hr : 1 ≤ (if k = 0 then 1 else if V (k - 1) < V k then (rsZ V k).2 + 1 else 1) ∧ (if k = 0 then 1 else if V (k - 1) < V k then (rsZ V k).2 + 1 else 1) ≤ (k : Int) + 1 := by
      split
      · omega
      · split <;> omega
    show 0 ≤ max (rsZ V k).1 (if k = 0 then 1 else if V (k - 1) < V k then (rsZ V k).2 + 1 else 1) ∧ max (rsZ V k).1 (if k = 0 then 1 else if V (k - 1) < V k then (rsZ V k).2 + 1 else 1) ≤ ((k + 1 : Nat) : Int) ∧ 0 ≤ (if k = 0 then 1 else if V (k - 1) < V k then (rsZ V k).2 + 1 else 1) ∧ (if k = 0 then 1 else if V (k - 1) < V k then (rsZ V k).2 + 1 else 1) ≤ ((k + 1 : Nat) : Int) ∧ (_ → 1 ≤ (if k = 0 then 1 else if V (k - 1) < V k then (rsZ V k).2 + 1 else 1))
    generalize (if k = 0 then 1 else if V (k - 1) < V k then (rsZ V k).2 + 1 else 1) = r at hr
    omega
def rsV (B : Int → Int) (t : Int) (i : Nat) : Int := B (1545 + 64 * t + i)
def rsP (V : Nat → Int) : Nat → Int
  | 0 => -1
  | k + 1 => V k
theorem xq_rise (hx : XQr M c r R nt T tr sl bu as B U) (hm : MQr M' nt T tr sl bu as B U) (hn : 100 < n) {t : Int} (t0 : 0 ≤ t) (t1 : t < nt) : loopF (fun (s : MemT × Int32 × Int32 × Int32 × Int32) => (fun (M3 : MemT) (v4 : Int32) (v5 : Int32) (v6 : Int32) (v7 : Int32) => (gO M3 7 0 4).bind (fun j9 => (gO M3 2 j9 1).bind (fun j10 => (gI M3 1 j10 0).bind (fun v11 => (if v11 ≤ v7 then some (.inr (M3, v4, v5, v6, v7)) else (gO M3 7 0 4).bind (fun j12 => (gO M3 2 j12 1).bind (fun j13 => chk M3 1 j13 (bd (g_X2_recoveredIn n M3 j13 (zi t) v7) (fun r14 M15 => jp (fun (s : MemT × Int32) => (fun (M17 : MemT) (v18 : Int32) => some (.inl (M17, if v4 < v18 then v18 else v4, v18, r14, v7 + 1))) s.1 s.2) (fun K16 => (if r14 ≤ v6 then K16 (M15, 1) else K16 (M15, v5 + 1)))))))))))) s.1 s.2.1 s.2.2.1 s.2.2.2.1 s.2.2.2.2) n (WX M c R F S, 0, 0, (-1), 0) = some (WX M c R F S, zi (rsZ (rsV B t) (B 0).toNat).1, zi (rsZ (rsV B t) (B 0).toNat).2, zi (rsP (rsV B t) (B 0).toNat), zi (B 0)) := by
  have hnt := hm.2.1
  obtain ⟨n1, n2⟩ := mq_N hm
  have hk := hm.2.2.2.2.2.1.2.2.2.2.2.2.2.1
  have hUU := hm.2.2.2.2.2.2
  rw [show (WX M c R F S, (0 : Int32), (0 : Int32), (-1 : Int32), (0 : Int32)) = (fun i : Nat => (WX M c R F S, zi (rsZ (rsV B t) i).1, zi (rsZ (rsV B t) i).2, zi (rsP (rsV B t) i), zi (i : Int))) 0 from rfl]
  refine loop_k (fun i : Nat => (WX M c R F S, zi (rsZ (rsV B t) i).1, zi (rsZ (rsV B t) i).2, zi (rsP (rsV B t) i), zi (i : Int))) _ (B 0).toNat (fun i hi => ?_) ?_ n (by omega)
  · have gx : g_X2_recoveredIn n (WX M c R F S) (c + 10) (zi t) (zi (i : Int)) = some (zi (rsV B t i), WX M c R F S) := x_recoveredIn (n := n) (wx_B (F := F) (S := S) (xq_C hx)) (xq_R hx) t0 (by omega) (by omega) (by omega)
    have b1 := hk (1545 + 64 * t + i) (by omega) (by omega)
    have hr := rsZ_r (rsV B t) i
    have hp : -1 ≤ rsP (rsV B t) i ∧ rsP (rsV B t) i ≤ 300000000 := by
      cases i with
      | zero => exact ⟨Int.le_refl _, by show (-1 : Int) ≤ 300000000; omega⟩
      | succ j =>
        have := hk (1545 + 64 * t + j) (by omega) (by omega)
        show -1 ≤ B (1545 + 64 * t + j) ∧ B (1545 + 64 * t + j) ≤ 300000000
        omega
    have e1 : (zi (rsV B t i) ≤ zi (rsP (rsV B t) i)) = (rsV B t i ≤ rsP (rsV B t) i) := zi_le (by unfold rsV; omega) (by unfold rsV; omega) (by omega) (by omega)
    have hrun : (if rsV B t i ≤ rsP (rsV B t) i then 1 else (rsZ (rsV B t) i).2 + 1) = (if i = 0 then 1 else if rsV B t (i - 1) < rsV B t i then (rsZ (rsV B t) i).2 + 1 else 1) := by
      cases i with
      | zero =>
        rw [if_pos (rfl : (0 : Nat) = 0), if_neg (by show ¬ (rsV B t 0 ≤ -1); unfold rsV; omega)]
        rfl
      | succ j =>
        rw [if_neg (show ¬ (j + 1 = 0) by omega)]
        show (if rsV B t (j + 1) ≤ rsV B t j then _ else _) = (if rsV B t j < rsV B t (j + 1) then _ else _)
        by_cases q : rsV B t (j + 1) ≤ rsV B t j
        · rw [if_pos q, if_neg (by omega)]
        · rw [if_neg q, if_pos (by omega)]
    have emax : ∀ x : Int, 0 ≤ x → x ≤ 100 → (if zi (rsZ (rsV B t) i).1 < zi x then zi x else zi (rsZ (rsV B t) i).1) = zi (max (rsZ (rsV B t) i).1 x) := fun x x0 x1 => by
      have e : (zi (rsZ (rsV B t) i).1 < zi x) = ((rsZ (rsV B t) i).1 < x) := zi_lt (by omega) (by omega) (by omega) (by omega)
      simp only [e]
      by_cases q : (rsZ (rsV B t) i).1 < x
      · rw [if_pos q]; congr 1; omega
      · rw [if_neg q]; congr 1; omega
    dsimp only
    simp only [i_jp]
    rw [xq_o4 hx, i_sb, c_o1 (xq_C hx), i_sb, c_now (xq_C hx), i_sb, (xq_R hx).1.1, if_neg (by rw [zi_le (by omega) (by omega) (by omega) (by omega)]; omega), i_sb, c_o1 (xq_C hx), i_sb, c_kB (xq_C hx), gx, i_bd, show zi (i : Int) + 1 = zi ((i + 1 : Nat) : Int) from zi_add (i : Int) 1]
    simp only [e1]
    show _ = some (Sum.inl (WX M c R F S, zi (max (rsZ (rsV B t) i).1 (if i = 0 then 1 else if rsV B t (i - 1) < rsV B t i then (rsZ (rsV B t) i).2 + 1 else 1)), zi (if i = 0 then 1 else if rsV B t (i - 1) < rsV B t i then (rsZ (rsV B t) i).2 + 1 else 1), zi (rsV B t i), zi ((i + 1 : Nat) : Int)))
    rw [← hrun]
    by_cases q : rsV B t i ≤ rsP (rsV B t) i
    · rw [if_pos q, if_pos q]
      have := emax 1 (by omega) (by omega)
      show some (Sum.inl (_, (if zi (rsZ (rsV B t) i).1 < zi 1 then zi 1 else zi (rsZ (rsV B t) i).1), zi 1, _, _)) = _
      rw [this]
    · rw [if_neg q, if_neg q]
      have := emax ((rsZ (rsV B t) i).2 + 1) (by omega) (by omega)
      show some (Sum.inl (_, (if zi (rsZ (rsV B t) i).1 < zi (rsZ (rsV B t) i).2 + zi 1 then zi (rsZ (rsV B t) i).2 + zi 1 else zi (rsZ (rsV B t) i).1), zi (rsZ (rsV B t) i).2 + zi 1, _, _)) = _
      rw [zi_add, this]
  · dsimp only
    rw [xq_o4 hx, i_sb, c_o1 (xq_C hx), i_sb, c_now (xq_C hx), i_sb, (xq_R hx).1.1, Int.toNat_of_nonneg n1, if_pos (Int32.le_refl _)]
theorem mq_rise (hm0 : MQr M' nt T tr sl bu as B U) (hn : 100 < n) {t : Int} (t0 : 0 ≤ t) (t1 : t < nt) : loopF (fun (s : MemT × Int32 × Int32 × Int32) => (fun (M4 : MemT) (v5 : Int32) (v6 : Int32) (v7 : Int32) => chk M4 8 139 (bd (g_X10_of n M4 139 0) (fun r9 M10 => (if r9 ≤ v7 then some (.inr (M10, v5, v6, v7)) else jp (fun (s : MemT × Int32) => (fun (M12 : MemT) (v13 : Int32) => (if v13 ≤ v5 then some (.inl (M12, v5, v13, v7 + 1)) else some (.inl (M12, v13, v13, v7 + 1)))) s.1 s.2) (fun K11 => jp (fun (s : MemT) => (fun (M15 : MemT)  => K11 (M15, 1)) s) (fun K14 => (if v6 ≤ 0 then K14 M10 else chk M10 8 139 (bd (g_X10_of n M10 139 ((1545 + (64 * (zi t))) + v7)) (fun r16 M17 => chk M17 8 139 (bd (g_X10_of n M17 139 (((1545 + (64 * (zi t))) + v7) - 1)) (fun r18 M19 => (if r16 ≤ r18 then K14 M19 else K11 (M19, v6 + 1))))))))))))) s.1 s.2.1 s.2.2.1 s.2.2.2) n (WC M' 0 B S ho ha sm, 0, 0, 0) = some (WC M' 0 B S ho ha sm, zi (rsZ (rsV B t) (B 0).toNat).1, zi (rsZ (rsV B t) (B 0).toNat).2, zi (B 0)) := by
  have hnt := hm0.2.1
  obtain ⟨n1, n2⟩ := mq_N hm0
  have hk := hm0.2.2.2.2.2.1.2.2.2.2.2.2.2.1
  have hUU := hm0.2.2.2.2.2.2
  have g0 : g_X10_of n (WC M' 0 B S ho ha sm) 139 0 = some (zi (B 0), WC M' 0 B S ho ha sm) := m_of (mq_h hm0) (k := 0) (by omega) (by omega)
  rw [show (WC M' 0 B S ho ha sm, (0 : Int32), (0 : Int32), (0 : Int32)) = (fun i : Nat => (WC M' 0 B S ho ha sm, zi (rsZ (rsV B t) i).1, zi (rsZ (rsV B t) i).2, zi (i : Int))) 0 from rfl]
  refine loop_k (fun i : Nat => (WC M' 0 B S ho ha sm, zi (rsZ (rsV B t) i).1, zi (rsZ (rsV B t) i).2, zi (i : Int))) _ (B 0).toNat (fun i hi => ?_) ?_ n (by omega)
  · have b1 := hk (1545 + 64 * t + i) (by omega) (by omega)
    have hr := rsZ_r (rsV B t) i
    have ez : (zi (rsZ (rsV B t) i).2 ≤ 0) = (i = 0) := by
      have : (zi (rsZ (rsV B t) i).2 ≤ 0) = ((rsZ (rsV B t) i).2 ≤ 0) := zi_le (b := 0) (by omega) (by omega) (by omega) (by omega)
      rw [this]
      exact propext ⟨fun q => by omega, fun q => by subst q; exact Int.le_refl _⟩
    have emax : ∀ x : Int, 0 ≤ x → x ≤ 100 → (if zi x ≤ zi (rsZ (rsV B t) i).1 then (some (Sum.inl (WC M' 0 B S ho ha sm, zi (rsZ (rsV B t) i).1, zi x, zi ((i + 1 : Nat) : Int))) : Option ((MemT × Int32 × Int32 × Int32) ⊕ (MemT × Int32 × Int32 × Int32))) else some (Sum.inl (WC M' 0 B S ho ha sm, zi x, zi x, zi ((i + 1 : Nat) : Int)))) = some (Sum.inl (WC M' 0 B S ho ha sm, zi (max (rsZ (rsV B t) i).1 x), zi x, zi ((i + 1 : Nat) : Int))) := fun x x0 x1 => by
      have e : (zi x ≤ zi (rsZ (rsV B t) i).1) = (x ≤ (rsZ (rsV B t) i).1) := zi_le (by omega) (by omega) (by omega) (by omega)
      simp only [e]
      by_cases q : x ≤ (rsZ (rsV B t) i).1
      · rw [if_pos q, show max (rsZ (rsV B t) i).1 x = (rsZ (rsV B t) i).1 by omega]
      · rw [if_neg q, show max (rsZ (rsV B t) i).1 x = x by omega]
    have el : (1545 : Int32) + 64 * zi t + zi (i : Int) = zi (1545 + 64 * t + i) := by
      show zi 1545 + zi 64 * zi t + zi _ = _
      rw [zi_mul, zi_add, zi_add]
    have el1 : zi (1545 + 64 * t + (i : Int)) - 1 = zi (1545 + 64 * t + i - 1) := zi_sub _ 1
    dsimp only
    simp only [i_jp]
    rw [m_chk (mq_h hm0), g0, i_bd, if_neg (by rw [zi_le (by omega) (by omega) (by omega) (by omega)]; omega), show zi (i : Int) + 1 = zi ((i + 1 : Nat) : Int) from zi_add (i : Int) 1]
    simp only [ez]
    show _ = some (Sum.inl (WC M' 0 B S ho ha sm, zi (max (rsZ (rsV B t) i).1 (if i = 0 then 1 else if rsV B t (i - 1) < rsV B t i then (rsZ (rsV B t) i).2 + 1 else 1)), zi (if i = 0 then 1 else if rsV B t (i - 1) < rsV B t i then (rsZ (rsV B t) i).2 + 1 else 1), zi ((i + 1 : Nat) : Int)))
    by_cases c0 : i = 0
    · rw [if_pos c0, if_pos c0]
      exact emax 1 (by omega) (by omega)
    · have b2 := hk (1545 + 64 * t + i - 1) (by omega) (by omega)
      have e1 : (zi (B (1545 + 64 * t + i)) ≤ zi (B (1545 + 64 * t + i - 1))) = (B (1545 + 64 * t + i) ≤ B (1545 + 64 * t + i - 1)) := zi_le (by omega) (by omega) (by omega) (by omega)
      have ev : rsV B t (i - 1) = B (1545 + 64 * t + i - 1) := by
        unfold rsV
        congr 1; omega
      rw [if_neg c0, if_neg c0, m_chk (mq_h hm0), el, m_of (mq_h hm0) (by omega) (by omega), i_bd, m_chk (mq_h hm0), el1, m_of (mq_h hm0) (by omega) (by omega), i_bd, ev]
      simp only [e1]
      show (if B (1545 + 64 * t + i) ≤ B (1545 + 64 * t + i - 1) then _ else _) = some (Sum.inl (_, zi (max _ (if B (1545 + 64 * t + i - 1) < B (1545 + 64 * t + i) then _ else _)), zi (if B (1545 + 64 * t + i - 1) < B (1545 + 64 * t + i) then _ else _), _))
      by_cases q : B (1545 + 64 * t + i) ≤ B (1545 + 64 * t + i - 1)
      · rw [if_pos q, if_neg (show ¬ (B (1545 + 64 * t + i - 1) < B (1545 + 64 * t + i)) by omega)]
        exact emax 1 (by omega) (by omega)
      · rw [if_neg q, if_pos (show B (1545 + 64 * t + i - 1) < B (1545 + 64 * t + i) by omega), show zi (rsZ (rsV B t) i).2 + 1 = zi ((rsZ (rsV B t) i).2 + 1) from zi_add _ 1]
        exact emax _ (by omega) (by omega)
  · dsimp only
    rw [m_chk (mq_h hm0), g0, i_bd, Int.toNat_of_nonneg n1, if_pos (Int32.le_refl _)]
theorem Q_rise (hx : XQr M c r R nt T tr sl bu as B U) (hm : MQr M' nt T tr sl bu as B U) (hn : 100 < n) {t : Int} (t1 : -2147483648 ≤ t) (t2 : t ≤ 2147483647) : QP (g_X9_rise n (WX M c R F S) 0 (zi t)) (g_X10_rise n (WC M' 0 B S' ho ha sm) 139 (zi t)) M (sI M' 139 2 0) c R B := by
  have hm0 := mq_thr0 (v := zi 0) hm
  have hnt := hm.2.1
  have h8 := mq_8 hm
  obtain ⟨n1, n2⟩ := mq_N hm
  have hy : 0 ≤ yearZ B ∧ yearZ B < 16 := by unfold yearZ; omega
  have hT := hm.2.2.1
  have htr := hm.2.2.2.1
  have hAN := AN2_r (mq_N hm) hm.2.2.2.2.2.1.2.2.2.2.2.2.1
  have t1r := hT.2.1
  have t2r := hT.2.2
  have hmz := mq_thr0 (v := (0 : Int32)) hm
  by_cases c1 : 0 ≤ t ∧ t < nt
  · have z1 : bI2 (0 ≤ t ∧ t < nt) ≠ (0 : Int32) := fun q => ((bI_0 _).mp q) c1
    have gx := xq_rise (n := n) (F := F) (S := S) hx hm hn c1.1 c1.2
    have gm := mq_rise (n := n) (S := S') (ho := ho) (ha := ha) (sm := sm) hmz hn c1.1 c1.2
    dsimp only at gx gm
    refine qp_mk (rsZ (rsV B t) (B 0).toNat).1 (F1 := F) (S1 := S) (S2 := S') (ho2 := ho) (ha2 := ha) (sm2 := sm) ?_ ?_
    · unfold g_X9_rise
      rw [xq_ko hx, xq_tr hx t1 t2, i_bd, if_neg z1]
      dsimp only
      rw [gx, i_sb]
    · unfold g_X10_rise
      rw [m_thr0 (mq_h hm), i_sb, m_chk (mq_h hmz), mq_tr hmz t1 t2, i_bd, if_neg z1]
      dsimp only
      rw [gm, i_sb]
  · have hmz := mq_thr0 (v := (0 : Int32)) hm
    have e0 : bI2 (0 ≤ t ∧ t < nt) = (0 : Int32) := (bI_0 (0 ≤ t ∧ t < nt)).mpr c1
    refine qp_mk (-1) (F1 := F) (S1 := S) (S2 := S') (ho2 := ho) (ha2 := ha) (sm2 := sm) ?_ ?_
    · unfold g_X9_rise
      rw [xq_ko hx, xq_tr hx t1 t2, i_bd, if_pos e0]
      rfl
    · unfold g_X10_rise
      rw [m_thr0 (mq_h hm), i_sb, m_chk (mq_h hmz), mq_tr hmz t1 t2, i_bd, if_pos e0]
      rfl
end Q11
