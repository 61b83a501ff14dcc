/-! ===== PURE 49: bestMethod, bestStep ===== -/
def stI (i : Nat) : Int := 10 + i
def mtI (i : Nat) : Int := 0 + i
section Q10
variable {M M' : MemT} {c r : Nat} {R : Nat → Nat → Int32} {F : Nat → Int32} {S S' : Int → Int} {n : Nat} {T tr sl bu as B : Int → Int} {nt U ho ha : Int} {sm : Int32}
theorem xq_bm (hx : XQr M c r R nt T tr sl bu as B U) (hm : MQr M' nt T tr sl bu as B U) (hn : 2000 < n) {t y : Int} (t0 : 0 ≤ t) (t1 : t < nt) (y0 : 0 ≤ y) (y1 : y < 16) (hS : ∀ w : Int, 0 ≤ w → w < 5 → S w = ySum B t y w) (hF : FOk F (T 0) (tr (8 * t + 1)) (T 1) (T 2) (B (1281 + 2 * t)) (B (1282 + 2 * t))) : ∃ F1, loopF (fun (s : MemT × Int32 × Int32 × Int32) => (fun (M10 : MemT) (v11 : Int32) (v12 : Int32) (v13 : Int32) => (if 3 ≤ v13 then some (.inr (M10, v11, v12, v13)) else (pI M10 5 (c + 60) 4 v13).bind (fun M15 => chk M15 5 (c + 60) (bd (g_X6_fraction n M15 (c + 60)) (fun r16 M17 => chk M17 5 (c + 60) (bd (g_X6_backBy n M17 (c + 60) r16) (fun r18 M19 => (if r18 ≤ v12 then some (.inl (M19, v11, v12, v13 + 1)) else some (.inl (M19, v13, r18, v13 + 1)))))))))) s.1 s.2.1 s.2.2.1 s.2.2.2) n (WX M c R F S, 0, (-1), 0) = some (WX M c R F1 S, zi (amZ 0 mtI (fun i => bsV T B t y i (T 1)) 3).1, zi (amZ 0 mtI (fun i => bsV T B t y i (T 1)) 3).2, zi (0 + 3)) := by
  have hst : ∀ k : Nat, k < 991 → 0 < stI k ∧ stI k ≤ 1000 := fun k hk => by unfold stI; omega
  have hnt := hm.2.1
  have hT := hm.2.2.1
  have htr := hm.2.2.2.1
  have t1r := hT.2.1
  have hv := fun i (hi : i < 3) => bsV_r hm (m := ((i : Nat) : Int)) (s := (T 1)) t0 t1 y0 y1 (by first | omega | exact hst _ (by omega))
  have ht := htr t t0 (by omega)
  have key := loop_inv (step := fun (s : MemT × Int32 × Int32 × Int32) => (fun (M10 : MemT) (v11 : Int32) (v12 : Int32) (v13 : Int32) => (if 3 ≤ v13 then some (.inr (M10, v11, v12, v13)) else (pI M10 5 (c + 60) 4 v13).bind (fun M15 => chk M15 5 (c + 60) (bd (g_X6_fraction n M15 (c + 60)) (fun r16 M17 => chk M17 5 (c + 60) (bd (g_X6_backBy n M17 (c + 60) r16) (fun r18 M19 => (if r18 ≤ v12 then some (.inl (M19, v11, v12, v13 + 1)) else some (.inl (M19, v13, r18, v13 + 1)))))))))) s.1 s.2.1 s.2.2.1 s.2.2.2) (fun k s => ∃ F1, s = (WX M c R F1 S, zi (amZ 0 mtI (fun i => bsV T B t y i (T 1)) k).1, zi (amZ 0 mtI (fun i => bsV T B t y i (T 1)) k).2, zi (0 + (k : Int))) ∧ (F1 3 = zi (T 0) ∧ F1 5 = zi (T 1) ∧ F1 6 = zi (T 2) ∧ F1 1 = zi (B (1281 + 2 * t)) ∧ F1 2 = zi (B (1282 + 2 * t)))) (fun u => ∃ F1, u = (WX M c R F1 S, zi (amZ 0 mtI (fun i => bsV T B t y i (T 1)) 3).1, zi (amZ 0 mtI (fun i => bsV T B t y i (T 1)) 3).2, zi (0 + 3))) 3 (fun k hk s hs => ?_) (fun s hs => ?_) n (by omega) _ ⟨F, rfl, ⟨hF.1, hF.2.2.1, hF.2.2.2.1, hF.2.2.2.2.1, hF.2.2.2.2.2⟩⟩
  · obtain ⟨u, hu, F1, rfl⟩ := key
    exact ⟨F1, hu⟩
  · obtain ⟨F1, rfl, hF1⟩ := hs
    have hF2 : FOk (up1 F1 4 (zi (0 + (k : Int)))) (T 0) ((k : Nat) : Int) (T 1) (T 2) (B (1281 + 2 * t)) (B (1282 + 2 * t)) := ⟨(up1_ne (by omega)).trans hF1.1, up1_at.trans (congrArg zi (by omega)), (up1_ne (by omega)).trans hF1.2.1, (up1_ne (by omega)).trans hF1.2.2.1, (up1_ne (by omega)).trans hF1.2.2.2.1, (up1_ne (by omega)).trans hF1.2.2.2.2⟩
    obtain ⟨f, g3, g4⟩ := xq_bs (n := n) (F := up1 F1 4 (zi (0 + (k : Int)))) (S := S) hx hm t0 t1 y0 y1 (by omega) (by first | omega | exact hst _ (by omega)) hF2 hS
    have ha := amZ_r (b0 := 0) (bst := mtI) (val := (fun i => bsV T B t y i (T 1))) (by omega) hv k (by omega)
    refine ⟨_, ?_, up1 F1 4 (zi (0 + (k : Int))), rfl, ⟨(up1_ne (by omega)).trans hF1.1, (up1_ne (by omega)).trans hF1.2.1, (up1_ne (by omega)).trans hF1.2.2.1, (up1_ne (by omega)).trans hF1.2.2.2.1, (up1_ne (by omega)).trans hF1.2.2.2.2⟩⟩
    dsimp only
    rw [if_neg (by show ¬ (zi 3 ≤ zi _); rw [zi_le (by omega) (by omega) (by omega) (by omega)]; omega), c_pF (xq_C hx), i_sb, c_kF (xq_C hx), g3, i_bd, c_kF (xq_C hx), g4, i_bd, show zi (0 + (k : Int)) + 1 = zi (0 + ((k + 1 : Nat) : Int)) from (zi_add (0 + (k : Int)) 1).trans (congrArg zi (by omega))]
    exact am_x (bst := mtI) (val := (fun i => bsV T B t y i (T 1))) (by omega) (hv k hk) ha
  · obtain ⟨F1, rfl, hF1⟩ := hs
    refine ⟨_, ?_, F1, rfl⟩
    dsimp only
    rw [if_pos (by show zi 3 ≤ zi _; rw [zi_le (by omega) (by omega) (by omega) (by omega)]; omega)]
    rfl
theorem xq_bst (hx : XQr M c r R nt T tr sl bu as B U) (hm : MQr M' nt T tr sl bu as B U) (hn : 2000 < n) {t y : Int} (t0 : 0 ≤ t) (t1 : t < nt) (y0 : 0 ≤ y) (y1 : y < 16) (hS : ∀ w : Int, 0 ≤ w → w < 5 → S w = ySum B t y w) (hF : FOk F (T 0) (tr (8 * t + 1)) (T 1) (T 2) (B (1281 + 2 * t)) (B (1282 + 2 * t))) : ∃ F1, loopF (fun (s : MemT × Int32 × Int32 × Int32) => (fun (M10 : MemT) (v11 : Int32) (v12 : Int32) (v13 : Int32) => (if 1000 < v13 then some (.inr (M10, v11, v12, v13)) else (pI M10 5 (c + 60) 5 v13).bind (fun M15 => chk M15 5 (c + 60) (bd (g_X6_fraction n M15 (c + 60)) (fun r16 M17 => chk M17 5 (c + 60) (bd (g_X6_backBy n M17 (c + 60) r16) (fun r18 M19 => (if r18 ≤ v12 then some (.inl (M19, v11, v12, v13 + 1)) else some (.inl (M19, v13, r18, v13 + 1)))))))))) s.1 s.2.1 s.2.2.1 s.2.2.2) n (WX M c R F S, 10, (-1), 10) = some (WX M c R F1 S, zi (amZ 10 stI (fun i => bsV T B t y (tr (8 * t + 1)) (stI i)) 991).1, zi (amZ 10 stI (fun i => bsV T B t y (tr (8 * t + 1)) (stI i)) 991).2, zi (10 + 991)) := by
  have hst : ∀ k : Nat, k < 991 → 0 < stI k ∧ stI k ≤ 1000 := fun k hk => by unfold stI; omega
  have hnt := hm.2.1
  have hT := hm.2.2.1
  have htr := hm.2.2.2.1
  have t1r := hT.2.1
  have hv := fun i (hi : i < 991) => bsV_r hm (m := (tr (8 * t + 1))) (s := (stI i)) t0 t1 y0 y1 (by first | omega | exact hst _ (by omega))
  have ht := htr t t0 (by omega)
  have key := loop_inv (step := fun (s : MemT × Int32 × Int32 × Int32) => (fun (M10 : MemT) (v11 : Int32) (v12 : Int32) (v13 : Int32) => (if 1000 < v13 then some (.inr (M10, v11, v12, v13)) else (pI M10 5 (c + 60) 5 v13).bind (fun M15 => chk M15 5 (c + 60) (bd (g_X6_fraction n M15 (c + 60)) (fun r16 M17 => chk M17 5 (c + 60) (bd (g_X6_backBy n M17 (c + 60) r16) (fun r18 M19 => (if r18 ≤ v12 then some (.inl (M19, v11, v12, v13 + 1)) else some (.inl (M19, v13, r18, v13 + 1)))))))))) s.1 s.2.1 s.2.2.1 s.2.2.2) (fun k s => ∃ F1, s = (WX M c R F1 S, zi (amZ 10 stI (fun i => bsV T B t y (tr (8 * t + 1)) (stI i)) k).1, zi (amZ 10 stI (fun i => bsV T B t y (tr (8 * t + 1)) (stI i)) k).2, zi (10 + (k : Int))) ∧ (F1 3 = zi (T 0) ∧ F1 4 = zi (tr (8 * t + 1)) ∧ F1 6 = zi (T 2) ∧ F1 1 = zi (B (1281 + 2 * t)) ∧ F1 2 = zi (B (1282 + 2 * t)))) (fun u => ∃ F1, u = (WX M c R F1 S, zi (amZ 10 stI (fun i => bsV T B t y (tr (8 * t + 1)) (stI i)) 991).1, zi (amZ 10 stI (fun i => bsV T B t y (tr (8 * t + 1)) (stI i)) 991).2, zi (10 + 991))) 991 (fun k hk s hs => ?_) (fun s hs => ?_) n (by omega) _ ⟨F, rfl, ⟨hF.1, hF.2.1, hF.2.2.2.1, hF.2.2.2.2.1, hF.2.2.2.2.2⟩⟩
  · obtain ⟨u, hu, F1, rfl⟩ := key
    exact ⟨F1, hu⟩
  · obtain ⟨F1, rfl, hF1⟩ := hs
    have hF2 : FOk (up1 F1 5 (zi (10 + (k : Int)))) (T 0) (tr (8 * t + 1)) (stI k) (T 2) (B (1281 + 2 * t)) (B (1282 + 2 * t)) := ⟨(up1_ne (by omega)).trans hF1.1, (up1_ne (by omega)).trans hF1.2.1, up1_at, (up1_ne (by omega)).trans hF1.2.2.1, (up1_ne (by omega)).trans hF1.2.2.2.1, (up1_ne (by omega)).trans hF1.2.2.2.2⟩
    obtain ⟨f, g3, g4⟩ := xq_bs (n := n) (F := up1 F1 5 (zi (10 + (k : Int)))) (S := S) hx hm t0 t1 y0 y1 (by omega) (by first | omega | exact hst _ (by omega)) hF2 hS
    have ha := amZ_r (b0 := 10) (bst := stI) (val := (fun i => bsV T B t y (tr (8 * t + 1)) (stI i))) (by omega) hv k (by omega)
    refine ⟨_, ?_, up1 F1 5 (zi (10 + (k : Int))), rfl, ⟨(up1_ne (by omega)).trans hF1.1, (up1_ne (by omega)).trans hF1.2.1, (up1_ne (by omega)).trans hF1.2.2.1, (up1_ne (by omega)).trans hF1.2.2.2.1, (up1_ne (by omega)).trans hF1.2.2.2.2⟩⟩
    dsimp only
    rw [if_neg (by show ¬ (zi 1000 < zi _); rw [zi_lt (by omega) (by omega) (by omega) (by omega)]; omega), c_pF (xq_C hx), i_sb, c_kF (xq_C hx), g3, i_bd, c_kF (xq_C hx), g4, i_bd, show zi (10 + (k : Int)) + 1 = zi (10 + ((k + 1 : Nat) : Int)) from (zi_add (10 + (k : Int)) 1).trans (congrArg zi (by omega))]
    exact am_x (bst := stI) (val := (fun i => bsV T B t y (tr (8 * t + 1)) (stI i))) (by omega) (hv k hk) ha
  · obtain ⟨F1, rfl, hF1⟩ := hs
    refine ⟨_, ?_, F1, rfl⟩
    dsimp only
    rw [if_pos (by show zi 1000 < zi _; rw [zi_lt (by omega) (by omega) (by omega) (by omega)]; omega)]
    rfl
theorem mq_bst (hm0 : MQr M' nt T tr sl bu as B U) (hn : 2000 < n) {t y : Int} (t0 : 0 ≤ t) (t1 : t < nt) (y0 : 0 ≤ y) (y1 : y < 16) (hS : ∀ w : Int, 0 ≤ w → w < 5 → S w = ySum B t y w) : ∃ sm1, loopF (fun (s : MemT × Int32 × Int32 × Int32) => (fun (M10 : MemT) (v11 : Int32) (v12 : Int32) (v13 : Int32) => (if 1000 < v13 then some (.inr (M10, v11, v12, v13)) else chk M10 8 139 (bd (g_X10_told1 n M10 139 (zi t) 1) (fun r15 M16 => (gO M16 8 139 17).bind (fun j17 => (aI M16 10 j17 0).bind (fun v18 => chk M16 8 139 (bd (g_X10_fractionBy n M16 139 r15 v18 v13) (fun r19 M20 => (gO M20 8 139 17).bind (fun j21 => (aI M20 10 j21 0).bind (fun v22 => (gO M20 8 139 17).bind (fun j23 => (aI M20 10 j23 2).bind (fun v24 => chk M20 8 139 (bd (g_X10_backBy n M20 139 r19 v22 v13 v24) (fun r25 M26 => jp (fun (s : MemT) => (fun (M28 : MemT)  => some (.inl (M28, v13, r25, v13 + 1))) s) (fun K27 => (if v11 ≤ 0 then K27 M26 else (if v12 < r25 then K27 M26 else some (.inl (M26, v11, v12, v13 + 1))))))))))))))))))) s.1 s.2.1 s.2.2.1 s.2.2.2) n (WC M' 0 B S (B (1281 + 2 * t)) (B (1282 + 2 * t)) sm, 0, 0, 10) = some (WC M' 0 B S (B (1281 + 2 * t)) (B (1282 + 2 * t)) sm1, zi (amM 0 10 stI (fun i => bsV T B t y (tr (8 * t + 1)) (stI i)) 991).1, zi (amM 0 10 stI (fun i => bsV T B t y (tr (8 * t + 1)) (stI i)) 991).2, zi (10 + 991)) := by
  have hnt := hm0.2.1
  have hT := hm0.2.2.1
  have htr := hm0.2.2.2.1
  have hv := fun i (hi : i < 991) => bsV_r hm0 (m := tr (8 * t + 1)) (s := stI i) t0 t1 y0 y1 (by unfold stI; omega)
  have ht := htr t t0 (by omega)
  have key := loop_inv (step := fun (s : MemT × Int32 × Int32 × Int32) => (fun (M10 : MemT) (v11 : Int32) (v12 : Int32) (v13 : Int32) => (if 1000 < v13 then some (.inr (M10, v11, v12, v13)) else chk M10 8 139 (bd (g_X10_told1 n M10 139 (zi t) 1) (fun r15 M16 => (gO M16 8 139 17).bind (fun j17 => (aI M16 10 j17 0).bind (fun v18 => chk M16 8 139 (bd (g_X10_fractionBy n M16 139 r15 v18 v13) (fun r19 M20 => (gO M20 8 139 17).bind (fun j21 => (aI M20 10 j21 0).bind (fun v22 => (gO M20 8 139 17).bind (fun j23 => (aI M20 10 j23 2).bind (fun v24 => chk M20 8 139 (bd (g_X10_backBy n M20 139 r19 v22 v13 v24) (fun r25 M26 => jp (fun (s : MemT) => (fun (M28 : MemT)  => some (.inl (M28, v13, r25, v13 + 1))) s) (fun K27 => (if v11 ≤ 0 then K27 M26 else (if v12 < r25 then K27 M26 else some (.inl (M26, v11, v12, v13 + 1))))))))))))))))))) s.1 s.2.1 s.2.2.1 s.2.2.2) (fun k s => ∃ sm1, s = (WC M' 0 B S (B (1281 + 2 * t)) (B (1282 + 2 * t)) sm1, zi (amM 0 10 stI (fun i => bsV T B t y (tr (8 * t + 1)) (stI i)) k).1, zi (amM 0 10 stI (fun i => bsV T B t y (tr (8 * t + 1)) (stI i)) k).2, zi (10 + (k : Int)))) (fun u => ∃ sm1, u = (WC M' 0 B S (B (1281 + 2 * t)) (B (1282 + 2 * t)) sm1, zi (amM 0 10 stI (fun i => bsV T B t y (tr (8 * t + 1)) (stI i)) 991).1, zi (amM 0 10 stI (fun i => bsV T B t y (tr (8 * t + 1)) (stI i)) 991).2, zi (10 + 991))) 991 (fun k hk s hs => ?_) (fun s hs => ?_) n (by omega) _ ⟨sm, rfl⟩
  · obtain ⟨u, hu, sm1, rfl⟩ := key
    exact ⟨sm1, hu⟩
  · obtain ⟨sm1, rfl⟩ := hs
    obtain ⟨f, sm2, g3, g4⟩ := mq_bs (n := n) (S := S) (sm := sm1) hm0 (m := tr (8 * t + 1)) (s := stI k) t0 t1 y0 y1 ht.1 (by unfold stI; omega) hS
    have r1 : g_X10_told1 n (WC M' 0 B S (B (1281 + 2 * t)) (B (1282 + 2 * t)) sm1) 139 (zi t) 1 = some (zi (tr (8 * t + 1)), WC M' 0 B S (B (1281 + 2 * t)) (B (1282 + 2 * t)) sm1) := m_told1 (mq_h hm0) (w := 1) t0 (by omega) (by omega) (by omega)
    have rT0 : ∀ sm, aI (WC M' 0 B S (B (1281 + 2 * t)) (B (1282 + 2 * t)) sm) 10 146 0 = some (zi (T 0)) := fun sm => m_T (mq_h hm0) (w := 0) (by omega) (by omega)
    have rT2 : ∀ sm, aI (WC M' 0 B S (B (1281 + 2 * t)) (B (1282 + 2 * t)) sm) 10 146 2 = some (zi (T 2)) := fun sm => m_T (mq_h hm0) (w := 2) (by omega) (by omega)
    have es : zi (10 + (k : Int)) = zi (stI k) := rfl
    refine ⟨_, ?_, sm2, rfl⟩
    dsimp only
    simp only [i_jp]
    rw [if_neg (by show ¬ (zi 1000 < zi _); rw [zi_lt (by omega) (by omega) (by omega) (by omega)]; omega), m_chk (mq_h hm0), r1, i_bd, m_told (mq_h hm0), i_sb, rT0, i_sb, m_chk (mq_h hm0), es, g3, i_bd, m_told (mq_h hm0), i_sb, rT0, i_sb, i_sb, rT2, i_sb, m_chk (mq_h hm0), g4, i_bd, show zi (stI k) + 1 = zi (10 + ((k + 1 : Nat) : Int)) from (zi_add (10 + (k : Int)) 1).trans (congrArg zi (by omega))]
    exact am_m2 (X := MemT × Int32 × Int32 × Int32) (b0 := 10) (bst := stI) (val := fun i => bsV T B t y (tr (8 * t + 1)) (stI i)) (N := 991) (hi := 1200000000) (by omega) (fun i hi => by unfold stI; omega) hv hk
  · obtain ⟨sm1, rfl⟩ := hs
    refine ⟨_, ?_, sm1, rfl⟩
    dsimp only
    rw [if_pos (by show zi 1000 < zi _; rw [zi_lt (by omega) (by omega) (by omega) (by omega)]; omega)]
    rfl
end Q10
