/-! ===== PURE 48: the best of several, once more ===== -/
theorem amZ_b2 {b0 : Int} {bst val : Nat → Int} (h : 0 ≤ val 0) : ∀ k, (∀ i, i ≤ k → 0 ≤ bst i ∧ bst i ≤ 2000) → 0 ≤ (amZ b0 bst val (k + 1)).1 ∧ (amZ b0 bst val (k + 1)).1 ≤ 2000 ∧ ((∀ i, i ≤ k → 0 < bst i) → 0 < (amZ b0 bst val (k + 1)).1)
  | 0, hb => by rw [amZ_1 h]; exact ⟨(hb 0 (by omega)).1, (hb 0 (by omega)).2, fun z => z 0 (by omega)⟩
  | k + 1, hb => by
    have ih := amZ_b2 (b0 := b0) h k (fun i hi => hb i (by omega))
    show 0 ≤ (if (amZ b0 bst val (k + 1)).2 < val (k + 1) then (bst (k + 1), val (k + 1)) else amZ b0 bst val (k + 1)).1 ∧ (if (amZ b0 bst val (k + 1)).2 < val (k + 1) then (bst (k + 1), val (k + 1)) else amZ b0 bst val (k + 1)).1 ≤ 2000 ∧ (_ → 0 < (if (amZ b0 bst val (k + 1)).2 < val (k + 1) then (bst (k + 1), val (k + 1)) else amZ b0 bst val (k + 1)).1)
    split
    · exact ⟨(hb _ (by omega)).1, (hb _ (by omega)).2, fun z => z _ (by omega)⟩
    · exact ⟨ih.1, ih.2.1, fun z => ih.2.2 (fun i hi => z i (by omega))⟩
theorem am_m1 {X : Type} {bst val : Nat → Int} {k N : Nat} {W : MemT} {v : Int32} {hi : Int} (hh : 0 ≤ hi ∧ hi ≤ 2147483647) (hb : ∀ i, i < N → 0 ≤ bst i ∧ bst i ≤ 2000) (hv : ∀ i, i < N → 0 ≤ val i ∧ val i ≤ hi) (hk : k < N) : (if zi (amM (-2) (-2) bst val k).1 < 0 then (some (Sum.inl (W, zi (bst k), zi (val k), v)) : Option ((MemT × Int32 × Int32 × Int32) ⊕ X)) else (if zi (amM (-2) (-2) bst val k).2 < zi (val k) then some (Sum.inl (W, zi (bst k), zi (val k), v)) else some (Sum.inl (W, zi (amM (-2) (-2) bst val k).1, zi (amM (-2) (-2) bst val k).2, v)))) = some (Sum.inl (W, zi (amM (-2) (-2) bst val (k + 1)).1, zi (amM (-2) (-2) bst val (k + 1)).2, v)) := by
  have vk := hv k hk
  cases k with
  | zero =>
    rw [if_pos (show zi (amM (-2) (-2) bst val 0).1 < 0 from (show zi (-2) < (0 : Int32) by decide))]
    show _ = some (Sum.inl (W, zi (amZ (-2) bst val 1).1, zi (amZ (-2) bst val 1).2, v))
    rw [amZ_1 vk.1]
  | succ j =>
    have ha := amZ_r (b0 := -2) (bst := bst) hh.1 hv (j + 1) (by omega)
    have hb2 := amZ_b2 (b0 := -2) (bst := bst) (hv 0 (by omega)).1 j (fun i hi => hb i (by omega))
    have e1 : (zi (amZ (-2) bst val (j + 1)).1 < 0) = False := by
      show (zi _ < zi 0) = False
      rw [zi_lt (by omega) (by omega) (by omega) (by omega)]; exact eq_false (by omega)
    have e2 : (zi (amZ (-2) bst val (j + 1)).2 < zi (val (j + 1))) = ((amZ (-2) bst val (j + 1)).2 < val (j + 1)) := zi_lt (by omega) (by omega) (by omega) (by omega)
    show (if zi (amZ (-2) bst val (j + 1)).1 < 0 then _ else (if zi (amZ (-2) bst val (j + 1)).2 < zi (val (j + 1)) then _ else some (Sum.inl (W, zi (amZ (-2) bst val (j + 1)).1, zi (amZ (-2) bst val (j + 1)).2, v)))) = some (Sum.inl (W, zi (if (amZ (-2) bst val (j + 1)).2 < val (j + 1) then (bst (j + 1), val (j + 1)) else amZ (-2) bst val (j + 1)).1, zi (if (amZ (-2) bst val (j + 1)).2 < val (j + 1) then (bst (j + 1), val (j + 1)) else amZ (-2) bst val (j + 1)).2, v))
    simp only [e1, if_false, e2]
    by_cases q : (amZ (-2) bst val (j + 1)).2 < val (j + 1)
    · rw [if_pos q, if_pos q]
    · rw [if_neg q, if_neg q]
theorem am_m2 {X : Type} {b0 : Int} {bst val : Nat → Int} {k N : Nat} {W : MemT} {v : Int32} {hi : Int} (hh : 0 ≤ hi ∧ hi ≤ 2147483647) (hb : ∀ i, i < N → 1 ≤ bst i ∧ bst i ≤ 2000) (hv : ∀ i, i < N → 0 ≤ val i ∧ val i ≤ hi) (hk : k < N) : (if zi (amM 0 b0 bst val k).1 ≤ 0 then (some (Sum.inl (W, zi (bst k), zi (val k), v)) : Option ((MemT × Int32 × Int32 × Int32) ⊕ X)) else (if zi (amM 0 b0 bst val k).2 < zi (val k) then some (Sum.inl (W, zi (bst k), zi (val k), v)) else some (Sum.inl (W, zi (amM 0 b0 bst val k).1, zi (amM 0 b0 bst val k).2, v)))) = some (Sum.inl (W, zi (amM 0 b0 bst val (k + 1)).1, zi (amM 0 b0 bst val (k + 1)).2, v)) := by
  have vk := hv k hk
  cases k with
  | zero =>
    rw [if_pos (show zi (amM 0 b0 bst val 0).1 ≤ 0 from (show zi 0 ≤ (0 : Int32) by decide))]
    show _ = some (Sum.inl (W, zi (amZ b0 bst val 1).1, zi (amZ b0 bst val 1).2, v))
    rw [amZ_1 vk.1]
  | succ j =>
    have ha := amZ_r (b0 := b0) (bst := bst) hh.1 hv (j + 1) (by omega)
    have hb2 := amZ_b2 (b0 := b0) (bst := bst) (hv 0 (by omega)).1 j (fun i hi => by have := hb i (by omega); omega)
    have hb3 := hb2.2.2 (fun i hi => by have := hb i (by omega); omega)
    have e1 : (zi (amZ b0 bst val (j + 1)).1 ≤ 0) = False := by
      show (zi _ ≤ zi 0) = False
      rw [zi_le (by omega) (by omega) (by omega) (by omega)]; exact eq_false (by omega)
    have e2 : (zi (amZ b0 bst val (j + 1)).2 < zi (val (j + 1))) = ((amZ b0 bst val (j + 1)).2 < val (j + 1)) := zi_lt (by omega) (by omega) (by omega) (by omega)
    show (if zi (amZ b0 bst val (j + 1)).1 ≤ 0 then _ else (if zi (amZ b0 bst val (j + 1)).2 < zi (val (j + 1)) then _ else some (Sum.inl (W, zi (amZ b0 bst val (j + 1)).1, zi (amZ b0 bst val (j + 1)).2, v)))) = some (Sum.inl (W, zi (if (amZ b0 bst val (j + 1)).2 < val (j + 1) then (bst (j + 1), val (j + 1)) else amZ b0 bst val (j + 1)).1, zi (if (amZ b0 bst val (j + 1)).2 < val (j + 1) then (bst (j + 1), val (j + 1)) else amZ b0 bst val (j + 1)).2, v))
    simp only [e1, if_false, e2]
    by_cases q : (amZ b0 bst val (j + 1)).2 < val (j + 1)
    · rw [if_pos q, if_pos q]
    · rw [if_neg q, if_neg q]
section Q9
variable {M M' : MemT} {c r : Nat} {R : Nat → Nat → Int32} {F : Nat → Int32} {S S' : Int → Int} {n : Nat} {T tr sl bu as B : Int → Int} {nt U ho ha : Int} {sm : Int32}
def faV (T tr B : Int → Int) (t : Int) (i : Nat) : Int := if 0 ≤ backZ (T 0) (T 1) (T 2) (ySum B t i) (annZ T tr B t i) - bkIn B t i then backZ (T 0) (T 1) (T 2) (ySum B t i) (annZ T tr B t i) - bkIn B t i else -(backZ (T 0) (T 1) (T 2) (ySum B t i) (annZ T tr B t i) - bkIn B t i)
theorem trd_r (hm : MQr M' nt T tr sl bu as B U) {t : Int} (t0 : 0 ≤ t) (t1 : t < nt) : ∀ i : Nat, i < 16 → -1200000000 ≤ backZ (T 0) (T 1) (T 2) (ySum B t i) (annZ T tr B t i) - bkIn B t i ∧ backZ (T 0) (T 1) (T 2) (ySum B t i) (annZ T tr B t i) - bkIn B t i ≤ 1200000000 := fun i hi => by
  obtain ⟨hO, hnt, hT, htr, hRows, hBI, hU⟩ := id hm
  have hr := annZ_r (tr := tr) (t := t) (y := (i : Int)) hT hBI.1 hBI.2.1 (AN2_r hBI.2.1 hBI.2.2.2.2.2.2.1) t0 (by omega) (by omega) (by omega)
  have hb := back_hi (l := T 2) hBI.2.2.1 hU hBI.1 (t := t) (y := (i : Int)) t0 (by omega) (by omega) (by omega) hT.1 (by have := hT.2.1; omega) hr
  have hk := hBI.2.2.2.2.2.2.2.1
  have k0 := hk (1545 + 64 * t + (4 * i + 0)) (by omega) (by omega)
  have k1 := hk (1545 + 64 * t + (4 * i + 1)) (by omega) (by omega)
  have k2 := hk (1545 + 64 * t + (4 * i + 2)) (by omega) (by omega)
  have k3 := hk (1545 + 64 * t + (4 * i + 3)) (by omega) (by omega)
  unfold bkIn
  omega
theorem faV_r (hm : MQr M' nt T tr sl bu as B U) {t : Int} (t0 : 0 ≤ t) (t1 : t < nt) : ∀ i : Nat, i < 16 → 0 ≤ faV T tr B t i ∧ faV T tr B t i ≤ 1200000000 := fun i hi => by
  have := trd_r hm t0 t1 i hi
  unfold faV
  split <;> omega
theorem xq_far (hx : XQr M c r R nt T tr sl bu as B U) (hm : MQr M' nt T tr sl bu as B U) (hn : 20 < n) {t : Int} (t0 : 0 ≤ t) (t1 : t < nt) : ∃ F1 S1, loopF (fun (s : MemT × Int32 × Int32 × Int32) => (fun (M3 : MemT) (v4 : Int32) (v5 : Int32) (v6 : Int32) => (gO M3 7 0 4).bind (fun j8 => chk M3 2 j8 (bd (g_X3_thisYear n M3 j8) (fun r9 M10 => (if r9 ≤ v6 then some (.inr (M10, v4, v5, v6)) else (gO M10 7 0 4).bind (fun j11 => chk M10 2 j11 (bd (g_X3_trued n M10 j11 (zi t) v6) (fun r12 M13 => (if (if 0 ≤ r12 then r12 else 0 - r12) ≤ v5 then some (.inl (M13, v4, v5, v6 + 1)) else some (.inl (M13, v6, if 0 ≤ r12 then r12 else 0 - r12, v6 + 1))))))))))) s.1 s.2.1 s.2.2.1 s.2.2.2) n (WX M c R F S, (-2), (-1), 0) = some (WX M c R F1 S1, zi (amZ (-2) idI (faV T tr B t) (yearZ B).toNat).1, zi (amZ (-2) idI (faV T tr B t) (yearZ B).toNat).2, zi (yearZ B)) := by
  obtain ⟨n1, n2⟩ := mq_N hm
  have hy : 0 ≤ yearZ B ∧ yearZ B < 16 := by unfold yearZ; omega
  have hv := fun i (hi : i < (yearZ B).toNat) => faV_r hm t0 t1 i (by omega)
  have key := loop_inv (step := fun (s : MemT × Int32 × Int32 × Int32) => (fun (M3 : MemT) (v4 : Int32) (v5 : Int32) (v6 : Int32) => (gO M3 7 0 4).bind (fun j8 => chk M3 2 j8 (bd (g_X3_thisYear n M3 j8) (fun r9 M10 => (if r9 ≤ v6 then some (.inr (M10, v4, v5, v6)) else (gO M10 7 0 4).bind (fun j11 => chk M10 2 j11 (bd (g_X3_trued n M10 j11 (zi t) v6) (fun r12 M13 => (if (if 0 ≤ r12 then r12 else 0 - r12) ≤ v5 then some (.inl (M13, v4, v5, v6 + 1)) else some (.inl (M13, v6, if 0 ≤ r12 then r12 else 0 - r12, v6 + 1))))))))))) s.1 s.2.1 s.2.2.1 s.2.2.2) (fun k s => ∃ F1 S1, s = (WX M c R F1 S1, zi (amZ (-2) idI (faV T tr B t) k).1, zi (amZ (-2) idI (faV T tr B t) k).2, zi (k : Int))) (fun u => ∃ F1 S1, u = (WX M c R F1 S1, zi (amZ (-2) idI (faV T tr B t) (yearZ B).toNat).1, zi (amZ (-2) idI (faV T tr B t) (yearZ B).toNat).2, zi (yearZ B))) (yearZ B).toNat (fun k hk s hs => ?_) (fun s hs => ?_) n (by omega) _ ⟨F, S, rfl⟩
  · obtain ⟨u, hu, F1, S1, rfl⟩ := key
    exact ⟨F1, S1, hu⟩
  · obtain ⟨F1, S1, rfl⟩ := hs
    obtain ⟨F2, S2, g⟩ := c_trued (n := n) (F := F1) (S := S1) (t := t) (y := (k : Int)) hx.2.1 (by omega) t0 t1 (by omega) (by omega)
    have ha := amZ_r (b0 := -2) (bst := idI) (by omega) hv k (by omega)
    have hd := trd_r hm t0 t1 k (by omega)
    have gy := fun F S => c_thisYear (n := n) (F := F) (S := S) (xq_C hx) (xq_R hx) (mq_N hm)
    have e0 : ∀ x : Int, -1200000000 ≤ x ∧ x ≤ 1200000000 → (if (0 : Int32) ≤ zi x then zi x else 0 - zi x) = zi (if 0 ≤ x then x else -x) := fun x hx' => by
      by_cases q : 0 ≤ x
      · rw [if_pos (by show zi 0 ≤ zi x; rw [zi_le (by omega) (by omega) (by omega) (by omega)]; exact q), if_pos q]
      · rw [if_neg (by show ¬ (zi 0 ≤ zi x); rw [zi_le (by omega) (by omega) (by omega) (by omega)]; exact q), if_neg q]
        show zi 0 - zi x = _
        rw [zi_sub]; congr 1; omega
    refine ⟨_, ?_, F2, S2, rfl⟩
    dsimp only
    rw [xq_o4 hx, i_sb, c_kC (xq_C hx), gy, i_bd, if_neg (by rw [zi_le (by omega) (by omega) (by omega) (by omega)]; omega), xq_o4 hx, i_sb, c_kC (xq_C hx), g, i_bd, e0 _ hd, show zi (k : Int) + 1 = zi ((k + 1 : Nat) : Int) from zi_add (k : Int) 1]
    exact am_x (bst := idI) (val := faV T tr B t) (by omega) (hv k hk) ha
  · obtain ⟨F1, S1, rfl⟩ := hs
    have gy := fun F S => c_thisYear (n := n) (F := F) (S := S) (xq_C hx) (xq_R hx) (mq_N hm)
    refine ⟨_, ?_, F1, S1, rfl⟩
    dsimp only
    rw [xq_o4 hx, i_sb, c_kC (xq_C hx), gy, i_bd, Int.toNat_of_nonneg hy.1, if_pos (Int32.le_refl _)]
theorem mq_far (hm0 : MQr M' nt T tr sl bu as B U) (hn : 20 < n) {t : Int} (t0 : 0 ≤ t) (t1 : t < nt) : ∃ S1 ho1 ha1 sm1, loopF (fun (s : MemT × Int32 × Int32 × Int32) => (fun (M4 : MemT) (v5 : Int32) (v6 : Int32) (v7 : Int32) => chk M4 8 139 (bd (g_X10_year n M4 139) (fun r9 M10 => (if r9 ≤ v7 then some (.inr (M10, v5, v6, v7)) else chk M10 8 139 (bd (g_X10_backOf n M10 139 (zi t) v7) (fun r11 M12 => chk M12 8 139 (bd (g_X10_bookedIn n M12 139 (zi t) v7) (fun r13 M14 => jp (fun (s : MemT × Int32) => (fun (M16 : MemT) (v17 : Int32) => jp (fun (s : MemT) => (fun (M19 : MemT)  => some (.inl (M19, v7, v17, v7 + 1))) s) (fun K18 => (if v5 < 0 then K18 M16 else (if v6 < v17 then K18 M16 else some (.inl (M16, v5, v6, v7 + 1)))))) s.1 s.2) (fun K15 => (if 0 ≤ (r11 - r13) then K15 (M14, r11 - r13) else K15 (M14, -(r11 - r13)))))))))))) s.1 s.2.1 s.2.2.1 s.2.2.2) n (WC M' 0 B S ho ha sm, (-2), 0, 0) = some (WC M' 0 B S1 ho1 ha1 sm1, zi (amM (-2) (-2) idI (faV T tr B t) (yearZ B).toNat).1, zi (amM (-2) (-2) idI (faV T tr B t) (yearZ B).toNat).2, zi (yearZ B)) := by
  have hnt := hm0.2.1
  obtain ⟨n1, n2⟩ := mq_N hm0
  have hy : 0 ≤ yearZ B ∧ yearZ B < 16 := by unfold yearZ; omega
  have hv := fun i (hi : i < (yearZ B).toNat) => faV_r hm0 t0 t1 i (by omega)
  have key := loop_inv (step := fun (s : MemT × Int32 × Int32 × Int32) => (fun (M4 : MemT) (v5 : Int32) (v6 : Int32) (v7 : Int32) => chk M4 8 139 (bd (g_X10_year n M4 139) (fun r9 M10 => (if r9 ≤ v7 then some (.inr (M10, v5, v6, v7)) else chk M10 8 139 (bd (g_X10_backOf n M10 139 (zi t) v7) (fun r11 M12 => chk M12 8 139 (bd (g_X10_bookedIn n M12 139 (zi t) v7) (fun r13 M14 => jp (fun (s : MemT × Int32) => (fun (M16 : MemT) (v17 : Int32) => jp (fun (s : MemT) => (fun (M19 : MemT)  => some (.inl (M19, v7, v17, v7 + 1))) s) (fun K18 => (if v5 < 0 then K18 M16 else (if v6 < v17 then K18 M16 else some (.inl (M16, v5, v6, v7 + 1)))))) s.1 s.2) (fun K15 => (if 0 ≤ (r11 - r13) then K15 (M14, r11 - r13) else K15 (M14, -(r11 - r13)))))))))))) s.1 s.2.1 s.2.2.1 s.2.2.2) (fun k s => ∃ S1 ho1 ha1 sm1, s = (WC M' 0 B S1 ho1 ha1 sm1, zi (amM (-2) (-2) idI (faV T tr B t) k).1, zi (amM (-2) (-2) idI (faV T tr B t) k).2, zi (k : Int))) (fun u => ∃ S1 ho1 ha1 sm1, u = (WC M' 0 B S1 ho1 ha1 sm1, zi (amM (-2) (-2) idI (faV T tr B t) (yearZ B).toNat).1, zi (amM (-2) (-2) idI (faV T tr B t) (yearZ B).toNat).2, zi (yearZ B))) (yearZ B).toNat (fun k hk s hs => ?_) (fun s hs => ?_) n (by omega) _ ⟨S, ho, ha, sm, rfl⟩
  · obtain ⟨u, hu, S1, ho1, ha1, sm1, rfl⟩ := key
    exact ⟨S1, ho1, ha1, sm1, hu⟩
  · obtain ⟨S1, ho1, ha1, sm1, rfl⟩ := hs
    obtain ⟨S2, -, g⟩ := mq_backOf (n := n) (S := S1) (ho := ho1) (ha := ha1) (sm := sm1) (t := t) (y := (k : Int)) hm0 (by omega) t0 t1 (by omega) (by omega)
    have gb := fun S ho ha sm => m_bookedIn (n := n) (B := B) (S := S) (ho := ho) (ha := ha) (sm := sm) (t := t) (y := (k : Int)) (mq_h hm0) (by omega) t0 (by omega) (by omega) (by omega)
    have hd := trd_r hm0 t0 t1 k (by omega)
    refine ⟨_, ?_, S2, B (1281 + 2 * t), B (1282 + 2 * t), smallI (T 0) (T 1) (T 2) (ySum B t k) (annZ T tr B t k), rfl⟩
    have eV : (if 0 ≤ backZ (T 0) (T 1) (T 2) (ySum B t k) (annZ T tr B t k) - bkIn B t k then backZ (T 0) (T 1) (T 2) (ySum B t k) (annZ T tr B t k) - bkIn B t k else -(backZ (T 0) (T 1) (T 2) (ySum B t k) (annZ T tr B t k) - bkIn B t k)) = faV T tr B t k := rfl
    dsimp only
    simp only [i_jp]
    rw [m_chk (mq_h hm0), mq_y hm0, i_bd, if_neg (by rw [zi_le (by omega) (by omega) (by omega) (by omega)]; omega), m_chk (mq_h hm0), g, i_bd, m_chk (mq_h hm0), gb, i_bd, zi_sub, show zi (k : Int) + 1 = zi ((k + 1 : Nat) : Int) from zi_add (k : Int) 1]
    have fin := am_m1 (X := MemT × Int32 × Int32 × Int32) (bst := idI) (val := faV T tr B t) (W := WC M' 0 B S2 (B (1281 + 2 * t)) (B (1282 + 2 * t)) (smallI (T 0) (T 1) (T 2) (ySum B t k) (annZ T tr B t k))) (v := zi ((k + 1 : Nat) : Int)) (k := k) (N := (yearZ B).toNat) (hi := 1200000000) (by omega)
    by_cases q : 0 ≤ backZ (T 0) (T 1) (T 2) (ySum B t k) (annZ T tr B t k) - bkIn B t k
    · rw [if_pos (by show zi 0 ≤ zi _; rw [zi_le (by omega) (by omega) (by omega) (by omega)]; exact q)]
      rw [if_pos q] at eV
      rw [eV]
      exact fin (fun i hi => by unfold idI; omega) hv hk
    · rw [if_neg (by show ¬ (zi 0 ≤ zi _); rw [zi_le (by omega) (by omega) (by omega) (by omega)]; exact q), zi_neg]
      rw [if_neg q] at eV
      rw [eV]
      exact fin (fun i hi => by unfold idI; omega) hv hk
  · obtain ⟨S1, ho1, ha1, sm1, rfl⟩ := hs
    refine ⟨_, ?_, S1, ho1, ha1, sm1, rfl⟩
    dsimp only
    rw [m_chk (mq_h hm0), mq_y hm0, i_bd, Int.toNat_of_nonneg hy.1, if_pos (Int32.le_refl _)]
theorem Q_farthest (hx : XQr M c r R nt T tr sl bu as B U) (hm : MQr M' nt T tr sl bu as B U) (hn : 20 < n) {t : Int} (t1 : -2147483648 ≤ t) (t2 : t ≤ 2147483647) : QP (g_X9_farthest n (WX M c R F S) 0 (zi t)) (g_X10_farthest n (WC M' 0 B S' ho ha sm) 139 (zi t)) M (sI M' 139 2 0) c R B := by
  have hm0 := mq_thr0 (v := zi 0) hm
  have hnt := hm.2.1
  have h8 := mq_8 hm
  obtain ⟨n1, n2⟩ := mq_N hm
  have hy : 0 ≤ yearZ B ∧ yearZ B < 16 := by unfold yearZ; omega
  have hT := hm.2.2.1
  have htr := hm.2.2.2.1
  have hAN := AN2_r (mq_N hm) hm.2.2.2.2.2.1.2.2.2.2.2.2.1
  have t1r := hT.2.1
  have t2r := hT.2.2
  have hmz := mq_thr0 (v := (0 : Int32)) hm
  by_cases c1 : 0 ≤ t ∧ t < nt
  · have z1 : bI2 (0 ≤ t ∧ t < nt) ≠ (0 : Int32) := fun q => ((bI_0 _).mp q) c1
    obtain ⟨F1, S1, gx⟩ := xq_far (n := n) (F := F) (S := S) hx hm hn c1.1 c1.2
    obtain ⟨S2, ho2, ha2, sm2, gm⟩ := mq_far (n := n) (S := S') (ho := ho) (ha := ha) (sm := sm) hmz hn c1.1 c1.2
    rw [amM_1] at gm
    dsimp only at gx gm
    refine qp_mk (amZ (-2) idI (faV T tr B t) (yearZ B).toNat).1 (F1 := F1) (S1 := S1) (S2 := S2) (ho2 := ho2) (ha2 := ha2) (sm2 := sm2) ?_ ?_
    · unfold g_X9_farthest
      rw [xq_ko hx, xq_tr hx t1 t2, i_bd, if_neg z1]
      dsimp only
      rw [gx, i_sb]
    · unfold g_X10_farthest
      rw [m_thr0 (mq_h hm), i_sb, m_chk (mq_h hmz), mq_tr hmz t1 t2, i_bd, if_neg z1]
      dsimp only
      rw [gm, i_sb]
  · have hmz := mq_thr0 (v := (0 : Int32)) hm
    have e0 : bI2 (0 ≤ t ∧ t < nt) = (0 : Int32) := (bI_0 (0 ≤ t ∧ t < nt)).mpr c1
    refine qp_mk (-1) (F1 := F) (S1 := S) (S2 := S') (ho2 := ho) (ha2 := ha) (sm2 := sm) ?_ ?_
    · unfold g_X9_farthest
      rw [xq_ko hx, xq_tr hx t1 t2, i_bd, if_pos e0]
      rfl
    · unfold g_X10_farthest
      rw [m_thr0 (mq_h hm), i_sb, m_chk (mq_h hmz), mq_tr hmz t1 t2, i_bd, if_pos e0]
      rfl
theorem own_congr {S S1 : Int → Int} {m ho ha : Int} (h : ∀ w : Int, 0 ≤ w → w < 5 → S1 w = S w) : ownZ m S1 ho = ownZ m S ho ∧ allZ m S1 ha = allZ m S ha := by
  unfold ownZ allZ
  rw [h 0 (by omega) (by omega), h 1 (by omega) (by omega), h 2 (by omega) (by omega), h 3 (by omega) (by omega)]
  exact ⟨rfl, rfl⟩
theorem frac_r {S : Int → Int} {w s m ho ha : Int} (hS : sumsOk S) (hw : 0 ≤ w ∧ w ≤ 2) (hs : 0 < s) (h0 : 0 ≤ ho) (h1 : ho ≤ ha) : 0 ≤ fracZ w s (ownZ m S ho) (allZ m S ha) ∧ fracZ w s (ownZ m S ho) (allZ m S ha) ≤ s := by
  have s0 := hS 0 (by omega) (by omega)
  have s1 := hS 1 (by omega) (by omega)
  have s2 := hS 2 (by omega) (by omega)
  have s3 := hS 3 (by omega) (by omega)
  refine fracZ_rng hs ?_ ?_ hw
  · unfold ownZ; split <;> (try split) <;> omega
  · unfold ownZ allZ; split <;> (try split) <;> omega
/-- BACK by a method, a step -/
def bsV (T B : Int → Int) (t y m s : Int) : Int := backZ (T 0) s (T 2) (ySum B t y) (fracZ (T 0) s (ownZ m (ySum B t y) (B (1281 + 2 * t))) (allZ m (ySum B t y) (B (1282 + 2 * t))))
theorem bsV_r (hm : MQr M' nt T tr sl bu as B U) {t y m s : Int} (t0 : 0 ≤ t) (t1 : t < nt) (y0 : 0 ≤ y) (y1 : y < 16) (hs : 0 < s ∧ s ≤ 1000) : 0 ≤ bsV T B t y m s ∧ bsV T B t y m s ≤ 1200000000 := by
  obtain ⟨hO, hnt, hT, htr, hRows, hBI, hU⟩ := id hm
  have hh := hBI.1.2 t t0 (by omega)
  exact back_hi hBI.2.2.1 hU hBI.1 t0 (by omega) y0 y1 hT.1 hs.1 (frac_r (sumsOk_y hBI.1 t0 (by omega) y0 y1) hT.1 hs.1 hh.1 hh.2.1)
theorem xq_bs (hx : XQr M c r R nt T tr sl bu as B U) (hm : MQr M' nt T tr sl bu as B U) {t y m s : Int} (t0 : 0 ≤ t) (t1 : t < nt) (y0 : 0 ≤ y) (y1 : y < 16) (hmm : 0 ≤ m ∧ m ≤ 2) (hs : 0 < s ∧ s ≤ 1000) (hF : FOk F (T 0) m s (T 2) (B (1281 + 2 * t)) (B (1282 + 2 * t))) (hS : ∀ w : Int, 0 ≤ w → w < 5 → S w = ySum B t y w) : ∃ f, g_X6_fraction n (WX M c R F S) (c + 60) = some (zi f, WX M c R F S) ∧ g_X6_backBy n (WX M c R F S) (c + 60) (zi f) = some (zi (bsV T B t y m s), WX M c R F S) := by
  obtain ⟨hO, hnt, hT, htr, hRows, hBI, hU⟩ := id hm
  have hh := hBI.1.2 t t0 (by omega)
  have hso := sumsOk_y (t := t) (y := y) hBI.1 t0 (by omega) y0 y1
  have hfr := frac_r (w := T 0) (s := s) (m := m) hso hT.1 hs.1 hh.1 hh.2.1
  have g3 := c_fraction (n := n) (R := R) (xq_C hx) hF hT.1 hmm hs (sumsOk_congr hso hS) (by omega)
  have hc := own_congr (m := m) (ho := B (1281 + 2 * t)) (ha := B (1282 + 2 * t)) hS
  rw [hc.1, hc.2] at g3
  have t2 := hT.2.2
  have g4 := c_backBy (n := n) (R := R) (xq_C hx) hF hT.1 hs ⟨by omega, by omega⟩ (sumsOk_congr hso hS) (f := fracZ (T 0) s (ownZ m (ySum B t y) (B (1281 + 2 * t))) (allZ m (ySum B t y) (B (1282 + 2 * t)))) (by omega)
  rw [backZ_congr hS] at g4
  exact ⟨_, g3, g4⟩
theorem mq_bs (hm0 : MQr M' nt T tr sl bu as B U) {t y m s : Int} (t0 : 0 ≤ t) (t1 : t < nt) (y0 : 0 ≤ y) (y1 : y < 16) (hmm : 0 ≤ m ∧ m ≤ 2) (hs : 0 < s ∧ s ≤ 1000) (hS : ∀ w : Int, 0 ≤ w → w < 5 → S w = ySum B t y w) : ∃ f sm1, g_X10_fractionBy n (WC M' 0 B S (B (1281 + 2 * t)) (B (1282 + 2 * t)) sm) 139 (zi m) (zi (T 0)) (zi s) = some (zi f, WC M' 0 B S (B (1281 + 2 * t)) (B (1282 + 2 * t)) sm) ∧ g_X10_backBy n (WC M' 0 B S (B (1281 + 2 * t)) (B (1282 + 2 * t)) sm) 139 (zi f) (zi (T 0)) (zi s) (zi (T 2)) = some (zi (bsV T B t y m s), WC M' 0 B S (B (1281 + 2 * t)) (B (1282 + 2 * t)) sm1) := by
  obtain ⟨hO, hnt, hT, htr, hRows, hBI, hU⟩ := id hm0
  have hh := hBI.1.2 t t0 (by omega)
  have hso := sumsOk_y (t := t) (y := y) hBI.1 t0 (by omega) y0 y1
  have hfr := frac_r (w := T 0) (s := s) (m := m) hso hT.1 hs.1 hh.1 hh.2.1
  have gf := m_fractionBy (n := n) (B := B) (S := S) (ho := B (1281 + 2 * t)) (ha := B (1282 + 2 * t)) (sm := sm) (m := m) (w := T 0) (s := s) hO hmm hT.1 hs (sumsOk_congr hso hS) (by omega)
  have hc := own_congr (m := m) (ho := B (1281 + 2 * t)) (ha := B (1282 + 2 * t)) hS
  rw [hc.1, hc.2] at gf
  have t2 := hT.2.2
  have gb := m_backBy (n := n) (B := B) (S := S) (ho := B (1281 + 2 * t)) (ha := B (1282 + 2 * t)) (sm := sm) (f := fracZ (T 0) s (ownZ m (ySum B t y) (B (1281 + 2 * t))) (allZ m (ySum B t y) (B (1282 + 2 * t)))) (w := T 0) (s := s) (lim := T 2) hO (by omega) hT.1 hs ⟨by omega, by omega⟩ (sumsOk_congr hso hS)
  rw [backZ_congr hS] at gb
  exact ⟨_, _, gf, gb⟩
end Q9
