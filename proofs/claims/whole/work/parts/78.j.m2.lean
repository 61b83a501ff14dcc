/-! ===== PURE 57: close ===== -/
def cqI (T tr sl bu as B : Int → Int) (nt : Int) : Nat → Int → Int
  | 0 => B
  | k + 1 => clqZ T tr sl bu as (cqI T tr sl bu as B nt k) nt
section M3
variable {M Mx M' Mu : MemT} {c r : Nat} {R : Nat → Nat → Int32} {F : Nat → Int32} {S S' : Int → Int} {n : Nat} {T tr sl bu as B : Int → Int} {nt U ho ha : Int} {sm : Int32}
theorem cqI_BI (hT : told3 T) (htr : trOk tr) (hr : RowsOk T sl bu as) (hNt : RowsNt T as nt) (hnt : 0 ≤ nt ∧ nt ≤ 4) (hU : 2000000 ≤ U ∧ U ≤ 100000000) (h : BI T nt U B) : ∀ k : Nat, B 0 + k ≤ 63 → BI T nt U (cqI T tr sl bu as B nt k) ∧ cqI T tr sl bu as B nt k 0 = B 0 + k := by
  intro k
  induction k with
  | zero => intro _; exact ⟨h, (Int.add_zero _).symm⟩
  | succ k ih =>
    intro hk
    obtain ⟨h1, h2⟩ := ih (by omega)
    have h3 := clqZ_BI hT htr hr hNt hnt hU h1 (by omega)
    refine ⟨h3.1, ?_⟩
    show clqZ T tr sl bu as (cqI T tr sl bu as B nt k) nt 0 = _
    rw [h3.2, h2]
    omega
theorem xq_close (hx : XQr M c r R nt T tr sl bu as B U) (hNt : RowsNt T as nt) (hn : 300 < n) {k : Int} (k0 : 0 ≤ k) (hk : B 0 + k ≤ 63) : ∃ R1 F1 S1, loopF (fun (s : MemT × Int32) => (fun (M13 : MemT) (v14 : Int32) => (if (zi k) ≤ v14 then some (.inr (M13, v14)) else (gO M13 7 0 4).bind (fun j16 => chk M13 2 j16 (bd (g_X3_endQuarter n M13 j16) (fun r17 M18 => some (.inl (M18, v14 + 1))))))) s.1 s.2) n (WX M c R F S, 0) = some (WX M c R1 F1 S1, zi k) ∧ RBk T (cqI T tr sl bu as B nt k.toNat) nt R1 := by
  obtain ⟨h0, ⟨h1, h2, h3, h4, h5, h6, -, -, -⟩, h10, h11, h12⟩ := id hx
  have hN := h11.2.1
  obtain ⟨n1, n2⟩ := id hN
  have key := loop_inv (step := fun (s : MemT × Int32) => (fun (M13 : MemT) (v14 : Int32) => (if (zi k) ≤ v14 then some (.inr (M13, v14)) else (gO M13 7 0 4).bind (fun j16 => chk M13 2 j16 (bd (g_X3_endQuarter n M13 j16) (fun r17 M18 => some (.inl (M18, v14 + 1))))))) s.1 s.2) (fun i s => ∃ R1 F1 S1, s = (WX M c R1 F1 S1, zi (i : Int)) ∧ RBk T (cqI T tr sl bu as B nt i) nt R1) (fun u => ∃ R1 F1 S1, u = (WX M c R1 F1 S1, zi k) ∧ RBk T (cqI T tr sl bu as B nt k.toNat) nt R1) k.toNat (fun i hi s hs => ?_) (fun s hs => ?_) n (by omega) (WX M c R F S, 0) ⟨R, F, S, rfl, h3⟩
  · obtain ⟨u, hu, R1, F1, S1, rfl, hR⟩ := key
    exact ⟨R1, F1, S1, hu, hR⟩
  · obtain ⟨R1, F1, S1, rfl, hR⟩ := hs
    obtain ⟨b1, b2⟩ := cqI_BI (tr := tr) (sl := sl) (bu := bu) h5 h6 h10 hNt h4 h12 h11 i (by omega)
    have hx1 := xq_new hx hR b1 h12
    have hK := KE_K b1.2.2.2.2.1
    have hE := b1.2.2.2.2.2.1
    have hX := b1.2.2.2.2.2.2.2.2.2
    obtain ⟨R2, F2, S2, g, hR2⟩ := c_endQuarter (n := n) (F := F1) (S := S1) hx1.2.1 h10 (by omega) (by omega) (by omega) b1.2.2.2.2.2.2.2.2.1 (AX_allA hX) (AX_X2 hX) (by omega)
    refine ⟨(WX M c R2 F2 S2, zi ((i + 1 : Nat) : Int)), ?_, R2, F2, S2, rfl, hR2⟩
    dsimp only
    rw [if_neg (by rw [zi_le (by omega) (by omega) (by omega) (by omega)]; omega), xq_o4 hx1, i_sb, c_kC (xq_C hx1), g, i_bd, show zi (i : Int) + 1 = zi ((i + 1 : Nat) : Int) from zi_add (i : Int) 1]
  · obtain ⟨R1, F1, S1, rfl, hR⟩ := hs
    refine ⟨_, ?_, R1, F1, S1, rfl, hR⟩
    dsimp only
    rw [Int.toNat_of_nonneg k0, if_pos (Int32.le_refl _)]
theorem mq_close {bk : Int} (hO : MOk M' bk nt T tr sl bu as) (hm : MQr M' nt T tr sl bu as B U ∨ True) (hT : told3 T) (htr : trOk tr) (hr : RowsOk T sl bu as) (hNt : RowsNt T as nt) (hnt : 0 ≤ nt ∧ nt ≤ 4) (hU : 2000000 ≤ U ∧ U ≤ 100000000) (hB : BI T nt U B) (hn : 300 < n) {k : Int} (k0 : 0 ≤ k) (hk : B 0 + k ≤ 63) : ∃ S1 ho1 ha1 sm1, loopF (fun (s : MemT × Int32) => (fun (M10 : MemT) (v11 : Int32) => (if (zi k) ≤ v11 then some (.inr (M10, v11)) else chk M10 8 139 (bd (g_X10_closesQuarter n M10 139) (fun r13 M14 => some (.inl (M14, v11 + 1)))))) s.1 s.2) n (WC M' bk B S ho ha sm, 0) = some (WC M' bk (cqI T tr sl bu as B nt k.toNat) S1 ho1 ha1 sm1, zi k) := by
  obtain ⟨n1, n2⟩ := hB.2.1
  have key := loop_inv (step := fun (s : MemT × Int32) => (fun (M10 : MemT) (v11 : Int32) => (if (zi k) ≤ v11 then some (.inr (M10, v11)) else chk M10 8 139 (bd (g_X10_closesQuarter n M10 139) (fun r13 M14 => some (.inl (M14, v11 + 1)))))) s.1 s.2) (fun i s => ∃ S1 ho1 ha1 sm1, s = (WC M' bk (cqI T tr sl bu as B nt i) S1 ho1 ha1 sm1, zi (i : Int))) (fun u => ∃ S1 ho1 ha1 sm1, u = (WC M' bk (cqI T tr sl bu as B nt k.toNat) S1 ho1 ha1 sm1, zi k)) k.toNat (fun i hi s hs => ?_) (fun s hs => ?_) n (by omega) (WC M' bk B S ho ha sm, 0) ⟨S, ho, ha, sm, rfl⟩
  · obtain ⟨u, hu, S1, ho1, ha1, sm1, rfl⟩ := key
    exact ⟨S1, ho1, ha1, sm1, hu⟩
  · obtain ⟨S1, ho1, ha1, sm1, rfl⟩ := hs
    obtain ⟨b1, b2⟩ := cqI_BI (tr := tr) (sl := sl) (bu := bu) hT htr hr hNt hnt hU hB i (by omega)
    have hK := KE_K b1.2.2.2.2.1
    have hX := b1.2.2.2.2.2.2.2.2.2
    obtain ⟨S2, ho2, ha2, sm2, g⟩ := m_closesQuarter (n := n) (S := S1) (ho := ho1) (ha := ha1) (sm := sm1) hO hT htr hr hn hnt b1.1 (by omega) (by omega) b1.2.2.2.2.2.2.2.2.1 (AX_allA hX) (AN2_r b1.2.1 b1.2.2.2.2.2.2.1)
    refine ⟨(WC M' bk (clqZ T tr sl bu as (cqI T tr sl bu as B nt i) nt) S2 ho2 ha2 sm2, zi ((i + 1 : Nat) : Int)), ?_, S2, ho2, ha2, sm2, rfl⟩
    dsimp only
    rw [if_neg (by rw [zi_le (by omega) (by omega) (by omega) (by omega)]; omega), m_chk hO, g, i_bd, show zi (i : Int) + 1 = zi ((i + 1 : Nat) : Int) from zi_add (i : Int) 1]
  · obtain ⟨S1, ho1, ha1, sm1, rfl⟩ := hs
    refine ⟨_, ?_, S1, ho1, ha1, sm1, rfl⟩
    dsimp only
    rw [Int.toNat_of_nonneg k0, if_pos (Int32.le_refl _)]
theorem P_close (hx : XQr M c r R nt T tr sl bu as B U) (hm : MQr M' nt T tr sl bu as B U) (hx' : XQr Mx c r R nt T tr sl bu as B U) (hu : MQr Mu nt T tr sl bu as B U) (hN : UN n M Mx M' Mu c R B) (hn : 300 < n) (hU : U ≤ 99000000) (hNt : RowsNt T as nt) {k : Int} (k1 : -2147483648 ≤ k) (k2 : k ≤ 2147483647) : MP (g_X9_close n (WX M c R F S) 0 (zi k)) (g_X10_close n (WC M' 0 B S' ho ha sm) 139 (zi k)) M Mx (sI M' 139 2 0) Mu c R T B nt U := by
  have hm0 := mq_thr0 (v := zi 0) hm
  have hnt := hm.2.1
  have h8 := mq_8 hm
  obtain ⟨n1, n2⟩ := mq_N hm
  have hy : 0 ≤ yearZ B ∧ yearZ B < 16 := by unfold yearZ; omega
  have hT := hm.2.2.1
  have htr := hm.2.2.2.1
  have hAN := AN2_r (mq_N hm) hm.2.2.2.2.2.1.2.2.2.2.2.2.1
  have t1r := hT.2.1
  have t2r := hT.2.2
  obtain ⟨p, hp6, hp3, hadd, hund⟩ := hN
  have hund : ∀ S ho ha sm, g_X10_canUndo n (WC (sI M' 139 2 (zi 0)) 0 B S ho ha sm) 139 = some ((), WC Mu 0 B S ho ha sm) := hund
  have o6 : ∀ F S, gO (WX M c R F S) 7 0 6 = some p := fun F S => i_gO hx.1.1 hp6
  have k3 : ∀ {β : Type} {F S} {e : Option β}, chk (WX M c R F S) 3 p e = e := fun {β F S e} => i_chk hp3
  have r00 := (xq_R hx').1.1
  have r01 := (xq_R hx').1.2.1
  have hUU := hx.2.2.2.2
  have ix : ∀ F S, g_X9_isIn n (WX M c R F S) (zi k) 1 16 = some (bI2 (1 ≤ k ∧ k ≤ 16), WX M c R F S) := fun F S => x_isIn2 (n := n) (x := k) (a := 1) (b := 16) k1 k2 (by omega) (by omega) (by omega) (by omega)
  have im : g_X10_isIn n (WC (sI M' 139 2 0) 0 B S' ho ha sm) (zi k) 1 16 = some (bI2 (1 ≤ k ∧ k ≤ 16), WC (sI M' 139 2 0) 0 B S' ho ha sm) := m_isIn2 (n := n) (x := k) (a := 1) (b := 16) k1 k2 (by omega) (by omega) (by omega) (by omega)
  have hmz := mq_thr0 (v := (0 : Int32)) hm
  have r02 := (xq_R hx').1.2.2
  have o0 : ∀ S ho ha sm, g_X10_of n (WC (sI M' 139 2 0) 0 B S ho ha sm) 139 0 = some (zi (B 0), WC (sI M' 139 2 0) 0 B S ho ha sm) := fun S ho ha sm => m_of (mq_h hmz) (k := 0) (by omega) (by omega)
  have ou : ∀ B S ho ha sm, g_X10_of n (WC Mu 0 B S ho ha sm) 139 1866 = some (zi (B 1866), WC Mu 0 B S ho ha sm) := fun B S ho ha sm => m_of (mq_h hu) (k := 1866) (by omega) (by omega)
  have hund : ∀ S ho ha sm, g_X10_canUndo n (WC (sI M' 139 2 0) 0 B S ho ha sm) 139 = some ((), WC Mu 0 B S ho ha sm) := hund
  by_cases c1 : 1 ≤ k ∧ k ≤ 16
  · have z1 : bI2 (1 ≤ k ∧ k ≤ 16) ≠ (0 : Int32) := fun q => ((bI_0 _).mp q) c1
    have gme : ∀ F S, g_X9_mayEnd n (WX M c R F S) 0 (zi k) = some (bI2 (B 0 + k ≤ 63), WX M c R F S) := fun F S => by
      unfold g_X9_mayEnd
      rw [xq_o4 hx, i_sb, c_o1 (xq_C hx), i_sb, c_now (xq_C hx), i_sb, r00, zi_add]
      have e64 : (64 ≤ zi (B 0 + k)) = (64 ≤ B 0 + k) := zi_le (a := 64) (by omega) (by omega) (by omega) (by omega)
      unfold bI2
      by_cases d : B 0 + k ≤ 63
      · rw [if_neg (by rw [e64]; omega), if_pos d]; exact rz_1
      · rw [if_pos (by rw [e64]; omega), if_neg d]; exact rz_0
    have l63 : (zi (B 0) + zi k ≤ 63) = (B 0 + k ≤ 63) := by
      rw [zi_add]
      exact zi_le (b := 63) (by omega) (by omega) (by omega) (by omega)
    by_cases c2 : B 0 + k ≤ 63
    · have z2 : bI2 (B 0 + k ≤ 63) ≠ (0 : Int32) := fun q => ((bI_0 _).mp q) c2
      obtain ⟨R1, F1, S1, gx, hR1⟩ := xq_close (n := n) (F := F) (S := S) hx' hNt hn (show 0 ≤ k by omega) c2
      obtain ⟨S2, ho2, ha2, sm2, gm⟩ := mq_close (n := n) (S := S') (ho := ho) (ha := ha) (sm := sm) (U := U) (mq_h hu) (Or.inr trivial) hT htr hm.2.2.2.2.1 hNt hnt hUU hm.2.2.2.2.2.1 hn (show 0 ≤ k by omega) c2
      have hBI := (cqI_BI (tr := tr) (sl := sl) (bu := bu) hT htr hm.2.2.2.2.1 hNt hnt hUU hm.2.2.2.2.2.1 k.toNat (by omega)).1
      have hx2 := xq_new hx' hR1 hBI hUU
      have r02' := (xq_R hx2).1.2.2
      dsimp only at gx gm
      refine mp_mk (cqI T tr sl bu as B nt k.toNat 1866 - B 1866) hR1 (BI_le (V := U + 100000) hBI (by omega)) (F1 := F1) (S1 := S1) (S2 := S2) (ho2 := ho2) (ha2 := ha2) (sm2 := sm2) ?_ ?_
      · unfold g_X9_close
        rw [ix, i_bd, if_neg z1, xq_ko hx, gme, i_bd, if_neg z2, o6, i_sb, xq_o4 hx, i_sb, c_o1 (xq_C hx), i_sb, k3, hadd, i_bd, xq_o4 hx', i_sb, c_o1 (xq_C hx'), i_sb, c_now (xq_C hx'), i_sb, gx, i_sb]
        dsimp only
        rw [xq_o4 hx2, i_sb, c_o1 (xq_C hx2), i_sb, c_now (xq_C hx2), i_sb, r02, r02', zi_sub]
      · unfold g_X10_close
        rw [m_thr0 (mq_h hm), i_sb, im, i_bd, if_neg z1, m_chk (mq_h hmz), o0, i_bd, if_pos (by rw [l63]; exact c2), m_chk (mq_h hmz), hund, i_bd, m_chk (mq_h hu), ou, i_bd, gm, i_sb]
        dsimp only
        rw [m_chk (mq_h hu), ou, i_bd, zi_sub]
    · have z2 : bI2 (B 0 + k ≤ 63) = (0 : Int32) := (bI_0 _).mpr c2
      refine mp_no (qp_mk (-2) (F1 := F) (S1 := S) (S2 := S') (ho2 := ho) (ha2 := ha) (sm2 := sm) ?_ ?_)
      · unfold g_X9_close
        rw [ix, i_bd, if_neg z1, xq_ko hx, gme, i_bd, if_pos z2]
        rfl
      · unfold g_X10_close
        rw [m_thr0 (mq_h hm), i_sb, im, i_bd, if_neg z1, m_chk (mq_h hmz), o0, i_bd, if_neg (by rw [l63]; exact c2)]
        rfl
  · have z1 : bI2 (1 ≤ k ∧ k ≤ 16) = (0 : Int32) := (bI_0 _).mpr c1
    refine mp_no (qp_mk (-1) (F1 := F) (S1 := S) (S2 := S') (ho2 := ho) (ha2 := ha) (sm2 := sm) ?_ ?_)
    · unfold g_X9_close
      rw [ix, i_bd, if_pos z1]
      rfl
    · unfold g_X10_close
      rw [m_thr0 (mq_h hm), i_sb, im, i_bd, if_pos z1]
      rfl
end M3
