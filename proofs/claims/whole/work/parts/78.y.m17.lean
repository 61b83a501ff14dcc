/-! ===== PURE 72: tried ===== -/
theorem bz_t {p : Prop} [Decidable p] (h : p) : bI2 p ≠ (0 : Int32) := fun q => ((bI_0 _).mp q) h
theorem bz_f {p : Prop} [Decidable p] (h : ¬ p) : bI2 p = (0 : Int32) := (bI_0 _).mpr h
section M17
variable {M M1 : MemT} {r s q : Nat} {P : Nat → Nat} {old cnt tl kp nt U : Int} {T tr sl bu as B Bi : Int → Int} {Bs : Nat → Int → Int} {n : Nat}
theorem top_tr (h : TOP M r s q P old cnt tl kp nt T tr sl bu as B Bi Bs U) {t : Int} (h1 : -2147483648 ≤ t) (h2 : t ≤ 2147483647) : g_X9_isTrader n M 0 (zi t) = some (bI2 (0 ≤ t ∧ t < nt), M) := by
  have := xq_tr (n := n) (F := mI M 73) (S := fun j => (mJ M 74 j.toNat).toInt) (TOP_X h) h1 h2
  rw [show WX M 13 (rows M 23) (mI M 73) (fun j => (mJ M 74 j.toNat).toInt) = M from WX_self (c := 13)] at this
  exact this
theorem top_me (h : TOP M r s q P old cnt tl kp nt T tr sl bu as B Bi Bs U) {k : Int} (k1 : 1 ≤ k) (k2 : k ≤ 16) : g_X9_mayEnd n M 0 (zi k) = some (bI2 (B 0 + k ≤ 63), M) := by
  obtain ⟨n1, n2⟩ := h.2.2.2.2.2.1.2.1
  have e0 : mI M 23 0 = zi (B 0) := h.2.2.2.2.1.1.1.1
  unfold g_X9_mayEnd
  rw [i_gO h.1.1.1 h.1.1.2.2.2.2.1, i_sb, i_gO h.1.2.2.2.1.1.1 h.1.2.2.2.1.1.2.2.1, i_sb, i_gI h.1.2.2.2.1.2.2.1.1, i_sb, e0, zi_add]
  have e64 : (64 ≤ zi (B 0 + k)) = (64 ≤ B 0 + k) := zi_le (a := 64) (by omega) (by omega) (by omega) (by omega)
  unfold bI2
  by_cases d : B 0 + k ≤ 63
  · rw [if_neg (by rw [e64]; omega), if_pos d]; exact rz_1
  · rw [if_pos (by rw [e64]; omega), if_neg d]; exact rz_0
theorem top_M0 (h : TOP M r s q P old cnt tl kp nt T tr sl bu as B Bi Bs U) : TOP (sI M 139 2 0) r s q P old cnt tl kp nt T tr sl bu as B Bi Bs U :=
  TOP_f h (Nat.le_refl _) (fun _ _ => sI_SE) (fun y k _ hs => by unfold scr at hs; rw [sI_ne (by omega)])
theorem top_mtr (h : TOP M r s q P old cnt tl kp nt T tr sl bu as B Bi Bs U) {t : Int} (h1 : -2147483648 ≤ t) (h2 : t ≤ 2147483647) : g_X10_isTrader n M 139 (zi t) = some (bI2 (0 ≤ t ∧ t < nt), M) := by
  obtain ⟨S0, ho0, ha0, sm0, eM⟩ := WC_self h.2.2.2.2.2.2.2.1
  have := mq_tr (n := n) (S := S0) (ho := ho0) (ha := ha0) (sm := sm0) (TOP_M h) h1 h2
  rw [eM] at this
  exact this
/-- the reference's bank 1 as a copy -/
def asN (M : MemT) : MemT := sI (LB M 1 2468 (fun j => mI M 147 (2468 * 0 + j).toNat)) 139 21 1
theorem asN_r (h : TOP M r s q P old cnt tl kp nt T tr sl bu as B Bi Bs U) (hn : 3000 < n) : g_X10_asNow n M 139 = some ((), asN M) ∧ MOk (asN M) 1 nt T tr sl bu as ∧ BkI (asN M) 1 B ∧ ∀ M2 S ho ha sm B2, M2 = sI (WC (asN M) 1 B2 S ho ha sm) 139 21 0 → TOP M2 r s q P old cnt tl kp nt T tr sl bu as B Bi Bs U := by
  have hO := h.2.2.2.2.2.2.1
  have hb := h.2.2.2.2.2.2.2.1
  have eI : ∀ y k, ¬ (y = 147 ∧ 2468 ≤ k ∧ k < 4936) → ¬ (y = 139 ∧ k = 21) → mI (asN M) y k = mI M y k := fun y k q1 q2 => by
    unfold asN
    rw [sI_ne (by omega), LB_ne (by omega)]
  refine ⟨?_, ?_, fun j j0 j1 => ?_, fun M2 S ho ha sm B2 e2 => ?_⟩
  · unfold g_X10_asNow
    rw [i_chk hO.1.1, show g_X10_copyBank n M 139 0 1 = _ from r_copyBank (M := M) (a := 0) (b := 1) hO.1 hn (by omega) (by omega) (by omega) (by omega) (by omega), i_bd, LB_pI (M := M) hO.1.1, i_sb]
    rfl
  · obtain ⟨hS, hb, hb1, hn, h1, h2, h3, h4, h5⟩ := hO
    exact ⟨hS, by unfold asN; exact sI_at, by omega, (eI _ _ (by omega) (by omega)).trans hn, fun k k0 k1 => (eI _ _ (by omega) (by omega)).trans (h1 k k0 k1), fun k k0 k1 => (eI _ _ (by omega) (by omega)).trans (h2 k k0 k1), fun k k0 k1 => (eI _ _ (by omega) (by omega)).trans (h3 k k0 k1), fun k k0 k1 => (eI _ _ (by omega) (by omega)).trans (h4 k k0 k1), fun k k0 k1 => (eI _ _ (by omega) (by omega)).trans (h5 k k0 k1)⟩
  · unfold asN
    rw [sI_ne (by omega), LB_I, if_pos (by omega), ← hb j j0 j1]
    exact congrArg (mI M 147) (by omega)
  · refine TOP_f h (by rw [e2]; exact Nat.le_refl _) (fun y _ => by rw [e2]; exact ⟨rfl, rfl, fun _ => rfl⟩) (fun y k _ hs => ?_)
    unfold scr at hs
    rw [e2, sI_I]
    by_cases c : y = 139 ∧ k = 21
    · rw [if_pos c, c.1, c.2, hO.2.1]
      rfl
    · rw [if_neg c]
      show (if y = 147 then (if 2468 * (1 : Int) ≤ (k : Int) ∧ (k : Int) < 2468 * (1 : Int) + 2468 then zi (B2 ((k : Int) - 2468 * 1)) else mI (asN M) 147 k) else if y = 139 ∧ k = 27 then sm else mI (asN M) y k) = _
      by_cases c2 : y = 147
      · rw [if_pos c2, if_neg (by omega), c2]
        exact eI _ _ (by omega) (by omega)
      · rw [if_neg c2, if_neg (by omega)]
        exact eI _ _ (by omega) (by omega)
theorem tot_x {b : Nat} (hb : BSh M b) (hR : RM B (rows M b)) {t y : Int} (t0 : 0 ≤ t) (t1 : t < 4) (q0 : 0 ≤ y) (q1 : y < 4) : g_X2_totalOf n M b (zi t) (zi y) = some (zi (B (2068 + 4 * t + y)), M) := by
  have := x_totalOf (n := n) (M := M) (R := rows M b) hb hR t0 t1 q0 q1
  rw [WR_rows] at this
  exact this
theorem r_tried (h : TOP M r s q P old cnt tl kp nt T tr sl bu as B Bi Bs U) (hU2 : U ≤ 99000000) (hn : 100000010 < n) (x1 x2 x3 : Int32) : RunsTo (fun M => g_X9_tried n M 0 x1 x2 x3) (fun M => g_X10_tried n M 139 x1 x2 x3) M (U + 100000) := by
  obtain ⟨k, rfl, k1, k2⟩ := zi_ex x1
  obtain ⟨t, rfl, t1, t2⟩ := zi_ex x2
  obtain ⟨w, rfl, w1, w2⟩ := zi_ex x3
  have hD := h.2.2.1
  have hnt4 := hD.1
  obtain ⟨n1, n2⟩ := h.2.2.2.2.2.1.2.1
  have k7 := h.1.1.1
  have k8 := h.2.2.2.2.2.2.1.1.1
  have xi : ∀ (M : MemT) (x a b : Int), -2147483648 ≤ x → x ≤ 2147483647 → 0 ≤ a → a ≤ 20 → 0 ≤ b → b ≤ 20 → g_X9_isIn n M (zi x) (zi a) (zi b) = some (bI2 (a ≤ x ∧ x ≤ b), M) := fun M x a b h1 h2 h3 h4 h5 h6 => x_isIn2 h1 h2 (by omega) (by omega) (by omega) (by omega)
  have mi : ∀ (M : MemT) (x a b : Int), -2147483648 ≤ x → x ≤ 2147483647 → 0 ≤ a → a ≤ 20 → 0 ≤ b → b ≤ 20 → g_X10_isIn n M (zi x) (zi a) (zi b) = some (bI2 (a ≤ x ∧ x ≤ b), M) := fun M x a b h1 h2 h3 h4 h5 h6 => m_isIn2 h1 h2 (by omega) (by omega) (by omega) (by omega)
  have xi1 : g_X9_isIn n M (zi k) 1 16 = _ := xi M k 1 16 k1 k2 (by omega) (by omega) (by omega) (by omega)
  have xi2 : g_X9_isIn n M (zi w) 0 3 = _ := xi M w 0 3 w1 w2 (by omega) (by omega) (by omega) (by omega)
  have mk : ∀ M1 r1 s1 q1 P1, TOP M1 r1 s1 q1 P1 old cnt tl kp nt T tr sl bu as B Bi Bs U → (pI M1 8 139 2 0 = some (sI M1 139 2 0)) ∧ TOP (sI M1 139 2 0) r1 s1 q1 P1 old cnt tl kp nt T tr sl bu as B Bi Bs U := fun M1 r1 s1 q1 P1 h1 => ⟨i_pI h1.2.2.2.2.2.2.1.1.1, top_M0 h1⟩
  have mi1 : ∀ M1, g_X10_isIn n M1 (zi k) 1 16 = _ := fun M1 => mi M1 k 1 16 k1 k2 (by omega) (by omega) (by omega) (by omega)
  have mi2 : ∀ M1, g_X10_isIn n M1 (zi w) 0 3 = _ := fun M1 => mi M1 w 0 3 w1 w2 (by omega) (by omega) (by omega) (by omega)
  have m63 : 1 ≤ k ∧ k ≤ 16 → (zi (B 0) + zi k ≤ 63) = (B 0 + k ≤ 63) := fun c => by
    rw [zi_add]
    exact zi_le (b := 63) (by omega) (by omega) (by omega) (by omega)
  have mof : ∀ (M1 : MemT) r1 s1 q1 P1, TOP M1 r1 s1 q1 P1 old cnt tl kp nt T tr sl bu as B Bi Bs U → g_X10_of n M1 139 0 = some (zi (B 0), M1) := fun M1 r1 s1 q1 P1 h1 => bk_of (k := 0) h1.2.2.2.2.2.2.1 h1.2.2.2.2.2.2.2.1 (by omega) (by omega)
  by_cases C : (1 ≤ k ∧ k ≤ 16) ∧ B 0 + k ≤ 63 ∧ (0 ≤ t ∧ t < nt) ∧ 0 ≤ w ∧ w ≤ 3
  · obtain ⟨c1, c2, c3, c4⟩ := C
    obtain ⟨W, gi, hX, hR23, ⟨w7, w4, w5⟩, hB23, wk13, wr13, -, hT⟩ := imit (n := n) h (by omega)
    obtain ⟨R1, F1, S1, gl, hR1⟩ := t_close (n := n) (F := mI W 135) (S := fun j => (mJ W 136 j.toNat).toInt) hX hD.2.2.2.2.1 (by omega) (show 0 ≤ k by omega) c2
    rw [show WX W 75 (rows W 85) (mI W 135) (fun j => (mJ W 136 j.toNat).toInt) = W from WX_self (c := 75)] at gl
    have hT1 := hT R1 F1 S1
    obtain ⟨p1, hT1'⟩ := mk _ _ _ _ _ hT1
    have k81 : mK (sI (WX W 75 R1 F1 S1) 139 2 0) 139 = 8 := hT1'.2.2.2.2.2.2.1.1.1
    obtain ⟨ga, hO1, hb1, hfin⟩ := asN_r (n := n) hT1' (by omega)
    obtain ⟨S0, ho0, ha0, sm0, eM⟩ := WC_selfb (b := 1) (by omega) hb1
    obtain ⟨S2, ho2, ha2, sm2, gm⟩ := mq_close (M' := asN (sI (WX W 75 R1 F1 S1) 139 2 0)) (n := n) (S := S0) (ho := ho0) (ha := ha0) (sm := sm0) (U := U) hO1 (Or.inr trivial) hD.2.1 hD.2.2.1 hD.2.2.2.1 hD.2.2.2.2.1 hD.1 hD.2.2.2.2.2 h.2.2.2.2.2.1 (by omega) (show 0 ≤ k by omega) c2
    rw [eM] at gm
    have hi : 0 ≤ 2068 + 4 * t + w ∧ 2068 + 4 * t + w < 2468 := by omega
    have es : (2068 : Int32) + 4 * zi t + zi w = zi (2068 + 4 * t + w) := by
      show zi 2068 + zi 4 * zi t + zi w = _
      rw [zi_mul, zi_add, zi_add]
    refine ⟨zi (cqI T tr sl bu as B nt k.toNat (2068 + 4 * t + w) - B (2068 + 4 * t + w)), WX W 75 R1 F1 S1, _, ?_, k81, ?_, TOP_E (TOP_U (hfin _ S2 ho2 ha2 sm2 (cqI T tr sl bu as B nt k.toNat) rfl) hU2)⟩
    · show g_X9_tried n M 0 (zi k) (zi t) (zi w) = _
      unfold g_X9_tried
      dsimp only at gl
      rw [xi1, i_bd, if_neg (bz_t c1), i_chk k7, top_me h c1.1 c1.2, i_bd, if_neg (bz_t c2), i_chk k7, top_tr h t1 t2, i_bd, if_neg (bz_t c3), xi2, i_bd, if_neg (bz_t c4), i_gO k7 h.1.1.2.2.2.2.2, i_sb, i_gO k7 h.1.1.2.2.2.2.1, i_sb, i_chk h.1.2.2.2.2.2.1.1.1, gi, i_bd, gl, i_sb]
      dsimp only
      have hC := hX.2.1.1
      have q1 : g_X2_totalOf n (WX W 75 R1 F1 S1) (75 + 10) (zi t) (zi w) = _ := x_totalOf (n := n) (wx_B (F := F1) (S := S1) hC) hR1.1 c3.1 (by omega) c4.1 (by omega)
      have q2 : g_X2_totalOf n (WX W 75 R1 F1 S1) 23 (zi t) (zi w) = _ := tot_x (M := WX W 75 R1 F1 S1) (B := B) hB23 (RBk_c hR23 (fun o ho => funext fun k => by show mI (WX W 75 R1 F1 S1) (23 + o) k = _; rw [WX_I, if_neg (by omega), if_neg (by omega)]; rfl) (BI_8 h.2.2.2.2.2.1).2).1 c3.1 (by omega) c4.1 (by omega)
      have q1' : WR (WF W (75 + 60) F1 S1) (75 + 10) R1 = WX W 75 R1 F1 S1 := rfl
      rw [t_o5 hX, i_sb, c_o1 hC, i_sb, c_kB hC, q1, i_bd, q1', i_gO (M := WX W 75 R1 F1 S1) w7 w4, i_sb, i_gO (M := WX W 75 R1 F1 S1) wk13 wr13, i_sb, i_chk (M := WX W 75 R1 F1 S1) hB23.1, q2, i_bd, zi_sub]
    · show g_X10_tried n (WX W 75 R1 F1 S1) 139 (zi k) (zi t) (zi w) = _
      unfold g_X10_tried
      have o1 : g_X10_of n (asN (sI (WX W 75 R1 F1 S1) 139 2 0)) 139 (zi (2068 + 4 * t + w)) = _ := bk_of hO1 hb1 hi.1 hi.2
      have o2 : g_X10_of n (WC (asN (sI (WX W 75 R1 F1 S1) 139 2 0)) 1 (cqI T tr sl bu as B nt k.toNat) S2 ho2 ha2 sm2) 139 (zi (2068 + 4 * t + w)) = _ := m_of hO1 hi.1 hi.2
      dsimp only at gm
      rw [p1, i_sb, mi1, i_bd, if_neg (bz_t c1), i_chk k81, top_mtr hT1' t1 t2, i_bd, if_neg (bz_t c3), mi2, i_bd, if_neg (bz_t c4), i_chk k81, mof _ _ _ _ _ hT1', i_bd, if_pos (by rw [m63 c1]; exact c2), i_chk k81, ga, i_bd, i_chk hO1.1.1, es, o1, i_bd, gm, i_sb]
      dsimp only
      rw [m_chk hO1, o2, i_bd, i_pI (M := WC (asN (sI (WX W 75 R1 F1 S1) 139 2 0)) 1 (cqI T tr sl bu as B nt k.toNat) S2 ho2 ha2 sm2) hO1.1.1, i_sb, zi_sub]
  · obtain ⟨p1, hT1'⟩ := mk _ _ _ _ _ h
    have k81 : mK (sI M 139 2 0) 139 = 8 := k8
    refine ⟨zi (-999999), M, sI M 139 2 0, ?_, k8, ?_, TOP_E (TOP_U hT1' hU2)⟩
    · show g_X9_tried n M 0 (zi k) (zi t) (zi w) = _
      unfold g_X9_tried
      rw [xi1, i_bd]
      by_cases c1 : 1 ≤ k ∧ k ≤ 16
      · rw [if_neg (bz_t c1), i_chk k7, top_me h c1.1 c1.2, i_bd]
        by_cases c2 : B 0 + k ≤ 63
        · rw [if_neg (bz_t c2), i_chk k7, top_tr h t1 t2, i_bd]
          by_cases c3 : 0 ≤ t ∧ t < nt
          · rw [if_neg (bz_t c3), xi2, i_bd, if_pos (bz_f (fun c4 => C ⟨c1, c2, c3, c4⟩))]
            rfl
          · rw [if_pos (bz_f c3)]
            rfl
        · rw [if_pos (bz_f c2)]
          rfl
      · rw [if_pos (bz_f c1)]
        rfl
    · show g_X10_tried n M 139 (zi k) (zi t) (zi w) = _
      unfold g_X10_tried
      rw [p1, i_sb, mi1, i_bd]
      by_cases c1 : 1 ≤ k ∧ k ≤ 16
      · rw [if_neg (bz_t c1), i_chk k81, top_mtr hT1' t1 t2, i_bd]
        by_cases c3 : 0 ≤ t ∧ t < nt
        · rw [if_neg (bz_t c3), mi2, i_bd]
          by_cases c4 : 0 ≤ w ∧ w ≤ 3
          · rw [if_neg (bz_t c4), i_chk k81, mof _ _ _ _ _ hT1', i_bd, if_neg (by rw [m63 c1]; exact fun c2 => C ⟨c1, c2, c3, c4⟩)]
            rfl
          · rw [if_pos (bz_f c4)]
            rfl
        · rw [if_pos (bz_f c3)]
          rfl
      · rw [if_pos (bz_f c1)]
        rfl
end M17
