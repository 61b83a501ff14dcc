/-! ===== PURE 56: the calls that change, with the undo given ===== -/
/-- refused, or both change alike -/
def MP (gx gm : Option (Int32 × MemT)) (M Mx Mz Mu : MemT) (c : Nat) (R : Nat → Nat → Int32) (T B : Int → Int) (nt U : Int) : Prop := QP gx gm M Mz c R B ∨ ∃ v R1 B1 F1 S1 S2 ho2 ha2 sm2, gx = some (v, WX Mx c R1 F1 S1) ∧ gm = some (v, WC Mu 0 B1 S2 ho2 ha2 sm2) ∧ RBk T B1 nt R1 ∧ BI T nt (U + 100000) B1
theorem mp_no {gx gm : Option (Int32 × MemT)} {M Mx Mz Mu : MemT} {c : Nat} {R : Nat → Nat → Int32} {T B : Int → Int} {nt U : Int} (h : QP gx gm M Mz c R B) : MP gx gm M Mx Mz Mu c R T B nt U := Or.inl h
theorem mp_mk {gx gm : Option (Int32 × MemT)} {M Mx Mz Mu : MemT} {c : Nat} {R R1 : Nat → Nat → Int32} {T B B1 : Int → Int} {nt U : Int} {F1 : Nat → Int32} {S1 S2 : Int → Int} {ho2 ha2 : Int} {sm2 : Int32} (v : Int) (h3 : RBk T B1 nt R1) (h4 : BI T nt (U + 100000) B1) (h1 : gx = some (zi v, WX Mx c R1 F1 S1)) (h2 : gm = some (zi v, WC Mu 0 B1 S2 ho2 ha2 sm2)) : MP gx gm M Mx Mz Mu c R T B nt U := Or.inr ⟨_, _, _, _, _, _, _, _, _, h1, h2, h3, h4⟩
/-- the undo of both sides, as a call uses it -/
def UN (n : Nat) (M Mx M' Mu : MemT) (c : Nat) (R : Nat → Nat → Int32) (B : Int → Int) : Prop := ∃ p, mR M 0 6 = some p ∧ mK M p = 3 ∧ (∀ F S, g_X4_add n (WX M c R F S) p (c + 10) = some ((), WX Mx c R F S)) ∧ ∀ S ho ha sm, g_X10_canUndo n (WC (sI M' 139 2 0) 0 B S ho ha sm) 139 = some ((), WC Mu 0 B S ho ha sm)
theorem rzz_0 {M : MemT} : rz (zi 0) M = some (zi 0, M) := rfl
theorem rzz_1 {M : MemT} : rz (zi 1) M = some (zi 1, M) := rfl
theorem e4z : (zi 4 = zi 0) = False := eq_false (by decide)
section M2
variable {M Mx M' Mu : MemT} {c r : Nat} {R : Nat → Nat → Int32} {F : Nat → Int32} {S S' : Int → Int} {n : Nat} {T tr sl bu as B : Int → Int} {nt U ho ha : Int} {sm : Int32}
theorem xo4g {R1 : Nat → Nat → Int32} (h : XQr M c r R nt T tr sl bu as B U) : gO (WX M c R1 F S) 7 0 4 = some c := i_gO h.1.1 h.1.2.1
theorem xkog {R1 : Nat → Nat → Int32} {β : Type} {e : Option β} (h : XQr M c r R nt T tr sl bu as B U) : chk (WX M c R1 F S) 7 0 e = e := i_chk h.1.1
theorem c_w3 (h : CSh M c r) {k : Int} {v : Int32} (h0 : 0 ≤ k) (h1 : k < 4) : wI (WX M c R F S) (c + 10 + 1) (zi k) v = some (WX M c (up2 R 1 k.toNat v) F S) := x_w3 (M := WF M (c + 60) F S) (wx_B (F := F) (S := S) h) h0 h1
theorem c_w4 (h : CSh M c r) {k : Int} {v : Int32} (h0 : 0 ≤ k) (h1 : k < 4) : wI (WX M c R F S) (c + 10 + 2) (zi k) v = some (WX M c (up2 R 2 k.toNat v) F S) := x_w4 (M := WF M (c + 60) F S) (wx_B (F := F) (S := S) h) h0 h1
theorem P_sale (hx : XQr M c r R nt T tr sl bu as B U) (hm : MQr M' nt T tr sl bu as B U) (hx' : XQr Mx c r R nt T tr sl bu as B U) (hu : MQr Mu nt T tr sl bu as B U) (hN : UN n M Mx M' Mu c R B) (hn : 300 < n) (hU : U ≤ 99000000)  {t : Int} {s : Int} {x : Int} (t1 : -2147483648 ≤ t) (t2 : t ≤ 2147483647) (s1 : -2147483648 ≤ s) (s2 : s ≤ 2147483647) (x1 : -2147483648 ≤ x) (x2 : x ≤ 2147483647) : MP (g_X9_sale n (WX M c R F S) 0 (zi t) (zi s) (zi x)) (g_X10_sale n (WC M' 0 B S' ho ha sm) 139 (zi t) (zi s) (zi x)) M Mx (sI M' 139 2 0) Mu c R T B nt U := by
  have hm0 := mq_thr0 (v := zi 0) hm
  have hnt := hm.2.1
  have h8 := mq_8 hm
  obtain ⟨n1, n2⟩ := mq_N hm
  have hy : 0 ≤ yearZ B ∧ yearZ B < 16 := by unfold yearZ; omega
  have hT := hm.2.2.1
  have htr := hm.2.2.2.1
  have hAN := AN2_r (mq_N hm) hm.2.2.2.2.2.1.2.2.2.2.2.2.1
  have t1r := hT.2.1
  have t2r := hT.2.2
  obtain ⟨p, hp6, hp3, hadd, hund⟩ := hN
  have hund : ∀ S ho ha sm, g_X10_canUndo n (WC (sI M' 139 2 (zi 0)) 0 B S ho ha sm) 139 = some ((), WC Mu 0 B S ho ha sm) := hund
  have o6 : ∀ F S, gO (WX M c R F S) 7 0 6 = some p := fun F S => i_gO hx.1.1 hp6
  have k3 : ∀ {β : Type} {F S} {e : Option β}, chk (WX M c R F S) 3 p e = e := fun {β F S e} => i_chk hp3
  have r00 := (xq_R hx').1.1
  have r01 := (xq_R hx').1.2.1
  have hUU := hx.2.2.2.2
  by_cases c1 : 0 ≤ t ∧ t < nt
  · by_cases c2 : 0 ≤ s ∧ s ≤ 1
    · by_cases c3 : 1 ≤ x ∧ x ≤ 99999
      · obtain ⟨R1, g, hR1⟩ := c_add (n := n) (F := F) (S := S) (t := t) (q := B 0) (w := s) (v := x) hx' c1.1 (by omega) n1 n2 (by omega) (by omega)
        have hBI := BI_add (t := t) (q := B 0) (w := s) (x := x) hm.2.2.2.2.2.1 (by omega) c1.1 (by omega) n1 (Int.le_refl _) (by omega) (by omega) (by omega)
        have hs : 1 ≤ sumI t (B 0) s ∧ sumI t (B 0) s < 1281 := by unfold sumI; omega
        have es : (1 + 320 * t + 5 * B 0 + s : Int) = sumI t (B 0) s := rfl
        have ea : upZ B (sumI t (B 0) s) (B (sumI t (B 0) s) + x) (sumI t (B 0) s) = B (sumI t (B 0) s) + x := upZ_self
        have e0 : upZ B (sumI t (B 0) s) (B (sumI t (B 0) s) + x) 0 = B 0 := upZ_ne (by omega)
        refine mp_mk (B (sumI t (B 0) s) + x) (hR1) (hBI) (F1 := F) (S1 := S) (S2 := S') (ho2 := ho) (ha2 := ha) (sm2 := sm) ?_ ?_
        · unfold g_X9_sale
          simp (disch := omega) only [zl_0, zl_1, zl_2, zl_3, zl_4, zl_5, zl_6, zl_7, zl_8, zl_9, zl_10, zl_11, zl_12, zl_13, zl_15, zl_17, zl_27, zl_37, zl_47, zl_63, zl_99999, zl_999999, zl_9999, zl_1000, zl_40, zl_64, zl_16, zl_1289, zl_1545, zl_1801, zl_2068, zl_1865, zl_1866, zl_1867, zl_1868, zl_1281, zl_999, i_bd, i_sb, i_jp, bI_z, not_true_eq_false, not_false_eq_true, if_true, if_false, and_self, and_true, true_and, and_false, false_and, zi_neg, zi_sub, zi_add, zi_mul, xq_ko hx, xq_o4 hx, xq_tr hx, xq_as hx, xq_bg hx, xq_yr, x_isIn2, c_o1 (xq_C hx), c_o0 (xq_C hx), c_o5 (xq_C hx), c_kB (xq_C hx), c_kC (xq_C hx), c_kF (xq_C hx), c_now (xq_C hx), o6, k3, hadd, xq_o4 hx', c_o1 (xq_C hx'), c_now (xq_C hx'), c_kB (xq_C hx'), r00, c_o5 (xq_C hx'), xq_ko hx', c1, c2, c3, g]
        · unfold g_X10_sale
          simp (disch := omega) only [zl_0, zl_1, zl_2, zl_3, zl_4, zl_5, zl_6, zl_7, zl_8, zl_9, zl_10, zl_11, zl_12, zl_13, zl_15, zl_17, zl_27, zl_37, zl_47, zl_63, zl_99999, zl_999999, zl_9999, zl_1000, zl_40, zl_64, zl_16, zl_1289, zl_1545, zl_1801, zl_2068, zl_1865, zl_1866, zl_1867, zl_1868, zl_1281, zl_999, i_bd, i_sb, i_jp, bI_z, not_true_eq_false, not_false_eq_true, if_true, if_false, and_self, and_true, true_and, and_false, false_and, zi_neg, zi_sub, zi_add, zi_mul, m_thr0 (mq_h hm), m_chk (mq_h hm0), mq_tr hm0, mq_as hm0, mq_q, mq_y hm0, mq_yr hm0, m_isIn2, m_of (mq_h hm0), m_at (mq_h hm0), m_told1 (mq_h hm0), m_sumAt, m_told (mq_h hm0), m_T (mq_h hm0), hund, m_chk (mq_h hu), m_of (mq_h hu), m_sumAt, m_add (mq_h hu), m_at (mq_h hu), m_put (mq_h hu), m_lay (mq_h hu), c1, c2, c3, es, e0, ea]
          rfl
      · refine mp_no ?_
        refine qp_mk (-1) (F1 := F) (S1 := S) (S2 := S') (ho2 := ho) (ha2 := ha) (sm2 := sm) ?_ ?_
        · unfold g_X9_sale
          simp (disch := omega) only [zl_0, zl_1, zl_2, zl_3, zl_4, zl_5, zl_6, zl_7, zl_8, zl_9, zl_10, zl_11, zl_12, zl_13, zl_15, zl_17, zl_27, zl_37, zl_47, zl_63, zl_99999, zl_999999, zl_9999, zl_1000, zl_40, zl_64, zl_16, zl_1289, zl_1545, zl_1801, zl_2068, zl_1865, zl_1866, zl_1867, zl_1868, zl_1281, zl_999, i_bd, i_sb, i_jp, bI_z, not_true_eq_false, not_false_eq_true, if_true, if_false, and_self, and_true, true_and, and_false, false_and, zi_neg, zi_sub, zi_add, zi_mul, xq_ko hx, xq_o4 hx, xq_tr hx, xq_as hx, xq_bg hx, xq_yr, x_isIn2, c_o1 (xq_C hx), c_o0 (xq_C hx), c_o5 (xq_C hx), c_kB (xq_C hx), c_kC (xq_C hx), c_kF (xq_C hx), c_now (xq_C hx), c1, c2, c3]
        · unfold g_X10_sale
          simp (disch := omega) only [zl_0, zl_1, zl_2, zl_3, zl_4, zl_5, zl_6, zl_7, zl_8, zl_9, zl_10, zl_11, zl_12, zl_13, zl_15, zl_17, zl_27, zl_37, zl_47, zl_63, zl_99999, zl_999999, zl_9999, zl_1000, zl_40, zl_64, zl_16, zl_1289, zl_1545, zl_1801, zl_2068, zl_1865, zl_1866, zl_1867, zl_1868, zl_1281, zl_999, i_bd, i_sb, i_jp, bI_z, not_true_eq_false, not_false_eq_true, if_true, if_false, and_self, and_true, true_and, and_false, false_and, zi_neg, zi_sub, zi_add, zi_mul, m_thr0 (mq_h hm), m_chk (mq_h hm0), mq_tr hm0, mq_as hm0, mq_q, mq_y hm0, mq_yr hm0, m_isIn2, m_of (mq_h hm0), m_at (mq_h hm0), m_told1 (mq_h hm0), m_sumAt, m_told (mq_h hm0), m_T (mq_h hm0), c1, c2, c3]
    · refine mp_no ?_
      refine qp_mk (-1) (F1 := F) (S1 := S) (S2 := S') (ho2 := ho) (ha2 := ha) (sm2 := sm) ?_ ?_
      · unfold g_X9_sale
        simp (disch := omega) only [zl_0, zl_1, zl_2, zl_3, zl_4, zl_5, zl_6, zl_7, zl_8, zl_9, zl_10, zl_11, zl_12, zl_13, zl_15, zl_17, zl_27, zl_37, zl_47, zl_63, zl_99999, zl_999999, zl_9999, zl_1000, zl_40, zl_64, zl_16, zl_1289, zl_1545, zl_1801, zl_2068, zl_1865, zl_1866, zl_1867, zl_1868, zl_1281, zl_999, i_bd, i_sb, i_jp, bI_z, not_true_eq_false, not_false_eq_true, if_true, if_false, and_self, and_true, true_and, and_false, false_and, zi_neg, zi_sub, zi_add, zi_mul, xq_ko hx, xq_o4 hx, xq_tr hx, xq_as hx, xq_bg hx, xq_yr, x_isIn2, c_o1 (xq_C hx), c_o0 (xq_C hx), c_o5 (xq_C hx), c_kB (xq_C hx), c_kC (xq_C hx), c_kF (xq_C hx), c_now (xq_C hx), c1, c2]
      · unfold g_X10_sale
        simp (disch := omega) only [zl_0, zl_1, zl_2, zl_3, zl_4, zl_5, zl_6, zl_7, zl_8, zl_9, zl_10, zl_11, zl_12, zl_13, zl_15, zl_17, zl_27, zl_37, zl_47, zl_63, zl_99999, zl_999999, zl_9999, zl_1000, zl_40, zl_64, zl_16, zl_1289, zl_1545, zl_1801, zl_2068, zl_1865, zl_1866, zl_1867, zl_1868, zl_1281, zl_999, i_bd, i_sb, i_jp, bI_z, not_true_eq_false, not_false_eq_true, if_true, if_false, and_self, and_true, true_and, and_false, false_and, zi_neg, zi_sub, zi_add, zi_mul, m_thr0 (mq_h hm), m_chk (mq_h hm0), mq_tr hm0, mq_as hm0, mq_q, mq_y hm0, mq_yr hm0, m_isIn2, m_of (mq_h hm0), m_at (mq_h hm0), m_told1 (mq_h hm0), m_sumAt, m_told (mq_h hm0), m_T (mq_h hm0), c1, c2]
  · refine mp_no ?_
    refine qp_mk (-1) (F1 := F) (S1 := S) (S2 := S') (ho2 := ho) (ha2 := ha) (sm2 := sm) ?_ ?_
    · unfold g_X9_sale
      simp (disch := omega) only [zl_0, zl_1, zl_2, zl_3, zl_4, zl_5, zl_6, zl_7, zl_8, zl_9, zl_10, zl_11, zl_12, zl_13, zl_15, zl_17, zl_27, zl_37, zl_47, zl_63, zl_99999, zl_999999, zl_9999, zl_1000, zl_40, zl_64, zl_16, zl_1289, zl_1545, zl_1801, zl_2068, zl_1865, zl_1866, zl_1867, zl_1868, zl_1281, zl_999, i_bd, i_sb, i_jp, bI_z, not_true_eq_false, not_false_eq_true, if_true, if_false, and_self, and_true, true_and, and_false, false_and, zi_neg, zi_sub, zi_add, zi_mul, xq_ko hx, xq_o4 hx, xq_tr hx, xq_as hx, xq_bg hx, xq_yr, x_isIn2, c_o1 (xq_C hx), c_o0 (xq_C hx), c_o5 (xq_C hx), c_kB (xq_C hx), c_kC (xq_C hx), c_kF (xq_C hx), c_now (xq_C hx), c1]
    · unfold g_X10_sale
      simp (disch := omega) only [zl_0, zl_1, zl_2, zl_3, zl_4, zl_5, zl_6, zl_7, zl_8, zl_9, zl_10, zl_11, zl_12, zl_13, zl_15, zl_17, zl_27, zl_37, zl_47, zl_63, zl_99999, zl_999999, zl_9999, zl_1000, zl_40, zl_64, zl_16, zl_1289, zl_1545, zl_1801, zl_2068, zl_1865, zl_1866, zl_1867, zl_1868, zl_1281, zl_999, i_bd, i_sb, i_jp, bI_z, not_true_eq_false, not_false_eq_true, if_true, if_false, and_self, and_true, true_and, and_false, false_and, zi_neg, zi_sub, zi_add, zi_mul, m_thr0 (mq_h hm), m_chk (mq_h hm0), mq_tr hm0, mq_as hm0, mq_q, mq_y hm0, mq_yr hm0, m_isIn2, m_of (mq_h hm0), m_at (mq_h hm0), m_told1 (mq_h hm0), m_sumAt, m_told (mq_h hm0), m_T (mq_h hm0), c1]
theorem P_buy (hx : XQr M c r R nt T tr sl bu as B U) (hm : MQr M' nt T tr sl bu as B U) (hx' : XQr Mx c r R nt T tr sl bu as B U) (hu : MQr Mu nt T tr sl bu as B U) (hN : UN n M Mx M' Mu c R B) (hn : 300 < n) (hU : U ≤ 99000000)  {t : Int} {s : Int} {x : Int} (t1 : -2147483648 ≤ t) (t2 : t ≤ 2147483647) (s1 : -2147483648 ≤ s) (s2 : s ≤ 2147483647) (x1 : -2147483648 ≤ x) (x2 : x ≤ 2147483647) : MP (g_X9_buy n (WX M c R F S) 0 (zi t) (zi s) (zi x)) (g_X10_buy n (WC M' 0 B S' ho ha sm) 139 (zi t) (zi s) (zi x)) M Mx (sI M' 139 2 0) Mu c R T B nt U := by
  have hm0 := mq_thr0 (v := zi 0) hm
  have hnt := hm.2.1
  have h8 := mq_8 hm
  obtain ⟨n1, n2⟩ := mq_N hm
  have hy : 0 ≤ yearZ B ∧ yearZ B < 16 := by unfold yearZ; omega
  have hT := hm.2.2.1
  have htr := hm.2.2.2.1
  have hAN := AN2_r (mq_N hm) hm.2.2.2.2.2.1.2.2.2.2.2.2.1
  have t1r := hT.2.1
  have t2r := hT.2.2
  obtain ⟨p, hp6, hp3, hadd, hund⟩ := hN
  have hund : ∀ S ho ha sm, g_X10_canUndo n (WC (sI M' 139 2 (zi 0)) 0 B S ho ha sm) 139 = some ((), WC Mu 0 B S ho ha sm) := hund
  have o6 : ∀ F S, gO (WX M c R F S) 7 0 6 = some p := fun F S => i_gO hx.1.1 hp6
  have k3 : ∀ {β : Type} {F S} {e : Option β}, chk (WX M c R F S) 3 p e = e := fun {β F S e} => i_chk hp3
  have r00 := (xq_R hx').1.1
  have r01 := (xq_R hx').1.2.1
  have hUU := hx.2.2.2.2
  by_cases c1 : 0 ≤ t ∧ t < nt
  · by_cases c2 : 0 ≤ s ∧ s ≤ 2
    · by_cases c3 : 1 ≤ x ∧ x ≤ 9999
      · obtain ⟨R1, g, hR1⟩ := c_add (n := n) (F := F) (S := S) (t := t) (q := B 0) (w := (2 + s)) (v := x) hx' c1.1 (by omega) n1 n2 (by omega) (by omega)
        have hBI := BI_add (t := t) (q := B 0) (w := (2 + s)) (x := x) hm.2.2.2.2.2.1 (by omega) c1.1 (by omega) n1 (Int.le_refl _) (by omega) (by omega) (by omega)
        have hs : 1 ≤ sumI t (B 0) (2 + s) ∧ sumI t (B 0) (2 + s) < 1281 := by unfold sumI; omega
        have es : (1 + 320 * t + 5 * B 0 + (2 + s) : Int) = sumI t (B 0) (2 + s) := rfl
        have ea : upZ B (sumI t (B 0) (2 + s)) (B (sumI t (B 0) (2 + s)) + x) (sumI t (B 0) (2 + s)) = B (sumI t (B 0) (2 + s)) + x := upZ_self
        have e0 : upZ B (sumI t (B 0) (2 + s)) (B (sumI t (B 0) (2 + s)) + x) 0 = B 0 := upZ_ne (by omega)
        refine mp_mk (B (sumI t (B 0) (2 + s)) + x) (hR1) (hBI) (F1 := F) (S1 := S) (S2 := S') (ho2 := ho) (ha2 := ha) (sm2 := sm) ?_ ?_
        · unfold g_X9_buy
          simp (disch := omega) only [zl_0, zl_1, zl_2, zl_3, zl_4, zl_5, zl_6, zl_7, zl_8, zl_9, zl_10, zl_11, zl_12, zl_13, zl_15, zl_17, zl_27, zl_37, zl_47, zl_63, zl_99999, zl_999999, zl_9999, zl_1000, zl_40, zl_64, zl_16, zl_1289, zl_1545, zl_1801, zl_2068, zl_1865, zl_1866, zl_1867, zl_1868, zl_1281, zl_999, i_bd, i_sb, i_jp, bI_z, not_true_eq_false, not_false_eq_true, if_true, if_false, and_self, and_true, true_and, and_false, false_and, zi_neg, zi_sub, zi_add, zi_mul, xq_ko hx, xq_o4 hx, xq_tr hx, xq_as hx, xq_bg hx, xq_yr, x_isIn2, c_o1 (xq_C hx), c_o0 (xq_C hx), c_o5 (xq_C hx), c_kB (xq_C hx), c_kC (xq_C hx), c_kF (xq_C hx), c_now (xq_C hx), o6, k3, hadd, xq_o4 hx', c_o1 (xq_C hx'), c_now (xq_C hx'), c_kB (xq_C hx'), r00, c_o5 (xq_C hx'), xq_ko hx', c1, c2, c3, g]
        · unfold g_X10_buy
          simp (disch := omega) only [zl_0, zl_1, zl_2, zl_3, zl_4, zl_5, zl_6, zl_7, zl_8, zl_9, zl_10, zl_11, zl_12, zl_13, zl_15, zl_17, zl_27, zl_37, zl_47, zl_63, zl_99999, zl_999999, zl_9999, zl_1000, zl_40, zl_64, zl_16, zl_1289, zl_1545, zl_1801, zl_2068, zl_1865, zl_1866, zl_1867, zl_1868, zl_1281, zl_999, i_bd, i_sb, i_jp, bI_z, not_true_eq_false, not_false_eq_true, if_true, if_false, and_self, and_true, true_and, and_false, false_and, zi_neg, zi_sub, zi_add, zi_mul, m_thr0 (mq_h hm), m_chk (mq_h hm0), mq_tr hm0, mq_as hm0, mq_q, mq_y hm0, mq_yr hm0, m_isIn2, m_of (mq_h hm0), m_at (mq_h hm0), m_told1 (mq_h hm0), m_sumAt, m_told (mq_h hm0), m_T (mq_h hm0), hund, m_chk (mq_h hu), m_of (mq_h hu), m_sumAt, m_add (mq_h hu), m_at (mq_h hu), m_put (mq_h hu), m_lay (mq_h hu), c1, c2, c3, es, e0, ea]
          rfl
      · refine mp_no ?_
        refine qp_mk (-1) (F1 := F) (S1 := S) (S2 := S') (ho2 := ho) (ha2 := ha) (sm2 := sm) ?_ ?_
        · unfold g_X9_buy
          simp (disch := omega) only [zl_0, zl_1, zl_2, zl_3, zl_4, zl_5, zl_6, zl_7, zl_8, zl_9, zl_10, zl_11, zl_12, zl_13, zl_15, zl_17, zl_27, zl_37, zl_47, zl_63, zl_99999, zl_999999, zl_9999, zl_1000, zl_40, zl_64, zl_16, zl_1289, zl_1545, zl_1801, zl_2068, zl_1865, zl_1866, zl_1867, zl_1868, zl_1281, zl_999, i_bd, i_sb, i_jp, bI_z, not_true_eq_false, not_false_eq_true, if_true, if_false, and_self, and_true, true_and, and_false, false_and, zi_neg, zi_sub, zi_add, zi_mul, xq_ko hx, xq_o4 hx, xq_tr hx, xq_as hx, xq_bg hx, xq_yr, x_isIn2, c_o1 (xq_C hx), c_o0 (xq_C hx), c_o5 (xq_C hx), c_kB (xq_C hx), c_kC (xq_C hx), c_kF (xq_C hx), c_now (xq_C hx), c1, c2, c3]
        · unfold g_X10_buy
          simp (disch := omega) only [zl_0, zl_1, zl_2, zl_3, zl_4, zl_5, zl_6, zl_7, zl_8, zl_9, zl_10, zl_11, zl_12, zl_13, zl_15, zl_17, zl_27, zl_37, zl_47, zl_63, zl_99999, zl_999999, zl_9999, zl_1000, zl_40, zl_64, zl_16, zl_1289, zl_1545, zl_1801, zl_2068, zl_1865, zl_1866, zl_1867, zl_1868, zl_1281, zl_999, i_bd, i_sb, i_jp, bI_z, not_true_eq_false, not_false_eq_true, if_true, if_false, and_self, and_true, true_and, and_false, false_and, zi_neg, zi_sub, zi_add, zi_mul, m_thr0 (mq_h hm), m_chk (mq_h hm0), mq_tr hm0, mq_as hm0, mq_q, mq_y hm0, mq_yr hm0, m_isIn2, m_of (mq_h hm0), m_at (mq_h hm0), m_told1 (mq_h hm0), m_sumAt, m_told (mq_h hm0), m_T (mq_h hm0), c1, c2, c3]
    · refine mp_no ?_
      refine qp_mk (-1) (F1 := F) (S1 := S) (S2 := S') (ho2 := ho) (ha2 := ha) (sm2 := sm) ?_ ?_
      · unfold g_X9_buy
        simp (disch := omega) only [zl_0, zl_1, zl_2, zl_3, zl_4, zl_5, zl_6, zl_7, zl_8, zl_9, zl_10, zl_11, zl_12, zl_13, zl_15, zl_17, zl_27, zl_37, zl_47, zl_63, zl_99999, zl_999999, zl_9999, zl_1000, zl_40, zl_64, zl_16, zl_1289, zl_1545, zl_1801, zl_2068, zl_1865, zl_1866, zl_1867, zl_1868, zl_1281, zl_999, i_bd, i_sb, i_jp, bI_z, not_true_eq_false, not_false_eq_true, if_true, if_false, and_self, and_true, true_and, and_false, false_and, zi_neg, zi_sub, zi_add, zi_mul, xq_ko hx, xq_o4 hx, xq_tr hx, xq_as hx, xq_bg hx, xq_yr, x_isIn2, c_o1 (xq_C hx), c_o0 (xq_C hx), c_o5 (xq_C hx), c_kB (xq_C hx), c_kC (xq_C hx), c_kF (xq_C hx), c_now (xq_C hx), c1, c2]
      · unfold g_X10_buy
        simp (disch := omega) only [zl_0, zl_1, zl_2, zl_3, zl_4, zl_5, zl_6, zl_7, zl_8, zl_9, zl_10, zl_11, zl_12, zl_13, zl_15, zl_17, zl_27, zl_37, zl_47, zl_63, zl_99999, zl_999999, zl_9999, zl_1000, zl_40, zl_64, zl_16, zl_1289, zl_1545, zl_1801, zl_2068, zl_1865, zl_1866, zl_1867, zl_1868, zl_1281, zl_999, i_bd, i_sb, i_jp, bI_z, not_true_eq_false, not_false_eq_true, if_true, if_false, and_self, and_true, true_and, and_false, false_and, zi_neg, zi_sub, zi_add, zi_mul, m_thr0 (mq_h hm), m_chk (mq_h hm0), mq_tr hm0, mq_as hm0, mq_q, mq_y hm0, mq_yr hm0, m_isIn2, m_of (mq_h hm0), m_at (mq_h hm0), m_told1 (mq_h hm0), m_sumAt, m_told (mq_h hm0), m_T (mq_h hm0), c1, c2]
  · refine mp_no ?_
    refine qp_mk (-1) (F1 := F) (S1 := S) (S2 := S') (ho2 := ho) (ha2 := ha) (sm2 := sm) ?_ ?_
    · unfold g_X9_buy
      simp (disch := omega) only [zl_0, zl_1, zl_2, zl_3, zl_4, zl_5, zl_6, zl_7, zl_8, zl_9, zl_10, zl_11, zl_12, zl_13, zl_15, zl_17, zl_27, zl_37, zl_47, zl_63, zl_99999, zl_999999, zl_9999, zl_1000, zl_40, zl_64, zl_16, zl_1289, zl_1545, zl_1801, zl_2068, zl_1865, zl_1866, zl_1867, zl_1868, zl_1281, zl_999, i_bd, i_sb, i_jp, bI_z, not_true_eq_false, not_false_eq_true, if_true, if_false, and_self, and_true, true_and, and_false, false_and, zi_neg, zi_sub, zi_add, zi_mul, xq_ko hx, xq_o4 hx, xq_tr hx, xq_as hx, xq_bg hx, xq_yr, x_isIn2, c_o1 (xq_C hx), c_o0 (xq_C hx), c_o5 (xq_C hx), c_kB (xq_C hx), c_kC (xq_C hx), c_kF (xq_C hx), c_now (xq_C hx), c1]
    · unfold g_X10_buy
      simp (disch := omega) only [zl_0, zl_1, zl_2, zl_3, zl_4, zl_5, zl_6, zl_7, zl_8, zl_9, zl_10, zl_11, zl_12, zl_13, zl_15, zl_17, zl_27, zl_37, zl_47, zl_63, zl_99999, zl_999999, zl_9999, zl_1000, zl_40, zl_64, zl_16, zl_1289, zl_1545, zl_1801, zl_2068, zl_1865, zl_1866, zl_1867, zl_1868, zl_1281, zl_999, i_bd, i_sb, i_jp, bI_z, not_true_eq_false, not_false_eq_true, if_true, if_false, and_self, and_true, true_and, and_false, false_and, zi_neg, zi_sub, zi_add, zi_mul, m_thr0 (mq_h hm), m_chk (mq_h hm0), mq_tr hm0, mq_as hm0, mq_q, mq_y hm0, mq_yr hm0, m_isIn2, m_of (mq_h hm0), m_at (mq_h hm0), m_told1 (mq_h hm0), m_sumAt, m_told (mq_h hm0), m_T (mq_h hm0), c1]
theorem P_late (hx : XQr M c r R nt T tr sl bu as B U) (hm : MQr M' nt T tr sl bu as B U) (hx' : XQr Mx c r R nt T tr sl bu as B U) (hu : MQr Mu nt T tr sl bu as B U) (hN : UN n M Mx M' Mu c R B) (hn : 300 < n) (hU : U ≤ 99000000)  {t : Int} {q : Int} {k : Int} {x : Int} (t1 : -2147483648 ≤ t) (t2 : t ≤ 2147483647) (q1 : -2147483648 ≤ q) (q2 : q ≤ 2147483647) (k1 : -2147483648 ≤ k) (k2 : k ≤ 2147483647) (x1 : -2147483648 ≤ x) (x2 : x ≤ 2147483647) : MP (g_X9_late n (WX M c R F S) 0 (zi t) (zi q) (zi k) (zi x)) (g_X10_late n (WC M' 0 B S' ho ha sm) 139 (zi t) (zi q) (zi k) (zi x)) M Mx (sI M' 139 2 0) Mu c R T B nt U := by
  have hm0 := mq_thr0 (v := zi 0) hm
  have hnt := hm.2.1
  have h8 := mq_8 hm
  obtain ⟨n1, n2⟩ := mq_N hm
  have hy : 0 ≤ yearZ B ∧ yearZ B < 16 := by unfold yearZ; omega
  have hT := hm.2.2.1
  have htr := hm.2.2.2.1
  have hAN := AN2_r (mq_N hm) hm.2.2.2.2.2.1.2.2.2.2.2.2.1
  have t1r := hT.2.1
  have t2r := hT.2.2
  obtain ⟨p, hp6, hp3, hadd, hund⟩ := hN
  have hund : ∀ S ho ha sm, g_X10_canUndo n (WC (sI M' 139 2 (zi 0)) 0 B S ho ha sm) 139 = some ((), WC Mu 0 B S ho ha sm) := hund
  have o6 : ∀ F S, gO (WX M c R F S) 7 0 6 = some p := fun F S => i_gO hx.1.1 hp6
  have k3 : ∀ {β : Type} {F S} {e : Option β}, chk (WX M c R F S) 3 p e = e := fun {β F S e} => i_chk hp3
  have r00 := (xq_R hx').1.1
  have r01 := (xq_R hx').1.2.1
  have hUU := hx.2.2.2.2
  have e4 : 4 * yearZ B = B 0 / 4 * 4 := by unfold yearZ; omega
  by_cases c1 : 0 ≤ t ∧ t < nt
  · by_cases c2 : B 0 / 4 * 4 ≤ q ∧ q ≤ B 0 - 1
    · by_cases c3 : 0 ≤ k ∧ k ≤ 4
      · by_cases c4 : 1 ≤ x ∧ x ≤ 9999
        · obtain ⟨R1, g, hR1⟩ := c_add (n := n) (F := F) (S := S) (t := t) (q := q) (w := k) (v := x) hx' c1.1 (by omega) (by omega) (by omega) (by omega) (by omega)
          have hBI := BI_add (t := t) (q := q) (w := k) (x := x) hm.2.2.2.2.2.1 (by omega) c1.1 (by omega) (by omega) (by omega) (by omega) (by omega) (by omega)
          have hs : 1 ≤ sumI t q k ∧ sumI t q k < 1281 := by unfold sumI; omega
          have es : (1 + 320 * t + 5 * q + k : Int) = sumI t q k := rfl
          have ea : upZ B (sumI t q k) (B (sumI t q k) + x) (sumI t q k) = B (sumI t q k) + x := upZ_self
          refine mp_mk (B (sumI t q k) + x) (hR1) (hBI) (F1 := F) (S1 := S) (S2 := S') (ho2 := ho) (ha2 := ha) (sm2 := sm) ?_ ?_
          · unfold g_X9_late
            simp (disch := omega) only [zl_0, zl_1, zl_2, zl_3, zl_4, zl_5, zl_6, zl_7, zl_8, zl_9, zl_10, zl_11, zl_12, zl_13, zl_15, zl_17, zl_27, zl_37, zl_47, zl_63, zl_99999, zl_999999, zl_9999, zl_1000, zl_40, zl_64, zl_16, zl_1289, zl_1545, zl_1801, zl_2068, zl_1865, zl_1866, zl_1867, zl_1868, zl_1281, zl_999, i_bd, i_sb, i_jp, bI_z, not_true_eq_false, not_false_eq_true, if_true, if_false, and_self, and_true, true_and, and_false, false_and, zi_neg, zi_sub, zi_add, zi_mul, xq_ko hx, xq_o4 hx, xq_tr hx, xq_as hx, xq_bg hx, xq_yr, x_isIn2, c_o1 (xq_C hx), c_o0 (xq_C hx), c_o5 (xq_C hx), c_kB (xq_C hx), c_kC (xq_C hx), c_kF (xq_C hx), c_now (xq_C hx), o6, k3, hadd, xq_o4 hx', c_o1 (xq_C hx'), c_now (xq_C hx'), c_kB (xq_C hx'), r00, c_o5 (xq_C hx'), xq_ko hx', e4z, zi_div, c_now (xq_C hx), r00, c1, c2, c3, c4, g]
          · unfold g_X10_late
            simp (disch := omega) only [zl_0, zl_1, zl_2, zl_3, zl_4, zl_5, zl_6, zl_7, zl_8, zl_9, zl_10, zl_11, zl_12, zl_13, zl_15, zl_17, zl_27, zl_37, zl_47, zl_63, zl_99999, zl_999999, zl_9999, zl_1000, zl_40, zl_64, zl_16, zl_1289, zl_1545, zl_1801, zl_2068, zl_1865, zl_1866, zl_1867, zl_1868, zl_1281, zl_999, i_bd, i_sb, i_jp, bI_z, not_true_eq_false, not_false_eq_true, if_true, if_false, and_self, and_true, true_and, and_false, false_and, zi_neg, zi_sub, zi_add, zi_mul, m_thr0 (mq_h hm), m_chk (mq_h hm0), mq_tr hm0, mq_as hm0, mq_q, mq_y hm0, mq_yr hm0, m_isIn2, m_of (mq_h hm0), m_at (mq_h hm0), m_told1 (mq_h hm0), m_sumAt, m_told (mq_h hm0), m_T (mq_h hm0), hund, m_chk (mq_h hu), m_of (mq_h hu), m_sumAt, m_add (mq_h hu), m_at (mq_h hu), m_put (mq_h hu), m_lay (mq_h hu), e4, c1, c2, c3, c4, es, ea]
            rfl
        · refine mp_no ?_
          refine qp_mk (-1) (F1 := F) (S1 := S) (S2 := S') (ho2 := ho) (ha2 := ha) (sm2 := sm) ?_ ?_
          · unfold g_X9_late
            simp (disch := omega) only [zl_0, zl_1, zl_2, zl_3, zl_4, zl_5, zl_6, zl_7, zl_8, zl_9, zl_10, zl_11, zl_12, zl_13, zl_15, zl_17, zl_27, zl_37, zl_47, zl_63, zl_99999, zl_999999, zl_9999, zl_1000, zl_40, zl_64, zl_16, zl_1289, zl_1545, zl_1801, zl_2068, zl_1865, zl_1866, zl_1867, zl_1868, zl_1281, zl_999, i_bd, i_sb, i_jp, bI_z, not_true_eq_false, not_false_eq_true, if_true, if_false, and_self, and_true, true_and, and_false, false_and, zi_neg, zi_sub, zi_add, zi_mul, xq_ko hx, xq_o4 hx, xq_tr hx, xq_as hx, xq_bg hx, xq_yr, x_isIn2, c_o1 (xq_C hx), c_o0 (xq_C hx), c_o5 (xq_C hx), c_kB (xq_C hx), c_kC (xq_C hx), c_kF (xq_C hx), c_now (xq_C hx), e4z, zi_div, c_now (xq_C hx), r00, c1, c2, c3, c4]
          · unfold g_X10_late
            simp (disch := omega) only [zl_0, zl_1, zl_2, zl_3, zl_4, zl_5, zl_6, zl_7, zl_8, zl_9, zl_10, zl_11, zl_12, zl_13, zl_15, zl_17, zl_27, zl_37, zl_47, zl_63, zl_99999, zl_999999, zl_9999, zl_1000, zl_40, zl_64, zl_16, zl_1289, zl_1545, zl_1801, zl_2068, zl_1865, zl_1866, zl_1867, zl_1868, zl_1281, zl_999, i_bd, i_sb, i_jp, bI_z, not_true_eq_false, not_false_eq_true, if_true, if_false, and_self, and_true, true_and, and_false, false_and, zi_neg, zi_sub, zi_add, zi_mul, m_thr0 (mq_h hm), m_chk (mq_h hm0), mq_tr hm0, mq_as hm0, mq_q, mq_y hm0, mq_yr hm0, m_isIn2, m_of (mq_h hm0), m_at (mq_h hm0), m_told1 (mq_h hm0), m_sumAt, m_told (mq_h hm0), m_T (mq_h hm0), e4, c1, c2, c3, c4]
      · refine mp_no ?_
        refine qp_mk (-1) (F1 := F) (S1 := S) (S2 := S') (ho2 := ho) (ha2 := ha) (sm2 := sm) ?_ ?_
        · unfold g_X9_late
          simp (disch := omega) only [zl_0, zl_1, zl_2, zl_3, zl_4, zl_5, zl_6, zl_7, zl_8, zl_9, zl_10, zl_11, zl_12, zl_13, zl_15, zl_17, zl_27, zl_37, zl_47, zl_63, zl_99999, zl_999999, zl_9999, zl_1000, zl_40, zl_64, zl_16, zl_1289, zl_1545, zl_1801, zl_2068, zl_1865, zl_1866, zl_1867, zl_1868, zl_1281, zl_999, i_bd, i_sb, i_jp, bI_z, not_true_eq_false, not_false_eq_true, if_true, if_false, and_self, and_true, true_and, and_false, false_and, zi_neg, zi_sub, zi_add, zi_mul, xq_ko hx, xq_o4 hx, xq_tr hx, xq_as hx, xq_bg hx, xq_yr, x_isIn2, c_o1 (xq_C hx), c_o0 (xq_C hx), c_o5 (xq_C hx), c_kB (xq_C hx), c_kC (xq_C hx), c_kF (xq_C hx), c_now (xq_C hx), e4z, zi_div, c_now (xq_C hx), r00, c1, c2, c3]
        · unfold g_X10_late
          simp (disch := omega) only [zl_0, zl_1, zl_2, zl_3, zl_4, zl_5, zl_6, zl_7, zl_8, zl_9, zl_10, zl_11, zl_12, zl_13, zl_15, zl_17, zl_27, zl_37, zl_47, zl_63, zl_99999, zl_999999, zl_9999, zl_1000, zl_40, zl_64, zl_16, zl_1289, zl_1545, zl_1801, zl_2068, zl_1865, zl_1866, zl_1867, zl_1868, zl_1281, zl_999, i_bd, i_sb, i_jp, bI_z, not_true_eq_false, not_false_eq_true, if_true, if_false, and_self, and_true, true_and, and_false, false_and, zi_neg, zi_sub, zi_add, zi_mul, m_thr0 (mq_h hm), m_chk (mq_h hm0), mq_tr hm0, mq_as hm0, mq_q, mq_y hm0, mq_yr hm0, m_isIn2, m_of (mq_h hm0), m_at (mq_h hm0), m_told1 (mq_h hm0), m_sumAt, m_told (mq_h hm0), m_T (mq_h hm0), e4, c1, c2, c3]
    · refine mp_no ?_
      refine qp_mk (-1) (F1 := F) (S1 := S) (S2 := S') (ho2 := ho) (ha2 := ha) (sm2 := sm) ?_ ?_
      · unfold g_X9_late
        simp (disch := omega) only [zl_0, zl_1, zl_2, zl_3, zl_4, zl_5, zl_6, zl_7, zl_8, zl_9, zl_10, zl_11, zl_12, zl_13, zl_15, zl_17, zl_27, zl_37, zl_47, zl_63, zl_99999, zl_999999, zl_9999, zl_1000, zl_40, zl_64, zl_16, zl_1289, zl_1545, zl_1801, zl_2068, zl_1865, zl_1866, zl_1867, zl_1868, zl_1281, zl_999, i_bd, i_sb, i_jp, bI_z, not_true_eq_false, not_false_eq_true, if_true, if_false, and_self, and_true, true_and, and_false, false_and, zi_neg, zi_sub, zi_add, zi_mul, xq_ko hx, xq_o4 hx, xq_tr hx, xq_as hx, xq_bg hx, xq_yr, x_isIn2, c_o1 (xq_C hx), c_o0 (xq_C hx), c_o5 (xq_C hx), c_kB (xq_C hx), c_kC (xq_C hx), c_kF (xq_C hx), c_now (xq_C hx), e4z, zi_div, c_now (xq_C hx), r00, c1, c2]
      · unfold g_X10_late
        simp (disch := omega) only [zl_0, zl_1, zl_2, zl_3, zl_4, zl_5, zl_6, zl_7, zl_8, zl_9, zl_10, zl_11, zl_12, zl_13, zl_15, zl_17, zl_27, zl_37, zl_47, zl_63, zl_99999, zl_999999, zl_9999, zl_1000, zl_40, zl_64, zl_16, zl_1289, zl_1545, zl_1801, zl_2068, zl_1865, zl_1866, zl_1867, zl_1868, zl_1281, zl_999, i_bd, i_sb, i_jp, bI_z, not_true_eq_false, not_false_eq_true, if_true, if_false, and_self, and_true, true_and, and_false, false_and, zi_neg, zi_sub, zi_add, zi_mul, m_thr0 (mq_h hm), m_chk (mq_h hm0), mq_tr hm0, mq_as hm0, mq_q, mq_y hm0, mq_yr hm0, m_isIn2, m_of (mq_h hm0), m_at (mq_h hm0), m_told1 (mq_h hm0), m_sumAt, m_told (mq_h hm0), m_T (mq_h hm0), e4, c1, c2]
  · refine mp_no ?_
    refine qp_mk (-1) (F1 := F) (S1 := S) (S2 := S') (ho2 := ho) (ha2 := ha) (sm2 := sm) ?_ ?_
    · unfold g_X9_late
      simp (disch := omega) only [zl_0, zl_1, zl_2, zl_3, zl_4, zl_5, zl_6, zl_7, zl_8, zl_9, zl_10, zl_11, zl_12, zl_13, zl_15, zl_17, zl_27, zl_37, zl_47, zl_63, zl_99999, zl_999999, zl_9999, zl_1000, zl_40, zl_64, zl_16, zl_1289, zl_1545, zl_1801, zl_2068, zl_1865, zl_1866, zl_1867, zl_1868, zl_1281, zl_999, i_bd, i_sb, i_jp, bI_z, not_true_eq_false, not_false_eq_true, if_true, if_false, and_self, and_true, true_and, and_false, false_and, zi_neg, zi_sub, zi_add, zi_mul, xq_ko hx, xq_o4 hx, xq_tr hx, xq_as hx, xq_bg hx, xq_yr, x_isIn2, c_o1 (xq_C hx), c_o0 (xq_C hx), c_o5 (xq_C hx), c_kB (xq_C hx), c_kC (xq_C hx), c_kF (xq_C hx), c_now (xq_C hx), e4z, zi_div, c_now (xq_C hx), r00, c1]
    · unfold g_X10_late
      simp (disch := omega) only [zl_0, zl_1, zl_2, zl_3, zl_4, zl_5, zl_6, zl_7, zl_8, zl_9, zl_10, zl_11, zl_12, zl_13, zl_15, zl_17, zl_27, zl_37, zl_47, zl_63, zl_99999, zl_999999, zl_9999, zl_1000, zl_40, zl_64, zl_16, zl_1289, zl_1545, zl_1801, zl_2068, zl_1865, zl_1866, zl_1867, zl_1868, zl_1281, zl_999, i_bd, i_sb, i_jp, bI_z, not_true_eq_false, not_false_eq_true, if_true, if_false, and_self, and_true, true_and, and_false, false_and, zi_neg, zi_sub, zi_add, zi_mul, m_thr0 (mq_h hm), m_chk (mq_h hm0), mq_tr hm0, mq_as hm0, mq_q, mq_y hm0, mq_yr hm0, m_isIn2, m_of (mq_h hm0), m_at (mq_h hm0), m_told1 (mq_h hm0), m_sumAt, m_told (mq_h hm0), m_T (mq_h hm0), c1]
theorem P_heads (hx : XQr M c r R nt T tr sl bu as B U) (hm : MQr M' nt T tr sl bu as B U) (hx' : XQr Mx c r R nt T tr sl bu as B U) (hu : MQr Mu nt T tr sl bu as B U) (hN : UN n M Mx M' Mu c R B) (hn : 300 < n) (hU : U ≤ 99000000)  {t : Int} {o : Int} {a : Int} (t1 : -2147483648 ≤ t) (t2 : t ≤ 2147483647) (o1 : -2147483648 ≤ o) (o2 : o ≤ 2147483647) (a1 : -2147483648 ≤ a) (a2 : a ≤ 2147483647) : MP (g_X9_heads n (WX M c R F S) 0 (zi t) (zi o) (zi a)) (g_X10_heads n (WC M' 0 B S' ho ha sm) 139 (zi t) (zi o) (zi a)) M Mx (sI M' 139 2 0) Mu c R T B nt U := by
  have hm0 := mq_thr0 (v := zi 0) hm
  have hnt := hm.2.1
  have h8 := mq_8 hm
  obtain ⟨n1, n2⟩ := mq_N hm
  have hy : 0 ≤ yearZ B ∧ yearZ B < 16 := by unfold yearZ; omega
  have hT := hm.2.2.1
  have htr := hm.2.2.2.1
  have hAN := AN2_r (mq_N hm) hm.2.2.2.2.2.1.2.2.2.2.2.2.1
  have t1r := hT.2.1
  have t2r := hT.2.2
  obtain ⟨p, hp6, hp3, hadd, hund⟩ := hN
  have hund : ∀ S ho ha sm, g_X10_canUndo n (WC (sI M' 139 2 (zi 0)) 0 B S ho ha sm) 139 = some ((), WC Mu 0 B S ho ha sm) := hund
  have o6 : ∀ F S, gO (WX M c R F S) 7 0 6 = some p := fun F S => i_gO hx.1.1 hp6
  have k3 : ∀ {β : Type} {F S} {e : Option β}, chk (WX M c R F S) 3 p e = e := fun {β F S e} => i_chk hp3
  have r00 := (xq_R hx').1.1
  have r01 := (xq_R hx').1.2.1
  have hUU := hx.2.2.2.2
  by_cases c1 : 0 ≤ t ∧ t < nt
  · by_cases c2 : 0 ≤ a ∧ a ≤ 999
    · by_cases c3 : 0 ≤ o ∧ o ≤ a
      · have hR1 := RBk_head (o := o) (a := a) hx'.2.1.2.2.1 hx'.2.2.2.1 c1.1 (show t < 4 by omega)
        have hBI := BI_le (V := U + 100000) (BI_head hm.2.2.2.2.2.1 c1.1 (show t < 4 by omega) c3.1 c3.2 c2.2) (by omega)
        have t4 : t < 4 := by omega
        have e82 : (1281 + 2 * t + 1 : Int) = 1282 + 2 * t := by omega
        refine mp_mk (1) (hR1) (hBI) (F1 := F) (S1 := S) (S2 := S') (ho2 := ho) (ha2 := ha) (sm2 := sm) ?_ ?_
        · unfold g_X9_heads
          simp (disch := omega) only [zl_0, zl_1, zl_2, zl_3, zl_4, zl_5, zl_6, zl_7, zl_8, zl_9, zl_10, zl_11, zl_12, zl_13, zl_15, zl_17, zl_27, zl_37, zl_47, zl_63, zl_99999, zl_999999, zl_9999, zl_1000, zl_40, zl_64, zl_16, zl_1289, zl_1545, zl_1801, zl_2068, zl_1865, zl_1866, zl_1867, zl_1868, zl_1281, zl_999, i_bd, i_sb, i_jp, bI_z, not_true_eq_false, not_false_eq_true, if_true, if_false, and_self, and_true, true_and, and_false, false_and, zi_neg, zi_sub, zi_add, zi_mul, xq_ko hx, xq_o4 hx, xq_tr hx, xq_as hx, xq_bg hx, xq_yr, x_isIn2, c_o1 (xq_C hx), c_o0 (xq_C hx), c_o5 (xq_C hx), c_kB (xq_C hx), c_kC (xq_C hx), c_kF (xq_C hx), c_now (xq_C hx), o6, k3, hadd, xq_o4 hx', c_o1 (xq_C hx'), c_now (xq_C hx'), c_kB (xq_C hx'), r00, c_o5 (xq_C hx'), xq_ko hx', rzz_0, rzz_1, c1, c2, c3, xo4g hx', c_b3 (xq_C hx'), c_b4 (xq_C hx'), c_w3 (xq_C hx'), c_w4 (xq_C hx')]
        · unfold g_X10_heads
          simp (disch := omega) only [zl_0, zl_1, zl_2, zl_3, zl_4, zl_5, zl_6, zl_7, zl_8, zl_9, zl_10, zl_11, zl_12, zl_13, zl_15, zl_17, zl_27, zl_37, zl_47, zl_63, zl_99999, zl_999999, zl_9999, zl_1000, zl_40, zl_64, zl_16, zl_1289, zl_1545, zl_1801, zl_2068, zl_1865, zl_1866, zl_1867, zl_1868, zl_1281, zl_999, i_bd, i_sb, i_jp, bI_z, not_true_eq_false, not_false_eq_true, if_true, if_false, and_self, and_true, true_and, and_false, false_and, zi_neg, zi_sub, zi_add, zi_mul, m_thr0 (mq_h hm), m_chk (mq_h hm0), mq_tr hm0, mq_as hm0, mq_q, mq_y hm0, mq_yr hm0, m_isIn2, m_of (mq_h hm0), m_at (mq_h hm0), m_told1 (mq_h hm0), m_sumAt, m_told (mq_h hm0), m_T (mq_h hm0), hund, m_chk (mq_h hu), m_of (mq_h hu), m_sumAt, m_add (mq_h hu), m_at (mq_h hu), m_put (mq_h hu), m_lay (mq_h hu), rzz_0, rzz_1, c1, c2, c3, e82]
      · refine mp_no ?_
        refine qp_mk (0) (F1 := F) (S1 := S) (S2 := S') (ho2 := ho) (ha2 := ha) (sm2 := sm) ?_ ?_
        · unfold g_X9_heads
          simp (disch := omega) only [zl_0, zl_1, zl_2, zl_3, zl_4, zl_5, zl_6, zl_7, zl_8, zl_9, zl_10, zl_11, zl_12, zl_13, zl_15, zl_17, zl_27, zl_37, zl_47, zl_63, zl_99999, zl_999999, zl_9999, zl_1000, zl_40, zl_64, zl_16, zl_1289, zl_1545, zl_1801, zl_2068, zl_1865, zl_1866, zl_1867, zl_1868, zl_1281, zl_999, i_bd, i_sb, i_jp, bI_z, not_true_eq_false, not_false_eq_true, if_true, if_false, and_self, and_true, true_and, and_false, false_and, zi_neg, zi_sub, zi_add, zi_mul, xq_ko hx, xq_o4 hx, xq_tr hx, xq_as hx, xq_bg hx, xq_yr, x_isIn2, c_o1 (xq_C hx), c_o0 (xq_C hx), c_o5 (xq_C hx), c_kB (xq_C hx), c_kC (xq_C hx), c_kF (xq_C hx), c_now (xq_C hx), rzz_0, rzz_1, c1, c2, c3]
        · unfold g_X10_heads
          simp (disch := omega) only [zl_0, zl_1, zl_2, zl_3, zl_4, zl_5, zl_6, zl_7, zl_8, zl_9, zl_10, zl_11, zl_12, zl_13, zl_15, zl_17, zl_27, zl_37, zl_47, zl_63, zl_99999, zl_999999, zl_9999, zl_1000, zl_40, zl_64, zl_16, zl_1289, zl_1545, zl_1801, zl_2068, zl_1865, zl_1866, zl_1867, zl_1868, zl_1281, zl_999, i_bd, i_sb, i_jp, bI_z, not_true_eq_false, not_false_eq_true, if_true, if_false, and_self, and_true, true_and, and_false, false_and, zi_neg, zi_sub, zi_add, zi_mul, m_thr0 (mq_h hm), m_chk (mq_h hm0), mq_tr hm0, mq_as hm0, mq_q, mq_y hm0, mq_yr hm0, m_isIn2, m_of (mq_h hm0), m_at (mq_h hm0), m_told1 (mq_h hm0), m_sumAt, m_told (mq_h hm0), m_T (mq_h hm0), rzz_0, rzz_1, c1, c2, c3]
    · refine mp_no ?_
      refine qp_mk (0) (F1 := F) (S1 := S) (S2 := S') (ho2 := ho) (ha2 := ha) (sm2 := sm) ?_ ?_
      · unfold g_X9_heads
        simp (disch := omega) only [zl_0, zl_1, zl_2, zl_3, zl_4, zl_5, zl_6, zl_7, zl_8, zl_9, zl_10, zl_11, zl_12, zl_13, zl_15, zl_17, zl_27, zl_37, zl_47, zl_63, zl_99999, zl_999999, zl_9999, zl_1000, zl_40, zl_64, zl_16, zl_1289, zl_1545, zl_1801, zl_2068, zl_1865, zl_1866, zl_1867, zl_1868, zl_1281, zl_999, i_bd, i_sb, i_jp, bI_z, not_true_eq_false, not_false_eq_true, if_true, if_false, and_self, and_true, true_and, and_false, false_and, zi_neg, zi_sub, zi_add, zi_mul, xq_ko hx, xq_o4 hx, xq_tr hx, xq_as hx, xq_bg hx, xq_yr, x_isIn2, c_o1 (xq_C hx), c_o0 (xq_C hx), c_o5 (xq_C hx), c_kB (xq_C hx), c_kC (xq_C hx), c_kF (xq_C hx), c_now (xq_C hx), rzz_0, rzz_1, c1, c2]
      · unfold g_X10_heads
        simp (disch := omega) only [zl_0, zl_1, zl_2, zl_3, zl_4, zl_5, zl_6, zl_7, zl_8, zl_9, zl_10, zl_11, zl_12, zl_13, zl_15, zl_17, zl_27, zl_37, zl_47, zl_63, zl_99999, zl_999999, zl_9999, zl_1000, zl_40, zl_64, zl_16, zl_1289, zl_1545, zl_1801, zl_2068, zl_1865, zl_1866, zl_1867, zl_1868, zl_1281, zl_999, i_bd, i_sb, i_jp, bI_z, not_true_eq_false, not_false_eq_true, if_true, if_false, and_self, and_true, true_and, and_false, false_and, zi_neg, zi_sub, zi_add, zi_mul, m_thr0 (mq_h hm), m_chk (mq_h hm0), mq_tr hm0, mq_as hm0, mq_q, mq_y hm0, mq_yr hm0, m_isIn2, m_of (mq_h hm0), m_at (mq_h hm0), m_told1 (mq_h hm0), m_sumAt, m_told (mq_h hm0), m_T (mq_h hm0), rzz_0, rzz_1, c1, c2]
  · refine mp_no ?_
    refine qp_mk (0) (F1 := F) (S1 := S) (S2 := S') (ho2 := ho) (ha2 := ha) (sm2 := sm) ?_ ?_
    · unfold g_X9_heads
      simp (disch := omega) only [zl_0, zl_1, zl_2, zl_3, zl_4, zl_5, zl_6, zl_7, zl_8, zl_9, zl_10, zl_11, zl_12, zl_13, zl_15, zl_17, zl_27, zl_37, zl_47, zl_63, zl_99999, zl_999999, zl_9999, zl_1000, zl_40, zl_64, zl_16, zl_1289, zl_1545, zl_1801, zl_2068, zl_1865, zl_1866, zl_1867, zl_1868, zl_1281, zl_999, i_bd, i_sb, i_jp, bI_z, not_true_eq_false, not_false_eq_true, if_true, if_false, and_self, and_true, true_and, and_false, false_and, zi_neg, zi_sub, zi_add, zi_mul, xq_ko hx, xq_o4 hx, xq_tr hx, xq_as hx, xq_bg hx, xq_yr, x_isIn2, c_o1 (xq_C hx), c_o0 (xq_C hx), c_o5 (xq_C hx), c_kB (xq_C hx), c_kC (xq_C hx), c_kF (xq_C hx), c_now (xq_C hx), rzz_0, rzz_1, c1]
    · unfold g_X10_heads
      simp (disch := omega) only [zl_0, zl_1, zl_2, zl_3, zl_4, zl_5, zl_6, zl_7, zl_8, zl_9, zl_10, zl_11, zl_12, zl_13, zl_15, zl_17, zl_27, zl_37, zl_47, zl_63, zl_99999, zl_999999, zl_9999, zl_1000, zl_40, zl_64, zl_16, zl_1289, zl_1545, zl_1801, zl_2068, zl_1865, zl_1866, zl_1867, zl_1868, zl_1281, zl_999, i_bd, i_sb, i_jp, bI_z, not_true_eq_false, not_false_eq_true, if_true, if_false, and_self, and_true, true_and, and_false, false_and, zi_neg, zi_sub, zi_add, zi_mul, m_thr0 (mq_h hm), m_chk (mq_h hm0), mq_tr hm0, mq_as hm0, mq_q, mq_y hm0, mq_yr hm0, m_isIn2, m_of (mq_h hm0), m_at (mq_h hm0), m_told1 (mq_h hm0), m_sumAt, m_told (mq_h hm0), m_T (mq_h hm0), rzz_0, rzz_1, c1]
theorem P_hand (hx : XQr M c r R nt T tr sl bu as B U) (hm : MQr M' nt T tr sl bu as B U) (hx' : XQr Mx c r R nt T tr sl bu as B U) (hu : MQr Mu nt T tr sl bu as B U) (hN : UN n M Mx M' Mu c R B) (hn : 300 < n) (hU : U ≤ 99000000)  {a : Int} {t : Int} (a1 : -2147483648 ≤ a) (a2 : a ≤ 2147483647) (t1 : -2147483648 ≤ t) (t2 : t ≤ 2147483647) : MP (g_X9_hand n (WX M c R F S) 0 (zi a) (zi t)) (g_X10_hand n (WC M' 0 B S' ho ha sm) 139 (zi a) (zi t)) M Mx (sI M' 139 2 0) Mu c R T B nt U := by
  have hm0 := mq_thr0 (v := zi 0) hm
  have hnt := hm.2.1
  have h8 := mq_8 hm
  obtain ⟨n1, n2⟩ := mq_N hm
  have hy : 0 ≤ yearZ B ∧ yearZ B < 16 := by unfold yearZ; omega
  have hT := hm.2.2.1
  have htr := hm.2.2.2.1
  have hAN := AN2_r (mq_N hm) hm.2.2.2.2.2.1.2.2.2.2.2.2.1
  have t1r := hT.2.1
  have t2r := hT.2.2
  obtain ⟨p, hp6, hp3, hadd, hund⟩ := hN
  have hund : ∀ S ho ha sm, g_X10_canUndo n (WC (sI M' 139 2 (zi 0)) 0 B S ho ha sm) 139 = some ((), WC Mu 0 B S ho ha sm) := hund
  have o6 : ∀ F S, gO (WX M c R F S) 7 0 6 = some p := fun F S => i_gO hx.1.1 hp6
  have k3 : ∀ {β : Type} {F S} {e : Option β}, chk (WX M c R F S) 3 p e = e := fun {β F S e} => i_chk hp3
  have r00 := (xq_R hx').1.1
  have r01 := (xq_R hx').1.2.1
  have hUU := hx.2.2.2.2
  by_cases c1 : 0 ≤ a ∧ a < B 1865
  · obtain ⟨a', rfl⟩ := Int.eq_ofNat_of_zero_le c1.1
    have a8 : a' < 8 := by omega
    have ra := hx.2.1.2.2.1.2.2 a' c1.2
    have ax := mq_A hm c1.1 c1.2
    have e9 := ax.1.2.2.2.2.2.2.2.2.2.1
    have e47 := ax.1.2.2.2.2.2.2.2.2.2.2.2.2
    have e4 := ax.1.2.2.2.2.1
    by_cases c2 : 0 ≤ t ∧ t < nt
    · by_cases c3 : ¬ (AtZ B a' 9 = 1 ∨ 0 < AtZ B a' 7)
      · have c9 : AtZ B a' 9 ≠ 1 := fun q => c3 (Or.inl q)
        have hBI : BI T nt (U + 100000) (upZ B (2084 + 48 * (a' : Int) + 1) t) := BI_le (V := U + 100000) (BI_row hm.2.2.2.2.2.1 c1.1 (fun i hi => upZ_ne (by omega)) (AX_set1 ax c1.1 c2 hnt.2)) (by omega)
        have hR1 : RBk T (upZ B (2084 + 48 * (a' : Int) + 1) t) nt (up2 R (10 + 5 * a') 1 (zi t)) := RBk_row hx'.2.1.2.2.1 hx'.2.2.2.1 hnt.2 (a := a') (fun i hi => upZ_ne (by omega)) (fun o ho => funext fun j => up2_o ho) (RA_set ra e47.2 (k := 1) (Or.inl rfl))
        refine mp_mk (AtZ B a' 1) (hR1) (hBI) (F1 := F) (S1 := S) (S2 := S') (ho2 := ho) (ha2 := ha) (sm2 := sm) ?_ ?_
        · unfold g_X9_hand
          simp (disch := omega) only [zl_0, zl_1, zl_2, zl_3, zl_4, zl_5, zl_6, zl_7, zl_8, zl_9, zl_10, zl_11, zl_12, zl_13, zl_15, zl_17, zl_27, zl_37, zl_47, zl_63, zl_99999, zl_999999, zl_9999, zl_1000, zl_40, zl_64, zl_16, zl_1289, zl_1545, zl_1801, zl_2068, zl_1865, zl_1866, zl_1867, zl_1868, zl_1281, zl_999, i_bd, i_sb, i_jp, bI_z, not_true_eq_false, not_false_eq_true, if_true, if_false, and_self, and_true, true_and, and_false, false_and, zi_neg, zi_sub, zi_add, zi_mul, xq_ko hx, xq_o4 hx, xq_tr hx, xq_as hx, xq_bg hx, xq_yr, x_isIn2, c_o1 (xq_C hx), c_o0 (xq_C hx), c_o5 (xq_C hx), c_kB (xq_C hx), c_kC (xq_C hx), c_kF (xq_C hx), c_now (xq_C hx), o6, k3, hadd, xq_o4 hx', c_o1 (xq_C hx'), c_now (xq_C hx'), c_kB (xq_C hx'), r00, c_o5 (xq_C hx'), xq_ko hx', c1, c_oA (xq_C hx) a8, c_gA (xq_C hx) a8, c_kA (xq_C hx) a8, c2, xq_free hx c1.2, c3, c_gA (xq_C hx') a8, c_pA (xq_C hx') a8, ra.1.2.1]
        · unfold g_X10_hand
          simp (disch := omega) only [zl_0, zl_1, zl_2, zl_3, zl_4, zl_5, zl_6, zl_7, zl_8, zl_9, zl_10, zl_11, zl_12, zl_13, zl_15, zl_17, zl_27, zl_37, zl_47, zl_63, zl_99999, zl_999999, zl_9999, zl_1000, zl_40, zl_64, zl_16, zl_1289, zl_1545, zl_1801, zl_2068, zl_1865, zl_1866, zl_1867, zl_1868, zl_1281, zl_999, i_bd, i_sb, i_jp, bI_z, not_true_eq_false, not_false_eq_true, if_true, if_false, and_self, and_true, true_and, and_false, false_and, zi_neg, zi_sub, zi_add, zi_mul, m_thr0 (mq_h hm), m_chk (mq_h hm0), mq_tr hm0, mq_as hm0, mq_q, mq_y hm0, mq_yr hm0, m_isIn2, m_of (mq_h hm0), m_at (mq_h hm0), m_told1 (mq_h hm0), m_sumAt, m_told (mq_h hm0), m_T (mq_h hm0), hund, m_chk (mq_h hu), m_of (mq_h hu), m_sumAt, m_add (mq_h hu), m_at (mq_h hu), m_put (mq_h hu), m_lay (mq_h hu), c1, c2, mq_gone hm0 c1.1 c1.2, c3]
          rfl
      · have c3' : AtZ B a' 9 = 1 ∨ 0 < AtZ B a' 7 := Classical.not_not.mp c3
        refine mp_no ?_
        refine qp_mk (-2) (F1 := F) (S1 := S) (S2 := S') (ho2 := ho) (ha2 := ha) (sm2 := sm) ?_ ?_
        · unfold g_X9_hand
          simp (disch := omega) only [zl_0, zl_1, zl_2, zl_3, zl_4, zl_5, zl_6, zl_7, zl_8, zl_9, zl_10, zl_11, zl_12, zl_13, zl_15, zl_17, zl_27, zl_37, zl_47, zl_63, zl_99999, zl_999999, zl_9999, zl_1000, zl_40, zl_64, zl_16, zl_1289, zl_1545, zl_1801, zl_2068, zl_1865, zl_1866, zl_1867, zl_1868, zl_1281, zl_999, i_bd, i_sb, i_jp, bI_z, not_true_eq_false, not_false_eq_true, if_true, if_false, and_self, and_true, true_and, and_false, false_and, zi_neg, zi_sub, zi_add, zi_mul, xq_ko hx, xq_o4 hx, xq_tr hx, xq_as hx, xq_bg hx, xq_yr, x_isIn2, c_o1 (xq_C hx), c_o0 (xq_C hx), c_o5 (xq_C hx), c_kB (xq_C hx), c_kC (xq_C hx), c_kF (xq_C hx), c_now (xq_C hx), c1, c_oA (xq_C hx) a8, c_gA (xq_C hx) a8, c_kA (xq_C hx) a8, xq_free hx c1.2, c2, c3']
        · unfold g_X10_hand
          simp (disch := omega) only [zl_0, zl_1, zl_2, zl_3, zl_4, zl_5, zl_6, zl_7, zl_8, zl_9, zl_10, zl_11, zl_12, zl_13, zl_15, zl_17, zl_27, zl_37, zl_47, zl_63, zl_99999, zl_999999, zl_9999, zl_1000, zl_40, zl_64, zl_16, zl_1289, zl_1545, zl_1801, zl_2068, zl_1865, zl_1866, zl_1867, zl_1868, zl_1281, zl_999, i_bd, i_sb, i_jp, bI_z, not_true_eq_false, not_false_eq_true, if_true, if_false, and_self, and_true, true_and, and_false, false_and, zi_neg, zi_sub, zi_add, zi_mul, m_thr0 (mq_h hm), m_chk (mq_h hm0), mq_tr hm0, mq_as hm0, mq_q, mq_y hm0, mq_yr hm0, m_isIn2, m_of (mq_h hm0), m_at (mq_h hm0), m_told1 (mq_h hm0), m_sumAt, m_told (mq_h hm0), m_T (mq_h hm0), c1, mq_gone hm0 c1.1 c1.2, c2, c3']
    · refine mp_no ?_
      refine qp_mk (-1) (F1 := F) (S1 := S) (S2 := S') (ho2 := ho) (ha2 := ha) (sm2 := sm) ?_ ?_
      · unfold g_X9_hand
        simp (disch := omega) only [zl_0, zl_1, zl_2, zl_3, zl_4, zl_5, zl_6, zl_7, zl_8, zl_9, zl_10, zl_11, zl_12, zl_13, zl_15, zl_17, zl_27, zl_37, zl_47, zl_63, zl_99999, zl_999999, zl_9999, zl_1000, zl_40, zl_64, zl_16, zl_1289, zl_1545, zl_1801, zl_2068, zl_1865, zl_1866, zl_1867, zl_1868, zl_1281, zl_999, i_bd, i_sb, i_jp, bI_z, not_true_eq_false, not_false_eq_true, if_true, if_false, and_self, and_true, true_and, and_false, false_and, zi_neg, zi_sub, zi_add, zi_mul, xq_ko hx, xq_o4 hx, xq_tr hx, xq_as hx, xq_bg hx, xq_yr, x_isIn2, c_o1 (xq_C hx), c_o0 (xq_C hx), c_o5 (xq_C hx), c_kB (xq_C hx), c_kC (xq_C hx), c_kF (xq_C hx), c_now (xq_C hx), c1, c_oA (xq_C hx) a8, c_gA (xq_C hx) a8, c_kA (xq_C hx) a8, c2]
      · unfold g_X10_hand
        simp (disch := omega) only [zl_0, zl_1, zl_2, zl_3, zl_4, zl_5, zl_6, zl_7, zl_8, zl_9, zl_10, zl_11, zl_12, zl_13, zl_15, zl_17, zl_27, zl_37, zl_47, zl_63, zl_99999, zl_999999, zl_9999, zl_1000, zl_40, zl_64, zl_16, zl_1289, zl_1545, zl_1801, zl_2068, zl_1865, zl_1866, zl_1867, zl_1868, zl_1281, zl_999, i_bd, i_sb, i_jp, bI_z, not_true_eq_false, not_false_eq_true, if_true, if_false, and_self, and_true, true_and, and_false, false_and, zi_neg, zi_sub, zi_add, zi_mul, m_thr0 (mq_h hm), m_chk (mq_h hm0), mq_tr hm0, mq_as hm0, mq_q, mq_y hm0, mq_yr hm0, m_isIn2, m_of (mq_h hm0), m_at (mq_h hm0), m_told1 (mq_h hm0), m_sumAt, m_told (mq_h hm0), m_T (mq_h hm0), c1, c2]
  · refine mp_no ?_
    refine qp_mk (-1) (F1 := F) (S1 := S) (S2 := S') (ho2 := ho) (ha2 := ha) (sm2 := sm) ?_ ?_
    · unfold g_X9_hand
      simp (disch := omega) only [zl_0, zl_1, zl_2, zl_3, zl_4, zl_5, zl_6, zl_7, zl_8, zl_9, zl_10, zl_11, zl_12, zl_13, zl_15, zl_17, zl_27, zl_37, zl_47, zl_63, zl_99999, zl_999999, zl_9999, zl_1000, zl_40, zl_64, zl_16, zl_1289, zl_1545, zl_1801, zl_2068, zl_1865, zl_1866, zl_1867, zl_1868, zl_1281, zl_999, i_bd, i_sb, i_jp, bI_z, not_true_eq_false, not_false_eq_true, if_true, if_false, and_self, and_true, true_and, and_false, false_and, zi_neg, zi_sub, zi_add, zi_mul, xq_ko hx, xq_o4 hx, xq_tr hx, xq_as hx, xq_bg hx, xq_yr, x_isIn2, c_o1 (xq_C hx), c_o0 (xq_C hx), c_o5 (xq_C hx), c_kB (xq_C hx), c_kC (xq_C hx), c_kF (xq_C hx), c_now (xq_C hx), c1]
    · unfold g_X10_hand
      simp (disch := omega) only [zl_0, zl_1, zl_2, zl_3, zl_4, zl_5, zl_6, zl_7, zl_8, zl_9, zl_10, zl_11, zl_12, zl_13, zl_15, zl_17, zl_27, zl_37, zl_47, zl_63, zl_99999, zl_999999, zl_9999, zl_1000, zl_40, zl_64, zl_16, zl_1289, zl_1545, zl_1801, zl_2068, zl_1865, zl_1866, zl_1867, zl_1868, zl_1281, zl_999, i_bd, i_sb, i_jp, bI_z, not_true_eq_false, not_false_eq_true, if_true, if_false, and_self, and_true, true_and, and_false, false_and, zi_neg, zi_sub, zi_add, zi_mul, m_thr0 (mq_h hm), m_chk (mq_h hm0), mq_tr hm0, mq_as hm0, mq_q, mq_y hm0, mq_yr hm0, m_isIn2, m_of (mq_h hm0), m_at (mq_h hm0), m_told1 (mq_h hm0), m_sumAt, m_told (mq_h hm0), m_T (mq_h hm0), c1]
theorem P_sell (hx : XQr M c r R nt T tr sl bu as B U) (hm : MQr M' nt T tr sl bu as B U) (hx' : XQr Mx c r R nt T tr sl bu as B U) (hu : MQr Mu nt T tr sl bu as B U) (hN : UN n M Mx M' Mu c R B) (hn : 300 < n) (hU : U ≤ 99000000)  {a : Int} {w : Int} {v : Int} (a1 : -2147483648 ≤ a) (a2 : a ≤ 2147483647) (w1 : -2147483648 ≤ w) (w2 : w ≤ 2147483647) (v1 : -2147483648 ≤ v) (v2 : v ≤ 2147483647) : MP (g_X9_sell n (WX M c R F S) 0 (zi a) (zi w) (zi v)) (g_X10_sell n (WC M' 0 B S' ho ha sm) 139 (zi a) (zi w) (zi v)) M Mx (sI M' 139 2 0) Mu c R T B nt U := by
  have hm0 := mq_thr0 (v := zi 0) hm
  have hnt := hm.2.1
  have h8 := mq_8 hm
  obtain ⟨n1, n2⟩ := mq_N hm
  have hy : 0 ≤ yearZ B ∧ yearZ B < 16 := by unfold yearZ; omega
  have hT := hm.2.2.1
  have htr := hm.2.2.2.1
  have hAN := AN2_r (mq_N hm) hm.2.2.2.2.2.1.2.2.2.2.2.2.1
  have t1r := hT.2.1
  have t2r := hT.2.2
  obtain ⟨p, hp6, hp3, hadd, hund⟩ := hN
  have hund : ∀ S ho ha sm, g_X10_canUndo n (WC (sI M' 139 2 (zi 0)) 0 B S ho ha sm) 139 = some ((), WC Mu 0 B S ho ha sm) := hund
  have o6 : ∀ F S, gO (WX M c R F S) 7 0 6 = some p := fun F S => i_gO hx.1.1 hp6
  have k3 : ∀ {β : Type} {F S} {e : Option β}, chk (WX M c R F S) 3 p e = e := fun {β F S e} => i_chk hp3
  have r00 := (xq_R hx').1.1
  have r01 := (xq_R hx').1.2.1
  have hUU := hx.2.2.2.2
  by_cases c1 : 0 ≤ a ∧ a < B 1865
  · obtain ⟨a', rfl⟩ := Int.eq_ofNat_of_zero_le c1.1
    have a8 : a' < 8 := by omega
    have ra := hx.2.1.2.2.1.2.2 a' c1.2
    have ax := mq_A hm c1.1 c1.2
    have e9 := ax.1.2.2.2.2.2.2.2.2.2.1
    have e47 := ax.1.2.2.2.2.2.2.2.2.2.2.2.2
    have e4 := ax.1.2.2.2.2.1
    by_cases c2 : 0 ≤ w ∧ w ≤ 2
    · by_cases c5 : w = 2
      · by_cases c4 : -1 ≤ v ∧ v ≤ -1
        · by_cases c3 : ¬ (AtZ B a' 9 = 1 ∨ 0 < AtZ B a' 7)
          · have c9 : AtZ B a' 9 ≠ 1 := fun q => c3 (Or.inl q)
            have hAX := AX_set (k := 8) (v := v) (AX_set (k := 7) (v := w + 1) ax c1.1 (by omega) (by unfold okV; omega)) c1.1 (by omega) (by unfold okV; omega)
            have hBI : BI T nt (U + 100000) (upZ (upZ B (2084 + 48 * (a' : Int) + 7) (w + 1)) (2084 + 48 * (a' : Int) + 8) v) := BI_le (V := U + 100000) (BI_row hm.2.2.2.2.2.1 c1.1 (fun i hi => (upZ_ne (by omega)).trans (upZ_ne (by omega))) hAX) (by omega)
            have hR1 : RBk T (upZ (upZ B (2084 + 48 * (a' : Int) + 7) (w + 1)) (2084 + 48 * (a' : Int) + 8) v) nt (up2 (up2 R (10 + 5 * a') 6 (zi w)) (10 + 5 * a') 7 (zi v)) := RBk_row hx'.2.1.2.2.1 hx'.2.2.2.1 hnt.2 (a := a') (fun i hi => (upZ_ne (by omega)).trans (upZ_ne (by omega))) (fun o ho => funext fun j => (up2_o ho).trans (up2_o ho)) (RA_sell ra e47.2 c2.1)
            have hx2 := xq_new hx' hR1 hBI (by omega)
            have hu2 := mq_new hu hBI (by omega)
            have b65 : upZ (upZ B (2084 + 48 * (a' : Int) + 7) (w + 1)) (2084 + 48 * (a' : Int) + 8) v 1865 = B 1865 := (upZ_ne (by omega)).trans (upZ_ne (by omega))
            have bat : ∀ j : Int, j ≠ 7 → j ≠ 8 → AtZ (upZ (upZ B (2084 + 48 * (a' : Int) + 7) (w + 1)) (2084 + 48 * (a' : Int) + 8) v) a' j = AtZ B a' j := fun j h1 h2 => by rw [AtZ_up, if_neg h2, AtZ_up, if_neg h1]
            have gb := fun F S => xq_behind (n := n) (F := F) (S := S) (a := a') hx2 (by rw [b65]; exact c1.2)
            have gd := fun S ho ha sm => mq_behind (n := n) (S := S) (ho := ho) (ha := ha) (sm := sm) (a := (a' : Int)) hu2 c1.1 (by rw [b65]; exact c1.2) (by rw [bat 9 (by omega) (by omega)]; exact c9)
            rw [bat 4 (by omega) (by omega), bat 47 (by omega) (by omega)] at gb gd
            refine mp_mk (AtZ B a' 4 - 1 - AtZ B a' 47) (hR1) (hBI) (F1 := F) (S1 := S) (S2 := S') (ho2 := ho) (ha2 := ha) (sm2 := sm) ?_ ?_
            · unfold g_X9_sell
              simp (disch := omega) only [zl_0, zl_1, zl_2, zl_3, zl_4, zl_5, zl_6, zl_7, zl_8, zl_9, zl_10, zl_11, zl_12, zl_13, zl_15, zl_17, zl_27, zl_37, zl_47, zl_63, zl_99999, zl_999999, zl_9999, zl_1000, zl_40, zl_64, zl_16, zl_1289, zl_1545, zl_1801, zl_2068, zl_1865, zl_1866, zl_1867, zl_1868, zl_1281, zl_999, i_bd, i_sb, i_jp, bI_z, not_true_eq_false, not_false_eq_true, if_true, if_false, and_self, and_true, true_and, and_false, false_and, zi_neg, zi_sub, zi_add, zi_mul, xq_ko hx, xq_o4 hx, xq_tr hx, xq_as hx, xq_bg hx, xq_yr, x_isIn2, c_o1 (xq_C hx), c_o0 (xq_C hx), c_o5 (xq_C hx), c_kB (xq_C hx), c_kC (xq_C hx), c_kF (xq_C hx), c_now (xq_C hx), o6, k3, hadd, xq_o4 hx', c_o1 (xq_C hx'), c_now (xq_C hx'), c_kB (xq_C hx'), r00, c_o5 (xq_C hx'), xq_ko hx', c1, c_oA (xq_C hx) a8, c_gA (xq_C hx) a8, c_kA (xq_C hx) a8, c2, c4, xq_free hx c1.2, c3, c_pA (xq_C hx') a8, c_kA (xq_C hx') a8, gb, c_eqT c5]
            · unfold g_X10_sell
              simp (disch := omega) only [zl_0, zl_1, zl_2, zl_3, zl_4, zl_5, zl_6, zl_7, zl_8, zl_9, zl_10, zl_11, zl_12, zl_13, zl_15, zl_17, zl_27, zl_37, zl_47, zl_63, zl_99999, zl_999999, zl_9999, zl_1000, zl_40, zl_64, zl_16, zl_1289, zl_1545, zl_1801, zl_2068, zl_1865, zl_1866, zl_1867, zl_1868, zl_1281, zl_999, i_bd, i_sb, i_jp, bI_z, not_true_eq_false, not_false_eq_true, if_true, if_false, and_self, and_true, true_and, and_false, false_and, zi_neg, zi_sub, zi_add, zi_mul, m_thr0 (mq_h hm), m_chk (mq_h hm0), mq_tr hm0, mq_as hm0, mq_q, mq_y hm0, mq_yr hm0, m_isIn2, m_of (mq_h hm0), m_at (mq_h hm0), m_told1 (mq_h hm0), m_sumAt, m_told (mq_h hm0), m_T (mq_h hm0), hund, m_chk (mq_h hu), m_of (mq_h hu), m_sumAt, m_add (mq_h hu), m_at (mq_h hu), m_put (mq_h hu), m_lay (mq_h hu), c1, c2, c4, mq_gone hm0 c1.1 c1.2, c3, gd, c_eqT c5]
          · have c3' : AtZ B a' 9 = 1 ∨ 0 < AtZ B a' 7 := Classical.not_not.mp c3
            refine mp_no ?_
            refine qp_mk (-2) (F1 := F) (S1 := S) (S2 := S') (ho2 := ho) (ha2 := ha) (sm2 := sm) ?_ ?_
            · unfold g_X9_sell
              simp (disch := omega) only [zl_0, zl_1, zl_2, zl_3, zl_4, zl_5, zl_6, zl_7, zl_8, zl_9, zl_10, zl_11, zl_12, zl_13, zl_15, zl_17, zl_27, zl_37, zl_47, zl_63, zl_99999, zl_999999, zl_9999, zl_1000, zl_40, zl_64, zl_16, zl_1289, zl_1545, zl_1801, zl_2068, zl_1865, zl_1866, zl_1867, zl_1868, zl_1281, zl_999, i_bd, i_sb, i_jp, bI_z, not_true_eq_false, not_false_eq_true, if_true, if_false, and_self, and_true, true_and, and_false, false_and, zi_neg, zi_sub, zi_add, zi_mul, xq_ko hx, xq_o4 hx, xq_tr hx, xq_as hx, xq_bg hx, xq_yr, x_isIn2, c_o1 (xq_C hx), c_o0 (xq_C hx), c_o5 (xq_C hx), c_kB (xq_C hx), c_kC (xq_C hx), c_kF (xq_C hx), c_now (xq_C hx), c1, c_oA (xq_C hx) a8, c_gA (xq_C hx) a8, c_kA (xq_C hx) a8, xq_free hx c1.2, c2, c4, c_eqT c5, c3']
            · unfold g_X10_sell
              simp (disch := omega) only [zl_0, zl_1, zl_2, zl_3, zl_4, zl_5, zl_6, zl_7, zl_8, zl_9, zl_10, zl_11, zl_12, zl_13, zl_15, zl_17, zl_27, zl_37, zl_47, zl_63, zl_99999, zl_999999, zl_9999, zl_1000, zl_40, zl_64, zl_16, zl_1289, zl_1545, zl_1801, zl_2068, zl_1865, zl_1866, zl_1867, zl_1868, zl_1281, zl_999, i_bd, i_sb, i_jp, bI_z, not_true_eq_false, not_false_eq_true, if_true, if_false, and_self, and_true, true_and, and_false, false_and, zi_neg, zi_sub, zi_add, zi_mul, m_thr0 (mq_h hm), m_chk (mq_h hm0), mq_tr hm0, mq_as hm0, mq_q, mq_y hm0, mq_yr hm0, m_isIn2, m_of (mq_h hm0), m_at (mq_h hm0), m_told1 (mq_h hm0), m_sumAt, m_told (mq_h hm0), m_T (mq_h hm0), c1, mq_gone hm0 c1.1 c1.2, c2, c4, c_eqT c5, c3']
        · refine mp_no ?_
          refine qp_mk (-1) (F1 := F) (S1 := S) (S2 := S') (ho2 := ho) (ha2 := ha) (sm2 := sm) ?_ ?_
          · unfold g_X9_sell
            simp (disch := omega) only [zl_0, zl_1, zl_2, zl_3, zl_4, zl_5, zl_6, zl_7, zl_8, zl_9, zl_10, zl_11, zl_12, zl_13, zl_15, zl_17, zl_27, zl_37, zl_47, zl_63, zl_99999, zl_999999, zl_9999, zl_1000, zl_40, zl_64, zl_16, zl_1289, zl_1545, zl_1801, zl_2068, zl_1865, zl_1866, zl_1867, zl_1868, zl_1281, zl_999, i_bd, i_sb, i_jp, bI_z, not_true_eq_false, not_false_eq_true, if_true, if_false, and_self, and_true, true_and, and_false, false_and, zi_neg, zi_sub, zi_add, zi_mul, xq_ko hx, xq_o4 hx, xq_tr hx, xq_as hx, xq_bg hx, xq_yr, x_isIn2, c_o1 (xq_C hx), c_o0 (xq_C hx), c_o5 (xq_C hx), c_kB (xq_C hx), c_kC (xq_C hx), c_kF (xq_C hx), c_now (xq_C hx), c1, c_oA (xq_C hx) a8, c_gA (xq_C hx) a8, c_kA (xq_C hx) a8, c2, c4, c_eqT c5]
          · unfold g_X10_sell
            simp (disch := omega) only [zl_0, zl_1, zl_2, zl_3, zl_4, zl_5, zl_6, zl_7, zl_8, zl_9, zl_10, zl_11, zl_12, zl_13, zl_15, zl_17, zl_27, zl_37, zl_47, zl_63, zl_99999, zl_999999, zl_9999, zl_1000, zl_40, zl_64, zl_16, zl_1289, zl_1545, zl_1801, zl_2068, zl_1865, zl_1866, zl_1867, zl_1868, zl_1281, zl_999, i_bd, i_sb, i_jp, bI_z, not_true_eq_false, not_false_eq_true, if_true, if_false, and_self, and_true, true_and, and_false, false_and, zi_neg, zi_sub, zi_add, zi_mul, m_thr0 (mq_h hm), m_chk (mq_h hm0), mq_tr hm0, mq_as hm0, mq_q, mq_y hm0, mq_yr hm0, m_isIn2, m_of (mq_h hm0), m_at (mq_h hm0), m_told1 (mq_h hm0), m_sumAt, m_told (mq_h hm0), m_T (mq_h hm0), c1, c2, c4, c_eqT c5]
      · by_cases c4 : -1 ≤ v ∧ v ≤ 99999
        · by_cases c3 : ¬ (AtZ B a' 9 = 1 ∨ 0 < AtZ B a' 7)
          · have c9 : AtZ B a' 9 ≠ 1 := fun q => c3 (Or.inl q)
            have hAX := AX_set (k := 8) (v := v) (AX_set (k := 7) (v := w + 1) ax c1.1 (by omega) (by unfold okV; omega)) c1.1 (by omega) (by unfold okV; omega)
            have hBI : BI T nt (U + 100000) (upZ (upZ B (2084 + 48 * (a' : Int) + 7) (w + 1)) (2084 + 48 * (a' : Int) + 8) v) := BI_le (V := U + 100000) (BI_row hm.2.2.2.2.2.1 c1.1 (fun i hi => (upZ_ne (by omega)).trans (upZ_ne (by omega))) hAX) (by omega)
            have hR1 : RBk T (upZ (upZ B (2084 + 48 * (a' : Int) + 7) (w + 1)) (2084 + 48 * (a' : Int) + 8) v) nt (up2 (up2 R (10 + 5 * a') 6 (zi w)) (10 + 5 * a') 7 (zi v)) := RBk_row hx'.2.1.2.2.1 hx'.2.2.2.1 hnt.2 (a := a') (fun i hi => (upZ_ne (by omega)).trans (upZ_ne (by omega))) (fun o ho => funext fun j => (up2_o ho).trans (up2_o ho)) (RA_sell ra e47.2 c2.1)
            have hx2 := xq_new hx' hR1 hBI (by omega)
            have hu2 := mq_new hu hBI (by omega)
            have b65 : upZ (upZ B (2084 + 48 * (a' : Int) + 7) (w + 1)) (2084 + 48 * (a' : Int) + 8) v 1865 = B 1865 := (upZ_ne (by omega)).trans (upZ_ne (by omega))
            have bat : ∀ j : Int, j ≠ 7 → j ≠ 8 → AtZ (upZ (upZ B (2084 + 48 * (a' : Int) + 7) (w + 1)) (2084 + 48 * (a' : Int) + 8) v) a' j = AtZ B a' j := fun j h1 h2 => by rw [AtZ_up, if_neg h2, AtZ_up, if_neg h1]
            have gb := fun F S => xq_behind (n := n) (F := F) (S := S) (a := a') hx2 (by rw [b65]; exact c1.2)
            have gd := fun S ho ha sm => mq_behind (n := n) (S := S) (ho := ho) (ha := ha) (sm := sm) (a := (a' : Int)) hu2 c1.1 (by rw [b65]; exact c1.2) (by rw [bat 9 (by omega) (by omega)]; exact c9)
            rw [bat 4 (by omega) (by omega), bat 47 (by omega) (by omega)] at gb gd
            refine mp_mk (AtZ B a' 4 - 1 - AtZ B a' 47) (hR1) (hBI) (F1 := F) (S1 := S) (S2 := S') (ho2 := ho) (ha2 := ha) (sm2 := sm) ?_ ?_
            · unfold g_X9_sell
              simp (disch := omega) only [zl_0, zl_1, zl_2, zl_3, zl_4, zl_5, zl_6, zl_7, zl_8, zl_9, zl_10, zl_11, zl_12, zl_13, zl_15, zl_17, zl_27, zl_37, zl_47, zl_63, zl_99999, zl_999999, zl_9999, zl_1000, zl_40, zl_64, zl_16, zl_1289, zl_1545, zl_1801, zl_2068, zl_1865, zl_1866, zl_1867, zl_1868, zl_1281, zl_999, i_bd, i_sb, i_jp, bI_z, not_true_eq_false, not_false_eq_true, if_true, if_false, and_self, and_true, true_and, and_false, false_and, zi_neg, zi_sub, zi_add, zi_mul, xq_ko hx, xq_o4 hx, xq_tr hx, xq_as hx, xq_bg hx, xq_yr, x_isIn2, c_o1 (xq_C hx), c_o0 (xq_C hx), c_o5 (xq_C hx), c_kB (xq_C hx), c_kC (xq_C hx), c_kF (xq_C hx), c_now (xq_C hx), o6, k3, hadd, xq_o4 hx', c_o1 (xq_C hx'), c_now (xq_C hx'), c_kB (xq_C hx'), r00, c_o5 (xq_C hx'), xq_ko hx', c1, c_oA (xq_C hx) a8, c_gA (xq_C hx) a8, c_kA (xq_C hx) a8, c2, c4, xq_free hx c1.2, c3, c_pA (xq_C hx') a8, c_kA (xq_C hx') a8, gb, c_eqF c5]
            · unfold g_X10_sell
              simp (disch := omega) only [zl_0, zl_1, zl_2, zl_3, zl_4, zl_5, zl_6, zl_7, zl_8, zl_9, zl_10, zl_11, zl_12, zl_13, zl_15, zl_17, zl_27, zl_37, zl_47, zl_63, zl_99999, zl_999999, zl_9999, zl_1000, zl_40, zl_64, zl_16, zl_1289, zl_1545, zl_1801, zl_2068, zl_1865, zl_1866, zl_1867, zl_1868, zl_1281, zl_999, i_bd, i_sb, i_jp, bI_z, not_true_eq_false, not_false_eq_true, if_true, if_false, and_self, and_true, true_and, and_false, false_and, zi_neg, zi_sub, zi_add, zi_mul, m_thr0 (mq_h hm), m_chk (mq_h hm0), mq_tr hm0, mq_as hm0, mq_q, mq_y hm0, mq_yr hm0, m_isIn2, m_of (mq_h hm0), m_at (mq_h hm0), m_told1 (mq_h hm0), m_sumAt, m_told (mq_h hm0), m_T (mq_h hm0), hund, m_chk (mq_h hu), m_of (mq_h hu), m_sumAt, m_add (mq_h hu), m_at (mq_h hu), m_put (mq_h hu), m_lay (mq_h hu), c1, c2, c4, mq_gone hm0 c1.1 c1.2, c3, gd, c_eqF c5]
          · have c3' : AtZ B a' 9 = 1 ∨ 0 < AtZ B a' 7 := Classical.not_not.mp c3
            refine mp_no ?_
            refine qp_mk (-2) (F1 := F) (S1 := S) (S2 := S') (ho2 := ho) (ha2 := ha) (sm2 := sm) ?_ ?_
            · unfold g_X9_sell
              simp (disch := omega) only [zl_0, zl_1, zl_2, zl_3, zl_4, zl_5, zl_6, zl_7, zl_8, zl_9, zl_10, zl_11, zl_12, zl_13, zl_15, zl_17, zl_27, zl_37, zl_47, zl_63, zl_99999, zl_999999, zl_9999, zl_1000, zl_40, zl_64, zl_16, zl_1289, zl_1545, zl_1801, zl_2068, zl_1865, zl_1866, zl_1867, zl_1868, zl_1281, zl_999, i_bd, i_sb, i_jp, bI_z, not_true_eq_false, not_false_eq_true, if_true, if_false, and_self, and_true, true_and, and_false, false_and, zi_neg, zi_sub, zi_add, zi_mul, xq_ko hx, xq_o4 hx, xq_tr hx, xq_as hx, xq_bg hx, xq_yr, x_isIn2, c_o1 (xq_C hx), c_o0 (xq_C hx), c_o5 (xq_C hx), c_kB (xq_C hx), c_kC (xq_C hx), c_kF (xq_C hx), c_now (xq_C hx), c1, c_oA (xq_C hx) a8, c_gA (xq_C hx) a8, c_kA (xq_C hx) a8, xq_free hx c1.2, c2, c4, c_eqF c5, c3']
            · unfold g_X10_sell
              simp (disch := omega) only [zl_0, zl_1, zl_2, zl_3, zl_4, zl_5, zl_6, zl_7, zl_8, zl_9, zl_10, zl_11, zl_12, zl_13, zl_15, zl_17, zl_27, zl_37, zl_47, zl_63, zl_99999, zl_999999, zl_9999, zl_1000, zl_40, zl_64, zl_16, zl_1289, zl_1545, zl_1801, zl_2068, zl_1865, zl_1866, zl_1867, zl_1868, zl_1281, zl_999, i_bd, i_sb, i_jp, bI_z, not_true_eq_false, not_false_eq_true, if_true, if_false, and_self, and_true, true_and, and_false, false_and, zi_neg, zi_sub, zi_add, zi_mul, m_thr0 (mq_h hm), m_chk (mq_h hm0), mq_tr hm0, mq_as hm0, mq_q, mq_y hm0, mq_yr hm0, m_isIn2, m_of (mq_h hm0), m_at (mq_h hm0), m_told1 (mq_h hm0), m_sumAt, m_told (mq_h hm0), m_T (mq_h hm0), c1, mq_gone hm0 c1.1 c1.2, c2, c4, c_eqF c5, c3']
        · refine mp_no ?_
          refine qp_mk (-1) (F1 := F) (S1 := S) (S2 := S') (ho2 := ho) (ha2 := ha) (sm2 := sm) ?_ ?_
          · unfold g_X9_sell
            simp (disch := omega) only [zl_0, zl_1, zl_2, zl_3, zl_4, zl_5, zl_6, zl_7, zl_8, zl_9, zl_10, zl_11, zl_12, zl_13, zl_15, zl_17, zl_27, zl_37, zl_47, zl_63, zl_99999, zl_999999, zl_9999, zl_1000, zl_40, zl_64, zl_16, zl_1289, zl_1545, zl_1801, zl_2068, zl_1865, zl_1866, zl_1867, zl_1868, zl_1281, zl_999, i_bd, i_sb, i_jp, bI_z, not_true_eq_false, not_false_eq_true, if_true, if_false, and_self, and_true, true_and, and_false, false_and, zi_neg, zi_sub, zi_add, zi_mul, xq_ko hx, xq_o4 hx, xq_tr hx, xq_as hx, xq_bg hx, xq_yr, x_isIn2, c_o1 (xq_C hx), c_o0 (xq_C hx), c_o5 (xq_C hx), c_kB (xq_C hx), c_kC (xq_C hx), c_kF (xq_C hx), c_now (xq_C hx), c1, c_oA (xq_C hx) a8, c_gA (xq_C hx) a8, c_kA (xq_C hx) a8, c2, c4, c_eqF c5]
          · unfold g_X10_sell
            simp (disch := omega) only [zl_0, zl_1, zl_2, zl_3, zl_4, zl_5, zl_6, zl_7, zl_8, zl_9, zl_10, zl_11, zl_12, zl_13, zl_15, zl_17, zl_27, zl_37, zl_47, zl_63, zl_99999, zl_999999, zl_9999, zl_1000, zl_40, zl_64, zl_16, zl_1289, zl_1545, zl_1801, zl_2068, zl_1865, zl_1866, zl_1867, zl_1868, zl_1281, zl_999, i_bd, i_sb, i_jp, bI_z, not_true_eq_false, not_false_eq_true, if_true, if_false, and_self, and_true, true_and, and_false, false_and, zi_neg, zi_sub, zi_add, zi_mul, m_thr0 (mq_h hm), m_chk (mq_h hm0), mq_tr hm0, mq_as hm0, mq_q, mq_y hm0, mq_yr hm0, m_isIn2, m_of (mq_h hm0), m_at (mq_h hm0), m_told1 (mq_h hm0), m_sumAt, m_told (mq_h hm0), m_T (mq_h hm0), c1, c2, c4, c_eqF c5]
    · refine mp_no ?_
      refine qp_mk (-1) (F1 := F) (S1 := S) (S2 := S') (ho2 := ho) (ha2 := ha) (sm2 := sm) ?_ ?_
      · unfold g_X9_sell
        simp (disch := omega) only [zl_0, zl_1, zl_2, zl_3, zl_4, zl_5, zl_6, zl_7, zl_8, zl_9, zl_10, zl_11, zl_12, zl_13, zl_15, zl_17, zl_27, zl_37, zl_47, zl_63, zl_99999, zl_999999, zl_9999, zl_1000, zl_40, zl_64, zl_16, zl_1289, zl_1545, zl_1801, zl_2068, zl_1865, zl_1866, zl_1867, zl_1868, zl_1281, zl_999, i_bd, i_sb, i_jp, bI_z, not_true_eq_false, not_false_eq_true, if_true, if_false, and_self, and_true, true_and, and_false, false_and, zi_neg, zi_sub, zi_add, zi_mul, xq_ko hx, xq_o4 hx, xq_tr hx, xq_as hx, xq_bg hx, xq_yr, x_isIn2, c_o1 (xq_C hx), c_o0 (xq_C hx), c_o5 (xq_C hx), c_kB (xq_C hx), c_kC (xq_C hx), c_kF (xq_C hx), c_now (xq_C hx), c1, c_oA (xq_C hx) a8, c_gA (xq_C hx) a8, c_kA (xq_C hx) a8, c2]
      · unfold g_X10_sell
        simp (disch := omega) only [zl_0, zl_1, zl_2, zl_3, zl_4, zl_5, zl_6, zl_7, zl_8, zl_9, zl_10, zl_11, zl_12, zl_13, zl_15, zl_17, zl_27, zl_37, zl_47, zl_63, zl_99999, zl_999999, zl_9999, zl_1000, zl_40, zl_64, zl_16, zl_1289, zl_1545, zl_1801, zl_2068, zl_1865, zl_1866, zl_1867, zl_1868, zl_1281, zl_999, i_bd, i_sb, i_jp, bI_z, not_true_eq_false, not_false_eq_true, if_true, if_false, and_self, and_true, true_and, and_false, false_and, zi_neg, zi_sub, zi_add, zi_mul, m_thr0 (mq_h hm), m_chk (mq_h hm0), mq_tr hm0, mq_as hm0, mq_q, mq_y hm0, mq_yr hm0, m_isIn2, m_of (mq_h hm0), m_at (mq_h hm0), m_told1 (mq_h hm0), m_sumAt, m_told (mq_h hm0), m_T (mq_h hm0), c1, c2]
  · refine mp_no ?_
    refine qp_mk (-1) (F1 := F) (S1 := S) (S2 := S') (ho2 := ho) (ha2 := ha) (sm2 := sm) ?_ ?_
    · unfold g_X9_sell
      simp (disch := omega) only [zl_0, zl_1, zl_2, zl_3, zl_4, zl_5, zl_6, zl_7, zl_8, zl_9, zl_10, zl_11, zl_12, zl_13, zl_15, zl_17, zl_27, zl_37, zl_47, zl_63, zl_99999, zl_999999, zl_9999, zl_1000, zl_40, zl_64, zl_16, zl_1289, zl_1545, zl_1801, zl_2068, zl_1865, zl_1866, zl_1867, zl_1868, zl_1281, zl_999, i_bd, i_sb, i_jp, bI_z, not_true_eq_false, not_false_eq_true, if_true, if_false, and_self, and_true, true_and, and_false, false_and, zi_neg, zi_sub, zi_add, zi_mul, xq_ko hx, xq_o4 hx, xq_tr hx, xq_as hx, xq_bg hx, xq_yr, x_isIn2, c_o1 (xq_C hx), c_o0 (xq_C hx), c_o5 (xq_C hx), c_kB (xq_C hx), c_kC (xq_C hx), c_kF (xq_C hx), c_now (xq_C hx), c1]
    · unfold g_X10_sell
      simp (disch := omega) only [zl_0, zl_1, zl_2, zl_3, zl_4, zl_5, zl_6, zl_7, zl_8, zl_9, zl_10, zl_11, zl_12, zl_13, zl_15, zl_17, zl_27, zl_37, zl_47, zl_63, zl_99999, zl_999999, zl_9999, zl_1000, zl_40, zl_64, zl_16, zl_1289, zl_1545, zl_1801, zl_2068, zl_1865, zl_1866, zl_1867, zl_1868, zl_1281, zl_999, i_bd, i_sb, i_jp, bI_z, not_true_eq_false, not_false_eq_true, if_true, if_false, and_self, and_true, true_and, and_false, false_and, zi_neg, zi_sub, zi_add, zi_mul, m_thr0 (mq_h hm), m_chk (mq_h hm0), mq_tr hm0, mq_as hm0, mq_q, mq_y hm0, mq_yr hm0, m_isIn2, m_of (mq_h hm0), m_at (mq_h hm0), m_told1 (mq_h hm0), m_sumAt, m_told (mq_h hm0), m_T (mq_h hm0), c1]
theorem P_use (hx : XQr M c r R nt T tr sl bu as B U) (hm : MQr M' nt T tr sl bu as B U) (hx' : XQr Mx c r R nt T tr sl bu as B U) (hu : MQr Mu nt T tr sl bu as B U) (hN : UN n M Mx M' Mu c R B) (hn : 300 < n) (hU : U ≤ 99000000)  {a : Int} {w : Int} (a1 : -2147483648 ≤ a) (a2 : a ≤ 2147483647) (w1 : -2147483648 ≤ w) (w2 : w ≤ 2147483647) : MP (g_X9_use n (WX M c R F S) 0 (zi a) (zi w)) (g_X10_use n (WC M' 0 B S' ho ha sm) 139 (zi a) (zi w)) M Mx (sI M' 139 2 0) Mu c R T B nt U := by
  have hm0 := mq_thr0 (v := zi 0) hm
  have hnt := hm.2.1
  have h8 := mq_8 hm
  obtain ⟨n1, n2⟩ := mq_N hm
  have hy : 0 ≤ yearZ B ∧ yearZ B < 16 := by unfold yearZ; omega
  have hT := hm.2.2.1
  have htr := hm.2.2.2.1
  have hAN := AN2_r (mq_N hm) hm.2.2.2.2.2.1.2.2.2.2.2.2.1
  have t1r := hT.2.1
  have t2r := hT.2.2
  obtain ⟨p, hp6, hp3, hadd, hund⟩ := hN
  have hund : ∀ S ho ha sm, g_X10_canUndo n (WC (sI M' 139 2 (zi 0)) 0 B S ho ha sm) 139 = some ((), WC Mu 0 B S ho ha sm) := hund
  have o6 : ∀ F S, gO (WX M c R F S) 7 0 6 = some p := fun F S => i_gO hx.1.1 hp6
  have k3 : ∀ {β : Type} {F S} {e : Option β}, chk (WX M c R F S) 3 p e = e := fun {β F S e} => i_chk hp3
  have r00 := (xq_R hx').1.1
  have r01 := (xq_R hx').1.2.1
  have hUU := hx.2.2.2.2
  by_cases c1 : 0 ≤ a ∧ a < B 1865
  · obtain ⟨a', rfl⟩ := Int.eq_ofNat_of_zero_le c1.1
    have a8 : a' < 8 := by omega
    have ra := hx.2.1.2.2.1.2.2 a' c1.2
    have ax := mq_A hm c1.1 c1.2
    have e9 := ax.1.2.2.2.2.2.2.2.2.2.1
    have e47 := ax.1.2.2.2.2.2.2.2.2.2.2.2.2
    have e4 := ax.1.2.2.2.2.1
    have hmay := fun F S => xq_mayChange (n := n) (F := F) (S := S) hx c1.2
    by_cases c2 : 0 ≤ w ∧ w ≤ 2
    · by_cases c3 : ¬ (AtZ B a' 9 = 1 ∨ 0 < AtZ B a' 7)
      · have c9 : AtZ B a' 9 ≠ 1 := fun q => c3 (Or.inl q)
        have x47 := (ax.2.2.2.1 c9).1
        have gi := fun S ho ha sm => m_intervalOf (n := n) (S := S) (ho := ho) (ha := ha) (sm := sm) (B := B) (a := (a' : Int)) (y := yearZ B) (mq_h hm0) c1.1 (by omega) ⟨ax.1.2.2.2.2.2.1.1, by have := ax.1.2.2.2.2.2.1.2; omega⟩
        rw [← x47] at gi
        by_cases c4 : 0 < AtZ B a' 47
        · have f4 : (zi (AtZ B a' 47) = zi 0) = False := c_eqF (show ¬ (AtZ B a' 47 = 0) by omega) (by omega) (by omega) (by omega) (by omega)
          have hBI : BI T nt (U + 100000) (upZ B (2084 + 48 * (a' : Int) + 2) w) := BI_le (V := U + 100000) (BI_row hm.2.2.2.2.2.1 c1.1 (fun i hi => upZ_ne (by omega)) (AX_set ax c1.1 (by omega) (by unfold okV; omega))) (by omega)
          have hR1 : RBk T (upZ B (2084 + 48 * (a' : Int) + 2) w) nt (up2 R (10 + 5 * a') 2 (zi w)) := RBk_row hx'.2.1.2.2.1 hx'.2.2.2.1 hnt.2 (a := a') (fun i hi => upZ_ne (by omega)) (fun o ho => funext fun j => up2_o ho) (RA_set ra e47.2 (k := 2) (Or.inr rfl))
          refine mp_mk (1) (hR1) (hBI) (F1 := F) (S1 := S) (S2 := S') (ho2 := ho) (ha2 := ha) (sm2 := sm) ?_ ?_
          · unfold g_X9_use
            simp (disch := omega) only [zl_0, zl_1, zl_2, zl_3, zl_4, zl_5, zl_6, zl_7, zl_8, zl_9, zl_10, zl_11, zl_12, zl_13, zl_15, zl_17, zl_27, zl_37, zl_47, zl_63, zl_99999, zl_999999, zl_9999, zl_1000, zl_40, zl_64, zl_16, zl_1289, zl_1545, zl_1801, zl_2068, zl_1865, zl_1866, zl_1867, zl_1868, zl_1281, zl_999, i_bd, i_sb, i_jp, bI_z, not_true_eq_false, not_false_eq_true, if_true, if_false, and_self, and_true, true_and, and_false, false_and, zi_neg, zi_sub, zi_add, zi_mul, xq_ko hx, xq_o4 hx, xq_tr hx, xq_as hx, xq_bg hx, xq_yr, x_isIn2, c_o1 (xq_C hx), c_o0 (xq_C hx), c_o5 (xq_C hx), c_kB (xq_C hx), c_kC (xq_C hx), c_kF (xq_C hx), c_now (xq_C hx), o6, k3, hadd, xq_o4 hx', c_o1 (xq_C hx'), c_now (xq_C hx'), c_kB (xq_C hx'), r00, c_o5 (xq_C hx'), xq_ko hx', rzz_0, rzz_1, c1, c_oA (xq_C hx) a8, c_gA (xq_C hx) a8, c_kA (xq_C hx) a8, c2, hmay, c3, c4, xo4g hx', c_oA (xq_C hx') a8, c_pA (xq_C hx') a8]
          · unfold g_X10_use
            simp (disch := omega) only [zl_0, zl_1, zl_2, zl_3, zl_4, zl_5, zl_6, zl_7, zl_8, zl_9, zl_10, zl_11, zl_12, zl_13, zl_15, zl_17, zl_27, zl_37, zl_47, zl_63, zl_99999, zl_999999, zl_9999, zl_1000, zl_40, zl_64, zl_16, zl_1289, zl_1545, zl_1801, zl_2068, zl_1865, zl_1866, zl_1867, zl_1868, zl_1281, zl_999, i_bd, i_sb, i_jp, bI_z, not_true_eq_false, not_false_eq_true, if_true, if_false, and_self, and_true, true_and, and_false, false_and, zi_neg, zi_sub, zi_add, zi_mul, m_thr0 (mq_h hm), m_chk (mq_h hm0), mq_tr hm0, mq_as hm0, mq_q, mq_y hm0, mq_yr hm0, m_isIn2, m_of (mq_h hm0), m_at (mq_h hm0), m_told1 (mq_h hm0), m_sumAt, m_told (mq_h hm0), m_T (mq_h hm0), hund, m_chk (mq_h hu), m_of (mq_h hu), m_sumAt, m_add (mq_h hu), m_at (mq_h hu), m_put (mq_h hu), m_lay (mq_h hu), rzz_0, rzz_1, c1, c2, mq_gone hm0 c1.1 c1.2, c3, gi, f4]
        · have f4 : AtZ B a' 47 = 0 := by omega
          refine mp_no ?_
          refine qp_mk (0) (F1 := F) (S1 := S) (S2 := S') (ho2 := ho) (ha2 := ha) (sm2 := sm) ?_ ?_
          · unfold g_X9_use
            simp (disch := omega) only [zl_0, zl_1, zl_2, zl_3, zl_4, zl_5, zl_6, zl_7, zl_8, zl_9, zl_10, zl_11, zl_12, zl_13, zl_15, zl_17, zl_27, zl_37, zl_47, zl_63, zl_99999, zl_999999, zl_9999, zl_1000, zl_40, zl_64, zl_16, zl_1289, zl_1545, zl_1801, zl_2068, zl_1865, zl_1866, zl_1867, zl_1868, zl_1281, zl_999, i_bd, i_sb, i_jp, bI_z, not_true_eq_false, not_false_eq_true, if_true, if_false, and_self, and_true, true_and, and_false, false_and, zi_neg, zi_sub, zi_add, zi_mul, xq_ko hx, xq_o4 hx, xq_tr hx, xq_as hx, xq_bg hx, xq_yr, x_isIn2, c_o1 (xq_C hx), c_o0 (xq_C hx), c_o5 (xq_C hx), c_kB (xq_C hx), c_kC (xq_C hx), c_kF (xq_C hx), c_now (xq_C hx), rzz_0, rzz_1, c1, c_oA (xq_C hx) a8, c_gA (xq_C hx) a8, c_kA (xq_C hx) a8, c2, hmay, c3, c4]
          · unfold g_X10_use
            simp (disch := omega) only [zl_0, zl_1, zl_2, zl_3, zl_4, zl_5, zl_6, zl_7, zl_8, zl_9, zl_10, zl_11, zl_12, zl_13, zl_15, zl_17, zl_27, zl_37, zl_47, zl_63, zl_99999, zl_999999, zl_9999, zl_1000, zl_40, zl_64, zl_16, zl_1289, zl_1545, zl_1801, zl_2068, zl_1865, zl_1866, zl_1867, zl_1868, zl_1281, zl_999, i_bd, i_sb, i_jp, bI_z, not_true_eq_false, not_false_eq_true, if_true, if_false, and_self, and_true, true_and, and_false, false_and, zi_neg, zi_sub, zi_add, zi_mul, m_thr0 (mq_h hm), m_chk (mq_h hm0), mq_tr hm0, mq_as hm0, mq_q, mq_y hm0, mq_yr hm0, m_isIn2, m_of (mq_h hm0), m_at (mq_h hm0), m_told1 (mq_h hm0), m_sumAt, m_told (mq_h hm0), m_T (mq_h hm0), rzz_0, rzz_1, c1, c2, mq_gone hm0 c1.1 c1.2, c3, gi, f4]
      · have c3' : AtZ B a' 9 = 1 ∨ 0 < AtZ B a' 7 := Classical.not_not.mp c3
        refine mp_no ?_
        refine qp_mk (0) (F1 := F) (S1 := S) (S2 := S') (ho2 := ho) (ha2 := ha) (sm2 := sm) ?_ ?_
        · unfold g_X9_use
          simp (disch := omega) only [zl_0, zl_1, zl_2, zl_3, zl_4, zl_5, zl_6, zl_7, zl_8, zl_9, zl_10, zl_11, zl_12, zl_13, zl_15, zl_17, zl_27, zl_37, zl_47, zl_63, zl_99999, zl_999999, zl_9999, zl_1000, zl_40, zl_64, zl_16, zl_1289, zl_1545, zl_1801, zl_2068, zl_1865, zl_1866, zl_1867, zl_1868, zl_1281, zl_999, i_bd, i_sb, i_jp, bI_z, not_true_eq_false, not_false_eq_true, if_true, if_false, and_self, and_true, true_and, and_false, false_and, zi_neg, zi_sub, zi_add, zi_mul, xq_ko hx, xq_o4 hx, xq_tr hx, xq_as hx, xq_bg hx, xq_yr, x_isIn2, c_o1 (xq_C hx), c_o0 (xq_C hx), c_o5 (xq_C hx), c_kB (xq_C hx), c_kC (xq_C hx), c_kF (xq_C hx), c_now (xq_C hx), rzz_0, rzz_1, c1, c_oA (xq_C hx) a8, c_gA (xq_C hx) a8, c_kA (xq_C hx) a8, c2, hmay, c3']
        · unfold g_X10_use
          simp (disch := omega) only [zl_0, zl_1, zl_2, zl_3, zl_4, zl_5, zl_6, zl_7, zl_8, zl_9, zl_10, zl_11, zl_12, zl_13, zl_15, zl_17, zl_27, zl_37, zl_47, zl_63, zl_99999, zl_999999, zl_9999, zl_1000, zl_40, zl_64, zl_16, zl_1289, zl_1545, zl_1801, zl_2068, zl_1865, zl_1866, zl_1867, zl_1868, zl_1281, zl_999, i_bd, i_sb, i_jp, bI_z, not_true_eq_false, not_false_eq_true, if_true, if_false, and_self, and_true, true_and, and_false, false_and, zi_neg, zi_sub, zi_add, zi_mul, m_thr0 (mq_h hm), m_chk (mq_h hm0), mq_tr hm0, mq_as hm0, mq_q, mq_y hm0, mq_yr hm0, m_isIn2, m_of (mq_h hm0), m_at (mq_h hm0), m_told1 (mq_h hm0), m_sumAt, m_told (mq_h hm0), m_T (mq_h hm0), rzz_0, rzz_1, c1, c2, mq_gone hm0 c1.1 c1.2, c3']
    · refine mp_no ?_
      refine qp_mk (0) (F1 := F) (S1 := S) (S2 := S') (ho2 := ho) (ha2 := ha) (sm2 := sm) ?_ ?_
      · unfold g_X9_use
        simp (disch := omega) only [zl_0, zl_1, zl_2, zl_3, zl_4, zl_5, zl_6, zl_7, zl_8, zl_9, zl_10, zl_11, zl_12, zl_13, zl_15, zl_17, zl_27, zl_37, zl_47, zl_63, zl_99999, zl_999999, zl_9999, zl_1000, zl_40, zl_64, zl_16, zl_1289, zl_1545, zl_1801, zl_2068, zl_1865, zl_1866, zl_1867, zl_1868, zl_1281, zl_999, i_bd, i_sb, i_jp, bI_z, not_true_eq_false, not_false_eq_true, if_true, if_false, and_self, and_true, true_and, and_false, false_and, zi_neg, zi_sub, zi_add, zi_mul, xq_ko hx, xq_o4 hx, xq_tr hx, xq_as hx, xq_bg hx, xq_yr, x_isIn2, c_o1 (xq_C hx), c_o0 (xq_C hx), c_o5 (xq_C hx), c_kB (xq_C hx), c_kC (xq_C hx), c_kF (xq_C hx), c_now (xq_C hx), rzz_0, rzz_1, c1, c_oA (xq_C hx) a8, c_gA (xq_C hx) a8, c_kA (xq_C hx) a8, c2]
      · unfold g_X10_use
        simp (disch := omega) only [zl_0, zl_1, zl_2, zl_3, zl_4, zl_5, zl_6, zl_7, zl_8, zl_9, zl_10, zl_11, zl_12, zl_13, zl_15, zl_17, zl_27, zl_37, zl_47, zl_63, zl_99999, zl_999999, zl_9999, zl_1000, zl_40, zl_64, zl_16, zl_1289, zl_1545, zl_1801, zl_2068, zl_1865, zl_1866, zl_1867, zl_1868, zl_1281, zl_999, i_bd, i_sb, i_jp, bI_z, not_true_eq_false, not_false_eq_true, if_true, if_false, and_self, and_true, true_and, and_false, false_and, zi_neg, zi_sub, zi_add, zi_mul, m_thr0 (mq_h hm), m_chk (mq_h hm0), mq_tr hm0, mq_as hm0, mq_q, mq_y hm0, mq_yr hm0, m_isIn2, m_of (mq_h hm0), m_at (mq_h hm0), m_told1 (mq_h hm0), m_sumAt, m_told (mq_h hm0), m_T (mq_h hm0), rzz_0, rzz_1, c1, c2]
  · refine mp_no ?_
    refine qp_mk (0) (F1 := F) (S1 := S) (S2 := S') (ho2 := ho) (ha2 := ha) (sm2 := sm) ?_ ?_
    · unfold g_X9_use
      simp (disch := omega) only [zl_0, zl_1, zl_2, zl_3, zl_4, zl_5, zl_6, zl_7, zl_8, zl_9, zl_10, zl_11, zl_12, zl_13, zl_15, zl_17, zl_27, zl_37, zl_47, zl_63, zl_99999, zl_999999, zl_9999, zl_1000, zl_40, zl_64, zl_16, zl_1289, zl_1545, zl_1801, zl_2068, zl_1865, zl_1866, zl_1867, zl_1868, zl_1281, zl_999, i_bd, i_sb, i_jp, bI_z, not_true_eq_false, not_false_eq_true, if_true, if_false, and_self, and_true, true_and, and_false, false_and, zi_neg, zi_sub, zi_add, zi_mul, xq_ko hx, xq_o4 hx, xq_tr hx, xq_as hx, xq_bg hx, xq_yr, x_isIn2, c_o1 (xq_C hx), c_o0 (xq_C hx), c_o5 (xq_C hx), c_kB (xq_C hx), c_kC (xq_C hx), c_kF (xq_C hx), c_now (xq_C hx), rzz_0, rzz_1, c1]
    · unfold g_X10_use
      simp (disch := omega) only [zl_0, zl_1, zl_2, zl_3, zl_4, zl_5, zl_6, zl_7, zl_8, zl_9, zl_10, zl_11, zl_12, zl_13, zl_15, zl_17, zl_27, zl_37, zl_47, zl_63, zl_99999, zl_999999, zl_9999, zl_1000, zl_40, zl_64, zl_16, zl_1289, zl_1545, zl_1801, zl_2068, zl_1865, zl_1866, zl_1867, zl_1868, zl_1281, zl_999, i_bd, i_sb, i_jp, bI_z, not_true_eq_false, not_false_eq_true, if_true, if_false, and_self, and_true, true_and, and_false, false_and, zi_neg, zi_sub, zi_add, zi_mul, m_thr0 (mq_h hm), m_chk (mq_h hm0), mq_tr hm0, mq_as hm0, mq_q, mq_y hm0, mq_yr hm0, m_isIn2, m_of (mq_h hm0), m_at (mq_h hm0), m_told1 (mq_h hm0), m_sumAt, m_told (mq_h hm0), m_T (mq_h hm0), rzz_0, rzz_1, c1]
theorem P_acquire (hx : XQr M c r R nt T tr sl bu as B U) (hm : MQr M' nt T tr sl bu as B U) (hx' : XQr Mx c r R nt T tr sl bu as B U) (hu : MQr Mu nt T tr sl bu as B U) (hN : UN n M Mx M' Mu c R B) (hn : 300 < n) (hU : U ≤ 99000000)  {t : Int} {u : Int} {x : Int} {s : Int} (t1 : -2147483648 ≤ t) (t2 : t ≤ 2147483647) (u1 : -2147483648 ≤ u) (u2 : u ≤ 2147483647) (x1 : -2147483648 ≤ x) (x2 : x ≤ 2147483647) (s1 : -2147483648 ≤ s) (s2 : s ≤ 2147483647) : MP (g_X9_acquire n (WX M c R F S) 0 (zi t) (zi u) (zi x) (zi s)) (g_X10_acquire n (WC M' 0 B S' ho ha sm) 139 (zi t) (zi u) (zi x) (zi s)) M Mx (sI M' 139 2 0) Mu c R T B nt U := by
  have hm0 := mq_thr0 (v := zi 0) hm
  have hnt := hm.2.1
  have h8 := mq_8 hm
  obtain ⟨n1, n2⟩ := mq_N hm
  have hy : 0 ≤ yearZ B ∧ yearZ B < 16 := by unfold yearZ; omega
  have hT := hm.2.2.1
  have htr := hm.2.2.2.1
  have hAN := AN2_r (mq_N hm) hm.2.2.2.2.2.1.2.2.2.2.2.2.1
  have t1r := hT.2.1
  have t2r := hT.2.2
  obtain ⟨p, hp6, hp3, hadd, hund⟩ := hN
  have hund : ∀ S ho ha sm, g_X10_canUndo n (WC (sI M' 139 2 (zi 0)) 0 B S ho ha sm) 139 = some ((), WC Mu 0 B S ho ha sm) := hund
  have o6 : ∀ F S, gO (WX M c R F S) 7 0 6 = some p := fun F S => i_gO hx.1.1 hp6
  have k3 : ∀ {β : Type} {F S} {e : Option β}, chk (WX M c R F S) 3 p e = e := fun {β F S e} => i_chk hp3
  have r00 := (xq_R hx').1.1
  have r01 := (xq_R hx').1.2.1
  have hUU := hx.2.2.2.2
  have giv : ∀ F S, g_X9_isIntervals n (WX M c R F S) (zi s) = some (bI2 (s = 5 ∨ s = 10), WX M c R F S) := fun F S => by
    unfold g_X9_isIntervals
    have q5 : (zi s = 5) = (s = 5) := zi_eq (b := 5) (by omega) (by omega) (by omega) (by omega)
    have q10 : (zi s = 10) = (s = 10) := zi_eq (b := 10) (by omega) (by omega) (by omega) (by omega)
    simp only [q5, q10]
    unfold bI2
    by_cases d5 : s = 5
    · rw [if_pos d5, if_pos (Or.inl d5)]; exact rz_1
    · rw [if_neg d5]
      by_cases d10 : s = 10
      · rw [if_pos d10, if_pos (Or.inr d10)]; exact rz_1
      · rw [if_neg d10, if_neg (by omega)]; exact rz_0
  by_cases c1 : 0 ≤ t ∧ t < nt
  · by_cases c2 : 0 ≤ u ∧ u ≤ 2
    · by_cases c3 : 1 ≤ x ∧ x ≤ 99999
      · by_cases c4 : s = 5 ∨ s = 10
        · by_cases d5 : s = 5
          · by_cases c5 : B 1865 < 8
            · obtain ⟨R1, gx, hR1⟩ := c_acq (n := n) (F := F) (S := S) (t := t) (u := u) (x := x) (s := s) hx' c5 c1.1 (by omega) c2.1 c2.2
              have hBI := BI_acq (t := t) (u := u) (x := x) (s := s) hm.2.2.2.2.2.1 (by omega) hnt.2 c1.1 c1.2 c2.1 c2.2 c3 c4 c5
              have gm := m_acquires (n := n) (B := B) (S := S') (ho := ho) (ha := ha) (sm := sm) (t := t) (use := u) (tax := x) (span := s) (mq_h hu) (by omega) ⟨h8.1, c5⟩ (mq_N hm) c1.1 (by omega) c2.1 c2.2
              have f8 : (zi (B 1865) = zi 8) = False := c_eqF (show ¬ (B 1865 = 8) by omega) (by omega) (by omega) (by omega) (by omega)
              have g8 : (zi (B 1865) < zi 8) = True := c_ltT c5 (by omega) (by omega) (by omega) (by omega)
              refine mp_mk (B 1865) (hR1) (hBI) (F1 := F) (S1 := S) (S2 := S') (ho2 := ho) (ha2 := ha) (sm2 := sm) ?_ ?_
              · unfold g_X9_acquire
                simp (disch := omega) only [zl_0, zl_1, zl_2, zl_3, zl_4, zl_5, zl_6, zl_7, zl_8, zl_9, zl_10, zl_11, zl_12, zl_13, zl_15, zl_17, zl_27, zl_37, zl_47, zl_63, zl_99999, zl_999999, zl_9999, zl_1000, zl_40, zl_64, zl_16, zl_1289, zl_1545, zl_1801, zl_2068, zl_1865, zl_1866, zl_1867, zl_1868, zl_1281, zl_999, i_bd, i_sb, i_jp, bI_z, not_true_eq_false, not_false_eq_true, if_true, if_false, and_self, and_true, true_and, and_false, false_and, zi_neg, zi_sub, zi_add, zi_mul, xq_ko hx, xq_o4 hx, xq_tr hx, xq_as hx, xq_bg hx, xq_yr, x_isIn2, c_o1 (xq_C hx), c_o0 (xq_C hx), c_o5 (xq_C hx), c_kB (xq_C hx), c_kC (xq_C hx), c_kF (xq_C hx), c_now (xq_C hx), o6, k3, hadd, xq_o4 hx', c_o1 (xq_C hx'), c_now (xq_C hx'), c_kB (xq_C hx'), r00, c_o5 (xq_C hx'), xq_ko hx', c1, c2, c3, c4, giv, c_now (xq_C hx), r01, gx, g8]
              · unfold g_X10_acquire
                simp (disch := omega) only [zl_0, zl_1, zl_2, zl_3, zl_4, zl_5, zl_6, zl_7, zl_8, zl_9, zl_10, zl_11, zl_12, zl_13, zl_15, zl_17, zl_27, zl_37, zl_47, zl_63, zl_99999, zl_999999, zl_9999, zl_1000, zl_40, zl_64, zl_16, zl_1289, zl_1545, zl_1801, zl_2068, zl_1865, zl_1866, zl_1867, zl_1868, zl_1281, zl_999, i_bd, i_sb, i_jp, bI_z, not_true_eq_false, not_false_eq_true, if_true, if_false, and_self, and_true, true_and, and_false, false_and, zi_neg, zi_sub, zi_add, zi_mul, m_thr0 (mq_h hm), m_chk (mq_h hm0), mq_tr hm0, mq_as hm0, mq_q, mq_y hm0, mq_yr hm0, m_isIn2, m_of (mq_h hm0), m_at (mq_h hm0), m_told1 (mq_h hm0), m_sumAt, m_told (mq_h hm0), m_T (mq_h hm0), hund, m_chk (mq_h hu), m_of (mq_h hu), m_sumAt, m_add (mq_h hu), m_at (mq_h hu), m_put (mq_h hu), m_lay (mq_h hu), c1, c2, c3, gm, f8, c_eqT d5]
            · have f8 : (zi (B 1865) = zi 8) = True := c_eqT (show B 1865 = 8 by omega)
              have g8 : (zi (B 1865) < zi 8) = False := c_ltF (show 8 ≤ B 1865 by omega) (by omega) (by omega) (by omega) (by omega)
              refine mp_no ?_
              refine qp_mk (-2) (F1 := F) (S1 := S) (S2 := S') (ho2 := ho) (ha2 := ha) (sm2 := sm) ?_ ?_
              · unfold g_X9_acquire
                simp (disch := omega) only [zl_0, zl_1, zl_2, zl_3, zl_4, zl_5, zl_6, zl_7, zl_8, zl_9, zl_10, zl_11, zl_12, zl_13, zl_15, zl_17, zl_27, zl_37, zl_47, zl_63, zl_99999, zl_999999, zl_9999, zl_1000, zl_40, zl_64, zl_16, zl_1289, zl_1545, zl_1801, zl_2068, zl_1865, zl_1866, zl_1867, zl_1868, zl_1281, zl_999, i_bd, i_sb, i_jp, bI_z, not_true_eq_false, not_false_eq_true, if_true, if_false, and_self, and_true, true_and, and_false, false_and, zi_neg, zi_sub, zi_add, zi_mul, xq_ko hx, xq_o4 hx, xq_tr hx, xq_as hx, xq_bg hx, xq_yr, x_isIn2, c_o1 (xq_C hx), c_o0 (xq_C hx), c_o5 (xq_C hx), c_kB (xq_C hx), c_kC (xq_C hx), c_kF (xq_C hx), c_now (xq_C hx), c1, c2, c3, c4, giv, g8, c_now (xq_C hx), r01]
              · unfold g_X10_acquire
                simp (disch := omega) only [zl_0, zl_1, zl_2, zl_3, zl_4, zl_5, zl_6, zl_7, zl_8, zl_9, zl_10, zl_11, zl_12, zl_13, zl_15, zl_17, zl_27, zl_37, zl_47, zl_63, zl_99999, zl_999999, zl_9999, zl_1000, zl_40, zl_64, zl_16, zl_1289, zl_1545, zl_1801, zl_2068, zl_1865, zl_1866, zl_1867, zl_1868, zl_1281, zl_999, i_bd, i_sb, i_jp, bI_z, not_true_eq_false, not_false_eq_true, if_true, if_false, and_self, and_true, true_and, and_false, false_and, zi_neg, zi_sub, zi_add, zi_mul, m_thr0 (mq_h hm), m_chk (mq_h hm0), mq_tr hm0, mq_as hm0, mq_q, mq_y hm0, mq_yr hm0, m_isIn2, m_of (mq_h hm0), m_at (mq_h hm0), m_told1 (mq_h hm0), m_sumAt, m_told (mq_h hm0), m_T (mq_h hm0), c1, c2, c3, f8, c_eqT d5]
          · have d10 : s = 10 := c4.resolve_left d5
            by_cases c5 : B 1865 < 8
            · obtain ⟨R1, gx, hR1⟩ := c_acq (n := n) (F := F) (S := S) (t := t) (u := u) (x := x) (s := s) hx' c5 c1.1 (by omega) c2.1 c2.2
              have hBI := BI_acq (t := t) (u := u) (x := x) (s := s) hm.2.2.2.2.2.1 (by omega) hnt.2 c1.1 c1.2 c2.1 c2.2 c3 c4 c5
              have gm := m_acquires (n := n) (B := B) (S := S') (ho := ho) (ha := ha) (sm := sm) (t := t) (use := u) (tax := x) (span := s) (mq_h hu) (by omega) ⟨h8.1, c5⟩ (mq_N hm) c1.1 (by omega) c2.1 c2.2
              have f8 : (zi (B 1865) = zi 8) = False := c_eqF (show ¬ (B 1865 = 8) by omega) (by omega) (by omega) (by omega) (by omega)
              have g8 : (zi (B 1865) < zi 8) = True := c_ltT c5 (by omega) (by omega) (by omega) (by omega)
              refine mp_mk (B 1865) (hR1) (hBI) (F1 := F) (S1 := S) (S2 := S') (ho2 := ho) (ha2 := ha) (sm2 := sm) ?_ ?_
              · unfold g_X9_acquire
                simp (disch := omega) only [zl_0, zl_1, zl_2, zl_3, zl_4, zl_5, zl_6, zl_7, zl_8, zl_9, zl_10, zl_11, zl_12, zl_13, zl_15, zl_17, zl_27, zl_37, zl_47, zl_63, zl_99999, zl_999999, zl_9999, zl_1000, zl_40, zl_64, zl_16, zl_1289, zl_1545, zl_1801, zl_2068, zl_1865, zl_1866, zl_1867, zl_1868, zl_1281, zl_999, i_bd, i_sb, i_jp, bI_z, not_true_eq_false, not_false_eq_true, if_true, if_false, and_self, and_true, true_and, and_false, false_and, zi_neg, zi_sub, zi_add, zi_mul, xq_ko hx, xq_o4 hx, xq_tr hx, xq_as hx, xq_bg hx, xq_yr, x_isIn2, c_o1 (xq_C hx), c_o0 (xq_C hx), c_o5 (xq_C hx), c_kB (xq_C hx), c_kC (xq_C hx), c_kF (xq_C hx), c_now (xq_C hx), o6, k3, hadd, xq_o4 hx', c_o1 (xq_C hx'), c_now (xq_C hx'), c_kB (xq_C hx'), r00, c_o5 (xq_C hx'), xq_ko hx', c1, c2, c3, c4, giv, c_now (xq_C hx), r01, gx, g8]
              · unfold g_X10_acquire
                simp (disch := omega) only [zl_0, zl_1, zl_2, zl_3, zl_4, zl_5, zl_6, zl_7, zl_8, zl_9, zl_10, zl_11, zl_12, zl_13, zl_15, zl_17, zl_27, zl_37, zl_47, zl_63, zl_99999, zl_999999, zl_9999, zl_1000, zl_40, zl_64, zl_16, zl_1289, zl_1545, zl_1801, zl_2068, zl_1865, zl_1866, zl_1867, zl_1868, zl_1281, zl_999, i_bd, i_sb, i_jp, bI_z, not_true_eq_false, not_false_eq_true, if_true, if_false, and_self, and_true, true_and, and_false, false_and, zi_neg, zi_sub, zi_add, zi_mul, m_thr0 (mq_h hm), m_chk (mq_h hm0), mq_tr hm0, mq_as hm0, mq_q, mq_y hm0, mq_yr hm0, m_isIn2, m_of (mq_h hm0), m_at (mq_h hm0), m_told1 (mq_h hm0), m_sumAt, m_told (mq_h hm0), m_T (mq_h hm0), hund, m_chk (mq_h hu), m_of (mq_h hu), m_sumAt, m_add (mq_h hu), m_at (mq_h hu), m_put (mq_h hu), m_lay (mq_h hu), c1, c2, c3, gm, f8, c_eqF d5, c_eqT d10]
            · have f8 : (zi (B 1865) = zi 8) = True := c_eqT (show B 1865 = 8 by omega)
              have g8 : (zi (B 1865) < zi 8) = False := c_ltF (show 8 ≤ B 1865 by omega) (by omega) (by omega) (by omega) (by omega)
              refine mp_no ?_
              refine qp_mk (-2) (F1 := F) (S1 := S) (S2 := S') (ho2 := ho) (ha2 := ha) (sm2 := sm) ?_ ?_
              · unfold g_X9_acquire
                simp (disch := omega) only [zl_0, zl_1, zl_2, zl_3, zl_4, zl_5, zl_6, zl_7, zl_8, zl_9, zl_10, zl_11, zl_12, zl_13, zl_15, zl_17, zl_27, zl_37, zl_47, zl_63, zl_99999, zl_999999, zl_9999, zl_1000, zl_40, zl_64, zl_16, zl_1289, zl_1545, zl_1801, zl_2068, zl_1865, zl_1866, zl_1867, zl_1868, zl_1281, zl_999, i_bd, i_sb, i_jp, bI_z, not_true_eq_false, not_false_eq_true, if_true, if_false, and_self, and_true, true_and, and_false, false_and, zi_neg, zi_sub, zi_add, zi_mul, xq_ko hx, xq_o4 hx, xq_tr hx, xq_as hx, xq_bg hx, xq_yr, x_isIn2, c_o1 (xq_C hx), c_o0 (xq_C hx), c_o5 (xq_C hx), c_kB (xq_C hx), c_kC (xq_C hx), c_kF (xq_C hx), c_now (xq_C hx), c1, c2, c3, c4, giv, g8, c_now (xq_C hx), r01]
              · unfold g_X10_acquire
                simp (disch := omega) only [zl_0, zl_1, zl_2, zl_3, zl_4, zl_5, zl_6, zl_7, zl_8, zl_9, zl_10, zl_11, zl_12, zl_13, zl_15, zl_17, zl_27, zl_37, zl_47, zl_63, zl_99999, zl_999999, zl_9999, zl_1000, zl_40, zl_64, zl_16, zl_1289, zl_1545, zl_1801, zl_2068, zl_1865, zl_1866, zl_1867, zl_1868, zl_1281, zl_999, i_bd, i_sb, i_jp, bI_z, not_true_eq_false, not_false_eq_true, if_true, if_false, and_self, and_true, true_and, and_false, false_and, zi_neg, zi_sub, zi_add, zi_mul, m_thr0 (mq_h hm), m_chk (mq_h hm0), mq_tr hm0, mq_as hm0, mq_q, mq_y hm0, mq_yr hm0, m_isIn2, m_of (mq_h hm0), m_at (mq_h hm0), m_told1 (mq_h hm0), m_sumAt, m_told (mq_h hm0), m_T (mq_h hm0), c1, c2, c3, f8, c_eqF d5, c_eqT d10]
        · have d5 : ¬ s = 5 := fun q => c4 (Or.inl q)
          have d10 : ¬ s = 10 := fun q => c4 (Or.inr q)
          refine mp_no ?_
          refine qp_mk (-1) (F1 := F) (S1 := S) (S2 := S') (ho2 := ho) (ha2 := ha) (sm2 := sm) ?_ ?_
          · unfold g_X9_acquire
            simp (disch := omega) only [zl_0, zl_1, zl_2, zl_3, zl_4, zl_5, zl_6, zl_7, zl_8, zl_9, zl_10, zl_11, zl_12, zl_13, zl_15, zl_17, zl_27, zl_37, zl_47, zl_63, zl_99999, zl_999999, zl_9999, zl_1000, zl_40, zl_64, zl_16, zl_1289, zl_1545, zl_1801, zl_2068, zl_1865, zl_1866, zl_1867, zl_1868, zl_1281, zl_999, i_bd, i_sb, i_jp, bI_z, not_true_eq_false, not_false_eq_true, if_true, if_false, and_self, and_true, true_and, and_false, false_and, zi_neg, zi_sub, zi_add, zi_mul, xq_ko hx, xq_o4 hx, xq_tr hx, xq_as hx, xq_bg hx, xq_yr, x_isIn2, c_o1 (xq_C hx), c_o0 (xq_C hx), c_o5 (xq_C hx), c_kB (xq_C hx), c_kC (xq_C hx), c_kF (xq_C hx), c_now (xq_C hx), c1, c2, c3, c4, giv]
          · unfold g_X10_acquire
            simp (disch := omega) only [zl_0, zl_1, zl_2, zl_3, zl_4, zl_5, zl_6, zl_7, zl_8, zl_9, zl_10, zl_11, zl_12, zl_13, zl_15, zl_17, zl_27, zl_37, zl_47, zl_63, zl_99999, zl_999999, zl_9999, zl_1000, zl_40, zl_64, zl_16, zl_1289, zl_1545, zl_1801, zl_2068, zl_1865, zl_1866, zl_1867, zl_1868, zl_1281, zl_999, i_bd, i_sb, i_jp, bI_z, not_true_eq_false, not_false_eq_true, if_true, if_false, and_self, and_true, true_and, and_false, false_and, zi_neg, zi_sub, zi_add, zi_mul, m_thr0 (mq_h hm), m_chk (mq_h hm0), mq_tr hm0, mq_as hm0, mq_q, mq_y hm0, mq_yr hm0, m_isIn2, m_of (mq_h hm0), m_at (mq_h hm0), m_told1 (mq_h hm0), m_sumAt, m_told (mq_h hm0), m_T (mq_h hm0), c1, c2, c3, c_eqF d5, c_eqF d10]
      · refine mp_no ?_
        refine qp_mk (-1) (F1 := F) (S1 := S) (S2 := S') (ho2 := ho) (ha2 := ha) (sm2 := sm) ?_ ?_
        · unfold g_X9_acquire
          simp (disch := omega) only [zl_0, zl_1, zl_2, zl_3, zl_4, zl_5, zl_6, zl_7, zl_8, zl_9, zl_10, zl_11, zl_12, zl_13, zl_15, zl_17, zl_27, zl_37, zl_47, zl_63, zl_99999, zl_999999, zl_9999, zl_1000, zl_40, zl_64, zl_16, zl_1289, zl_1545, zl_1801, zl_2068, zl_1865, zl_1866, zl_1867, zl_1868, zl_1281, zl_999, i_bd, i_sb, i_jp, bI_z, not_true_eq_false, not_false_eq_true, if_true, if_false, and_self, and_true, true_and, and_false, false_and, zi_neg, zi_sub, zi_add, zi_mul, xq_ko hx, xq_o4 hx, xq_tr hx, xq_as hx, xq_bg hx, xq_yr, x_isIn2, c_o1 (xq_C hx), c_o0 (xq_C hx), c_o5 (xq_C hx), c_kB (xq_C hx), c_kC (xq_C hx), c_kF (xq_C hx), c_now (xq_C hx), c1, c2, c3]
        · unfold g_X10_acquire
          simp (disch := omega) only [zl_0, zl_1, zl_2, zl_3, zl_4, zl_5, zl_6, zl_7, zl_8, zl_9, zl_10, zl_11, zl_12, zl_13, zl_15, zl_17, zl_27, zl_37, zl_47, zl_63, zl_99999, zl_999999, zl_9999, zl_1000, zl_40, zl_64, zl_16, zl_1289, zl_1545, zl_1801, zl_2068, zl_1865, zl_1866, zl_1867, zl_1868, zl_1281, zl_999, i_bd, i_sb, i_jp, bI_z, not_true_eq_false, not_false_eq_true, if_true, if_false, and_self, and_true, true_and, and_false, false_and, zi_neg, zi_sub, zi_add, zi_mul, m_thr0 (mq_h hm), m_chk (mq_h hm0), mq_tr hm0, mq_as hm0, mq_q, mq_y hm0, mq_yr hm0, m_isIn2, m_of (mq_h hm0), m_at (mq_h hm0), m_told1 (mq_h hm0), m_sumAt, m_told (mq_h hm0), m_T (mq_h hm0), c1, c2, c3]
    · refine mp_no ?_
      refine qp_mk (-1) (F1 := F) (S1 := S) (S2 := S') (ho2 := ho) (ha2 := ha) (sm2 := sm) ?_ ?_
      · unfold g_X9_acquire
        simp (disch := omega) only [zl_0, zl_1, zl_2, zl_3, zl_4, zl_5, zl_6, zl_7, zl_8, zl_9, zl_10, zl_11, zl_12, zl_13, zl_15, zl_17, zl_27, zl_37, zl_47, zl_63, zl_99999, zl_999999, zl_9999, zl_1000, zl_40, zl_64, zl_16, zl_1289, zl_1545, zl_1801, zl_2068, zl_1865, zl_1866, zl_1867, zl_1868, zl_1281, zl_999, i_bd, i_sb, i_jp, bI_z, not_true_eq_false, not_false_eq_true, if_true, if_false, and_self, and_true, true_and, and_false, false_and, zi_neg, zi_sub, zi_add, zi_mul, xq_ko hx, xq_o4 hx, xq_tr hx, xq_as hx, xq_bg hx, xq_yr, x_isIn2, c_o1 (xq_C hx), c_o0 (xq_C hx), c_o5 (xq_C hx), c_kB (xq_C hx), c_kC (xq_C hx), c_kF (xq_C hx), c_now (xq_C hx), c1, c2]
      · unfold g_X10_acquire
        simp (disch := omega) only [zl_0, zl_1, zl_2, zl_3, zl_4, zl_5, zl_6, zl_7, zl_8, zl_9, zl_10, zl_11, zl_12, zl_13, zl_15, zl_17, zl_27, zl_37, zl_47, zl_63, zl_99999, zl_999999, zl_9999, zl_1000, zl_40, zl_64, zl_16, zl_1289, zl_1545, zl_1801, zl_2068, zl_1865, zl_1866, zl_1867, zl_1868, zl_1281, zl_999, i_bd, i_sb, i_jp, bI_z, not_true_eq_false, not_false_eq_true, if_true, if_false, and_self, and_true, true_and, and_false, false_and, zi_neg, zi_sub, zi_add, zi_mul, m_thr0 (mq_h hm), m_chk (mq_h hm0), mq_tr hm0, mq_as hm0, mq_q, mq_y hm0, mq_yr hm0, m_isIn2, m_of (mq_h hm0), m_at (mq_h hm0), m_told1 (mq_h hm0), m_sumAt, m_told (mq_h hm0), m_T (mq_h hm0), c1, c2]
  · refine mp_no ?_
    refine qp_mk (-1) (F1 := F) (S1 := S) (S2 := S') (ho2 := ho) (ha2 := ha) (sm2 := sm) ?_ ?_
    · unfold g_X9_acquire
      simp (disch := omega) only [zl_0, zl_1, zl_2, zl_3, zl_4, zl_5, zl_6, zl_7, zl_8, zl_9, zl_10, zl_11, zl_12, zl_13, zl_15, zl_17, zl_27, zl_37, zl_47, zl_63, zl_99999, zl_999999, zl_9999, zl_1000, zl_40, zl_64, zl_16, zl_1289, zl_1545, zl_1801, zl_2068, zl_1865, zl_1866, zl_1867, zl_1868, zl_1281, zl_999, i_bd, i_sb, i_jp, bI_z, not_true_eq_false, not_false_eq_true, if_true, if_false, and_self, and_true, true_and, and_false, false_and, zi_neg, zi_sub, zi_add, zi_mul, xq_ko hx, xq_o4 hx, xq_tr hx, xq_as hx, xq_bg hx, xq_yr, x_isIn2, c_o1 (xq_C hx), c_o0 (xq_C hx), c_o5 (xq_C hx), c_kB (xq_C hx), c_kC (xq_C hx), c_kF (xq_C hx), c_now (xq_C hx), c1]
    · unfold g_X10_acquire
      simp (disch := omega) only [zl_0, zl_1, zl_2, zl_3, zl_4, zl_5, zl_6, zl_7, zl_8, zl_9, zl_10, zl_11, zl_12, zl_13, zl_15, zl_17, zl_27, zl_37, zl_47, zl_63, zl_99999, zl_999999, zl_9999, zl_1000, zl_40, zl_64, zl_16, zl_1289, zl_1545, zl_1801, zl_2068, zl_1865, zl_1866, zl_1867, zl_1868, zl_1281, zl_999, i_bd, i_sb, i_jp, bI_z, not_true_eq_false, not_false_eq_true, if_true, if_false, and_self, and_true, true_and, and_false, false_and, zi_neg, zi_sub, zi_add, zi_mul, m_thr0 (mq_h hm), m_chk (mq_h hm0), mq_tr hm0, mq_as hm0, mq_q, mq_y hm0, mq_yr hm0, m_isIn2, m_of (mq_h hm0), m_at (mq_h hm0), m_told1 (mq_h hm0), m_sumAt, m_told (mq_h hm0), m_T (mq_h hm0), c1]
end M2
