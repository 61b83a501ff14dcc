/-! ===== PURE 40: questions of one step ===== -/
section Q1
variable {M M' : MemT} {c r : Nat} {R : Nat → Nat → Int32} {F : Nat → Int32} {S S' : Int → Int} {n : Nat} {T tr sl bu as B : Int → Int} {nt U ho ha : Int} {sm : Int32}
theorem Q_sum (hx : XQr M c r R nt T tr sl bu as B U) (hm : MQr M' nt T tr sl bu as B U)  {t : Int} {q : Int} {w : Int} (t1 : -2147483648 ≤ t) (t2 : t ≤ 2147483647) (q1 : -2147483648 ≤ q) (q2 : q ≤ 2147483647) (w1 : -2147483648 ≤ w) (w2 : w ≤ 2147483647) : QP (g_X9_sum n (WX M c R F S) 0 (zi t) (zi q) (zi w)) (g_X10_sum n (WC M' 0 B S' ho ha sm) 139 (zi t) (zi q) (zi w)) M (sI M' 139 2 0) c R B := by
  have hm0 := mq_thr0 (v := zi 0) hm
  have hnt := hm.2.1
  have h8 := mq_8 hm
  obtain ⟨n1, n2⟩ := mq_N hm
  have hy : 0 ≤ yearZ B ∧ yearZ B < 16 := by unfold yearZ; omega
  have hT := hm.2.2.1
  have htr := hm.2.2.2.1
  have hAN := AN2_r (mq_N hm) hm.2.2.2.2.2.1.2.2.2.2.2.2.1
  have t1r := hT.2.1
  have t2r := hT.2.2
  by_cases c1 : 0 ≤ t ∧ t < nt
  · by_cases c2 : 0 ≤ q ∧ q < 64
    · have c2' : 0 ≤ q ∧ q ≤ 63 := by omega
      by_cases c3 : 0 ≤ w ∧ w ≤ 4
      · have gx : g_X2_sumOf n (WX M c R F S) (c + 10) (zi t) (zi q) (zi w) = some (zi (B (1 + 320 * t + 5 * q + w)), WX M c R F S) := x_sumOf (n := n) (wx_B (F := F) (S := S) (xq_C hx)) (xq_R hx) (by omega) (by omega) (by omega) (by omega) (by omega) (by omega)
        refine qp_mk (B (1 + 320 * t + 5 * q + w)) (F1 := F) (S1 := S) (S2 := S') (ho2 := ho) (ha2 := ha) (sm2 := sm) ?_ ?_
        · unfold g_X9_sum
          simp (disch := omega) only [zl_0, zl_1, zl_2, zl_3, zl_4, zl_5, zl_6, zl_7, zl_8, zl_9, zl_10, zl_11, zl_12, zl_13, zl_15, zl_17, zl_27, zl_37, zl_47, zl_63, zl_99999, zl_999999, zl_9999, zl_1000, zl_40, zl_64, zl_16, zl_1289, zl_1545, zl_1801, zl_2068, zl_1865, zl_1866, zl_1867, zl_1868, zl_1281, zl_999, i_bd, i_sb, i_jp, bI_z, not_true_eq_false, not_false_eq_true, if_true, if_false, and_self, and_true, true_and, and_false, false_and, zi_neg, zi_sub, zi_add, zi_mul, xq_ko hx, xq_o4 hx, xq_tr hx, xq_as hx, xq_bg hx, xq_yr, x_isIn2, c_o1 (xq_C hx), c_o0 (xq_C hx), c_o5 (xq_C hx), c_kB (xq_C hx), c_kC (xq_C hx), c_kF (xq_C hx), c_now (xq_C hx), c1, c2', c3, gx]
        · unfold g_X10_sum
          simp (disch := omega) only [zl_0, zl_1, zl_2, zl_3, zl_4, zl_5, zl_6, zl_7, zl_8, zl_9, zl_10, zl_11, zl_12, zl_13, zl_15, zl_17, zl_27, zl_37, zl_47, zl_63, zl_99999, zl_999999, zl_9999, zl_1000, zl_40, zl_64, zl_16, zl_1289, zl_1545, zl_1801, zl_2068, zl_1865, zl_1866, zl_1867, zl_1868, zl_1281, zl_999, i_bd, i_sb, i_jp, bI_z, not_true_eq_false, not_false_eq_true, if_true, if_false, and_self, and_true, true_and, and_false, false_and, zi_neg, zi_sub, zi_add, zi_mul, m_thr0 (mq_h hm), m_chk (mq_h hm0), mq_tr hm0, mq_as hm0, mq_q, mq_y hm0, mq_yr hm0, m_isIn2, m_of (mq_h hm0), m_at (mq_h hm0), m_told1 (mq_h hm0), m_sumAt, m_told (mq_h hm0), m_T (mq_h hm0), c1, c2, c3]
      · refine qp_mk (-1) (F1 := F) (S1 := S) (S2 := S') (ho2 := ho) (ha2 := ha) (sm2 := sm) ?_ ?_
        · unfold g_X9_sum
          simp (disch := omega) only [zl_0, zl_1, zl_2, zl_3, zl_4, zl_5, zl_6, zl_7, zl_8, zl_9, zl_10, zl_11, zl_12, zl_13, zl_15, zl_17, zl_27, zl_37, zl_47, zl_63, zl_99999, zl_999999, zl_9999, zl_1000, zl_40, zl_64, zl_16, zl_1289, zl_1545, zl_1801, zl_2068, zl_1865, zl_1866, zl_1867, zl_1868, zl_1281, zl_999, i_bd, i_sb, i_jp, bI_z, not_true_eq_false, not_false_eq_true, if_true, if_false, and_self, and_true, true_and, and_false, false_and, zi_neg, zi_sub, zi_add, zi_mul, xq_ko hx, xq_o4 hx, xq_tr hx, xq_as hx, xq_bg hx, xq_yr, x_isIn2, c_o1 (xq_C hx), c_o0 (xq_C hx), c_o5 (xq_C hx), c_kB (xq_C hx), c_kC (xq_C hx), c_kF (xq_C hx), c_now (xq_C hx), c1, c2', c3]
        · unfold g_X10_sum
          simp (disch := omega) only [zl_0, zl_1, zl_2, zl_3, zl_4, zl_5, zl_6, zl_7, zl_8, zl_9, zl_10, zl_11, zl_12, zl_13, zl_15, zl_17, zl_27, zl_37, zl_47, zl_63, zl_99999, zl_999999, zl_9999, zl_1000, zl_40, zl_64, zl_16, zl_1289, zl_1545, zl_1801, zl_2068, zl_1865, zl_1866, zl_1867, zl_1868, zl_1281, zl_999, i_bd, i_sb, i_jp, bI_z, not_true_eq_false, not_false_eq_true, if_true, if_false, and_self, and_true, true_and, and_false, false_and, zi_neg, zi_sub, zi_add, zi_mul, m_thr0 (mq_h hm), m_chk (mq_h hm0), mq_tr hm0, mq_as hm0, mq_q, mq_y hm0, mq_yr hm0, m_isIn2, m_of (mq_h hm0), m_at (mq_h hm0), m_told1 (mq_h hm0), m_sumAt, m_told (mq_h hm0), m_T (mq_h hm0), c1, c2, c3]
    · have c2' : ¬ (0 ≤ q ∧ q ≤ 63) := by omega
      refine qp_mk (-1) (F1 := F) (S1 := S) (S2 := S') (ho2 := ho) (ha2 := ha) (sm2 := sm) ?_ ?_
      · unfold g_X9_sum
        simp (disch := omega) only [zl_0, zl_1, zl_2, zl_3, zl_4, zl_5, zl_6, zl_7, zl_8, zl_9, zl_10, zl_11, zl_12, zl_13, zl_15, zl_17, zl_27, zl_37, zl_47, zl_63, zl_99999, zl_999999, zl_9999, zl_1000, zl_40, zl_64, zl_16, zl_1289, zl_1545, zl_1801, zl_2068, zl_1865, zl_1866, zl_1867, zl_1868, zl_1281, zl_999, i_bd, i_sb, i_jp, bI_z, not_true_eq_false, not_false_eq_true, if_true, if_false, and_self, and_true, true_and, and_false, false_and, zi_neg, zi_sub, zi_add, zi_mul, xq_ko hx, xq_o4 hx, xq_tr hx, xq_as hx, xq_bg hx, xq_yr, x_isIn2, c_o1 (xq_C hx), c_o0 (xq_C hx), c_o5 (xq_C hx), c_kB (xq_C hx), c_kC (xq_C hx), c_kF (xq_C hx), c_now (xq_C hx), c1, c2']
      · unfold g_X10_sum
        simp (disch := omega) only [zl_0, zl_1, zl_2, zl_3, zl_4, zl_5, zl_6, zl_7, zl_8, zl_9, zl_10, zl_11, zl_12, zl_13, zl_15, zl_17, zl_27, zl_37, zl_47, zl_63, zl_99999, zl_999999, zl_9999, zl_1000, zl_40, zl_64, zl_16, zl_1289, zl_1545, zl_1801, zl_2068, zl_1865, zl_1866, zl_1867, zl_1868, zl_1281, zl_999, i_bd, i_sb, i_jp, bI_z, not_true_eq_false, not_false_eq_true, if_true, if_false, and_self, and_true, true_and, and_false, false_and, zi_neg, zi_sub, zi_add, zi_mul, m_thr0 (mq_h hm), m_chk (mq_h hm0), mq_tr hm0, mq_as hm0, mq_q, mq_y hm0, mq_yr hm0, m_isIn2, m_of (mq_h hm0), m_at (mq_h hm0), m_told1 (mq_h hm0), m_sumAt, m_told (mq_h hm0), m_T (mq_h hm0), c1, c2]
  · refine qp_mk (-1) (F1 := F) (S1 := S) (S2 := S') (ho2 := ho) (ha2 := ha) (sm2 := sm) ?_ ?_
    · unfold g_X9_sum
      simp (disch := omega) only [zl_0, zl_1, zl_2, zl_3, zl_4, zl_5, zl_6, zl_7, zl_8, zl_9, zl_10, zl_11, zl_12, zl_13, zl_15, zl_17, zl_27, zl_37, zl_47, zl_63, zl_99999, zl_999999, zl_9999, zl_1000, zl_40, zl_64, zl_16, zl_1289, zl_1545, zl_1801, zl_2068, zl_1865, zl_1866, zl_1867, zl_1868, zl_1281, zl_999, i_bd, i_sb, i_jp, bI_z, not_true_eq_false, not_false_eq_true, if_true, if_false, and_self, and_true, true_and, and_false, false_and, zi_neg, zi_sub, zi_add, zi_mul, xq_ko hx, xq_o4 hx, xq_tr hx, xq_as hx, xq_bg hx, xq_yr, x_isIn2, c_o1 (xq_C hx), c_o0 (xq_C hx), c_o5 (xq_C hx), c_kB (xq_C hx), c_kC (xq_C hx), c_kF (xq_C hx), c_now (xq_C hx), c1]
    · unfold g_X10_sum
      simp (disch := omega) only [zl_0, zl_1, zl_2, zl_3, zl_4, zl_5, zl_6, zl_7, zl_8, zl_9, zl_10, zl_11, zl_12, zl_13, zl_15, zl_17, zl_27, zl_37, zl_47, zl_63, zl_99999, zl_999999, zl_9999, zl_1000, zl_40, zl_64, zl_16, zl_1289, zl_1545, zl_1801, zl_2068, zl_1865, zl_1866, zl_1867, zl_1868, zl_1281, zl_999, i_bd, i_sb, i_jp, bI_z, not_true_eq_false, not_false_eq_true, if_true, if_false, and_self, and_true, true_and, and_false, false_and, zi_neg, zi_sub, zi_add, zi_mul, m_thr0 (mq_h hm), m_chk (mq_h hm0), mq_tr hm0, mq_as hm0, mq_q, mq_y hm0, mq_yr hm0, m_isIn2, m_of (mq_h hm0), m_at (mq_h hm0), m_told1 (mq_h hm0), m_sumAt, m_told (mq_h hm0), m_T (mq_h hm0), c1]
theorem Q_provisional (hx : XQr M c r R nt T tr sl bu as B U) (hm : MQr M' nt T tr sl bu as B U) (hn : 10 < n) {t : Int} {q : Int} (t1 : -2147483648 ≤ t) (t2 : t ≤ 2147483647) (q1 : -2147483648 ≤ q) (q2 : q ≤ 2147483647) : QP (g_X9_provisional n (WX M c R F S) 0 (zi t) (zi q)) (g_X10_provisional n (WC M' 0 B S' ho ha sm) 139 (zi t) (zi q)) M (sI M' 139 2 0) c R B := by
  have hm0 := mq_thr0 (v := zi 0) hm
  have hnt := hm.2.1
  have h8 := mq_8 hm
  obtain ⟨n1, n2⟩ := mq_N hm
  have hy : 0 ≤ yearZ B ∧ yearZ B < 16 := by unfold yearZ; omega
  have hT := hm.2.2.1
  have htr := hm.2.2.2.1
  have hAN := AN2_r (mq_N hm) hm.2.2.2.2.2.1.2.2.2.2.2.2.1
  have t1r := hT.2.1
  have t2r := hT.2.2
  by_cases c1 : 0 ≤ t ∧ t < nt
  · by_cases c2 : 0 ≤ q ∧ q < 64
    · have c2' : 0 ≤ q ∧ q ≤ 63 := by omega
      by_cases c3 : q ≤ B 0
      · by_cases c4 : B 0 ≤ q
        · have hb := (htr t c1.1 (by omega)).2.1
          have ebs := ((xq_U hx).2.1 t c1.1 c1.2).2.2.1
          obtain ⟨F1, S1, gx⟩ := c_byBasis (n := n) (F := F) (S := S) (t := t) (q := q) (bs := tr (8 * t + 2)) hx.2.1 (by omega) c1.1 c1.2 c2.1 c2.2 hb
          obtain ⟨S2, -, gm⟩ := m_provisionalBy (n := n) (B := B) (S := S') (ho := ho) (ha := ha) (sm := sm) (t := t) (q := q) (bs := tr (8 * t + 2)) (mq_h hm0) hT htr (by omega) (mq_BS hm) c1.1 (by omega) c2.1 c2.2 hb
          refine qp_mk (provZ T tr B t q (tr (8 * t + 2))) (F1 := F1) (S1 := S1) (S2 := S2) (ho2 := B (1281 + 2 * t)) (ha2 := B (1282 + 2 * t)) (sm2 := sm) ?_ ?_
          · unfold g_X9_provisional
            simp (disch := omega) only [zl_0, zl_1, zl_2, zl_3, zl_4, zl_5, zl_6, zl_7, zl_8, zl_9, zl_10, zl_11, zl_12, zl_13, zl_15, zl_17, zl_27, zl_37, zl_47, zl_63, zl_99999, zl_999999, zl_9999, zl_1000, zl_40, zl_64, zl_16, zl_1289, zl_1545, zl_1801, zl_2068, zl_1865, zl_1866, zl_1867, zl_1868, zl_1281, zl_999, i_bd, i_sb, i_jp, bI_z, not_true_eq_false, not_false_eq_true, if_true, if_false, and_self, and_true, true_and, and_false, false_and, zi_neg, zi_sub, zi_add, zi_mul, xq_ko hx, xq_o4 hx, xq_tr hx, xq_as hx, xq_bg hx, xq_yr, x_isIn2, c_o1 (xq_C hx), c_o0 (xq_C hx), c_o5 (xq_C hx), c_kB (xq_C hx), c_kC (xq_C hx), c_kF (xq_C hx), c_now (xq_C hx), c1, c2', xq_R hx |>.1.1, c_leT c3, c_leT c4, c_r3 (xq_C hx), c_a3 (xq_C hx), ebs, gx]
          · unfold g_X10_provisional
            simp (disch := omega) only [zl_0, zl_1, zl_2, zl_3, zl_4, zl_5, zl_6, zl_7, zl_8, zl_9, zl_10, zl_11, zl_12, zl_13, zl_15, zl_17, zl_27, zl_37, zl_47, zl_63, zl_99999, zl_999999, zl_9999, zl_1000, zl_40, zl_64, zl_16, zl_1289, zl_1545, zl_1801, zl_2068, zl_1865, zl_1866, zl_1867, zl_1868, zl_1281, zl_999, i_bd, i_sb, i_jp, bI_z, not_true_eq_false, not_false_eq_true, if_true, if_false, and_self, and_true, true_and, and_false, false_and, zi_neg, zi_sub, zi_add, zi_mul, m_thr0 (mq_h hm), m_chk (mq_h hm0), mq_tr hm0, mq_as hm0, mq_q, mq_y hm0, mq_yr hm0, m_isIn2, m_of (mq_h hm0), m_at (mq_h hm0), m_told1 (mq_h hm0), m_sumAt, m_told (mq_h hm0), m_T (mq_h hm0), c1, c2, c_leT c3, c_leT c4, gm]
        · have gx : g_X2_keptProvisional n (WX M c R F S) (c + 10) (zi t) (zi q) = some (zi (B (1289 + 64 * t + q)), WX M c R F S) := x_keptProvisional (n := n) (wx_B (F := F) (S := S) (xq_C hx)) (xq_R hx) c1.1 (by omega) c2.1 c2.2
          refine qp_mk (B (1289 + 64 * t + q)) (F1 := F) (S1 := S) (S2 := S') (ho2 := ho) (ha2 := ha) (sm2 := sm) ?_ ?_
          · unfold g_X9_provisional
            simp (disch := omega) only [zl_0, zl_1, zl_2, zl_3, zl_4, zl_5, zl_6, zl_7, zl_8, zl_9, zl_10, zl_11, zl_12, zl_13, zl_15, zl_17, zl_27, zl_37, zl_47, zl_63, zl_99999, zl_999999, zl_9999, zl_1000, zl_40, zl_64, zl_16, zl_1289, zl_1545, zl_1801, zl_2068, zl_1865, zl_1866, zl_1867, zl_1868, zl_1281, zl_999, i_bd, i_sb, i_jp, bI_z, not_true_eq_false, not_false_eq_true, if_true, if_false, and_self, and_true, true_and, and_false, false_and, zi_neg, zi_sub, zi_add, zi_mul, xq_ko hx, xq_o4 hx, xq_tr hx, xq_as hx, xq_bg hx, xq_yr, x_isIn2, c_o1 (xq_C hx), c_o0 (xq_C hx), c_o5 (xq_C hx), c_kB (xq_C hx), c_kC (xq_C hx), c_kF (xq_C hx), c_now (xq_C hx), c1, c2', xq_R hx |>.1.1, c_leT c3, c_leF (Int.not_le.mp c4), gx]
          · unfold g_X10_provisional
            simp (disch := omega) only [zl_0, zl_1, zl_2, zl_3, zl_4, zl_5, zl_6, zl_7, zl_8, zl_9, zl_10, zl_11, zl_12, zl_13, zl_15, zl_17, zl_27, zl_37, zl_47, zl_63, zl_99999, zl_999999, zl_9999, zl_1000, zl_40, zl_64, zl_16, zl_1289, zl_1545, zl_1801, zl_2068, zl_1865, zl_1866, zl_1867, zl_1868, zl_1281, zl_999, i_bd, i_sb, i_jp, bI_z, not_true_eq_false, not_false_eq_true, if_true, if_false, and_self, and_true, true_and, and_false, false_and, zi_neg, zi_sub, zi_add, zi_mul, m_thr0 (mq_h hm), m_chk (mq_h hm0), mq_tr hm0, mq_as hm0, mq_q, mq_y hm0, mq_yr hm0, m_isIn2, m_of (mq_h hm0), m_at (mq_h hm0), m_told1 (mq_h hm0), m_sumAt, m_told (mq_h hm0), m_T (mq_h hm0), c1, c2, c_leT c3, c_leF (Int.not_le.mp c4)]
      · refine qp_mk (-2) (F1 := F) (S1 := S) (S2 := S') (ho2 := ho) (ha2 := ha) (sm2 := sm) ?_ ?_
        · unfold g_X9_provisional
          simp (disch := omega) only [zl_0, zl_1, zl_2, zl_3, zl_4, zl_5, zl_6, zl_7, zl_8, zl_9, zl_10, zl_11, zl_12, zl_13, zl_15, zl_17, zl_27, zl_37, zl_47, zl_63, zl_99999, zl_999999, zl_9999, zl_1000, zl_40, zl_64, zl_16, zl_1289, zl_1545, zl_1801, zl_2068, zl_1865, zl_1866, zl_1867, zl_1868, zl_1281, zl_999, i_bd, i_sb, i_jp, bI_z, not_true_eq_false, not_false_eq_true, if_true, if_false, and_self, and_true, true_and, and_false, false_and, zi_neg, zi_sub, zi_add, zi_mul, xq_ko hx, xq_o4 hx, xq_tr hx, xq_as hx, xq_bg hx, xq_yr, x_isIn2, c_o1 (xq_C hx), c_o0 (xq_C hx), c_o5 (xq_C hx), c_kB (xq_C hx), c_kC (xq_C hx), c_kF (xq_C hx), c_now (xq_C hx), c1, c2', xq_R hx |>.1.1, c_leF (Int.not_le.mp c3)]
        · unfold g_X10_provisional
          simp (disch := omega) only [zl_0, zl_1, zl_2, zl_3, zl_4, zl_5, zl_6, zl_7, zl_8, zl_9, zl_10, zl_11, zl_12, zl_13, zl_15, zl_17, zl_27, zl_37, zl_47, zl_63, zl_99999, zl_999999, zl_9999, zl_1000, zl_40, zl_64, zl_16, zl_1289, zl_1545, zl_1801, zl_2068, zl_1865, zl_1866, zl_1867, zl_1868, zl_1281, zl_999, i_bd, i_sb, i_jp, bI_z, not_true_eq_false, not_false_eq_true, if_true, if_false, and_self, and_true, true_and, and_false, false_and, zi_neg, zi_sub, zi_add, zi_mul, m_thr0 (mq_h hm), m_chk (mq_h hm0), mq_tr hm0, mq_as hm0, mq_q, mq_y hm0, mq_yr hm0, m_isIn2, m_of (mq_h hm0), m_at (mq_h hm0), m_told1 (mq_h hm0), m_sumAt, m_told (mq_h hm0), m_T (mq_h hm0), c1, c2, c_leF (Int.not_le.mp c3)]
    · have c2' : ¬ (0 ≤ q ∧ q ≤ 63) := by omega
      refine qp_mk (-1) (F1 := F) (S1 := S) (S2 := S') (ho2 := ho) (ha2 := ha) (sm2 := sm) ?_ ?_
      · unfold g_X9_provisional
        simp (disch := omega) only [zl_0, zl_1, zl_2, zl_3, zl_4, zl_5, zl_6, zl_7, zl_8, zl_9, zl_10, zl_11, zl_12, zl_13, zl_15, zl_17, zl_27, zl_37, zl_47, zl_63, zl_99999, zl_999999, zl_9999, zl_1000, zl_40, zl_64, zl_16, zl_1289, zl_1545, zl_1801, zl_2068, zl_1865, zl_1866, zl_1867, zl_1868, zl_1281, zl_999, i_bd, i_sb, i_jp, bI_z, not_true_eq_false, not_false_eq_true, if_true, if_false, and_self, and_true, true_and, and_false, false_and, zi_neg, zi_sub, zi_add, zi_mul, xq_ko hx, xq_o4 hx, xq_tr hx, xq_as hx, xq_bg hx, xq_yr, x_isIn2, c_o1 (xq_C hx), c_o0 (xq_C hx), c_o5 (xq_C hx), c_kB (xq_C hx), c_kC (xq_C hx), c_kF (xq_C hx), c_now (xq_C hx), c1, c2']
      · unfold g_X10_provisional
        simp (disch := omega) only [zl_0, zl_1, zl_2, zl_3, zl_4, zl_5, zl_6, zl_7, zl_8, zl_9, zl_10, zl_11, zl_12, zl_13, zl_15, zl_17, zl_27, zl_37, zl_47, zl_63, zl_99999, zl_999999, zl_9999, zl_1000, zl_40, zl_64, zl_16, zl_1289, zl_1545, zl_1801, zl_2068, zl_1865, zl_1866, zl_1867, zl_1868, zl_1281, zl_999, i_bd, i_sb, i_jp, bI_z, not_true_eq_false, not_false_eq_true, if_true, if_false, and_self, and_true, true_and, and_false, false_and, zi_neg, zi_sub, zi_add, zi_mul, m_thr0 (mq_h hm), m_chk (mq_h hm0), mq_tr hm0, mq_as hm0, mq_q, mq_y hm0, mq_yr hm0, m_isIn2, m_of (mq_h hm0), m_at (mq_h hm0), m_told1 (mq_h hm0), m_sumAt, m_told (mq_h hm0), m_T (mq_h hm0), c1, c2]
  · refine qp_mk (-1) (F1 := F) (S1 := S) (S2 := S') (ho2 := ho) (ha2 := ha) (sm2 := sm) ?_ ?_
    · unfold g_X9_provisional
      simp (disch := omega) only [zl_0, zl_1, zl_2, zl_3, zl_4, zl_5, zl_6, zl_7, zl_8, zl_9, zl_10, zl_11, zl_12, zl_13, zl_15, zl_17, zl_27, zl_37, zl_47, zl_63, zl_99999, zl_999999, zl_9999, zl_1000, zl_40, zl_64, zl_16, zl_1289, zl_1545, zl_1801, zl_2068, zl_1865, zl_1866, zl_1867, zl_1868, zl_1281, zl_999, i_bd, i_sb, i_jp, bI_z, not_true_eq_false, not_false_eq_true, if_true, if_false, and_self, and_true, true_and, and_false, false_and, zi_neg, zi_sub, zi_add, zi_mul, xq_ko hx, xq_o4 hx, xq_tr hx, xq_as hx, xq_bg hx, xq_yr, x_isIn2, c_o1 (xq_C hx), c_o0 (xq_C hx), c_o5 (xq_C hx), c_kB (xq_C hx), c_kC (xq_C hx), c_kF (xq_C hx), c_now (xq_C hx), c1]
    · unfold g_X10_provisional
      simp (disch := omega) only [zl_0, zl_1, zl_2, zl_3, zl_4, zl_5, zl_6, zl_7, zl_8, zl_9, zl_10, zl_11, zl_12, zl_13, zl_15, zl_17, zl_27, zl_37, zl_47, zl_63, zl_99999, zl_999999, zl_9999, zl_1000, zl_40, zl_64, zl_16, zl_1289, zl_1545, zl_1801, zl_2068, zl_1865, zl_1866, zl_1867, zl_1868, zl_1281, zl_999, i_bd, i_sb, i_jp, bI_z, not_true_eq_false, not_false_eq_true, if_true, if_false, and_self, and_true, true_and, and_false, false_and, zi_neg, zi_sub, zi_add, zi_mul, m_thr0 (mq_h hm), m_chk (mq_h hm0), mq_tr hm0, mq_as hm0, mq_q, mq_y hm0, mq_yr hm0, m_isIn2, m_of (mq_h hm0), m_at (mq_h hm0), m_told1 (mq_h hm0), m_sumAt, m_told (mq_h hm0), m_T (mq_h hm0), c1]
theorem Q_recovered (hx : XQr M c r R nt T tr sl bu as B U) (hm : MQr M' nt T tr sl bu as B U)  {t : Int} {q : Int} (t1 : -2147483648 ≤ t) (t2 : t ≤ 2147483647) (q1 : -2147483648 ≤ q) (q2 : q ≤ 2147483647) : QP (g_X9_recovered n (WX M c R F S) 0 (zi t) (zi q)) (g_X10_recovered n (WC M' 0 B S' ho ha sm) 139 (zi t) (zi q)) M (sI M' 139 2 0) c R B := by
  have hm0 := mq_thr0 (v := zi 0) hm
  have hnt := hm.2.1
  have h8 := mq_8 hm
  obtain ⟨n1, n2⟩ := mq_N hm
  have hy : 0 ≤ yearZ B ∧ yearZ B < 16 := by unfold yearZ; omega
  have hT := hm.2.2.1
  have htr := hm.2.2.2.1
  have hAN := AN2_r (mq_N hm) hm.2.2.2.2.2.1.2.2.2.2.2.2.1
  have t1r := hT.2.1
  have t2r := hT.2.2
  by_cases c1 : 0 ≤ t ∧ t < nt
  · by_cases c2 : 0 ≤ q ∧ q < 64
    · have c2' : 0 ≤ q ∧ q ≤ 63 := by omega
      by_cases c3 : B 0 ≤ q
      · refine qp_mk (-2) (F1 := F) (S1 := S) (S2 := S') (ho2 := ho) (ha2 := ha) (sm2 := sm) ?_ ?_
        · unfold g_X9_recovered
          simp (disch := omega) only [zl_0, zl_1, zl_2, zl_3, zl_4, zl_5, zl_6, zl_7, zl_8, zl_9, zl_10, zl_11, zl_12, zl_13, zl_15, zl_17, zl_27, zl_37, zl_47, zl_63, zl_99999, zl_999999, zl_9999, zl_1000, zl_40, zl_64, zl_16, zl_1289, zl_1545, zl_1801, zl_2068, zl_1865, zl_1866, zl_1867, zl_1868, zl_1281, zl_999, i_bd, i_sb, i_jp, bI_z, not_true_eq_false, not_false_eq_true, if_true, if_false, and_self, and_true, true_and, and_false, false_and, zi_neg, zi_sub, zi_add, zi_mul, xq_ko hx, xq_o4 hx, xq_tr hx, xq_as hx, xq_bg hx, xq_yr, x_isIn2, c_o1 (xq_C hx), c_o0 (xq_C hx), c_o5 (xq_C hx), c_kB (xq_C hx), c_kC (xq_C hx), c_kF (xq_C hx), c_now (xq_C hx), c1, c2', xq_R hx |>.1.1, c_leT c3]
        · unfold g_X10_recovered
          simp (disch := omega) only [zl_0, zl_1, zl_2, zl_3, zl_4, zl_5, zl_6, zl_7, zl_8, zl_9, zl_10, zl_11, zl_12, zl_13, zl_15, zl_17, zl_27, zl_37, zl_47, zl_63, zl_99999, zl_999999, zl_9999, zl_1000, zl_40, zl_64, zl_16, zl_1289, zl_1545, zl_1801, zl_2068, zl_1865, zl_1866, zl_1867, zl_1868, zl_1281, zl_999, i_bd, i_sb, i_jp, bI_z, not_true_eq_false, not_false_eq_true, if_true, if_false, and_self, and_true, true_and, and_false, false_and, zi_neg, zi_sub, zi_add, zi_mul, m_thr0 (mq_h hm), m_chk (mq_h hm0), mq_tr hm0, mq_as hm0, mq_q, mq_y hm0, mq_yr hm0, m_isIn2, m_of (mq_h hm0), m_at (mq_h hm0), m_told1 (mq_h hm0), m_sumAt, m_told (mq_h hm0), m_T (mq_h hm0), c1, c2, c_leT c3]
      · have gx : g_X2_recoveredIn n (WX M c R F S) (c + 10) (zi t) (zi q) = some (zi (B (1545 + 64 * t + q)), WX M c R F S) := x_recoveredIn (n := n) (wx_B (F := F) (S := S) (xq_C hx)) (xq_R hx) c1.1 (by omega) c2.1 c2.2
        refine qp_mk (B (1545 + 64 * t + q)) (F1 := F) (S1 := S) (S2 := S') (ho2 := ho) (ha2 := ha) (sm2 := sm) ?_ ?_
        · unfold g_X9_recovered
          simp (disch := omega) only [zl_0, zl_1, zl_2, zl_3, zl_4, zl_5, zl_6, zl_7, zl_8, zl_9, zl_10, zl_11, zl_12, zl_13, zl_15, zl_17, zl_27, zl_37, zl_47, zl_63, zl_99999, zl_999999, zl_9999, zl_1000, zl_40, zl_64, zl_16, zl_1289, zl_1545, zl_1801, zl_2068, zl_1865, zl_1866, zl_1867, zl_1868, zl_1281, zl_999, i_bd, i_sb, i_jp, bI_z, not_true_eq_false, not_false_eq_true, if_true, if_false, and_self, and_true, true_and, and_false, false_and, zi_neg, zi_sub, zi_add, zi_mul, xq_ko hx, xq_o4 hx, xq_tr hx, xq_as hx, xq_bg hx, xq_yr, x_isIn2, c_o1 (xq_C hx), c_o0 (xq_C hx), c_o5 (xq_C hx), c_kB (xq_C hx), c_kC (xq_C hx), c_kF (xq_C hx), c_now (xq_C hx), c1, c2', xq_R hx |>.1.1, c_leF (Int.not_le.mp c3), gx]
        · unfold g_X10_recovered
          simp (disch := omega) only [zl_0, zl_1, zl_2, zl_3, zl_4, zl_5, zl_6, zl_7, zl_8, zl_9, zl_10, zl_11, zl_12, zl_13, zl_15, zl_17, zl_27, zl_37, zl_47, zl_63, zl_99999, zl_999999, zl_9999, zl_1000, zl_40, zl_64, zl_16, zl_1289, zl_1545, zl_1801, zl_2068, zl_1865, zl_1866, zl_1867, zl_1868, zl_1281, zl_999, i_bd, i_sb, i_jp, bI_z, not_true_eq_false, not_false_eq_true, if_true, if_false, and_self, and_true, true_and, and_false, false_and, zi_neg, zi_sub, zi_add, zi_mul, m_thr0 (mq_h hm), m_chk (mq_h hm0), mq_tr hm0, mq_as hm0, mq_q, mq_y hm0, mq_yr hm0, m_isIn2, m_of (mq_h hm0), m_at (mq_h hm0), m_told1 (mq_h hm0), m_sumAt, m_told (mq_h hm0), m_T (mq_h hm0), c1, c2, c_leF (Int.not_le.mp c3)]
    · have c2' : ¬ (0 ≤ q ∧ q ≤ 63) := by omega
      refine qp_mk (-1) (F1 := F) (S1 := S) (S2 := S') (ho2 := ho) (ha2 := ha) (sm2 := sm) ?_ ?_
      · unfold g_X9_recovered
        simp (disch := omega) only [zl_0, zl_1, zl_2, zl_3, zl_4, zl_5, zl_6, zl_7, zl_8, zl_9, zl_10, zl_11, zl_12, zl_13, zl_15, zl_17, zl_27, zl_37, zl_47, zl_63, zl_99999, zl_999999, zl_9999, zl_1000, zl_40, zl_64, zl_16, zl_1289, zl_1545, zl_1801, zl_2068, zl_1865, zl_1866, zl_1867, zl_1868, zl_1281, zl_999, i_bd, i_sb, i_jp, bI_z, not_true_eq_false, not_false_eq_true, if_true, if_false, and_self, and_true, true_and, and_false, false_and, zi_neg, zi_sub, zi_add, zi_mul, xq_ko hx, xq_o4 hx, xq_tr hx, xq_as hx, xq_bg hx, xq_yr, x_isIn2, c_o1 (xq_C hx), c_o0 (xq_C hx), c_o5 (xq_C hx), c_kB (xq_C hx), c_kC (xq_C hx), c_kF (xq_C hx), c_now (xq_C hx), c1, c2']
      · unfold g_X10_recovered
        simp (disch := omega) only [zl_0, zl_1, zl_2, zl_3, zl_4, zl_5, zl_6, zl_7, zl_8, zl_9, zl_10, zl_11, zl_12, zl_13, zl_15, zl_17, zl_27, zl_37, zl_47, zl_63, zl_99999, zl_999999, zl_9999, zl_1000, zl_40, zl_64, zl_16, zl_1289, zl_1545, zl_1801, zl_2068, zl_1865, zl_1866, zl_1867, zl_1868, zl_1281, zl_999, i_bd, i_sb, i_jp, bI_z, not_true_eq_false, not_false_eq_true, if_true, if_false, and_self, and_true, true_and, and_false, false_and, zi_neg, zi_sub, zi_add, zi_mul, m_thr0 (mq_h hm), m_chk (mq_h hm0), mq_tr hm0, mq_as hm0, mq_q, mq_y hm0, mq_yr hm0, m_isIn2, m_of (mq_h hm0), m_at (mq_h hm0), m_told1 (mq_h hm0), m_sumAt, m_told (mq_h hm0), m_T (mq_h hm0), c1, c2]
  · refine qp_mk (-1) (F1 := F) (S1 := S) (S2 := S') (ho2 := ho) (ha2 := ha) (sm2 := sm) ?_ ?_
    · unfold g_X9_recovered
      simp (disch := omega) only [zl_0, zl_1, zl_2, zl_3, zl_4, zl_5, zl_6, zl_7, zl_8, zl_9, zl_10, zl_11, zl_12, zl_13, zl_15, zl_17, zl_27, zl_37, zl_47, zl_63, zl_99999, zl_999999, zl_9999, zl_1000, zl_40, zl_64, zl_16, zl_1289, zl_1545, zl_1801, zl_2068, zl_1865, zl_1866, zl_1867, zl_1868, zl_1281, zl_999, i_bd, i_sb, i_jp, bI_z, not_true_eq_false, not_false_eq_true, if_true, if_false, and_self, and_true, true_and, and_false, false_and, zi_neg, zi_sub, zi_add, zi_mul, xq_ko hx, xq_o4 hx, xq_tr hx, xq_as hx, xq_bg hx, xq_yr, x_isIn2, c_o1 (xq_C hx), c_o0 (xq_C hx), c_o5 (xq_C hx), c_kB (xq_C hx), c_kC (xq_C hx), c_kF (xq_C hx), c_now (xq_C hx), c1]
    · unfold g_X10_recovered
      simp (disch := omega) only [zl_0, zl_1, zl_2, zl_3, zl_4, zl_5, zl_6, zl_7, zl_8, zl_9, zl_10, zl_11, zl_12, zl_13, zl_15, zl_17, zl_27, zl_37, zl_47, zl_63, zl_99999, zl_999999, zl_9999, zl_1000, zl_40, zl_64, zl_16, zl_1289, zl_1545, zl_1801, zl_2068, zl_1865, zl_1866, zl_1867, zl_1868, zl_1281, zl_999, i_bd, i_sb, i_jp, bI_z, not_true_eq_false, not_false_eq_true, if_true, if_false, and_self, and_true, true_and, and_false, false_and, zi_neg, zi_sub, zi_add, zi_mul, m_thr0 (mq_h hm), m_chk (mq_h hm0), mq_tr hm0, mq_as hm0, mq_q, mq_y hm0, mq_yr hm0, m_isIn2, m_of (mq_h hm0), m_at (mq_h hm0), m_told1 (mq_h hm0), m_sumAt, m_told (mq_h hm0), m_T (mq_h hm0), c1]
theorem Q_total (hx : XQr M c r R nt T tr sl bu as B U) (hm : MQr M' nt T tr sl bu as B U)  {t : Int} {w : Int} (t1 : -2147483648 ≤ t) (t2 : t ≤ 2147483647) (w1 : -2147483648 ≤ w) (w2 : w ≤ 2147483647) : QP (g_X9_total n (WX M c R F S) 0 (zi t) (zi w)) (g_X10_total n (WC M' 0 B S' ho ha sm) 139 (zi t) (zi w)) M (sI M' 139 2 0) c R B := by
  have hm0 := mq_thr0 (v := zi 0) hm
  have hnt := hm.2.1
  have h8 := mq_8 hm
  obtain ⟨n1, n2⟩ := mq_N hm
  have hy : 0 ≤ yearZ B ∧ yearZ B < 16 := by unfold yearZ; omega
  have hT := hm.2.2.1
  have htr := hm.2.2.2.1
  have hAN := AN2_r (mq_N hm) hm.2.2.2.2.2.1.2.2.2.2.2.2.1
  have t1r := hT.2.1
  have t2r := hT.2.2
  by_cases c1 : 0 ≤ t ∧ t < nt
  · by_cases c2 : 0 ≤ w ∧ w ≤ 3
    · have gx : g_X2_totalOf n (WX M c R F S) (c + 10) (zi t) (zi w) = some (zi (B (2068 + 4 * t + w)), WX M c R F S) := x_totalOf (n := n) (wx_B (F := F) (S := S) (xq_C hx)) (xq_R hx) c1.1 (by omega) c2.1 (by omega)
      refine qp_mk (B (2068 + 4 * t + w)) (F1 := F) (S1 := S) (S2 := S') (ho2 := ho) (ha2 := ha) (sm2 := sm) ?_ ?_
      · unfold g_X9_total
        simp (disch := omega) only [zl_0, zl_1, zl_2, zl_3, zl_4, zl_5, zl_6, zl_7, zl_8, zl_9, zl_10, zl_11, zl_12, zl_13, zl_15, zl_17, zl_27, zl_37, zl_47, zl_63, zl_99999, zl_999999, zl_9999, zl_1000, zl_40, zl_64, zl_16, zl_1289, zl_1545, zl_1801, zl_2068, zl_1865, zl_1866, zl_1867, zl_1868, zl_1281, zl_999, i_bd, i_sb, i_jp, bI_z, not_true_eq_false, not_false_eq_true, if_true, if_false, and_self, and_true, true_and, and_false, false_and, zi_neg, zi_sub, zi_add, zi_mul, xq_ko hx, xq_o4 hx, xq_tr hx, xq_as hx, xq_bg hx, xq_yr, x_isIn2, c_o1 (xq_C hx), c_o0 (xq_C hx), c_o5 (xq_C hx), c_kB (xq_C hx), c_kC (xq_C hx), c_kF (xq_C hx), c_now (xq_C hx), c1, c2, gx]
      · unfold g_X10_total
        simp (disch := omega) only [zl_0, zl_1, zl_2, zl_3, zl_4, zl_5, zl_6, zl_7, zl_8, zl_9, zl_10, zl_11, zl_12, zl_13, zl_15, zl_17, zl_27, zl_37, zl_47, zl_63, zl_99999, zl_999999, zl_9999, zl_1000, zl_40, zl_64, zl_16, zl_1289, zl_1545, zl_1801, zl_2068, zl_1865, zl_1866, zl_1867, zl_1868, zl_1281, zl_999, i_bd, i_sb, i_jp, bI_z, not_true_eq_false, not_false_eq_true, if_true, if_false, and_self, and_true, true_and, and_false, false_and, zi_neg, zi_sub, zi_add, zi_mul, m_thr0 (mq_h hm), m_chk (mq_h hm0), mq_tr hm0, mq_as hm0, mq_q, mq_y hm0, mq_yr hm0, m_isIn2, m_of (mq_h hm0), m_at (mq_h hm0), m_told1 (mq_h hm0), m_sumAt, m_told (mq_h hm0), m_T (mq_h hm0), c1, c2]
    · refine qp_mk (-999999) (F1 := F) (S1 := S) (S2 := S') (ho2 := ho) (ha2 := ha) (sm2 := sm) ?_ ?_
      · unfold g_X9_total
        simp (disch := omega) only [zl_0, zl_1, zl_2, zl_3, zl_4, zl_5, zl_6, zl_7, zl_8, zl_9, zl_10, zl_11, zl_12, zl_13, zl_15, zl_17, zl_27, zl_37, zl_47, zl_63, zl_99999, zl_999999, zl_9999, zl_1000, zl_40, zl_64, zl_16, zl_1289, zl_1545, zl_1801, zl_2068, zl_1865, zl_1866, zl_1867, zl_1868, zl_1281, zl_999, i_bd, i_sb, i_jp, bI_z, not_true_eq_false, not_false_eq_true, if_true, if_false, and_self, and_true, true_and, and_false, false_and, zi_neg, zi_sub, zi_add, zi_mul, xq_ko hx, xq_o4 hx, xq_tr hx, xq_as hx, xq_bg hx, xq_yr, x_isIn2, c_o1 (xq_C hx), c_o0 (xq_C hx), c_o5 (xq_C hx), c_kB (xq_C hx), c_kC (xq_C hx), c_kF (xq_C hx), c_now (xq_C hx), c1, c2]
      · unfold g_X10_total
        simp (disch := omega) only [zl_0, zl_1, zl_2, zl_3, zl_4, zl_5, zl_6, zl_7, zl_8, zl_9, zl_10, zl_11, zl_12, zl_13, zl_15, zl_17, zl_27, zl_37, zl_47, zl_63, zl_99999, zl_999999, zl_9999, zl_1000, zl_40, zl_64, zl_16, zl_1289, zl_1545, zl_1801, zl_2068, zl_1865, zl_1866, zl_1867, zl_1868, zl_1281, zl_999, i_bd, i_sb, i_jp, bI_z, not_true_eq_false, not_false_eq_true, if_true, if_false, and_self, and_true, true_and, and_false, false_and, zi_neg, zi_sub, zi_add, zi_mul, m_thr0 (mq_h hm), m_chk (mq_h hm0), mq_tr hm0, mq_as hm0, mq_q, mq_y hm0, mq_yr hm0, m_isIn2, m_of (mq_h hm0), m_at (mq_h hm0), m_told1 (mq_h hm0), m_sumAt, m_told (mq_h hm0), m_T (mq_h hm0), c1, c2]
  · refine qp_mk (-999999) (F1 := F) (S1 := S) (S2 := S') (ho2 := ho) (ha2 := ha) (sm2 := sm) ?_ ?_
    · unfold g_X9_total
      simp (disch := omega) only [zl_0, zl_1, zl_2, zl_3, zl_4, zl_5, zl_6, zl_7, zl_8, zl_9, zl_10, zl_11, zl_12, zl_13, zl_15, zl_17, zl_27, zl_37, zl_47, zl_63, zl_99999, zl_999999, zl_9999, zl_1000, zl_40, zl_64, zl_16, zl_1289, zl_1545, zl_1801, zl_2068, zl_1865, zl_1866, zl_1867, zl_1868, zl_1281, zl_999, i_bd, i_sb, i_jp, bI_z, not_true_eq_false, not_false_eq_true, if_true, if_false, and_self, and_true, true_and, and_false, false_and, zi_neg, zi_sub, zi_add, zi_mul, xq_ko hx, xq_o4 hx, xq_tr hx, xq_as hx, xq_bg hx, xq_yr, x_isIn2, c_o1 (xq_C hx), c_o0 (xq_C hx), c_o5 (xq_C hx), c_kB (xq_C hx), c_kC (xq_C hx), c_kF (xq_C hx), c_now (xq_C hx), c1]
    · unfold g_X10_total
      simp (disch := omega) only [zl_0, zl_1, zl_2, zl_3, zl_4, zl_5, zl_6, zl_7, zl_8, zl_9, zl_10, zl_11, zl_12, zl_13, zl_15, zl_17, zl_27, zl_37, zl_47, zl_63, zl_99999, zl_999999, zl_9999, zl_1000, zl_40, zl_64, zl_16, zl_1289, zl_1545, zl_1801, zl_2068, zl_1865, zl_1866, zl_1867, zl_1868, zl_1281, zl_999, i_bd, i_sb, i_jp, bI_z, not_true_eq_false, not_false_eq_true, if_true, if_false, and_self, and_true, true_and, and_false, false_and, zi_neg, zi_sub, zi_add, zi_mul, m_thr0 (mq_h hm), m_chk (mq_h hm0), mq_tr hm0, mq_as hm0, mq_q, mq_y hm0, mq_yr hm0, m_isIn2, m_of (mq_h hm0), m_at (mq_h hm0), m_told1 (mq_h hm0), m_sumAt, m_told (mq_h hm0), m_T (mq_h hm0), c1]
theorem Q_taken (hx : XQr M c r R nt T tr sl bu as B U) (hm : MQr M' nt T tr sl bu as B U)  {a : Int} (a1 : -2147483648 ≤ a) (a2 : a ≤ 2147483647) : QP (g_X9_taken n (WX M c R F S) 0 (zi a)) (g_X10_taken n (WC M' 0 B S' ho ha sm) 139 (zi a)) M (sI M' 139 2 0) c R B := by
  have hm0 := mq_thr0 (v := zi 0) hm
  have hnt := hm.2.1
  have h8 := mq_8 hm
  obtain ⟨n1, n2⟩ := mq_N hm
  have hy : 0 ≤ yearZ B ∧ yearZ B < 16 := by unfold yearZ; omega
  have hT := hm.2.2.1
  have htr := hm.2.2.2.1
  have hAN := AN2_r (mq_N hm) hm.2.2.2.2.2.1.2.2.2.2.2.2.1
  have t1r := hT.2.1
  have t2r := hT.2.2
  by_cases c1 : 0 ≤ a ∧ a < B 1865
  · obtain ⟨a', rfl⟩ := Int.eq_ofNat_of_zero_le c1.1
    have a8 : a' < 8 := by omega
    have ra := hx.2.1.2.2.1.2.2 a' c1.2
    have ax := mq_A hm c1.1 c1.2
    refine qp_mk (B (2084 + 48 * (a' : Int) + 10)) (F1 := F) (S1 := S) (S2 := S') (ho2 := ho) (ha2 := ha) (sm2 := sm) ?_ ?_
    · unfold g_X9_taken
      simp (disch := omega) only [zl_0, zl_1, zl_2, zl_3, zl_4, zl_5, zl_6, zl_7, zl_8, zl_9, zl_10, zl_11, zl_12, zl_13, zl_15, zl_17, zl_27, zl_37, zl_47, zl_63, zl_99999, zl_999999, zl_9999, zl_1000, zl_40, zl_64, zl_16, zl_1289, zl_1545, zl_1801, zl_2068, zl_1865, zl_1866, zl_1867, zl_1868, zl_1281, zl_999, i_bd, i_sb, i_jp, bI_z, not_true_eq_false, not_false_eq_true, if_true, if_false, and_self, and_true, true_and, and_false, false_and, zi_neg, zi_sub, zi_add, zi_mul, xq_ko hx, xq_o4 hx, xq_tr hx, xq_as hx, xq_bg hx, xq_yr, x_isIn2, c_o1 (xq_C hx), c_o0 (xq_C hx), c_o5 (xq_C hx), c_kB (xq_C hx), c_kC (xq_C hx), c_kF (xq_C hx), c_now (xq_C hx), c1, c_oA (xq_C hx) a8, c_gA (xq_C hx) a8, ra.2.1.2.2.2.2.2.1, AtZ]
    · unfold g_X10_taken
      simp (disch := omega) only [zl_0, zl_1, zl_2, zl_3, zl_4, zl_5, zl_6, zl_7, zl_8, zl_9, zl_10, zl_11, zl_12, zl_13, zl_15, zl_17, zl_27, zl_37, zl_47, zl_63, zl_99999, zl_999999, zl_9999, zl_1000, zl_40, zl_64, zl_16, zl_1289, zl_1545, zl_1801, zl_2068, zl_1865, zl_1866, zl_1867, zl_1868, zl_1281, zl_999, i_bd, i_sb, i_jp, bI_z, not_true_eq_false, not_false_eq_true, if_true, if_false, and_self, and_true, true_and, and_false, false_and, zi_neg, zi_sub, zi_add, zi_mul, m_thr0 (mq_h hm), m_chk (mq_h hm0), mq_tr hm0, mq_as hm0, mq_q, mq_y hm0, mq_yr hm0, m_isIn2, m_of (mq_h hm0), m_at (mq_h hm0), m_told1 (mq_h hm0), m_sumAt, m_told (mq_h hm0), m_T (mq_h hm0), c1]
  · refine qp_mk (-999999) (F1 := F) (S1 := S) (S2 := S') (ho2 := ho) (ha2 := ha) (sm2 := sm) ?_ ?_
    · unfold g_X9_taken
      simp (disch := omega) only [zl_0, zl_1, zl_2, zl_3, zl_4, zl_5, zl_6, zl_7, zl_8, zl_9, zl_10, zl_11, zl_12, zl_13, zl_15, zl_17, zl_27, zl_37, zl_47, zl_63, zl_99999, zl_999999, zl_9999, zl_1000, zl_40, zl_64, zl_16, zl_1289, zl_1545, zl_1801, zl_2068, zl_1865, zl_1866, zl_1867, zl_1868, zl_1281, zl_999, i_bd, i_sb, i_jp, bI_z, not_true_eq_false, not_false_eq_true, if_true, if_false, and_self, and_true, true_and, and_false, false_and, zi_neg, zi_sub, zi_add, zi_mul, xq_ko hx, xq_o4 hx, xq_tr hx, xq_as hx, xq_bg hx, xq_yr, x_isIn2, c_o1 (xq_C hx), c_o0 (xq_C hx), c_o5 (xq_C hx), c_kB (xq_C hx), c_kC (xq_C hx), c_kF (xq_C hx), c_now (xq_C hx), c1]
    · unfold g_X10_taken
      simp (disch := omega) only [zl_0, zl_1, zl_2, zl_3, zl_4, zl_5, zl_6, zl_7, zl_8, zl_9, zl_10, zl_11, zl_12, zl_13, zl_15, zl_17, zl_27, zl_37, zl_47, zl_63, zl_99999, zl_999999, zl_9999, zl_1000, zl_40, zl_64, zl_16, zl_1289, zl_1545, zl_1801, zl_2068, zl_1865, zl_1866, zl_1867, zl_1868, zl_1281, zl_999, i_bd, i_sb, i_jp, bI_z, not_true_eq_false, not_false_eq_true, if_true, if_false, and_self, and_true, true_and, and_false, false_and, zi_neg, zi_sub, zi_add, zi_mul, m_thr0 (mq_h hm), m_chk (mq_h hm0), mq_tr hm0, mq_as hm0, mq_q, mq_y hm0, mq_yr hm0, m_isIn2, m_of (mq_h hm0), m_at (mq_h hm0), m_told1 (mq_h hm0), m_sumAt, m_told (mq_h hm0), m_T (mq_h hm0), c1]
theorem Q_last (hx : XQr M c r R nt T tr sl bu as B U) (hm : MQr M' nt T tr sl bu as B U)  {a : Int} (a1 : -2147483648 ≤ a) (a2 : a ≤ 2147483647) : QP (g_X9_last n (WX M c R F S) 0 (zi a)) (g_X10_last n (WC M' 0 B S' ho ha sm) 139 (zi a)) M (sI M' 139 2 0) c R B := by
  have hm0 := mq_thr0 (v := zi 0) hm
  have hnt := hm.2.1
  have h8 := mq_8 hm
  obtain ⟨n1, n2⟩ := mq_N hm
  have hy : 0 ≤ yearZ B ∧ yearZ B < 16 := by unfold yearZ; omega
  have hT := hm.2.2.1
  have htr := hm.2.2.2.1
  have hAN := AN2_r (mq_N hm) hm.2.2.2.2.2.1.2.2.2.2.2.2.1
  have t1r := hT.2.1
  have t2r := hT.2.2
  by_cases c1 : 0 ≤ a ∧ a < B 1865
  · obtain ⟨a', rfl⟩ := Int.eq_ofNat_of_zero_le c1.1
    have a8 : a' < 8 := by omega
    have ra := hx.2.1.2.2.1.2.2 a' c1.2
    have ax := mq_A hm c1.1 c1.2
    have e11 := ax.1.2.2.2.2.2.2.2.2.2.2.1
    by_cases c2 : AtZ B a' 11 = 1
    · refine qp_mk (AtZ B a' 12) (F1 := F) (S1 := S) (S2 := S') (ho2 := ho) (ha2 := ha) (sm2 := sm) ?_ ?_
      · unfold g_X9_last
        simp (disch := omega) only [zl_0, zl_1, zl_2, zl_3, zl_4, zl_5, zl_6, zl_7, zl_8, zl_9, zl_10, zl_11, zl_12, zl_13, zl_15, zl_17, zl_27, zl_37, zl_47, zl_63, zl_99999, zl_999999, zl_9999, zl_1000, zl_40, zl_64, zl_16, zl_1289, zl_1545, zl_1801, zl_2068, zl_1865, zl_1866, zl_1867, zl_1868, zl_1281, zl_999, i_bd, i_sb, i_jp, bI_z, not_true_eq_false, not_false_eq_true, if_true, if_false, and_self, and_true, true_and, and_false, false_and, zi_neg, zi_sub, zi_add, zi_mul, xq_ko hx, xq_o4 hx, xq_tr hx, xq_as hx, xq_bg hx, xq_yr, x_isIn2, c_o1 (xq_C hx), c_o0 (xq_C hx), c_o5 (xq_C hx), c_kB (xq_C hx), c_kC (xq_C hx), c_kF (xq_C hx), c_now (xq_C hx), c1, c_oA (xq_C hx) a8, c_gA (xq_C hx) a8, ra.2.1.2.2.2.2.2.2.1, ra.2.1.2.2.2.2.2.2.2.1 c2, c2, c_eqF (show (1 : Int) ≠ 0 by omega)]
      · unfold g_X10_last
        simp (disch := omega) only [zl_0, zl_1, zl_2, zl_3, zl_4, zl_5, zl_6, zl_7, zl_8, zl_9, zl_10, zl_11, zl_12, zl_13, zl_15, zl_17, zl_27, zl_37, zl_47, zl_63, zl_99999, zl_999999, zl_9999, zl_1000, zl_40, zl_64, zl_16, zl_1289, zl_1545, zl_1801, zl_2068, zl_1865, zl_1866, zl_1867, zl_1868, zl_1281, zl_999, i_bd, i_sb, i_jp, bI_z, not_true_eq_false, not_false_eq_true, if_true, if_false, and_self, and_true, true_and, and_false, false_and, zi_neg, zi_sub, zi_add, zi_mul, m_thr0 (mq_h hm), m_chk (mq_h hm0), mq_tr hm0, mq_as hm0, mq_q, mq_y hm0, mq_yr hm0, m_isIn2, m_of (mq_h hm0), m_at (mq_h hm0), m_told1 (mq_h hm0), m_sumAt, m_told (mq_h hm0), m_T (mq_h hm0), c1, show B (2084 + 48 * (a' : Int) + 11) = 1 from c2]
        rfl
    · have c2' : AtZ B a' 11 = 0 := by omega
      refine qp_mk (-999999) (F1 := F) (S1 := S) (S2 := S') (ho2 := ho) (ha2 := ha) (sm2 := sm) ?_ ?_
      · unfold g_X9_last
        simp (disch := omega) only [zl_0, zl_1, zl_2, zl_3, zl_4, zl_5, zl_6, zl_7, zl_8, zl_9, zl_10, zl_11, zl_12, zl_13, zl_15, zl_17, zl_27, zl_37, zl_47, zl_63, zl_99999, zl_999999, zl_9999, zl_1000, zl_40, zl_64, zl_16, zl_1289, zl_1545, zl_1801, zl_2068, zl_1865, zl_1866, zl_1867, zl_1868, zl_1281, zl_999, i_bd, i_sb, i_jp, bI_z, not_true_eq_false, not_false_eq_true, if_true, if_false, and_self, and_true, true_and, and_false, false_and, zi_neg, zi_sub, zi_add, zi_mul, xq_ko hx, xq_o4 hx, xq_tr hx, xq_as hx, xq_bg hx, xq_yr, x_isIn2, c_o1 (xq_C hx), c_o0 (xq_C hx), c_o5 (xq_C hx), c_kB (xq_C hx), c_kC (xq_C hx), c_kF (xq_C hx), c_now (xq_C hx), c1, c_oA (xq_C hx) a8, c_gA (xq_C hx) a8, ra.2.1.2.2.2.2.2.2.1, c2']
      · unfold g_X10_last
        simp (disch := omega) only [zl_0, zl_1, zl_2, zl_3, zl_4, zl_5, zl_6, zl_7, zl_8, zl_9, zl_10, zl_11, zl_12, zl_13, zl_15, zl_17, zl_27, zl_37, zl_47, zl_63, zl_99999, zl_999999, zl_9999, zl_1000, zl_40, zl_64, zl_16, zl_1289, zl_1545, zl_1801, zl_2068, zl_1865, zl_1866, zl_1867, zl_1868, zl_1281, zl_999, i_bd, i_sb, i_jp, bI_z, not_true_eq_false, not_false_eq_true, if_true, if_false, and_self, and_true, true_and, and_false, false_and, zi_neg, zi_sub, zi_add, zi_mul, m_thr0 (mq_h hm), m_chk (mq_h hm0), mq_tr hm0, mq_as hm0, mq_q, mq_y hm0, mq_yr hm0, m_isIn2, m_of (mq_h hm0), m_at (mq_h hm0), m_told1 (mq_h hm0), m_sumAt, m_told (mq_h hm0), m_T (mq_h hm0), c1, show B (2084 + 48 * (a' : Int) + 11) = 0 from c2', c_eqF (show (0 : Int) ≠ 1 by omega)]
  · refine qp_mk (-999999) (F1 := F) (S1 := S) (S2 := S') (ho2 := ho) (ha2 := ha) (sm2 := sm) ?_ ?_
    · unfold g_X9_last
      simp (disch := omega) only [zl_0, zl_1, zl_2, zl_3, zl_4, zl_5, zl_6, zl_7, zl_8, zl_9, zl_10, zl_11, zl_12, zl_13, zl_15, zl_17, zl_27, zl_37, zl_47, zl_63, zl_99999, zl_999999, zl_9999, zl_1000, zl_40, zl_64, zl_16, zl_1289, zl_1545, zl_1801, zl_2068, zl_1865, zl_1866, zl_1867, zl_1868, zl_1281, zl_999, i_bd, i_sb, i_jp, bI_z, not_true_eq_false, not_false_eq_true, if_true, if_false, and_self, and_true, true_and, and_false, false_and, zi_neg, zi_sub, zi_add, zi_mul, xq_ko hx, xq_o4 hx, xq_tr hx, xq_as hx, xq_bg hx, xq_yr, x_isIn2, c_o1 (xq_C hx), c_o0 (xq_C hx), c_o5 (xq_C hx), c_kB (xq_C hx), c_kC (xq_C hx), c_kF (xq_C hx), c_now (xq_C hx), c1]
    · unfold g_X10_last
      simp (disch := omega) only [zl_0, zl_1, zl_2, zl_3, zl_4, zl_5, zl_6, zl_7, zl_8, zl_9, zl_10, zl_11, zl_12, zl_13, zl_15, zl_17, zl_27, zl_37, zl_47, zl_63, zl_99999, zl_999999, zl_9999, zl_1000, zl_40, zl_64, zl_16, zl_1289, zl_1545, zl_1801, zl_2068, zl_1865, zl_1866, zl_1867, zl_1868, zl_1281, zl_999, i_bd, i_sb, i_jp, bI_z, not_true_eq_false, not_false_eq_true, if_true, if_false, and_self, and_true, true_and, and_false, false_and, zi_neg, zi_sub, zi_add, zi_mul, m_thr0 (mq_h hm), m_chk (mq_h hm0), mq_tr hm0, mq_as hm0, mq_q, mq_y hm0, mq_yr hm0, m_isIn2, m_of (mq_h hm0), m_at (mq_h hm0), m_told1 (mq_h hm0), m_sumAt, m_told (mq_h hm0), m_T (mq_h hm0), c1]
theorem Q_worth (hx : XQr M c r R nt T tr sl bu as B U) (hm : MQr M' nt T tr sl bu as B U) (hn : 10 < n) {a : Int} (a1 : -2147483648 ≤ a) (a2 : a ≤ 2147483647) : QP (g_X9_worth n (WX M c R F S) 0 (zi a)) (g_X10_worth n (WC M' 0 B S' ho ha sm) 139 (zi a)) M (sI M' 139 2 0) c R B := by
  have hm0 := mq_thr0 (v := zi 0) hm
  have hnt := hm.2.1
  have h8 := mq_8 hm
  obtain ⟨n1, n2⟩ := mq_N hm
  have hy : 0 ≤ yearZ B ∧ yearZ B < 16 := by unfold yearZ; omega
  have hT := hm.2.2.1
  have htr := hm.2.2.2.1
  have hAN := AN2_r (mq_N hm) hm.2.2.2.2.2.1.2.2.2.2.2.2.1
  have t1r := hT.2.1
  have t2r := hT.2.2
  by_cases c1 : 0 ≤ a ∧ a < B 1865
  · obtain ⟨a', rfl⟩ := Int.eq_ofNat_of_zero_le c1.1
    have a8 : a' < 8 := by omega
    have ra := hx.2.1.2.2.1.2.2 a' c1.2
    have ax := mq_A hm c1.1 c1.2
    have e9 := ax.1.2.2.2.2.2.2.2.2.2.1
    by_cases c2 : AtZ B a' 9 = 1
    · refine qp_mk (-2) (F1 := F) (S1 := S) (S2 := S') (ho2 := ho) (ha2 := ha) (sm2 := sm) ?_ ?_
      · unfold g_X9_worth
        simp (disch := omega) only [zl_0, zl_1, zl_2, zl_3, zl_4, zl_5, zl_6, zl_7, zl_8, zl_9, zl_10, zl_11, zl_12, zl_13, zl_15, zl_17, zl_27, zl_37, zl_47, zl_63, zl_99999, zl_999999, zl_9999, zl_1000, zl_40, zl_64, zl_16, zl_1289, zl_1545, zl_1801, zl_2068, zl_1865, zl_1866, zl_1867, zl_1868, zl_1281, zl_999, i_bd, i_sb, i_jp, bI_z, not_true_eq_false, not_false_eq_true, if_true, if_false, and_self, and_true, true_and, and_false, false_and, zi_neg, zi_sub, zi_add, zi_mul, xq_ko hx, xq_o4 hx, xq_tr hx, xq_as hx, xq_bg hx, xq_yr, x_isIn2, c_o1 (xq_C hx), c_o0 (xq_C hx), c_o5 (xq_C hx), c_kB (xq_C hx), c_kC (xq_C hx), c_kF (xq_C hx), c_now (xq_C hx), c1, c_oA (xq_C hx) a8, c_gA (xq_C hx) a8, ra.2.1.2.2.1, c2, c_eqF (show (1 : Int) ≠ 0 by omega)]
      · unfold g_X10_worth
        simp (disch := omega) only [zl_0, zl_1, zl_2, zl_3, zl_4, zl_5, zl_6, zl_7, zl_8, zl_9, zl_10, zl_11, zl_12, zl_13, zl_15, zl_17, zl_27, zl_37, zl_47, zl_63, zl_99999, zl_999999, zl_9999, zl_1000, zl_40, zl_64, zl_16, zl_1289, zl_1545, zl_1801, zl_2068, zl_1865, zl_1866, zl_1867, zl_1868, zl_1281, zl_999, i_bd, i_sb, i_jp, bI_z, not_true_eq_false, not_false_eq_true, if_true, if_false, and_self, and_true, true_and, and_false, false_and, zi_neg, zi_sub, zi_add, zi_mul, m_thr0 (mq_h hm), m_chk (mq_h hm0), mq_tr hm0, mq_as hm0, mq_q, mq_y hm0, mq_yr hm0, m_isIn2, m_of (mq_h hm0), m_at (mq_h hm0), m_told1 (mq_h hm0), m_sumAt, m_told (mq_h hm0), m_T (mq_h hm0), c1, show B (2084 + 48 * (a' : Int) + 9) = 1 from c2]
    · have c2' : AtZ B a' 9 = 0 := by omega
      obtain ⟨F1, S1, gx⟩ := c_worthNow (n := n) (F := F) (S := S) (a := a') (use := AtZ B a' 2) hx.2.1 a8 ra ax.1 ax.2.1 (ax.2.2.2.1 c2).1 (by omega) ax.1.2.2.1
      obtain ⟨S2, ho2, ha2, gm⟩ := m_worthBy (n := n) (B := B) (S := S') (ho := ho) (ha := ha) (sm := sm) (a := (a' : Int)) (use := AtZ B a' 2) (mq_h hm0) hT htr (by omega) (mq_BS hm) (mq_N hm) (by omega) (by omega) ax.1 ax.1.2.2.1
      refine qp_mk (worthZ T tr B a' (AtZ B a' 2)) (F1 := F1) (S1 := S1) (S2 := S2) (ho2 := ho2) (ha2 := ha2) (sm2 := sm) ?_ ?_
      · unfold g_X9_worth
        simp (disch := omega) only [zl_0, zl_1, zl_2, zl_3, zl_4, zl_5, zl_6, zl_7, zl_8, zl_9, zl_10, zl_11, zl_12, zl_13, zl_15, zl_17, zl_27, zl_37, zl_47, zl_63, zl_99999, zl_999999, zl_9999, zl_1000, zl_40, zl_64, zl_16, zl_1289, zl_1545, zl_1801, zl_2068, zl_1865, zl_1866, zl_1867, zl_1868, zl_1281, zl_999, i_bd, i_sb, i_jp, bI_z, not_true_eq_false, not_false_eq_true, if_true, if_false, and_self, and_true, true_and, and_false, false_and, zi_neg, zi_sub, zi_add, zi_mul, xq_ko hx, xq_o4 hx, xq_tr hx, xq_as hx, xq_bg hx, xq_yr, x_isIn2, c_o1 (xq_C hx), c_o0 (xq_C hx), c_o5 (xq_C hx), c_kB (xq_C hx), c_kC (xq_C hx), c_kF (xq_C hx), c_now (xq_C hx), c1, c_oA (xq_C hx) a8, c_gA (xq_C hx) a8, ra.2.1.2.2.1, c2', ra.1.2.2.1, gx]
      · unfold g_X10_worth
        simp (disch := omega) only [zl_0, zl_1, zl_2, zl_3, zl_4, zl_5, zl_6, zl_7, zl_8, zl_9, zl_10, zl_11, zl_12, zl_13, zl_15, zl_17, zl_27, zl_37, zl_47, zl_63, zl_99999, zl_999999, zl_9999, zl_1000, zl_40, zl_64, zl_16, zl_1289, zl_1545, zl_1801, zl_2068, zl_1865, zl_1866, zl_1867, zl_1868, zl_1281, zl_999, i_bd, i_sb, i_jp, bI_z, not_true_eq_false, not_false_eq_true, if_true, if_false, and_self, and_true, true_and, and_false, false_and, zi_neg, zi_sub, zi_add, zi_mul, m_thr0 (mq_h hm), m_chk (mq_h hm0), mq_tr hm0, mq_as hm0, mq_q, mq_y hm0, mq_yr hm0, m_isIn2, m_of (mq_h hm0), m_at (mq_h hm0), m_told1 (mq_h hm0), m_sumAt, m_told (mq_h hm0), m_T (mq_h hm0), c1, show B (2084 + 48 * (a' : Int) + 9) = 0 from c2', c_eqF (show (0 : Int) ≠ 1 by omega), show B (2084 + 48 * (a' : Int) + 2) = AtZ B a' 2 from rfl, gm]
  · refine qp_mk (-1) (F1 := F) (S1 := S) (S2 := S') (ho2 := ho) (ha2 := ha) (sm2 := sm) ?_ ?_
    · unfold g_X9_worth
      simp (disch := omega) only [zl_0, zl_1, zl_2, zl_3, zl_4, zl_5, zl_6, zl_7, zl_8, zl_9, zl_10, zl_11, zl_12, zl_13, zl_15, zl_17, zl_27, zl_37, zl_47, zl_63, zl_99999, zl_999999, zl_9999, zl_1000, zl_40, zl_64, zl_16, zl_1289, zl_1545, zl_1801, zl_2068, zl_1865, zl_1866, zl_1867, zl_1868, zl_1281, zl_999, i_bd, i_sb, i_jp, bI_z, not_true_eq_false, not_false_eq_true, if_true, if_false, and_self, and_true, true_and, and_false, false_and, zi_neg, zi_sub, zi_add, zi_mul, xq_ko hx, xq_o4 hx, xq_tr hx, xq_as hx, xq_bg hx, xq_yr, x_isIn2, c_o1 (xq_C hx), c_o0 (xq_C hx), c_o5 (xq_C hx), c_kB (xq_C hx), c_kC (xq_C hx), c_kF (xq_C hx), c_now (xq_C hx), c1]
    · unfold g_X10_worth
      simp (disch := omega) only [zl_0, zl_1, zl_2, zl_3, zl_4, zl_5, zl_6, zl_7, zl_8, zl_9, zl_10, zl_11, zl_12, zl_13, zl_15, zl_17, zl_27, zl_37, zl_47, zl_63, zl_99999, zl_999999, zl_9999, zl_1000, zl_40, zl_64, zl_16, zl_1289, zl_1545, zl_1801, zl_2068, zl_1865, zl_1866, zl_1867, zl_1868, zl_1281, zl_999, i_bd, i_sb, i_jp, bI_z, not_true_eq_false, not_false_eq_true, if_true, if_false, and_self, and_true, true_and, and_false, false_and, zi_neg, zi_sub, zi_add, zi_mul, m_thr0 (mq_h hm), m_chk (mq_h hm0), mq_tr hm0, mq_as hm0, mq_q, mq_y hm0, mq_yr hm0, m_isIn2, m_of (mq_h hm0), m_at (mq_h hm0), m_told1 (mq_h hm0), m_sumAt, m_told (mq_h hm0), m_T (mq_h hm0), c1]
end Q1
