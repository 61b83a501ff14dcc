/-! ===== PURE 41: more questions ===== -/
section Q2
variable {M M' : MemT} {c r : Nat} {R : Nat → Nat → Int32} {F : Nat → Int32} {S S' : Int → Int} {n : Nat} {T tr sl bu as B : Int → Int} {nt U ho ha : Int} {sm : Int32}
theorem ite_min {E K : Int} (hK : K = if E < 40 then E else 40) (h0 : 0 ≤ E) (h1 : E ≤ 1000000) {inst : Decidable (zi 40 < zi E)} : @ite _ (zi 40 < zi E) inst (zi 40) (zi E) = zi K := by
  rw [hK]
  by_cases z : 40 < E
  · rw [if_pos (by rw [zi_lt (by omega) (by omega) (by omega) (by omega)]; exact z), if_neg (by omega)]
  · rw [if_neg (by rw [zi_lt (by omega) (by omega) (by omega) (by omega)]; exact z)]
    split
    · rfl
    · rw [show E = 40 by omega]
theorem m_gsm (h : MOk M 0 nt T tr sl bu as) : gI (WC M 0 B S ho ha sm) 8 139 27 = some sm := i_gI (M := WC M 0 B S ho ha sm) h.1.1
theorem mq_backOf (h : MQr M nt T tr sl bu as B U) (hn : 10 < n) {t y : Int} (t0 : 0 ≤ t) (t1 : t < nt) (y0 : 0 ≤ y) (y1 : y < 16) : ∃ S1, (∀ w : Int, 0 ≤ w → w < 5 → S1 w = ySum B t y w) ∧ g_X10_backOf n (WC M 0 B S ho ha sm) 139 (zi t) (zi y) = some (zi (backZ (T 0) (T 1) (T 2) (ySum B t y) (annZ T tr B t y)), WC M 0 B S1 (B (1281 + 2 * t)) (B (1282 + 2 * t)) (smallI (T 0) (T 1) (T 2) (ySum B t y) (annZ T tr B t y))) := by
  obtain ⟨hO, hnt, hT, htr, hRows, hBI, hU⟩ := id h
  have hAN := AN2_r hBI.2.1 hBI.2.2.2.2.2.2.1
  obtain ⟨S1, s1, g1⟩ := m_annualOf (n := n) (B := B) (S := S) (ho := ho) (ha := ha) (sm := sm) (t := t) (y := y) hO hT htr (by omega) hBI.1 hBI.2.1 t0 (by omega) y0 y1
  have hr := annZ_r (tr := tr) hT hBI.1 hBI.2.1 hAN t0 (show t < 4 by omega) y0 y1
  have t1' := hT.2.1
  have t2' := hT.2.2
  refine ⟨S1, s1, ?_⟩
  unfold g_X10_backOf
  have rT : aI (WC M 0 B S1 (B (1281 + 2 * t)) (B (1282 + 2 * t)) sm) 10 146 2 = some (zi (T 2)) := m_T hO (w := 2) (by omega) (by omega)
  rw [m_chk hO, g1, i_bd, m_told hO, i_sb, rT, i_sb, m_chk hO, m_back1 hO hT (by omega) ⟨by omega, by omega⟩ (sumsOk_congr (sumsOk_y hBI.1 t0 (by omega) y0 y1) s1), i_bd, backZ_congr s1, smallI_congr s1]
theorem xq_free (h : XQr M c r R nt T tr sl bu as B U) {a : Nat} (a1 : (a : Int) < B 1865) : g_X1_isFree n (WX M c R F S) (c + 10 + 10 + 5 * a) = some (bI2 (¬ (AtZ B a 9 = 1 ∨ 0 < AtZ B a 7)), WX M c R F S) := by
  have h8 := h.2.2.2.1.2.2.2.2.2.2.2.2.1
  have ra := h.2.1.2.2.1.2.2 a a1
  have ax := h.2.2.2.1.2.2.2.2.2.2.2.2.2 a (by omega) a1
  have e9 := ax.1.2.2.2.2.2.2.2.2.2.1
  have e7 := ax.1.2.2.2.2.2.2.2.1
  have q9 : (zi (AtZ B a 9) = 0) = (AtZ B a 9 = 0) := zi_eq (b := 0) (by omega) (by omega) (by omega) (by omega)
  have em : (-2 : Int32) = zi (-2) := by decide
  have q7 : (zi (if AtZ B a 7 = 0 then -2 else AtZ B a 7 - 1) = -2) = (AtZ B a 7 = 0) := by
    rw [em]
    by_cases z : AtZ B a 7 = 0
    · rw [if_pos z]; exact propext ⟨fun _ => z, fun _ => rfl⟩
    · rw [if_neg z, zi_eq (by omega) (by omega) (by omega) (by omega)]
      exact propext ⟨fun q => by omega, fun q => absurd q z⟩
  unfold g_X1_isFree bI2
  rw [c_gA (xq_C h) (by omega), i_sb, ra.2.1.2.2.1]
  simp only [q9]
  by_cases z9 : AtZ B a 9 = 0
  · rw [if_pos z9, c_gA (xq_C h) (by omega), i_sb, ra.2.1.1]
    simp only [q7]
    by_cases z7 : AtZ B a 7 = 0
    · rw [if_pos z7, if_pos (by omega)]; exact rz_1
    · rw [if_neg z7, if_neg (by omega)]; exact rz_0
  · rw [if_neg z9, if_neg (by omega)]; exact rz_0
theorem xq_freeAsset (h : XQr M c r R nt T tr sl bu as B U) {a : Int} (h1 : -2147483648 ≤ a) (h2 : a ≤ 2147483647) : g_X9_isFreeAsset n (WX M c R F S) 0 (zi a) = some (bI2 ((0 ≤ a ∧ a < B 1865) ∧ ¬ (AtZ B a 9 = 1 ∨ 0 < AtZ B a 7)), WX M c R F S) := by
  have h8 := h.2.2.2.1.2.2.2.2.2.2.2.2.1
  unfold g_X9_isFreeAsset
  rw [xq_ko h, xq_as h h1 h2, i_bd]
  show (if bI2 _ = zi 0 then _ else _) = _
  simp only [bI_0]
  by_cases c1 : 0 ≤ a ∧ a < B 1865
  · obtain ⟨a', rfl⟩ := Int.eq_ofNat_of_zero_le c1.1
    rw [if_neg (fun q => q c1), xq_o4 h, i_sb, c_o1 (xq_C h), i_sb, c_o5 (xq_C h), i_sb, c_oA (xq_C h) (by omega), i_sb, c_kA (xq_C h) (by omega), xq_free h c1.2, i_bd]
    show (if bI2 _ = zi 0 then _ else _) = _
    simp only [bI_0]
    by_cases c2 : ¬ (AtZ B a' 9 = 1 ∨ 0 < AtZ B a' 7)
    · rw [if_neg (fun q => q c2)]
      unfold bI2
      rw [if_pos ⟨c1, c2⟩]; exact rz_1
    · rw [if_pos c2]
      unfold bI2
      rw [if_neg (fun q => c2 q.2)]; exact rz_0
  · rw [if_pos c1]
    unfold bI2
    rw [if_neg (fun q => c1 q.1)]; exact rz_0
theorem xq_mayChange (h : XQr M c r R nt T tr sl bu as B U) {a : Nat} (a1 : (a : Int) < B 1865) : g_X1_usesMayChange n (WX M c R F S) (c + 10 + 10 + 5 * a) = some (bI2 (¬ (AtZ B a 9 = 1 ∨ 0 < AtZ B a 7) ∧ 0 < AtZ B a 47), WX M c R F S) := by
  have h8 := h.2.2.2.1.2.2.2.2.2.2.2.2.1
  have ra := h.2.1.2.2.1.2.2 a a1
  have ax := h.2.2.2.1.2.2.2.2.2.2.2.2.2 a (by omega) a1
  have e47 := ax.1.2.2.2.2.2.2.2.2.2.2.2.2
  have q47 : (zi (AtZ B a 47) ≤ 0) = (AtZ B a 47 ≤ 0) := zi_le (b := 0) (by omega) (by omega) (by omega) (by omega)
  unfold g_X1_usesMayChange
  rw [c_kA (xq_C h) (by omega), xq_free h a1, i_bd]
  show (if bI2 _ = zi 0 then _ else _) = _
  simp only [bI_0]
  by_cases c2 : ¬ (AtZ B a 9 = 1 ∨ 0 < AtZ B a 7)
  · rw [if_neg (fun q => q c2), c_gA (xq_C h) (by omega), i_sb, ra.2.1.2.2.2.2.2.2.2.2]
    simp only [q47]
    unfold bI2
    by_cases c3 : AtZ B a 47 ≤ 0
    · rw [if_pos c3, if_neg (by omega)]; exact rz_0
    · rw [if_neg c3, if_pos ⟨c2, by omega⟩]; exact rz_1
  · rw [if_pos c2]
    unfold bI2
    rw [if_neg (fun q => c2 q.1)]; exact rz_0
theorem xq_behind (h : XQr M c r R nt T tr sl bu as B U) {a : Nat} (a1 : (a : Int) < B 1865) : g_X1_intervalsBehind n (WX M c R F S) (c + 10 + 10 + 5 * a) = some (zi (AtZ B a 4 - 1 - AtZ B a 47), WX M c R F S) := by
  have h8 := h.2.2.2.1.2.2.2.2.2.2.2.2.1
  have ra := h.2.1.2.2.1.2.2 a a1
  unfold g_X1_intervalsBehind
  rw [c_gA (xq_C h) (by omega), i_sb, c_gA (xq_C h) (by omega), i_sb, ra.1.2.2.2.2.1, ra.2.1.2.2.2.2.2.2.2.2]
  show some (zi _ - zi 1 - zi _, _) = _
  rw [zi_sub, zi_sub]
theorem mq_behind (h : MQr M nt T tr sl bu as B U) {a : Int} (a0 : 0 ≤ a) (a1 : a < B 1865) (h9 : AtZ B a 9 ≠ 1) : g_X10_behindOf n (WC M 0 B S ho ha sm) 139 (zi a) = some (zi (AtZ B a 4 - 1 - AtZ B a 47), WC M 0 B S ho ha sm) := by
  have ax := mq_A h a0 a1
  have e := (ax.2.2.2.1 h9).1
  rw [m_behindOf h.1 (mq_N h) a0 (by have := mq_8 h; omega) ax.1, e]
theorem Q_booked (hx : XQr M c r R nt T tr sl bu as B U) (hm : MQr M' nt T tr sl bu as B U)  {k : Int} {w : Int} (k1 : -2147483648 ≤ k) (k2 : k ≤ 2147483647) (w1 : -2147483648 ≤ w) (w2 : w ≤ 2147483647) : QP (g_X9_booked n (WX M c R F S) 0 (zi k) (zi w)) (g_X10_booked n (WC M' 0 B S' ho ha sm) 139 (zi k) (zi w)) M (sI M' 139 2 0) c R B := by
  have hm0 := mq_thr0 (v := zi 0) hm
  have hnt := hm.2.1
  have h8 := mq_8 hm
  obtain ⟨n1, n2⟩ := mq_N hm
  have hy : 0 ≤ yearZ B ∧ yearZ B < 16 := by unfold yearZ; omega
  have hT := hm.2.2.1
  have htr := hm.2.2.2.1
  have hAN := AN2_r (mq_N hm) hm.2.2.2.2.2.1.2.2.2.2.2.2.1
  have t1r := hT.2.1
  have t2r := hT.2.2
  have hKE := hm.2.2.2.2.2.1.2.2.2.2.1
  have hKK := KE_K hKE
  have hE := hm.2.2.2.2.2.1.2.2.2.2.2.1
  have eE : (if (40 : Int32) < zi (B 1866) then 40 else zi (B 1866)) = zi (B 1867) := ite_min hKE.1 hKE.2 (by omega)
  by_cases c1 : 0 ≤ k ∧ k < B 1867
  · have c1' : 0 ≤ k ∧ k ≤ B 1867 - 1 := by omega
    by_cases c2 : 0 ≤ w ∧ w ≤ 4
    · have gx : g_X2_entryPart n (WX M c R F S) (c + 10) (zi k) (zi w) = some (zi (B (1868 + 5 * k + w)), WX M c R F S) := x_entryPart (n := n) (wx_B (F := F) (S := S) (xq_C hx)) (xq_R hx) ⟨hKK.2.1, hKK.2.2⟩ (by omega) c1.1 c1.2 c2.1 (by omega)
      refine qp_mk (B (1868 + 5 * k + w)) (F1 := F) (S1 := S) (S2 := S') (ho2 := ho) (ha2 := ha) (sm2 := sm) ?_ ?_
      · unfold g_X9_booked
        rw [xq_o4 hx, i_sb, c_o1 (xq_C hx), i_sb, c_now (xq_C hx), i_sb, (xq_R hx).1.2.2, eE]
        simp (disch := omega) only [zl_0, zl_1, zl_2, zl_3, zl_4, zl_5, zl_6, zl_7, zl_8, zl_9, zl_10, zl_11, zl_12, zl_13, zl_15, zl_17, zl_27, zl_37, zl_47, zl_63, zl_99999, zl_999999, zl_9999, zl_1000, zl_40, zl_64, zl_16, zl_1289, zl_1545, zl_1801, zl_2068, zl_1865, zl_1866, zl_1867, zl_1868, zl_1281, zl_999, i_bd, i_sb, i_jp, bI_z, not_true_eq_false, not_false_eq_true, if_true, if_false, and_self, and_true, true_and, and_false, false_and, zi_neg, zi_sub, zi_add, zi_mul, xq_ko hx, xq_o4 hx, xq_tr hx, xq_as hx, xq_bg hx, xq_yr, x_isIn2, c_o1 (xq_C hx), c_o0 (xq_C hx), c_o5 (xq_C hx), c_kB (xq_C hx), c_kC (xq_C hx), c_kF (xq_C hx), c_now (xq_C hx), c1', c2, gx]
      · unfold g_X10_booked
        simp (disch := omega) only [zl_0, zl_1, zl_2, zl_3, zl_4, zl_5, zl_6, zl_7, zl_8, zl_9, zl_10, zl_11, zl_12, zl_13, zl_15, zl_17, zl_27, zl_37, zl_47, zl_63, zl_99999, zl_999999, zl_9999, zl_1000, zl_40, zl_64, zl_16, zl_1289, zl_1545, zl_1801, zl_2068, zl_1865, zl_1866, zl_1867, zl_1868, zl_1281, zl_999, i_bd, i_sb, i_jp, bI_z, not_true_eq_false, not_false_eq_true, if_true, if_false, and_self, and_true, true_and, and_false, false_and, zi_neg, zi_sub, zi_add, zi_mul, m_thr0 (mq_h hm), m_chk (mq_h hm0), mq_tr hm0, mq_as hm0, mq_q, mq_y hm0, mq_yr hm0, m_isIn2, m_of (mq_h hm0), m_at (mq_h hm0), m_told1 (mq_h hm0), m_sumAt, m_told (mq_h hm0), m_T (mq_h hm0), c_ltF c1.1, c_leF c1.2, c2]
    · refine qp_mk (-999999) (F1 := F) (S1 := S) (S2 := S') (ho2 := ho) (ha2 := ha) (sm2 := sm) ?_ ?_
      · unfold g_X9_booked
        rw [xq_o4 hx, i_sb, c_o1 (xq_C hx), i_sb, c_now (xq_C hx), i_sb, (xq_R hx).1.2.2, eE]
        simp (disch := omega) only [zl_0, zl_1, zl_2, zl_3, zl_4, zl_5, zl_6, zl_7, zl_8, zl_9, zl_10, zl_11, zl_12, zl_13, zl_15, zl_17, zl_27, zl_37, zl_47, zl_63, zl_99999, zl_999999, zl_9999, zl_1000, zl_40, zl_64, zl_16, zl_1289, zl_1545, zl_1801, zl_2068, zl_1865, zl_1866, zl_1867, zl_1868, zl_1281, zl_999, i_bd, i_sb, i_jp, bI_z, not_true_eq_false, not_false_eq_true, if_true, if_false, and_self, and_true, true_and, and_false, false_and, zi_neg, zi_sub, zi_add, zi_mul, xq_ko hx, xq_o4 hx, xq_tr hx, xq_as hx, xq_bg hx, xq_yr, x_isIn2, c_o1 (xq_C hx), c_o0 (xq_C hx), c_o5 (xq_C hx), c_kB (xq_C hx), c_kC (xq_C hx), c_kF (xq_C hx), c_now (xq_C hx), c1', c2]
      · unfold g_X10_booked
        simp (disch := omega) only [zl_0, zl_1, zl_2, zl_3, zl_4, zl_5, zl_6, zl_7, zl_8, zl_9, zl_10, zl_11, zl_12, zl_13, zl_15, zl_17, zl_27, zl_37, zl_47, zl_63, zl_99999, zl_999999, zl_9999, zl_1000, zl_40, zl_64, zl_16, zl_1289, zl_1545, zl_1801, zl_2068, zl_1865, zl_1866, zl_1867, zl_1868, zl_1281, zl_999, i_bd, i_sb, i_jp, bI_z, not_true_eq_false, not_false_eq_true, if_true, if_false, and_self, and_true, true_and, and_false, false_and, zi_neg, zi_sub, zi_add, zi_mul, m_thr0 (mq_h hm), m_chk (mq_h hm0), mq_tr hm0, mq_as hm0, mq_q, mq_y hm0, mq_yr hm0, m_isIn2, m_of (mq_h hm0), m_at (mq_h hm0), m_told1 (mq_h hm0), m_sumAt, m_told (mq_h hm0), m_T (mq_h hm0), c_ltF c1.1, c_leF c1.2, c2]
  · have c1' : ¬ (0 ≤ k ∧ k ≤ B 1867 - 1) := by omega
    by_cases c3 : k < 0
    · refine qp_mk (-999999) (F1 := F) (S1 := S) (S2 := S') (ho2 := ho) (ha2 := ha) (sm2 := sm) ?_ ?_
      · unfold g_X9_booked
        rw [xq_o4 hx, i_sb, c_o1 (xq_C hx), i_sb, c_now (xq_C hx), i_sb, (xq_R hx).1.2.2, eE]
        simp (disch := omega) only [zl_0, zl_1, zl_2, zl_3, zl_4, zl_5, zl_6, zl_7, zl_8, zl_9, zl_10, zl_11, zl_12, zl_13, zl_15, zl_17, zl_27, zl_37, zl_47, zl_63, zl_99999, zl_999999, zl_9999, zl_1000, zl_40, zl_64, zl_16, zl_1289, zl_1545, zl_1801, zl_2068, zl_1865, zl_1866, zl_1867, zl_1868, zl_1281, zl_999, i_bd, i_sb, i_jp, bI_z, not_true_eq_false, not_false_eq_true, if_true, if_false, and_self, and_true, true_and, and_false, false_and, zi_neg, zi_sub, zi_add, zi_mul, xq_ko hx, xq_o4 hx, xq_tr hx, xq_as hx, xq_bg hx, xq_yr, x_isIn2, c_o1 (xq_C hx), c_o0 (xq_C hx), c_o5 (xq_C hx), c_kB (xq_C hx), c_kC (xq_C hx), c_kF (xq_C hx), c_now (xq_C hx), c1']
      · unfold g_X10_booked
        simp (disch := omega) only [zl_0, zl_1, zl_2, zl_3, zl_4, zl_5, zl_6, zl_7, zl_8, zl_9, zl_10, zl_11, zl_12, zl_13, zl_15, zl_17, zl_27, zl_37, zl_47, zl_63, zl_99999, zl_999999, zl_9999, zl_1000, zl_40, zl_64, zl_16, zl_1289, zl_1545, zl_1801, zl_2068, zl_1865, zl_1866, zl_1867, zl_1868, zl_1281, zl_999, i_bd, i_sb, i_jp, bI_z, not_true_eq_false, not_false_eq_true, if_true, if_false, and_self, and_true, true_and, and_false, false_and, zi_neg, zi_sub, zi_add, zi_mul, m_thr0 (mq_h hm), m_chk (mq_h hm0), mq_tr hm0, mq_as hm0, mq_q, mq_y hm0, mq_yr hm0, m_isIn2, m_of (mq_h hm0), m_at (mq_h hm0), m_told1 (mq_h hm0), m_sumAt, m_told (mq_h hm0), m_T (mq_h hm0), c_ltT c3]
    · refine qp_mk (-999999) (F1 := F) (S1 := S) (S2 := S') (ho2 := ho) (ha2 := ha) (sm2 := sm) ?_ ?_
      · unfold g_X9_booked
        rw [xq_o4 hx, i_sb, c_o1 (xq_C hx), i_sb, c_now (xq_C hx), i_sb, (xq_R hx).1.2.2, eE]
        simp (disch := omega) only [zl_0, zl_1, zl_2, zl_3, zl_4, zl_5, zl_6, zl_7, zl_8, zl_9, zl_10, zl_11, zl_12, zl_13, zl_15, zl_17, zl_27, zl_37, zl_47, zl_63, zl_99999, zl_999999, zl_9999, zl_1000, zl_40, zl_64, zl_16, zl_1289, zl_1545, zl_1801, zl_2068, zl_1865, zl_1866, zl_1867, zl_1868, zl_1281, zl_999, i_bd, i_sb, i_jp, bI_z, not_true_eq_false, not_false_eq_true, if_true, if_false, and_self, and_true, true_and, and_false, false_and, zi_neg, zi_sub, zi_add, zi_mul, xq_ko hx, xq_o4 hx, xq_tr hx, xq_as hx, xq_bg hx, xq_yr, x_isIn2, c_o1 (xq_C hx), c_o0 (xq_C hx), c_o5 (xq_C hx), c_kB (xq_C hx), c_kC (xq_C hx), c_kF (xq_C hx), c_now (xq_C hx), c1']
      · unfold g_X10_booked
        simp (disch := omega) only [zl_0, zl_1, zl_2, zl_3, zl_4, zl_5, zl_6, zl_7, zl_8, zl_9, zl_10, zl_11, zl_12, zl_13, zl_15, zl_17, zl_27, zl_37, zl_47, zl_63, zl_99999, zl_999999, zl_9999, zl_1000, zl_40, zl_64, zl_16, zl_1289, zl_1545, zl_1801, zl_2068, zl_1865, zl_1866, zl_1867, zl_1868, zl_1281, zl_999, i_bd, i_sb, i_jp, bI_z, not_true_eq_false, not_false_eq_true, if_true, if_false, and_self, and_true, true_and, and_false, false_and, zi_neg, zi_sub, zi_add, zi_mul, m_thr0 (mq_h hm), m_chk (mq_h hm0), mq_tr hm0, mq_as hm0, mq_q, mq_y hm0, mq_yr hm0, m_isIn2, m_of (mq_h hm0), m_at (mq_h hm0), m_told1 (mq_h hm0), m_sumAt, m_told (mq_h hm0), m_T (mq_h hm0), c_ltF (Int.not_lt.mp c3), c_leT (show B 1867 ≤ k by omega)]
theorem Q_byBasis (hx : XQr M c r R nt T tr sl bu as B U) (hm : MQr M' nt T tr sl bu as B U) (hn : 10 < n) {t : Int} {q : Int} {w : Int} (t1 : -2147483648 ≤ t) (t2 : t ≤ 2147483647) (q1 : -2147483648 ≤ q) (q2 : q ≤ 2147483647) (w1 : -2147483648 ≤ w) (w2 : w ≤ 2147483647) : QP (g_X9_byBasis n (WX M c R F S) 0 (zi t) (zi q) (zi w)) (g_X10_byBasis n (WC M' 0 B S' ho ha sm) 139 (zi t) (zi q) (zi w)) M (sI M' 139 2 0) c R B := by
  have hm0 := mq_thr0 (v := zi 0) hm
  have hnt := hm.2.1
  have h8 := mq_8 hm
  obtain ⟨n1, n2⟩ := mq_N hm
  have hy : 0 ≤ yearZ B ∧ yearZ B < 16 := by unfold yearZ; omega
  have hT := hm.2.2.1
  have htr := hm.2.2.2.1
  have hAN := AN2_r (mq_N hm) hm.2.2.2.2.2.1.2.2.2.2.2.2.1
  have t1r := hT.2.1
  have t2r := hT.2.2
  by_cases c1 : 0 ≤ t ∧ t < nt
  · by_cases c2 : 0 ≤ q ∧ q ≤ B 0 - 1
    · by_cases c3 : 0 ≤ w ∧ w ≤ 1
      · obtain ⟨F1, S1, g1⟩ := c_byBasis (n := n) (F := F) (S := S) (t := t) (q := q) (bs := w) hx.2.1 (by omega) c1.1 c1.2 c2.1 (by omega) c3
        obtain ⟨F2, S2, g2, f2, s2⟩ := c_ofQuarter (n := n) (F := F1) (S := S1) (t := t) (q := q) (xq_C hx) (xq_U hx) hx.2.1.2.2.1.2.1 (xq_R hx) (mq_BS hm) hT (by omega) c1.1 c1.2 hnt.2 c2.1 (by omega)
        have hpr := provZ_rng (tr := tr) (t := t) (q := q) (bs := w) hT htr (mq_BS hm) hAN c1.1 (by omega) c2.1 (by omega) (by omega)
        have hso := sumsOk_q (t := t) (q := q) (mq_BS hm) c1.1 (by omega) c2.1 (by omega)
        have g3 := c_backBy (n := n) (R := R) (xq_C hx) f2 hT.1 (by omega) ⟨by omega, by omega⟩ (sumsOk_congr hso s2) (f := provZ T tr B t q w) (by omega)
        rw [backZ_congr s2] at g3
        obtain ⟨S3, s3, gm⟩ := m_provisionalBy (n := n) (B := B) (S := S') (ho := ho) (ha := ha) (sm := sm) (t := t) (q := q) (bs := w) (mq_h hm0) hT htr (by omega) (mq_BS hm) c1.1 (by omega) c2.1 (by omega) c3
        have g4 := m_back1 (n := n) (B := B) (S := S3) (ho := B (1281 + 2 * t)) (ha := B (1282 + 2 * t)) (sm := sm) (f := provZ T tr B t q w) (lim := T 2 / 4) (mq_h hm0) hT (by omega) ⟨by omega, by omega⟩ (sumsOk_congr hso s3)
        rw [backZ_congr s3] at g4
        have ed : zi (T 2) / zi 4 = zi (T 2 / 4) := zi_div t2r.1 (by omega) (by omega) (by omega)
        have z4 : (zi 4 = zi 0) = False := eq_false (by decide)
        refine qp_mk (backZ (T 0) (T 1) (T 2 / 4) (qSum B t q) (provZ T tr B t q w)) (F1 := F2) (S1 := S2) (S2 := S3) (ho2 := B (1281 + 2 * t)) (ha2 := B (1282 + 2 * t)) (sm2 := smallI (T 0) (T 1) (T 2 / 4) S3 (provZ T tr B t q w)) ?_ ?_
        · unfold g_X9_byBasis
          simp (disch := omega) only [zl_0, zl_1, zl_2, zl_3, zl_4, zl_5, zl_6, zl_7, zl_8, zl_9, zl_10, zl_11, zl_12, zl_13, zl_15, zl_17, zl_27, zl_37, zl_47, zl_63, zl_99999, zl_999999, zl_9999, zl_1000, zl_40, zl_64, zl_16, zl_1289, zl_1545, zl_1801, zl_2068, zl_1865, zl_1866, zl_1867, zl_1868, zl_1281, zl_999, i_bd, i_sb, i_jp, bI_z, not_true_eq_false, not_false_eq_true, if_true, if_false, and_self, and_true, true_and, and_false, false_and, zi_neg, zi_sub, zi_add, zi_mul, xq_ko hx, xq_o4 hx, xq_tr hx, xq_as hx, xq_bg hx, xq_yr, x_isIn2, c_o1 (xq_C hx), c_o0 (xq_C hx), c_o5 (xq_C hx), c_kB (xq_C hx), c_kC (xq_C hx), c_kF (xq_C hx), c_now (xq_C hx), c1, c2, c3, xq_R hx |>.1.1, g1, g2, g3]
        · unfold g_X10_byBasis
          simp (disch := omega) only [zl_0, zl_1, zl_2, zl_3, zl_4, zl_5, zl_6, zl_7, zl_8, zl_9, zl_10, zl_11, zl_12, zl_13, zl_15, zl_17, zl_27, zl_37, zl_47, zl_63, zl_99999, zl_999999, zl_9999, zl_1000, zl_40, zl_64, zl_16, zl_1289, zl_1545, zl_1801, zl_2068, zl_1865, zl_1866, zl_1867, zl_1868, zl_1281, zl_999, i_bd, i_sb, i_jp, bI_z, not_true_eq_false, not_false_eq_true, if_true, if_false, and_self, and_true, true_and, and_false, false_and, zi_neg, zi_sub, zi_add, zi_mul, m_thr0 (mq_h hm), m_chk (mq_h hm0), mq_tr hm0, mq_as hm0, mq_q, mq_y hm0, mq_yr hm0, m_isIn2, m_of (mq_h hm0), m_at (mq_h hm0), m_told1 (mq_h hm0), m_sumAt, m_told (mq_h hm0), m_T (mq_h hm0), c1, c2, c3, gm, ed, z4, g4]
      · refine qp_mk (-999999) (F1 := F) (S1 := S) (S2 := S') (ho2 := ho) (ha2 := ha) (sm2 := sm) ?_ ?_
        · unfold g_X9_byBasis
          simp (disch := omega) only [zl_0, zl_1, zl_2, zl_3, zl_4, zl_5, zl_6, zl_7, zl_8, zl_9, zl_10, zl_11, zl_12, zl_13, zl_15, zl_17, zl_27, zl_37, zl_47, zl_63, zl_99999, zl_999999, zl_9999, zl_1000, zl_40, zl_64, zl_16, zl_1289, zl_1545, zl_1801, zl_2068, zl_1865, zl_1866, zl_1867, zl_1868, zl_1281, zl_999, i_bd, i_sb, i_jp, bI_z, not_true_eq_false, not_false_eq_true, if_true, if_false, and_self, and_true, true_and, and_false, false_and, zi_neg, zi_sub, zi_add, zi_mul, xq_ko hx, xq_o4 hx, xq_tr hx, xq_as hx, xq_bg hx, xq_yr, x_isIn2, c_o1 (xq_C hx), c_o0 (xq_C hx), c_o5 (xq_C hx), c_kB (xq_C hx), c_kC (xq_C hx), c_kF (xq_C hx), c_now (xq_C hx), c1, c2, c3, xq_R hx |>.1.1]
        · unfold g_X10_byBasis
          simp (disch := omega) only [zl_0, zl_1, zl_2, zl_3, zl_4, zl_5, zl_6, zl_7, zl_8, zl_9, zl_10, zl_11, zl_12, zl_13, zl_15, zl_17, zl_27, zl_37, zl_47, zl_63, zl_99999, zl_999999, zl_9999, zl_1000, zl_40, zl_64, zl_16, zl_1289, zl_1545, zl_1801, zl_2068, zl_1865, zl_1866, zl_1867, zl_1868, zl_1281, zl_999, i_bd, i_sb, i_jp, bI_z, not_true_eq_false, not_false_eq_true, if_true, if_false, and_self, and_true, true_and, and_false, false_and, zi_neg, zi_sub, zi_add, zi_mul, m_thr0 (mq_h hm), m_chk (mq_h hm0), mq_tr hm0, mq_as hm0, mq_q, mq_y hm0, mq_yr hm0, m_isIn2, m_of (mq_h hm0), m_at (mq_h hm0), m_told1 (mq_h hm0), m_sumAt, m_told (mq_h hm0), m_T (mq_h hm0), c1, c2, c3]
    · refine qp_mk (-999999) (F1 := F) (S1 := S) (S2 := S') (ho2 := ho) (ha2 := ha) (sm2 := sm) ?_ ?_
      · unfold g_X9_byBasis
        simp (disch := omega) only [zl_0, zl_1, zl_2, zl_3, zl_4, zl_5, zl_6, zl_7, zl_8, zl_9, zl_10, zl_11, zl_12, zl_13, zl_15, zl_17, zl_27, zl_37, zl_47, zl_63, zl_99999, zl_999999, zl_9999, zl_1000, zl_40, zl_64, zl_16, zl_1289, zl_1545, zl_1801, zl_2068, zl_1865, zl_1866, zl_1867, zl_1868, zl_1281, zl_999, i_bd, i_sb, i_jp, bI_z, not_true_eq_false, not_false_eq_true, if_true, if_false, and_self, and_true, true_and, and_false, false_and, zi_neg, zi_sub, zi_add, zi_mul, xq_ko hx, xq_o4 hx, xq_tr hx, xq_as hx, xq_bg hx, xq_yr, x_isIn2, c_o1 (xq_C hx), c_o0 (xq_C hx), c_o5 (xq_C hx), c_kB (xq_C hx), c_kC (xq_C hx), c_kF (xq_C hx), c_now (xq_C hx), c1, c2, xq_R hx |>.1.1]
      · unfold g_X10_byBasis
        simp (disch := omega) only [zl_0, zl_1, zl_2, zl_3, zl_4, zl_5, zl_6, zl_7, zl_8, zl_9, zl_10, zl_11, zl_12, zl_13, zl_15, zl_17, zl_27, zl_37, zl_47, zl_63, zl_99999, zl_999999, zl_9999, zl_1000, zl_40, zl_64, zl_16, zl_1289, zl_1545, zl_1801, zl_2068, zl_1865, zl_1866, zl_1867, zl_1868, zl_1281, zl_999, i_bd, i_sb, i_jp, bI_z, not_true_eq_false, not_false_eq_true, if_true, if_false, and_self, and_true, true_and, and_false, false_and, zi_neg, zi_sub, zi_add, zi_mul, m_thr0 (mq_h hm), m_chk (mq_h hm0), mq_tr hm0, mq_as hm0, mq_q, mq_y hm0, mq_yr hm0, m_isIn2, m_of (mq_h hm0), m_at (mq_h hm0), m_told1 (mq_h hm0), m_sumAt, m_told (mq_h hm0), m_T (mq_h hm0), c1, c2]
  · refine qp_mk (-999999) (F1 := F) (S1 := S) (S2 := S') (ho2 := ho) (ha2 := ha) (sm2 := sm) ?_ ?_
    · unfold g_X9_byBasis
      simp (disch := omega) only [zl_0, zl_1, zl_2, zl_3, zl_4, zl_5, zl_6, zl_7, zl_8, zl_9, zl_10, zl_11, zl_12, zl_13, zl_15, zl_17, zl_27, zl_37, zl_47, zl_63, zl_99999, zl_999999, zl_9999, zl_1000, zl_40, zl_64, zl_16, zl_1289, zl_1545, zl_1801, zl_2068, zl_1865, zl_1866, zl_1867, zl_1868, zl_1281, zl_999, i_bd, i_sb, i_jp, bI_z, not_true_eq_false, not_false_eq_true, if_true, if_false, and_self, and_true, true_and, and_false, false_and, zi_neg, zi_sub, zi_add, zi_mul, xq_ko hx, xq_o4 hx, xq_tr hx, xq_as hx, xq_bg hx, xq_yr, x_isIn2, c_o1 (xq_C hx), c_o0 (xq_C hx), c_o5 (xq_C hx), c_kB (xq_C hx), c_kC (xq_C hx), c_kF (xq_C hx), c_now (xq_C hx), c1]
    · unfold g_X10_byBasis
      simp (disch := omega) only [zl_0, zl_1, zl_2, zl_3, zl_4, zl_5, zl_6, zl_7, zl_8, zl_9, zl_10, zl_11, zl_12, zl_13, zl_15, zl_17, zl_27, zl_37, zl_47, zl_63, zl_99999, zl_999999, zl_9999, zl_1000, zl_40, zl_64, zl_16, zl_1289, zl_1545, zl_1801, zl_2068, zl_1865, zl_1866, zl_1867, zl_1868, zl_1281, zl_999, i_bd, i_sb, i_jp, bI_z, not_true_eq_false, not_false_eq_true, if_true, if_false, and_self, and_true, true_and, and_false, false_and, zi_neg, zi_sub, zi_add, zi_mul, m_thr0 (mq_h hm), m_chk (mq_h hm0), mq_tr hm0, mq_as hm0, mq_q, mq_y hm0, mq_yr hm0, m_isIn2, m_of (mq_h hm0), m_at (mq_h hm0), m_told1 (mq_h hm0), m_sumAt, m_told (mq_h hm0), m_T (mq_h hm0), c1]
theorem Q_ifUse (hx : XQr M c r R nt T tr sl bu as B U) (hm : MQr M' nt T tr sl bu as B U) (hn : 10 < n) {a : Int} {w : Int} (a1 : -2147483648 ≤ a) (a2 : a ≤ 2147483647) (w1 : -2147483648 ≤ w) (w2 : w ≤ 2147483647) : QP (g_X9_ifUse n (WX M c R F S) 0 (zi a) (zi w)) (g_X10_ifUse n (WC M' 0 B S' ho ha sm) 139 (zi a) (zi w)) M (sI M' 139 2 0) c R B := by
  have hm0 := mq_thr0 (v := zi 0) hm
  have hnt := hm.2.1
  have h8 := mq_8 hm
  obtain ⟨n1, n2⟩ := mq_N hm
  have hy : 0 ≤ yearZ B ∧ yearZ B < 16 := by unfold yearZ; omega
  have hT := hm.2.2.1
  have htr := hm.2.2.2.1
  have hAN := AN2_r (mq_N hm) hm.2.2.2.2.2.1.2.2.2.2.2.2.1
  have t1r := hT.2.1
  have t2r := hT.2.2
  by_cases c1 : 0 ≤ a ∧ a < B 1865
  · obtain ⟨a', rfl⟩ := Int.eq_ofNat_of_zero_le c1.1
    have a8 : a' < 8 := by omega
    have ra := hx.2.1.2.2.1.2.2 a' c1.2
    have ax := mq_A hm c1.1 c1.2
    have e9 := ax.1.2.2.2.2.2.2.2.2.2.1
    have e47 := ax.1.2.2.2.2.2.2.2.2.2.2.2.2
    have e4 := ax.1.2.2.2.2.1
    by_cases c2 : 0 ≤ w ∧ w ≤ 2
    · by_cases c3 : ¬ (AtZ B a' 9 = 1 ∨ 0 < AtZ B a' 7)
      · have c9 : AtZ B a' 9 ≠ 1 := fun q => c3 (Or.inl q)
        by_cases c4 : 0 < AtZ B a' 47
        · obtain ⟨F1, S1, gx⟩ := c_worthNow (n := n) (F := F) (S := S) (a := a') (use := w) hx.2.1 a8 ra ax.1 ax.2.1 (ax.2.2.2.1 c9).1 (by omega) c2
          obtain ⟨S2, ho2, ha2, gm⟩ := m_worthBy (n := n) (B := B) (S := S') (ho := ho) (ha := ha) (sm := sm) (a := (a' : Int)) (use := w) (mq_h hm0) hT htr (by omega) (mq_BS hm) (mq_N hm) (by omega) (by omega) ax.1 c2
          refine qp_mk (worthZ T tr B a' w) (F1 := F1) (S1 := S1) (S2 := S2) (ho2 := ho2) (ha2 := ha2) (sm2 := sm) ?_ ?_
          · unfold g_X9_ifUse
            simp (disch := omega) only [zl_0, zl_1, zl_2, zl_3, zl_4, zl_5, zl_6, zl_7, zl_8, zl_9, zl_10, zl_11, zl_12, zl_13, zl_15, zl_17, zl_27, zl_37, zl_47, zl_63, zl_99999, zl_999999, zl_9999, zl_1000, zl_40, zl_64, zl_16, zl_1289, zl_1545, zl_1801, zl_2068, zl_1865, zl_1866, zl_1867, zl_1868, zl_1281, zl_999, i_bd, i_sb, i_jp, bI_z, not_true_eq_false, not_false_eq_true, if_true, if_false, and_self, and_true, true_and, and_false, false_and, zi_neg, zi_sub, zi_add, zi_mul, xq_ko hx, xq_o4 hx, xq_tr hx, xq_as hx, xq_bg hx, xq_yr, x_isIn2, c_o1 (xq_C hx), c_o0 (xq_C hx), c_o5 (xq_C hx), c_kB (xq_C hx), c_kC (xq_C hx), c_kF (xq_C hx), c_now (xq_C hx), c1, c_oA (xq_C hx) a8, c_gA (xq_C hx) a8, c_kA (xq_C hx) a8, c2, xq_mayChange hx c1.2, c3, c4, gx]
          · unfold g_X10_ifUse
            simp (disch := omega) only [zl_0, zl_1, zl_2, zl_3, zl_4, zl_5, zl_6, zl_7, zl_8, zl_9, zl_10, zl_11, zl_12, zl_13, zl_15, zl_17, zl_27, zl_37, zl_47, zl_63, zl_99999, zl_999999, zl_9999, zl_1000, zl_40, zl_64, zl_16, zl_1289, zl_1545, zl_1801, zl_2068, zl_1865, zl_1866, zl_1867, zl_1868, zl_1281, zl_999, i_bd, i_sb, i_jp, bI_z, not_true_eq_false, not_false_eq_true, if_true, if_false, and_self, and_true, true_and, and_false, false_and, zi_neg, zi_sub, zi_add, zi_mul, m_thr0 (mq_h hm), m_chk (mq_h hm0), mq_tr hm0, mq_as hm0, mq_q, mq_y hm0, mq_yr hm0, m_isIn2, m_of (mq_h hm0), m_at (mq_h hm0), m_told1 (mq_h hm0), m_sumAt, m_told (mq_h hm0), m_T (mq_h hm0), c1, c2, mq_gone hm0 c1.1 c1.2, mq_thr hm0 c1.1 c1.2, c3, c4, gm]
        · refine qp_mk (-999999) (F1 := F) (S1 := S) (S2 := S') (ho2 := ho) (ha2 := ha) (sm2 := sm) ?_ ?_
          · unfold g_X9_ifUse
            simp (disch := omega) only [zl_0, zl_1, zl_2, zl_3, zl_4, zl_5, zl_6, zl_7, zl_8, zl_9, zl_10, zl_11, zl_12, zl_13, zl_15, zl_17, zl_27, zl_37, zl_47, zl_63, zl_99999, zl_999999, zl_9999, zl_1000, zl_40, zl_64, zl_16, zl_1289, zl_1545, zl_1801, zl_2068, zl_1865, zl_1866, zl_1867, zl_1868, zl_1281, zl_999, i_bd, i_sb, i_jp, bI_z, not_true_eq_false, not_false_eq_true, if_true, if_false, and_self, and_true, true_and, and_false, false_and, zi_neg, zi_sub, zi_add, zi_mul, xq_ko hx, xq_o4 hx, xq_tr hx, xq_as hx, xq_bg hx, xq_yr, x_isIn2, c_o1 (xq_C hx), c_o0 (xq_C hx), c_o5 (xq_C hx), c_kB (xq_C hx), c_kC (xq_C hx), c_kF (xq_C hx), c_now (xq_C hx), c1, c_oA (xq_C hx) a8, c_gA (xq_C hx) a8, c_kA (xq_C hx) a8, c2, xq_mayChange hx c1.2, c3, c4]
          · unfold g_X10_ifUse
            simp (disch := omega) only [zl_0, zl_1, zl_2, zl_3, zl_4, zl_5, zl_6, zl_7, zl_8, zl_9, zl_10, zl_11, zl_12, zl_13, zl_15, zl_17, zl_27, zl_37, zl_47, zl_63, zl_99999, zl_999999, zl_9999, zl_1000, zl_40, zl_64, zl_16, zl_1289, zl_1545, zl_1801, zl_2068, zl_1865, zl_1866, zl_1867, zl_1868, zl_1281, zl_999, i_bd, i_sb, i_jp, bI_z, not_true_eq_false, not_false_eq_true, if_true, if_false, and_self, and_true, true_and, and_false, false_and, zi_neg, zi_sub, zi_add, zi_mul, m_thr0 (mq_h hm), m_chk (mq_h hm0), mq_tr hm0, mq_as hm0, mq_q, mq_y hm0, mq_yr hm0, m_isIn2, m_of (mq_h hm0), m_at (mq_h hm0), m_told1 (mq_h hm0), m_sumAt, m_told (mq_h hm0), m_T (mq_h hm0), c1, c2, mq_gone hm0 c1.1 c1.2, mq_thr hm0 c1.1 c1.2, c3, c4]
      · have c3' : AtZ B a' 9 = 1 ∨ 0 < AtZ B a' 7 := Classical.not_not.mp c3
        refine qp_mk (-999999) (F1 := F) (S1 := S) (S2 := S') (ho2 := ho) (ha2 := ha) (sm2 := sm) ?_ ?_
        · unfold g_X9_ifUse
          simp (disch := omega) only [zl_0, zl_1, zl_2, zl_3, zl_4, zl_5, zl_6, zl_7, zl_8, zl_9, zl_10, zl_11, zl_12, zl_13, zl_15, zl_17, zl_27, zl_37, zl_47, zl_63, zl_99999, zl_999999, zl_9999, zl_1000, zl_40, zl_64, zl_16, zl_1289, zl_1545, zl_1801, zl_2068, zl_1865, zl_1866, zl_1867, zl_1868, zl_1281, zl_999, i_bd, i_sb, i_jp, bI_z, not_true_eq_false, not_false_eq_true, if_true, if_false, and_self, and_true, true_and, and_false, false_and, zi_neg, zi_sub, zi_add, zi_mul, xq_ko hx, xq_o4 hx, xq_tr hx, xq_as hx, xq_bg hx, xq_yr, x_isIn2, c_o1 (xq_C hx), c_o0 (xq_C hx), c_o5 (xq_C hx), c_kB (xq_C hx), c_kC (xq_C hx), c_kF (xq_C hx), c_now (xq_C hx), c1, c_oA (xq_C hx) a8, c_gA (xq_C hx) a8, c_kA (xq_C hx) a8, c2, xq_mayChange hx c1.2, c3']
        · unfold g_X10_ifUse
          simp (disch := omega) only [zl_0, zl_1, zl_2, zl_3, zl_4, zl_5, zl_6, zl_7, zl_8, zl_9, zl_10, zl_11, zl_12, zl_13, zl_15, zl_17, zl_27, zl_37, zl_47, zl_63, zl_99999, zl_999999, zl_9999, zl_1000, zl_40, zl_64, zl_16, zl_1289, zl_1545, zl_1801, zl_2068, zl_1865, zl_1866, zl_1867, zl_1868, zl_1281, zl_999, i_bd, i_sb, i_jp, bI_z, not_true_eq_false, not_false_eq_true, if_true, if_false, and_self, and_true, true_and, and_false, false_and, zi_neg, zi_sub, zi_add, zi_mul, m_thr0 (mq_h hm), m_chk (mq_h hm0), mq_tr hm0, mq_as hm0, mq_q, mq_y hm0, mq_yr hm0, m_isIn2, m_of (mq_h hm0), m_at (mq_h hm0), m_told1 (mq_h hm0), m_sumAt, m_told (mq_h hm0), m_T (mq_h hm0), c1, c2, mq_gone hm0 c1.1 c1.2, c3']
    · refine qp_mk (-999999) (F1 := F) (S1 := S) (S2 := S') (ho2 := ho) (ha2 := ha) (sm2 := sm) ?_ ?_
      · unfold g_X9_ifUse
        simp (disch := omega) only [zl_0, zl_1, zl_2, zl_3, zl_4, zl_5, zl_6, zl_7, zl_8, zl_9, zl_10, zl_11, zl_12, zl_13, zl_15, zl_17, zl_27, zl_37, zl_47, zl_63, zl_99999, zl_999999, zl_9999, zl_1000, zl_40, zl_64, zl_16, zl_1289, zl_1545, zl_1801, zl_2068, zl_1865, zl_1866, zl_1867, zl_1868, zl_1281, zl_999, i_bd, i_sb, i_jp, bI_z, not_true_eq_false, not_false_eq_true, if_true, if_false, and_self, and_true, true_and, and_false, false_and, zi_neg, zi_sub, zi_add, zi_mul, xq_ko hx, xq_o4 hx, xq_tr hx, xq_as hx, xq_bg hx, xq_yr, x_isIn2, c_o1 (xq_C hx), c_o0 (xq_C hx), c_o5 (xq_C hx), c_kB (xq_C hx), c_kC (xq_C hx), c_kF (xq_C hx), c_now (xq_C hx), c1, c_oA (xq_C hx) a8, c_gA (xq_C hx) a8, c_kA (xq_C hx) a8, c2]
      · unfold g_X10_ifUse
        simp (disch := omega) only [zl_0, zl_1, zl_2, zl_3, zl_4, zl_5, zl_6, zl_7, zl_8, zl_9, zl_10, zl_11, zl_12, zl_13, zl_15, zl_17, zl_27, zl_37, zl_47, zl_63, zl_99999, zl_999999, zl_9999, zl_1000, zl_40, zl_64, zl_16, zl_1289, zl_1545, zl_1801, zl_2068, zl_1865, zl_1866, zl_1867, zl_1868, zl_1281, zl_999, i_bd, i_sb, i_jp, bI_z, not_true_eq_false, not_false_eq_true, if_true, if_false, and_self, and_true, true_and, and_false, false_and, zi_neg, zi_sub, zi_add, zi_mul, m_thr0 (mq_h hm), m_chk (mq_h hm0), mq_tr hm0, mq_as hm0, mq_q, mq_y hm0, mq_yr hm0, m_isIn2, m_of (mq_h hm0), m_at (mq_h hm0), m_told1 (mq_h hm0), m_sumAt, m_told (mq_h hm0), m_T (mq_h hm0), c1, c2]
  · refine qp_mk (-999999) (F1 := F) (S1 := S) (S2 := S') (ho2 := ho) (ha2 := ha) (sm2 := sm) ?_ ?_
    · unfold g_X9_ifUse
      simp (disch := omega) only [zl_0, zl_1, zl_2, zl_3, zl_4, zl_5, zl_6, zl_7, zl_8, zl_9, zl_10, zl_11, zl_12, zl_13, zl_15, zl_17, zl_27, zl_37, zl_47, zl_63, zl_99999, zl_999999, zl_9999, zl_1000, zl_40, zl_64, zl_16, zl_1289, zl_1545, zl_1801, zl_2068, zl_1865, zl_1866, zl_1867, zl_1868, zl_1281, zl_999, i_bd, i_sb, i_jp, bI_z, not_true_eq_false, not_false_eq_true, if_true, if_false, and_self, and_true, true_and, and_false, false_and, zi_neg, zi_sub, zi_add, zi_mul, xq_ko hx, xq_o4 hx, xq_tr hx, xq_as hx, xq_bg hx, xq_yr, x_isIn2, c_o1 (xq_C hx), c_o0 (xq_C hx), c_o5 (xq_C hx), c_kB (xq_C hx), c_kC (xq_C hx), c_kF (xq_C hx), c_now (xq_C hx), c1]
    · unfold g_X10_ifUse
      simp (disch := omega) only [zl_0, zl_1, zl_2, zl_3, zl_4, zl_5, zl_6, zl_7, zl_8, zl_9, zl_10, zl_11, zl_12, zl_13, zl_15, zl_17, zl_27, zl_37, zl_47, zl_63, zl_99999, zl_999999, zl_9999, zl_1000, zl_40, zl_64, zl_16, zl_1289, zl_1545, zl_1801, zl_2068, zl_1865, zl_1866, zl_1867, zl_1868, zl_1281, zl_999, i_bd, i_sb, i_jp, bI_z, not_true_eq_false, not_false_eq_true, if_true, if_false, and_self, and_true, true_and, and_false, false_and, zi_neg, zi_sub, zi_add, zi_mul, m_thr0 (mq_h hm), m_chk (mq_h hm0), mq_tr hm0, mq_as hm0, mq_q, mq_y hm0, mq_yr hm0, m_isIn2, m_of (mq_h hm0), m_at (mq_h hm0), m_told1 (mq_h hm0), m_sumAt, m_told (mq_h hm0), m_T (mq_h hm0), c1]
theorem Q_would (hx : XQr M c r R nt T tr sl bu as B U) (hm : MQr M' nt T tr sl bu as B U) (hn : 10 < n) {a : Int} {w : Int} (a1 : -2147483648 ≤ a) (a2 : a ≤ 2147483647) (w1 : -2147483648 ≤ w) (w2 : w ≤ 2147483647) : QP (g_X9_would n (WX M c R F S) 0 (zi a) (zi w)) (g_X10_would n (WC M' 0 B S' ho ha sm) 139 (zi a) (zi w)) M (sI M' 139 2 0) c R B := by
  have hm0 := mq_thr0 (v := zi 0) hm
  have hnt := hm.2.1
  have h8 := mq_8 hm
  obtain ⟨n1, n2⟩ := mq_N hm
  have hy : 0 ≤ yearZ B ∧ yearZ B < 16 := by unfold yearZ; omega
  have hT := hm.2.2.1
  have htr := hm.2.2.2.1
  have hAN := AN2_r (mq_N hm) hm.2.2.2.2.2.1.2.2.2.2.2.2.1
  have t1r := hT.2.1
  have t2r := hT.2.2
  by_cases c1 : 0 ≤ a ∧ a < B 1865
  · obtain ⟨a', rfl⟩ := Int.eq_ofNat_of_zero_le c1.1
    have a8 : a' < 8 := by omega
    have ra := hx.2.1.2.2.1.2.2 a' c1.2
    have ax := mq_A hm c1.1 c1.2
    have e9 := ax.1.2.2.2.2.2.2.2.2.2.1
    have e47 := ax.1.2.2.2.2.2.2.2.2.2.2.2.2
    have e4 := ax.1.2.2.2.2.1
    have ef := fun S F => xq_freeAsset (n := n) (F := F) (S := S) hx (a := (a' : Int)) (by omega) (by omega)
    by_cases c3 : ¬ (AtZ B a' 9 = 1 ∨ 0 < AtZ B a' 7)
    · have c9 : AtZ B a' 9 ≠ 1 := fun q => c3 (Or.inl q)
      by_cases c2 : 0 ≤ w ∧ w ≤ 1
      · obtain ⟨F1, S1, gx⟩ := c_baseNow (n := n) (F := F) (S := S) (a := a') hx.2.1 a8 ra ax.1 ax.2.1 (ax.2.2.2.1 c9).1 (by omega)
        have hws := worthZ_rng (tr := tr) (use := AtZ B a' 2) hT (mq_BS hm) (mq_N hm) ax.1
        have e6 := ax.1.2.2.2.2.2.2.1
        have hbz : 0 ≤ basZ T tr B a' ∧ basZ T tr B a' ≤ 1000 := by
          unfold basZ
          split <;> omega
        have g2 := c_finalFor (n := n) (R := R) (F := F1) (S := S1) (a := a') (d := AtZ B a' 4 - 1 - AtZ B a' 47) (k := w) (b := basZ T tr B a') (xq_C hx) (xq_U hx) hT a8 ra.1.2.2.2.1 ra.1.2.2.2.2.1 ax.1 (by omega) (by omega) hbz
        obtain ⟨S2, ho2, ha2, gm⟩ := m_baseNow (n := n) (B := B) (S := S') (ho := ho) (ha := ha) (sm := sm) (a := (a' : Int)) (mq_h hm0) hT htr (by omega) (mq_BS hm) (mq_N hm) (by omega) (by omega) ax.1
        have ebz : (if 0 < AtZ B a' 47 then AtZ B a' 6 else worthZ T tr B a' (AtZ B a' 2)) = basZ T tr B a' := rfl
        rw [ebz] at gm
        have g3 := m_lastBy (n := n) (B := B) (S := S2) (ho := ho2) (ha := ha2) (sm := sm) (a := (a' : Int)) (d := AtZ B a' 4 - 1 - AtZ B a' 47) (k := w) (b := basZ T tr B a') (mq_h hm0) hT (by omega) (by omega) ax.1 (by omega) (by omega) hbz
        refine qp_mk (lastZ T B a' (AtZ B a' 4 - 1 - AtZ B a' 47) w (basZ T tr B a')) (F1 := F1) (S1 := S1) (S2 := S2) (ho2 := ho2) (ha2 := ha2) (sm2 := sm) ?_ ?_
        · unfold g_X9_would
          simp (disch := omega) only [zl_0, zl_1, zl_2, zl_3, zl_4, zl_5, zl_6, zl_7, zl_8, zl_9, zl_10, zl_11, zl_12, zl_13, zl_15, zl_17, zl_27, zl_37, zl_47, zl_63, zl_99999, zl_999999, zl_9999, zl_1000, zl_40, zl_64, zl_16, zl_1289, zl_1545, zl_1801, zl_2068, zl_1865, zl_1866, zl_1867, zl_1868, zl_1281, zl_999, i_bd, i_sb, i_jp, bI_z, not_true_eq_false, not_false_eq_true, if_true, if_false, and_self, and_true, true_and, and_false, false_and, zi_neg, zi_sub, zi_add, zi_mul, xq_ko hx, xq_o4 hx, xq_tr hx, xq_as hx, xq_bg hx, xq_yr, x_isIn2, c_o1 (xq_C hx), c_o0 (xq_C hx), c_o5 (xq_C hx), c_kB (xq_C hx), c_kC (xq_C hx), c_kF (xq_C hx), c_now (xq_C hx), c1, c_oA (xq_C hx) a8, c_gA (xq_C hx) a8, c_kA (xq_C hx) a8, c2, ef, c3, xq_behind hx c1.2, gx, g2]
        · unfold g_X10_would
          simp (disch := omega) only [zl_0, zl_1, zl_2, zl_3, zl_4, zl_5, zl_6, zl_7, zl_8, zl_9, zl_10, zl_11, zl_12, zl_13, zl_15, zl_17, zl_27, zl_37, zl_47, zl_63, zl_99999, zl_999999, zl_9999, zl_1000, zl_40, zl_64, zl_16, zl_1289, zl_1545, zl_1801, zl_2068, zl_1865, zl_1866, zl_1867, zl_1868, zl_1281, zl_999, i_bd, i_sb, i_jp, bI_z, not_true_eq_false, not_false_eq_true, if_true, if_false, and_self, and_true, true_and, and_false, false_and, zi_neg, zi_sub, zi_add, zi_mul, m_thr0 (mq_h hm), m_chk (mq_h hm0), mq_tr hm0, mq_as hm0, mq_q, mq_y hm0, mq_yr hm0, m_isIn2, m_of (mq_h hm0), m_at (mq_h hm0), m_told1 (mq_h hm0), m_sumAt, m_told (mq_h hm0), m_T (mq_h hm0), c1, c2, mq_gone hm0 c1.1 c1.2, c3, mq_behind hm0 c1.1 c1.2 c9, gm, g3, zj_32]
      · refine qp_mk (-999999) (F1 := F) (S1 := S) (S2 := S') (ho2 := ho) (ha2 := ha) (sm2 := sm) ?_ ?_
        · unfold g_X9_would
          simp (disch := omega) only [zl_0, zl_1, zl_2, zl_3, zl_4, zl_5, zl_6, zl_7, zl_8, zl_9, zl_10, zl_11, zl_12, zl_13, zl_15, zl_17, zl_27, zl_37, zl_47, zl_63, zl_99999, zl_999999, zl_9999, zl_1000, zl_40, zl_64, zl_16, zl_1289, zl_1545, zl_1801, zl_2068, zl_1865, zl_1866, zl_1867, zl_1868, zl_1281, zl_999, i_bd, i_sb, i_jp, bI_z, not_true_eq_false, not_false_eq_true, if_true, if_false, and_self, and_true, true_and, and_false, false_and, zi_neg, zi_sub, zi_add, zi_mul, xq_ko hx, xq_o4 hx, xq_tr hx, xq_as hx, xq_bg hx, xq_yr, x_isIn2, c_o1 (xq_C hx), c_o0 (xq_C hx), c_o5 (xq_C hx), c_kB (xq_C hx), c_kC (xq_C hx), c_kF (xq_C hx), c_now (xq_C hx), c1, c_oA (xq_C hx) a8, c_gA (xq_C hx) a8, c_kA (xq_C hx) a8, c2, ef, c3]
        · unfold g_X10_would
          simp (disch := omega) only [zl_0, zl_1, zl_2, zl_3, zl_4, zl_5, zl_6, zl_7, zl_8, zl_9, zl_10, zl_11, zl_12, zl_13, zl_15, zl_17, zl_27, zl_37, zl_47, zl_63, zl_99999, zl_999999, zl_9999, zl_1000, zl_40, zl_64, zl_16, zl_1289, zl_1545, zl_1801, zl_2068, zl_1865, zl_1866, zl_1867, zl_1868, zl_1281, zl_999, i_bd, i_sb, i_jp, bI_z, not_true_eq_false, not_false_eq_true, if_true, if_false, and_self, and_true, true_and, and_false, false_and, zi_neg, zi_sub, zi_add, zi_mul, m_thr0 (mq_h hm), m_chk (mq_h hm0), mq_tr hm0, mq_as hm0, mq_q, mq_y hm0, mq_yr hm0, m_isIn2, m_of (mq_h hm0), m_at (mq_h hm0), m_told1 (mq_h hm0), m_sumAt, m_told (mq_h hm0), m_T (mq_h hm0), c1, c2]
    · have c3' : AtZ B a' 9 = 1 ∨ 0 < AtZ B a' 7 := Classical.not_not.mp c3
      by_cases c2 : 0 ≤ w ∧ w ≤ 1
      · refine qp_mk (-999999) (F1 := F) (S1 := S) (S2 := S') (ho2 := ho) (ha2 := ha) (sm2 := sm) ?_ ?_
        · unfold g_X9_would
          simp (disch := omega) only [zl_0, zl_1, zl_2, zl_3, zl_4, zl_5, zl_6, zl_7, zl_8, zl_9, zl_10, zl_11, zl_12, zl_13, zl_15, zl_17, zl_27, zl_37, zl_47, zl_63, zl_99999, zl_999999, zl_9999, zl_1000, zl_40, zl_64, zl_16, zl_1289, zl_1545, zl_1801, zl_2068, zl_1865, zl_1866, zl_1867, zl_1868, zl_1281, zl_999, i_bd, i_sb, i_jp, bI_z, not_true_eq_false, not_false_eq_true, if_true, if_false, and_self, and_true, true_and, and_false, false_and, zi_neg, zi_sub, zi_add, zi_mul, xq_ko hx, xq_o4 hx, xq_tr hx, xq_as hx, xq_bg hx, xq_yr, x_isIn2, c_o1 (xq_C hx), c_o0 (xq_C hx), c_o5 (xq_C hx), c_kB (xq_C hx), c_kC (xq_C hx), c_kF (xq_C hx), c_now (xq_C hx), c1, c_oA (xq_C hx) a8, c_gA (xq_C hx) a8, c_kA (xq_C hx) a8, c2, ef, c3']
        · unfold g_X10_would
          simp (disch := omega) only [zl_0, zl_1, zl_2, zl_3, zl_4, zl_5, zl_6, zl_7, zl_8, zl_9, zl_10, zl_11, zl_12, zl_13, zl_15, zl_17, zl_27, zl_37, zl_47, zl_63, zl_99999, zl_999999, zl_9999, zl_1000, zl_40, zl_64, zl_16, zl_1289, zl_1545, zl_1801, zl_2068, zl_1865, zl_1866, zl_1867, zl_1868, zl_1281, zl_999, i_bd, i_sb, i_jp, bI_z, not_true_eq_false, not_false_eq_true, if_true, if_false, and_self, and_true, true_and, and_false, false_and, zi_neg, zi_sub, zi_add, zi_mul, m_thr0 (mq_h hm), m_chk (mq_h hm0), mq_tr hm0, mq_as hm0, mq_q, mq_y hm0, mq_yr hm0, m_isIn2, m_of (mq_h hm0), m_at (mq_h hm0), m_told1 (mq_h hm0), m_sumAt, m_told (mq_h hm0), m_T (mq_h hm0), c1, c2, mq_gone hm0 c1.1 c1.2, c3']
      · refine qp_mk (-999999) (F1 := F) (S1 := S) (S2 := S') (ho2 := ho) (ha2 := ha) (sm2 := sm) ?_ ?_
        · unfold g_X9_would
          simp (disch := omega) only [zl_0, zl_1, zl_2, zl_3, zl_4, zl_5, zl_6, zl_7, zl_8, zl_9, zl_10, zl_11, zl_12, zl_13, zl_15, zl_17, zl_27, zl_37, zl_47, zl_63, zl_99999, zl_999999, zl_9999, zl_1000, zl_40, zl_64, zl_16, zl_1289, zl_1545, zl_1801, zl_2068, zl_1865, zl_1866, zl_1867, zl_1868, zl_1281, zl_999, i_bd, i_sb, i_jp, bI_z, not_true_eq_false, not_false_eq_true, if_true, if_false, and_self, and_true, true_and, and_false, false_and, zi_neg, zi_sub, zi_add, zi_mul, xq_ko hx, xq_o4 hx, xq_tr hx, xq_as hx, xq_bg hx, xq_yr, x_isIn2, c_o1 (xq_C hx), c_o0 (xq_C hx), c_o5 (xq_C hx), c_kB (xq_C hx), c_kC (xq_C hx), c_kF (xq_C hx), c_now (xq_C hx), c1, c_oA (xq_C hx) a8, c_gA (xq_C hx) a8, c_kA (xq_C hx) a8, c2, ef, c3']
        · unfold g_X10_would
          simp (disch := omega) only [zl_0, zl_1, zl_2, zl_3, zl_4, zl_5, zl_6, zl_7, zl_8, zl_9, zl_10, zl_11, zl_12, zl_13, zl_15, zl_17, zl_27, zl_37, zl_47, zl_63, zl_99999, zl_999999, zl_9999, zl_1000, zl_40, zl_64, zl_16, zl_1289, zl_1545, zl_1801, zl_2068, zl_1865, zl_1866, zl_1867, zl_1868, zl_1281, zl_999, i_bd, i_sb, i_jp, bI_z, not_true_eq_false, not_false_eq_true, if_true, if_false, and_self, and_true, true_and, and_false, false_and, zi_neg, zi_sub, zi_add, zi_mul, m_thr0 (mq_h hm), m_chk (mq_h hm0), mq_tr hm0, mq_as hm0, mq_q, mq_y hm0, mq_yr hm0, m_isIn2, m_of (mq_h hm0), m_at (mq_h hm0), m_told1 (mq_h hm0), m_sumAt, m_told (mq_h hm0), m_T (mq_h hm0), c1, c2]
  · refine qp_mk (-999999) (F1 := F) (S1 := S) (S2 := S') (ho2 := ho) (ha2 := ha) (sm2 := sm) ?_ ?_
    · unfold g_X9_would
      simp (disch := omega) only [zl_0, zl_1, zl_2, zl_3, zl_4, zl_5, zl_6, zl_7, zl_8, zl_9, zl_10, zl_11, zl_12, zl_13, zl_15, zl_17, zl_27, zl_37, zl_47, zl_63, zl_99999, zl_999999, zl_9999, zl_1000, zl_40, zl_64, zl_16, zl_1289, zl_1545, zl_1801, zl_2068, zl_1865, zl_1866, zl_1867, zl_1868, zl_1281, zl_999, i_bd, i_sb, i_jp, bI_z, not_true_eq_false, not_false_eq_true, if_true, if_false, and_self, and_true, true_and, and_false, false_and, zi_neg, zi_sub, zi_add, zi_mul, xq_ko hx, xq_o4 hx, xq_tr hx, xq_as hx, xq_bg hx, xq_yr, x_isIn2, c_o1 (xq_C hx), c_o0 (xq_C hx), c_o5 (xq_C hx), c_kB (xq_C hx), c_kC (xq_C hx), c_kF (xq_C hx), c_now (xq_C hx), c1, xq_freeAsset hx]
    · unfold g_X10_would
      simp (disch := omega) only [zl_0, zl_1, zl_2, zl_3, zl_4, zl_5, zl_6, zl_7, zl_8, zl_9, zl_10, zl_11, zl_12, zl_13, zl_15, zl_17, zl_27, zl_37, zl_47, zl_63, zl_99999, zl_999999, zl_9999, zl_1000, zl_40, zl_64, zl_16, zl_1289, zl_1545, zl_1801, zl_2068, zl_1865, zl_1866, zl_1867, zl_1868, zl_1281, zl_999, i_bd, i_sb, i_jp, bI_z, not_true_eq_false, not_false_eq_true, if_true, if_false, and_self, and_true, true_and, and_false, false_and, zi_neg, zi_sub, zi_add, zi_mul, m_thr0 (mq_h hm), m_chk (mq_h hm0), mq_tr hm0, mq_as hm0, mq_q, mq_y hm0, mq_yr hm0, m_isIn2, m_of (mq_h hm0), m_at (mq_h hm0), m_told1 (mq_h hm0), m_sumAt, m_told (mq_h hm0), m_T (mq_h hm0), c1]
end Q2
