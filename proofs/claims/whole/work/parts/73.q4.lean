/-! ===== PURE 43: more questions ===== -/
section Q4
variable {M M' : MemT} {c r : Nat} {R : Nat → Nat → Int32} {F : Nat → Int32} {S S' : Int → Int} {n : Nat} {T tr sl bu as B : Int → Int} {nt U ho ha : Int} {sm : Int32}
theorem lg_gz (x y : Int64) : (zi 0 < lg_cmp x y) = (y < x) := lg_gt x y
theorem cutZ_0 {w b : Int} (hb : 0 < b) : cutZ w 0 b = 0 := by
  unfold cutZ
  split
  · exact Int.zero_ediv b
  · split
    · rw [show (-0 : Int) = 0 from rfl, Int.zero_ediv]; rfl
    · exact Int.ediv_eq_zero_of_lt (by omega) (by omega)
theorem FOk_set {w m s l m' w' s' : Int} (h : FOk F w m s l ho ha) : FOk (up1 (up1 (up1 F 3 (zi w')) 4 (zi m')) 5 (zi s')) w' m' s' l ho ha := by
  obtain ⟨f3, f4, f5, f6, f1, f2⟩ := h
  exact ⟨rfl, rfl, rfl, f6, f1, f2⟩
theorem FOk_join {w m s l a b : Int} (h : FOk F w m s l ho ha) : FOk (up1 (up1 F 1 (zi a)) 2 (zi b)) w m s l a b := by
  obtain ⟨f3, f4, f5, f6, f1, f2⟩ := h
  exact ⟨f3, f4, f5, f6, rfl, rfl⟩
theorem c_joinYear (h : CSh M c r) (hH : RH B nt R) (hR : RM B R) (hB : BS B) (hn : 5 < n) {w m s l : Int} (hF : FOk F w m s l ho ha) {t y : Int} (t0 : 0 ≤ t) (t1 : t < nt) (hnt : nt ≤ 4) (y0 : 0 ≤ y) (y1 : y < 16) : ∃ F1 S1, g_X3_joinYear n (WX M c R F S) c (zi t) (zi y) = some ((), WX M c R F1 S1) ∧ FOk F1 w m s l (ho + B (1281 + 2 * t)) (ha + B (1282 + 2 * t)) ∧ ∀ w : Int, 0 ≤ w → w < 5 → S1 w = S w + ySum B t y w := by
  have g2 := c_addQuarters (n := n) (F := F) (S := S) (m := 4) (q := y * 4) h hR hB hn t0 (show t < 4 by omega) (by omega) (by omega) (by omega)
  have hh := hH t t0 t1
  have b3 : ∀ F S, gO (WX M c R F S) 1 (c + 10) 3 = some (c + 10 + 1) := fun F S => x_o3 (M := WF M (c + 60) F S) (wx_B (F := F) (S := S) h)
  have b4 : ∀ F S, gO (WX M c R F S) 1 (c + 10) 4 = some (c + 10 + 2) := fun F S => x_o4 (M := WF M (c + 60) F S) (wx_B (F := F) (S := S) h)
  have a3 : ∀ F S, aI (WX M c R F S) 10 (c + 10 + 1) (zi t) = some (R 1 t.toNat) := fun F S => x_a3 (M := WF M (c + 60) F S) (wx_B (F := F) (S := S) h) t0 (by omega)
  have a4 : ∀ F S, aI (WX M c R F S) 10 (c + 10 + 2) (zi t) = some (R 2 t.toNat) := fun F S => x_a4 (M := WF M (c + 60) F S) (wx_B (F := F) (S := S) h) t0 (by omega)
  refine ⟨up1 (up1 F 1 (zi (ho + B (1281 + 2 * t)))) 2 (zi (ha + B (1282 + 2 * t))), qS B S t (y * 4) 4, ?_, FOk_join hF, fun w w0 w1 => ?_⟩
  · unfold g_X3_joinYear
    rw [c_kC h]
    show bd (g_X3_addQuarters n _ c (zi t) (zi y * zi 4) (zi ((4 : Nat) : Int))) _ = _
    rw [zi_mul, g2, i_bd, c_o2 h, i_sb, c_gF h, i_sb, hF.2.2.2.2.1, c_o1 h, i_sb, b3, i_sb, a3, i_sb, hh.1, zi_add, c_pF h, i_sb, c_o2 h, i_sb, c_gF h, i_sb, up1_ne (show (2 : Nat) ≠ 1 by omega), hF.2.2.2.2.2, c_o1 h, i_sb, b4, i_sb, a4, i_sb, hh.2, zi_add, c_pF h, i_sb]
  · show aS B (aS B (aS B (aS B S t (y * 4 + ((0 : Nat) : Int)) 5) t (y * 4 + ((1 : Nat) : Int)) 5) t (y * 4 + ((2 : Nat) : Int)) 5) t (y * 4 + ((3 : Nat) : Int)) 5 w = _
    rw [aS_at w0 w1, aS_at w0 w1, aS_at w0 w1, aS_at w0 w1]
    unfold ySum
    rw [show (y * 4 + ((0 : Nat) : Int)) = 4 * y by omega, show (y * 4 + ((1 : Nat) : Int)) = 4 * y + 1 by omega, show (y * 4 + ((2 : Nat) : Int)) = 4 * y + 2 by omega, show (y * 4 + ((3 : Nat) : Int)) = 4 * y + 3 by omega]
    omega
/-- the reference's loop of four quarters -/
theorem m_add4 (h : MOk M 0 nt T tr sl bu as) (hn : 5 < n) (hB : BS B) {t y : Int} (h0 : 0 ≤ t) (h1 : t < 4) (h2 : 0 ≤ y) (h3 : y < 16) : ∃ S1, (∀ w : Int, 0 ≤ w → w < 5 → S1 w = S w + ySum B t y w) ∧ loopF (fun (s : MemT × Int32) => (fun (M8 : MemT) (v9 : Int32) => (if ((4 * zi y) + 4) ≤ v9 then some (.inr (M8, v9)) else chk M8 8 139 (bd (g_X10_addQuarter n M8 139 (zi t) v9) (fun r11 M12 => (some (.inl (M12, v9 + 1)) : Option ((MemT × Int32) ⊕ (MemT × Int32))))))) s.1 s.2) n (WC M 0 B S ho ha sm, 4 * zi y) = some (WC M 0 B S1 ho ha sm, zi (4 * y + 4)) := by
  have hq : ∀ q : Int, 0 ≤ q → q < 64 → ∀ w : Int, 0 ≤ w → w < 5 → r31 (B (1 + 320 * t + 5 * q + w)) := fun q hq1 hq2 w hw1 hw2 => by
    have := hB.1 (1 + 320 * t + 5 * q + w) (by omega) (by omega)
    exact ⟨by omega, by omega⟩
  refine ⟨qS B S t (4 * y) 4, fun w w0 w1 => ?_, ?_⟩
  · show aS B (aS B (aS B (aS B S t (4 * y + ((0 : Nat) : Int)) 5) t (4 * y + ((1 : Nat) : Int)) 5) t (4 * y + ((2 : Nat) : Int)) 5) t (4 * y + ((3 : Nat) : Int)) 5 w = _
    rw [aS_at w0 w1, aS_at w0 w1, aS_at w0 w1, aS_at w0 w1]
    unfold ySum
    rw [show (4 * y + ((0 : Nat) : Int)) = 4 * y by omega]
    simp only [Int.natCast_one, Int.cast_ofNat_Int]
    omega
  · have e4 : (4 : Int32) * zi y = zi (4 * y) := zi_mul 4 y
    have e44 : zi (4 * y) + 4 = zi (4 * y + 4) := zi_add (4 * y) 4
    simp only [e4, e44]
    rw [show (WC M 0 B S ho ha sm, zi (4 * y)) = (fun i : Nat => (WC M 0 B (qS B S t (4 * y) i) ho ha sm, zi (4 * y + i))) 0 by
      show _ = (WC M 0 B S ho ha sm, zi (4 * y + ((0 : Nat) : Int)))
      rw [show (4 * y + ((0 : Nat) : Int)) = 4 * y by omega]]
    refine loop_k (fun i : Nat => (WC M 0 B (qS B S t (4 * y) i) ho ha sm, zi (4 * y + i))) _ 4 (fun i hi => ?_) ?_ n (by omega)
    · dsimp only
      rw [if_neg (by rw [zi_le (by omega) (by omega) (by omega) (by omega)]; omega), m_chk h, m_addQuarter h hn h0 h1 (by omega) (by omega) (hq _ (by omega) (by omega)), i_bd]
      show some (Sum.inl (_, zi (4 * y + i) + zi 1)) = some (Sum.inl (WC M 0 B (aS B (qS B S t (4 * y) i) t (4 * y + i) 5) ho ha sm, zi (4 * y + ((i + 1 : Nat) : Int))))
      rw [zi_add, show (4 * y + (i : Int) + 1) = 4 * y + ((i + 1 : Nat) : Int) by omega]
    · dsimp only
      rw [if_pos (by show zi (4 * y + 4) ≤ zi (4 * y + ((4 : Nat) : Int)); exact Int32.le_refl _)]; rfl
theorem backZ_m1 {w s f : Int} {S : Int → Int} (hw : 0 ≤ w ∧ w ≤ 2) (hs : 0 < s) (hS : sumsOk S) (hf : 0 ≤ f ∧ f ≤ s) : backZ w s (-1) S f = wholeZ S - lefZ w s S f ∧ 0 ≤ lefZ w s S f ∧ lefZ w s S f ≤ S 3 + S 4 := by
  have s2 := hS 2 (by omega) (by omega)
  have s3 := hS 3 (by omega) (by omega)
  have s4 := hS 4 (by omega) (by omega)
  have hc := cutZ_mono (w := w) (a := S 4 * f) (b := s) (c := S 4) hs (Int.mul_nonneg s4.1 hf.1) (Int.mul_le_mul_of_nonneg_left hf.2 s4.1) hw
  have hl := lefZ_its (w := w) (s := s) (f := f) (S := S)
  have h0 : 0 ≤ lefZ w s S f ∧ lefZ w s S f ≤ S 3 + S 4 := by unfold lefZ; omega
  refine ⟨?_, h0⟩
  unfold backZ
  rw [← hl, if_neg (by omega)]
  omega
theorem Q_project (hx : XQr M c r R nt T tr sl bu as B U) (hm : MQr M' nt T tr sl bu as B U) (hn : 10 < n) {a : Int} {k : Int} (a1 : -2147483648 ≤ a) (a2 : a ≤ 2147483647) (k1 : -2147483648 ≤ k) (k2 : k ≤ 2147483647) : QP (g_X9_project n (WX M c R F S) 0 (zi a) (zi k)) (g_X10_project n (WC M' 0 B S' ho ha sm) 139 (zi a) (zi k)) M (sI M' 139 2 0) c R B := by
  have hm0 := mq_thr0 (v := zi 0) hm
  have hnt := hm.2.1
  have h8 := mq_8 hm
  obtain ⟨n1, n2⟩ := mq_N hm
  have hy : 0 ≤ yearZ B ∧ yearZ B < 16 := by unfold yearZ; omega
  have hT := hm.2.2.1
  have htr := hm.2.2.2.1
  have hAN := AN2_r (mq_N hm) hm.2.2.2.2.2.1.2.2.2.2.2.2.1
  have t1r := hT.2.1
  have t2r := hT.2.2
  by_cases c1 : 0 ≤ a ∧ a < B 1865
  · obtain ⟨a', rfl⟩ := Int.eq_ofNat_of_zero_le c1.1
    have a8 : a' < 8 := by omega
    have ra := hx.2.1.2.2.1.2.2 a' c1.2
    have ax := mq_A hm c1.1 c1.2
    have e9 := ax.1.2.2.2.2.2.2.2.2.2.1
    have e47 := ax.1.2.2.2.2.2.2.2.2.2.2.2.2
    have e4 := ax.1.2.2.2.2.1
    have ef := fun S F => xq_freeAsset (n := n) (F := F) (S := S) hx (a := (a' : Int)) (by omega) (by omega)
    by_cases c3 : ¬ (AtZ B a' 9 = 1 ∨ 0 < AtZ B a' 7)
    · have c9 : AtZ B a' 9 ≠ 1 := fun q => c3 (Or.inl q)
      have xh := ax.2.2.2.1 c9
      by_cases c2 : 1 ≤ k ∧ k ≤ AtZ B a' 4 - 1 - AtZ B a' 47 + 1
      · obtain ⟨F1, S1, gx⟩ := c_worthNow (n := n) (F := F) (S := S) (a := a') (use := AtZ B a' 2) hx.2.1 a8 ra ax.1 ax.2.1 xh.1 (by omega) ax.1.2.2.1
        have hws := worthZ_rng (tr := tr) (use := AtZ B a' 2) hT (mq_BS hm) (mq_N hm) ax.1
        have e6 := ax.1.2.2.2.2.2.2.1
        obtain ⟨S2, ho2, ha2, gm⟩ := m_baseNow (n := n) (B := B) (S := S') (ho := ho) (ha := ha) (sm := sm) (a := (a' : Int)) (mq_h hm0) hT htr (by omega) (mq_BS hm) (mq_N hm) (by omega) (by omega) ax.1
        obtain ⟨S3, ho3, ha3, gw⟩ := m_worthBy (n := n) (B := B) (S := S2) (ho := ho2) (ha := ha2) (sm := sm) (a := (a' : Int)) (use := AtZ B a' 2) (mq_h hm0) hT htr (by omega) (mq_BS hm) (mq_N hm) (by omega) (by omega) ax.1 ax.1.2.2.1
        have hsp := spanT hT ax.1
        by_cases c4 : AtZ B a' 47 = 0
        · rw [if_neg (show ¬ (0 < AtZ B a' 47) by omega)] at gm
          have g2 := c_firstBy (n := n) (R := R) (F := F1) (S := S1) (a := a') (b := worthZ T tr B a' (AtZ B a' 2)) (xq_C hx) (xq_U hx) hT a8 ra.1.2.2.2.1 ax.1 (by omega)
          have ga := m_adjustedBy (n := n) (B := B) (S := S3) (ho := ho3) (ha := ha3) (sm := sm) (a := (a' : Int)) (w := worthZ T tr B a' (AtZ B a' 2)) (b := worthZ T tr B a' (AtZ B a' 2)) (mq_h hm0) hT (by omega) (by omega) ax.1 (by omega)
          have ez : adjZ T B a' (worthZ T tr B a' (AtZ B a' 2)) (worthZ T tr B a' (AtZ B a' 2)) = 0 := by unfold adjZ; rw [Int.sub_self, Int.mul_zero]; exact cutZ_0 hsp.1
          rw [ez] at ga
          have gf := m_firstTaken (n := n) (B := B) (S := S3) (ho := ho3) (ha := ha3) (sm := sm) (a := (a' : Int)) (b := worthZ T tr B a' (AtZ B a' 2)) (mq_h hm0) hT (by omega) (by omega) ax.1 (by omega)
          have em : ∀ x : Int64, zj (fstZ T B a' (worthZ T tr B a' (AtZ B a' 2))) + x * zj 0 = zj (fstZ T B a' (worthZ T tr B a' (AtZ B a' 2))) := fun x => by rw [show zj 0 = (0 : Int64) from rfl, Int64.mul_zero, Int64.add_zero]
          refine qp_mk (fstZ T B a' (worthZ T tr B a' (AtZ B a' 2))) (F1 := F1) (S1 := S1) (S2 := S3) (ho2 := ho3) (ha2 := ha3) (sm2 := sm) ?_ ?_
          · unfold g_X9_project
            simp (disch := omega) only [zl_0, zl_1, zl_2, zl_3, zl_4, zl_5, zl_6, zl_7, zl_8, zl_9, zl_10, zl_11, zl_12, zl_13, zl_15, zl_17, zl_27, zl_37, zl_47, zl_63, zl_99999, zl_999999, zl_9999, zl_1000, zl_40, zl_64, zl_16, zl_1289, zl_1545, zl_1801, zl_2068, zl_1865, zl_1866, zl_1867, zl_1868, zl_1281, zl_999, i_bd, i_sb, i_jp, bI_z, not_true_eq_false, not_false_eq_true, if_true, if_false, and_self, and_true, true_and, and_false, false_and, zi_neg, zi_sub, zi_add, zi_mul, xq_ko hx, xq_o4 hx, xq_tr hx, xq_as hx, xq_bg hx, xq_yr, x_isIn2, c_o1 (xq_C hx), c_o0 (xq_C hx), c_o5 (xq_C hx), c_kB (xq_C hx), c_kC (xq_C hx), c_kF (xq_C hx), c_now (xq_C hx), c1, c_oA (xq_C hx) a8, c_gA (xq_C hx) a8, c_kA (xq_C hx) a8, ef, c3, c2, xq_behind hx c1.2, ra.1.2.2.1, gx, ra.2.1.2.2.2.2.2.2.2.2, c_eqT c4, g2]
          · unfold g_X10_project
            simp (disch := omega) only [zl_0, zl_1, zl_2, zl_3, zl_4, zl_5, zl_6, zl_7, zl_8, zl_9, zl_10, zl_11, zl_12, zl_13, zl_15, zl_17, zl_27, zl_37, zl_47, zl_63, zl_99999, zl_999999, zl_9999, zl_1000, zl_40, zl_64, zl_16, zl_1289, zl_1545, zl_1801, zl_2068, zl_1865, zl_1866, zl_1867, zl_1868, zl_1281, zl_999, i_bd, i_sb, i_jp, bI_z, not_true_eq_false, not_false_eq_true, if_true, if_false, and_self, and_true, true_and, and_false, false_and, zi_neg, zi_sub, zi_add, zi_mul, m_thr0 (mq_h hm), m_chk (mq_h hm0), mq_tr hm0, mq_as hm0, mq_q, mq_y hm0, mq_yr hm0, m_isIn2, m_of (mq_h hm0), m_at (mq_h hm0), m_told1 (mq_h hm0), m_sumAt, m_told (mq_h hm0), m_T (mq_h hm0), c1, mq_gone hm0 c1.1 c1.2, c3, mq_behind hm0 c1.1 c1.2 c9, c2, gm, show B (2084 + 48 * (a' : Int) + 2) = AtZ B a' 2 from rfl, gw, ga, mq_thr hm0 c1.1 c1.2, show ¬ (0 < AtZ B a' 47) by omega, gf, em, zj_32]
        · have h47 : 0 < AtZ B a' 47 := by omega
          rw [if_pos h47] at gm
          have g2 := c_adjustedBy (n := n) (R := R) (F := F1) (S := S1) (a := a') (w := worthZ T tr B a' (AtZ B a' 2)) (b := AtZ B a' 6) (xq_C hx) (xq_U hx) hT a8 ra.1.2.2.2.1 ra.1.2.2.2.2.1 ax.1 (by omega)
          have ga := m_adjustedBy (n := n) (B := B) (S := S3) (ho := ho3) (ha := ha3) (sm := sm) (a := (a' : Int)) (w := worthZ T tr B a' (AtZ B a' 2)) (b := AtZ B a' 6) (mq_h hm0) hT (by omega) (by omega) ax.1 (by omega)
          refine qp_mk (AtZ B a' 10 + adjZ T B a' (worthZ T tr B a' (AtZ B a' 2)) (AtZ B a' 6) * k) (F1 := F1) (S1 := S1) (S2 := S3) (ho2 := ho3) (ha2 := ha3) (sm2 := sm) ?_ ?_
          · unfold g_X9_project
            simp (disch := omega) only [zl_0, zl_1, zl_2, zl_3, zl_4, zl_5, zl_6, zl_7, zl_8, zl_9, zl_10, zl_11, zl_12, zl_13, zl_15, zl_17, zl_27, zl_37, zl_47, zl_63, zl_99999, zl_999999, zl_9999, zl_1000, zl_40, zl_64, zl_16, zl_1289, zl_1545, zl_1801, zl_2068, zl_1865, zl_1866, zl_1867, zl_1868, zl_1281, zl_999, i_bd, i_sb, i_jp, bI_z, not_true_eq_false, not_false_eq_true, if_true, if_false, and_self, and_true, true_and, and_false, false_and, zi_neg, zi_sub, zi_add, zi_mul, xq_ko hx, xq_o4 hx, xq_tr hx, xq_as hx, xq_bg hx, xq_yr, x_isIn2, c_o1 (xq_C hx), c_o0 (xq_C hx), c_o5 (xq_C hx), c_kB (xq_C hx), c_kC (xq_C hx), c_kF (xq_C hx), c_now (xq_C hx), c1, c_oA (xq_C hx) a8, c_gA (xq_C hx) a8, c_kA (xq_C hx) a8, ef, c3, c2, xq_behind hx c1.2, ra.1.2.2.1, gx, ra.2.1.2.2.2.2.2.2.2.2, c_eqF c4, ra.2.1.2.2.2.2.2.1, ra.2.1.2.2.2.1, g2]
          · unfold g_X10_project
            simp (disch := omega) only [zl_0, zl_1, zl_2, zl_3, zl_4, zl_5, zl_6, zl_7, zl_8, zl_9, zl_10, zl_11, zl_12, zl_13, zl_15, zl_17, zl_27, zl_37, zl_47, zl_63, zl_99999, zl_999999, zl_9999, zl_1000, zl_40, zl_64, zl_16, zl_1289, zl_1545, zl_1801, zl_2068, zl_1865, zl_1866, zl_1867, zl_1868, zl_1281, zl_999, i_bd, i_sb, i_jp, bI_z, not_true_eq_false, not_false_eq_true, if_true, if_false, and_self, and_true, true_and, and_false, false_and, zi_neg, zi_sub, zi_add, zi_mul, m_thr0 (mq_h hm), m_chk (mq_h hm0), mq_tr hm0, mq_as hm0, mq_q, mq_y hm0, mq_yr hm0, m_isIn2, m_of (mq_h hm0), m_at (mq_h hm0), m_told1 (mq_h hm0), m_sumAt, m_told (mq_h hm0), m_T (mq_h hm0), c1, mq_gone hm0 c1.1 c1.2, c3, mq_behind hm0 c1.1 c1.2 c9, c2, gm, show B (2084 + 48 * (a' : Int) + 2) = AtZ B a' 2 from rfl, gw, ga, mq_thr hm0 c1.1 c1.2, h47, show B (2084 + 48 * (a' : Int) + 10) = AtZ B a' 10 from rfl, Int64.toInt32_add, Int64.toInt32_mul, Int32.toInt32_toInt64, zj_32]
            rw [Int.mul_comm]
      · refine qp_mk (-999999) (F1 := F) (S1 := S) (S2 := S') (ho2 := ho) (ha2 := ha) (sm2 := sm) ?_ ?_
        · unfold g_X9_project
          simp (disch := omega) only [zl_0, zl_1, zl_2, zl_3, zl_4, zl_5, zl_6, zl_7, zl_8, zl_9, zl_10, zl_11, zl_12, zl_13, zl_15, zl_17, zl_27, zl_37, zl_47, zl_63, zl_99999, zl_999999, zl_9999, zl_1000, zl_40, zl_64, zl_16, zl_1289, zl_1545, zl_1801, zl_2068, zl_1865, zl_1866, zl_1867, zl_1868, zl_1281, zl_999, i_bd, i_sb, i_jp, bI_z, not_true_eq_false, not_false_eq_true, if_true, if_false, and_self, and_true, true_and, and_false, false_and, zi_neg, zi_sub, zi_add, zi_mul, xq_ko hx, xq_o4 hx, xq_tr hx, xq_as hx, xq_bg hx, xq_yr, x_isIn2, c_o1 (xq_C hx), c_o0 (xq_C hx), c_o5 (xq_C hx), c_kB (xq_C hx), c_kC (xq_C hx), c_kF (xq_C hx), c_now (xq_C hx), c1, c_oA (xq_C hx) a8, c_gA (xq_C hx) a8, c_kA (xq_C hx) a8, ef, c3, c2, xq_behind hx c1.2]
        · unfold g_X10_project
          simp (disch := omega) only [zl_0, zl_1, zl_2, zl_3, zl_4, zl_5, zl_6, zl_7, zl_8, zl_9, zl_10, zl_11, zl_12, zl_13, zl_15, zl_17, zl_27, zl_37, zl_47, zl_63, zl_99999, zl_999999, zl_9999, zl_1000, zl_40, zl_64, zl_16, zl_1289, zl_1545, zl_1801, zl_2068, zl_1865, zl_1866, zl_1867, zl_1868, zl_1281, zl_999, i_bd, i_sb, i_jp, bI_z, not_true_eq_false, not_false_eq_true, if_true, if_false, and_self, and_true, true_and, and_false, false_and, zi_neg, zi_sub, zi_add, zi_mul, m_thr0 (mq_h hm), m_chk (mq_h hm0), mq_tr hm0, mq_as hm0, mq_q, mq_y hm0, mq_yr hm0, m_isIn2, m_of (mq_h hm0), m_at (mq_h hm0), m_told1 (mq_h hm0), m_sumAt, m_told (mq_h hm0), m_T (mq_h hm0), c1, mq_gone hm0 c1.1 c1.2, c3, mq_behind hm0 c1.1 c1.2 c9, c2]
    · have c3' : AtZ B a' 9 = 1 ∨ 0 < AtZ B a' 7 := Classical.not_not.mp c3
      refine qp_mk (-999999) (F1 := F) (S1 := S) (S2 := S') (ho2 := ho) (ha2 := ha) (sm2 := sm) ?_ ?_
      · unfold g_X9_project
        simp (disch := omega) only [zl_0, zl_1, zl_2, zl_3, zl_4, zl_5, zl_6, zl_7, zl_8, zl_9, zl_10, zl_11, zl_12, zl_13, zl_15, zl_17, zl_27, zl_37, zl_47, zl_63, zl_99999, zl_999999, zl_9999, zl_1000, zl_40, zl_64, zl_16, zl_1289, zl_1545, zl_1801, zl_2068, zl_1865, zl_1866, zl_1867, zl_1868, zl_1281, zl_999, i_bd, i_sb, i_jp, bI_z, not_true_eq_false, not_false_eq_true, if_true, if_false, and_self, and_true, true_and, and_false, false_and, zi_neg, zi_sub, zi_add, zi_mul, xq_ko hx, xq_o4 hx, xq_tr hx, xq_as hx, xq_bg hx, xq_yr, x_isIn2, c_o1 (xq_C hx), c_o0 (xq_C hx), c_o5 (xq_C hx), c_kB (xq_C hx), c_kC (xq_C hx), c_kF (xq_C hx), c_now (xq_C hx), c1, c_oA (xq_C hx) a8, c_gA (xq_C hx) a8, c_kA (xq_C hx) a8, ef, c3']
      · unfold g_X10_project
        simp (disch := omega) only [zl_0, zl_1, zl_2, zl_3, zl_4, zl_5, zl_6, zl_7, zl_8, zl_9, zl_10, zl_11, zl_12, zl_13, zl_15, zl_17, zl_27, zl_37, zl_47, zl_63, zl_99999, zl_999999, zl_9999, zl_1000, zl_40, zl_64, zl_16, zl_1289, zl_1545, zl_1801, zl_2068, zl_1865, zl_1866, zl_1867, zl_1868, zl_1281, zl_999, i_bd, i_sb, i_jp, bI_z, not_true_eq_false, not_false_eq_true, if_true, if_false, and_self, and_true, true_and, and_false, false_and, zi_neg, zi_sub, zi_add, zi_mul, m_thr0 (mq_h hm), m_chk (mq_h hm0), mq_tr hm0, mq_as hm0, mq_q, mq_y hm0, mq_yr hm0, m_isIn2, m_of (mq_h hm0), m_at (mq_h hm0), m_told1 (mq_h hm0), m_sumAt, m_told (mq_h hm0), m_T (mq_h hm0), c1, mq_gone hm0 c1.1 c1.2, c3']
  · refine qp_mk (-999999) (F1 := F) (S1 := S) (S2 := S') (ho2 := ho) (ha2 := ha) (sm2 := sm) ?_ ?_
    · unfold g_X9_project
      simp (disch := omega) only [zl_0, zl_1, zl_2, zl_3, zl_4, zl_5, zl_6, zl_7, zl_8, zl_9, zl_10, zl_11, zl_12, zl_13, zl_15, zl_17, zl_27, zl_37, zl_47, zl_63, zl_99999, zl_999999, zl_9999, zl_1000, zl_40, zl_64, zl_16, zl_1289, zl_1545, zl_1801, zl_2068, zl_1865, zl_1866, zl_1867, zl_1868, zl_1281, zl_999, i_bd, i_sb, i_jp, bI_z, not_true_eq_false, not_false_eq_true, if_true, if_false, and_self, and_true, true_and, and_false, false_and, zi_neg, zi_sub, zi_add, zi_mul, xq_ko hx, xq_o4 hx, xq_tr hx, xq_as hx, xq_bg hx, xq_yr, x_isIn2, c_o1 (xq_C hx), c_o0 (xq_C hx), c_o5 (xq_C hx), c_kB (xq_C hx), c_kC (xq_C hx), c_kF (xq_C hx), c_now (xq_C hx), c1, xq_freeAsset hx]
    · unfold g_X10_project
      simp (disch := omega) only [zl_0, zl_1, zl_2, zl_3, zl_4, zl_5, zl_6, zl_7, zl_8, zl_9, zl_10, zl_11, zl_12, zl_13, zl_15, zl_17, zl_27, zl_37, zl_47, zl_63, zl_99999, zl_999999, zl_9999, zl_1000, zl_40, zl_64, zl_16, zl_1289, zl_1545, zl_1801, zl_2068, zl_1865, zl_1866, zl_1867, zl_1868, zl_1281, zl_999, i_bd, i_sb, i_jp, bI_z, not_true_eq_false, not_false_eq_true, if_true, if_false, and_self, and_true, true_and, and_false, false_and, zi_neg, zi_sub, zi_add, zi_mul, m_thr0 (mq_h hm), m_chk (mq_h hm0), mq_tr hm0, mq_as hm0, mq_q, mq_y hm0, mq_yr hm0, m_isIn2, m_of (mq_h hm0), m_at (mq_h hm0), m_told1 (mq_h hm0), m_sumAt, m_told (mq_h hm0), m_T (mq_h hm0), c1]
theorem Q_by (hx : XQr M c r R nt T tr sl bu as B U) (hm : MQr M' nt T tr sl bu as B U) (hn : 10 < n) {t : Int} {y : Int} {w : Int} {m : Int} {s : Int} (t1 : -2147483648 ≤ t) (t2 : t ≤ 2147483647) (y1 : -2147483648 ≤ y) (y2 : y ≤ 2147483647) (w1 : -2147483648 ≤ w) (w2 : w ≤ 2147483647) (m1 : -2147483648 ≤ m) (m2 : m ≤ 2147483647) (s1 : -2147483648 ≤ s) (s2 : s ≤ 2147483647) : QP (g_X9_by n (WX M c R F S) 0 (zi t) (zi y) (zi w) (zi m) (zi s)) (g_X10_by n (WC M' 0 B S' ho ha sm) 139 (zi t) (zi y) (zi w) (zi m) (zi s)) M (sI M' 139 2 0) c R B := by
  have hm0 := mq_thr0 (v := zi 0) hm
  have hnt := hm.2.1
  have h8 := mq_8 hm
  obtain ⟨n1, n2⟩ := mq_N hm
  have hy : 0 ≤ yearZ B ∧ yearZ B < 16 := by unfold yearZ; omega
  have hT := hm.2.2.1
  have htr := hm.2.2.2.1
  have hAN := AN2_r (mq_N hm) hm.2.2.2.2.2.1.2.2.2.2.2.2.1
  have t1r := hT.2.1
  have t2r := hT.2.2
  by_cases c1 : 0 ≤ t ∧ t < nt
  · by_cases c2 : 0 ≤ y ∧ y ≤ yearZ B
    · by_cases c3 : 0 ≤ w ∧ w ≤ 2
      · by_cases c4 : 0 ≤ m ∧ m ≤ 2
        · by_cases c5 : 10 ≤ s ∧ s ≤ 1000
          · obtain ⟨F2, S2, g2, f2, s2⟩ := c_ofYear (n := n) (F := F) (S := S) (t := t) (y := y) (xq_C hx) (xq_U hx) hx.2.1.2.2.1.2.1 (xq_R hx) (mq_BS hm) (by omega) c1.1 c1.2 hnt.2 c2.1 (by omega)
            have f3 := FOk_set (w' := w) (m' := m) (s' := s) f2
            have hso := sumsOk_y (t := t) (y := y) (mq_BS hm) c1.1 (by omega) c2.1 (by omega)
            have hh := (mq_BS hm).2 t c1.1 (by omega)
            have g3 := c_fraction (n := n) (R := R) (xq_C hx) f3 c3 c4 (by omega) (sumsOk_congr hso s2) (by omega)
            obtain ⟨S3, s3, gm⟩ := m_layYear (n := n) (B := B) (S := S') (ho := ho) (ha := ha) (sm := sm) (t := t) (y := y) (mq_h hm0) (by omega) (mq_BS hm) c1.1 (by omega) c2.1 (by omega)
            have gf := m_fractionBy (n := n) (B := B) (S := S3) (ho := B (1281 + 2 * t)) (ha := B (1282 + 2 * t)) (sm := sm) (m := m) (w := w) (s := s) (mq_h hm0) c4 c3 (by omega) (sumsOk_congr hso s3) (by omega)
            have ef : fracZ w s (ownZ m S2 (B (1281 + 2 * t))) (allZ m S2 (B (1282 + 2 * t))) = fracZ w s (ownZ m S3 (B (1281 + 2 * t))) (allZ m S3 (B (1282 + 2 * t))) := by unfold ownZ allZ; rw [s2 0 (by omega) (by omega), s2 1 (by omega) (by omega), s2 2 (by omega) (by omega), s2 3 (by omega) (by omega), s3 0 (by omega) (by omega), s3 1 (by omega) (by omega), s3 2 (by omega) (by omega), s3 3 (by omega) (by omega)]
            have q0 := hso 0 (by omega) (by omega)
            have q1 := hso 1 (by omega) (by omega)
            have q2 := hso 2 (by omega) (by omega)
            have q3 := hso 3 (by omega) (by omega)
            have hfr : 0 ≤ fracZ w s (ownZ m S3 (B (1281 + 2 * t))) (allZ m S3 (B (1282 + 2 * t))) ∧ fracZ w s (ownZ m S3 (B (1281 + 2 * t))) (allZ m S3 (B (1282 + 2 * t))) ≤ s := by
              refine fracZ_rng (by omega) ?_ ?_ c3
              · unfold ownZ; rw [s3 0 (by omega) (by omega), s3 2 (by omega) (by omega)]; split <;> (try split) <;> omega
              · unfold ownZ allZ; rw [s3 0 (by omega) (by omega), s3 1 (by omega) (by omega), s3 2 (by omega) (by omega), s3 3 (by omega) (by omega)]; split <;> (try split) <;> omega
            rw [ef] at g3
            generalize fracZ w s (ownZ m S3 (B (1281 + 2 * t))) (allZ m S3 (B (1282 + 2 * t))) = f at g3 gf hfr
            have g4 := c_backBy (n := n) (R := R) (xq_C hx) f3 c3 (by omega) ⟨by omega, by omega⟩ (sumsOk_congr hso s2) (f := f) (by omega)
            rw [backZ_congr s2] at g4
            have gb := m_backBy (n := n) (B := B) (S := S3) (ho := B (1281 + 2 * t)) (ha := B (1282 + 2 * t)) (sm := sm) (f := f) (w := w) (s := s) (lim := T 2) (mq_h hm0) (by omega) c3 (by omega) ⟨by omega, by omega⟩ (sumsOk_congr hso s3)
            rw [backZ_congr s3] at gb
            refine qp_mk (backZ w s (T 2) (ySum B t y) f) (F1 := up1 (up1 (up1 F2 3 (zi w)) 4 (zi m)) 5 (zi s)) (S1 := S2) (S2 := S3) (ho2 := B (1281 + 2 * t)) (ha2 := B (1282 + 2 * t)) (sm2 := smallI w s (T 2) S3 f) ?_ ?_
            · unfold g_X9_by
              simp (disch := omega) only [zl_0, zl_1, zl_2, zl_3, zl_4, zl_5, zl_6, zl_7, zl_8, zl_9, zl_10, zl_11, zl_12, zl_13, zl_15, zl_17, zl_27, zl_37, zl_47, zl_63, zl_99999, zl_999999, zl_9999, zl_1000, zl_40, zl_64, zl_16, zl_1289, zl_1545, zl_1801, zl_2068, zl_1865, zl_1866, zl_1867, zl_1868, zl_1281, zl_999, i_bd, i_sb, i_jp, bI_z, not_true_eq_false, not_false_eq_true, if_true, if_false, and_self, and_true, true_and, and_false, false_and, zi_neg, zi_sub, zi_add, zi_mul, xq_ko hx, xq_o4 hx, xq_tr hx, xq_as hx, xq_bg hx, xq_yr, x_isIn2, c_o1 (xq_C hx), c_o0 (xq_C hx), c_o5 (xq_C hx), c_kB (xq_C hx), c_kC (xq_C hx), c_kF (xq_C hx), c_now (xq_C hx), c1, c2, c3, c4, c5, g2, c_pF (xq_C hx), g3, g4]
            · unfold g_X10_by
              simp (disch := omega) only [zl_0, zl_1, zl_2, zl_3, zl_4, zl_5, zl_6, zl_7, zl_8, zl_9, zl_10, zl_11, zl_12, zl_13, zl_15, zl_17, zl_27, zl_37, zl_47, zl_63, zl_99999, zl_999999, zl_9999, zl_1000, zl_40, zl_64, zl_16, zl_1289, zl_1545, zl_1801, zl_2068, zl_1865, zl_1866, zl_1867, zl_1868, zl_1281, zl_999, i_bd, i_sb, i_jp, bI_z, not_true_eq_false, not_false_eq_true, if_true, if_false, and_self, and_true, true_and, and_false, false_and, zi_neg, zi_sub, zi_add, zi_mul, m_thr0 (mq_h hm), m_chk (mq_h hm0), mq_tr hm0, mq_as hm0, mq_q, mq_y hm0, mq_yr hm0, m_isIn2, m_of (mq_h hm0), m_at (mq_h hm0), m_told1 (mq_h hm0), m_sumAt, m_told (mq_h hm0), m_T (mq_h hm0), c1, c2, c3, c4, c5, gm, gf, gb]
          · refine qp_mk (-999999) (F1 := F) (S1 := S) (S2 := S') (ho2 := ho) (ha2 := ha) (sm2 := sm) ?_ ?_
            · unfold g_X9_by
              simp (disch := omega) only [zl_0, zl_1, zl_2, zl_3, zl_4, zl_5, zl_6, zl_7, zl_8, zl_9, zl_10, zl_11, zl_12, zl_13, zl_15, zl_17, zl_27, zl_37, zl_47, zl_63, zl_99999, zl_999999, zl_9999, zl_1000, zl_40, zl_64, zl_16, zl_1289, zl_1545, zl_1801, zl_2068, zl_1865, zl_1866, zl_1867, zl_1868, zl_1281, zl_999, i_bd, i_sb, i_jp, bI_z, not_true_eq_false, not_false_eq_true, if_true, if_false, and_self, and_true, true_and, and_false, false_and, zi_neg, zi_sub, zi_add, zi_mul, xq_ko hx, xq_o4 hx, xq_tr hx, xq_as hx, xq_bg hx, xq_yr, x_isIn2, c_o1 (xq_C hx), c_o0 (xq_C hx), c_o5 (xq_C hx), c_kB (xq_C hx), c_kC (xq_C hx), c_kF (xq_C hx), c_now (xq_C hx), c1, c2, c3, c4, c5]
            · unfold g_X10_by
              simp (disch := omega) only [zl_0, zl_1, zl_2, zl_3, zl_4, zl_5, zl_6, zl_7, zl_8, zl_9, zl_10, zl_11, zl_12, zl_13, zl_15, zl_17, zl_27, zl_37, zl_47, zl_63, zl_99999, zl_999999, zl_9999, zl_1000, zl_40, zl_64, zl_16, zl_1289, zl_1545, zl_1801, zl_2068, zl_1865, zl_1866, zl_1867, zl_1868, zl_1281, zl_999, i_bd, i_sb, i_jp, bI_z, not_true_eq_false, not_false_eq_true, if_true, if_false, and_self, and_true, true_and, and_false, false_and, zi_neg, zi_sub, zi_add, zi_mul, m_thr0 (mq_h hm), m_chk (mq_h hm0), mq_tr hm0, mq_as hm0, mq_q, mq_y hm0, mq_yr hm0, m_isIn2, m_of (mq_h hm0), m_at (mq_h hm0), m_told1 (mq_h hm0), m_sumAt, m_told (mq_h hm0), m_T (mq_h hm0), c1, c2, c3, c4, c5]
        · refine qp_mk (-999999) (F1 := F) (S1 := S) (S2 := S') (ho2 := ho) (ha2 := ha) (sm2 := sm) ?_ ?_
          · unfold g_X9_by
            simp (disch := omega) only [zl_0, zl_1, zl_2, zl_3, zl_4, zl_5, zl_6, zl_7, zl_8, zl_9, zl_10, zl_11, zl_12, zl_13, zl_15, zl_17, zl_27, zl_37, zl_47, zl_63, zl_99999, zl_999999, zl_9999, zl_1000, zl_40, zl_64, zl_16, zl_1289, zl_1545, zl_1801, zl_2068, zl_1865, zl_1866, zl_1867, zl_1868, zl_1281, zl_999, i_bd, i_sb, i_jp, bI_z, not_true_eq_false, not_false_eq_true, if_true, if_false, and_self, and_true, true_and, and_false, false_and, zi_neg, zi_sub, zi_add, zi_mul, xq_ko hx, xq_o4 hx, xq_tr hx, xq_as hx, xq_bg hx, xq_yr, x_isIn2, c_o1 (xq_C hx), c_o0 (xq_C hx), c_o5 (xq_C hx), c_kB (xq_C hx), c_kC (xq_C hx), c_kF (xq_C hx), c_now (xq_C hx), c1, c2, c3, c4]
          · unfold g_X10_by
            simp (disch := omega) only [zl_0, zl_1, zl_2, zl_3, zl_4, zl_5, zl_6, zl_7, zl_8, zl_9, zl_10, zl_11, zl_12, zl_13, zl_15, zl_17, zl_27, zl_37, zl_47, zl_63, zl_99999, zl_999999, zl_9999, zl_1000, zl_40, zl_64, zl_16, zl_1289, zl_1545, zl_1801, zl_2068, zl_1865, zl_1866, zl_1867, zl_1868, zl_1281, zl_999, i_bd, i_sb, i_jp, bI_z, not_true_eq_false, not_false_eq_true, if_true, if_false, and_self, and_true, true_and, and_false, false_and, zi_neg, zi_sub, zi_add, zi_mul, m_thr0 (mq_h hm), m_chk (mq_h hm0), mq_tr hm0, mq_as hm0, mq_q, mq_y hm0, mq_yr hm0, m_isIn2, m_of (mq_h hm0), m_at (mq_h hm0), m_told1 (mq_h hm0), m_sumAt, m_told (mq_h hm0), m_T (mq_h hm0), c1, c2, c3, c4]
      · refine qp_mk (-999999) (F1 := F) (S1 := S) (S2 := S') (ho2 := ho) (ha2 := ha) (sm2 := sm) ?_ ?_
        · unfold g_X9_by
          simp (disch := omega) only [zl_0, zl_1, zl_2, zl_3, zl_4, zl_5, zl_6, zl_7, zl_8, zl_9, zl_10, zl_11, zl_12, zl_13, zl_15, zl_17, zl_27, zl_37, zl_47, zl_63, zl_99999, zl_999999, zl_9999, zl_1000, zl_40, zl_64, zl_16, zl_1289, zl_1545, zl_1801, zl_2068, zl_1865, zl_1866, zl_1867, zl_1868, zl_1281, zl_999, i_bd, i_sb, i_jp, bI_z, not_true_eq_false, not_false_eq_true, if_true, if_false, and_self, and_true, true_and, and_false, false_and, zi_neg, zi_sub, zi_add, zi_mul, xq_ko hx, xq_o4 hx, xq_tr hx, xq_as hx, xq_bg hx, xq_yr, x_isIn2, c_o1 (xq_C hx), c_o0 (xq_C hx), c_o5 (xq_C hx), c_kB (xq_C hx), c_kC (xq_C hx), c_kF (xq_C hx), c_now (xq_C hx), c1, c2, c3]
        · unfold g_X10_by
          simp (disch := omega) only [zl_0, zl_1, zl_2, zl_3, zl_4, zl_5, zl_6, zl_7, zl_8, zl_9, zl_10, zl_11, zl_12, zl_13, zl_15, zl_17, zl_27, zl_37, zl_47, zl_63, zl_99999, zl_999999, zl_9999, zl_1000, zl_40, zl_64, zl_16, zl_1289, zl_1545, zl_1801, zl_2068, zl_1865, zl_1866, zl_1867, zl_1868, zl_1281, zl_999, i_bd, i_sb, i_jp, bI_z, not_true_eq_false, not_false_eq_true, if_true, if_false, and_self, and_true, true_and, and_false, false_and, zi_neg, zi_sub, zi_add, zi_mul, m_thr0 (mq_h hm), m_chk (mq_h hm0), mq_tr hm0, mq_as hm0, mq_q, mq_y hm0, mq_yr hm0, m_isIn2, m_of (mq_h hm0), m_at (mq_h hm0), m_told1 (mq_h hm0), m_sumAt, m_told (mq_h hm0), m_T (mq_h hm0), c1, c2, c3]
    · refine qp_mk (-999999) (F1 := F) (S1 := S) (S2 := S') (ho2 := ho) (ha2 := ha) (sm2 := sm) ?_ ?_
      · unfold g_X9_by
        simp (disch := omega) only [zl_0, zl_1, zl_2, zl_3, zl_4, zl_5, zl_6, zl_7, zl_8, zl_9, zl_10, zl_11, zl_12, zl_13, zl_15, zl_17, zl_27, zl_37, zl_47, zl_63, zl_99999, zl_999999, zl_9999, zl_1000, zl_40, zl_64, zl_16, zl_1289, zl_1545, zl_1801, zl_2068, zl_1865, zl_1866, zl_1867, zl_1868, zl_1281, zl_999, i_bd, i_sb, i_jp, bI_z, not_true_eq_false, not_false_eq_true, if_true, if_false, and_self, and_true, true_and, and_false, false_and, zi_neg, zi_sub, zi_add, zi_mul, xq_ko hx, xq_o4 hx, xq_tr hx, xq_as hx, xq_bg hx, xq_yr, x_isIn2, c_o1 (xq_C hx), c_o0 (xq_C hx), c_o5 (xq_C hx), c_kB (xq_C hx), c_kC (xq_C hx), c_kF (xq_C hx), c_now (xq_C hx), c1, c2]
      · unfold g_X10_by
        simp (disch := omega) only [zl_0, zl_1, zl_2, zl_3, zl_4, zl_5, zl_6, zl_7, zl_8, zl_9, zl_10, zl_11, zl_12, zl_13, zl_15, zl_17, zl_27, zl_37, zl_47, zl_63, zl_99999, zl_999999, zl_9999, zl_1000, zl_40, zl_64, zl_16, zl_1289, zl_1545, zl_1801, zl_2068, zl_1865, zl_1866, zl_1867, zl_1868, zl_1281, zl_999, i_bd, i_sb, i_jp, bI_z, not_true_eq_false, not_false_eq_true, if_true, if_false, and_self, and_true, true_and, and_false, false_and, zi_neg, zi_sub, zi_add, zi_mul, m_thr0 (mq_h hm), m_chk (mq_h hm0), mq_tr hm0, mq_as hm0, mq_q, mq_y hm0, mq_yr hm0, m_isIn2, m_of (mq_h hm0), m_at (mq_h hm0), m_told1 (mq_h hm0), m_sumAt, m_told (mq_h hm0), m_T (mq_h hm0), c1, c2]
  · refine qp_mk (-999999) (F1 := F) (S1 := S) (S2 := S') (ho2 := ho) (ha2 := ha) (sm2 := sm) ?_ ?_
    · unfold g_X9_by
      simp (disch := omega) only [zl_0, zl_1, zl_2, zl_3, zl_4, zl_5, zl_6, zl_7, zl_8, zl_9, zl_10, zl_11, zl_12, zl_13, zl_15, zl_17, zl_27, zl_37, zl_47, zl_63, zl_99999, zl_999999, zl_9999, zl_1000, zl_40, zl_64, zl_16, zl_1289, zl_1545, zl_1801, zl_2068, zl_1865, zl_1866, zl_1867, zl_1868, zl_1281, zl_999, i_bd, i_sb, i_jp, bI_z, not_true_eq_false, not_false_eq_true, if_true, if_false, and_self, and_true, true_and, and_false, false_and, zi_neg, zi_sub, zi_add, zi_mul, xq_ko hx, xq_o4 hx, xq_tr hx, xq_as hx, xq_bg hx, xq_yr, x_isIn2, c_o1 (xq_C hx), c_o0 (xq_C hx), c_o5 (xq_C hx), c_kB (xq_C hx), c_kC (xq_C hx), c_kF (xq_C hx), c_now (xq_C hx), c1]
    · unfold g_X10_by
      simp (disch := omega) only [zl_0, zl_1, zl_2, zl_3, zl_4, zl_5, zl_6, zl_7, zl_8, zl_9, zl_10, zl_11, zl_12, zl_13, zl_15, zl_17, zl_27, zl_37, zl_47, zl_63, zl_99999, zl_999999, zl_9999, zl_1000, zl_40, zl_64, zl_16, zl_1289, zl_1545, zl_1801, zl_2068, zl_1865, zl_1866, zl_1867, zl_1868, zl_1281, zl_999, i_bd, i_sb, i_jp, bI_z, not_true_eq_false, not_false_eq_true, if_true, if_false, and_self, and_true, true_and, and_false, false_and, zi_neg, zi_sub, zi_add, zi_mul, m_thr0 (mq_h hm), m_chk (mq_h hm0), mq_tr hm0, mq_as hm0, mq_q, mq_y hm0, mq_yr hm0, m_isIn2, m_of (mq_h hm0), m_at (mq_h hm0), m_told1 (mq_h hm0), m_sumAt, m_told (mq_h hm0), m_T (mq_h hm0), c1]
theorem Q_limitFor (hx : XQr M c r R nt T tr sl bu as B U) (hm : MQr M' nt T tr sl bu as B U) (hn : 10 < n) {t : Int} {y : Int} (t1 : -2147483648 ≤ t) (t2 : t ≤ 2147483647) (y1 : -2147483648 ≤ y) (y2 : y ≤ 2147483647) : QP (g_X9_limitFor n (WX M c R F S) 0 (zi t) (zi y)) (g_X10_limitFor n (WC M' 0 B S' ho ha sm) 139 (zi t) (zi y)) M (sI M' 139 2 0) c R B := by
  have hm0 := mq_thr0 (v := zi 0) hm
  have hnt := hm.2.1
  have h8 := mq_8 hm
  obtain ⟨n1, n2⟩ := mq_N hm
  have hy : 0 ≤ yearZ B ∧ yearZ B < 16 := by unfold yearZ; omega
  have hT := hm.2.2.1
  have htr := hm.2.2.2.1
  have hAN := AN2_r (mq_N hm) hm.2.2.2.2.2.1.2.2.2.2.2.2.1
  have t1r := hT.2.1
  have t2r := hT.2.2
  by_cases c1 : 0 ≤ t ∧ t < nt
  · by_cases c2 : 0 ≤ y ∧ y ≤ 15
    · by_cases c3 : y ≤ yearZ B
      · have c3' : 0 ≤ y ∧ y ≤ yearZ B := ⟨c2.1, c3⟩
        obtain ⟨F1, S1, g1⟩ := c_annual (n := n) (F := F) (S := S) (t := t) (y := y) hx.2.1 (by omega) c1.1 c1.2 c2.1 (by omega)
        have hr := annZ_r (tr := tr) hT (mq_BS hm) (mq_N hm) hAN c1.1 (show t < 4 by omega) c2.1 (show y < 16 by omega)
        have hso := sumsOk_y (t := t) (y := y) (mq_BS hm) c1.1 (by omega) c2.1 (by omega)
        obtain ⟨F2, S2, g2, f2, s2⟩ := c_ofYear (n := n) (F := F1) (S := S1) (t := t) (y := y) (xq_C hx) (xq_U hx) hx.2.1.2.2.1.2.1 (xq_R hx) (mq_BS hm) (by omega) c1.1 c1.2 hnt.2 c2.1 (by omega)
        have g3 := c_leastLimit (n := n) (R := R) (xq_C hx) f2 hT.1 (by omega) (sumsOk_congr hso s2) (f := annZ T tr B t y) (by omega)
        obtain ⟨S4, s4, gn⟩ := m_annualOf (n := n) (B := B) (S := S') (ho := ho) (ha := ha) (sm := sm) (t := t) (y := y) (mq_h hm0) hT htr (by omega) (mq_BS hm) (mq_N hm) c1.1 (by omega) c2.1 (by omega)
        have gb := m_back1 (n := n) (B := B) (S := S4) (ho := B (1281 + 2 * t)) (ha := B (1282 + 2 * t)) (sm := sm) (f := annZ T tr B t y) (lim := -1) (mq_h hm0) hT (by omega) ⟨by omega, by omega⟩ (sumsOk_congr hso s4)
        have hb1 := backZ_m1 (w := T 0) (s := T 1) (f := annZ T tr B t y) hT.1 (by omega) (sumsOk_congr hso s4) hr
        have eL : lefZ (T 0) (T 1) S2 (annZ T tr B t y) = lefZ (T 0) (T 1) S4 (annZ T tr B t y) := by unfold lefZ; rw [s2 3 (by omega) (by omega), s2 4 (by omega) (by omega), s4 3 (by omega) (by omega), s4 4 (by omega) (by omega)]
        have eW : wholeZ S2 = wholeZ S4 := by unfold wholeZ; rw [s2 2 (by omega) (by omega), s2 3 (by omega) (by omega), s2 4 (by omega) (by omega), s4 2 (by omega) (by omega), s4 3 (by omega) (by omega), s4 4 (by omega) (by omega)]
        have hUB := hm.2.2.2.2.2.1.2.2.1
        have hUU := hm.2.2.2.2.2.2
        have hw2 : ∀ w : Int, 0 ≤ w → w < 5 → 0 ≤ S4 w ∧ S4 w ≤ 400000000 := fun w w0 w1 => by
          rw [s4 w w0 w1]
          have b1 := hUB (1 + 320 * t + 5 * (4 * y) + w) (by omega) (by omega)
          have b2 := hUB (1 + 320 * t + 5 * (4 * y + 1) + w) (by omega) (by omega)
          have b3 := hUB (1 + 320 * t + 5 * (4 * y + 2) + w) (by omega) (by omega)
          have b4 := hUB (1 + 320 * t + 5 * (4 * y + 3) + w) (by omega) (by omega)
          have := hso w w0 w1
          unfold ySum at this ⊢
          omega
        have v2 := hw2 2 (by omega) (by omega)
        have v3 := hw2 3 (by omega) (by omega)
        have v4 := hw2 4 (by omega) (by omega)
        rw [eL, eW] at g3
        have r2 : ∀ sm, aJ (WC (sI M' 139 2 (zi 0)) 0 B S4 (B (1281 + 2 * t)) (B (1282 + 2 * t)) sm) 148 (zi 2) = some (zj (S4 2)) := fun sm => m_S (mq_h hm0) (by omega) (by omega)
        have r3 : ∀ sm, aJ (WC (sI M' 139 2 (zi 0)) 0 B S4 (B (1281 + 2 * t)) (B (1282 + 2 * t)) sm) 148 (zi 3) = some (zj (S4 3)) := fun sm => m_S (mq_h hm0) (by omega) (by omega)
        have r4 : ∀ sm, aJ (WC (sI M' 139 2 (zi 0)) 0 B S4 (B (1281 + 2 * t)) (B (1282 + 2 * t)) sm) 148 (zi 4) = some (zj (S4 4)) := fun sm => m_S (mq_h hm0) (by omega) (by omega)
        rw [hb1.1] at gb
        have hW : S4 2 + S4 3 + S4 4 = wholeZ S4 := rfl
        have e64 : (zi (wholeZ S4 - lefZ (T 0) (T 1) S4 (annZ T tr B t y))).toInt64 = zj (wholeZ S4 - lefZ (T 0) (T 1) S4 (annZ T tr B t y)) := zi_64 (by unfold wholeZ; omega) (by unfold wholeZ; omega)
        generalize hl : lefZ (T 0) (T 1) S4 (annZ T tr B t y) = l at *
        generalize hww : wholeZ S4 = W at *
        have y2 : (2 : Int64) = zj 2 := rfl
        have q2 : (zj W < zj (2 * l)) = (W < 2 * l) := zj_lt (by omega) (by omega) (by omega) (by omega)
        have el : W - (W - l) = l := by omega
        by_cases c4 : 2 * l ≤ W
        · rw [if_pos c4] at g3
          refine qp_mk (l) (F1 := F2) (S1 := S2) (S2 := S4) (ho2 := B (1281 + 2 * t)) (ha2 := B (1282 + 2 * t)) (sm2 := smallI (T 0) (T 1) (-1) S4 (annZ T tr B t y)) ?_ ?_
          · unfold g_X9_limitFor
            simp (disch := omega) only [zl_0, zl_1, zl_2, zl_3, zl_4, zl_5, zl_6, zl_7, zl_8, zl_9, zl_10, zl_11, zl_12, zl_13, zl_15, zl_17, zl_27, zl_37, zl_47, zl_63, zl_99999, zl_999999, zl_9999, zl_1000, zl_40, zl_64, zl_16, zl_1289, zl_1545, zl_1801, zl_2068, zl_1865, zl_1866, zl_1867, zl_1868, zl_1281, zl_999, i_bd, i_sb, i_jp, bI_z, not_true_eq_false, not_false_eq_true, if_true, if_false, and_self, and_true, true_and, and_false, false_and, zi_neg, zi_sub, zi_add, zi_mul, xq_ko hx, xq_o4 hx, xq_tr hx, xq_as hx, xq_bg hx, xq_yr, x_isIn2, c_o1 (xq_C hx), c_o0 (xq_C hx), c_o5 (xq_C hx), c_kB (xq_C hx), c_kC (xq_C hx), c_kF (xq_C hx), c_now (xq_C hx), c1, c2, c3', g1, g2, g3]
          · unfold g_X10_limitFor
            simp (disch := omega) only [zl_0, zl_1, zl_2, zl_3, zl_4, zl_5, zl_6, zl_7, zl_8, zl_9, zl_10, zl_11, zl_12, zl_13, zl_15, zl_17, zl_27, zl_37, zl_47, zl_63, zl_99999, zl_999999, zl_9999, zl_1000, zl_40, zl_64, zl_16, zl_1289, zl_1545, zl_1801, zl_2068, zl_1865, zl_1866, zl_1867, zl_1868, zl_1281, zl_999, i_bd, i_sb, i_jp, bI_z, not_true_eq_false, not_false_eq_true, if_true, if_false, and_self, and_true, true_and, and_false, false_and, zi_neg, zi_sub, zi_add, zi_mul, m_thr0 (mq_h hm), m_chk (mq_h hm0), mq_tr hm0, mq_as hm0, mq_q, mq_y hm0, mq_yr hm0, m_isIn2, m_of (mq_h hm0), m_at (mq_h hm0), m_told1 (mq_h hm0), m_sumAt, m_told (mq_h hm0), m_T (mq_h hm0), c1, c2, c_leT c3, gn, gb, m_sum (mq_h hm0), r2, r3, r4, e64, y2, zj_add, zj_sub, zj_mul, hW, lg_gz, q2, el, show ¬ (W < 2 * l) by omega, zj_32]
        · rw [if_neg c4] at g3
          refine qp_mk (-2) (F1 := F2) (S1 := S2) (S2 := S4) (ho2 := B (1281 + 2 * t)) (ha2 := B (1282 + 2 * t)) (sm2 := smallI (T 0) (T 1) (-1) S4 (annZ T tr B t y)) ?_ ?_
          · unfold g_X9_limitFor
            simp (disch := omega) only [zl_0, zl_1, zl_2, zl_3, zl_4, zl_5, zl_6, zl_7, zl_8, zl_9, zl_10, zl_11, zl_12, zl_13, zl_15, zl_17, zl_27, zl_37, zl_47, zl_63, zl_99999, zl_999999, zl_9999, zl_1000, zl_40, zl_64, zl_16, zl_1289, zl_1545, zl_1801, zl_2068, zl_1865, zl_1866, zl_1867, zl_1868, zl_1281, zl_999, i_bd, i_sb, i_jp, bI_z, not_true_eq_false, not_false_eq_true, if_true, if_false, and_self, and_true, true_and, and_false, false_and, zi_neg, zi_sub, zi_add, zi_mul, xq_ko hx, xq_o4 hx, xq_tr hx, xq_as hx, xq_bg hx, xq_yr, x_isIn2, c_o1 (xq_C hx), c_o0 (xq_C hx), c_o5 (xq_C hx), c_kB (xq_C hx), c_kC (xq_C hx), c_kF (xq_C hx), c_now (xq_C hx), c1, c2, c3', g1, g2, g3]
          · unfold g_X10_limitFor
            simp (disch := omega) only [zl_0, zl_1, zl_2, zl_3, zl_4, zl_5, zl_6, zl_7, zl_8, zl_9, zl_10, zl_11, zl_12, zl_13, zl_15, zl_17, zl_27, zl_37, zl_47, zl_63, zl_99999, zl_999999, zl_9999, zl_1000, zl_40, zl_64, zl_16, zl_1289, zl_1545, zl_1801, zl_2068, zl_1865, zl_1866, zl_1867, zl_1868, zl_1281, zl_999, i_bd, i_sb, i_jp, bI_z, not_true_eq_false, not_false_eq_true, if_true, if_false, and_self, and_true, true_and, and_false, false_and, zi_neg, zi_sub, zi_add, zi_mul, m_thr0 (mq_h hm), m_chk (mq_h hm0), mq_tr hm0, mq_as hm0, mq_q, mq_y hm0, mq_yr hm0, m_isIn2, m_of (mq_h hm0), m_at (mq_h hm0), m_told1 (mq_h hm0), m_sumAt, m_told (mq_h hm0), m_T (mq_h hm0), c1, c2, c_leT c3, gn, gb, m_sum (mq_h hm0), r2, r3, r4, e64, y2, zj_add, zj_sub, zj_mul, hW, lg_gz, q2, el, show W < 2 * l by omega, zj_32]
      · have c3' : ¬ (0 ≤ y ∧ y ≤ yearZ B) := fun q => c3 q.2
        refine qp_mk (-2) (F1 := F) (S1 := S) (S2 := S') (ho2 := ho) (ha2 := ha) (sm2 := sm) ?_ ?_
        · unfold g_X9_limitFor
          simp (disch := omega) only [zl_0, zl_1, zl_2, zl_3, zl_4, zl_5, zl_6, zl_7, zl_8, zl_9, zl_10, zl_11, zl_12, zl_13, zl_15, zl_17, zl_27, zl_37, zl_47, zl_63, zl_99999, zl_999999, zl_9999, zl_1000, zl_40, zl_64, zl_16, zl_1289, zl_1545, zl_1801, zl_2068, zl_1865, zl_1866, zl_1867, zl_1868, zl_1281, zl_999, i_bd, i_sb, i_jp, bI_z, not_true_eq_false, not_false_eq_true, if_true, if_false, and_self, and_true, true_and, and_false, false_and, zi_neg, zi_sub, zi_add, zi_mul, xq_ko hx, xq_o4 hx, xq_tr hx, xq_as hx, xq_bg hx, xq_yr, x_isIn2, c_o1 (xq_C hx), c_o0 (xq_C hx), c_o5 (xq_C hx), c_kB (xq_C hx), c_kC (xq_C hx), c_kF (xq_C hx), c_now (xq_C hx), c1, c2, c3]
        · unfold g_X10_limitFor
          simp (disch := omega) only [zl_0, zl_1, zl_2, zl_3, zl_4, zl_5, zl_6, zl_7, zl_8, zl_9, zl_10, zl_11, zl_12, zl_13, zl_15, zl_17, zl_27, zl_37, zl_47, zl_63, zl_99999, zl_999999, zl_9999, zl_1000, zl_40, zl_64, zl_16, zl_1289, zl_1545, zl_1801, zl_2068, zl_1865, zl_1866, zl_1867, zl_1868, zl_1281, zl_999, i_bd, i_sb, i_jp, bI_z, not_true_eq_false, not_false_eq_true, if_true, if_false, and_self, and_true, true_and, and_false, false_and, zi_neg, zi_sub, zi_add, zi_mul, m_thr0 (mq_h hm), m_chk (mq_h hm0), mq_tr hm0, mq_as hm0, mq_q, mq_y hm0, mq_yr hm0, m_isIn2, m_of (mq_h hm0), m_at (mq_h hm0), m_told1 (mq_h hm0), m_sumAt, m_told (mq_h hm0), m_T (mq_h hm0), c1, c2, c_leF (Int.not_le.mp c3)]
    · refine qp_mk (-1) (F1 := F) (S1 := S) (S2 := S') (ho2 := ho) (ha2 := ha) (sm2 := sm) ?_ ?_
      · unfold g_X9_limitFor
        simp (disch := omega) only [zl_0, zl_1, zl_2, zl_3, zl_4, zl_5, zl_6, zl_7, zl_8, zl_9, zl_10, zl_11, zl_12, zl_13, zl_15, zl_17, zl_27, zl_37, zl_47, zl_63, zl_99999, zl_999999, zl_9999, zl_1000, zl_40, zl_64, zl_16, zl_1289, zl_1545, zl_1801, zl_2068, zl_1865, zl_1866, zl_1867, zl_1868, zl_1281, zl_999, i_bd, i_sb, i_jp, bI_z, not_true_eq_false, not_false_eq_true, if_true, if_false, and_self, and_true, true_and, and_false, false_and, zi_neg, zi_sub, zi_add, zi_mul, xq_ko hx, xq_o4 hx, xq_tr hx, xq_as hx, xq_bg hx, xq_yr, x_isIn2, c_o1 (xq_C hx), c_o0 (xq_C hx), c_o5 (xq_C hx), c_kB (xq_C hx), c_kC (xq_C hx), c_kF (xq_C hx), c_now (xq_C hx), c1, c2]
      · unfold g_X10_limitFor
        simp (disch := omega) only [zl_0, zl_1, zl_2, zl_3, zl_4, zl_5, zl_6, zl_7, zl_8, zl_9, zl_10, zl_11, zl_12, zl_13, zl_15, zl_17, zl_27, zl_37, zl_47, zl_63, zl_99999, zl_999999, zl_9999, zl_1000, zl_40, zl_64, zl_16, zl_1289, zl_1545, zl_1801, zl_2068, zl_1865, zl_1866, zl_1867, zl_1868, zl_1281, zl_999, i_bd, i_sb, i_jp, bI_z, not_true_eq_false, not_false_eq_true, if_true, if_false, and_self, and_true, true_and, and_false, false_and, zi_neg, zi_sub, zi_add, zi_mul, m_thr0 (mq_h hm), m_chk (mq_h hm0), mq_tr hm0, mq_as hm0, mq_q, mq_y hm0, mq_yr hm0, m_isIn2, m_of (mq_h hm0), m_at (mq_h hm0), m_told1 (mq_h hm0), m_sumAt, m_told (mq_h hm0), m_T (mq_h hm0), c1, c2]
  · refine qp_mk (-1) (F1 := F) (S1 := S) (S2 := S') (ho2 := ho) (ha2 := ha) (sm2 := sm) ?_ ?_
    · unfold g_X9_limitFor
      simp (disch := omega) only [zl_0, zl_1, zl_2, zl_3, zl_4, zl_5, zl_6, zl_7, zl_8, zl_9, zl_10, zl_11, zl_12, zl_13, zl_15, zl_17, zl_27, zl_37, zl_47, zl_63, zl_99999, zl_999999, zl_9999, zl_1000, zl_40, zl_64, zl_16, zl_1289, zl_1545, zl_1801, zl_2068, zl_1865, zl_1866, zl_1867, zl_1868, zl_1281, zl_999, i_bd, i_sb, i_jp, bI_z, not_true_eq_false, not_false_eq_true, if_true, if_false, and_self, and_true, true_and, and_false, false_and, zi_neg, zi_sub, zi_add, zi_mul, xq_ko hx, xq_o4 hx, xq_tr hx, xq_as hx, xq_bg hx, xq_yr, x_isIn2, c_o1 (xq_C hx), c_o0 (xq_C hx), c_o5 (xq_C hx), c_kB (xq_C hx), c_kC (xq_C hx), c_kF (xq_C hx), c_now (xq_C hx), c1]
    · unfold g_X10_limitFor
      simp (disch := omega) only [zl_0, zl_1, zl_2, zl_3, zl_4, zl_5, zl_6, zl_7, zl_8, zl_9, zl_10, zl_11, zl_12, zl_13, zl_15, zl_17, zl_27, zl_37, zl_47, zl_63, zl_99999, zl_999999, zl_9999, zl_1000, zl_40, zl_64, zl_16, zl_1289, zl_1545, zl_1801, zl_2068, zl_1865, zl_1866, zl_1867, zl_1868, zl_1281, zl_999, i_bd, i_sb, i_jp, bI_z, not_true_eq_false, not_false_eq_true, if_true, if_false, and_self, and_true, true_and, and_false, false_and, zi_neg, zi_sub, zi_add, zi_mul, m_thr0 (mq_h hm), m_chk (mq_h hm0), mq_tr hm0, mq_as hm0, mq_q, mq_y hm0, mq_yr hm0, m_isIn2, m_of (mq_h hm0), m_at (mq_h hm0), m_told1 (mq_h hm0), m_sumAt, m_told (mq_h hm0), m_T (mq_h hm0), c1]
end Q4
