/-! ===== PURE 44: joint, owners, even, bestWait ===== -/
def fnd (p : Nat → Bool) : Nat → Nat → Option Nat
  | _, 0 => none
  | i, k + 1 => if p i then some i else fnd p (i + 1) k
/-- a loop that looks for the first place -/
theorem loop_find {σ T : Type} {step : σ → Option (σ ⊕ T)} (f : Nat → σ) (t : Nat → T) (e : T) (N : Nat) (p : Nat → Bool) (h1 : ∀ i, i < N → p i = false → step (f i) = some (.inl (f (i + 1)))) (h2 : ∀ i, i < N → p i = true → step (f i) = some (.inr (t i))) (h3 : step (f N) = some (.inr e)) : ∀ n, N < n → loopF step n (f 0) = some (match fnd p 0 N with | some i => t i | none => e) := by
  have key : ∀ d i, i + d = N → ∀ n, d < n → loopF step n (f i) = some (match fnd p i d with | some j => t j | none => e) := by
    intro d
    induction d with
    | zero =>
      intro i hi n hn
      obtain ⟨m, rfl⟩ : ∃ m, n = m + 1 := ⟨n - 1, by omega⟩
      have : i = N := by omega
      subst this
      simp [loopF, h3, fnd]
    | succ d ih =>
      intro i hi n hn
      obtain ⟨m, rfl⟩ : ∃ m, n = m + 1 := ⟨n - 1, by omega⟩
      cases hp : p i with
      | true => simp [loopF, h2 i (by omega) hp, fnd, hp]
      | false =>
        simp only [loopF, h1 i (by omega) hp, fnd, hp]
        exact ih (i + 1) (by omega) m (by omega)
  exact fun n hn => key N 0 (by omega) n hn
def pc4 (v : Int32) : Int32 := (((0 + ((v >>> ((0 : Int32) &&& 31)) &&& 1)) + ((v >>> ((1 : Int32) &&& 31)) &&& 1)) + ((v >>> ((2 : Int32) &&& 31)) &&& 1)) + ((v >>> ((3 : Int32) &&& 31)) &&& 1)
theorem pc_bits (n : Nat) (M : MemT) : ∀ k : Nat, k < 16 → g_J6_bitCount_0f7a4 n M (nI k) = some (pc4 (nI k), M) := by
  intro k hk
  unfold g_J6_bitCount_0f7a4
  refine congrArg (fun x => some (x, M)) ?_
  revert k
  decide +kernel
theorem or16 : ∀ k : Nat, k < 16 → ∀ o : Nat, o < 4 → (nI k ||| ((1 : Int32) <<< (nI o &&& 31))) = nI (k ||| (1 <<< o)) ∧ (k ||| (1 <<< o)) < 16 := by decide +kernel
theorem one16 : ∀ o : Nat, o < 4 → ((1 : Int32) <<< (nI o &&& 31)) = nI (1 <<< o) ∧ (1 <<< o) < 16 := by decide +kernel
def obZ (s : Int32) (B : Int → Int) (a : Int) : Nat → Int32
  | 0 => s
  | i + 1 => obZ s B a i ||| ((1 : Int32) <<< (zi (AtZ B a (37 + i)) &&& 31))
def obOk (v : Int32) : Prop := ∃ k : Nat, k < 16 ∧ v = nI k
def bwZ (val : Nat → Int) : Nat → Int × Int
  | 0 => (0, 0)
  | k + 1 => if k = 0 ∨ (bwZ val k).2 < val k then ((k : Int), val k) else bwZ val k
theorem bwZ_r {val : Nat → Int} {lo hi : Int} (h0 : lo ≤ 0 ∧ 0 ≤ hi) : ∀ k : Nat, (∀ j, j < k → lo ≤ val j ∧ val j ≤ hi) → (lo ≤ (bwZ val k).2 ∧ (bwZ val k).2 ≤ hi) := by
  intro k
  induction k with
  | zero => intro _; exact h0
  | succ k ih =>
    intro h
    have h1 := ih (fun j hj => h j (by omega))
    show lo ≤ (if k = 0 ∨ (bwZ val k).2 < val k then ((k : Int), val k) else bwZ val k).2 ∧ (if k = 0 ∨ (bwZ val k).2 < val k then ((k : Int), val k) else bwZ val k).2 ≤ hi
    split
    · exact h k (by omega)
    · exact h1
section Q5
variable {M M' : MemT} {c r : Nat} {R : Nat → Nat → Int32} {F : Nat → Int32} {S S' : Int → Int} {n : Nat} {T tr sl bu as B : Int → Int} {nt U ho ha : Int} {sm : Int32}
theorem Q_joint (hx : XQr M c r R nt T tr sl bu as B U) (hm : MQr M' nt T tr sl bu as B U) (hn : 10 < n) {t : Int} {u : Int} {y : Int} (t1 : -2147483648 ≤ t) (t2 : t ≤ 2147483647) (u1 : -2147483648 ≤ u) (u2 : u ≤ 2147483647) (y1 : -2147483648 ≤ y) (y2 : y ≤ 2147483647) : QP (g_X9_joint n (WX M c R F S) 0 (zi t) (zi u) (zi y)) (g_X10_joint n (WC M' 0 B S' ho ha sm) 139 (zi t) (zi u) (zi y)) M (sI M' 139 2 0) c R B := by
  have hm0 := mq_thr0 (v := zi 0) hm
  have hnt := hm.2.1
  have h8 := mq_8 hm
  obtain ⟨n1, n2⟩ := mq_N hm
  have hy : 0 ≤ yearZ B ∧ yearZ B < 16 := by unfold yearZ; omega
  have hT := hm.2.2.1
  have htr := hm.2.2.2.1
  have hAN := AN2_r (mq_N hm) hm.2.2.2.2.2.1.2.2.2.2.2.2.1
  have t1r := hT.2.1
  have t2r := hT.2.2
  by_cases c1 : 0 ≤ t ∧ t < nt
  · by_cases c2 : 0 ≤ u ∧ u < nt
    · by_cases c4 : 0 ≤ y ∧ y ≤ yearZ B
      · by_cases c3 : t = u
        · refine qp_mk (-999999) (F1 := F) (S1 := S) (S2 := S') (ho2 := ho) (ha2 := ha) (sm2 := sm) ?_ ?_
          · unfold g_X9_joint
            simp (disch := omega) only [zl_0, zl_1, zl_2, zl_3, zl_4, zl_5, zl_6, zl_7, zl_8, zl_9, zl_10, zl_11, zl_12, zl_13, zl_15, zl_17, zl_27, zl_37, zl_47, zl_63, zl_99999, zl_999999, zl_9999, zl_1000, zl_40, zl_64, zl_16, zl_1289, zl_1545, zl_1801, zl_2068, zl_1865, zl_1866, zl_1867, zl_1868, zl_1281, zl_999, i_bd, i_sb, i_jp, bI_z, not_true_eq_false, not_false_eq_true, if_true, if_false, and_self, and_true, true_and, and_false, false_and, zi_neg, zi_sub, zi_add, zi_mul, xq_ko hx, xq_o4 hx, xq_tr hx, xq_as hx, xq_bg hx, xq_yr, x_isIn2, c_o1 (xq_C hx), c_o0 (xq_C hx), c_o5 (xq_C hx), c_kB (xq_C hx), c_kC (xq_C hx), c_kF (xq_C hx), c_now (xq_C hx), c1, c2, c_eqT c3, c4]
          · unfold g_X10_joint
            simp (disch := omega) only [zl_0, zl_1, zl_2, zl_3, zl_4, zl_5, zl_6, zl_7, zl_8, zl_9, zl_10, zl_11, zl_12, zl_13, zl_15, zl_17, zl_27, zl_37, zl_47, zl_63, zl_99999, zl_999999, zl_9999, zl_1000, zl_40, zl_64, zl_16, zl_1289, zl_1545, zl_1801, zl_2068, zl_1865, zl_1866, zl_1867, zl_1868, zl_1281, zl_999, i_bd, i_sb, i_jp, bI_z, not_true_eq_false, not_false_eq_true, if_true, if_false, and_self, and_true, true_and, and_false, false_and, zi_neg, zi_sub, zi_add, zi_mul, m_thr0 (mq_h hm), m_chk (mq_h hm0), mq_tr hm0, mq_as hm0, mq_q, mq_y hm0, mq_yr hm0, m_isIn2, m_of (mq_h hm0), m_at (mq_h hm0), m_told1 (mq_h hm0), m_sumAt, m_told (mq_h hm0), m_T (mq_h hm0), c1, c2, c4, c_eqT c3]
        · obtain ⟨F2, S2, g2, f2, s2⟩ := c_ofYear (n := n) (F := F) (S := S) (t := t) (y := y) (xq_C hx) (xq_U hx) hx.2.1.2.2.1.2.1 (xq_R hx) (mq_BS hm) (by omega) c1.1 c1.2 hnt.2 c4.1 (by omega)
          obtain ⟨F3, S3, g3, f3, s3⟩ := c_joinYear (n := n) (F := F2) (S := S2) (t := u) (y := y) (xq_C hx) hx.2.1.2.2.1.2.1 (xq_R hx) (mq_BS hm) (by omega) f2 c2.1 c2.2 hnt.2 c4.1 (by omega)
          have hso1 := sumsOk_y (t := t) (y := y) (mq_BS hm) c1.1 (by omega) c4.1 (by omega)
          have hso2 := sumsOk_y (t := u) (y := y) (mq_BS hm) c2.1 (by omega) c4.1 (by omega)
          have hUB := hm.2.2.2.2.2.1.2.2.1
          have hUU := hm.2.2.2.2.2.2
          have hb : ∀ (t w : Int), 0 ≤ t → t < 4 → 0 ≤ w → w < 5 → ySum B t y w ≤ 400000000 := fun t w t0 t1 w0 w1 => by
            have b1 := hUB (1 + 320 * t + 5 * (4 * y) + w) (by omega) (by omega)
            have b2 := hUB (1 + 320 * t + 5 * (4 * y + 1) + w) (by omega) (by omega)
            have b3 := hUB (1 + 320 * t + 5 * (4 * y + 2) + w) (by omega) (by omega)
            have b4 := hUB (1 + 320 * t + 5 * (4 * y + 3) + w) (by omega) (by omega)
            unfold ySum
            omega
          have hsj : sumsOk (fun w => ySum B t y w + ySum B u y w) := fun w w0 w1 => by
            have := hso1 w w0 w1
            have := hso2 w w0 w1
            have := hb t w c1.1 (by omega) w0 w1
            have := hb u w c2.1 (by omega) w0 w1
            show 0 ≤ ySum B t y w + ySum B u y w ∧ ySum B t y w + ySum B u y w ≤ _
            omega
          have sx : ∀ w : Int, 0 ≤ w → w < 5 → S3 w = (fun w => ySum B t y w + ySum B u y w) w := fun w w0 w1 => by rw [s3 w w0 w1, s2 w w0 w1]
          have hh1 := (mq_BS hm).2 t c1.1 (by omega)
          have hh2 := (mq_BS hm).2 u c2.1 (by omega)
          have ht := htr t c1.1 (by omega)
          have g4 := c_fraction (n := n) (R := R) (xq_C hx) f3 hT.1 ht.1 (by omega) (sumsOk_congr hsj sx) (by omega)
          have ef : fracZ (T 0) (T 1) (ownZ (tr (8 * t + 1)) S3 (B (1281 + 2 * t) + B (1281 + 2 * u))) (allZ (tr (8 * t + 1)) S3 (B (1282 + 2 * t) + B (1282 + 2 * u))) = frZ T tr t (fun w => ySum B t y w + ySum B u y w) (B (1281 + 2 * t) + B (1281 + 2 * u)) (B (1282 + 2 * t) + B (1282 + 2 * u)) := frZ_congr sx
          rw [ef] at g4
          have hfr := frZ_rng (tr := tr) (t := t) (ho := B (1281 + 2 * t) + B (1281 + 2 * u)) (ha := B (1282 + 2 * t) + B (1282 + 2 * u)) hT hsj (by omega) (by omega)
          obtain ⟨S5, s5, gm⟩ := m_layYear (n := n) (B := B) (S := S') (ho := ho) (ha := ha) (sm := sm) (t := t) (y := y) (mq_h hm0) (by omega) (mq_BS hm) c1.1 (by omega) c4.1 (by omega)
          obtain ⟨S6, s6, gl⟩ := m_add4 (n := n) (B := B) (S := S5) (ho := B (1281 + 2 * t)) (ha := B (1282 + 2 * t)) (sm := sm) (t := u) (y := y) (mq_h hm0) (by omega) (mq_BS hm) c2.1 (by omega) c4.1 (by omega)
          have sy : ∀ w : Int, 0 ≤ w → w < 5 → S6 w = (fun w => ySum B t y w + ySum B u y w) w := fun w w0 w1 => by rw [s6 w w0 w1, s5 w w0 w1]
          have gh := m_addHeads (n := n) (B := B) (S := S6) (ho := B (1281 + 2 * t)) (ha := B (1282 + 2 * t)) (sm := sm) (t := u) (mq_h hm0) c2.1 (by omega) ⟨⟨by omega, by omega⟩, by omega, by omega⟩
          have gf := m_fraction (n := n) (B := B) (S := S6) (ho := B (1281 + 2 * t) + B (1281 + 2 * u)) (ha := B (1282 + 2 * t) + B (1282 + 2 * u)) (sm := sm) (t := t) (mq_h hm0) hT htr c1.1 (by omega) (sumsOk_congr hsj sy) (by omega)
          rw [frZ_congr sy] at gf
          generalize frZ T tr t (fun w => ySum B t y w + ySum B u y w) (B (1281 + 2 * t) + B (1281 + 2 * u)) (B (1282 + 2 * t) + B (1282 + 2 * u)) = f at g4 gf hfr
          have g5 := c_backBy (n := n) (R := R) (xq_C hx) f3 hT.1 (by omega) ⟨by omega, by omega⟩ (sumsOk_congr hsj sx) (f := f) (by omega)
          rw [backZ_congr sx] at g5
          have gb := m_back1 (n := n) (B := B) (S := S6) (ho := B (1281 + 2 * t) + B (1281 + 2 * u)) (ha := B (1282 + 2 * t) + B (1282 + 2 * u)) (sm := sm) (f := f) (lim := T 2) (mq_h hm0) hT (by omega) ⟨by omega, by omega⟩ (sumsOk_congr hsj sy)
          rw [backZ_congr sy] at gb
          have hmz := mq_thr0 (v := (0 : Int32)) hm
          have z1 : bI2 ((0 ≤ t ∧ t < nt) ∧ 0 ≤ y ∧ y ≤ yearZ B) ≠ (0 : Int32) := fun q => ((bI_0 _).mp q) ⟨c1, c4⟩
          have z2 : bI2 (0 ≤ u ∧ u < nt) ≠ (0 : Int32) := fun q => ((bI_0 _).mp q) c2
          have z3 : ¬ (zi t = zi u) := by rw [zi_eq t1 t2 u1 u2]; exact c3
          have e2' : aI (WC (sI M' 139 2 0) 0 B S6 (B (1281 + 2 * t) + B (1281 + 2 * u)) (B (1282 + 2 * t) + B (1282 + 2 * u)) sm) 10 146 2 = some (zi (T 2)) := m_T (mq_h hmz) (w := 2) (by omega) (by omega)
          refine qp_mk (backZ (T 0) (T 1) (T 2) (fun w => ySum B t y w + ySum B u y w) f) (F1 := F3) (S1 := S3) (S2 := S6) (ho2 := B (1281 + 2 * t) + B (1281 + 2 * u)) (ha2 := B (1282 + 2 * t) + B (1282 + 2 * u)) (sm2 := smallI (T 0) (T 1) (T 2) S6 f) ?_ ?_
          · unfold g_X9_joint
            simp (disch := omega) only [zl_0, zl_1, zl_2, zl_3, zl_4, zl_5, zl_6, zl_7, zl_8, zl_9, zl_10, zl_11, zl_12, zl_13, zl_15, zl_17, zl_27, zl_37, zl_47, zl_63, zl_99999, zl_999999, zl_9999, zl_1000, zl_40, zl_64, zl_16, zl_1289, zl_1545, zl_1801, zl_2068, zl_1865, zl_1866, zl_1867, zl_1868, zl_1281, zl_999, i_bd, i_sb, i_jp, bI_z, not_true_eq_false, not_false_eq_true, if_true, if_false, and_self, and_true, true_and, and_false, false_and, zi_neg, zi_sub, zi_add, zi_mul, xq_ko hx, xq_o4 hx, xq_tr hx, xq_as hx, xq_bg hx, xq_yr, x_isIn2, c_o1 (xq_C hx), c_o0 (xq_C hx), c_o5 (xq_C hx), c_kB (xq_C hx), c_kC (xq_C hx), c_kF (xq_C hx), c_now (xq_C hx), c1, c2, c_eqF c3, c4, g2, g3, g4, g5]
          · unfold g_X10_joint
            rw [m_thr0 (mq_h hm), i_sb, m_chk (mq_h hmz), mq_yr hmz t1 t2 y1 y2, i_bd, if_neg z1, m_chk (mq_h hmz), mq_tr hmz u1 u2, i_bd, if_neg z2, if_neg z3, m_chk (mq_h hmz)]
            have gm' : g_X10_layYear n (WC (sI M' 139 2 0) 0 B S' ho ha sm) 139 (zi t) (zi y) = some ((), WC (sI M' 139 2 0) 0 B S5 (B (1281 + 2 * t)) (B (1282 + 2 * t)) sm) := gm
            rw [gm', i_bd]
            dsimp only
            dsimp only at gl
            have gl' := gl
            rw [show (zi 0 : Int32) = 0 from rfl] at gl' gh gf gb
            rw [gl', i_sb]
            dsimp only
            rw [m_chk (mq_h hmz), gh, i_bd, m_chk (mq_h hmz), gf, i_bd, m_told (mq_h hmz), i_sb, e2', i_sb, m_chk (mq_h hmz), gb, i_bd]
      · refine qp_mk (-999999) (F1 := F) (S1 := S) (S2 := S') (ho2 := ho) (ha2 := ha) (sm2 := sm) ?_ ?_
        · unfold g_X9_joint
          simp (disch := omega) only [zl_0, zl_1, zl_2, zl_3, zl_4, zl_5, zl_6, zl_7, zl_8, zl_9, zl_10, zl_11, zl_12, zl_13, zl_15, zl_17, zl_27, zl_37, zl_47, zl_63, zl_99999, zl_999999, zl_9999, zl_1000, zl_40, zl_64, zl_16, zl_1289, zl_1545, zl_1801, zl_2068, zl_1865, zl_1866, zl_1867, zl_1868, zl_1281, zl_999, i_bd, i_sb, i_jp, bI_z, not_true_eq_false, not_false_eq_true, if_true, if_false, and_self, and_true, true_and, and_false, false_and, zi_neg, zi_sub, zi_add, zi_mul, xq_ko hx, xq_o4 hx, xq_tr hx, xq_as hx, xq_bg hx, xq_yr, x_isIn2, c_o1 (xq_C hx), c_o0 (xq_C hx), c_o5 (xq_C hx), c_kB (xq_C hx), c_kC (xq_C hx), c_kF (xq_C hx), c_now (xq_C hx), c1, c2, c4, ite_self]
        · unfold g_X10_joint
          simp (disch := omega) only [zl_0, zl_1, zl_2, zl_3, zl_4, zl_5, zl_6, zl_7, zl_8, zl_9, zl_10, zl_11, zl_12, zl_13, zl_15, zl_17, zl_27, zl_37, zl_47, zl_63, zl_99999, zl_999999, zl_9999, zl_1000, zl_40, zl_64, zl_16, zl_1289, zl_1545, zl_1801, zl_2068, zl_1865, zl_1866, zl_1867, zl_1868, zl_1281, zl_999, i_bd, i_sb, i_jp, bI_z, not_true_eq_false, not_false_eq_true, if_true, if_false, and_self, and_true, true_and, and_false, false_and, zi_neg, zi_sub, zi_add, zi_mul, m_thr0 (mq_h hm), m_chk (mq_h hm0), mq_tr hm0, mq_as hm0, mq_q, mq_y hm0, mq_yr hm0, m_isIn2, m_of (mq_h hm0), m_at (mq_h hm0), m_told1 (mq_h hm0), m_sumAt, m_told (mq_h hm0), m_T (mq_h hm0), c1, c2, c4]
    · by_cases c4 : 0 ≤ y ∧ y ≤ yearZ B
      · refine qp_mk (-999999) (F1 := F) (S1 := S) (S2 := S') (ho2 := ho) (ha2 := ha) (sm2 := sm) ?_ ?_
        · unfold g_X9_joint
          simp (disch := omega) only [zl_0, zl_1, zl_2, zl_3, zl_4, zl_5, zl_6, zl_7, zl_8, zl_9, zl_10, zl_11, zl_12, zl_13, zl_15, zl_17, zl_27, zl_37, zl_47, zl_63, zl_99999, zl_999999, zl_9999, zl_1000, zl_40, zl_64, zl_16, zl_1289, zl_1545, zl_1801, zl_2068, zl_1865, zl_1866, zl_1867, zl_1868, zl_1281, zl_999, i_bd, i_sb, i_jp, bI_z, not_true_eq_false, not_false_eq_true, if_true, if_false, and_self, and_true, true_and, and_false, false_and, zi_neg, zi_sub, zi_add, zi_mul, xq_ko hx, xq_o4 hx, xq_tr hx, xq_as hx, xq_bg hx, xq_yr, x_isIn2, c_o1 (xq_C hx), c_o0 (xq_C hx), c_o5 (xq_C hx), c_kB (xq_C hx), c_kC (xq_C hx), c_kF (xq_C hx), c_now (xq_C hx), c1, c2]
        · unfold g_X10_joint
          simp (disch := omega) only [zl_0, zl_1, zl_2, zl_3, zl_4, zl_5, zl_6, zl_7, zl_8, zl_9, zl_10, zl_11, zl_12, zl_13, zl_15, zl_17, zl_27, zl_37, zl_47, zl_63, zl_99999, zl_999999, zl_9999, zl_1000, zl_40, zl_64, zl_16, zl_1289, zl_1545, zl_1801, zl_2068, zl_1865, zl_1866, zl_1867, zl_1868, zl_1281, zl_999, i_bd, i_sb, i_jp, bI_z, not_true_eq_false, not_false_eq_true, if_true, if_false, and_self, and_true, true_and, and_false, false_and, zi_neg, zi_sub, zi_add, zi_mul, m_thr0 (mq_h hm), m_chk (mq_h hm0), mq_tr hm0, mq_as hm0, mq_q, mq_y hm0, mq_yr hm0, m_isIn2, m_of (mq_h hm0), m_at (mq_h hm0), m_told1 (mq_h hm0), m_sumAt, m_told (mq_h hm0), m_T (mq_h hm0), c1, c2, c4]
      · refine qp_mk (-999999) (F1 := F) (S1 := S) (S2 := S') (ho2 := ho) (ha2 := ha) (sm2 := sm) ?_ ?_
        · unfold g_X9_joint
          simp (disch := omega) only [zl_0, zl_1, zl_2, zl_3, zl_4, zl_5, zl_6, zl_7, zl_8, zl_9, zl_10, zl_11, zl_12, zl_13, zl_15, zl_17, zl_27, zl_37, zl_47, zl_63, zl_99999, zl_999999, zl_9999, zl_1000, zl_40, zl_64, zl_16, zl_1289, zl_1545, zl_1801, zl_2068, zl_1865, zl_1866, zl_1867, zl_1868, zl_1281, zl_999, i_bd, i_sb, i_jp, bI_z, not_true_eq_false, not_false_eq_true, if_true, if_false, and_self, and_true, true_and, and_false, false_and, zi_neg, zi_sub, zi_add, zi_mul, xq_ko hx, xq_o4 hx, xq_tr hx, xq_as hx, xq_bg hx, xq_yr, x_isIn2, c_o1 (xq_C hx), c_o0 (xq_C hx), c_o5 (xq_C hx), c_kB (xq_C hx), c_kC (xq_C hx), c_kF (xq_C hx), c_now (xq_C hx), c1, c2]
        · unfold g_X10_joint
          simp (disch := omega) only [zl_0, zl_1, zl_2, zl_3, zl_4, zl_5, zl_6, zl_7, zl_8, zl_9, zl_10, zl_11, zl_12, zl_13, zl_15, zl_17, zl_27, zl_37, zl_47, zl_63, zl_99999, zl_999999, zl_9999, zl_1000, zl_40, zl_64, zl_16, zl_1289, zl_1545, zl_1801, zl_2068, zl_1865, zl_1866, zl_1867, zl_1868, zl_1281, zl_999, i_bd, i_sb, i_jp, bI_z, not_true_eq_false, not_false_eq_true, if_true, if_false, and_self, and_true, true_and, and_false, false_and, zi_neg, zi_sub, zi_add, zi_mul, m_thr0 (mq_h hm), m_chk (mq_h hm0), mq_tr hm0, mq_as hm0, mq_q, mq_y hm0, mq_yr hm0, m_isIn2, m_of (mq_h hm0), m_at (mq_h hm0), m_told1 (mq_h hm0), m_sumAt, m_told (mq_h hm0), m_T (mq_h hm0), c1, c2, c4]
  · refine qp_mk (-999999) (F1 := F) (S1 := S) (S2 := S') (ho2 := ho) (ha2 := ha) (sm2 := sm) ?_ ?_
    · unfold g_X9_joint
      simp (disch := omega) only [zl_0, zl_1, zl_2, zl_3, zl_4, zl_5, zl_6, zl_7, zl_8, zl_9, zl_10, zl_11, zl_12, zl_13, zl_15, zl_17, zl_27, zl_37, zl_47, zl_63, zl_99999, zl_999999, zl_9999, zl_1000, zl_40, zl_64, zl_16, zl_1289, zl_1545, zl_1801, zl_2068, zl_1865, zl_1866, zl_1867, zl_1868, zl_1281, zl_999, i_bd, i_sb, i_jp, bI_z, not_true_eq_false, not_false_eq_true, if_true, if_false, and_self, and_true, true_and, and_false, false_and, zi_neg, zi_sub, zi_add, zi_mul, xq_ko hx, xq_o4 hx, xq_tr hx, xq_as hx, xq_bg hx, xq_yr, x_isIn2, c_o1 (xq_C hx), c_o0 (xq_C hx), c_o5 (xq_C hx), c_kB (xq_C hx), c_kC (xq_C hx), c_kF (xq_C hx), c_now (xq_C hx), c1]
    · unfold g_X10_joint
      simp (disch := omega) only [zl_0, zl_1, zl_2, zl_3, zl_4, zl_5, zl_6, zl_7, zl_8, zl_9, zl_10, zl_11, zl_12, zl_13, zl_15, zl_17, zl_27, zl_37, zl_47, zl_63, zl_99999, zl_999999, zl_9999, zl_1000, zl_40, zl_64, zl_16, zl_1289, zl_1545, zl_1801, zl_2068, zl_1865, zl_1866, zl_1867, zl_1868, zl_1281, zl_999, i_bd, i_sb, i_jp, bI_z, not_true_eq_false, not_false_eq_true, if_true, if_false, and_self, and_true, true_and, and_false, false_and, zi_neg, zi_sub, zi_add, zi_mul, m_thr0 (mq_h hm), m_chk (mq_h hm0), mq_tr hm0, mq_as hm0, mq_q, mq_y hm0, mq_yr hm0, m_isIn2, m_of (mq_h hm0), m_at (mq_h hm0), m_told1 (mq_h hm0), m_sumAt, m_told (mq_h hm0), m_T (mq_h hm0), c1]
end Q5
