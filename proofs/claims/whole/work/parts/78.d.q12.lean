/-! ===== PURE 51: room ===== -/
def skZ (S : Int → Int) (k : Int) (i : Nat) : Int → Int := fun w => if w = 2 + k then S w + i else S w
theorem skZ_0 {S : Int → Int} {k : Int} : skZ S k 0 = S := by
  funext w
  unfold skZ
  split
  · show S w + 0 = S w; omega
  · rfl
theorem skZ_up {S : Int → Int} {k : Int} {i : Nat} : upZ (skZ S k i) (2 + k) (skZ S k i (2 + k) + 1) = skZ S k (i + 1) := by
  funext w
  unfold upZ skZ
  by_cases c : w = 2 + k
  · rw [if_pos c, if_pos rfl, if_pos c, c]
    omega
  · rw [if_neg c, if_neg c, if_neg c]
theorem skZ_congr {S S1 : Int → Int} {k : Int} {i : Nat} (h : ∀ w : Int, 0 ≤ w → w < 5 → S1 w = S w) : ∀ w : Int, 0 ≤ w → w < 5 → skZ S1 k i w = skZ S k i w := fun w w0 w1 => by
  unfold skZ
  rw [h w w0 w1]
section Q12
variable {M M' : MemT} {c r : Nat} {R : Nat → Nat → Int32} {F : Nat → Int32} {S S' : Int → Int} {n : Nat} {T tr sl bu as B : Int → Int} {nt U ho ha : Int} {sm : Int32}
def rmP (T tr B : Int → Int) (t k : Int) (i : Nat) : Bool := decide (smallI (T 0) (T 1) (T 2) (skZ (ySum B t (yearZ B)) k (i + 1)) (frZ T tr t (skZ (ySum B t (yearZ B)) k (i + 1)) (B (1281 + 2 * t)) (B (1282 + 2 * t))) = zi 0)
theorem sk_ok (hm : MQr M' nt T tr sl bu as B U) {t k : Int} (t0 : 0 ≤ t) (t1 : t < nt) (hk : 0 ≤ k ∧ k ≤ 2) {i : Nat} (hi : i ≤ 10000) : sumsOk (skZ (ySum B t (yearZ B)) k i) := by
  obtain ⟨hO, hnt, hT, htr, hRows, hBI, hU⟩ := id hm
  obtain ⟨n1, n2⟩ := mq_N hm
  have hy : 0 ≤ yearZ B ∧ yearZ B < 16 := by unfold yearZ; omega
  have hso := sumsOk_y (t := t) (y := yearZ B) hBI.1 t0 (by omega) hy.1 hy.2
  intro w w0 w1
  have h1 := hso w w0 w1
  have hUB := hBI.2.2.1
  have b1 := hUB (1 + 320 * t + 5 * (4 * yearZ B) + w) (by omega) (by omega)
  have b2 := hUB (1 + 320 * t + 5 * (4 * yearZ B + 1) + w) (by omega) (by omega)
  have b3 := hUB (1 + 320 * t + 5 * (4 * yearZ B + 2) + w) (by omega) (by omega)
  have b4 := hUB (1 + 320 * t + 5 * (4 * yearZ B + 3) + w) (by omega) (by omega)
  unfold skZ
  split
  · unfold ySum at h1 ⊢
    omega
  · exact h1
theorem xq_room (hx : XQr M c r R nt T tr sl bu as B U) (hm : MQr M' nt T tr sl bu as B U) (hn : 20000 < n) {t k : Int} (t0 : 0 ≤ t) (t1 : t < nt) (hk : 0 ≤ k ∧ k ≤ 2) (hF : FOk F (T 0) (tr (8 * t + 1)) (T 1) (T 2) (B (1281 + 2 * t)) (B (1282 + 2 * t))) (hS : ∀ w : Int, 0 ≤ w → w < 5 → S w = ySum B t (yearZ B) w) : loopF (fun (s : MemT × Int32) => (fun (M15 : MemT) (v16 : Int32) => (if 9999 < v16 then some (.inr ((9999, M15))) else (gO M15 5 (c + 60) 0).bind (fun j18 => (aJ M15 j18 (2 + (zi k))).bind (fun v19 => (wJ M15 j18 (2 + (zi k)) (v19 + 1)).bind (fun M20 => chk M20 5 (c + 60) (bd (g_X6_fraction n M20 (c + 60)) (fun r21 M22 => chk M22 5 (c + 60) (bd (g_X6_isSmall n M22 (c + 60) r21) (fun r23 M24 => (if r23 = 0 then some (.inr ((v16 - 1, M24))) else some (.inl (M24, v16 + 1)))))))))))) s.1 s.2) n (WX M c R F S, 1) = some (match fnd (rmP T tr B t k) 0 9999 with | some i => (zi (i : Int), WX M c R F (skZ S k (i + 1))) | none => (zi 9999, WX M c R F (skZ S k 9999))) := by
  have hnt := hm.2.1
  have hT := hm.2.2.1
  have htr := hm.2.2.2.1
  have t1r := hT.2.1
  have t2r := hT.2.2
  have hh := (mq_BS hm).2 t t0 (by omega)
  have e2k : (2 : Int32) + zi k = zi (2 + k) := zi_add 2 k
  have step : ∀ i : Nat, i < 9999 → g_X6_fraction n (WX M c R F (skZ S k (i + 1))) (c + 60) = some (zi (frZ T tr t (skZ (ySum B t (yearZ B)) k (i + 1)) (B (1281 + 2 * t)) (B (1282 + 2 * t))), WX M c R F (skZ S k (i + 1))) ∧ g_X6_isSmall n (WX M c R F (skZ S k (i + 1))) (c + 60) (zi (frZ T tr t (skZ (ySum B t (yearZ B)) k (i + 1)) (B (1281 + 2 * t)) (B (1282 + 2 * t)))) = some (smallI (T 0) (T 1) (T 2) (skZ (ySum B t (yearZ B)) k (i + 1)) (frZ T tr t (skZ (ySum B t (yearZ B)) k (i + 1)) (B (1281 + 2 * t)) (B (1282 + 2 * t))), WX M c R F (skZ S k (i + 1))) := fun i hi => by
    have hso := sk_ok hm t0 t1 hk (i := i + 1) (by omega)
    have hc := skZ_congr (k := k) (i := i + 1) hS
    have hfr := frZ_rng (tr := tr) (t := t) hT hso hh.1 hh.2.1
    have g3 := c_fraction (n := n) (R := R) (xq_C hx) hF hT.1 (htr t t0 (by omega)).1 (by omega) (sumsOk_congr hso hc) (by omega)
    have ef : fracZ (T 0) (T 1) (ownZ (tr (8 * t + 1)) (skZ S k (i + 1)) (B (1281 + 2 * t))) (allZ (tr (8 * t + 1)) (skZ S k (i + 1)) (B (1282 + 2 * t))) = frZ T tr t (skZ (ySum B t (yearZ B)) k (i + 1)) (B (1281 + 2 * t)) (B (1282 + 2 * t)) := frZ_congr hc
    rw [ef] at g3
    have g4 := c_isSmall (n := n) (R := R) (xq_C hx) hF hT.1 (by omega) ⟨by omega, by omega⟩ (sumsOk_congr hso hc) (f := frZ T tr t (skZ (ySum B t (yearZ B)) k (i + 1)) (B (1281 + 2 * t)) (B (1282 + 2 * t))) (by omega)
    rw [smallI_congr hc] at g4
    exact ⟨g3, g4⟩
  have wS : ∀ i : Nat, wJ (WX M c R F (skZ S k i)) (c + 61) (zi (2 + k)) (zj (skZ S k i (2 + k)) + 1) = some (WX M c R F (skZ S k (i + 1))) := fun i => by
    have : zj (skZ S k i (2 + k)) + 1 = zj (skZ S k i (2 + k) + 1) := zj_add _ 1
    rw [this, c_wS (xq_C hx) (by omega) (by omega), skZ_up]
  rw [show (WX M c R F S, (1 : Int32)) = (fun i : Nat => (WX M c R F (skZ S k i), zi (1 + (i : Int)))) 0 by
    show _ = (WX M c R F (skZ S k 0), zi (1 + ((0 : Nat) : Int)))
    rw [skZ_0]; rfl]
  refine loop_find (fun i : Nat => (WX M c R F (skZ S k i), zi (1 + (i : Int)))) (fun i => (zi (i : Int), WX M c R F (skZ S k (i + 1)))) (zi 9999, WX M c R F (skZ S k 9999)) 9999 (rmP T tr B t k) (fun i hi hp => ?_) (fun i hi hp => ?_) ?_ n (by omega)
  · unfold rmP at hp
    have hp' : ¬ (smallI (T 0) (T 1) (T 2) (skZ (ySum B t (yearZ B)) k (i + 1)) (frZ T tr t (skZ (ySum B t (yearZ B)) k (i + 1)) (B (1281 + 2 * t)) (B (1282 + 2 * t))) = (0 : Int32)) := of_decide_eq_false hp
    obtain ⟨g3, g4⟩ := step i hi
    dsimp only
    rw [if_neg (by show ¬ (zi 9999 < zi _); rw [zi_lt (by omega) (by omega) (by omega) (by omega)]; omega), c_oF (xq_C hx), i_sb, e2k, c_S (xq_C hx) (by omega) (by omega), i_sb, wS i, i_sb, c_kF (xq_C hx), g3, i_bd, c_kF (xq_C hx), g4, i_bd, if_neg hp', show zi (1 + (i : Int)) + 1 = zi (1 + ((i + 1 : Nat) : Int)) from (zi_add _ 1).trans (congrArg zi (by omega))]
  · unfold rmP at hp
    have hp' : smallI (T 0) (T 1) (T 2) (skZ (ySum B t (yearZ B)) k (i + 1)) (frZ T tr t (skZ (ySum B t (yearZ B)) k (i + 1)) (B (1281 + 2 * t)) (B (1282 + 2 * t))) = (0 : Int32) := of_decide_eq_true hp
    obtain ⟨g3, g4⟩ := step i hi
    dsimp only
    rw [if_neg (by show ¬ (zi 9999 < zi _); rw [zi_lt (by omega) (by omega) (by omega) (by omega)]; omega), c_oF (xq_C hx), i_sb, e2k, c_S (xq_C hx) (by omega) (by omega), i_sb, wS i, i_sb, c_kF (xq_C hx), g3, i_bd, c_kF (xq_C hx), g4, i_bd, if_pos hp', show zi (1 + (i : Int)) - 1 = zi (i : Int) from (zi_sub _ 1).trans (congrArg zi (by omega))]
  · dsimp only
    rw [if_pos (by show zi 9999 < zi _; rw [zi_lt (by omega) (by omega) (by omega) (by omega)]; omega)]
    rfl
theorem mq_room (hm0 : MQr M' nt T tr sl bu as B U) (hn : 20000 < n) {t k : Int} (t0 : 0 ≤ t) (t1 : t < nt) (hk : 0 ≤ k ∧ k ≤ 2) (hS : ∀ w : Int, 0 ≤ w → w < 5 → S w = ySum B t (yearZ B) w) : ∃ sm1, loopF (fun (s : MemT × Int32) => (fun (M11 : MemT) (v12 : Int32) => (if 10000 ≤ v12 then some (.inr ((9999, M11))) else (gO M11 8 139 24).bind (fun j14 => (aJ M11 j14 (2 + (zi k))).bind (fun v15 => (wJ M11 j14 (2 + (zi k)) (v15 + 1)).bind (fun M16 => chk M16 8 139 (bd (g_X10_fraction n M16 139 (zi t)) (fun r17 M18 => (gO M18 8 139 17).bind (fun j19 => (aI M18 10 j19 2).bind (fun v20 => chk M18 8 139 (bd (g_X10_back1 n M18 139 r17 v20) (fun r21 M22 => (gI M22 8 139 27).bind (fun v23 => (if v23 = 0 then some (.inr ((v12 - 1, M22))) else some (.inl (M22, v12 + 1))))))))))))))) s.1 s.2) n (WC M' 0 B S (B (1281 + 2 * t)) (B (1282 + 2 * t)) sm, 1) = some (match fnd (rmP T tr B t k) 0 9999 with | some i => (zi (i : Int), WC M' 0 B (skZ S k (i + 1)) (B (1281 + 2 * t)) (B (1282 + 2 * t)) (zi 0)) | none => (zi 9999, WC M' 0 B (skZ S k 9999) (B (1281 + 2 * t)) (B (1282 + 2 * t)) sm1)) := by
  have hnt := hm0.2.1
  have hT := hm0.2.2.1
  have htr := hm0.2.2.2.1
  have t1r := hT.2.1
  have t2r := hT.2.2
  have hh := (mq_BS hm0).2 t t0 (by omega)
  have e2k : (2 : Int32) + zi k = zi (2 + k) := zi_add 2 k
  have smI : Nat → Int32 := fun i => smallI (T 0) (T 1) (T 2) (skZ (ySum B t (yearZ B)) k i) (frZ T tr t (skZ (ySum B t (yearZ B)) k i) (B (1281 + 2 * t)) (B (1282 + 2 * t)))
  have step : ∀ (i : Nat) (sm : Int32), i < 9999 → g_X10_fraction n (WC M' 0 B (skZ S k (i + 1)) (B (1281 + 2 * t)) (B (1282 + 2 * t)) sm) 139 (zi t) = some (zi (frZ T tr t (skZ (ySum B t (yearZ B)) k (i + 1)) (B (1281 + 2 * t)) (B (1282 + 2 * t))), WC M' 0 B (skZ S k (i + 1)) (B (1281 + 2 * t)) (B (1282 + 2 * t)) sm) ∧ g_X10_back1 n (WC M' 0 B (skZ S k (i + 1)) (B (1281 + 2 * t)) (B (1282 + 2 * t)) sm) 139 (zi (frZ T tr t (skZ (ySum B t (yearZ B)) k (i + 1)) (B (1281 + 2 * t)) (B (1282 + 2 * t)))) (zi (T 2)) = some (zi (backZ (T 0) (T 1) (T 2) (skZ S k (i + 1)) (frZ T tr t (skZ (ySum B t (yearZ B)) k (i + 1)) (B (1281 + 2 * t)) (B (1282 + 2 * t)))), WC M' 0 B (skZ S k (i + 1)) (B (1281 + 2 * t)) (B (1282 + 2 * t)) (smallI (T 0) (T 1) (T 2) (skZ (ySum B t (yearZ B)) k (i + 1)) (frZ T tr t (skZ (ySum B t (yearZ B)) k (i + 1)) (B (1281 + 2 * t)) (B (1282 + 2 * t))))) := fun i sm hi => by
    have hso := sk_ok hm0 t0 t1 hk (i := i + 1) (by omega)
    have hc := skZ_congr (k := k) (i := i + 1) hS
    have hfr := frZ_rng (tr := tr) (t := t) hT hso hh.1 hh.2.1
    have g3 := m_fraction (n := n) (B := B) (S := skZ S k (i + 1)) (ho := B (1281 + 2 * t)) (ha := B (1282 + 2 * t)) (sm := sm) (t := t) (mq_h hm0) hT htr t0 (by omega) (sumsOk_congr hso hc) (by omega)
    rw [frZ_congr hc] at g3
    have g4 := m_back1 (n := n) (B := B) (S := skZ S k (i + 1)) (ho := B (1281 + 2 * t)) (ha := B (1282 + 2 * t)) (sm := sm) (f := frZ T tr t (skZ (ySum B t (yearZ B)) k (i + 1)) (B (1281 + 2 * t)) (B (1282 + 2 * t))) (lim := T 2) (mq_h hm0) hT (by omega) ⟨by omega, by omega⟩ (sumsOk_congr hso hc)
    rw [smallI_congr hc] at g4
    exact ⟨g3, g4⟩
  have wS : ∀ (i : Nat) (sm : Int32), wJ (WC M' 0 B (skZ S k i) (B (1281 + 2 * t)) (B (1282 + 2 * t)) sm) 148 (zi (2 + k)) (zj (skZ S k i (2 + k)) + 1) = some (WC M' 0 B (skZ S k (i + 1)) (B (1281 + 2 * t)) (B (1282 + 2 * t)) sm) := fun i sm => by
    have : zj (skZ S k i (2 + k)) + 1 = zj (skZ S k i (2 + k) + 1) := zj_add _ 1
    rw [this, m_wS (mq_h hm0) (by omega) (by omega), skZ_up]
  have rT2 : ∀ S sm, aI (WC M' 0 B S (B (1281 + 2 * t)) (B (1282 + 2 * t)) sm) 10 146 2 = some (zi (T 2)) := fun S sm => m_T (mq_h hm0) (w := 2) (by omega) (by omega)
  let smF : Nat → Int32 := fun i => if i = 0 then sm else smallI (T 0) (T 1) (T 2) (skZ (ySum B t (yearZ B)) k i) (frZ T tr t (skZ (ySum B t (yearZ B)) k i) (B (1281 + 2 * t)) (B (1282 + 2 * t)))
  refine ⟨smF 9999, ?_⟩
  rw [show (WC M' 0 B S (B (1281 + 2 * t)) (B (1282 + 2 * t)) sm, (1 : Int32)) = (fun i : Nat => (WC M' 0 B (skZ S k i) (B (1281 + 2 * t)) (B (1282 + 2 * t)) (smF i), zi (1 + (i : Int)))) 0 by
    show _ = (WC M' 0 B (skZ S k 0) (B (1281 + 2 * t)) (B (1282 + 2 * t)) sm, zi (1 + ((0 : Nat) : Int)))
    rw [skZ_0]; rfl]
  refine loop_find (fun i : Nat => (WC M' 0 B (skZ S k i) (B (1281 + 2 * t)) (B (1282 + 2 * t)) (smF i), zi (1 + (i : Int)))) (fun i => (zi (i : Int), WC M' 0 B (skZ S k (i + 1)) (B (1281 + 2 * t)) (B (1282 + 2 * t)) (zi 0))) (zi 9999, WC M' 0 B (skZ S k 9999) (B (1281 + 2 * t)) (B (1282 + 2 * t)) (smF 9999)) 9999 (rmP T tr B t k) (fun i hi hp => ?_) (fun i hi hp => ?_) ?_ n (by omega)
  · unfold rmP at hp
    have hp' : ¬ (smallI (T 0) (T 1) (T 2) (skZ (ySum B t (yearZ B)) k (i + 1)) (frZ T tr t (skZ (ySum B t (yearZ B)) k (i + 1)) (B (1281 + 2 * t)) (B (1282 + 2 * t))) = (0 : Int32)) := of_decide_eq_false hp
    obtain ⟨g3, g4⟩ := step i (smF i) hi
    dsimp only
    rw [if_neg (by show ¬ (zi 10000 ≤ zi _); rw [zi_le (by omega) (by omega) (by omega) (by omega)]; omega), m_sum (mq_h hm0), i_sb, e2k, m_S (mq_h hm0) (by omega) (by omega), i_sb, wS i, i_sb, m_chk (mq_h hm0), g3, i_bd, m_told (mq_h hm0), i_sb, rT2, i_sb, m_chk (mq_h hm0), g4, i_bd, m_gsm (mq_h hm0), i_sb, if_neg hp', show zi (1 + (i : Int)) + 1 = zi (1 + ((i + 1 : Nat) : Int)) from (zi_add _ 1).trans (congrArg zi (by omega))]
    rfl
  · unfold rmP at hp
    have hp' : smallI (T 0) (T 1) (T 2) (skZ (ySum B t (yearZ B)) k (i + 1)) (frZ T tr t (skZ (ySum B t (yearZ B)) k (i + 1)) (B (1281 + 2 * t)) (B (1282 + 2 * t))) = (0 : Int32) := of_decide_eq_true hp
    obtain ⟨g3, g4⟩ := step i (smF i) hi
    dsimp only
    rw [if_neg (by show ¬ (zi 10000 ≤ zi _); rw [zi_le (by omega) (by omega) (by omega) (by omega)]; omega), m_sum (mq_h hm0), i_sb, e2k, m_S (mq_h hm0) (by omega) (by omega), i_sb, wS i, i_sb, m_chk (mq_h hm0), g3, i_bd, m_told (mq_h hm0), i_sb, rT2, i_sb, m_chk (mq_h hm0), g4, i_bd, m_gsm (mq_h hm0), i_sb, if_pos hp', hp', show zi (1 + (i : Int)) - 1 = zi (i : Int) from (zi_sub _ 1).trans (congrArg zi (by omega))]
    rfl
  · dsimp only
    rw [if_pos (by show zi 10000 ≤ zi _; rw [zi_le (by omega) (by omega) (by omega) (by omega)]; omega)]
    rfl
theorem Q_room (hx : XQr M c r R nt T tr sl bu as B U) (hm : MQr M' nt T tr sl bu as B U) (hn : 20000 < n) {t : Int} {k : Int} (t1 : -2147483648 ≤ t) (t2 : t ≤ 2147483647) (k1 : -2147483648 ≤ k) (k2 : k ≤ 2147483647) : QP (g_X9_room n (WX M c R F S) 0 (zi t) (zi k)) (g_X10_room n (WC M' 0 B S' ho ha sm) 139 (zi t) (zi k)) M (sI M' 139 2 0) c R B := by
  have hm0 := mq_thr0 (v := zi 0) hm
  have hnt := hm.2.1
  have h8 := mq_8 hm
  obtain ⟨n1, n2⟩ := mq_N hm
  have hy : 0 ≤ yearZ B ∧ yearZ B < 16 := by unfold yearZ; omega
  have hT := hm.2.2.1
  have htr := hm.2.2.2.1
  have hAN := AN2_r (mq_N hm) hm.2.2.2.2.2.1.2.2.2.2.2.2.1
  have t1r := hT.2.1
  have t2r := hT.2.2
  have hmz := mq_thr0 (v := (0 : Int32)) hm
  have gX' : ∀ F S, g_X9_isIn n (WX M c R F S) (zi k) 0 2 = some (bI2 (0 ≤ k ∧ k ≤ 2), WX M c R F S) := fun F S => x_isIn2 (n := n) (x := k) (a := 0) (b := 2) k1 k2 (by omega) (by omega) (by omega) (by omega)
  have gM' : g_X10_isIn n (WC (sI M' 139 2 0) 0 B S' ho ha sm) (zi k) 0 2 = some (bI2 (0 ≤ k ∧ k ≤ 2), WC (sI M' 139 2 0) 0 B S' ho ha sm) := m_isIn2 (n := n) (x := k) (a := 0) (b := 2) k1 k2 (by omega) (by omega) (by omega) (by omega)
  by_cases c1 : 0 ≤ t ∧ t < nt
  · have z1 : bI2 (0 ≤ t ∧ t < nt) ≠ (0 : Int32) := fun q => ((bI_0 _).mp q) c1
    by_cases c2 : 0 ≤ k ∧ k ≤ 2
    · have z2 : bI2 (0 ≤ k ∧ k ≤ 2) ≠ (0 : Int32) := fun q => ((bI_0 _).mp q) c2
      obtain ⟨F2, S2, g2, f2, s2⟩ := c_ofYear (n := n) (F := F) (S := S) (t := t) (y := yearZ B) (xq_C hx) (xq_U hx) hx.2.1.2.2.1.2.1 (xq_R hx) (mq_BS hm) (by omega) c1.1 c1.2 hnt.2 hy.1 hy.2
      have hso := sumsOk_y (t := t) (y := yearZ B) (mq_BS hm) c1.1 (by omega) hy.1 hy.2
      have hh := (mq_BS hm).2 t c1.1 (by omega)
      have g3 := c_fraction (n := n) (R := R) (xq_C hx) f2 hT.1 (htr t c1.1 (by omega)).1 (by omega) (sumsOk_congr hso s2) (by omega)
      have ef : fracZ (T 0) (T 1) (ownZ (tr (8 * t + 1)) S2 (B (1281 + 2 * t))) (allZ (tr (8 * t + 1)) S2 (B (1282 + 2 * t))) = annZ T tr B t (yearZ B) := (frZ_congr s2).trans annZ_now.symm
      rw [ef] at g3
      have hr := annZ_r (tr := tr) hT (mq_BS hm) (mq_N hm) hAN c1.1 (show t < 4 by omega) hy.1 hy.2
      have g4 := c_isSmall (n := n) (R := R) (xq_C hx) f2 hT.1 (by omega) ⟨by omega, by omega⟩ (sumsOk_congr hso s2) (f := annZ T tr B t (yearZ B)) (by omega)
      rw [smallI_congr s2] at g4
      obtain ⟨S3, s3, gm⟩ := mq_backOf (n := n) (S := S') (ho := ho) (ha := ha) (sm := sm) (t := t) (y := yearZ B) hmz (by omega) c1.1 c1.2 hy.1 hy.2
      have gy := fun F S => c_thisYear (n := n) (F := F) (S := S) (xq_C hx) (xq_R hx) (mq_N hm)
      by_cases cs : smallI (T 0) (T 1) (T 2) (ySum B t (yearZ B)) (annZ T tr B t (yearZ B)) = (0 : Int32)
      · refine qp_mk (-2) (F1 := F2) (S1 := S2) (S2 := S3) (ho2 := B (1281 + 2 * t)) (ha2 := B (1282 + 2 * t)) (sm2 := smallI (T 0) (T 1) (T 2) (ySum B t (yearZ B)) (annZ T tr B t (yearZ B))) ?_ ?_
        · unfold g_X9_room
          rw [xq_ko hx, xq_tr hx t1 t2, i_bd, if_neg z1, gX', i_bd, if_neg z2, xq_o4 hx, i_sb, i_sb, c_kC (xq_C hx), gy, i_bd, c_kC (xq_C hx), g2, i_bd, c_kF (xq_C hx), g3, i_bd, c_kF (xq_C hx), g4, i_bd, if_pos cs]
          rfl
        · unfold g_X10_room
          rw [m_thr0 (mq_h hm), i_sb, m_chk (mq_h hmz), mq_tr hmz t1 t2, i_bd, if_neg z1, gM', i_bd, if_neg z2, m_chk (mq_h hmz), mq_y hmz, i_bd, m_chk (mq_h hmz), gm, i_bd, m_gsm (mq_h hmz), i_sb, if_pos cs]
          rfl
      · have gx := xq_room (n := n) (F := F2) (S := S2) hx hm hn c1.1 c1.2 c2 f2 s2
        obtain ⟨sm3, gl⟩ := mq_room (n := n) (S := S3) (sm := smallI (T 0) (T 1) (T 2) (ySum B t (yearZ B)) (annZ T tr B t (yearZ B))) hmz hn c1.1 c1.2 c2 s3
        dsimp only at gx gl
        have h1 : g_X9_room n (WX M c R F S) 0 (zi t) (zi k) = some (match fnd (rmP T tr B t k) 0 9999 with | some i => (zi (i : Int), WX M c R F2 (skZ S2 k (i + 1))) | none => (zi 9999, WX M c R F2 (skZ S2 k 9999))) := by
          unfold g_X9_room
          rw [xq_ko hx, xq_tr hx t1 t2, i_bd, if_neg z1, gX', i_bd, if_neg z2, xq_o4 hx, i_sb, i_sb, c_kC (xq_C hx), gy, i_bd, c_kC (xq_C hx), g2, i_bd, c_kF (xq_C hx), g3, i_bd, c_kF (xq_C hx), g4, i_bd, if_neg cs]
          exact gx
        have h2 : g_X10_room n (WC M' 0 B S' ho ha sm) 139 (zi t) (zi k) = some (match fnd (rmP T tr B t k) 0 9999 with | some i => (zi (i : Int), WC (sI M' 139 2 0) 0 B (skZ S3 k (i + 1)) (B (1281 + 2 * t)) (B (1282 + 2 * t)) (zi 0)) | none => (zi 9999, WC (sI M' 139 2 0) 0 B (skZ S3 k 9999) (B (1281 + 2 * t)) (B (1282 + 2 * t)) sm3)) := by
          unfold g_X10_room
          rw [m_thr0 (mq_h hm), i_sb, m_chk (mq_h hmz), mq_tr hmz t1 t2, i_bd, if_neg z1, gM', i_bd, if_neg z2, m_chk (mq_h hmz), mq_y hmz, i_bd, m_chk (mq_h hmz), gm, i_bd, m_gsm (mq_h hmz), i_sb, if_neg cs]
          exact gl
        rw [h1, h2]
        cases fnd (rmP T tr B t k) 0 9999 with
        | none => exact qp_mk 9999 rfl rfl
        | some i => exact qp_mk (i : Int) rfl rfl
    · have z2 : bI2 (0 ≤ k ∧ k ≤ 2) = (0 : Int32) := (bI_0 _).mpr c2
      refine qp_mk (-1) (F1 := F) (S1 := S) (S2 := S') (ho2 := ho) (ha2 := ha) (sm2 := sm) ?_ ?_
      · unfold g_X9_room
        rw [xq_ko hx, xq_tr hx t1 t2, i_bd, if_neg z1, gX', i_bd, if_pos z2]
        rfl
      · unfold g_X10_room
        rw [m_thr0 (mq_h hm), i_sb, m_chk (mq_h hmz), mq_tr hmz t1 t2, i_bd, if_neg z1, gM', i_bd, if_pos z2]
        rfl
  · have hmz := mq_thr0 (v := (0 : Int32)) hm
    have e0 : bI2 (0 ≤ t ∧ t < nt) = (0 : Int32) := (bI_0 (0 ≤ t ∧ t < nt)).mpr c1
    refine qp_mk (-1) (F1 := F) (S1 := S) (S2 := S') (ho2 := ho) (ha2 := ha) (sm2 := sm) ?_ ?_
    · unfold g_X9_room
      rw [xq_ko hx, xq_tr hx t1 t2, i_bd, if_pos e0]
      rfl
    · unfold g_X10_room
      rw [m_thr0 (mq_h hm), i_sb, m_chk (mq_h hmz), mq_tr hmz t1 t2, i_bd, if_pos e0]
      rfl
end Q12
