/-! ===== PURE 53: need ===== -/
theorem div_cross {p q p1 q1 : Int} (hq : 0 < q) (hq1 : 0 < q1) (h : p * q1 ≤ p1 * q) : p / q ≤ p1 / q1 := by
  refine Int.le_ediv_of_mul_le hq1 ?_
  refine Int.le_of_mul_le_mul_right (a := q) ?_ hq
  have h1 : p / q * q ≤ p := Int.ediv_mul_le p (by omega)
  have h2 : p / q * q * q1 ≤ p * q1 := Int.mul_le_mul_of_nonneg_right h1 (by omega)
  have h3 : p / q * q1 * q = p / q * q * q1 := by rw [Int.mul_assoc, Int.mul_assoc, Int.mul_comm q1 q]
  omega
theorem cut_cross {w p q p1 q1 : Int} (hq : 0 < q) (hq1 : 0 < q1) (h : p * q1 ≤ p1 * q) : cutZ w p q ≤ cutZ w p1 q1 := by
  unfold cutZ
  split
  · exact div_cross hq hq1 h
  · split
    · have := div_cross (p := -p1) (q := q1) (p1 := -p) (q1 := q) hq1 hq (by rw [Int.neg_mul, Int.neg_mul]; omega)
      omega
    · refine div_cross (by omega) (by omega) ?_
      have e1 : (2 * p + q) * (2 * q1) = 4 * (p * q1) + 2 * (q * q1) := by
        rw [Int.add_mul, show 2 * p * (2 * q1) = 4 * (p * q1) by rw [Int.mul_assoc 2 p, Int.mul_left_comm p 2 q1]; omega, show q * (2 * q1) = 2 * (q * q1) from Int.mul_left_comm q 2 q1]
      have e2 : (2 * p1 + q1) * (2 * q) = 4 * (p1 * q) + 2 * (q * q1) := by
        rw [Int.add_mul, show 2 * p1 * (2 * q) = 4 * (p1 * q) by rw [Int.mul_assoc 2 p1, Int.mul_left_comm p1 2 q]; omega, show q1 * (2 * q) = 2 * (q * q1) by rw [Int.mul_left_comm q1 2 q, Int.mul_comm q1 q]]
      omega
theorem fracZ_up {w s o a x : Int} (hs : 0 < s) (ho : 0 ≤ o) (hoa : o ≤ a) (hx : 0 ≤ x) : fracZ w s o a ≤ fracZ w s (o + x) (a + x) := by
  unfold fracZ
  by_cases c : a = 0
  · rw [if_pos c]
    by_cases d : a + x = 0
    · rw [if_pos d]; omega
    · rw [if_neg d]
      have e1 : cutZ w s 1 = s := by
        unfold cutZ
        split
        · omega
        · split <;> omega
      have := cut_cross (w := w) (p := s) (q := 1) (p1 := s * (o + x)) (q1 := a + x) (by omega) (by omega) (by rw [show a + x = o + x by omega]; omega)
      omega
  · rw [if_neg c, if_neg (by omega)]
    refine cut_cross (by omega) (by omega) ?_
    have h1 : o * x ≤ a * x := Int.mul_le_mul_of_nonneg_right hoa hx
    have h2 : o * (a + x) ≤ (o + x) * a := by
      rw [Int.mul_add, Int.add_mul, Int.mul_comm x a]; omega
    rw [Int.mul_assoc, Int.mul_assoc]
    exact Int.mul_le_mul_of_nonneg_left h2 (by omega)
def nV (T S : Int → Int) (x : Int) : Int := fracZ (T 0) (T 1) (S 0 + x) (S 0 + x + S 1)
def nRes (T S : Int → Int) (p r : Int) : Prop := (0 ≤ r ∧ r ≤ 99999999 ∧ p ≤ nV T S r ∧ ∀ y : Int, 0 ≤ y → y < r → nV T S y < p) ∨ (r = -2 ∧ ∀ y : Int, 0 ≤ y → y ≤ 99999999 → nV T S y < p)
theorem nRes_eq {T S : Int → Int} {p r r1 : Int} (h : nRes T S p r) (h1 : nRes T S p r1) : r = r1 := by
  rcases h with ⟨a, b, c, d⟩ | ⟨a, b⟩ <;> rcases h1 with ⟨a1, b1, c1, d1⟩ | ⟨a1, b1⟩
  · rcases Int.lt_trichotomy r r1 with q | q | q
    · have := d1 r a q; omega
    · exact q
    · have := d r1 a1 q; omega
  · have := b1 r a b; omega
  · have := b r1 a1 b1; omega
  · omega
theorem nV_mono {T S : Int → Int} {x y : Int} (hT : told3 T) (h0 : 0 ≤ S 0) (h1 : 0 ≤ S 1) (hx : 0 ≤ x) (hxy : x ≤ y) : nV T S x ≤ nV T S y := by
  have t1 := hT.2.1
  have := fracZ_up (w := T 0) (s := T 1) (o := S 0 + x) (a := S 0 + x + S 1) (x := y - x) (by omega) (by omega) (by omega) (by omega)
  unfold nV
  rw [show S 0 + x + (y - x) = S 0 + y by omega, show S 0 + x + S 1 + (y - x) = S 0 + y + S 1 by omega] at this
  exact this
theorem nV_r {T S : Int → Int} {x : Int} (hT : told3 T) (h0 : 0 ≤ S 0) (h1 : 0 ≤ S 1) (hx : 0 ≤ x) : 0 ≤ nV T S x ∧ nV T S x ≤ T 1 := by
  have t1 := hT.2.1
  exact fracZ_rng (by omega) (by omega) (by omega) hT.1
/-- a loop with a measure -/
theorem loop_mu {σ τ : Type} {step : σ → Option (σ ⊕ τ)} (I : Nat → σ → Prop) (Q : τ → Prop) (h : ∀ d s, I d s → (∃ s1 d1, step s = some (.inl s1) ∧ I d1 s1 ∧ d1 < d) ∨ (∃ t, step s = some (.inr t) ∧ Q t)) : ∀ n d s, I d s → d < n → ∃ t, loopF step n s = some t ∧ Q t := by
  intro n
  induction n with
  | zero => intro d s _ hd; omega
  | succ n ih =>
    intro d s hI hd
    rcases h d s hI with ⟨s1, d1, e, hI1, hd1⟩ | ⟨t, e, hQ⟩
    · obtain ⟨t, et, hQ⟩ := ih d1 s1 hI1 (by omega)
      exact ⟨t, by simp only [loopF, e]; exact et, hQ⟩
    · exact ⟨t, by simp only [loopF, e], hQ⟩
section Q14
variable {M M' : MemT} {c r : Nat} {R : Nat → Nat → Int32} {F : Nat → Int32} {S S' : Int → Int} {n : Nat} {T tr sl bu as B : Int → Int} {nt U ho ha : Int} {sm : Int32}
theorem xq_need (hx : XQr M c r R nt T tr sl bu as B U) (hT : told3 T) (hn : 40 < n) {p : Int} (hp : 0 ≤ p ∧ p ≤ T 1) {w' h1 h2 : Int} (hF : FOk F (T 0) w' (T 1) (T 2) h1 h2) (hS : sumsOk S) (h9 : p ≤ nV T S 99999999) : ∃ u v v', loopF (fun (s : MemT × Int32 × Int32 × Int32) => (fun (M20 : MemT) (v21 : Int32) (v22 : Int32) (v23 : Int32) => (if 32 ≤ v23 then some (.inr (M20, v21, v22, v23)) else (if v22 ≤ v21 then some (.inr (M20, v21, v22, v23)) else (if (2 : Int32) = 0 then none else chk M20 5 (c + 60) (bd (g_X6_fractionWithSales n M20 (c + 60) ((v21 + v22) / 2)) (fun r25 M26 => (if r25 < (zi p) then some (.inl (M26, ((v21 + v22) / 2) + 1, v22, v23 + 1)) else some (.inl (M26, v21, (v21 + v22) / 2, v23 + 1))))))))) s.1 s.2.1 s.2.2.1 s.2.2.2) n (WX M c R F S, 0, 99999999, 0) = some (WX M c R F S, zi u, v, v') ∧ nRes T S p u := by
  have t1 := hT.2.1
  have s0 := hS 0 (by omega) (by omega)
  have s1 := hS 1 (by omega) (by omega)
  have key := loop_mu (step := fun (s : MemT × Int32 × Int32 × Int32) => (fun (M20 : MemT) (v21 : Int32) (v22 : Int32) (v23 : Int32) => (if 32 ≤ v23 then some (.inr (M20, v21, v22, v23)) else (if v22 ≤ v21 then some (.inr (M20, v21, v22, v23)) else (if (2 : Int32) = 0 then none else chk M20 5 (c + 60) (bd (g_X6_fractionWithSales n M20 (c + 60) ((v21 + v22) / 2)) (fun r25 M26 => (if r25 < (zi p) then some (.inl (M26, ((v21 + v22) / 2) + 1, v22, v23 + 1)) else some (.inl (M26, v21, (v21 + v22) / 2, v23 + 1))))))))) s.1 s.2.1 s.2.2.1 s.2.2.2) (fun d s => ∃ (lo hi : Int) (k : Nat), s = (WX M c R F S, zi lo, zi hi, zi (k : Int)) ∧ d = 32 - k ∧ 0 ≤ lo ∧ lo ≤ hi ∧ hi ≤ 99999999 ∧ k ≤ 32 ∧ (hi - lo) * 2 ^ k ≤ 99999999 ∧ p ≤ nV T S hi ∧ ∀ y : Int, 0 ≤ y → y < lo → nV T S y < p) (fun t => ∃ u v v', t = (WX M c R F S, zi u, v, v') ∧ nRes T S p u) ?_ n 32 (WX M c R F S, 0, 99999999, 0) ⟨0, 99999999, 0, rfl, rfl, by omega, by omega, by omega, by omega, by decide, h9, fun y y0 y1 => by omega⟩ (by omega)
  · obtain ⟨t, et, u, v, v', rfl, hr⟩ := key
    exact ⟨u, v, v', et, hr⟩
  · rintro d s ⟨lo, hi, k, rfl, hd, l0, l1, l2, k1, hm, hh, hl⟩
    dsimp only
    have e32 : ((32 : Int32) ≤ zi (k : Int)) = ((32 : Int) ≤ k) := zi_le (a := 32) (by omega) (by omega) (by omega) (by omega)
    have ehl : (zi hi ≤ zi lo) = (hi ≤ lo) := zi_le (by omega) (by omega) (by omega) (by omega)
    by_cases c1 : (32 : Int) ≤ k
    · have hk : k = 32 := by omega
      subst hk
      have : hi = lo := by
        have e : (2 : Int) ^ 32 = 4294967296 := by decide
        rw [e] at hm
        omega
      refine .inr ⟨_, by rw [if_pos (by rw [e32]; exact c1)], lo, _, _, rfl, .inl ⟨l0, by omega, by rw [← this]; exact hh, hl⟩⟩
    · by_cases c2 : hi ≤ lo
      · have : hi = lo := by omega
        refine .inr ⟨_, by rw [if_neg (by rw [e32]; exact c1), if_pos (by rw [ehl]; exact c2)], lo, _, _, rfl, .inl ⟨l0, by omega, by rw [← this]; exact hh, hl⟩⟩
      · obtain ⟨mid, em⟩ : ∃ m : Int, m = (lo + hi) / 2 := ⟨_, rfl⟩
        have e2 : (zi lo + zi hi) / 2 = zi mid := by
          rw [zi_add, em]
          exact zi_div (b := 2) (by omega) (by omega) (by omega) (by omega)
        have g := c_withSales (n := n) (R := R) (xq_C hx) hF hT.1 (by omega) hS (x := mid) (by omega)
        have hv := nV_r (x := mid) hT s0.1 s1.1 (by omega)
        have ep : (zi (nV T S mid) < zi p) = (nV T S mid < p) := zi_lt (by omega) (by omega) (by omega) (by omega)
        have ek : zi (k : Int) + 1 = zi ((k + 1 : Nat) : Int) := zi_add (k : Int) 1
        have P0 : (0 : Int) ≤ 2 ^ k := Int.le_of_lt (Int.pow_pos (by omega))
        have half : ∀ x : Int, 2 * x ≤ hi - lo → x * 2 ^ (k + 1) ≤ 99999999 := fun x hx2 => by
          have h2 : 2 * x * 2 ^ k ≤ (hi - lo) * 2 ^ k := Int.mul_le_mul_of_nonneg_right hx2 P0
          have h3 : x * 2 ^ (k + 1) = 2 * x * 2 ^ k := by rw [Int.pow_succ, Int.mul_comm (2 ^ k) 2, ← Int.mul_assoc, Int.mul_comm x 2]
          omega
        by_cases c3 : nV T S mid < p
        · refine .inl ⟨(WX M c R F S, zi (mid + 1), zi hi, zi ((k + 1 : Nat) : Int)), 32 - (k + 1), ?_, ⟨mid + 1, hi, k + 1, rfl, rfl, by omega, by omega, l2, by omega, half _ (by omega), hh, fun y y0 y1 => ?_⟩, by omega⟩
          · rw [if_neg (by rw [e32]; exact c1), if_neg (by rw [ehl]; exact c2), if_neg (by decide), c_kF (xq_C hx), e2, g, i_bd]
            show (if zi (nV T S mid) < zi p then _ else _) = _
            rw [if_pos (by rw [ep]; exact c3), ek, show zi mid + 1 = zi (mid + 1) from zi_add mid 1]
          · have := nV_mono (x := y) (y := mid) hT s0.1 s1.1 y0 (by omega)
            omega
        · refine .inl ⟨(WX M c R F S, zi lo, zi mid, zi ((k + 1 : Nat) : Int)), 32 - (k + 1), ?_, ⟨lo, mid, k + 1, rfl, rfl, by omega, by omega, by omega, by omega, half _ (by omega), by omega, hl⟩, by omega⟩
          rw [if_neg (by rw [e32]; exact c1), if_neg (by rw [ehl]; exact c2), if_neg (by decide), c_kF (xq_C hx), e2, g, i_bd]
          show (if zi (nV T S mid) < zi p then _ else _) = _
          rw [if_neg (by rw [ep]; exact c3), ek]
theorem mq_need (hm0 : MQr M' nt T tr sl bu as B U) (hn : 100000010 < n) {t p : Int} (t0 : 0 ≤ t) (t1 : t < nt) (hp : 0 ≤ p ∧ p ≤ T 1) (hme : tr (8 * t + 1) = 0) (hS : ∀ w : Int, 0 ≤ w → w < 5 → 0 ≤ S w ∧ S w ≤ 400000000) (h9 : nV T S 0 < p) : ∃ (lo hi : Int) (S2 : Int → Int), loopF (fun (s : MemT × Int64 × Int64) => (fun (M18 : MemT) (v19 : Int64) (v20 : Int64) => (if (lg_cmp (v20 - v19) 1) ≤ 0 then some (.inr (M18, v19, v20)) else (if (2 : Int64) = 0 then none else (gO M18 8 139 24).bind (fun j22 => (wJ M18 j22 0 ((zj (S 0)) + ((v19 + v20) / 2))).bind (fun M23 => chk M23 8 139 (bd (g_X10_fraction n M23 139 (zi t)) (fun r24 M25 => (if r24 < (zi p) then some (.inl (M25, (v19 + v20) / 2, v20)) else some (.inl (M25, v19, (v19 + v20) / 2)))))))))) s.1 s.2.1 s.2.2) n (WC M' 0 B S (B (1281 + 2 * t)) (B (1282 + 2 * t)) sm, 0, 100000000) = some (WC M' 0 B S2 (B (1281 + 2 * t)) (B (1282 + 2 * t)) sm, zj lo, zj hi) ∧ 0 ≤ lo ∧ hi = lo + 1 ∧ hi ≤ 100000000 ∧ nV T S lo < p ∧ (hi = 100000000 ∨ p ≤ nV T S hi) := by
  have hT := hm0.2.2.1
  have hnt := hm0.2.1
  have tt := hT.2.1
  have hh := (mq_BS hm0).2 t t0 (by omega)
  have s0 := hS 0 (by omega) (by omega)
  have s1 := hS 1 (by omega) (by omega)
  have key := loop_mu (step := fun (s : MemT × Int64 × Int64) => (fun (M18 : MemT) (v19 : Int64) (v20 : Int64) => (if (lg_cmp (v20 - v19) 1) ≤ 0 then some (.inr (M18, v19, v20)) else (if (2 : Int64) = 0 then none else (gO M18 8 139 24).bind (fun j22 => (wJ M18 j22 0 ((zj (S 0)) + ((v19 + v20) / 2))).bind (fun M23 => chk M23 8 139 (bd (g_X10_fraction n M23 139 (zi t)) (fun r24 M25 => (if r24 < (zi p) then some (.inl (M25, (v19 + v20) / 2, v20)) else some (.inl (M25, v19, (v19 + v20) / 2)))))))))) s.1 s.2.1 s.2.2) (fun d s => ∃ (lo hi : Int) (S2 : Int → Int), s = (WC M' 0 B S2 (B (1281 + 2 * t)) (B (1282 + 2 * t)) sm, zj lo, zj hi) ∧ d = (hi - lo).toNat ∧ 0 ≤ lo ∧ lo < hi ∧ hi ≤ 100000000 ∧ (∀ w : Int, w ≠ 0 → S2 w = S w) ∧ nV T S lo < p ∧ (hi = 100000000 ∨ p ≤ nV T S hi)) (fun u => ∃ (lo hi : Int) (S2 : Int → Int), u = (WC M' 0 B S2 (B (1281 + 2 * t)) (B (1282 + 2 * t)) sm, zj lo, zj hi) ∧ 0 ≤ lo ∧ hi = lo + 1 ∧ hi ≤ 100000000 ∧ nV T S lo < p ∧ (hi = 100000000 ∨ p ≤ nV T S hi)) ?_ n 100000000 (WC M' 0 B S (B (1281 + 2 * t)) (B (1282 + 2 * t)) sm, 0, 100000000) ⟨0, 100000000, S, rfl, rfl, by omega, by omega, by omega, fun w _ => rfl, h9, .inl rfl⟩ (by omega)
  · obtain ⟨u, eu, lo, hi, S2, rfl, hr⟩ := key
    exact ⟨lo, hi, S2, eu, hr⟩
  · rintro d s ⟨lo, hi, S2, rfl, hd, l0, l1, l2, hS2, hl, hh2⟩
    dsimp only
    have ele : (lg_cmp (zj hi - zj lo) 1 ≤ 0) = (hi - lo ≤ 1) := by
      rw [zj_sub, lg_cmp_le]
      exact zj_le (b := 1) (by omega) (by omega) (by omega) (by omega)
    by_cases c1 : hi - lo ≤ 1
    · exact .inr ⟨_, by rw [if_pos (by rw [ele]; exact c1)], lo, hi, S2, rfl, l0, by omega, l2, hl, hh2⟩
    · obtain ⟨mid, em⟩ : ∃ m : Int, m = (lo + hi) / 2 := ⟨_, rfl⟩
      have e2 : (zj lo + zj hi) / 2 = zj mid := by
        rw [zj_add, em, ← Int.tdiv_eq_ediv_of_nonneg (by omega)]
        exact zj_div (b := 2) (by omega) (by omega) (by omega) (by omega)
      have hso : sumsOk (upZ S2 0 (S 0 + mid)) := fun w w0 w1 => by
        unfold upZ
        split
        · omega
        · have := hS w w0 w1
          rw [hS2 w (by omega)]
          omega
      have g := m_fraction (n := n) (B := B) (S := upZ S2 0 (S 0 + mid)) (ho := B (1281 + 2 * t)) (ha := B (1282 + 2 * t)) (sm := sm) (t := t) (mq_h hm0) hT hm0.2.2.2.1 t0 (by omega) hso (by omega)
      have ev : frZ T tr t (upZ S2 0 (S 0 + mid)) (B (1281 + 2 * t)) (B (1282 + 2 * t)) = nV T S mid := by
        unfold frZ nV
        rw [hme]
        show fracZ (T 0) (T 1) (upZ S2 0 (S 0 + mid) 0) (upZ S2 0 (S 0 + mid) 0 + upZ S2 0 (S 0 + mid) 1) = _
        rw [show upZ S2 0 (S 0 + mid) 0 = S 0 + mid from if_pos rfl, show upZ S2 0 (S 0 + mid) 1 = S2 1 from if_neg (by omega), hS2 1 (by omega)]
      rw [ev] at g
      have hv := nV_r (x := mid) hT s0.1 s1.1 (by omega)
      have ep : (zi (nV T S mid) < zi p) = (nV T S mid < p) := zi_lt (by omega) (by omega) (by omega) (by omega)
      have gw : wJ (WC M' 0 B S2 (B (1281 + 2 * t)) (B (1282 + 2 * t)) sm) 148 0 (zj (S 0) + zj mid) = some (WC M' 0 B (upZ S2 0 (S 0 + mid)) (B (1281 + 2 * t)) (B (1282 + 2 * t)) sm) := by
        rw [zj_add]
        exact m_wS (mq_h hm0) (w := 0) (by omega) (by omega)
      have hu : ∀ w : Int, w ≠ 0 → upZ S2 0 (S 0 + mid) w = S w := fun w hw => by
        unfold upZ
        rw [if_neg hw, hS2 w hw]
      by_cases c3 : nV T S mid < p
      · refine .inl ⟨(WC M' 0 B (upZ S2 0 (S 0 + mid)) (B (1281 + 2 * t)) (B (1282 + 2 * t)) sm, zj mid, zj hi), (hi - mid).toNat, ?_, ⟨mid, hi, _, rfl, rfl, by omega, by omega, l2, hu, c3, hh2⟩, by omega⟩
        rw [if_neg (by rw [ele]; exact c1), if_neg (by decide), m_sum (mq_h hm0), i_sb, e2, gw, i_sb, m_chk (mq_h hm0), g, i_bd, if_pos (by rw [ep]; exact c3)]
      · refine .inl ⟨(WC M' 0 B (upZ S2 0 (S 0 + mid)) (B (1281 + 2 * t)) (B (1282 + 2 * t)) sm, zj lo, zj mid), (mid - lo).toNat, ?_, ⟨lo, mid, _, rfl, rfl, by omega, by omega, by omega, hu, hl, .inr (by omega)⟩, by omega⟩
        rw [if_neg (by rw [ele]; exact c1), if_neg (by decide), m_sum (mq_h hm0), i_sb, e2, gw, i_sb, m_chk (mq_h hm0), g, i_bd, if_neg (by rw [ep]; exact c3)]
theorem Q_need (hx : XQr M c r R nt T tr sl bu as B U) (hm : MQr M' nt T tr sl bu as B U) (hn : 100000010 < n) {t : Int} {p : Int} (t1 : -2147483648 ≤ t) (t2 : t ≤ 2147483647) (p1 : -2147483648 ≤ p) (p2 : p ≤ 2147483647) : QP (g_X9_need n (WX M c R F S) 0 (zi t) (zi p)) (g_X10_need n (WC M' 0 B S' ho ha sm) 139 (zi t) (zi p)) M (sI M' 139 2 0) c R B := by
  have hm0 := mq_thr0 (v := zi 0) hm
  have hnt := hm.2.1
  have h8 := mq_8 hm
  obtain ⟨n1, n2⟩ := mq_N hm
  have hy : 0 ≤ yearZ B ∧ yearZ B < 16 := by unfold yearZ; omega
  have hT := hm.2.2.1
  have htr := hm.2.2.2.1
  have hAN := AN2_r (mq_N hm) hm.2.2.2.2.2.1.2.2.2.2.2.2.1
  have t1r := hT.2.1
  have t2r := hT.2.2
  have hmz := mq_thr0 (v := (0 : Int32)) hm
  have gX' : ∀ F S, g_X9_isIn n (WX M c R F S) (zi p) 0 (zi (T 1)) = some (bI2 (0 ≤ p ∧ p ≤ T 1), WX M c R F S) := fun F S => x_isIn2 (n := n) (x := p) (a := 0) (b := T 1) p1 p2 (by omega) (by omega) (by omega) (by omega)
  have gM' : g_X10_isIn n (WC (sI M' 139 2 0) 0 B S' ho ha sm) (zi p) 0 (zi (T 1)) = some (bI2 (0 ≤ p ∧ p ≤ T 1), WC (sI M' 139 2 0) 0 B S' ho ha sm) := m_isIn2 (n := n) (x := p) (a := 0) (b := T 1) p1 p2 (by omega) (by omega) (by omega) (by omega)
  have u8 := (xq_U hx).1.2.2.1
  have rT1 : aI (WC (sI M' 139 2 0) 0 B S' ho ha sm) 10 146 1 = some (zi (T 1)) := m_T (mq_h hmz) (w := 1) (by omega) (by omega)
  by_cases c1 : 0 ≤ t ∧ t < nt
  · have z1 : bI2 (0 ≤ t ∧ t < nt) ≠ (0 : Int32) := fun q => ((bI_0 _).mp q) c1
    have um := ((xq_U hx).2.1 t c1.1 c1.2).2.1
    have htt := (htr t c1.1 (by omega)).1
    have rm1 : g_X10_told1 n (WC (sI M' 139 2 0) 0 B S' ho ha sm) 139 (zi t) 1 = some (zi (tr (8 * t + 1)), _) := m_told1 (mq_h hmz) (w := 1) c1.1 (by omega) (by omega) (by omega)
    have em : (zi (tr (8 * t + 1)) = (0 : Int32)) = (tr (8 * t + 1) = 0) := zi_eq (b := 0) (by omega) (by omega) (by omega) (by omega)
    by_cases c2 : 0 ≤ p ∧ p ≤ T 1
    · have z2 : bI2 (0 ≤ p ∧ p ≤ T 1) ≠ (0 : Int32) := fun q => ((bI_0 _).mp q) c2
      by_cases c3 : tr (8 * t + 1) = 0
      · have em0 : zi (tr (8 * t + 1)) = (0 : Int32) := by rw [em]; exact c3
        have gy := fun F S => c_thisYear (n := n) (F := F) (S := S) (xq_C hx) (xq_R hx) (mq_N hm)
        obtain ⟨F2, S2, g2, f2, s2⟩ := c_ofYear (n := n) (F := F) (S := S) (t := t) (y := yearZ B) (xq_C hx) (xq_U hx) hx.2.1.2.2.1.2.1 (xq_R hx) (mq_BS hm) (by omega) c1.1 c1.2 hnt.2 hy.1 hy.2
        have hso := sumsOk_y (t := t) (y := yearZ B) (mq_BS hm) c1.1 (by omega) hy.1 hy.2
        have hh := (mq_BS hm).2 t c1.1 (by omega)
        have hUB := hm.2.2.2.2.2.1.2.2.1
        have hUU := hm.2.2.2.2.2.2
        have hb : ∀ w : Int, 0 ≤ w → w < 5 → 0 ≤ ySum B t (yearZ B) w ∧ ySum B t (yearZ B) w ≤ 400000000 := fun w w0 w1 => by
          have hs := hso w w0 w1
          have b1 := hUB (1 + 320 * t + 5 * (4 * yearZ B) + w) (by omega) (by omega)
          have b2 := hUB (1 + 320 * t + 5 * (4 * yearZ B + 1) + w) (by omega) (by omega)
          have b3 := hUB (1 + 320 * t + 5 * (4 * yearZ B + 2) + w) (by omega) (by omega)
          have b4 := hUB (1 + 320 * t + 5 * (4 * yearZ B + 3) + w) (by omega) (by omega)
          unfold ySum at hs ⊢
          omega
        obtain ⟨S3, s3, gm⟩ := m_layYear (n := n) (B := B) (S := S') (ho := ho) (ha := ha) (sm := sm) (t := t) (y := yearZ B) (mq_h hmz) (by omega) (mq_BS hm) c1.1 (by omega) hy.1 hy.2
        have b3 : ∀ w : Int, 0 ≤ w → w < 5 → 0 ≤ S3 w ∧ S3 w ≤ 400000000 := fun w w0 w1 => by rw [s3 w w0 w1]; exact hb w w0 w1
        have eV : ∀ x : Int, nV T S2 x = nV T S3 x := fun x => by unfold nV; rw [s2 0 (by omega) (by omega), s2 1 (by omega) (by omega), s3 0 (by omega) (by omega), s3 1 (by omega) (by omega)]
        have eR : ∀ x : Int, nRes T S2 p x → nRes T S3 p x := fun x h => by unfold nRes at h ⊢; simp only [eV] at h; exact h
        have gw := c_withSales (n := n) (R := R) (xq_C hx) f2 hT.1 (by omega) (sumsOk_congr hso s2) (x := 99999999) (by omega)
        have gw : g_X6_fractionWithSales n (WX M c R F2 S2) (c + 60) 99999999 = some (zi (nV T S2 99999999), WX M c R F2 S2) := gw
        have rS0 : aJ (WC (sI M' 139 2 0) 0 B S3 (B (1281 + 2 * t)) (B (1282 + 2 * t)) sm) 148 0 = some (zj (S3 0)) := m_S (mq_h hmz) (w := 0) (by omega) (by omega)
        have gf := m_fraction (n := n) (B := B) (S := S3) (ho := B (1281 + 2 * t)) (ha := B (1282 + 2 * t)) (sm := sm) (t := t) (mq_h hmz) hT htr c1.1 (by omega) (sumsOk_congr hso s3) (by omega)
        have ev : frZ T tr t S3 (B (1281 + 2 * t)) (B (1282 + 2 * t)) = nV T S3 0 := by
          unfold frZ nV
          rw [c3, Int.add_zero]
          rfl
        rw [ev] at gf
        have q0 := b3 0 (by omega) (by omega)
        have q1 := b3 1 (by omega) (by omega)
        have r9 := nV_r (x := 99999999) hT q0.1 q1.1 (by omega)
        have r0 := nV_r (x := 0) hT q0.1 q1.1 (by omega)
        have X : ∃ u : Int, (∃ F1 S1, g_X9_need n (WX M c R F S) 0 (zi t) (zi p) = some (zi u, WX M c R F1 S1)) ∧ nRes T S3 p u := by
          have e9 : (zi p ≤ zi (nV T S2 99999999)) = (p ≤ nV T S3 99999999) := by rw [eV]; exact zi_le (by omega) (by omega) (by omega) (by omega)
          by_cases d : p ≤ nV T S3 99999999
          · obtain ⟨u, v, v', gl, hr⟩ := xq_need (n := n) (R := R) (F := F2) (S := S2) hx hT (by omega) c2 f2 (sumsOk_congr hso s2) (by rw [eV]; exact d)
            refine ⟨u, ⟨F2, S2, ?_⟩, eR u hr⟩
            dsimp only at gl
            unfold g_X9_need
            rw [xq_ko hx, xq_tr hx t1 t2, i_bd, if_neg z1, xq_o4 hx, i_sb, c_o0 (xq_C hx), i_sb, c_gR (xq_C hx), i_sb, u8, gX', i_bd, if_neg z2, xq_o4 hx, i_sb, c_o0 (xq_C hx), i_sb, c_r2 (xq_C hx), i_sb, c_a2 (xq_C hx) c1.1 (by omega), i_sb, um, if_pos em0, i_sb, i_sb, c_kC (xq_C hx), gy, i_bd, c_kC (xq_C hx), g2, i_bd, c_kF (xq_C hx), gw, i_bd, if_pos (by rw [e9]; exact d), gl]
            rfl
          · refine ⟨-2, ⟨F2, S2, ?_⟩, .inr ⟨rfl, fun y y0 y1 => ?_⟩⟩
            · unfold g_X9_need
              rw [xq_ko hx, xq_tr hx t1 t2, i_bd, if_neg z1, xq_o4 hx, i_sb, c_o0 (xq_C hx), i_sb, c_gR (xq_C hx), i_sb, u8, gX', i_bd, if_neg z2, xq_o4 hx, i_sb, c_o0 (xq_C hx), i_sb, c_r2 (xq_C hx), i_sb, c_a2 (xq_C hx) c1.1 (by omega), i_sb, um, if_pos em0, i_sb, i_sb, c_kC (xq_C hx), gy, i_bd, c_kC (xq_C hx), g2, i_bd, c_kF (xq_C hx), gw, i_bd, if_neg (by rw [e9]; exact d)]
              rfl
            · have := nV_mono (x := y) (y := 99999999) hT q0.1 q1.1 y0 y1
              omega
        have Y : ∃ u : Int, (∃ S1 ho1 ha1 sm1, g_X10_need n (WC M' 0 B S' ho ha sm) 139 (zi t) (zi p) = some (zi u, WC (sI M' 139 2 0) 0 B S1 ho1 ha1 sm1)) ∧ nRes T S3 p u := by
          have e0 : (zi (nV T S3 0) < zi p) = (nV T S3 0 < p) := zi_lt (by omega) (by omega) (by omega) (by omega)
          by_cases d : nV T S3 0 < p
          · obtain ⟨lo, hi, S4, gl, l0, lh, h8, v1, v2⟩ := mq_need (n := n) (S := S3) (sm := sm) hmz hn c1.1 c1.2 c2 c3 b3 d
            dsimp only at gl
            have ec : (lg_cmp (zj hi) 100000000 = 0) = (hi = 100000000) := by rw [lg_cmp_eq]; exact zj_eq (b := 100000000) (by omega) (by omega) (by omega) (by omega)
            have hlo : ∀ y : Int, 0 ≤ y → y ≤ lo → nV T S3 y < p := fun y y0 y1 => by
              have := nV_mono (x := y) (y := lo) hT q0.1 q1.1 y0 y1
              omega
            by_cases d2 : hi = 100000000
            · refine ⟨-2, ⟨S4, B (1281 + 2 * t), B (1282 + 2 * t), sm, ?_⟩, .inr ⟨rfl, fun y y0 y1 => hlo y y0 (by omega)⟩⟩
              unfold g_X10_need
              rw [m_thr0 (mq_h hm), i_sb, m_chk (mq_h hmz), mq_tr hmz t1 t2, i_bd, if_neg z1, m_told (mq_h hmz), i_sb, rT1, i_sb, gM', i_bd, if_neg z2, m_chk (mq_h hmz), rm1, i_bd, if_pos em0, m_chk (mq_h hmz), mq_y hmz, i_bd, m_chk (mq_h hmz), gm, i_bd, m_sum (mq_h hmz), i_sb, rS0, i_sb, m_chk (mq_h hmz), gf, i_bd, if_pos (by rw [e0]; exact d), gl, i_sb]
              dsimp only
              rw [if_pos (by rw [ec]; exact d2)]
              rfl
            · refine ⟨hi, ⟨S4, B (1281 + 2 * t), B (1282 + 2 * t), sm, ?_⟩, .inl ⟨by omega, by omega, v2.resolve_left d2, fun y y0 y1 => hlo y y0 (by omega)⟩⟩
              unfold g_X10_need
              rw [m_thr0 (mq_h hm), i_sb, m_chk (mq_h hmz), mq_tr hmz t1 t2, i_bd, if_neg z1, m_told (mq_h hmz), i_sb, rT1, i_sb, gM', i_bd, if_neg z2, m_chk (mq_h hmz), rm1, i_bd, if_pos em0, m_chk (mq_h hmz), mq_y hmz, i_bd, m_chk (mq_h hmz), gm, i_bd, m_sum (mq_h hmz), i_sb, rS0, i_sb, m_chk (mq_h hmz), gf, i_bd, if_pos (by rw [e0]; exact d), gl, i_sb]
              dsimp only
              rw [if_neg (by rw [ec]; exact d2), zj_32]
          · refine ⟨0, ⟨S3, B (1281 + 2 * t), B (1282 + 2 * t), sm, ?_⟩, .inl ⟨by omega, by omega, by omega, fun y y0 y1 => by omega⟩⟩
            unfold g_X10_need
            rw [m_thr0 (mq_h hm), i_sb, m_chk (mq_h hmz), mq_tr hmz t1 t2, i_bd, if_neg z1, m_told (mq_h hmz), i_sb, rT1, i_sb, gM', i_bd, if_neg z2, m_chk (mq_h hmz), rm1, i_bd, if_pos em0, m_chk (mq_h hmz), mq_y hmz, i_bd, m_chk (mq_h hmz), gm, i_bd, m_sum (mq_h hmz), i_sb, rS0, i_sb, m_chk (mq_h hmz), gf, i_bd, if_neg (by rw [e0]; exact d)]
            rfl
        obtain ⟨u, ⟨F1, S1, gx⟩, hu⟩ := X
        obtain ⟨u', ⟨S5, ho5, ha5, sm5, gy5⟩, hu'⟩ := Y
        rw [← nRes_eq hu hu'] at gy5
        exact qp_mk u gx gy5
      · have em0 : ¬ (zi (tr (8 * t + 1)) = (0 : Int32)) := by rw [em]; exact c3
        refine qp_mk (-2) (F1 := F) (S1 := S) (S2 := S') (ho2 := ho) (ha2 := ha) (sm2 := sm) ?_ ?_
        · unfold g_X9_need
          rw [xq_ko hx, xq_tr hx t1 t2, i_bd, if_neg z1, xq_o4 hx, i_sb, c_o0 (xq_C hx), i_sb, c_gR (xq_C hx), i_sb, u8, gX', i_bd, if_neg z2, xq_o4 hx, i_sb, c_o0 (xq_C hx), i_sb, c_r2 (xq_C hx), i_sb, c_a2 (xq_C hx) c1.1 (by omega), i_sb, um, if_neg em0]
          rfl
        · unfold g_X10_need
          rw [m_thr0 (mq_h hm), i_sb, m_chk (mq_h hmz), mq_tr hmz t1 t2, i_bd, if_neg z1, m_told (mq_h hmz), i_sb, rT1, i_sb, gM', i_bd, if_neg z2, m_chk (mq_h hmz), rm1, i_bd, if_neg em0]
          rfl
    · have z2 : bI2 (0 ≤ p ∧ p ≤ T 1) = (0 : Int32) := (bI_0 _).mpr c2
      refine qp_mk (-1) (F1 := F) (S1 := S) (S2 := S') (ho2 := ho) (ha2 := ha) (sm2 := sm) ?_ ?_
      · unfold g_X9_need
        rw [xq_ko hx, xq_tr hx t1 t2, i_bd, if_neg z1, xq_o4 hx, i_sb, c_o0 (xq_C hx), i_sb, c_gR (xq_C hx), i_sb, u8, gX', i_bd, if_pos z2]
        rfl
      · unfold g_X10_need
        rw [m_thr0 (mq_h hm), i_sb, m_chk (mq_h hmz), mq_tr hmz t1 t2, i_bd, if_neg z1, m_told (mq_h hmz), i_sb, rT1, i_sb, gM', i_bd, if_pos z2]
        rfl
  · have hmz := mq_thr0 (v := (0 : Int32)) hm
    have e0 : bI2 (0 ≤ t ∧ t < nt) = (0 : Int32) := (bI_0 (0 ≤ t ∧ t < nt)).mpr c1
    refine qp_mk (-1) (F1 := F) (S1 := S) (S2 := S') (ho2 := ho) (ha2 := ha) (sm2 := sm) ?_ ?_
    · unfold g_X9_need
      rw [xq_ko hx, xq_tr hx t1 t2, i_bd, if_pos e0]
      rfl
    · unfold g_X10_need
      rw [m_thr0 (mq_h hm), i_sb, m_chk (mq_h hmz), mq_tr hmz t1 t2, i_bd, if_pos e0]
      rfl
end Q14
