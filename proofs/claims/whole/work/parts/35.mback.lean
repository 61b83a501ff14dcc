/-! ===== PURE 5: the reference: what comes back; a quarter, a year looked at ===== -/
def told3 (T : Int → Int) : Prop := (0 ≤ T 0 ∧ T 0 ≤ 2) ∧ (10 ≤ T 1 ∧ T 1 ≤ 1000) ∧ (0 ≤ T 2 ∧ T 2 ≤ 9999)
section MBACK
variable {M : MemT} {bk nt : Int} {T tr sl bu as B S : Int → Int} {ho ha : Int} {sm : Int32} {n : Nat}
theorem lg_gt (x y : Int64) : (0 < lg_cmp x y) = (y < x) := propext (lg_cmp_gt x y)
theorem m_backBy (h : MOk M bk nt T tr sl bu as) {f w s lim : Int} (hf : 0 ≤ f ∧ f ≤ 1000) (hw : 0 ≤ w ∧ w ≤ 2) (hs : 0 < s ∧ s ≤ 1000) (hl : r31 lim) (hS : sumsOk S) : g_X10_backBy n (WC M bk B S ho ha sm) 139 (zi f) (zi w) (zi s) (zi lim) = some (zi (backZ w s lim S f), WC M bk B S ho ha (smallI w s lim S f)) := by
  unfold g_X10_backBy
  have s2 := hS 2 (by omega) (by omega)
  have s3 := hS 3 (by omega) (by omega)
  have s4 := hS 4 (by omega) (by omega)
  obtain ⟨hl1, hl2⟩ := hl
  have r2 : ∀ sm, aJ (WC M bk B S ho ha sm) 148 2 = some (zj (S 2)) := fun sm => m_S h (w := 2) (by omega) (by omega)
  have r3 : ∀ sm, aJ (WC M bk B S ho ha sm) 148 3 = some (zj (S 3)) := fun sm => m_S h (w := 3) (by omega) (by omega)
  have r4 : ∀ sm, aJ (WC M bk B S ho ha sm) 148 4 = some (zj (S 4)) := fun sm => m_S h (w := 4) (by omega) (by omega)
  have hp1 : 0 ≤ S 4 * f := Int.mul_nonneg s4.1 hf.1
  have hp2 : S 4 * f ≤ 1099511627776 * 1000 := Int.mul_le_mul s4.2 hf.2 hf.1 (by omega)
  have hc := cutZ_abs (w := w) (a := S 4 * f) (b := s) hs.1
  have e64f : (zi f).toInt64 = zj f := zi_64 (by omega) (by omega)
  have e64s : (zi s).toInt64 = zj s := zi_64 (by omega) (by omega)
  have e64l : (zi lim).toInt64 = zj lim := zi_64 hl1 hl2
  have e2 : (2 : Int64) = zj 2 := rfl
  simp only [i_jp, m_sum h, i_sb, r2, r3, r4, e64f, e64s, e64l, zj_mul]
  rw [m_cutBy n _ (by omega) (by omega) hs.1 (by omega) hw.1 hw.2, i_bd]
  simp only [m_sum h, i_sb, r2, r3, r4, zj_add, zj_sub, e2, zj_mul, lg_gt]
  have hbk : ∀ v : Int32, (v = 0 ∨ v = 1) → pZ (WC M bk B S ho ha sm) 8 139 27 v = some (WC M bk B S ho ha v) := fun v hv => by
    rw [i_pZ (M := WC M bk B S ho ha sm) h.1.1 hv, w_setsm]
  have hgi : ∀ v : Int32, gI (WC M bk B S ho ha v) 8 139 27 = some v := fun v => i_gI (M := WC M bk B S ho ha v) h.1.1
  have k1 : (zj lim < zj (S 2 + S 3 + S 4 - (S 2 + cutZ w (S 4 * f) s))) = (lim < S 2 + S 3 + S 4 - (S 2 + cutZ w (S 4 * f) s)) := zj_lt (by omega) (by omega) (by omega) (by omega)
  have k2 : (zj (S 2 + S 3 + S 4) < zj (2 * (S 2 + S 3 + S 4 - (S 2 + cutZ w (S 4 * f) s)))) = (S 2 + S 3 + S 4 < 2 * (S 2 + S 3 + S 4 - (S 2 + cutZ w (S 4 * f) s))) := zj_lt (by omega) (by omega) (by omega) (by omega)
  simp only [k1, k2]
  unfold backZ smallI wholeZ itsZ
  by_cases c1 : lim < S 2 + S 3 + S 4 - (S 2 + cutZ w (S 4 * f) s)
  · rw [if_pos c1, if_neg (by omega), if_neg (by omega), hbk 0 (Or.inl rfl), i_sb, hgi, i_sb, if_pos rfl, zj_32]
  · rw [if_neg c1]
    by_cases c2 : S 2 + S 3 + S 4 < 2 * (S 2 + S 3 + S 4 - (S 2 + cutZ w (S 4 * f) s))
    · rw [if_pos c2, if_neg (by omega), if_neg (by omega), hbk 0 (Or.inl rfl), i_sb, hgi, i_sb, if_pos rfl, zj_32]
    · rw [if_neg c2, if_pos (by omega), if_pos (by omega), hbk 1 (Or.inr rfl), i_sb, hgi, i_sb, if_neg (by decide), zj_32]
theorem m_back1 (h : MOk M bk nt T tr sl bu as) (hT : told3 T) {f lim : Int} (hf : 0 ≤ f ∧ f ≤ 1000) (hl : r31 lim) (hS : sumsOk S) : g_X10_back1 n (WC M bk B S ho ha sm) 139 (zi f) (zi lim) = some (zi (backZ (T 0) (T 1) lim S f), WC M bk B S ho ha (smallI (T 0) (T 1) lim S f)) := by
  obtain ⟨t0, t1, t2⟩ := hT
  unfold g_X10_back1
  have r0 : aI (WC M bk B S ho ha sm) 10 146 0 = some (zi (T 0)) := m_T h (w := 0) (by omega) (by omega)
  have r1 : aI (WC M bk B S ho ha sm) 10 146 1 = some (zi (T 1)) := m_T h (w := 1) (by omega) (by omega)
  rw [m_told h, i_sb, r0, i_sb, i_sb, r1, i_sb, m_chk h, m_backBy h hf t0 (by omega) hl hS, i_bd]
def trOk (tr : Int → Int) : Prop := ∀ t : Int, 0 ≤ t → t < 4 → (0 ≤ tr (8 * t + 1) ∧ tr (8 * t + 1) ≤ 2) ∧ (0 ≤ tr (8 * t + 2) ∧ tr (8 * t + 2) ≤ 1) ∧ (0 ≤ tr (8 * t + 6) ∧ tr (8 * t + 6) ≤ 1) ∧ (0 ≤ tr (8 * t + 7) ∧ tr (8 * t + 7) ≤ 1000)
/-- ANNUAL, PROVISIONAL of the sums that are laid -/
def frZ (T tr : Int → Int) (t : Int) (S : Int → Int) (ho ha : Int) : Int := fracZ (T 0) (T 1) (ownZ (tr (8 * t + 1)) S ho) (allZ (tr (8 * t + 1)) S ha)
theorem m_fraction (h : MOk M bk nt T tr sl bu as) (hT : told3 T) (htr : trOk tr) {t : Int} (h0 : 0 ≤ t) (h1 : t < 4) (hS : sumsOk S) (hh : 0 ≤ ho ∧ ho ≤ 1000000 ∧ 0 ≤ ha ∧ ha ≤ 1000000) : g_X10_fraction n (WC M bk B S ho ha sm) 139 (zi t) = some (zi (frZ T tr t S ho ha), WC M bk B S ho ha sm) := by
  obtain ⟨t0, t1, t2⟩ := hT
  unfold g_X10_fraction
  have r0 : aI (WC M bk B S ho ha sm) 10 146 0 = some (zi (T 0)) := m_T h (w := 0) (by omega) (by omega)
  have r1 : aI (WC M bk B S ho ha sm) 10 146 1 = some (zi (T 1)) := m_T h (w := 1) (by omega) (by omega)
  have r2 : g_X10_told1 n (WC M bk B S ho ha sm) 139 (zi t) 1 = _ := m_told1 h (w := 1) h0 h1 (by omega) (by omega)
  rw [m_chk h, r2, i_bd, m_told h, i_sb, r0, i_sb, i_sb, r1, i_sb, m_chk h, m_fractionBy h (htr t h0 h1).1 t0 (by omega) hS hh, i_bd]
  rfl
/-- ranges of a bank: sums, heads -/
def BS (B : Int → Int) : Prop := (∀ k : Int, 1 ≤ k → k < 1281 → 0 ≤ B k ∧ B k ≤ 2147483647) ∧ (∀ t : Int, 0 ≤ t → t < 4 → 0 ≤ B (1281 + 2 * t) ∧ B (1281 + 2 * t) ≤ B (1282 + 2 * t) ∧ B (1282 + 2 * t) ≤ 999)
theorem m_layQuarter (h : MOk M bk nt T tr sl bu as) (hn : 5 < n) (hB : BS B) {t q : Int} (h0 : 0 ≤ t) (h1 : t < 4) (h2 : 0 ≤ q) (h3 : q < 64) : ∃ S1, (∀ w : Int, 0 ≤ w → w < 5 → S1 w = B (1 + 320 * t + 5 * q + w)) ∧ g_X10_layQuarter n (WC M bk B S ho ha sm) 139 (zi t) (zi q) = some ((), WC M bk B S1 (B (1281 + 2 * t)) (B (1282 + 2 * t)) sm) := by
  refine ⟨aS B (zS S 5) t q 5, fun w hw1 hw2 => ?_, ?_⟩
  · unfold aS zS
    rw [if_pos (by omega), if_pos (by omega)]; omega
  · obtain ⟨b1, b2⟩ := hB
    have b3 := b2 t h0 h1
    unfold g_X10_layQuarter
    rw [m_chk h, m_layNone h hn, i_bd, m_chk h, m_addQuarter h hn h0 h1 h2 h3 (fun w hw1 hw2 => by
      have := b1 (1 + 320 * t + 5 * q + w) (by omega) (by omega)
      exact ⟨by omega, by omega⟩), i_bd, m_chk h, m_addHeads h h0 h1 ⟨⟨by omega, by omega⟩, by omega, by omega⟩, i_bd]
    simp only [Int.zero_add]
def ySum (B : Int → Int) (t y w : Int) : Int := B (1 + 320 * t + 5 * (4 * y) + w) + B (1 + 320 * t + 5 * (4 * y + 1) + w) + B (1 + 320 * t + 5 * (4 * y + 2) + w) + B (1 + 320 * t + 5 * (4 * y + 3) + w)
theorem aS_at {B S : Int → Int} {t q w : Int} (hw1 : 0 ≤ w) (hw2 : w < 5) : aS B S t q 5 w = S w + B (1 + 320 * t + 5 * q + w) := by
  unfold aS
  rw [if_pos (by omega)]
def yS (B S : Int → Int) (t y : Int) : Nat → Int → Int
  | 0 => zS S 5
  | k + 1 => aS B (yS B S t y k) t (4 * y + k) 5
theorem m_layYear (h : MOk M bk nt T tr sl bu as) (hn : 5 < n) (hB : BS B) {t y : Int} (h0 : 0 ≤ t) (h1 : t < 4) (h2 : 0 ≤ y) (h3 : y < 16) : ∃ S1, (∀ w : Int, 0 ≤ w → w < 5 → S1 w = ySum B t y w) ∧ g_X10_layYear n (WC M bk B S ho ha sm) 139 (zi t) (zi y) = some ((), WC M bk B S1 (B (1281 + 2 * t)) (B (1282 + 2 * t)) sm) := by
  obtain ⟨b1, b2⟩ := hB
  have b3 := b2 t h0 h1
  have hq : ∀ q : Int, 0 ≤ q → q < 64 → ∀ w : Int, 0 ≤ w → w < 5 → r31 (B (1 + 320 * t + 5 * q + w)) := fun q hq1 hq2 w hw1 hw2 => by
    have := b1 (1 + 320 * t + 5 * q + w) (by omega) (by omega)
    exact ⟨by omega, by omega⟩
  refine ⟨yS B S t y 4, fun w hw1 hw2 => ?_, ?_⟩
  · show aS B (aS B (aS B (aS B (zS S 5) t (4 * y + ((0 : Nat) : Int)) 5) t (4 * y + ((1 : Nat) : Int)) 5) t (4 * y + ((2 : Nat) : Int)) 5) t (4 * y + ((3 : Nat) : Int)) 5 w = _
    rw [aS_at hw1 hw2, aS_at hw1 hw2, aS_at hw1 hw2, aS_at hw1 hw2]
    unfold zS ySum
    rw [if_pos (by omega), show (4 * y + ((0 : Nat) : Int)) = 4 * y by omega]
    simp only [Int.natCast_one, Int.zero_add, Int.cast_ofNat_Int]
    try rfl
  · unfold g_X10_layYear
    rw [m_chk h, m_layNone h hn, i_bd]
    have e4 : (4 : Int32) * zi y = zi (4 * y) := zi_mul 4 y
    have e44 : zi (4 * y) + 4 = zi (4 * y + 4) := zi_add (4 * y) 4
    simp only [e4, e44]
    have e0 : (WC M bk B (zS S 5) 0 0 sm, zi (4 * y)) = (fun i : Nat => (WC M bk B (yS B S t y i) 0 0 sm, zi (4 * y + i))) 0 := by
      show _ = (WC M bk B (zS S 5) 0 0 sm, zi (4 * y + ((0 : Nat) : Int)))
      rw [show (4 * y + ((0 : Nat) : Int)) = 4 * y by omega]
    rw [e0, loop_k (fun i : Nat => (WC M bk B (yS B S t y i) 0 0 sm, zi (4 * y + i))) (WC M bk B (yS B S t y 4) 0 0 sm, zi (4 * y + 4)) 4 (fun i hi => ?_) ?_ n (by omega), i_sb]
    · dsimp only
      rw [m_chk h, m_addHeads h h0 h1 ⟨⟨by omega, by omega⟩, by omega, by omega⟩, i_bd]
      simp only [Int.zero_add]
    · dsimp only
      rw [if_pos (by show zi (4 * y + 4) ≤ zi (4 * y + ((4 : Nat) : Int)); exact Int32.le_refl _)]; rfl
    · dsimp only
      rw [if_neg (by rw [zi_le (by omega) (by omega) (by omega) (by omega)]; omega), m_chk h, m_addQuarter h hn h0 h1 (by omega) (by omega) (hq _ (by omega) (by omega)), i_bd]
      show some (Sum.inl (_, zi (4 * y + i) + zi 1)) = some (Sum.inl (WC M bk B (aS B (yS B S t y i) t (4 * y + i) 5) 0 0 sm, zi (4 * y + ((i + 1 : Nat) : Int))))
      rw [zi_add, show (4 * y + (i : Int) + 1) = 4 * y + ((i + 1 : Nat) : Int) by omega]
end MBACK
