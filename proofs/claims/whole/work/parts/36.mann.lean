/-! ===== PURE 6: the reference: ANNUAL, PROVISIONAL ===== -/
def qSum (B : Int → Int) (t q w : Int) : Int := B (1 + 320 * t + 5 * q + w)
def yearZ (B : Int → Int) : Int := B 0 / 4
def BN (B : Int → Int) : Prop := 0 ≤ B 0 ∧ B 0 < 64
def annZ (T tr B : Int → Int) (t y : Int) : Int := if y < yearZ B then B (1801 + 16 * t + y) else frZ T tr t (ySum B t y) (B (1281 + 2 * t)) (B (1282 + 2 * t))
def firZ (T tr : Int → Int) (t : Int) : Int := if T 1 ≤ tr (8 * t + 7) then T 1 else tr (8 * t + 7)
def provZ (T tr B : Int → Int) (t q basis : Int) : Int := if basis = 0 then frZ T tr t (qSum B t q) (B (1281 + 2 * t)) (B (1282 + 2 * t)) else if q < 4 then (if tr (8 * t + 6) = 1 then firZ T tr t else frZ T tr t (qSum B t q) (B (1281 + 2 * t)) (B (1282 + 2 * t))) else B (1801 + 16 * t + q / 4 - 1)
theorem frZ_congr {T tr S S1 : Int → Int} {t ho ha : Int} (h : ∀ w : Int, 0 ≤ w → w < 5 → S1 w = S w) : frZ T tr t S1 ho ha = frZ T tr t S ho ha := by
  unfold frZ ownZ allZ
  rw [h 0 (by omega) (by omega), h 1 (by omega) (by omega), h 2 (by omega) (by omega), h 3 (by omega) (by omega)]
theorem backZ_congr {w s l f : Int} {S S1 : Int → Int} (h : ∀ w : Int, 0 ≤ w → w < 5 → S1 w = S w) : backZ w s l S1 f = backZ w s l S f := by
  unfold backZ wholeZ itsZ
  rw [h 2 (by omega) (by omega), h 3 (by omega) (by omega), h 4 (by omega) (by omega)]
theorem smallI_congr {w s l f : Int} {S S1 : Int → Int} (h : ∀ w : Int, 0 ≤ w → w < 5 → S1 w = S w) : smallI w s l S1 f = smallI w s l S f := by
  unfold smallI wholeZ itsZ
  rw [h 2 (by omega) (by omega), h 3 (by omega) (by omega), h 4 (by omega) (by omega)]
theorem cutZ_mono {w a b c : Int} (hb : 0 < b) (h0 : 0 ≤ a) (h : a ≤ c * b) (hw : 0 ≤ w ∧ w ≤ 2) : 0 ≤ cutZ w a b ∧ cutZ w a b ≤ c := by
  unfold cutZ
  split
  · exact ⟨Int.ediv_nonneg h0 (by omega), Int.ediv_le_of_le_mul hb h⟩
  · split
    · have h1 : -a / b ≤ 0 := by
        have := Int.ediv_le_ediv hb (show -a ≤ 0 by omega)
        rw [Int.zero_ediv] at this; exact this
      have h2 : -c ≤ -a / b := by
        rw [Int.le_ediv_iff_mul_le hb, Int.neg_mul]; omega
      omega
    · refine ⟨Int.ediv_nonneg (by omega) (by omega), ?_⟩
      have h3 : (2 * a + b) / (2 * b) < c + 1 := by
        apply Int.ediv_lt_of_lt_mul (by omega)
        have e : (c + 1) * (2 * b) = 2 * (c * b) + 2 * b := by
          rw [Int.add_mul, Int.one_mul, ← Int.mul_assoc, Int.mul_comm c 2, Int.mul_assoc]
        omega
      omega
theorem fracZ_rng {w s o a : Int} (hs : 0 < s) (ho : 0 ≤ o) (hoa : o ≤ a) (hw : 0 ≤ w ∧ w ≤ 2) : 0 ≤ fracZ w s o a ∧ fracZ w s o a ≤ s := by
  unfold fracZ
  split
  · omega
  · exact cutZ_mono (by omega) (Int.mul_nonneg (by omega) ho) (Int.mul_le_mul_of_nonneg_left hoa (by omega)) hw
theorem frZ_rng {T tr S : Int → Int} {t ho ha : Int} (hT : told3 T) (hS : sumsOk S) (h0 : 0 ≤ ho) (h1 : ho ≤ ha) : 0 ≤ frZ T tr t S ho ha ∧ frZ T tr t S ho ha ≤ T 1 := by
  obtain ⟨t0, t1, t2⟩ := hT
  have s0 := hS 0 (by omega) (by omega)
  have s1 := hS 1 (by omega) (by omega)
  have s2 := hS 2 (by omega) (by omega)
  have s3 := hS 3 (by omega) (by omega)
  unfold frZ ownZ allZ
  refine fracZ_rng (by omega) ?_ ?_ t0
  · split
    · omega
    · split <;> omega
  · split
    · omega
    · split <;> omega
theorem sumsOk_y {B : Int → Int} {t y : Int} (hB : BS B) (h0 : 0 ≤ t) (h1 : t < 4) (h2 : 0 ≤ y) (h3 : y < 16) : sumsOk (ySum B t y) := by
  intro w hw1 hw2
  have b1 := hB.1 (1 + 320 * t + 5 * (4 * y) + w) (by omega) (by omega)
  have b2 := hB.1 (1 + 320 * t + 5 * (4 * y + 1) + w) (by omega) (by omega)
  have b3 := hB.1 (1 + 320 * t + 5 * (4 * y + 2) + w) (by omega) (by omega)
  have b4 := hB.1 (1 + 320 * t + 5 * (4 * y + 3) + w) (by omega) (by omega)
  unfold ySum
  omega
theorem sumsOk_q {B : Int → Int} {t q : Int} (hB : BS B) (h0 : 0 ≤ t) (h1 : t < 4) (h2 : 0 ≤ q) (h3 : q < 64) : sumsOk (qSum B t q) := by
  intro w hw1 hw2
  have b1 := hB.1 (1 + 320 * t + 5 * q + w) (by omega) (by omega)
  unfold qSum
  omega
theorem sumsOk_congr {S S1 : Int → Int} (hS : sumsOk S) (h : ∀ w : Int, 0 ≤ w → w < 5 → S1 w = S w) : sumsOk S1 := fun w h1 h2 => by
  rw [h w h1 h2]; exact hS w h1 h2
section MANN
variable {M : MemT} {bk nt : Int} {T tr sl bu as B S : Int → Int} {ho ha : Int} {sm : Int32} {n : Nat}
theorem m_year (h : MOk M bk nt T tr sl bu as) (hN : BN B) : g_X10_year n (WC M bk B S ho ha sm) 139 = some (zi (yearZ B), WC M bk B S ho ha sm) := by
  unfold g_X10_year
  obtain ⟨n1, n2⟩ := hN
  rw [m_chk h, show ((0 : Int32)) = zi 0 from rfl, m_of h (by omega) (by omega), i_bd, if_neg (by decide)]
  show some (zi (B 0) / zi 4, _) = _
  rw [zi_div n1 (by omega) (by omega) (by omega)]
  rfl
theorem m_annualOf (h : MOk M bk nt T tr sl bu as) (hT : told3 T) (htr : trOk tr) (hn : 5 < n) (hB : BS B) (hN : BN B) {t y : Int} (h0 : 0 ≤ t) (h1 : t < 4) (h2 : 0 ≤ y) (h3 : y < 16) : ∃ S1, (∀ w : Int, 0 ≤ w → w < 5 → S1 w = ySum B t y w) ∧ g_X10_annualOf n (WC M bk B S ho ha sm) 139 (zi t) (zi y) = some (zi (annZ T tr B t y), WC M bk B S1 (B (1281 + 2 * t)) (B (1282 + 2 * t)) sm) := by
  obtain ⟨S1, hS1, hg⟩ := m_layYear (n := n) (S := S) (ho := ho) (ha := ha) (sm := sm) h hn hB h0 h1 h2 h3
  refine ⟨S1, hS1, ?_⟩
  have hy : 0 ≤ yearZ B ∧ yearZ B < 16 := by unfold yearZ; obtain ⟨n1, n2⟩ := hN; omega
  have hh := hB.2 t h0 h1
  unfold g_X10_annualOf annZ
  rw [m_chk h, hg, i_bd, m_chk h, m_year h hN, i_bd]
  have e1 : (zi (yearZ B) ≤ zi y) = (yearZ B ≤ y) := zi_le (by omega) (by omega) (by omega) (by omega)
  simp only [e1]
  by_cases hc : yearZ B ≤ y
  · rw [if_pos hc, if_neg (by omega), m_chk h, m_fraction h hT htr h0 h1 (sumsOk_congr (sumsOk_y hB h0 h1 h2 h3) hS1) (by omega), i_bd, frZ_congr hS1]
  · rw [if_neg hc, if_pos (by omega), m_chk h]
    show bd (g_X10_of n _ 139 (zi 1801 + zi 16 * zi t + zi y)) _ = _
    rw [zi_mul, zi_add, zi_add, m_of h (by omega) (by omega), i_bd]
theorem m_firstOf (h : MOk M bk nt T tr sl bu as) (hT : told3 T) (htr : trOk tr) {t : Int} (h0 : 0 ≤ t) (h1 : t < 4) : g_X10_firstOf n (WC M bk B S ho ha sm) 139 (zi t) = some (zi (firZ T tr t), WC M bk B S ho ha sm) := by
  obtain ⟨t0, t1, t2⟩ := hT
  have h7 := (htr t h0 h1).2.2.2
  unfold g_X10_firstOf firZ
  have r1 : aI (WC M bk B S ho ha sm) 10 146 1 = some (zi (T 1)) := m_T h (w := 1) (by omega) (by omega)
  have r7 : g_X10_told1 n (WC M bk B S ho ha sm) 139 (zi t) 7 = _ := m_told1 h (w := 7) h0 h1 (by omega) (by omega)
  have e1 : (zi (T 1) ≤ zi (tr (8 * t + 7))) = (T 1 ≤ tr (8 * t + 7)) := zi_le (by omega) (by omega) (by omega) (by omega)
  rw [m_chk h, r7, i_bd, m_told h, i_sb, r1, i_sb]
  simp only [e1]
  by_cases hc : T 1 ≤ tr (8 * t + 7)
  · rw [if_pos hc, if_pos hc, i_sb, r1, i_sb]
  · rw [if_neg hc, if_neg hc, m_chk h, r7, i_bd]
theorem m_provisionalBy (h : MOk M bk nt T tr sl bu as) (hT : told3 T) (htr : trOk tr) (hn : 5 < n) (hB : BS B) {t q bs : Int} (h0 : 0 ≤ t) (h1 : t < 4) (h2 : 0 ≤ q) (h3 : q < 64) (hb : 0 ≤ bs ∧ bs ≤ 1) : ∃ S1, (∀ w : Int, 0 ≤ w → w < 5 → S1 w = qSum B t q w) ∧ g_X10_provisionalBy n (WC M bk B S ho ha sm) 139 (zi t) (zi q) (zi bs) = some (zi (provZ T tr B t q bs), WC M bk B S1 (B (1281 + 2 * t)) (B (1282 + 2 * t)) sm) := by
  obtain ⟨S1, hS1, hg⟩ := m_layQuarter (n := n) (S := S) (ho := ho) (ha := ha) (sm := sm) h hn hB h0 h1 h2 h3
  refine ⟨S1, hS1, ?_⟩
  have hh := hB.2 t h0 h1
  have hf := m_fraction (n := n) (sm := sm) (B := B) h hT htr h0 h1 (sumsOk_congr (sumsOk_q hB h0 h1 h2 h3) hS1) (show 0 ≤ B (1281 + 2 * t) ∧ B (1281 + 2 * t) ≤ 1000000 ∧ 0 ≤ B (1282 + 2 * t) ∧ B (1282 + 2 * t) ≤ 1000000 by omega)
  rw [frZ_congr (S := qSum B t q) hS1] at hf
  have r6 : g_X10_told1 n (WC M bk B S1 (B (1281 + 2 * t)) (B (1282 + 2 * t)) sm) 139 (zi t) 6 = _ := m_told1 h (w := 6) h0 h1 (by omega) (by omega)
  have h6 := (htr t h0 h1).2.2.1
  have e0 : (zi bs = 0) = (bs = 0) := zi_eq (b := 0) (by omega) (by omega) (by omega) (by omega)
  have e1 : (zi bs = 1) = (bs = 1) := zi_eq (b := 1) (by omega) (by omega) (by omega) (by omega)
  have e4 : (zi q < 4) = (q < 4) := zi_lt (b := 4) (by omega) (by omega) (by omega) (by omega)
  have e6 : (zi (tr (8 * t + 6)) = 1) = (tr (8 * t + 6) = 1) := zi_eq (b := 1) (by omega) (by omega) (by omega) (by omega)
  unfold g_X10_provisionalBy provZ
  simp only [i_jp, e0, e1, e4]
  have hoA : q ≥ 4 → g_X10_of n (WC M bk B S ho ha sm) 139 (1801 + 16 * zi t + zi q / 4 - 1) = some (zi (B (1801 + 16 * t + q / 4 - 1)), WC M bk B S ho ha sm) := fun hq => by
    show g_X10_of n _ 139 (zi 1801 + zi 16 * zi t + zi q / zi 4 - zi 1) = _
    rw [zi_mul, zi_add, zi_div h2 (by omega) (by omega) (by omega), zi_add, zi_sub, m_of h (by omega) (by omega)]
  by_cases c0 : bs = 0
  · simp only [c0, show ¬ (0 : Int) = 1 by omega, if_false, if_true]
    rw [m_chk h, hg, i_bd, m_chk h, hf, i_bd]
  · have c1 : bs = 1 := by omega
    simp only [c1, show ¬ (1 : Int) = 0 by omega, if_false, if_true]
    by_cases c4 : q < 4
    · simp only [c4, if_true]
      rw [m_chk h, hg, i_bd, m_chk h, r6, i_bd]
      simp only [e6]
      by_cases c6 : tr (8 * t + 6) = 1
      · rw [if_pos c6, if_pos c6, m_chk h, m_firstOf h hT htr h0 h1, i_bd]
      · rw [if_neg c6, if_neg c6, m_chk h, hf, i_bd]
    · simp only [c4, if_false]
      rw [if_neg (by decide), m_chk h, hoA (by omega), i_bd, m_chk h, hg, i_bd]
end MANN
