/-! ===== PURE 19: a quarter's close: each trader ===== -/
def ANr (T B : Int → Int) : Prop := ∀ t y : Int, 0 ≤ t → t < 4 → 0 ≤ y → y < yearZ B → 0 ≤ B (1801 + 16 * t + y) ∧ B (1801 + 16 * t + y) ≤ T 1
def qF (T tr B : Int → Int) (k q : Int) : Int := provZ T tr B k q (tr (8 * k + 2))
def qV (T tr B : Int → Int) (k q : Int) : Int := backZ (T 0) (T 1) (T 2 / 4) (qSum B k q) (qF T tr B k q)
def qL (T tr B : Int → Int) (k q : Int) : Int → Int := upZ (upZ B (1289 + 64 * k + q) (qF T tr B k q)) (1545 + 64 * k + q) (qV T tr B k q)
def qTr (T tr B : Int → Int) (q : Int) : Nat → Int → Int
  | 0 => B
  | k + 1 => bookZ (qL T tr (qTr T tr B q k) k q) k 0 (qV T tr (qTr T tr B q k) k q) (-2)
def qKeep (B B1 : Int → Int) : Prop := (∀ i : Int, (i < 1289 ∨ (1801 ≤ i ∧ i ≤ 1865) ∨ 2084 ≤ i) → B1 i = B i) ∧ 0 ≤ B1 1867 ∧ B1 1867 ≤ 40
theorem qTr_keep {T tr B : Int → Int} {q : Int} (hq : 0 ≤ q ∧ q < 64) (hK : 0 ≤ B 1867 ∧ B 1867 ≤ 40) : ∀ k : Nat, k ≤ 4 → qKeep B (qTr T tr B q k) := by
  intro k
  induction k with
  | zero => intro _; exact ⟨fun i _ => rfl, hK⟩
  | succ k ih =>
    intro hk
    obtain ⟨i1, i2⟩ := ih (by omega)
    have hk1 : 0 ≤ qL T tr (qTr T tr B q k) k q 1867 ∧ qL T tr (qTr T tr B q k) k q 1867 ≤ 40 := by
      unfold qL
      rw [upZ_ne (by omega), upZ_ne (by omega)]; exact i2
    refine ⟨fun i hi => ?_, book_kept (by omega) (by omega) hk1⟩
    have hl : qL T tr (qTr T tr B q k) k q i = qTr T tr B q k i := by
      unfold qL
      rw [upZ_ne (by omega), upZ_ne (by omega)]
    rcases Int.lt_or_le i 1866 with c | c
    · exact ((book_lo (by omega) (by omega) c).trans hl).trans (i1 i hi)
    · exact ((book_hi (by omega) (by omega) (by omega) (by omega) hk1 (by omega)).trans hl).trans (i1 i hi)
theorem BS_q {B B1 : Int → Int} (h : qKeep B B1) (hB : BS B) : BS B1 :=
  ⟨fun k k1 k2 => by rw [h.1 k (by omega)]; exact hB.1 k k1 k2, fun t t1 t2 => by rw [h.1 _ (by omega), h.1 _ (by omega)]; exact hB.2 t t1 t2⟩
theorem ANr_q {T B B1 : Int → Int} (h : qKeep B B1) (hN : BN B) (hA : ANr T B) : ANr T B1 := by
  have hy1 : yearZ B1 = yearZ B := congrArg (· / 4) (h.1 0 (by omega))
  intro t y t0 t1 y0 y1
  rw [hy1] at y1
  obtain ⟨n1, n2⟩ := hN
  have hyr : yearZ B < 16 := by unfold yearZ; omega
  rw [h.1 _ (by omega)]
  exact hA t y t0 t1 y0 y1
theorem provZ_rng {T tr B : Int → Int} {t q bs : Int} (hT : told3 T) (htr : trOk tr) (hB : BS B) (hA : ANr T B) (h0 : 0 ≤ t) (h1 : t < 4) (h2 : 0 ≤ q) (h3 : q < 64) (hq : q ≤ B 0) : 0 ≤ provZ T tr B t q bs ∧ provZ T tr B t q bs ≤ T 1 := by
  have hh := hB.2 t h0 h1
  have hf := frZ_rng (tr := tr) (t := t) hT (sumsOk_q hB h0 h1 h2 h3) hh.1 hh.2.1
  have h7 := (htr t h0 h1).2.2.2
  have t1 := hT.2.1
  unfold provZ
  split
  · exact hf
  · split
    · split
      · unfold firZ
        split <;> omega
      · exact hf
    · have := hA t (q / 4 - 1) h0 h1 (by omega) (by unfold yearZ; omega)
      rw [show 1801 + 16 * t + (q / 4 - 1) = 1801 + 16 * t + q / 4 - 1 by omega] at this
      exact this
section MQ
variable {M : MemT} {bk nt : Int} {T tr sl bu as B S : Int → Int} {ho ha : Int} {sm : Int32} {n : Nat}
theorem m_gnt (h : MOk M bk nt T tr sl bu as) : gI (WC M bk B S ho ha sm) 8 139 11 = some (zi nt) := by
  rw [i_gI (M := WC M bk B S ho ha sm) h.1.1, w_I (by decide) (by decide), h.2.2.2.1]
theorem m_qT (h : MOk M bk nt T tr sl bu as) (hT : told3 T) (htr : trOk tr) (hn : 300 < n) (hnt : 0 ≤ nt ∧ nt ≤ 4) (hB : BS B) (hN : BN B) (hK : 0 ≤ B 1867 ∧ B 1867 ≤ 40) (hAN : ANr T B) : ∃ t, loopF (fun (s : MemT × Int32) => (fun (M3 : MemT) (v4 : Int32) => (gI M3 8 139 11).bind (fun v6 => (if v6 ≤ v4 then some (.inr (M3, v4)) else chk M3 8 139 (bd (g_X10_told1 n M3 139 v4 2) (fun r7 M8 => chk M8 8 139 (bd (g_X10_provisionalBy n M8 139 v4 (zi (B 0)) r7) (fun r9 M10 => (gO M10 8 139 17).bind (fun j11 => (aI M10 10 j11 2).bind (fun v12 => (if (4 : Int32) = 0 then none else chk M10 8 139 (bd (g_X10_back1 n M10 139 r9 (v12 / 4)) (fun r13 M14 => chk M14 8 139 (bd (g_X10_lay n M14 139 ((1289 + (64 * v4)) + (zi (B 0))) r9) (fun r15 M16 => chk M16 8 139 (bd (g_X10_lay n M16 139 ((1545 + (64 * v4)) + (zi (B 0))) r13) (fun r17 M18 => chk M18 8 139 (bd (g_X10_books n M18 139 v4 0 r13 ((-2))) (fun r19 M20 => some (.inl (M20, v4 + 1)))))))))))))))))))) s.1 s.2) n (WC M bk B S ho ha sm, 0) = some t ∧ ∃ S1 ho1 ha1 sm1, t = (WC M bk (qTr T tr B (B 0) nt.toNat) S1 ho1 ha1 sm1, zi nt) := by
  obtain ⟨n1, n2⟩ := id hN
  refine loop_inv (fun k s => ∃ S1 ho1 ha1 sm1, s = (WC M bk (qTr T tr B (B 0) k) S1 ho1 ha1 sm1, zi k)) (fun t => ∃ S1 ho1 ha1 sm1, t = (WC M bk (qTr T tr B (B 0) nt.toNat) S1 ho1 ha1 sm1, zi nt)) nt.toNat (fun k hk s hs => ?_) (fun s hs => ?_) n (by omega) _ ⟨S, ho, ha, sm, rfl⟩
  · obtain ⟨S1, ho1, ha1, sm1, rfl⟩ := hs
    have hkp := qTr_keep (T := T) (tr := tr) hN hK k (by omega)
    have hBk := BS_q hkp hB
    have hAk := ANr_q hkp hN hAN
    have h00 : qTr T tr B (B 0) k 0 = B 0 := hkp.1 0 (by omega)
    have hk1 : 0 ≤ qL T tr (qTr T tr B (B 0) k) k (B 0) 1867 ∧ qL T tr (qTr T tr B (B 0) k) k (B 0) 1867 ≤ 40 := by
      unfold qL
      rw [upZ_ne (by omega), upZ_ne (by omega)]; exact hkp.2
    show ∃ s1, _ = some (Sum.inl s1) ∧ ∃ S1 ho1 ha1 sm1, s1 = (WC M bk (bookZ (qL T tr (qTr T tr B (B 0) k) k (B 0)) k 0 (qV T tr (qTr T tr B (B 0) k) k (B 0)) (-2)) S1 ho1 ha1 sm1, zi ((k + 1 : Nat) : Int))
    generalize qTr T tr B (B 0) k = Bk at hkp hBk hAk h00 hk1
    have hb2 := (htr k (by omega) (by omega)).2.1
    obtain ⟨S2, hS2, hg⟩ := m_provisionalBy (n := n) (M := M) (B := Bk) (S := S1) (ho := ho1) (ha := ha1) (sm := sm1) (t := (k : Int)) (q := B 0) (bs := tr (8 * k + 2)) h hT htr (by omega) hBk (by omega) (by omega) n1 n2 hb2
    have hfr := provZ_rng (tr := tr) (t := (k : Int)) (q := B 0) (bs := tr (8 * k + 2)) hT htr hBk hAk (by omega) (by omega) n1 n2 (by omega)
    have hso := sumsOk_q (t := (k : Int)) (q := B 0) hBk (by omega) (by omega) n1 n2
    have t1 := hT.2.1
    have t2 := hT.2.2
    have r2 : ∀ B1 S ho ha sm, g_X10_told1 n (WC M bk B1 S ho ha sm) 139 (zi k) 2 = some (zi (tr (8 * k + 2)), WC M bk B1 S ho ha sm) := fun B1 S ho ha sm => m_told1 h (w := 2) (by omega) (by omega) (by omega) (by omega)
    have rT2 : ∀ B1 S ho ha sm, aI (WC M bk B1 S ho ha sm) 10 146 2 = some (zi (T 2)) := fun B1 S ho ha sm => m_T h (w := 2) (by omega) (by omega)
    have e4 : zi (T 2) / 4 = zi (T 2 / 4) := zi_div t2.1 (by omega) (b := 4) (by omega) (by omega)
    have l1 : (1289 : Int32) + 64 * zi k + zi (B 0) = zi (1289 + 64 * k + B 0) := by
      show zi 1289 + zi 64 * zi k + zi (B 0) = _
      rw [zi_mul, zi_add, zi_add]
    have l2 : (1545 : Int32) + 64 * zi k + zi (B 0) = zi (1545 + 64 * k + B 0) := by
      show zi 1545 + zi 64 * zi k + zi (B 0) = _
      rw [zi_mul, zi_add, zi_add]
    have e2 : (-2 : Int32) = zi (-2) := by decide
    have eV : backZ (T 0) (T 1) (T 2 / 4) S2 (provZ T tr Bk k (B 0) (tr (8 * k + 2))) = qV T tr Bk k (B 0) := backZ_congr hS2
    have hb := fun (S3 : Int → Int) (ho3 ha3 : Int) (sm3 : Int32) => m_books (n := n) (S := S3) (ho := ho3) (ha := ha3) (sm := sm3) (t := (k : Int)) (so := 0) (v := qV T tr Bk k (B 0)) (a := -2) h hn hk1 (by omega) (by omega) (by omega) (by omega)
    dsimp only
    rw [m_gnt h, i_sb, if_neg (by rw [zi_le (by omega) (by omega) (by omega) (by omega)]; omega), m_chk h, r2, i_bd, m_chk h, hg, i_bd, m_told h, i_sb, rT2, i_sb, if_neg (by decide), e4, m_chk h, m_back1 h hT (by omega) ⟨by omega, by omega⟩ (sumsOk_congr hso hS2), i_bd, eV, m_chk h, l1, m_lay h (by omega) (by omega), i_bd, m_chk h, l2, m_lay h (by omega) (by omega), i_bd, m_chk h, e2]
    have hb' := hb S2 (Bk (1281 + 2 * k)) (Bk (1282 + 2 * k)) (smallI (T 0) (T 1) (T 2 / 4) S2 (provZ T tr Bk k (B 0) (tr (8 * k + 2))))
    unfold qL qF at hb'
    rw [show (0 : Int32) = zi 0 from rfl, hb', i_bd, show zi (k : Int) + 1 = zi ((k + 1 : Nat) : Int) from zi_add (k : Int) 1]
    exact ⟨_, rfl, S2, _, _, _, rfl⟩
  · obtain ⟨S1, ho1, ha1, sm1, rfl⟩ := hs
    refine ⟨_, ?_, S1, ho1, ha1, sm1, rfl⟩
    dsimp only
    rw [m_gnt h, i_sb, Int.toNat_of_nonneg hnt.1, if_pos (Int32.le_refl _)]
end MQ
