/-! ===== PURE 15: the end of a year: ANNUAL of each trader ===== -/
def yT (T tr B : Int → Int) (y : Int) : Nat → Int → Int
  | 0 => B
  | k + 1 => bookZ (upZ (yT T tr B y k) (1801 + 16 * k + y) (frZ T tr k (ySum (yT T tr B y k) k y) (yT T tr B y k (1281 + 2 * k)) (yT T tr B y k (1282 + 2 * k)))) k 1 (backZ (T 0) (T 1) (T 2) (ySum (yT T tr B y k) k y) (frZ T tr k (ySum (yT T tr B y k) k y) (yT T tr B y k (1281 + 2 * k)) (yT T tr B y k (1282 + 2 * k))) - bkIn (upZ (yT T tr B y k) (1801 + 16 * k + y) (frZ T tr k (ySum (yT T tr B y k) k y) (yT T tr B y k (1281 + 2 * k)) (yT T tr B y k (1282 + 2 * k)))) k y) (-2)
def yKeep (B B1 : Int → Int) : Prop := (∀ i : Int, (i < 1801 ∨ i = 1865 ∨ 2084 ≤ i) → B1 i = B i) ∧ 0 ≤ B1 1867 ∧ B1 1867 ≤ 40
theorem yT_keep {T tr B : Int → Int} {y : Int} (hy : 0 ≤ y ∧ y < 16) (hK : 0 ≤ B 1867 ∧ B 1867 ≤ 40) : ∀ k : Nat, k ≤ 4 → yKeep B (yT T tr B y k) := by
  intro k
  induction k with
  | zero => intro _; exact ⟨fun i _ => rfl, hK⟩
  | succ k ih =>
    intro hk
    obtain ⟨i1, i2⟩ := ih (by omega)
    have hk1 : 0 ≤ upZ (yT T tr B y k) (1801 + 16 * k + y) (frZ T tr k (ySum (yT T tr B y k) k y) (yT T tr B y k (1281 + 2 * k)) (yT T tr B y k (1282 + 2 * k))) 1867 ∧ upZ (yT T tr B y k) (1801 + 16 * k + y) (frZ T tr k (ySum (yT T tr B y k) k y) (yT T tr B y k (1281 + 2 * k)) (yT T tr B y k (1282 + 2 * k))) 1867 ≤ 40 := by
      rw [upZ_ne (by omega)]; exact i2
    refine ⟨fun i hi => ?_, book_kept (by omega) (by omega) hk1⟩
    rcases Int.lt_or_le i 1866 with q | q
    · refine (book_lo (by omega) (by omega) q).trans ?_
      rw [upZ_ne (by omega)]; exact i1 i hi
    · refine (book_hi (by omega) (by omega) (by omega) (by omega) hk1 (by omega)).trans ?_
      rw [upZ_ne (by omega)]; exact i1 i hi
theorem BS_keep {B B1 : Int → Int} (h : yKeep B B1) (hB : BS B) : BS B1 :=
  ⟨fun k k1 k2 => by rw [h.1 k (by omega)]; exact hB.1 k k1 k2, fun t t1 t2 => by rw [h.1 _ (by omega), h.1 _ (by omega)]; exact hB.2 t t1 t2⟩
section MYEAR
variable {M : MemT} {bk nt : Int} {T tr sl bu as B S : Int → Int} {ho ha : Int} {sm : Int32} {n : Nat}
theorem m_year1 (h : MOk M bk nt T tr sl bu as) (hT : told3 T) (htr : trOk tr) (hn : 300 < n) (hnt : 0 ≤ nt ∧ nt ≤ 4) (hB : BS B) (hN : BN B) (hK : 0 ≤ B 1867 ∧ B 1867 ≤ 40) : ∃ t, loopF (fun (s : MemT × Int32) => (fun (M3 : MemT) (v4 : Int32) => (gI M3 8 139 11).bind (fun v6 => (if v6 ≤ v4 then some (.inr (M3, v4)) else chk M3 8 139 (bd (g_X10_layYear n M3 139 v4 (zi (yearZ B))) (fun r7 M8 => chk M8 8 139 (bd (g_X10_fraction n M8 139 v4) (fun r9 M10 => chk M10 8 139 (bd (g_X10_lay n M10 139 ((1801 + (16 * v4)) + (zi (yearZ B))) r9) (fun r11 M12 => (gO M12 8 139 17).bind (fun j13 => (aI M12 10 j13 2).bind (fun v14 => chk M12 8 139 (bd (g_X10_back1 n M12 139 r9 v14) (fun r15 M16 => chk M16 8 139 (bd (g_X10_bookedIn n M16 139 v4 (zi (yearZ B))) (fun r17 M18 => chk M18 8 139 (bd (g_X10_books n M18 139 v4 1 (r15 - r17) ((-2))) (fun r19 M20 => some (.inl (M20, v4 + 1))))))))))))))))))) s.1 s.2) n (WC M bk B S ho ha sm, 0) = some t ∧ ∃ S1 ho1 ha1 sm1, t = (WC M bk (yT T tr B (yearZ B) nt.toNat) S1 ho1 ha1 sm1, zi nt) := by
  obtain ⟨n1, n2⟩ := id hN
  have hy : 0 ≤ yearZ B ∧ yearZ B < 16 := by unfold yearZ; omega
  refine loop_inv (fun k s => ∃ S1 ho1 ha1 sm1, s = (WC M bk (yT T tr B (yearZ B) k) S1 ho1 ha1 sm1, zi k)) (fun t => ∃ S1 ho1 ha1 sm1, t = (WC M bk (yT T tr B (yearZ B) nt.toNat) S1 ho1 ha1 sm1, zi nt)) nt.toNat (fun k hk s hs => ?_) (fun s hs => ?_) n (by omega) _ ⟨S, ho, ha, sm, rfl⟩
  · obtain ⟨S1, ho1, ha1, sm1, rfl⟩ := hs
    have hkp := yT_keep (T := T) (tr := tr) hy hK k (by omega)
    have hBk := BS_keep hkp hB
    have g11 : ∀ (B1 S1 : Int → Int) (ho1 ha1 : Int) (sm1 : Int32), gI (WC M bk B1 S1 ho1 ha1 sm1) 8 139 11 = some (zi nt) := fun B1 S1 ho1 ha1 sm1 => by
      rw [i_gI (M := WC M bk B1 S1 ho1 ha1 sm1) h.1.1, w_I (by decide) (by decide), h.2.2.2.1]
    obtain ⟨S2, hS2, hg⟩ := m_layYear (n := n) (S := S1) (ho := ho1) (ha := ha1) (sm := sm1) (t := (k : Int)) (y := yearZ B) h (by omega) hBk (by omega) (by omega) hy.1 hy.2
    have hh := hBk.2 k (by omega) (by omega)
    have hso := sumsOk_y (t := (k : Int)) (y := yearZ B) hBk (by omega) (by omega) hy.1 hy.2
    have hf := m_fraction (n := n) (sm := sm1) (B := yT T tr B (yearZ B) k) (t := (k : Int)) h hT htr (by omega) (by omega) (sumsOk_congr hso hS2) (show 0 ≤ yT T tr B (yearZ B) k (1281 + 2 * k) ∧ yT T tr B (yearZ B) k (1281 + 2 * k) ≤ 1000000 ∧ 0 ≤ yT T tr B (yearZ B) k (1282 + 2 * k) ∧ yT T tr B (yearZ B) k (1282 + 2 * k) ≤ 1000000 by omega)
    rw [frZ_congr hS2] at hf
    have hfr := frZ_rng (tr := tr) (t := (k : Int)) hT hso hh.1 hh.2.1
    have t1 := hT.2.1
    have t2 := hT.2.2
    have rT2 : ∀ (B1 S1 : Int → Int) (ho1 ha1 : Int) (sm1 : Int32), aI (WC M bk B1 S1 ho1 ha1 sm1) 10 146 2 = some (zi (T 2)) := fun B1 S1 ho1 ha1 sm1 => m_T h (w := 2) (by omega) (by omega)
    dsimp only
    rw [g11, i_sb, if_neg (by rw [zi_le (by omega) (by omega) (by omega) (by omega)]; omega), m_chk h, hg, i_bd, m_chk h, hf, i_bd, m_chk h]
    have el : (1801 : Int32) + 16 * zi k + zi (yearZ B) = zi (1801 + 16 * k + yearZ B) := by
      show zi 1801 + zi 16 * zi k + zi (yearZ B) = _
      rw [zi_mul, zi_add, zi_add]
    rw [el, m_lay h (by omega) (by omega), i_bd, m_told h, i_sb, rT2, i_sb, m_chk h, m_back1 h hT (by omega) ⟨by omega, by omega⟩ (sumsOk_congr hso hS2), i_bd, m_chk h, m_bookedIn h (by omega) (by omega) (by omega) hy.1 hy.2, i_bd, m_chk h, zi_sub, backZ_congr hS2]
    have hk1 : 0 ≤ upZ (yT T tr B (yearZ B) k) (1801 + 16 * k + yearZ B) (frZ T tr k (ySum (yT T tr B (yearZ B) k) k (yearZ B)) (yT T tr B (yearZ B) k (1281 + 2 * k)) (yT T tr B (yearZ B) k (1282 + 2 * k))) 1867 ∧ upZ (yT T tr B (yearZ B) k) (1801 + 16 * k + yearZ B) (frZ T tr k (ySum (yT T tr B (yearZ B) k) k (yearZ B)) (yT T tr B (yearZ B) k (1281 + 2 * k)) (yT T tr B (yearZ B) k (1282 + 2 * k))) 1867 ≤ 40 := by
      rw [upZ_ne (by omega)]; exact hkp.2
    have hb := fun (v : Int) (S3 : Int → Int) (ho3 ha3 : Int) (sm3 : Int32) => m_books (n := n) (S := S3) (ho := ho3) (ha := ha3) (sm := sm3) (t := (k : Int)) (so := 1) (v := v) (a := -2) h hn hk1 (by omega) (by omega) (by omega) (by omega)
    have e2 : (-2 : Int32) = zi (-2) := by decide
    rw [e2]
    rw [show (1 : Int32) = zi 1 from rfl, hb, i_bd, zi_add]
    exact ⟨_, rfl, S2, _, _, _, rfl⟩
  · obtain ⟨S1, ho1, ha1, sm1, rfl⟩ := hs
    have g11 : gI (WC M bk (yT T tr B (yearZ B) nt.toNat) S1 ho1 ha1 sm1) 8 139 11 = some (zi nt) := by
      rw [i_gI (M := WC M bk (yT T tr B (yearZ B) nt.toNat) S1 ho1 ha1 sm1) h.1.1, w_I (by decide) (by decide), h.2.2.2.1]
    refine ⟨_, ?_, S1, ho1, ha1, sm1, rfl⟩
    dsimp only
    rw [g11, i_sb, Int.toNat_of_nonneg hnt.1, if_pos (Int32.le_refl _)]
end MYEAR
