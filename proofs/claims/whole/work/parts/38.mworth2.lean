/-! ===== PURE 8: the reference: WORTH; the entries ===== -/
def qwZ (T : Int → Int) (f u : Int) : Int := if u = 0 then T 1 else if u = 1 then 0 else f
def usZ (B : Int → Int) (a use q : Int) : Int := if B 0 % 4 ≤ q then use else AtZ B a (13 + q)
def accW (T B : Int → Int) (a use f : Int) : Nat → Int
  | 0 => 0
  | k + 1 => accW T B a use f k + qwZ T f (usZ B a use k)
def wthZ (T B : Int → Int) (a use f : Int) : Int := if yearZ B - AtZ B a 5 / 4 = 0 then qwZ T f use else cutZ (T 0) (accW T B a use f 4) 4
def worthZ (T tr B : Int → Int) (a use : Int) : Int := wthZ T B a use (annZ T tr B (AtZ B a 0) (yearZ B))
theorem qwZ_rng {T : Int → Int} {f u : Int} (hT : told3 T) (hf : 0 ≤ f ∧ f ≤ T 1) : 0 ≤ qwZ T f u ∧ qwZ T f u ≤ T 1 := by
  obtain ⟨-, t1, -⟩ := hT
  unfold qwZ
  split
  · omega
  · split <;> omega
theorem accW_rng {T B : Int → Int} {a use f : Int} (hT : told3 T) (hf : 0 ≤ f ∧ f ≤ T 1) : ∀ k : Nat, 0 ≤ accW T B a use f k ∧ accW T B a use f k ≤ T 1 * k := by
  intro k
  induction k with
  | zero => exact ⟨Int.le_refl _, by show (0 : Int) ≤ T 1 * 0; omega⟩
  | succ k ih =>
    have h1 := qwZ_rng (u := usZ B a use k) hT hf
    show 0 ≤ accW T B a use f k + _ ∧ accW T B a use f k + _ ≤ T 1 * ((k + 1 : Nat) : Int)
    rw [Int.natCast_add, Int.mul_add]
    simp only [Int.natCast_one, Int.mul_one]
    omega
theorem wthZ_rng {T B : Int → Int} {a use f : Int} (hT : told3 T) (hf : 0 ≤ f ∧ f ≤ T 1) : 0 ≤ wthZ T B a use f ∧ wthZ T B a use f ≤ T 1 := by
  unfold wthZ
  split
  · exact qwZ_rng hT hf
  · have h1 := accW_rng (B := B) (a := a) (use := use) hT hf 4
    exact cutZ_mono (by omega) h1.1 h1.2 hT.1
theorem annZ_rng {T tr B : Int → Int} {t : Int} (hT : told3 T) (hB : BS B) (hN : BN B) (h0 : 0 ≤ t) (h1 : t < 4) : 0 ≤ annZ T tr B t (yearZ B) ∧ annZ T tr B t (yearZ B) ≤ T 1 := by
  have hh := hB.2 t h0 h1
  obtain ⟨n1, n2⟩ := hN
  unfold annZ
  rw [if_neg (by omega)]
  exact frZ_rng hT (sumsOk_y hB h0 h1 (by unfold yearZ; omega) (by unfold yearZ; omega)) hh.1 hh.2.1
section MWORTH2
variable {M : MemT} {bk nt : Int} {T tr sl bu as B S : Int → Int} {ho ha : Int} {sm : Int32} {n : Nat}
theorem m_worthBy (h : MOk M bk nt T tr sl bu as) (hT : told3 T) (htr : trOk tr) (hn : 5 < n) (hB : BS B) (hN : BN B) {a use : Int} (h0 : 0 ≤ a) (h1 : a < 8) (hA : AO B a) (hu : 0 ≤ use ∧ use ≤ 2) : ∃ S1 ho1 ha1, g_X10_worthBy n (WC M bk B S ho ha sm) 139 (zi a) (zi use) = some (zi (worthZ T tr B a use), WC M bk B S1 ho1 ha1 sm) := by
  obtain ⟨n1, n2⟩ := id hN
  have hA0 := hA.1
  have hA5 := hA.2.2.2.2.2.1
  have hAu := hA.2.2.2.2.2.2.2.2.2.2.2.1
  have hyr : 0 ≤ yearZ B ∧ yearZ B < 16 := by unfold yearZ; omega
  obtain ⟨S1, hS1, hg⟩ := m_annualOf (n := n) (S := S) (ho := ho) (ha := ha) (sm := sm) (y := yearZ B) h hT htr hn hB hN hA0.1 hA0.2 hyr.1 hyr.2
  have hf := annZ_rng (tr := tr) hT hB hN hA0.1 hA0.2
  refine ⟨S1, B (1281 + 2 * AtZ B a 0), B (1282 + 2 * AtZ B a 0), ?_⟩
  have t1 := hT.2.1
  have r0 : g_X10_at n (WC M bk B S ho ha sm) 139 (zi a) 0 = some (zi (AtZ B a 0), _) := m_at h (k := 0) h0 h1 (by omega) (by omega)
  have rT : ∀ S ho ha, aI (WC M bk B S ho ha sm) 10 146 1 = some (zi (T 1)) := fun S ho ha => m_T h (w := 1) (by omega) (by omega)
  have rN : ∀ S ho ha, g_X10_of n (WC M bk B S ho ha sm) 139 0 = some (zi (B 0), WC M bk B S ho ha sm) := fun S ho ha => m_of h (k := 0) (by omega) (by omega)
  have ei : (zi (yearZ B - AtZ B a 5 / 4) = 0) = (yearZ B - AtZ B a 5 / 4 = 0) := zi_eq (b := 0) (by omega) (by omega) (by omega) (by omega)
  have eu0 : ∀ u : Int, 0 ≤ u → u ≤ 2 → (zi u = 0) = (u = 0) := fun u q1 q2 => zi_eq (b := 0) (by omega) (by omega) (by omega) (by omega)
  have eu1 : ∀ u : Int, 0 ≤ u → u ≤ 2 → (zi u = 1) = (u = 1) := fun u q1 q2 => zi_eq (b := 1) (by omega) (by omega) (by omega) (by omega)
  unfold g_X10_worthBy worthZ
  rw [m_chk h, r0, i_bd, m_chk h, m_year h hN, i_bd, m_chk h, hg, i_bd, m_chk h, rN, i_bd, if_neg (by decide), m_chk h, m_year h hN, i_bd, m_chk h, m_intervalOf h h0 h1 (by omega), i_bd]
  generalize annZ T tr B (AtZ B a 0) (yearZ B) = f at hf
  generalize B (1281 + 2 * AtZ B a 0) = ho1
  generalize B (1282 + 2 * AtZ B a 0) = ha1
  unfold wthZ
  simp only [ei]
  by_cases ci : yearZ B - AtZ B a 5 / 4 = 0
  · rw [if_pos ci, if_pos ci]
    simp only [eu0 use hu.1 hu.2, eu1 use hu.1 hu.2, m_told h, i_sb, rT]
    unfold qwZ
    split
    · rfl
    · split <;> rfl
  · rw [if_neg ci, if_neg ci]
    have em : zi (B 0) - zi (B 0) / 4 * 4 = zi (B 0 % 4) := by
      show zi (B 0) - zi (B 0) / zi 4 * zi 4 = _
      rw [zi_div n1 (by omega) (by omega) (by omega), zi_mul, zi_sub]
      congr 1; omega
    have e0 : (WC M bk B S1 ho1 ha1 sm, (0 : Int64), (0 : Int32)) = (fun i : Nat => (WC M bk B S1 ho1 ha1 sm, zj (accW T B a use f i), zi (i : Int))) 0 := rfl
    simp only [em]
    rw [e0, loop_k (fun i : Nat => (WC M bk B S1 ho1 ha1 sm, zj (accW T B a use f i), zi (i : Int))) (WC M bk B S1 ho1 ha1 sm, zj (accW T B a use f 4), zi 4) 4 (fun i hi => ?_) ?_ n (by omega), i_sb]
    · dsimp only
      have hacc := accW_rng (B := B) (a := a) (use := use) hT hf 4
      rw [m_chk h, show (4 : Int64) = zj 4 from rfl, m_cut h hT.1 (by omega) (by omega) (by omega) (by omega), i_bd, zj_32]
    · dsimp only
      rw [if_pos (by show zi 4 ≤ zi ((4 : Nat) : Int); exact Int32.le_refl _)]; rfl
    · dsimp only
      have e4 : ¬ ((4 : Int32) ≤ zi i) := by
        show ¬ (zi 4 ≤ zi i)
        rw [zi_le (by omega) (by omega) (by omega) (by omega)]; omega
      have em2 : (zi (B 0 % 4) ≤ zi i) = (B 0 % 4 ≤ i) := zi_le (by omega) (by omega) (by omega) (by omega)
      have hK : ∀ u : Int, 0 ≤ u → u ≤ 2 → (if zi u = 0 then (some (.inl (WC M bk B S1 ho1 ha1 sm, zj (accW T B a use f i) + Int32.toInt64 (zi (T 1)), zi i + 1)) : Option ((MemT × Int64 × Int32) ⊕ (MemT × Int64 × Int32))) else (if zi u = 1 then some (.inl (WC M bk B S1 ho1 ha1 sm, zj (accW T B a use f i) + 0, zi i + 1)) else some (.inl (WC M bk B S1 ho1 ha1 sm, zj (accW T B a use f i) + Int32.toInt64 (zi f), zi i + 1)))) = some (.inl (WC M bk B S1 ho1 ha1 sm, zj (accW T B a use f i + qwZ T f u), zi ((i + 1 : Nat) : Int))) := by
        intro u q1 q2
        have ei1 : zi (i : Int) + 1 = zi ((i + 1 : Nat) : Int) := zi_add (i : Int) 1
        simp only [eu0 u q1 q2, eu1 u q1 q2, ei1, zi_64 (show -2147483648 ≤ T 1 by omega) (show T 1 ≤ 2147483647 by omega), zi_64 (show -2147483648 ≤ f by omega) (show f ≤ 2147483647 by omega), zj_add]
        unfold qwZ
        split
        · rfl
        · split
          · show some (Sum.inl (_, zj _ + zj 0, _)) = _
            rw [zj_add]
          · rfl
      rw [if_neg e4]
      simp only [i_jp, em2, m_told h, i_sb, rT]
      by_cases cq : B 0 % 4 ≤ (i : Int)
      · rw [if_pos cq, hK use hu.1 hu.2]
        show _ = some (Sum.inl (_, zj (accW T B a use f i + qwZ T f (usZ B a use i)), _))
        unfold usZ
        rw [if_pos cq]
      · have hv := hAu (i : Int) (by omega) (by omega)
        rw [if_neg cq, m_chk h]
        show bd (g_X10_at n _ 139 (zi a) (zi 13 + zi i)) _ = _
        rw [zi_add, m_at h h0 h1 (by omega) (by omega), i_bd]
        simp only [m_told h, i_sb, rT]
        refine (hK (AtZ B a (13 + i)) hv.1 hv.2).trans ?_
        show _ = some (Sum.inl (_, zj (accW T B a use f i + qwZ T f (usZ B a use i)), _))
        unfold usZ
        rw [if_neg cq]
/-- the bank once an amount is booked -/
def bookZ (B : Int → Int) (t so v a : Int) : Int → Int := fun i =>
  let many := if 40 ≤ B 1867 then 39 else B 1867
  if i = 2068 + 4 * t + so then B i + v else if i = 1866 then B 1866 + 1 else if i = 1867 then many + 1 else if i = 1868 then B 0 else if i = 1869 then t else if i = 1870 then so else if i = 1871 then v else if i = 1872 then a else if 1873 ≤ i ∧ i < 1873 + 5 * many then B (i - 5) else B i
/-- the rows shifted down to the place p -/
def shZ (B : Int → Int) (p q : Int) : Int → Int := fun i => if 1873 + p ≤ i ∧ i < 1873 + q then B (i - 5) else B i
theorem shZ_step {B : Int → Int} {p q : Int} (h : 0 ≤ p) (hq : p < q) : upZ (shZ B (p + 1) q) (1873 + p) (B (1868 + p)) = shZ B p q := by
  funext i
  unfold upZ shZ
  by_cases hi : i = 1873 + p
  · rw [if_pos hi, if_pos (by omega), hi]
    congr 1; omega
  · rw [if_neg hi]
    by_cases hr : 1873 + p ≤ i ∧ i < 1873 + q
    · rw [if_pos (by omega), if_pos hr]
    · rw [if_neg (by omega), if_neg hr]
theorem m_books (h : MOk M bk nt T tr sl bu as) (hn : 300 < n) (hk : 0 ≤ B 1867 ∧ B 1867 ≤ 40) {t so v a : Int} (h0 : 0 ≤ t) (h1 : t < 4) (h2 : 0 ≤ so) (h3 : so < 4) : g_X10_books n (WC M bk B S ho ha sm) 139 (zi t) (zi so) (zi v) (zi a) = some ((), WC M bk (bookZ B t so v a) S ho ha sm) := by
  unfold g_X10_books
  have rk : g_X10_of n (WC M bk B S ho ha sm) 139 1867 = some (zi (B 1867), WC M bk B S ho ha sm) := m_of h (k := 1867) (by omega) (by omega)
  have ek : ((40 : Int32) ≤ zi (B 1867)) = (40 ≤ B 1867) := zi_le (a := 40) (by omega) (by omega) (by omega) (by omega)
  have core : ∀ many : Int, many = (if 40 ≤ B 1867 then 39 else B 1867) → (0 ≤ many ∧ many ≤ 39) →
      (loopF (fun (s : MemT × Int32) => (fun (M6 : MemT) (v7 : Int32) => (if v7 < 0 then (some (.inr (M6, v7)) : Option ((MemT × Int32) ⊕ (MemT × Int32))) else chk M6 8 139 (bd (g_X10_of n M6 139 (1868 + v7)) (fun r9 M10 => chk M10 8 139 (bd (g_X10_lay n M10 139 ((1868 + v7) + 5) r9) (fun r11 M12 => some (.inl (M12, v7 + (-1))))))))) s.1 s.2) n (WC M bk B S ho ha sm, (5 * zi many) - 1)) = some (WC M bk (shZ B 0 (5 * many)) S ho ha sm, zi (-1)) := by
    intro many hm hr
    have e0 : (WC M bk B S ho ha sm, (5 : Int32) * zi many - 1) = (fun i : Nat => (WC M bk (shZ B (5 * many - i) (5 * many)) S ho ha sm, zi (5 * many - 1 - i))) 0 := by
      have e1 : shZ B (5 * many - ((0 : Nat) : Int)) (5 * many) = B := by
        funext i; unfold shZ; rw [if_neg (by omega)]
      show (WC M bk B S ho ha sm, zi 5 * zi many - zi 1) = (WC M bk (shZ B (5 * many - ((0 : Nat) : Int)) (5 * many)) S ho ha sm, zi (5 * many - 1 - ((0 : Nat) : Int)))
      rw [e1, zi_mul, zi_sub]
      congr 2; omega
    rw [e0]
    refine loop_k (fun i : Nat => (WC M bk (shZ B (5 * many - i) (5 * many)) S ho ha sm, zi (5 * many - 1 - i))) _ (5 * many).toNat (fun i hi => ?_) ?_ n (by omega)
    · dsimp only
      have el : ¬ (zi (5 * many - 1 - i) < 0) := by
        show ¬ (zi _ < zi 0)
        rw [zi_lt (by omega) (by omega) (by omega) (by omega)]; omega
      rw [if_neg el, m_chk h]
      show bd (g_X10_of n _ 139 (zi 1868 + zi (5 * many - 1 - i))) (fun r9 M10 => chk M10 8 139 (bd (g_X10_lay n M10 139 ((zi 1868 + zi (5 * many - 1 - i)) + zi 5) r9) _)) = _
      rw [zi_add, zi_add, m_of h (by omega) (by omega), i_bd, m_chk h, m_lay h (by omega) (by omega), i_bd]
      show some (Sum.inl (_, zi (5 * many - 1 - i) + zi (-1))) = _
      have e5 : shZ B (5 * many - ↑i) (5 * many) (1868 + (5 * many - 1 - ↑i)) = B (1868 + (5 * many - 1 - i)) := by
        unfold shZ; rw [if_neg (by omega)]
      have e6 := shZ_step (B := B) (p := 5 * many - 1 - i) (q := 5 * many) (by omega) (by omega)
      rw [show (5 * many - 1 - (i : Int) + 1) = 5 * many - i by omega, show (1873 + (5 * many - 1 - (i : Int))) = 1868 + (5 * many - 1 - i) + 5 by omega] at e6
      rw [e5, e6, zi_add, show (5 * many - 1 - (i : Int)) = 5 * many - ((i + 1 : Nat) : Int) by omega, show (5 * many - ((i + 1 : Nat) : Int) + -1) = 5 * many - 1 - ((i + 1 : Nat) : Int) by omega]
    · dsimp only
      have e7 : (((5 * many).toNat : Nat) : Int) = 5 * many := Int.toNat_of_nonneg (by omega)
      rw [e7, show (5 * many - 5 * many) = 0 by omega, show (5 * many - 1 - 5 * many) = -1 by omega, if_pos (by decide)]
  have l1 : ∀ (B1 : Int → Int) (w : Int), g_X10_lay n (WC M bk B1 S ho ha sm) 139 1868 (zi w) = some ((), WC M bk (upZ B1 1868 w) S ho ha sm) := fun B1 w => m_lay h (k := 1868) (by omega) (by omega)
  have l2 : ∀ (B1 : Int → Int) (w : Int), g_X10_lay n (WC M bk B1 S ho ha sm) 139 1869 (zi w) = some ((), WC M bk (upZ B1 1869 w) S ho ha sm) := fun B1 w => m_lay h (k := 1869) (by omega) (by omega)
  have l3 : ∀ (B1 : Int → Int) (w : Int), g_X10_lay n (WC M bk B1 S ho ha sm) 139 1870 (zi w) = some ((), WC M bk (upZ B1 1870 w) S ho ha sm) := fun B1 w => m_lay h (k := 1870) (by omega) (by omega)
  have l4 : ∀ (B1 : Int → Int) (w : Int), g_X10_lay n (WC M bk B1 S ho ha sm) 139 1871 (zi w) = some ((), WC M bk (upZ B1 1871 w) S ho ha sm) := fun B1 w => m_lay h (k := 1871) (by omega) (by omega)
  have l5 : ∀ (B1 : Int → Int) (w : Int), g_X10_lay n (WC M bk B1 S ho ha sm) 139 1872 (zi w) = some ((), WC M bk (upZ B1 1872 w) S ho ha sm) := fun B1 w => m_lay h (k := 1872) (by omega) (by omega)
  have l6 : ∀ (B1 : Int → Int) (w : Int), g_X10_lay n (WC M bk B1 S ho ha sm) 139 1867 (zi w) = some ((), WC M bk (upZ B1 1867 w) S ho ha sm) := fun B1 w => m_lay h (k := 1867) (by omega) (by omega)
  have l7 : ∀ (B1 : Int → Int), g_X10_add n (WC M bk B1 S ho ha sm) 139 1866 1 = some ((), WC M bk (upZ B1 1866 (B1 1866 + 1)) S ho ha sm) := fun B1 => m_add h (k := 1866) (v := 1) (by omega) (by omega)
  have l8 : ∀ (B1 : Int → Int) (w : Int), g_X10_add n (WC M bk B1 S ho ha sm) 139 (2068 + 4 * zi t + zi so) (zi w) = some ((), WC M bk (upZ B1 (2068 + 4 * t + so) (B1 (2068 + 4 * t + so) + w)) S ho ha sm) := fun B1 w => by
    show g_X10_add n _ 139 (zi 2068 + zi 4 * zi t + zi so) _ = _
    rw [zi_mul, zi_add, zi_add, m_add h (by omega) (by omega)]
  have l0 : ∀ (B1 : Int → Int), g_X10_of n (WC M bk B1 S ho ha sm) 139 0 = some (zi (B1 0), WC M bk B1 S ho ha sm) := fun B1 => m_of h (k := 0) (by omega) (by omega)
  have fin : ∀ many : Int, many = (if 40 ≤ B 1867 then 39 else B 1867) → (0 ≤ many ∧ many ≤ 39) → ∀ B8 B9 : Int → Int, B8 = upZ (upZ (upZ (upZ (upZ (upZ (shZ B 0 (5 * many)) 1868 (shZ B 0 (5 * many) 0)) 1869 t) 1870 so) 1871 v) 1872 a) 1867 (many + 1) → B9 = upZ B8 1866 (B8 1866 + 1) → upZ B9 (2068 + 4 * t + so) (B9 (2068 + 4 * t + so) + v) = bookZ B t so v a := by
    intro many hm hr B8 B9 h8 h9
    have hs : ∀ i : Int, ¬ (1873 ≤ i ∧ i < 1873 + 5 * many) → shZ B 0 (5 * many) i = B i := fun i hi => if_neg (by omega)
    have h8v : B8 1866 = B 1866 := by
      rw [h8]
      unfold upZ
      rw [if_neg (by omega), if_neg (by omega), if_neg (by omega), if_neg (by omega), if_neg (by omega), if_neg (by omega), hs _ (by omega)]
    rw [h8v, h8] at h9
    have h9v : B9 (2068 + 4 * t + so) = B (2068 + 4 * t + so) := by
      rw [h9]
      unfold upZ
      rw [if_neg (by omega), if_neg (by omega), if_neg (by omega), if_neg (by omega), if_neg (by omega), if_neg (by omega), if_neg (by omega), hs _ (by omega)]
    rw [h9v]
    funext i
    unfold bookZ
    rw [← hm]
    dsimp only
    unfold upZ
    by_cases c1 : i = 2068 + 4 * t + so
    · rw [if_pos c1, if_pos c1, c1]
    · rw [if_neg c1, if_neg c1, h9]
      unfold upZ
      by_cases c2 : i = 1866
      · rw [if_pos c2, if_pos c2]
      · rw [if_neg c2, if_neg c2]
        by_cases c3 : i = 1867
        · rw [if_pos c3, if_pos c3]
        · rw [if_neg c3, if_neg c3]
          by_cases c4 : i = 1872
          · rw [if_pos c4, if_neg (by omega), if_neg (by omega), if_neg (by omega), if_neg (by omega), if_pos c4]
          · rw [if_neg c4]
            by_cases c5 : i = 1871
            · rw [if_pos c5, if_neg (by omega), if_neg (by omega), if_neg (by omega), if_pos c5]
            · rw [if_neg c5]
              by_cases c6 : i = 1870
              · rw [if_pos c6, if_neg (by omega), if_neg (by omega), if_pos c6]
              · rw [if_neg c6]
                by_cases c7 : i = 1869
                · rw [if_pos c7, if_neg (by omega), if_pos c7]
                · rw [if_neg c7]
                  by_cases c8 : i = 1868
                  · rw [if_pos c8, if_pos c8, hs _ (by omega)]
                  · rw [if_neg c8, if_neg c8, if_neg c7, if_neg c6, if_neg c5, if_neg c4]
                    unfold shZ
                    simp only [Int.add_zero]
  rw [m_chk h, rk, i_bd]
  simp only [i_jp, ek]
  by_cases c : 40 ≤ B 1867
  · have em : (39 : Int32) + 1 = zi (39 + 1) := zi_add 39 1
    rw [if_pos c]
    show ((loopF _ n (WC M bk B S ho ha sm, 5 * zi 39 - 1)).bind (fun (s : MemT × Int32) => (fun (M13 : MemT) (v14 : Int32) => chk M13 8 139 _) s.1 s.2)) = _
    rw [core 39 (if_pos c).symm (by omega), i_sb]
    simp only [m_chk h, l0, l1, l2, l3, l4, l5, l6, l7, l8, i_bd, em]
    rw [← fin 39 (if_pos c).symm (by omega) _ _ rfl rfl]
  · have em : zi (B 1867) + 1 = zi (B 1867 + 1) := zi_add (B 1867) 1
    rw [if_neg c, m_chk h, rk, i_bd, core (B 1867) (if_neg c).symm (by omega), i_sb]
    simp only [m_chk h, l0, l1, l2, l3, l4, l5, l6, l7, l8, i_bd, em]
    rw [← fin (B 1867) (if_neg c).symm (by omega) _ _ rfl rfl]
end MWORTH2
