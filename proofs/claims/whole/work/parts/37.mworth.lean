/-! ===== PURE 7: the reference: amounts of an asset, its worth ===== -/
def AtZ (B : Int → Int) (a k : Int) : Int := B (2084 + 48 * a + k)
/-- ranges of an asset -/
def AO (B : Int → Int) (a : Int) : Prop :=
  (0 ≤ AtZ B a 0 ∧ AtZ B a 0 < 4) ∧ (0 ≤ AtZ B a 1 ∧ AtZ B a 1 < 4) ∧ (0 ≤ AtZ B a 2 ∧ AtZ B a 2 ≤ 2) ∧ (1 ≤ AtZ B a 3 ∧ AtZ B a 3 ≤ 99999) ∧ (AtZ B a 4 = 5 ∨ AtZ B a 4 = 10) ∧ (0 ≤ AtZ B a 5 ∧ AtZ B a 5 ≤ B 0) ∧ (0 ≤ AtZ B a 6 ∧ AtZ B a 6 ≤ 1000) ∧ (0 ≤ AtZ B a 7 ∧ AtZ B a 7 ≤ 3) ∧ (-1 ≤ AtZ B a 8 ∧ AtZ B a 8 ≤ 99999) ∧ (AtZ B a 9 = 0 ∨ AtZ B a 9 = 1) ∧ (AtZ B a 11 = 0 ∨ AtZ B a 11 = 1) ∧ (∀ k : Int, 0 ≤ k → k < 4 → 0 ≤ AtZ B a (13 + k) ∧ AtZ B a (13 + k) ≤ 2) ∧ (0 ≤ AtZ B a 47 ∧ AtZ B a 47 ≤ 10)
def adjZ (T B : Int → Int) (a w b : Int) : Int := cutZ (T 0) (AtZ B a 3 * (w - b)) (AtZ B a 4 * T 1)
def lastZ (T B : Int → Int) (a behind kind b : Int) : Int := cutZ (T 0) (AtZ B a 3 * behind * ((if kind = 0 then T 1 else 0) - b)) (AtZ B a 4 * T 1)
def fstZ (T B : Int → Int) (a b : Int) : Int := cutZ (T 0) (AtZ B a 3 * b) (T 1)
theorem mul_rng {a b x y : Int} (h1 : -x ≤ a) (h2 : a ≤ x) (h3 : -y ≤ b) (h4 : b ≤ y) : -(x * y) ≤ a * b ∧ a * b ≤ x * y := by
  have hx : a.natAbs ≤ x.natAbs := by omega
  have hy : b.natAbs ≤ y.natAbs := by omega
  have h := Nat.mul_le_mul hx hy
  rw [← Int.natAbs_mul, ← Int.natAbs_mul] at h
  have h5 : 0 ≤ x * y := Int.mul_nonneg (by omega) (by omega)
  omega
section MWORTH
variable {M : MemT} {bk nt : Int} {T tr sl bu as B S : Int → Int} {ho ha : Int} {sm : Int32} {n : Nat}
theorem spanT {a : Int} (hT : told3 T) (hA : AO B a) : 0 < AtZ B a 4 * T 1 ∧ AtZ B a 4 * T 1 ≤ 10000 := by
  obtain ⟨-, t1, -⟩ := hT
  obtain ⟨-, -, -, -, h4, -⟩ := hA
  rcases h4 with h4 | h4 <;> rw [h4] <;> omega
theorem m_adjustedBy (h : MOk M bk nt T tr sl bu as) (hT : told3 T) {a w b : Int} (h0 : 0 ≤ a) (h1 : a < 8) (hA : AO B a) (hw : -1000 ≤ w - b ∧ w - b ≤ 1000) : g_X10_adjustedBy n (WC M bk B S ho ha sm) 139 (zi a) (zi w) (zi b) = some (zj (adjZ T B a w b), WC M bk B S ho ha sm) := by
  have hs := spanT hT hA
  obtain ⟨t0, t1, t2⟩ := hT
  obtain ⟨-, -, -, h3, h4, -⟩ := hA
  have hp := mul_rng (a := AtZ B a 3) (b := w - b) (x := 99999) (y := 1000) (by omega) (by omega) (by omega) (by omega)
  have r3 : g_X10_at n (WC M bk B S ho ha sm) 139 (zi a) 3 = _ := m_at h (k := 3) h0 h1 (by omega) (by omega)
  have r4 : g_X10_at n (WC M bk B S ho ha sm) 139 (zi a) 4 = _ := m_at h (k := 4) h0 h1 (by omega) (by omega)
  have r1 : aI (WC M bk B S ho ha sm) 10 146 1 = some (zi (T 1)) := m_T h (w := 1) (by omega) (by omega)
  have e4 : -2147483648 ≤ B (2084 + 48 * a + 4) ∧ B (2084 + 48 * a + 4) ≤ 2147483647 := by
    unfold AtZ at h4; omega
  have e3 : -2147483648 ≤ B (2084 + 48 * a + 3) ∧ B (2084 + 48 * a + 3) ≤ 2147483647 := by
    unfold AtZ at h3; omega
  unfold g_X10_adjustedBy adjZ
  rw [m_chk h, r3, i_bd, m_chk h, r4, i_bd, m_told h, i_sb, r1, i_sb, m_chk h, zi_sub, zi_64 e3.1 e3.2, zi_64 (by omega) (by omega), zi_64 e4.1 e4.2, zi_64 (by omega) (by omega), zj_mul, zj_mul]
  unfold AtZ at hs hp ⊢
  rw [m_cut h t0 (by omega) (by omega) hs.1 (by omega), i_bd]
theorem m_firstTaken (h : MOk M bk nt T tr sl bu as) (hT : told3 T) {a b : Int} (h0 : 0 ≤ a) (h1 : a < 8) (hA : AO B a) (hb : 0 ≤ b ∧ b ≤ 1000) : g_X10_firstTaken n (WC M bk B S ho ha sm) 139 (zi a) (zi b) = some (zj (fstZ T B a b), WC M bk B S ho ha sm) := by
  obtain ⟨t0, t1, t2⟩ := hT
  obtain ⟨-, -, -, h3, -⟩ := hA
  have hp := mul_rng (a := AtZ B a 3) (b := b) (x := 99999) (y := 1000) (by omega) (by omega) (by omega) (by omega)
  have r3 : g_X10_at n (WC M bk B S ho ha sm) 139 (zi a) 3 = _ := m_at h (k := 3) h0 h1 (by omega) (by omega)
  have r1 : aI (WC M bk B S ho ha sm) 10 146 1 = some (zi (T 1)) := m_T h (w := 1) (by omega) (by omega)
  have e3 : -2147483648 ≤ B (2084 + 48 * a + 3) ∧ B (2084 + 48 * a + 3) ≤ 2147483647 := by
    unfold AtZ at h3; omega
  unfold g_X10_firstTaken fstZ
  rw [m_chk h, r3, i_bd, m_told h, i_sb, r1, i_sb, m_chk h, zi_64 e3.1 e3.2, zi_64 (by omega) (by omega), zi_64 (by omega) (by omega), zj_mul]
  unfold AtZ at hp ⊢
  rw [m_cut h t0 (by omega) (by omega) (by omega) (by omega), i_bd]
theorem m_lastBy (h : MOk M bk nt T tr sl bu as) (hT : told3 T) {a d k b : Int} (h0 : 0 ≤ a) (h1 : a < 8) (hA : AO B a) (hd : -10 ≤ d ∧ d ≤ 10) (hk : -1 ≤ k ∧ k ≤ 3) (hb : 0 ≤ b ∧ b ≤ 1000) : g_X10_lastBy n (WC M bk B S ho ha sm) 139 (zi a) (zi d) (zi k) (zi b) = some (zj (lastZ T B a d k b), WC M bk B S ho ha sm) := by
  have hs := spanT hT hA
  obtain ⟨t0, t1, t2⟩ := hT
  obtain ⟨-, -, -, h3, h4, -⟩ := hA
  have hp1 := mul_rng (a := AtZ B a 3) (b := d) (x := 99999) (y := 10) (by omega) (by omega) (by omega) (by omega)
  have hg : -1000 ≤ (if k = 0 then T 1 else 0) - b ∧ (if k = 0 then T 1 else 0) - b ≤ 1000 := by split <;> omega
  have hp := mul_rng (a := AtZ B a 3 * d) (b := (if k = 0 then T 1 else 0) - b) (x := 999990) (y := 1000) (by omega) (by omega) hg.1 hg.2
  have r3 : g_X10_at n (WC M bk B S ho ha sm) 139 (zi a) 3 = _ := m_at h (k := 3) h0 h1 (by omega) (by omega)
  have r4 : g_X10_at n (WC M bk B S ho ha sm) 139 (zi a) 4 = _ := m_at h (k := 4) h0 h1 (by omega) (by omega)
  have r1 : aI (WC M bk B S ho ha sm) 10 146 1 = some (zi (T 1)) := m_T h (w := 1) (by omega) (by omega)
  have e4 : -2147483648 ≤ B (2084 + 48 * a + 4) ∧ B (2084 + 48 * a + 4) ≤ 2147483647 := by
    unfold AtZ at h4; omega
  have e3 : -2147483648 ≤ B (2084 + 48 * a + 3) ∧ B (2084 + 48 * a + 3) ≤ 2147483647 := by
    unfold AtZ at h3; omega
  have e0 : (zi k = 0) = (k = 0) := zi_eq (b := 0) (by omega) (by omega) (by omega) (by omega)
  unfold g_X10_lastBy lastZ
  rw [m_chk h, r3, i_bd]
  simp only [i_jp, e0, m_chk h, r4, i_bd, m_told h, i_sb, r1, zi_64 e3.1 e3.2, zi_64 e4.1 e4.2, zi_64 (show -2147483648 ≤ d by omega) (by omega), zi_64 (show -2147483648 ≤ T 1 by omega) (by omega), zj_mul]
  unfold AtZ at hs hp ⊢
  by_cases c : k = 0
  · simp only [c, if_true] at hp hg ⊢
    rw [zi_sub, zi_64 (by omega) (by omega), zj_mul, m_cut h t0 (by omega) (by omega) hs.1 (by omega), i_bd]
  · simp only [c, if_false] at hp hg ⊢
    rw [show (0 : Int32) - zi b = zi (0 - b) from zi_sub 0 b, zi_64 (by omega) (by omega), zj_mul, m_cut h t0 (by omega) (by omega) hs.1 (by omega), i_bd]
theorem m_intervalOf (h : MOk M bk nt T tr sl bu as) {a y : Int} (h0 : 0 ≤ a) (h1 : a < 8) (h5 : 0 ≤ AtZ B a 5 ∧ AtZ B a 5 ≤ 63) : g_X10_intervalOf n (WC M bk B S ho ha sm) 139 (zi a) (zi y) = some (zi (y - AtZ B a 5 / 4), WC M bk B S ho ha sm) := by
  have r5 : g_X10_at n (WC M bk B S ho ha sm) 139 (zi a) 5 = _ := m_at h (k := 5) h0 h1 (by omega) (by omega)
  unfold g_X10_intervalOf
  rw [m_chk h, r5, i_bd, if_neg (by decide)]
  unfold AtZ at h5 ⊢
  show some (zi y - zi _ / zi 4, _) = _
  rw [zi_div h5.1 (by omega) (by omega) (by omega), zi_sub]
def bkIn (B : Int → Int) (t y : Int) : Int := 0 + B (1545 + 64 * t + (4 * y + 0)) + B (1545 + 64 * t + (4 * y + 1)) + B (1545 + 64 * t + (4 * y + 2)) + B (1545 + 64 * t + (4 * y + 3))
def bkAcc (B : Int → Int) (t y : Int) : Nat → Int
  | 0 => 0
  | k + 1 => bkAcc B t y k + B (1545 + 64 * t + (4 * y + k))
theorem m_bookedIn (h : MOk M bk nt T tr sl bu as) (hn : 5 < n) {t y : Int} (h0 : 0 ≤ t) (h1 : t < 4) (h2 : 0 ≤ y) (h3 : y < 16) : g_X10_bookedIn n (WC M bk B S ho ha sm) 139 (zi t) (zi y) = some (zi (bkIn B t y), WC M bk B S ho ha sm) := by
  unfold g_X10_bookedIn
  have e4 : (4 : Int32) * zi y = zi (4 * y) := zi_mul 4 y
  have e44 : zi (4 * y) + 4 = zi (4 * y + 4) := zi_add (4 * y) 4
  simp only [e4, e44]
  have e0 : (WC M bk B S ho ha sm, (0 : Int32), zi (4 * y)) = (fun i : Nat => (WC M bk B S ho ha sm, zi (bkAcc B t y i), zi (4 * y + i))) 0 := by
    show _ = (WC M bk B S ho ha sm, zi 0, zi (4 * y + ((0 : Nat) : Int)))
    rw [show (4 * y + ((0 : Nat) : Int)) = 4 * y by omega]; rfl
  rw [e0, loop_k (fun i : Nat => (WC M bk B S ho ha sm, zi (bkAcc B t y i), zi (4 * y + i))) (WC M bk B S ho ha sm, zi (bkAcc B t y 4), zi (4 * y + 4)) 4 (fun i hi => ?_) ?_ n (by omega), i_sb]
  · rfl
  · dsimp only
    rw [if_pos (by show zi (4 * y + 4) ≤ zi (4 * y + ((4 : Nat) : Int)); exact Int32.le_refl _)]; rfl
  · dsimp only
    rw [if_neg (by rw [zi_le (by omega) (by omega) (by omega) (by omega)]; omega), m_chk h]
    show bd (g_X10_of n _ 139 (zi 1545 + zi 64 * zi t + zi (4 * y + i))) _ = _
    rw [zi_mul, zi_add, zi_add, m_of h (by omega) (by omega), i_bd, zi_add]
    show some (Sum.inl (_, _, zi (4 * y + i) + zi 1)) = some (Sum.inl (_, zi (bkAcc B t y i + B (1545 + 64 * t + (4 * y + i))), zi (4 * y + ((i + 1 : Nat) : Int))))
    rw [zi_add, show (4 * y + (i : Int) + 1) = 4 * y + ((i + 1 : Nat) : Int) by omega]
end MWORTH
