/-! ===== PURE 9: the reference: an asset comes, what is told comes ===== -/
def bookFor (B : Int → Int) (a so v : Int) : Int → Int := bookZ (upZ B (2084 + 48 * a + 10) (AtZ B a 10 + v)) (AtZ B a 0) so v a
def clrZ (B : Int → Int) (a : Int) (k : Nat) : Int → Int := fun i => if 2084 + 48 * a ≤ i ∧ i < 2084 + 48 * a + k then 0 else B i
def newZ (B : Int → Int) (t use tax span : Int) : Int → Int := upZ (upZ (upZ (upZ (upZ (upZ (clrZ B (B 1865) 48) (2084 + 48 * B 1865 + 0) t) (2084 + 48 * B 1865 + 1) t) (2084 + 48 * B 1865 + 2) use) (2084 + 48 * B 1865 + 3) tax) (2084 + 48 * B 1865 + 4) span) (2084 + 48 * B 1865 + 5) (B 0)
def sumI (t q w : Int) : Int := 1 + 320 * t + 5 * q + w
def addZ (B : Int → Int) (j v : Int) : Int → Int := upZ B j (B j + v)
def acqZ (B : Int → Int) (t use tax span : Int) : Int → Int := upZ (addZ (newZ B t use tax span) (sumI t (B 0) (2 + use)) tax) 1865 (B 1865 + 1)
section MACQ
variable {M : MemT} {bk nt : Int} {T tr sl bu as B S : Int → Int} {ho ha : Int} {sm : Int32} {n : Nat}
theorem m_booksFor (h : MOk M bk nt T tr sl bu as) (hn : 300 < n) (hk : 0 ≤ B 1867 ∧ B 1867 ≤ 40) {a so v : Int} (h0 : 0 ≤ a) (h1 : a < 8) (ho0 : 0 ≤ AtZ B a 0 ∧ AtZ B a 0 < 4) (h2 : 0 ≤ so) (h3 : so < 4) : g_X10_booksFor n (WC M bk B S ho ha sm) 139 (zi a) (zi so) (zi v) = some ((), WC M bk (bookFor B a so v) S ho ha sm) := by
  have r10 : g_X10_at n (WC M bk B S ho ha sm) 139 (zi a) 10 = some (zi (AtZ B a 10), _) := m_at h (k := 10) h0 h1 (by omega) (by omega)
  have p10 : ∀ w : Int, g_X10_put n (WC M bk B S ho ha sm) 139 (zi a) 10 (zi w) = some ((), WC M bk (upZ B (2084 + 48 * a + 10) w) S ho ha sm) := fun w => m_put h (k := 10) h0 h1 (by omega) (by omega)
  have r0 : g_X10_at n (WC M bk (upZ B (2084 + 48 * a + 10) (AtZ B a 10 + v)) S ho ha sm) 139 (zi a) 0 = some (zi (upZ B (2084 + 48 * a + 10) (AtZ B a 10 + v) (2084 + 48 * a + 0)), _) := m_at h (k := 0) h0 h1 (by omega) (by omega)
  have e0 : upZ B (2084 + 48 * a + 10) (AtZ B a 10 + v) (2084 + 48 * a + 0) = AtZ B a 0 := upZ_ne (by omega)
  unfold g_X10_booksFor
  rw [m_chk h, r10, i_bd, m_chk h, zi_add, p10, i_bd, m_chk h, r0, i_bd, m_chk h, e0, m_books h hn (by rw [upZ_ne (by omega)]; exact hk) ho0.1 ho0.2 h2 h3, i_bd]
  rfl
theorem m_acquires (h : MOk M bk nt T tr sl bu as) (hn : 50 < n) (hA : 0 ≤ B 1865 ∧ B 1865 < 8) (hN : BN B) {t use tax span : Int} (h0 : 0 ≤ t) (h1 : t < 4) (h2 : 0 ≤ use) (h3 : use ≤ 2) : g_X10_acquires n (WC M bk B S ho ha sm) 139 (zi t) (zi use) (zi tax) (zi span) = some (zi (B 1865), WC M bk (acqZ B t use tax span) S ho ha sm) := by
  obtain ⟨a0, a1⟩ := hA
  obtain ⟨n1, n2⟩ := hN
  have rA : g_X10_of n (WC M bk B S ho ha sm) 139 1865 = some (zi (B 1865), WC M bk B S ho ha sm) := m_of h (k := 1865) (by omega) (by omega)
  have hp : ∀ (B1 : Int → Int) (k v : Int), 0 ≤ k → k < 48 → g_X10_put n (WC M bk B1 S ho ha sm) 139 (zi (B 1865)) (zi k) (zi v) = some ((), WC M bk (upZ B1 (2084 + 48 * B 1865 + k) v) S ho ha sm) := fun B1 k v k0 k1 => m_put h a0 a1 k0 k1
  unfold g_X10_acquires
  rw [m_chk h, rA, i_bd]
  have e0 : (WC M bk B S ho ha sm, (0 : Int32)) = (fun i : Nat => (WC M bk (clrZ B (B 1865) i) S ho ha sm, zi i)) 0 := by
    have e1 : clrZ B (B 1865) 0 = B := by
      funext i; unfold clrZ; rw [if_neg (by omega)]
    show _ = (WC M bk (clrZ B (B 1865) 0) S ho ha sm, zi 0)
    rw [e1]; rfl
  rw [e0, loop_k (fun i : Nat => (WC M bk (clrZ B (B 1865) i) S ho ha sm, zi i)) (WC M bk (clrZ B (B 1865) 48) S ho ha sm, zi 48) 48 (fun i hi => ?_) ?_ n (by omega), i_sb]
  · dsimp only
    have q0 : ∀ (B1 : Int → Int) (v : Int), g_X10_put n (WC M bk B1 S ho ha sm) 139 (zi (B 1865)) 0 (zi v) = _ := fun B1 v => hp B1 0 v (by omega) (by omega)
    have q1 : ∀ (B1 : Int → Int) (v : Int), g_X10_put n (WC M bk B1 S ho ha sm) 139 (zi (B 1865)) 1 (zi v) = _ := fun B1 v => hp B1 1 v (by omega) (by omega)
    have q2 : ∀ (B1 : Int → Int) (v : Int), g_X10_put n (WC M bk B1 S ho ha sm) 139 (zi (B 1865)) 2 (zi v) = _ := fun B1 v => hp B1 2 v (by omega) (by omega)
    have q3 : ∀ (B1 : Int → Int) (v : Int), g_X10_put n (WC M bk B1 S ho ha sm) 139 (zi (B 1865)) 3 (zi v) = _ := fun B1 v => hp B1 3 v (by omega) (by omega)
    have q4 : ∀ (B1 : Int → Int) (v : Int), g_X10_put n (WC M bk B1 S ho ha sm) 139 (zi (B 1865)) 4 (zi v) = _ := fun B1 v => hp B1 4 v (by omega) (by omega)
    have q5 : ∀ (B1 : Int → Int) (v : Int), g_X10_put n (WC M bk B1 S ho ha sm) 139 (zi (B 1865)) 5 (zi v) = _ := fun B1 v => hp B1 5 v (by omega) (by omega)
    have z0 : ∀ (B1 : Int → Int), g_X10_of n (WC M bk B1 S ho ha sm) 139 0 = some (zi (B1 0), WC M bk B1 S ho ha sm) := fun B1 => m_of h (k := 0) (by omega) (by omega)
    have hc0 : clrZ B (B 1865) 48 0 = B 0 := if_neg (by omega)
    have hnew : upZ (upZ (upZ (upZ (upZ (clrZ B (B 1865) 48) (2084 + 48 * B 1865 + 0) t) (2084 + 48 * B 1865 + 1) t) (2084 + 48 * B 1865 + 2) use) (2084 + 48 * B 1865 + 3) tax) (2084 + 48 * B 1865 + 4) span 0 = B 0 := by
      rw [upZ_ne (by omega), upZ_ne (by omega), upZ_ne (by omega), upZ_ne (by omega), upZ_ne (by omega), hc0]
    have hnew2 : newZ B t use tax span 0 = B 0 := by
      unfold newZ
      rw [upZ_ne (by omega), hnew]
    rw [m_chk h, q0, i_bd, m_chk h, q1, i_bd, m_chk h, q2, i_bd, m_chk h, q3, i_bd, m_chk h, q4, i_bd, m_chk h, z0, i_bd, m_chk h, hnew, q5, i_bd, m_chk h]
    show bd (g_X10_of n (WC M bk (newZ B t use tax span) S ho ha sm) 139 0) _ = _
    rw [z0, i_bd, hnew2, m_chk h]
    show bd (g_X10_sumAt n _ 139 (zi t) (zi (B 0)) (zi 2 + zi use)) _ = _
    rw [zi_add, m_sumAt, i_bd, m_chk h, m_add h (by omega) (by omega), i_bd, m_chk h]
    show bd (g_X10_lay n _ 139 (zi 1865) (zi (B 1865) + zi 1)) _ = _
    rw [zi_add, m_lay h (by omega) (by omega), i_bd]
    rfl
  · dsimp only
    rw [if_pos (by show zi 48 ≤ zi ((48 : Nat) : Int); exact Int32.le_refl _)]; rfl
  · dsimp only
    have e4 : ¬ ((48 : Int32) ≤ zi i) := by
      show ¬ (zi 48 ≤ zi i)
      rw [zi_le (by omega) (by omega) (by omega) (by omega)]; omega
    rw [if_neg e4, m_chk h, show (0 : Int32) = zi 0 from rfl, hp _ i 0 (by omega) (by omega), i_bd]
    have e5 : upZ (clrZ B (B 1865) i) (2084 + 48 * B 1865 + i) 0 = clrZ B (B 1865) (i + 1) := by
      funext j
      unfold upZ clrZ
      by_cases hj : j = 2084 + 48 * B 1865 + i
      · rw [if_pos hj, if_pos (by omega)]
      · rw [if_neg hj]
        by_cases hr : 2084 + 48 * B 1865 ≤ j ∧ j < 2084 + 48 * B 1865 + i
        · rw [if_pos hr, if_pos (by omega)]
        · rw [if_neg hr, if_neg (by omega)]
    rw [e5]
    show some (Sum.inl (_, zi i + zi 1)) = _
    rw [zi_add]; rfl
end MACQ
