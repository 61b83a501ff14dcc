/-! ===== PURE 10: the reference: what is told of the quarter that is now ===== -/
def RowsOk (T sl bu as : Int → Int) : Prop :=
  (0 ≤ T 4 ∧ T 4 ≤ 12) ∧ (0 ≤ T 5 ∧ T 5 ≤ 12) ∧ (0 ≤ T 6 ∧ T 6 ≤ 4) ∧
  (∀ k : Int, 0 ≤ k → k < T 4 → (0 ≤ sl (4 * k) ∧ sl (4 * k) < 4) ∧ (0 ≤ sl (4 * k + 1) ∧ sl (4 * k + 1) < 64) ∧ (0 ≤ sl (4 * k + 2) ∧ sl (4 * k + 2) ≤ 1) ∧ (1 ≤ sl (4 * k + 3) ∧ sl (4 * k + 3) ≤ 99999)) ∧
  (∀ k : Int, 0 ≤ k → k < T 5 → (0 ≤ bu (4 * k) ∧ bu (4 * k) < 4) ∧ (0 ≤ bu (4 * k + 1) ∧ bu (4 * k + 1) < 64) ∧ (0 ≤ bu (4 * k + 2) ∧ bu (4 * k + 2) ≤ 2) ∧ (1 ≤ bu (4 * k + 3) ∧ bu (4 * k + 3) ≤ 9999)) ∧
  (∀ k : Int, 0 ≤ k → k < T 6 → (0 ≤ as (5 * k) ∧ as (5 * k) < 4) ∧ (0 ≤ as (5 * k + 1) ∧ as (5 * k + 1) < 64) ∧ (0 ≤ as (5 * k + 2) ∧ as (5 * k + 2) ≤ 2) ∧ (1 ≤ as (5 * k + 3) ∧ as (5 * k + 3) ≤ 9999) ∧ (as (5 * k + 4) = 5 ∨ as (5 * k + 4) = 10))
def slZ (sl : Int → Int) (q : Int) (B : Int → Int) : Nat → Int → Int
  | 0 => B
  | k + 1 => if sl (4 * k + 1) = q then addZ (slZ sl q B k) (sumI (sl (4 * k)) q (sl (4 * k + 2))) (sl (4 * k + 3)) else slZ sl q B k
def buZ (bu : Int → Int) (q : Int) (B : Int → Int) : Nat → Int → Int
  | 0 => B
  | k + 1 => if bu (4 * k + 1) = q then addZ (buZ bu q B k) (sumI (bu (4 * k)) q (2 + bu (4 * k + 2))) (bu (4 * k + 3)) else buZ bu q B k
def asZ (as : Int → Int) (q : Int) (B : Int → Int) : Nat → Int → Int
  | 0 => B
  | k + 1 => if as (5 * k + 1) = q ∧ asZ as q B k 1865 < 8 then acqZ (asZ as q B k) (as (5 * k)) (as (5 * k + 2)) (as (5 * k + 3)) (as (5 * k + 4)) else asZ as q B k
def comZ (T sl bu as B : Int → Int) : Int → Int := asZ as (B 0) (buZ bu (B 0) (slZ sl (B 0) B (T 4).toNat) (T 5).toNat) (T 6).toNat
theorem addZ_ne {B : Int → Int} {i j v : Int} (h : i ≠ j) : addZ B j v i = B i := upZ_ne h
theorem slZ_out {T sl bu as B : Int → Int} {q i : Int} (hr : RowsOk T sl bu as) (hq : 0 ≤ q ∧ q < 64) (hi : i < 1 ∨ 1281 ≤ i) : ∀ k : Nat, (k : Int) ≤ T 4 → slZ sl q B k i = B i := by
  intro k
  induction k with
  | zero => intro _; rfl
  | succ k ih =>
    intro hk
    have h1 := hr.2.2.2.1 k (by omega) (by omega)
    show (if sl (4 * k + 1) = q then addZ (slZ sl q B k) (sumI (sl (4 * k)) q (sl (4 * k + 2))) (sl (4 * k + 3)) else slZ sl q B k) i = _
    split
    · rw [addZ_ne (by unfold sumI; omega)]; exact ih (by omega)
    · exact ih (by omega)
theorem buZ_out {T sl bu as B : Int → Int} {q i : Int} (hr : RowsOk T sl bu as) (hq : 0 ≤ q ∧ q < 64) (hi : i < 1 ∨ 1281 ≤ i) : ∀ k : Nat, (k : Int) ≤ T 5 → buZ bu q B k i = B i := by
  intro k
  induction k with
  | zero => intro _; rfl
  | succ k ih =>
    intro hk
    have h1 := hr.2.2.2.2.1 k (by omega) (by omega)
    show (if bu (4 * k + 1) = q then addZ (buZ bu q B k) (sumI (bu (4 * k)) q (2 + bu (4 * k + 2))) (bu (4 * k + 3)) else buZ bu q B k) i = _
    split
    · rw [addZ_ne (by unfold sumI; omega)]; exact ih (by omega)
    · exact ih (by omega)
theorem acqZ_0 {B : Int → Int} {t use tax span : Int} (hA : 0 ≤ B 1865) (hN : BN B) (h0 : 0 ≤ t) (h2 : 0 ≤ use) : acqZ B t use tax span 0 = B 0 := by
  obtain ⟨n1, n2⟩ := hN
  unfold acqZ
  rw [upZ_ne (by omega), addZ_ne (by unfold sumI; omega)]
  unfold newZ
  rw [upZ_ne (by omega), upZ_ne (by omega), upZ_ne (by omega), upZ_ne (by omega), upZ_ne (by omega), upZ_ne (by omega)]
  exact if_neg (by omega)
theorem acqZ_1865 {B : Int → Int} {t use tax span : Int} : acqZ B t use tax span 1865 = B 1865 + 1 := upZ_self
theorem asZ_inv {T sl bu as B : Int → Int} (hr : RowsOk T sl bu as) (hA : 0 ≤ B 1865 ∧ B 1865 ≤ 8) (hN : BN B) : ∀ k : Nat, (k : Int) ≤ T 6 → asZ as (B 0) B k 0 = B 0 ∧ 0 ≤ asZ as (B 0) B k 1865 ∧ asZ as (B 0) B k 1865 ≤ 8 := by
  intro k
  induction k with
  | zero => intro _; exact ⟨rfl, hA⟩
  | succ k ih =>
    intro hk
    obtain ⟨i1, i2, i3⟩ := ih (by omega)
    have h1 := hr.2.2.2.2.2 k (by omega) (by omega)
    show (if as (5 * k + 1) = B 0 ∧ asZ as (B 0) B k 1865 < 8 then acqZ (asZ as (B 0) B k) (as (5 * k)) (as (5 * k + 2)) (as (5 * k + 3)) (as (5 * k + 4)) else asZ as (B 0) B k) 0 = B 0 ∧ 0 ≤ (if as (5 * k + 1) = B 0 ∧ asZ as (B 0) B k 1865 < 8 then acqZ (asZ as (B 0) B k) (as (5 * k)) (as (5 * k + 2)) (as (5 * k + 3)) (as (5 * k + 4)) else asZ as (B 0) B k) 1865 ∧ (if as (5 * k + 1) = B 0 ∧ asZ as (B 0) B k 1865 < 8 then acqZ (asZ as (B 0) B k) (as (5 * k)) (as (5 * k + 2)) (as (5 * k + 3)) (as (5 * k + 4)) else asZ as (B 0) B k) 1865 ≤ 8
    by_cases c : as (5 * k + 1) = B 0 ∧ asZ as (B 0) B k 1865 < 8
    · rw [if_pos c, acqZ_1865, acqZ_0 i2 (by unfold BN; rw [i1]; exact hN) h1.1.1 h1.2.2.1.1]
      exact ⟨i1, by omega, by omega⟩
    · rw [if_neg c]; exact ⟨i1, i2, i3⟩
section MCOMES
variable {M : MemT} {bk nt : Int} {T tr sl bu as B S : Int → Int} {ho ha : Int} {sm : Int32} {n : Nat}
theorem m_sl (h : MOk M bk nt T tr sl bu as) : gO (WC M bk B S ho ha sm) 8 139 14 = some 143 := i_gO h.1.1 h.1.2.1.2.2.2.1
theorem m_bu (h : MOk M bk nt T tr sl bu as) : gO (WC M bk B S ho ha sm) 8 139 15 = some 144 := i_gO h.1.1 h.1.2.1.2.2.2.2.1
theorem m_as (h : MOk M bk nt T tr sl bu as) : gO (WC M bk B S ho ha sm) 8 139 16 = some 145 := i_gO h.1.1 h.1.2.1.2.2.2.2.2.1
theorem m_slr (h : MOk M bk nt T tr sl bu as) {w : Int} (h2 : 0 ≤ w) (h3 : w < 96) : aI (WC M bk B S ho ha sm) 10 143 (zi w) = some (zi (sl w)) := by
  obtain ⟨hS, -, -, -, -, -, hr, -⟩ := id h
  rw [i_aI (M := WC M bk B S ho ha sm) (N := 96) hS.2.2.1.2.2.2.1 (by rw [w_L, hS.2.2.2.2.2.1]; rfl) (by omega) (by omega) (by omega), w_I (by decide) (by simp), hr _ (by omega) (by omega)]
theorem m_bur (h : MOk M bk nt T tr sl bu as) {w : Int} (h2 : 0 ≤ w) (h3 : w < 96) : aI (WC M bk B S ho ha sm) 10 144 (zi w) = some (zi (bu w)) := by
  obtain ⟨hS, -, -, -, -, -, -, hr, -⟩ := id h
  rw [i_aI (M := WC M bk B S ho ha sm) (N := 96) hS.2.2.1.2.2.2.2.1 (by rw [w_L, hS.2.2.2.2.2.2.1]; rfl) (by omega) (by omega) (by omega), w_I (by decide) (by simp), hr _ (by omega) (by omega)]
theorem m_asr (h : MOk M bk nt T tr sl bu as) {w : Int} (h2 : 0 ≤ w) (h3 : w < 40) : aI (WC M bk B S ho ha sm) 10 145 (zi w) = some (zi (as w)) := by
  obtain ⟨hS, -, -, -, -, -, -, -, hr⟩ := id h
  rw [i_aI (M := WC M bk B S ho ha sm) (N := 40) hS.2.2.1.2.2.2.2.2.1 (by rw [w_L, hS.2.2.2.2.2.2.2.1]; rfl) (by omega) (by omega) (by omega), w_I (by decide) (by simp), hr _ (by omega) (by omega)]
theorem m_comesNow (h : MOk M bk nt T tr sl bu as) (hr : RowsOk T sl bu as) (hn : 50 < n) (hA : 0 ≤ B 1865 ∧ B 1865 ≤ 8) (hN : BN B) : g_X10_comesNow n (WC M bk B S ho ha sm) 139 = some ((), WC M bk (comZ T sl bu as B) S ho ha sm) := by
  obtain ⟨r4, r5, r6, rs, rb, ra⟩ := id hr
  obtain ⟨n1, n2⟩ := id hN
  have z0 : g_X10_of n (WC M bk B S ho ha sm) 139 0 = some (zi (B 0), WC M bk B S ho ha sm) := m_of h (k := 0) (by omega) (by omega)
  have t4 : ∀ B1 : Int → Int, aI (WC M bk B1 S ho ha sm) 10 146 4 = some (zi (T 4)) := fun B1 => m_T h (w := 4) (by omega) (by omega)
  have t5 : ∀ B1 : Int → Int, aI (WC M bk B1 S ho ha sm) 10 146 5 = some (zi (T 5)) := fun B1 => m_T h (w := 5) (by omega) (by omega)
  have t6 : ∀ B1 : Int → Int, aI (WC M bk B1 S ho ha sm) 10 146 6 = some (zi (T 6)) := fun B1 => m_T h (w := 6) (by omega) (by omega)
  have k4 : ∀ i : Int, (4 : Int32) * zi i = zi (4 * i) := fun i => zi_mul 4 i
  have k5 : ∀ i : Int, (5 : Int32) * zi i = zi (5 * i) := fun i => zi_mul 5 i
  have p1 : ∀ i : Int, zi i + 1 = zi (i + 1) := fun i => zi_add i 1
  have p2 : ∀ i : Int, zi i + 2 = zi (i + 2) := fun i => zi_add i 2
  have p3 : ∀ i : Int, zi i + 3 = zi (i + 3) := fun i => zi_add i 3
  have p4 : ∀ i : Int, zi i + 4 = zi (i + 4) := fun i => zi_add i 4
  have l2 : ∀ i : Int, (2 : Int32) + zi i = zi (2 + i) := fun i => zi_add 2 i
  unfold g_X10_comesNow
  rw [m_chk h, z0, i_bd]
  have e0 : (WC M bk B S ho ha sm, (0 : Int32)) = (fun i : Nat => (WC M bk (slZ sl (B 0) B i) S ho ha sm, zi i)) 0 := rfl
  rw [e0, loop_k (fun i : Nat => (WC M bk (slZ sl (B 0) B i) S ho ha sm, zi i)) (WC M bk (slZ sl (B 0) B (T 4).toNat) S ho ha sm, zi (T 4)) (T 4).toNat (fun i hi => ?_) ?_ n (by omega), i_sb]
  · dsimp only
    generalize hB1 : slZ sl (B 0) B (T 4).toNat = B1
    have e1 : (WC M bk B1 S ho ha sm, (0 : Int32)) = (fun i : Nat => (WC M bk (buZ bu (B 0) B1 i) S ho ha sm, zi i)) 0 := rfl
    rw [e1, loop_k (fun i : Nat => (WC M bk (buZ bu (B 0) B1 i) S ho ha sm, zi i)) (WC M bk (buZ bu (B 0) B1 (T 5).toNat) S ho ha sm, zi (T 5)) (T 5).toNat (fun i hi => ?_) ?_ n (by omega), i_sb]
    · dsimp only
      have q0 : buZ bu (B 0) B1 (T 5).toNat 0 = B 0 := by
        rw [buZ_out hr hN (by omega) _ (by omega), ← hB1, slZ_out hr hN (by omega) _ (by omega)]
      have q1 : buZ bu (B 0) B1 (T 5).toNat 1865 = B 1865 := by
        rw [buZ_out hr hN (by omega) _ (by omega), ← hB1, slZ_out hr hN (by omega) _ (by omega)]
      generalize hB2 : buZ bu (B 0) B1 (T 5).toNat = B2 at q0 q1
      have hN2 : BN B2 := by unfold BN; rw [q0]; exact hN
      have e2 : (WC M bk B2 S ho ha sm, (0 : Int32)) = (fun i : Nat => (WC M bk (asZ as (B2 0) B2 i) S ho ha sm, zi i)) 0 := rfl
      rw [e2, loop_k (fun i : Nat => (WC M bk (asZ as (B2 0) B2 i) S ho ha sm, zi i)) (WC M bk (asZ as (B2 0) B2 (T 6).toNat) S ho ha sm, zi (T 6)) (T 6).toNat (fun i hi => ?_) ?_ n (by omega), i_sb]
      · dsimp only
        unfold comZ
        rw [hB1, hB2, q0]
      · dsimp only
        rw [m_told h, i_sb, t6, i_sb, Int.toNat_of_nonneg r6.1, if_pos (Int32.le_refl _)]
      · dsimp only
        have hi2 : (i : Int) < T 6 := by omega
        have hrow := ra i (by omega) hi2
        obtain ⟨j0, j1, j2⟩ := asZ_inv (B := B2) hr (by omega) hN2 i (by omega)
        have el : ¬ (zi (T 6) ≤ zi i) := by
          rw [zi_le (by omega) (by omega) (by omega) (by omega)]; omega
        have eq : (zi (as (5 * i + 1)) = zi (B 0)) = (as (5 * i + 1) = B2 0) := by
          rw [q0]; exact zi_eq (by omega) (by omega) (by omega) (by omega)
        rw [m_told h, i_sb, t6, i_sb, if_neg el, m_as h, i_sb, k5, p1, m_asr h (by omega) (by omega), i_sb]
        simp only [eq]
        show _ = some (Sum.inl (WC M bk (if as (5 * i + 1) = B2 0 ∧ asZ as (B2 0) B2 i 1865 < 8 then acqZ (asZ as (B2 0) B2 i) (as (5 * i)) (as (5 * i + 2)) (as (5 * i + 3)) (as (5 * i + 4)) else asZ as (B2 0) B2 i) S ho ha sm, zi ((i + 1 : Nat) : Int)))
        by_cases c : as (5 * i + 1) = B2 0
        · have rA : g_X10_of n (WC M bk (asZ as (B2 0) B2 i) S ho ha sm) 139 1865 = some (zi (asZ as (B2 0) B2 i 1865), _) := m_of h (k := 1865) (by omega) (by omega)
          have e8 : ((8 : Int32) ≤ zi (asZ as (B2 0) B2 i 1865)) = (8 ≤ asZ as (B2 0) B2 i 1865) := zi_le (a := 8) (by omega) (by omega) (by omega) (by omega)
          rw [if_pos c, m_chk h, rA, i_bd]
          simp only [e8]
          by_cases c8 : 8 ≤ asZ as (B2 0) B2 i 1865
          · rw [if_pos c8, if_neg (by omega), p1]; rfl
          · rw [if_neg c8, if_pos ⟨c, by omega⟩, m_as h, i_sb, m_asr h (by omega) (by omega), i_sb, i_sb, p2, m_asr h (by omega) (by omega), i_sb, i_sb, p3, m_asr h (by omega) (by omega), i_sb, i_sb, p4, m_asr h (by omega) (by omega), i_sb, m_chk h, m_acquires h hn ⟨j1, by omega⟩ (by unfold BN; rw [j0]; exact hN2) hrow.1.1 hrow.1.2 hrow.2.2.1.1 hrow.2.2.1.2, i_bd, p1]
            rfl
        · rw [if_neg c, if_neg (fun q => c q.1), p1]; rfl
    · dsimp only
      rw [m_told h, i_sb, t5, i_sb, Int.toNat_of_nonneg r5.1, if_pos (Int32.le_refl _)]
    · dsimp only
      have hi2 : (i : Int) < T 5 := by omega
      have hrow := rb i (by omega) hi2
      have el : ¬ (zi (T 5) ≤ zi i) := by
        rw [zi_le (by omega) (by omega) (by omega) (by omega)]; omega
      have eq : (zi (bu (4 * i + 1)) = zi (B 0)) = (bu (4 * i + 1) = B 0) := zi_eq (by omega) (by omega) (by omega) (by omega)
      rw [m_told h, i_sb, t5, i_sb, if_neg el, m_bu h, i_sb, k4, p1, m_bur h (by omega) (by omega), i_sb]
      simp only [eq]
      show _ = some (Sum.inl (WC M bk (if bu (4 * i + 1) = B 0 then addZ (buZ bu (B 0) B1 i) (sumI (bu (4 * i)) (B 0) (2 + bu (4 * i + 2))) (bu (4 * i + 3)) else buZ bu (B 0) B1 i) S ho ha sm, zi ((i + 1 : Nat) : Int)))
      by_cases c : bu (4 * i + 1) = B 0
      · rw [if_pos c, if_pos c, i_sb, m_bur h (by omega) (by omega), i_sb, i_sb, p2, m_bur h (by omega) (by omega), i_sb, m_chk h, l2, m_sumAt, i_bd, m_bu h, i_sb, p3, m_bur h (by omega) (by omega), i_sb, m_chk h, m_add h (by omega) (by omega), i_bd, p1]
        rfl
      · rw [if_neg c, if_neg c, p1]; rfl
  · dsimp only
    rw [m_told h, i_sb, t4, i_sb, Int.toNat_of_nonneg r4.1, if_pos (Int32.le_refl _)]
  · dsimp only
    have hi2 : (i : Int) < T 4 := by omega
    have hrow := rs i (by omega) hi2
    have el : ¬ (zi (T 4) ≤ zi i) := by
      rw [zi_le (by omega) (by omega) (by omega) (by omega)]; omega
    have eq : (zi (sl (4 * i + 1)) = zi (B 0)) = (sl (4 * i + 1) = B 0) := zi_eq (by omega) (by omega) (by omega) (by omega)
    rw [m_told h, i_sb, t4, i_sb, if_neg el, m_sl h, i_sb, k4, p1, m_slr h (by omega) (by omega), i_sb]
    simp only [eq]
    show _ = some (Sum.inl (WC M bk (if sl (4 * i + 1) = B 0 then addZ (slZ sl (B 0) B i) (sumI (sl (4 * i)) (B 0) (sl (4 * i + 2))) (sl (4 * i + 3)) else slZ sl (B 0) B i) S ho ha sm, zi ((i + 1 : Nat) : Int)))
    by_cases c : sl (4 * i + 1) = B 0
    · rw [if_pos c, if_pos c, i_sb, m_slr h (by omega) (by omega), i_sb, i_sb, p2, m_slr h (by omega) (by omega), i_sb, m_chk h, m_sumAt, i_bd, m_sl h, i_sb, p3, m_slr h (by omega) (by omega), i_sb, m_chk h, m_add h (by omega) (by omega), i_bd, p1]
      rfl
    · rw [if_neg c, if_neg c, p1]; rfl
end MCOMES
