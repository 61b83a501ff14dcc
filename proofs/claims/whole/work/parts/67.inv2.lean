/-! ===== PURE 37: what comes into a bank, its ranges ===== -/
def RowsNt (T as : Int → Int) (nt : Int) : Prop := ∀ k : Int, 0 ≤ k → k < T 6 → as (5 * k) < nt
theorem addZ_at {B : Int → Int} {i p v : Int} : addZ B p v i = if i = p then B i + v else B i := by
  unfold addZ upZ
  by_cases c : i = p
  · rw [if_pos c, if_pos c, c]
  · rw [if_neg c, if_neg c]
section INV2
variable {T tr sl bu as B : Int → Int} {nt : Int}
theorem slZ_b {q i : Int} (hr : RowsOk T sl bu as) : ∀ k : Nat, (k : Int) ≤ T 4 → B i ≤ slZ sl q B k i ∧ slZ sl q B k i ≤ B i + 99999 * k := by
  intro k
  induction k with
  | zero => intro _; exact ⟨Int.le_refl _, by show B i ≤ B i + 99999 * ((0 : Nat) : Int); omega⟩
  | succ k ih =>
    intro hk
    have h1 := hr.2.2.2.1 k (by omega) (by omega)
    have h2 := ih (by omega)
    show B i ≤ (if sl (4 * k + 1) = q then addZ (slZ sl q B k) (sumI (sl (4 * k)) q (sl (4 * k + 2))) (sl (4 * k + 3)) else slZ sl q B k) i ∧ (if sl (4 * k + 1) = q then addZ (slZ sl q B k) (sumI (sl (4 * k)) q (sl (4 * k + 2))) (sl (4 * k + 3)) else slZ sl q B k) i ≤ _
    split
    · rw [addZ_at]
      split <;> omega
    · omega
theorem buZ_b {q i : Int} (hr : RowsOk T sl bu as) : ∀ k : Nat, (k : Int) ≤ T 5 → B i ≤ buZ bu q B k i ∧ buZ bu q B k i ≤ B i + 9999 * k := by
  intro k
  induction k with
  | zero => intro _; exact ⟨Int.le_refl _, by show B i ≤ B i + 9999 * ((0 : Nat) : Int); omega⟩
  | succ k ih =>
    intro hk
    have h1 := hr.2.2.2.2.1 k (by omega) (by omega)
    have h2 := ih (by omega)
    show B i ≤ (if bu (4 * k + 1) = q then addZ (buZ bu q B k) (sumI (bu (4 * k)) q (2 + bu (4 * k + 2))) (bu (4 * k + 3)) else buZ bu q B k) i ∧ (if bu (4 * k + 1) = q then addZ (buZ bu q B k) (sumI (bu (4 * k)) q (2 + bu (4 * k + 2))) (bu (4 * k + 3)) else buZ bu q B k) i ≤ _
    split
    · rw [addZ_at]
      split <;> omega
    · omega
theorem slZ_far {q i : Int} (hr : RowsOk T sl bu as) (hi : ∀ t w : Int, 0 ≤ t → t < 4 → 0 ≤ w → w < 5 → i ≠ sumI t q w) : ∀ k : Nat, (k : Int) ≤ T 4 → slZ sl q B k i = B i := by
  intro k
  induction k with
  | zero => intro _; rfl
  | succ k ih =>
    intro hk
    have h1 := hr.2.2.2.1 k (by omega) (by omega)
    show (if sl (4 * k + 1) = q then addZ (slZ sl q B k) (sumI (sl (4 * k)) q (sl (4 * k + 2))) (sl (4 * k + 3)) else slZ sl q B k) i = _
    split
    · rw [addZ_ne (hi _ _ (by omega) (by omega) (by omega) (by omega))]; exact ih (by omega)
    · exact ih (by omega)
theorem buZ_far {q i : Int} (hr : RowsOk T sl bu as) (hi : ∀ t w : Int, 0 ≤ t → t < 4 → 0 ≤ w → w < 5 → i ≠ sumI t q w) : ∀ k : Nat, (k : Int) ≤ T 5 → buZ bu q B k i = B i := by
  intro k
  induction k with
  | zero => intro _; rfl
  | succ k ih =>
    intro hk
    have h1 := hr.2.2.2.2.1 k (by omega) (by omega)
    show (if bu (4 * k + 1) = q then addZ (buZ bu q B k) (sumI (bu (4 * k)) q (2 + bu (4 * k + 2))) (bu (4 * k + 3)) else buZ bu q B k) i = _
    split
    · rw [addZ_ne (hi _ _ (by omega) (by omega) (by omega) (by omega))]; exact ih (by omega)
    · exact ih (by omega)
theorem acqZ_b {t u x s i : Int} (h8 : 0 ≤ B 1865) (hN : BN B) (t0 : 0 ≤ t) (t1 : t < 4) (u0 : 0 ≤ u) (u1 : u ≤ 2) (hi : i < 2084) (h5 : i ≠ 1865) : acqZ B t u x s i = if i = sumI t (B 0) (2 + u) then B i + x else B i := by
  obtain ⟨n1, n2⟩ := id hN
  by_cases c : i = sumI t (B 0) (2 + u)
  · rw [if_pos c]
    unfold acqZ
    rw [upZ_ne h5, addZ_at, if_pos c, newZ_hi h8 (by omega)]
  · rw [if_neg c]
    exact acqZ_lo h8 hN t0 t1 u0 u1 hi h5 c
theorem AX_eq {B1 : Int → Int} {a : Int} (h : AX B nt a) (hz : B1 0 = B 0) (hb : ∀ j : Int, 0 ≤ j → j < 48 → AtZ B1 a j = AtZ B a j) : AX B1 nt a := by
  obtain ⟨hA, h0, h1, h9, h27, h4⟩ := h
  have hy : yearZ B1 = yearZ B := congrArg (· / 4) hz
  unfold AX
  rw [hy, hb 0 (by omega) (by omega), hb 1 (by omega) (by omega), hb 9 (by omega) (by omega), hb 47 (by omega) (by omega), hb 5 (by omega) (by omega), hb 4 (by omega) (by omega), hb 27 (by omega) (by omega)]
  have h47 := hA.2.2.2.2.2.2.2.2.2.2.2.2
  exact ⟨AO_eq hA hz hb, h0, h1, h9, h27, h4.1, fun i i0 i1 => by rw [hb (37 + i) (by omega) (by omega)]; exact h4.2 i i0 i1⟩
theorem AX_new {t u x s : Int} (h8 : 0 ≤ B 1865) (hN : BN B) (hnt : nt ≤ 4) (t0 : 0 ≤ t) (t1 : t < nt) (u0 : 0 ≤ u) (u1 : u ≤ 2) (x0 : 1 ≤ x ∧ x ≤ 99999) (s0 : s = 5 ∨ s = 10) : AX (acqZ B t u x s) nt (B 1865) := by
  obtain ⟨n1, n2⟩ := id hN
  have hat : ∀ j : Int, 0 ≤ j → j < 48 → AtZ (acqZ B t u x s) (B 1865) j = if j = 5 then B 0 else if j = 4 then s else if j = 3 then x else if j = 2 then u else if j = 1 then t else if j = 0 then t else 0 := fun j j0 j1 => by
    rw [acqZ_at h8 hN t0 (by omega) u0 u1 h8 j0 j1, if_pos rfl]
  have hz : acqZ B t u x s 0 = B 0 := acqZ_0 h8 hN t0 u0
  have hy : yearZ (acqZ B t u x s) = yearZ B := congrArg (· / 4) hz
  have z : ∀ j : Int, 6 ≤ j → j < 48 → AtZ (acqZ B t u x s) (B 1865) j = 0 := fun j j0 j1 => by
    rw [hat j (by omega) j1, if_neg (by omega), if_neg (by omega), if_neg (by omega), if_neg (by omega), if_neg (by omega), if_neg (by omega)]
  have e0 := hat 0 (by omega) (by omega)
  have e1 := hat 1 (by omega) (by omega)
  have e2 := hat 2 (by omega) (by omega)
  have e3 := hat 3 (by omega) (by omega)
  have e4 := hat 4 (by omega) (by omega)
  have e5 := hat 5 (by omega) (by omega)
  simp at e0 e1 e2 e3 e4 e5
  have hyy : yearZ B - B 0 / 4 = 0 := by unfold yearZ; omega
  unfold AX AO
  rw [hy, hz, e0, e1, e2, e3, e4, e5, z 6 (by omega) (by omega), z 7 (by omega) (by omega), z 8 (by omega) (by omega), z 9 (by omega) (by omega), z 11 (by omega) (by omega), z 47 (by omega) (by omega), z 27 (by omega) (by omega), hyy]
  refine ⟨⟨by omega, by omega, by omega, by omega, s0, by omega, by omega, by omega, by omega, by omega, by omega, fun k k0 k1 => ?_, by omega⟩, t1, t1, fun _ => by omega, fun _ => rfl, by omega, fun i i0 i1 => absurd i1 (by omega)⟩
  rw [z _ (by omega) (by omega)]; omega
theorem asZ_AX (hr : RowsOk T sl bu as) (hNt : RowsNt T as nt) (hnt : nt ≤ 4) (hA : 0 ≤ B 1865 ∧ B 1865 ≤ 8) (hN : BN B) (hX : ∀ a : Int, 0 ≤ a → a < B 1865 → AX B nt a) : ∀ k : Nat, (k : Int) ≤ T 6 → ∀ a : Int, 0 ≤ a → a < asZ as (B 0) B k 1865 → AX (asZ as (B 0) B k) nt a := by
  intro k
  induction k with
  | zero => intro _; exact hX
  | succ k ih =>
    intro hk
    have hh := ih (by omega)
    obtain ⟨i1, i2, i3⟩ := asZ_inv hr hA hN k (by omega)
    have h1 := hr.2.2.2.2.2 k (by omega) (by omega)
    have h2 := hNt k (by omega) (by omega)
    show ∀ a : Int, 0 ≤ a → a < (if as (5 * k + 1) = B 0 ∧ asZ as (B 0) B k 1865 < 8 then acqZ (asZ as (B 0) B k) (as (5 * k)) (as (5 * k + 2)) (as (5 * k + 3)) (as (5 * k + 4)) else asZ as (B 0) B k) 1865 → AX (if as (5 * k + 1) = B 0 ∧ asZ as (B 0) B k 1865 < 8 then acqZ (asZ as (B 0) B k) (as (5 * k)) (as (5 * k + 2)) (as (5 * k + 3)) (as (5 * k + 4)) else asZ as (B 0) B k) nt a
    generalize asZ as (B 0) B k = Bk at *
    have hNk : BN Bk := by unfold BN; rw [i1]; exact hN
    split
    · intro a a0 a1
      rw [acqZ_1865] at a1
      by_cases c : a = Bk 1865
      · rw [c]
        exact AX_new i2 hNk hnt h1.1.1 h2 h1.2.2.1.1 h1.2.2.1.2 (by omega) h1.2.2.2.2
      · exact AX_eq (hh a a0 (by omega)) (acqZ_0 i2 hNk h1.1.1 h1.2.2.1.1) (fun j j0 j1 => by
          rw [acqZ_at i2 hNk h1.1.1 h1.1.2 h1.2.2.1.1 h1.2.2.1.2 a0 j0 j1, if_neg c])
    · exact hh
theorem asZ_b {i : Int} (hr : RowsOk T sl bu as) (hA : 0 ≤ B 1865 ∧ B 1865 ≤ 8) (hN : BN B) (hi : i < 2084) (h5 : i ≠ 1865) : ∀ k : Nat, (k : Int) ≤ T 6 → B i ≤ asZ as (B 0) B k i ∧ asZ as (B 0) B k i ≤ B i + 9999 * k ∧ ((∀ t w : Int, 0 ≤ t → t < 4 → 0 ≤ w → w < 5 → i ≠ sumI t (B 0) w) → asZ as (B 0) B k i = B i) := by
  intro k
  induction k with
  | zero => intro _; exact ⟨Int.le_refl _, by show B i ≤ B i + 9999 * ((0 : Nat) : Int); omega, fun _ => rfl⟩
  | succ k ih =>
    intro hk
    have h2 := ih (by omega)
    obtain ⟨i1, i2, i3⟩ := asZ_inv hr hA hN k (by omega)
    have h1 := hr.2.2.2.2.2 k (by omega) (by omega)
    have hNk : BN (asZ as (B 0) B k) := by unfold BN; rw [i1]; exact hN
    show B i ≤ (if as (5 * k + 1) = B 0 ∧ asZ as (B 0) B k 1865 < 8 then acqZ (asZ as (B 0) B k) (as (5 * k)) (as (5 * k + 2)) (as (5 * k + 3)) (as (5 * k + 4)) else asZ as (B 0) B k) i ∧ (if as (5 * k + 1) = B 0 ∧ asZ as (B 0) B k 1865 < 8 then acqZ (asZ as (B 0) B k) (as (5 * k)) (as (5 * k + 2)) (as (5 * k + 3)) (as (5 * k + 4)) else asZ as (B 0) B k) i ≤ _ ∧ (_ → (if as (5 * k + 1) = B 0 ∧ asZ as (B 0) B k 1865 < 8 then acqZ (asZ as (B 0) B k) (as (5 * k)) (as (5 * k + 2)) (as (5 * k + 3)) (as (5 * k + 4)) else asZ as (B 0) B k) i = _)
    split
    · rw [acqZ_b i2 hNk h1.1.1 h1.1.2 h1.2.2.1.1 h1.2.2.1.2 hi h5, i1]
      refine ⟨?_, ?_, fun hf => ?_⟩
      · split <;> omega
      · split <;> omega
      · rw [if_neg (hf _ _ h1.1.1 h1.1.2 (by omega) (by omega))]
        exact h2.2.2 hf
    · exact ⟨h2.1, by omega, h2.2.2⟩
/-- what is told of the quarter that is now: ranges -/
theorem comZ_b {i : Int} (hr : RowsOk T sl bu as) (hA : 0 ≤ B 1865 ∧ B 1865 ≤ 8) (hN : BN B) (hi : i < 2084) (h5 : i ≠ 1865) : B i ≤ comZ T sl bu as B i ∧ comZ T sl bu as B i ≤ B i + 1400000 ∧ ((∀ t w : Int, 0 ≤ t → t < 4 → 0 ≤ w → w < 5 → i ≠ sumI t (B 0) w) → comZ T sl bu as B i = B i) := by
  have r4 := hr.1
  have r5 := hr.2.1
  have r6 := hr.2.2.1
  have b1 := slZ_b (B := B) (q := B 0) (i := i) hr (T 4).toNat (by omega)
  have b2 := buZ_b (B := slZ sl (B 0) B (T 4).toNat) (q := B 0) (i := i) hr (T 5).toNat (by omega)
  have o : ∀ j : Int, (j < 1 ∨ 1281 ≤ j) → buZ bu (B 0) (slZ sl (B 0) B (T 4).toNat) (T 5).toNat j = B j := fun j hj => by
    rw [buZ_out hr hN hj _ (by omega), slZ_out hr hN hj _ (by omega)]
  have e0 := o 0 (by omega)
  have e65 := o 1865 (by omega)
  have b3 := asZ_b (B := buZ bu (B 0) (slZ sl (B 0) B (T 4).toNat) (T 5).toNat) (i := i) hr (by rw [e65]; exact hA) (by unfold BN; rw [e0]; exact hN) hi h5 (T 6).toNat (by omega)
  rw [e0] at b3
  unfold comZ
  refine ⟨by omega, by omega, fun hf => ?_⟩
  rw [b3.2.2 hf, buZ_far hr hf _ (by omega), slZ_far hr hf _ (by omega)]
theorem comZ_A (hr : RowsOk T sl bu as) (hNt : RowsNt T as nt) (hnt : nt ≤ 4) (hA : 0 ≤ B 1865 ∧ B 1865 ≤ 8) (hN : BN B) (hX : ∀ a : Int, 0 ≤ a → a < B 1865 → AX B nt a) : (0 ≤ comZ T sl bu as B 1865 ∧ comZ T sl bu as B 1865 ≤ 8) ∧ ∀ a : Int, 0 ≤ a → a < comZ T sl bu as B 1865 → AX (comZ T sl bu as B) nt a := by
  have r4 := hr.1
  have r5 := hr.2.1
  have r6 := hr.2.2.1
  have o : ∀ j : Int, (j < 1 ∨ 1281 ≤ j) → buZ bu (B 0) (slZ sl (B 0) B (T 4).toNat) (T 5).toNat j = B j := fun j hj => by
    rw [buZ_out hr hN hj _ (by omega), slZ_out hr hN hj _ (by omega)]
  have e0 := o 0 (by omega)
  have e65 := o 1865 (by omega)
  have hN2 : BN (buZ bu (B 0) (slZ sl (B 0) B (T 4).toNat) (T 5).toNat) := by unfold BN; rw [e0]; exact hN
  have h1 := asZ_AX (B := buZ bu (B 0) (slZ sl (B 0) B (T 4).toNat) (T 5).toNat) hr hNt hnt (by rw [e65]; exact hA) hN2 (fun a a0 a1 => by
    rw [e65] at a1
    exact AX_eq (hX a a0 a1) e0 (fun j j0 j1 => o _ (by omega))) (T 6).toNat (by omega)
  have h2 := asZ_inv (B := buZ bu (B 0) (slZ sl (B 0) B (T 4).toNat) (T 5).toNat) hr (by rw [e65]; exact hA) hN2 (T 6).toNat (by omega)
  rw [e0] at h1 h2
  exact ⟨h2.2, h1⟩
end INV2
