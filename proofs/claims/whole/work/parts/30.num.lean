/-! ===== PURE 0: numbers of the machine by whole numbers; loops ===== -/
def zi (a : Int) : Int32 := Int32.ofInt a
def zj (a : Int) : Int64 := Int64.ofInt a
theorem zi_int (x : Int32) : zi x.toInt = x := Int32.ofInt_toInt x
theorem zj_int (x : Int64) : zj x.toInt = x := Int64.ofInt_toInt x
theorem zi_add (a b : Int) : zi a + zi b = zi (a + b) := (Int32.ofInt_add a b).symm
theorem zi_sub (a b : Int) : zi a - zi b = zi (a - b) := (Int32.ofInt_sub a b).symm
theorem zi_mul (a b : Int) : zi a * zi b = zi (a * b) := (Int32.ofInt_mul a b).symm
theorem zi_neg (a : Int) : -zi a = zi (-a) := (Int32.ofInt_neg a).symm
theorem zj_add (a b : Int) : zj a + zj b = zj (a + b) := (Int64.ofInt_add a b).symm
theorem zj_sub (a b : Int) : zj a - zj b = zj (a - b) := (Int64.ofInt_sub a b).symm
theorem zj_mul (a b : Int) : zj a * zj b = zj (a * b) := (Int64.ofInt_mul a b).symm
theorem zj_neg (a : Int) : -zj a = zj (-a) := (Int64.ofInt_neg a).symm
theorem zi_back {a : Int} (h1 : -2147483648 ≤ a) (h2 : a ≤ 2147483647) : (zi a).toInt = a := Int32.toInt_ofInt_of_le h1 (by omega)
theorem zj_back {a : Int} (h1 : -9223372036854775808 ≤ a) (h2 : a ≤ 9223372036854775807) : (zj a).toInt = a := Int64.toInt_ofInt_of_le h1 (by omega)
theorem zi_lt {a b : Int} (h1 : -2147483648 ≤ a) (h2 : a ≤ 2147483647) (h3 : -2147483648 ≤ b) (h4 : b ≤ 2147483647) : (zi a < zi b) = (a < b) := by
  rw [Int32.lt_iff_toInt_lt, zi_back h1 h2, zi_back h3 h4]
theorem zi_le {a b : Int} (h1 : -2147483648 ≤ a) (h2 : a ≤ 2147483647) (h3 : -2147483648 ≤ b) (h4 : b ≤ 2147483647) : (zi a ≤ zi b) = (a ≤ b) := by
  rw [Int32.le_iff_toInt_le, zi_back h1 h2, zi_back h3 h4]
theorem zi_eq {a b : Int} (h1 : -2147483648 ≤ a) (h2 : a ≤ 2147483647) (h3 : -2147483648 ≤ b) (h4 : b ≤ 2147483647) : (zi a = zi b) = (a = b) := by
  rw [← Int32.toInt_inj, zi_back h1 h2, zi_back h3 h4]
theorem zj_lt {a b : Int} (h1 : -9223372036854775808 ≤ a) (h2 : a ≤ 9223372036854775807) (h3 : -9223372036854775808 ≤ b) (h4 : b ≤ 9223372036854775807) : (zj a < zj b) = (a < b) := by
  rw [Int64.lt_iff_toInt_lt, zj_back h1 h2, zj_back h3 h4]
theorem zj_le {a b : Int} (h1 : -9223372036854775808 ≤ a) (h2 : a ≤ 9223372036854775807) (h3 : -9223372036854775808 ≤ b) (h4 : b ≤ 9223372036854775807) : (zj a ≤ zj b) = (a ≤ b) := by
  rw [Int64.le_iff_toInt_le, zj_back h1 h2, zj_back h3 h4]
theorem zj_eq {a b : Int} (h1 : -9223372036854775808 ≤ a) (h2 : a ≤ 9223372036854775807) (h3 : -9223372036854775808 ≤ b) (h4 : b ≤ 9223372036854775807) : (zj a = zj b) = (a = b) := by
  rw [← Int64.toInt_inj, zj_back h1 h2, zj_back h3 h4]
theorem zi_tn {a : Int} (h2 : a ≤ 2147483647) (h0 : 0 ≤ a) : (zi a).toNatClampNeg = a.toNat := by
  show (zi a).toInt.toNat = _
  rw [zi_back (by omega) h2]
theorem zi_64 {a : Int} (h1 : -2147483648 ≤ a) (h2 : a ≤ 2147483647) : (zi a).toInt64 = zj a := by
  rw [← Int64.toInt_inj, Int32.toInt_toInt64, zi_back h1 h2, zj_back (by omega) (by omega)]
theorem zj_32 (a : Int) : (zj a).toInt32 = zi a := Int64.toInt32_ofInt
theorem zj_zi (x : Int32) : x.toInt64 = zj x.toInt := by
  rw [← Int64.toInt_inj, Int32.toInt_toInt64, zj_back]
  · have := x.le_toInt; omega
  · have := x.toInt_lt; omega
theorem zi_nI (n : Nat) : nI n = zi n := Int32.ofInt_eq_ofNat.symm
theorem zi_lit (n : Nat) : (Int32.ofNat n) = zi n := Int32.ofInt_eq_ofNat.symm
theorem zj_lit (n : Nat) : (Int64.ofNat n) = zj n := Int64.ofInt_eq_ofNat.symm
theorem zi_div {a b : Int} (h0 : 0 ≤ a) (h2 : a ≤ 2147483647) (h3 : 0 < b) (h4 : b ≤ 2147483647) : zi a / zi b = zi (a / b) := by
  have hq : 0 ≤ a / b := Int.ediv_nonneg h0 (by omega)
  have hq2 : a / b ≤ a := Int.ediv_le_self b h0
  rw [← Int32.toInt_inj, Int32.toInt_div, zi_back (by omega) h2, zi_back (by omega) h4, zi_back (by omega) (by omega), Int.tdiv_eq_ediv_of_nonneg h0]
  exact Int.bmod_eq_of_le (by omega) (by omega)
theorem zj_div {a b : Int} (h1 : -9223372036854775807 ≤ a) (h2 : a ≤ 9223372036854775807) (h3 : 0 < b) (h4 : b ≤ 9223372036854775807) : zj a / zj b = zj (a.tdiv b) := by
  have hq : a.tdiv b ≤ 9223372036854775807 ∧ -9223372036854775807 ≤ a.tdiv b := by
    have h5 := Int.natAbs_tdiv_le_natAbs a b
    omega
  rw [← Int64.toInt_inj, Int64.toInt_div, zj_back (by omega) h2, zj_back (by omega) h4, zj_back (by omega) (by omega)]
  exact Int.bmod_eq_of_le (by omega) (by omega)
theorem lg_cmp_ge0 (x y : Int64) : (0 ≤ lg_cmp x y) = (y ≤ x) := propext (lg_cmp_ge x y)
/-- CUT of a by b, b above 0 -/
def cutZ (way a b : Int) : Int := if way = 0 then a / b else if way = 1 then -(-a / b) else (2 * a + b) / (2 * b)
theorem loop_k {σ T : Type} {step : σ → Option (σ ⊕ T)} (f : Nat → σ) (t : T) (k : Nat) (h : ∀ i, i < k → step (f i) = some (.inl (f (i + 1)))) (he : step (f k) = some (.inr t)) : ∀ n, k < n → loopF step n (f 0) = some t := by
  have key : ∀ d i, i + d = k → ∀ n, d < n → loopF step n (f i) = some t := by
    intro d
    induction d with
    | zero =>
      intro i hi n hn
      obtain ⟨m, rfl⟩ : ∃ m, n = m + 1 := ⟨n - 1, by omega⟩
      have : i = k := by omega
      subst this
      simp [loopF, he]
    | succ d ih =>
      intro i hi n hn
      obtain ⟨m, rfl⟩ : ∃ m, n = m + 1 := ⟨n - 1, by omega⟩
      simp only [loopF, h i (by omega)]
      exact ih (i + 1) (by omega) m (by omega)
  exact fun n hn => key k 0 (by omega) n hn
/-- a loop by what holds at its head -/
theorem loop_inv {σ T : Type} {step : σ → Option (σ ⊕ T)} (I : Nat → σ → Prop) (Q : T → Prop) (k : Nat) (h : ∀ i, i < k → ∀ s, I i s → ∃ s1, step s = some (.inl s1) ∧ I (i + 1) s1) (he : ∀ s, I k s → ∃ t, step s = some (.inr t) ∧ Q t) : ∀ n, k < n → ∀ s, I 0 s → ∃ t, loopF step n s = some t ∧ Q t := by
  have key : ∀ d i, i + d = k → ∀ n, d < n → ∀ s, I i s → ∃ t, loopF step n s = some t ∧ Q t := by
    intro d
    induction d with
    | zero =>
      intro i hi n hn s hs
      obtain ⟨m, rfl⟩ : ∃ m, n = m + 1 := ⟨n - 1, by omega⟩
      have : i = k := by omega
      subst this
      obtain ⟨t, h1, h2⟩ := he s hs
      exact ⟨t, by simp [loopF, h1], h2⟩
    | succ d ih =>
      intro i hi n hn s hs
      obtain ⟨m, rfl⟩ : ∃ m, n = m + 1 := ⟨n - 1, by omega⟩
      obtain ⟨s1, h1, h2⟩ := h i (by omega) s hs
      obtain ⟨t, h3, h4⟩ := ih (i + 1) (by omega) m (by omega) s1 h2
      exact ⟨t, by simp only [loopF, h1]; exact h3, h4⟩
  exact fun n hn s hs => key k 0 (by omega) n hn s hs
