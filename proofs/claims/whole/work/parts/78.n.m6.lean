/-! ===== PURE 61: a new Books ===== -/
section M6
variable {M W : MemT} {c : Nat} {R : Nat → Nat → Int32} {F : Nat → Int32} {S : Int → Int} {n b : Nat}
def bA (M : MemT) (b : Nat) : MemT := apO (apO (apO (apO (apO (apO (apO (apO (apO M b 3 10 4) b 4 10 4) b 5 14 8) b 6 10 1280) b 7 10 256) b 8 10 64) b 9 10 256) b 10 10 16) b 11 10 200
def isM (W : MemT) (b : Nat) : Nat → MemT
  | 0 => W
  | i + 1 => sR (iA (nwM (isM W b i) 0 0) (mN (isM W b i))) (b + 3) i (some (mN (isM W b i)))
theorem bA_N : mN (bA M b) = mN M + 9 := rfl
theorem bA_WX (h : c + 62 ≤ mN M) : bA (WX M c R F S) b = WX (bA M b) c R F S := by
  unfold bA
  rw [apO_WX h, apO_WX (by simp only [apO_N]; omega), apO_WX (by simp only [apO_N]; omega), apO_WX (by simp only [apO_N]; omega), apO_WX (by simp only [apO_N]; omega), apO_WX (by simp only [apO_N]; omega), apO_WX (by simp only [apO_N]; omega), apO_WX (by simp only [apO_N]; omega), apO_WX (by simp only [apO_N]; omega)]
theorem isM_N : ∀ i, mN (isM W b i) = mN W + 5 * i := by
  intro i
  induction i with
  | zero => rfl
  | succ i ih =>
    show mN (isM W b i) + 1 + 4 = _
    omega
theorem isM_WX (h : c + 62 ≤ mN W) : ∀ i, isM (WX W c R F S) b i = WX (isM W b i) c R F S := by
  intro i
  induction i with
  | zero => rfl
  | succ i ih =>
    have hN := isM_N (W := W) (b := b) i
    show sR (iA (nwM (isM (WX W c R F S) b i) 0 0) (mN (isM (WX W c R F S) b i))) (b + 3) i (some (mN (isM (WX W c R F S) b i))) = WX (sR (iA (nwM (isM W b i) 0 0) (mN (isM W b i))) (b + 3) i (some (mN (isM W b i)))) c R F S
    rw [ih, WX_N, nwM_WX (by omega), iA_WX (by rw [nw_N]; omega)]
    rfl
theorem iA_sh {a : Nat} (hk : mK M a = 0) (ha : a + 1 = mN M) : ASh (iA M a) a := by
  unfold iA ASh
  simp (disch := ((try simp only [apO_N]); omega)) only [apO_Kne, apO_Kat, apO_Lat, apO_Lne, apO_Rne, apO_Rat, apO_N, hk, ← ha, and_self, true_and]
theorem iA_lo {a y j : Nat} (hy : y < mN M) (hya : y ≠ a) : mK (iA M a) y = mK M y ∧ mL (iA M a) y = mL M y ∧ mR (iA M a) y j = mR M y j := by
  unfold iA
  simp (disch := ((try simp only [apO_N]); omega)) only [apO_Kne, apO_Lne, apO_Rne, and_self]
end M6
