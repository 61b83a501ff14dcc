/-! ===== PURE 62: a new Books: its eight assets ===== -/
section M7
variable {M W : MemT} {n b : Nat}
theorem i_wO {κ ci x j : Nat} {k N : Int} (hk : mK M x = κ) (hj : mK M j = ci) (hl : (mL M x : Int) = N) (h0 : 0 ≤ k) (h1 : k < N) (h2 : N ≤ 2147483647) : wO M κ ci x (zi k) j = some (sR M x k.toNat (some j)) := by
  unfold wO inA
  have e0 : ¬ (zi k < 0 ∨ mL M x ≤ (zi k).toNatClampNeg) := by
    show ¬ (zi k < zi 0 ∨ _)
    rw [zi_lt (by omega) (by omega) (by omega) (by omega), zi_tn (by omega) h0]
    omega
  rw [if_pos ⟨⟨hk, e0⟩, hj⟩, zi_tn (by omega) h0]
theorem iA_K {a : Nat} (hk : mK M a = 0) (ha : a + 1 = mN M) : mK (iA M a) a = 0 := (iA_sh hk ha).1
/-- one turn: below the new object nothing changes but the place -/
theorem isM_lo {y j i : Nat} (hy : y < mN (isM W b i)) (h : y ≠ b + 3 ∨ j ≠ i) : mK (isM W b (i + 1)) y = mK (isM W b i) y ∧ mL (isM W b (i + 1)) y = mL (isM W b i) y ∧ mR (isM W b (i + 1)) y j = mR (isM W b i) y j := by
  have h1 := iA_lo (M := nwM (isM W b i) 0 0) (a := mN (isM W b i)) (y := y) (j := j) (by rw [nw_N]; omega) (by omega)
  refine ⟨h1.1.trans (nw_Kne (by omega)), h1.2.1.trans (nw_Lne (by omega)), ?_⟩
  show (if y = b + 3 ∧ j = i then some (mN (isM W b i)) else mR (iA (nwM (isM W b i) 0 0) (mN (isM W b i))) y j) = _
  rw [if_neg (by omega), h1.2.2]
  exact nw_Rne (by omega)
theorem isM_keep {y j : Nat} (hy : y < mN W) (h : y ≠ b + 3) : ∀ i, mK (isM W b i) y = mK W y ∧ mL (isM W b i) y = mL W y ∧ mR (isM W b i) y j = mR W y j := by
  intro i
  induction i with
  | zero => exact ⟨rfl, rfl, rfl⟩
  | succ i ih =>
    have hN := isM_N (W := W) (b := b) i
    have h1 := isM_lo (W := W) (b := b) (y := y) (j := j) (i := i) (by omega) (Or.inl h)
    exact ⟨h1.1.trans ih.1, h1.2.1.trans ih.2.1, h1.2.2.trans ih.2.2⟩
theorem isM_arr (hy : b + 3 < mN W) : ∀ i, mK (isM W b i) (b + 3) = mK W (b + 3) ∧ mL (isM W b i) (b + 3) = mL W (b + 3) := by
  intro i
  induction i with
  | zero => exact ⟨rfl, rfl⟩
  | succ i ih =>
    have hN := isM_N (W := W) (b := b) i
    have h1 := isM_lo (W := W) (b := b) (y := b + 3) (j := i + 1) (i := i) (by omega) (Or.inr (by omega))
    exact ⟨h1.1.trans ih.1, h1.2.1.trans ih.2⟩
theorem x_isM (hb : mK W b = 1) (h5 : mR W b 5 = some (b + 3)) (hk : mK W (b + 3) = 14) (hl : mL W (b + 3) = 8) (hN : mN W = b + 10) {i : Nat} (hi : i < 8) : ((gO (isM W b i) 1 b 5).bind (fun j31 => nwO (isM W b i) 0 (fun j32 M33 => bd (g_X1_init n M33 j32) (fun _ M35 => (wO M35 14 0 j31 (zi (i : Int)) j32).bind (fun M36 => (some (.inl (M36, zi (i : Int) + 1)) : Option ((MemT × Int32) ⊕ (Unit × MemT)))))))) = some (.inl (isM W b (i + 1), zi ((i + 1 : Nat) : Int))) := by
  have hNi := isM_N (W := W) (b := b) i
  have k1 := isM_keep (W := W) (b := b) (y := b) (j := 5) (by omega) (by omega) i
  have k3 := isM_arr (W := W) (b := b) (by omega) i
  have hA : mK (nwM (isM W b i) 0 0) (mN (isM W b i)) = 0 := nw_Kat rfl
  have h3 := iA_lo (M := nwM (isM W b i) 0 0) (a := mN (isM W b i)) (y := b + 3) (j := 0) (by rw [nw_N]; omega) (by omega)
  rw [i_gO (k1.1.trans hb) (k1.2.2.trans h5), i_sb]
  show bd (g_X1_init n (nwM (isM W b i) 0 0) (mN (isM W b i))) _ = _
  rw [x_iA hA (by rw [nw_N]; omega), i_bd, i_wO (N := 8) (h3.1.trans ((nw_Kne (by omega)).trans (k3.1.trans hk))) (iA_K hA (by rw [nw_N])) (by rw [h3.2.1.trans ((nw_Lne (by omega)).trans (k3.2.trans hl))]; rfl) (by omega) (by omega) (by omega), i_sb, show zi (i : Int) + 1 = zi ((i + 1 : Nat) : Int) from zi_add (i : Int) 1]
  rfl
end M7
