/-! ===== PURE 64: frames of the shapes; a new Books as one writer ===== -/
def SE (M M1 : MemT) (y : Nat) : Prop := mK M1 y = mK M y ∧ mL M1 y = mL M y ∧ ∀ j, mR M1 y j = mR M y j
theorem SE_r {M : MemT} {y : Nat} : SE M M y := ⟨rfl, rfl, fun _ => rfl⟩
theorem SE_t {M M1 M2 : MemT} {y : Nat} (h1 : SE M M1 y) (h2 : SE M1 M2 y) : SE M M2 y := ⟨h2.1.trans h1.1, h2.2.1.trans h1.2.1, fun j => (h2.2.2 j).trans (h1.2.2 j)⟩
theorem ASh_f {M M1 : MemT} {x : Nat} (h : ASh M x) (f : ∀ y, x ≤ y → y < x + 5 → SE M M1 y) : ASh M1 x := by
  have f0 := f x (by omega) (by omega)
  have f1 := f (x + 1) (by omega) (by omega)
  have f2 := f (x + 2) (by omega) (by omega)
  have f3 := f (x + 3) (by omega) (by omega)
  have f4 := f (x + 4) (by omega) (by omega)
  obtain ⟨h1, ⟨a1, a2, a3, a4⟩, ⟨b1, b2, b3, b4⟩, ⟨c1, c2, c3, c4⟩⟩ := h
  exact ⟨f0.1.trans h1, ⟨(f0.2.2 _).trans a1, (f0.2.2 _).trans a2, (f0.2.2 _).trans a3, (f0.2.2 _).trans a4⟩, ⟨f1.1.trans b1, f2.1.trans b2, f3.1.trans b3, f4.1.trans b4⟩, ⟨f1.2.1.trans c1, f2.2.1.trans c2, f3.2.1.trans c3, f4.2.1.trans c4⟩⟩
theorem BSh_f {M M1 : MemT} {b : Nat} (h : BSh M b) (f : ∀ y, b ≤ y → y < b + 50 → SE M M1 y) : BSh M1 b := by
  have f0 := f b (by omega) (by omega)
  have f1 := f (b + 1) (by omega) (by omega)
  have f2 := f (b + 2) (by omega) (by omega)
  have f3 := f (b + 3) (by omega) (by omega)
  have f4 := f (b + 4) (by omega) (by omega)
  have f5 := f (b + 5) (by omega) (by omega)
  have f6 := f (b + 6) (by omega) (by omega)
  have f7 := f (b + 7) (by omega) (by omega)
  have f8 := f (b + 8) (by omega) (by omega)
  have f9 := f (b + 9) (by omega) (by omega)
  obtain ⟨h1, ⟨g1, g2, g3⟩, ⟨a1, a2, a3, a4, a5, a6, a7, a8⟩, ⟨b1, b2, b3, b4, b5, b6, b7, b8⟩, ⟨c1, c2, c3, c4, c5, c6, c7, c8⟩, hA⟩ := h
  refine ⟨f0.1.trans h1, ⟨(f0.2.2 _).trans g1, f3.1.trans g2, f3.2.1.trans g3⟩, ⟨(f0.2.2 _).trans a1, (f0.2.2 _).trans a2, (f0.2.2 _).trans a3, (f0.2.2 _).trans a4, (f0.2.2 _).trans a5, (f0.2.2 _).trans a6, (f0.2.2 _).trans a7, (f0.2.2 _).trans a8⟩, ⟨f1.1.trans b1, f2.1.trans b2, f4.1.trans b3, f5.1.trans b4, f6.1.trans b5, f7.1.trans b6, f8.1.trans b7, f9.1.trans b8⟩, ⟨f1.2.1.trans c1, f2.2.1.trans c2, f4.2.1.trans c3, f5.2.1.trans c4, f6.2.1.trans c5, f7.2.1.trans c6, f8.2.1.trans c7, f9.2.1.trans c8⟩, fun a ha => ?_⟩
  obtain ⟨d1, d2⟩ := hA a ha
  exact ⟨(f3.2.2 _).trans d1, ASh_f d2 (fun y h1 h2 => f y (by omega) (by omega))⟩
theorem RSh_f {M M1 : MemT} {r : Nat} (h : RSh M r) (f : ∀ y, r ≤ y → y < r + 9 → SE M M1 y) : RSh M1 r := by
  have f0 := f r (by omega) (by omega)
  have f1 := f (r + 1) (by omega) (by omega)
  have f2 := f (r + 2) (by omega) (by omega)
  have f3 := f (r + 3) (by omega) (by omega)
  have f4 := f (r + 4) (by omega) (by omega)
  have f5 := f (r + 5) (by omega) (by omega)
  have f6 := f (r + 6) (by omega) (by omega)
  have f7 := f (r + 7) (by omega) (by omega)
  have f8 := f (r + 8) (by omega) (by omega)
  obtain ⟨h1, ⟨a1, a2, a3, a4, a5, a6, a7, a8⟩, ⟨b1, b2, b3, b4, b5, b6, b7, b8⟩, ⟨c1, c2, c3, c4, c5, c6, c7, c8⟩⟩ := h
  exact ⟨f0.1.trans h1, ⟨(f0.2.2 _).trans a1, (f0.2.2 _).trans a2, (f0.2.2 _).trans a3, (f0.2.2 _).trans a4, (f0.2.2 _).trans a5, (f0.2.2 _).trans a6, (f0.2.2 _).trans a7, (f0.2.2 _).trans a8⟩, ⟨f1.1.trans b1, f2.1.trans b2, f3.1.trans b3, f4.1.trans b4, f5.1.trans b5, f6.1.trans b6, f7.1.trans b7, f8.1.trans b8⟩, ⟨f1.2.1.trans c1, f2.2.1.trans c2, f3.2.1.trans c3, f4.2.1.trans c4, f5.2.1.trans c5, f6.2.1.trans c6, f7.2.1.trans c7, f8.2.1.trans c8⟩⟩
theorem CSh_f {M M1 : MemT} {c r : Nat} (h : CSh M c r) (f : ∀ y, c ≤ y → y < c + 62 → SE M M1 y) (g : ∀ y, r ≤ y → y < r + 9 → SE M M1 y) : CSh M1 c r := by
  have f0 := f c (by omega) (by omega)
  have f1 := f (c + 60) (by omega) (by omega)
  have f2 := f (c + 61) (by omega) (by omega)
  obtain ⟨⟨h1, h2, h3, h4⟩, ⟨a1, a2, a3, a4⟩, hB, hR, hd⟩ := h
  exact ⟨⟨f0.1.trans h1, (f0.2.2 _).trans h2, (f0.2.2 _).trans h3, (f0.2.2 _).trans h4⟩, ⟨f1.1.trans a1, (f1.2.2 _).trans a2, f2.1.trans a3, f2.2.1.trans a4⟩, BSh_f hB (fun y q1 q2 => f y (by omega) (by omega)), RSh_f hR g, hd⟩
theorem MShape_f {M M1 : MemT} (h : MShape M) (f : ∀ y, 139 ≤ y → y < 149 → SE M M1 y) : MShape M1 := by
  have f0 := f 139 (by omega) (by omega)
  have f1 := f 140 (by omega) (by omega)
  have f2 := f 141 (by omega) (by omega)
  have f3 := f 142 (by omega) (by omega)
  have f4 := f 143 (by omega) (by omega)
  have f5 := f 144 (by omega) (by omega)
  have f6 := f 145 (by omega) (by omega)
  have f7 := f 146 (by omega) (by omega)
  have f8 := f 147 (by omega) (by omega)
  have f9 := f 148 (by omega) (by omega)
  obtain ⟨h1, ⟨a1, a2, a3, a4, a5, a6, a7, a8, a9⟩, ⟨b1, b2, b3, b4, b5, b6, b7, b8, b9⟩, ⟨c1, c2, c3, c4, c5, c6, c7, c8⟩⟩ := h
  exact ⟨f0.1.trans h1, ⟨(f0.2.2 _).trans a1, (f0.2.2 _).trans a2, (f0.2.2 _).trans a3, (f0.2.2 _).trans a4, (f0.2.2 _).trans a5, (f0.2.2 _).trans a6, (f0.2.2 _).trans a7, (f0.2.2 _).trans a8, (f0.2.2 _).trans a9⟩, ⟨f1.1.trans b1, f2.1.trans b2, f3.1.trans b3, f4.1.trans b4, f5.1.trans b5, f6.1.trans b6, f7.1.trans b7, f8.1.trans b8, f9.1.trans b9⟩, ⟨f1.2.1.trans c1, f3.2.1.trans c2, f4.2.1.trans c3, f5.2.1.trans c4, f6.2.1.trans c5, f7.2.1.trans c6, f8.2.1.trans c7, f9.2.1.trans c8⟩⟩
section M9
variable {M W : MemT} {c : Nat} {R : Nat → Nat → Int32} {F : Nat → Int32} {S : Int → Int} {n b : Nat}
theorem isM_SE {y i : Nat} (hy : y < mN (isM W b i)) (h : y ≠ b + 3) : SE (isM W b i) (isM W b (i + 1)) y :=
  ⟨(isM_lo (j := 0) hy (Or.inl h)).1, (isM_lo (j := 0) hy (Or.inl h)).2.1, fun j => (isM_lo (j := j) hy (Or.inl h)).2.2⟩
theorem isM_as (hN : mN W = b + 10) : ∀ j i, i < j → mR (isM W b j) (b + 3) i = some (b + 10 + 5 * i) ∧ ASh (isM W b j) (b + 10 + 5 * i) := by
  intro j
  induction j with
  | zero => intro i hi; omega
  | succ j ih =>
    intro i hi
    have hNj := isM_N (W := W) (b := b) j
    by_cases c : i = j
    · subst c
      have ea : mN (isM W b i) = b + 10 + 5 * i := by omega
      have hA : ASh (iA (nwM (isM W b i) 0 0) (mN (isM W b i))) (mN (isM W b i)) := iA_sh (nw_Kat rfl) nw_N.symm
      rw [ea] at hA
      refine ⟨?_, ASh_f hA (fun y h1 h2 => ?_)⟩
      · show (if b + 3 = b + 3 ∧ i = i then some (mN (isM W b i)) else _) = _
        rw [if_pos ⟨rfl, rfl⟩, ea]
      · rw [← ea]
        exact ⟨rfl, rfl, fun k => if_neg (by omega)⟩
    · obtain ⟨h1, h2⟩ := ih i (by omega)
      exact ⟨(isM_lo (by omega) (Or.inr c)).2.2.trans h1, ASh_f h2 (fun y q1 q2 => isM_SE (by omega) (by omega))⟩
theorem isM_SEk {y : Nat} (hy : y < mN W) (h : y ≠ b + 3) (i : Nat) : SE W (isM W b i) y :=
  ⟨(isM_keep (j := 0) hy h i).1, (isM_keep (j := 0) hy h i).2.1, fun j => (isM_keep (j := j) hy h i).2.2⟩
theorem bA_BSh (hk : mK M b = 1) (hN : mN M = b + 1) : BSh (isM (bA M b) b 8) b := by
  have hNA : mN (bA M b) = b + 10 := by rw [bA_N]; omega
  have f0 := isM_SEk (W := bA M b) (b := b) (y := b) (by omega) (by omega) 8
  have f1 := isM_SEk (W := bA M b) (b := b) (y := b + 1) (by omega) (by omega) 8
  have f2 := isM_SEk (W := bA M b) (b := b) (y := b + 2) (by omega) (by omega) 8
  have f3 := isM_arr (W := bA M b) (b := b) (by omega) 8
  have f4 := isM_SEk (W := bA M b) (b := b) (y := b + 4) (by omega) (by omega) 8
  have f5 := isM_SEk (W := bA M b) (b := b) (y := b + 5) (by omega) (by omega) 8
  have f6 := isM_SEk (W := bA M b) (b := b) (y := b + 6) (by omega) (by omega) 8
  have f7 := isM_SEk (W := bA M b) (b := b) (y := b + 7) (by omega) (by omega) 8
  have f8 := isM_SEk (W := bA M b) (b := b) (y := b + 8) (by omega) (by omega) 8
  have f9 := isM_SEk (W := bA M b) (b := b) (y := b + 9) (by omega) (by omega) 8
  have g : (mK (bA M b) b = 1 ∧ (mR (bA M b) b 5 = some (b + 3) ∧ mK (bA M b) (b + 3) = 14 ∧ mL (bA M b) (b + 3) = 8)) ∧ (mR (bA M b) b 3 = some (b + 1) ∧ mR (bA M b) b 4 = some (b + 2) ∧ mR (bA M b) b 6 = some (b + 4) ∧ mR (bA M b) b 7 = some (b + 5) ∧ mR (bA M b) b 8 = some (b + 6) ∧ mR (bA M b) b 9 = some (b + 7) ∧ mR (bA M b) b 10 = some (b + 8) ∧ mR (bA M b) b 11 = some (b + 9)) ∧ (mK (bA M b) (b + 1) = 10 ∧ mK (bA M b) (b + 2) = 10 ∧ mK (bA M b) (b + 4) = 10 ∧ mK (bA M b) (b + 5) = 10 ∧ mK (bA M b) (b + 6) = 10 ∧ mK (bA M b) (b + 7) = 10 ∧ mK (bA M b) (b + 8) = 10 ∧ mK (bA M b) (b + 9) = 10) ∧ (mL (bA M b) (b + 1) = 4 ∧ mL (bA M b) (b + 2) = 4 ∧ mL (bA M b) (b + 4) = 1280 ∧ mL (bA M b) (b + 5) = 256 ∧ mL (bA M b) (b + 6) = 64 ∧ mL (bA M b) (b + 7) = 256 ∧ mL (bA M b) (b + 8) = 16 ∧ mL (bA M b) (b + 9) = 200) := by
    refine ⟨⟨(bA_f hk hN).1, (bA_f hk hN).2⟩, ⟨?_, ?_, ?_, ?_, ?_, ?_, ?_, ?_⟩, ⟨?_, ?_, ?_, ?_, ?_, ?_, ?_, ?_⟩, ⟨?_, ?_, ?_, ?_, ?_, ?_, ?_, ?_⟩⟩ <;> (unfold bA; simp (disch := (first | (simp only [apO_N, hN]; done) | (simp only [apO_N, hN]; omega) | omega)) only [apO_Kne, apO_Kat, apO_Lat, apO_Lne, apO_Rne, apO_Rat, apO_N, hk, hN])
  obtain ⟨⟨h1, ⟨g1, g2, g3⟩⟩, ⟨a1, a2, a3, a4, a5, a6, a7, a8⟩, ⟨b1, b2, b3, b4, b5, b6, b7, b8⟩, ⟨c1, c2, c3, c4, c5, c6, c7, c8⟩⟩ := g
  exact ⟨f0.1.trans h1, ⟨(f0.2.2 _).trans g1, f3.1.trans g2, f3.2.trans g3⟩, ⟨(f0.2.2 _).trans a1, (f0.2.2 _).trans a2, (f0.2.2 _).trans a3, (f0.2.2 _).trans a4, (f0.2.2 _).trans a5, (f0.2.2 _).trans a6, (f0.2.2 _).trans a7, (f0.2.2 _).trans a8⟩, ⟨f1.1.trans b1, f2.1.trans b2, f4.1.trans b3, f5.1.trans b4, f6.1.trans b5, f7.1.trans b6, f8.1.trans b7, f9.1.trans b8⟩, ⟨f1.2.1.trans c1, f2.2.1.trans c2, f4.2.1.trans c3, f5.2.1.trans c4, f6.2.1.trans c5, f7.2.1.trans c6, f8.2.1.trans c7, f9.2.1.trans c8⟩, fun a ha => isM_as hNA 8 a ha⟩
/-- a new Books, as one -/
def npM (M : MemT) : MemT := isM (bA (nwM M 1 0) (mN M)) (mN M) 8
theorem np_N : mN (npM M) = mN M + 50 := by
  unfold npM
  rw [isM_N, bA_N, nw_N]
theorem np_init : g_X2_init n (nwM M 1 0) (mN M) = some ((), npM M) := x_init2 (nw_Kat rfl) nw_N
theorem np_B : BSh (npM M) (mN M) := bA_BSh (nw_Kat rfl) nw_N
theorem np_WX (h : c + 62 ≤ mN M) : npM (WX M c R F S) = WX (npM M) c R F S := by
  unfold npM
  rw [nwM_WX h, WX_N, bA_WX (by rw [nw_N]; omega), isM_WX (by rw [bA_N, nw_N]; omega)]
theorem apO_I {x k κ l y j : Nat} (h : y ≠ mN M) : mI (apO M x k κ l) y j = mI M y j := if_neg h
theorem apO_SE {x k κ l y : Nat} (h : y ≠ mN M) (h2 : y ≠ x) : SE M (apO M x k κ l) y := ⟨apO_Kne h, apO_Lne h, fun j => apO_Rne (Or.inl h2) h⟩
theorem nw_SE {κ l y : Nat} (h : y ≠ mN M) : SE M (nwM M κ l) y := ⟨nw_Kne h, nw_Lne h, fun _ => nw_Rne h⟩
theorem nw_I {κ l y j : Nat} (h : y ≠ mN M) : mI (nwM M κ l) y j = mI M y j := if_neg h
theorem bA_lo {y : Nat} (hy : y < mN M) (h2 : y ≠ b) : SE M (bA M b) y ∧ ∀ j, mI (bA M b) y j = mI M y j := by
  unfold bA
  refine ⟨?_, fun j => ?_⟩
  · refine SE_t (SE_t (SE_t (SE_t (SE_t (SE_t (SE_t (SE_t (apO_SE ?_ h2) (apO_SE ?_ h2)) (apO_SE ?_ h2)) (apO_SE ?_ h2)) (apO_SE ?_ h2)) (apO_SE ?_ h2)) (apO_SE ?_ h2)) (apO_SE ?_ h2)) (apO_SE ?_ h2) <;> (try simp only [apO_N]) <;> omega
  · simp (disch := (simp only [apO_N]; omega)) only [apO_I]
    exact apO_I (by omega)
theorem isM_I {y j : Nat} (hy : y < mN W) : ∀ i, mI (isM W b i) y j = mI W y j := by
  intro i
  induction i with
  | zero => rfl
  | succ i ih =>
    have hNj := isM_N (W := W) (b := b) i
    refine Eq.trans ?_ ih
    show mI (iA (nwM (isM W b i) 0 0) (mN (isM W b i))) y j = _
    unfold iA
    rw [apO_I (by simp only [apO_N, nw_N]; omega), apO_I (by simp only [apO_N, nw_N]; omega), apO_I (by simp only [apO_N, nw_N]; omega), apO_I (by simp only [apO_N, nw_N]; omega), nw_I (by omega)]
theorem np_S {y : Nat} (hy : y < mN M) : SE M (npM M) y := by
  unfold npM
  exact SE_t (SE_t (nw_SE (by omega)) (bA_lo (by rw [nw_N]; omega) (by omega)).1) (isM_SEk (by rw [bA_N, nw_N]; omega) (by omega) 8)
theorem np_I {y j : Nat} (hy : y < mN M) : mI (npM M) y j = mI M y j := by
  unfold npM
  rw [isM_I (by rw [bA_N, nw_N]; omega), (bA_lo (by rw [nw_N]; omega) (by omega)).2, nw_I (by omega)]
end M9
