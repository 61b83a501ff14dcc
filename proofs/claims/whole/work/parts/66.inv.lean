/-! ===== PURE 36: what holds of a bank all along ===== -/
def AX (B : Int → Int) (nt a : Int) : Prop := AO B a ∧ AtZ B a 0 < nt ∧ AtZ B a 1 < nt ∧ (AtZ B a 9 ≠ 1 → AtZ B a 47 = yearZ B - AtZ B a 5 / 4 ∧ AtZ B a 47 + 1 ≤ AtZ B a 4) ∧ (AtZ B a 47 = 0 → AtZ B a 27 = 0) ∧ AtZ B a 47 ≤ AtZ B a 4 ∧ ∀ i : Int, 0 ≤ i → i < AtZ B a 47 → 0 ≤ AtZ B a (37 + i) ∧ AtZ B a (37 + i) < 4
def KE (B : Int → Int) : Prop := B 1867 = (if B 1866 < 40 then B 1866 else 40) ∧ 0 ≤ B 1866
def FZ (B : Int → Int) : Prop := ∀ t q w : Int, 0 ≤ t → t < 4 → B 0 < q → q < 64 → 0 ≤ w → w < 5 → B (sumI t q w) = 0
def UB (U : Int) (B : Int → Int) : Prop := ∀ i : Int, 1 ≤ i → i < 1281 → B i ≤ U
def AN2 (T B : Int → Int) : Prop := ∀ i : Int, 1801 ≤ i → i < 1865 → 0 ≤ B i ∧ B i ≤ T 1
def BK (U : Int) (B : Int → Int) : Prop := ∀ i : Int, 1545 ≤ i → i < 1801 → 0 ≤ B i ∧ B i ≤ 3 * U
def BI (T : Int → Int) (nt U : Int) (B : Int → Int) : Prop := BS B ∧ BN B ∧ UB U B ∧ FZ B ∧ KE B ∧ B 1866 ≤ 30 * B 0 ∧ AN2 T B ∧ BK U B ∧ (0 ≤ B 1865 ∧ B 1865 ≤ 8) ∧ ∀ a : Int, 0 ≤ a → a < B 1865 → AX B nt a
theorem KE_K {B : Int → Int} (h : KE B) : 0 ≤ B 1867 ∧ B 1867 ≤ 40 ∧ B 1867 ≤ B 1866 := by
  obtain ⟨h1, h2⟩ := h
  rw [h1]
  split <;> omega
theorem KE_up {B : Int → Int} {j v : Int} (h : KE B) (h1 : j ≠ 1866) (h2 : j ≠ 1867) : KE (upZ B j v) := by
  unfold KE
  rw [upZ_ne (by omega), upZ_ne (by omega)]
  exact h
theorem KE_book {B : Int → Int} {t so v x : Int} (h : KE B) (t0 : 0 ≤ t) (s0 : 0 ≤ so) : KE (bookZ B t so v x) := by
  have hK := KE_K h
  obtain ⟨h1, h2⟩ := h
  unfold KE
  rw [bookZ_E t0 s0]
  unfold bookZ
  dsimp only
  rw [if_neg (by omega), if_neg (by omega), if_pos rfl]
  refine ⟨?_, by omega⟩
  split at h1
  · rw [if_neg (by omega)]
    split <;> omega
  · rw [if_pos (by omega), if_neg (by omega)]; rfl
theorem KE_bookFor {B : Int → Int} {a so v : Int} (h : KE B) (ha : 0 ≤ a) (t0 : 0 ≤ AtZ B a 0) (s0 : 0 ≤ so) : KE (bookFor B a so v) := KE_book (KE_up h (by omega) (by omega)) t0 s0
theorem clsZ_KE {T tr B : Int → Int} {a y : Int} (ha : 0 ≤ a) (hA : AO B a) (hK : KE B) (hT : told3 T) (hw : 0 ≤ worthZ T tr B a (AtZ B a 2) ∧ worthZ T tr B a (AtZ B a 2) ≤ T 1) (hi : AtZ B a 9 ≠ 1 → 0 ≤ y - AtZ B a 5 / 4 ∧ y - AtZ B a 5 / 4 ≤ 9) : KE (clsZ T tr B a y) := by
  have t1 := hT.2.1
  unfold clsZ
  split
  · exact hK
  · next c9 =>
    have hi2 := hi c9
    generalize worthZ T tr B a (AtZ B a 2) = w at hw
    generalize y - AtZ B a 5 / 4 = i at hi2
    have hA3 : AO (clsB B a i w) a := AO_clsB ha hA hi2
    have e3 : KE (clsB B a i w) := by
      unfold clsB
      exact KE_up (KE_up (KE_up hK (by omega) (by omega)) (by omega) (by omega)) (by omega) (by omega)
    generalize clsB B a i w = B3 at hA3 e3
    have h4 : AO (clsC T B3 a i w) a ∧ KE (clsC T B3 a i w) := by
      unfold clsC
      split
      · exact ⟨AO_set (AO_set hA3 ha (by omega) (by unfold okV; omega)) ha (by omega) (by unfold okV; omega), KE_up (KE_up e3 (by omega) (by omega)) (by omega) (by omega)⟩
      · generalize adjZ T B3 a w (AtZ B3 a 6) = v
        have hA7 : AO (upZ B3 (2084 + 48 * a + (27 + i)) v) a := AO_set hA3 ha (by omega) (by unfold okV; omega)
        have hk7 : KE (upZ B3 (2084 + 48 * a + (27 + i)) v) := KE_up e3 (by omega) (by omega)
        have hkk := KE_K hk7
        exact ⟨AO_bookFor ha hA7 (by omega) (by omega) ⟨hkk.1, hkk.2.1⟩, KE_bookFor hk7 ha hA7.1.1 (by omega)⟩
    generalize clsC T B3 a i w = B4 at h4
    obtain ⟨a4, e4⟩ := h4
    unfold clsF
    generalize AtZ B4 a 4 - 1 - i = d
    generalize AtZ B4 a 7 - 1 = k
    have h5 : KE (clsD T B4 a d k) := by
      unfold clsD
      split
      · generalize capZ B4 a (lastZ T B4 a d k (AtZ B4 a 6)) = v
        have hA1 : AO (upZ B4 (2084 + 48 * a + 11) 1) a := AO_set a4 ha (by omega) (by unfold okV; omega)
        have hA2 : AO (upZ (upZ B4 (2084 + 48 * a + 11) 1) (2084 + 48 * a + 12) v) a := AO_set hA1 ha (by omega) (by unfold okV; omega)
        exact KE_bookFor (KE_up (KE_up e4 (by omega) (by omega)) (by omega) (by omega)) ha hA2.1.1 (by omega)
      · exact e4
    generalize clsD T B4 a d k = B5 at h5
    unfold clsE clsE1
    split
    · exact KE_up (KE_up h5 (by omega) (by omega)) (by omega) (by omega)
    · exact KE_up h5 (by omega) (by omega)
theorem clsE_at {B : Int → Int} {a d k j : Int} : AtZ (clsE B a d k) a j = if j = 0 then AtZ B a 1 else if j = 9 ∧ (0 ≤ k ∨ d = 0) then 1 else AtZ B a j := by
  have e1 : AtZ (clsE1 B a d k) a 1 = AtZ B a 1 := by
    unfold clsE1
    split
    · rw [AtZ_up, if_neg (by omega)]
    · rfl
  unfold clsE
  rw [AtZ_up, e1]
  by_cases c : j = 0
  · rw [if_pos c, if_pos c]
  · rw [if_neg c, if_neg c]
    unfold clsE1
    by_cases q : 0 ≤ k ∨ d = 0
    · rw [if_pos q, AtZ_up]
      by_cases z : j = 9
      · rw [if_pos z, if_pos ⟨z, q⟩]
      · rw [if_neg z, if_neg (fun x => z x.1)]
    · rw [if_neg q, if_neg (fun x => q x.2)]
/-- an asset's row behind its close -/
theorem clsZ_row {T tr B : Int → Int} {a : Nat} {y : Int} (hA : AO B a) (hK : 0 ≤ B 1867 ∧ B 1867 ≤ 40) (hT : told3 T) (hw : 0 ≤ worthZ T tr B a (AtZ B a 2) ∧ worthZ T tr B a (AtZ B a 2) ≤ T 1) (c9 : AtZ B a 9 ≠ 1) (hi : 0 ≤ y - AtZ B a 5 / 4 ∧ y - AtZ B a 5 / 4 ≤ 9) : AtZ (clsZ T tr B a y) a 0 = AtZ B a 1 ∧ AtZ (clsZ T tr B a y) a 1 = AtZ B a 1 ∧ AtZ (clsZ T tr B a y) a 4 = AtZ B a 4 ∧ AtZ (clsZ T tr B a y) a 5 = AtZ B a 5 ∧ AtZ (clsZ T tr B a y) a 47 = y - AtZ B a 5 / 4 + 1 ∧ (AtZ (clsZ T tr B a y) a 9 ≠ 1 → AtZ B a 4 - 1 - (y - AtZ B a 5 / 4) ≠ 0) ∧ (∀ i' : Int, 0 ≤ i' → i' < y - AtZ B a 5 / 4 + 1 → AtZ (clsZ T tr B a y) a (37 + i') = if i' = y - AtZ B a 5 / 4 then AtZ B a 0 else AtZ B a (37 + i')) := by
  have t1 := hT.2.1
  unfold clsZ
  rw [if_neg c9]
  generalize worthZ T tr B a (AtZ B a 2) = w at hw
  generalize y - AtZ B a 5 / 4 = i at hi
  have hA3 : AO (clsB B a i w) a := AO_clsB (by omega) hA hi
  have hk3 : 0 ≤ clsB B a i w 1867 ∧ clsB B a i w 1867 ≤ 40 := by rw [clsB_lo (by omega) (by omega)]; exact hK
  have at3 : ∀ j : Int, 0 ≤ j → j < 17 → AtZ (clsB B a i w) a j = AtZ B a j := fun j j0 j1 => by
    rw [clsB_at, if_neg (by omega), if_neg (by omega), if_neg (by omega)]
  have at347 : AtZ (clsB B a i w) a 47 = i + 1 := by rw [clsB_at, if_pos rfl]
  have at337 : ∀ i' : Int, 0 ≤ i' → i' < i + 1 → AtZ (clsB B a i w) a (37 + i') = if i' = i then AtZ B a 0 else AtZ B a (37 + i') := fun i' j0 j1 => by
    rw [clsB_at, if_neg (by omega)]
    by_cases q : i' = i
    · rw [if_pos (by omega), if_pos q]
    · rw [if_neg (by omega), if_neg (by omega), if_neg q]
  generalize clsB B a i w = B3 at hA3 hk3 at3 at347 at337
  have h4 : AO (clsC T B3 a i w) a ∧ (0 ≤ clsC T B3 a i w 1867 ∧ clsC T B3 a i w 1867 ≤ 40) ∧ ∀ j : Int, 0 ≤ j → (j < 17 ∨ 37 ≤ j) → j ≠ 6 → j ≠ 10 → AtZ (clsC T B3 a i w) a j = AtZ B3 a j := by
    unfold clsC
    split
    · refine ⟨AO_set (AO_set hA3 (by omega) (by omega) (by unfold okV; omega)) (by omega) (by omega) (by unfold okV; omega), by rw [upZ_ne (by omega), upZ_ne (by omega)]; exact hk3, fun j j0 j1 j6 j10 => ?_⟩
      rw [AtZ_up, if_neg j10, AtZ_up, if_neg j6]
    · generalize adjZ T B3 a w (AtZ B3 a 6) = v
      have hA7 : AO (upZ B3 (2084 + 48 * a + (27 + i)) v) a := AO_set hA3 (by omega) (by omega) (by unfold okV; omega)
      have hk7 : aKeep a B3 (upZ B3 (2084 + 48 * a + (27 + i)) v) := aKeep_up (by omega) (aKeep_rf hk3) (by omega)
      refine ⟨AO_bookFor (by omega) hA7 (by omega) (by omega) hk7.2, (aKeep_bookFor (by omega) hk7 hA7.1 (by omega) (by omega)).2, fun j j0 j1 j6 j10 => ?_⟩
      rw [AtZ_bookFor (by omega) hA7.1 (by omega) (by omega) hk7.2 j0, if_neg j10, AtZ_up, if_neg (by omega)]
  obtain ⟨hA4, hk4, at4⟩ := h4
  generalize clsC T B3 a i w = B4 at hA4 hk4 at4
  unfold clsF
  have e4 : AtZ B4 a 4 = AtZ B a 4 := (at4 4 (by omega) (by omega) (by omega) (by omega)).trans (at3 4 (by omega) (by omega))
  have at5 : ∀ (d k j : Int), 0 ≤ j → (j < 10 ∨ 37 ≤ j) → j ≠ 6 → AtZ (clsD T B4 a d k) a j = AtZ B3 a j := fun d k j j0 j1 j6 => (clsD_at hA4 hk4 j0 (by omega) (by omega) (by omega)).trans (at4 j j0 (by omega) j6 (by omega))
  rw [clsE_at, clsE_at, clsE_at, clsE_at, clsE_at, clsE_at, if_pos rfl, if_neg (by omega), if_neg (by omega), if_neg (by omega), if_neg (by omega), if_neg (by omega), if_neg (by omega), if_neg (by omega), if_neg (by omega), if_neg (by omega), at5 _ _ 1 (by omega) (by omega) (by omega), at5 _ _ 4 (by omega) (by omega) (by omega), at5 _ _ 5 (by omega) (by omega) (by omega), at5 _ _ 47 (by omega) (by omega) (by omega), at3 1 (by omega) (by omega), at3 4 (by omega) (by omega), at3 5 (by omega) (by omega), at347, e4]
  refine ⟨rfl, rfl, rfl, rfl, rfl, fun q => ?_, fun i' j0 j1 => ?_⟩
  · intro hd
    rw [if_pos ⟨rfl, Or.inr hd⟩] at q
    exact q rfl
  · rw [clsE_at, if_neg (by omega), if_neg (by omega), at5 _ _ _ (by omega) (by omega) (by omega)]
    exact at337 i' j0 j1
theorem AX_allA {B : Int → Int} {nt : Int} (h : ∀ a : Int, 0 ≤ a → a < B 1865 → AX B nt a) : allA B := fun a a0 a1 => by
  obtain ⟨hA, -, -, h9, -⟩ := h a a0 a1
  have h4 := hA.2.2.2.2.1
  have h47 := hA.2.2.2.2.2.2.2.2.2.2.2.2
  exact ⟨hA, fun q => by have := h9 q; omega⟩
theorem AX_X2 {B : Int → Int} {nt : Int} (h : ∀ a : Int, 0 ≤ a → a < B 1865 → AX B nt a) : ∀ a : Int, 0 ≤ a → a < B 1865 → AX2 B a ∧ AtZ B a 0 < nt := fun a a0 a1 => by
  obtain ⟨hA, h0, h1, h9, h27, h4⟩ := h a a0 a1
  have hh := hA.2.2.2.2.1
  exact ⟨⟨fun q => by have := h9 q; omega, h27⟩, h0⟩
theorem AN2_r {T B : Int → Int} (hN : BN B) (h : AN2 T B) : ANr T B := fun t y t0 t1 y0 y1 => by
  obtain ⟨n1, n2⟩ := hN
  have : yearZ B < 16 := by unfold yearZ; omega
  exact h _ (by omega) (by omega)
theorem backZ_rng {w s l f : Int} {S : Int → Int} (hw : 0 ≤ w ∧ w ≤ 2) (hs : 0 < s) (hS : sumsOk S) (hf : 0 ≤ f ∧ f ≤ s) : 0 ≤ backZ w s l S f ∧ backZ w s l S f ≤ wholeZ S := by
  have s2 := hS 2 (by omega) (by omega)
  have s3 := hS 3 (by omega) (by omega)
  have s4 := hS 4 (by omega) (by omega)
  have hc := cutZ_mono (w := w) (a := S 4 * f) (b := s) (c := S 4) hs (Int.mul_nonneg s4.1 hf.1) (Int.mul_le_mul_of_nonneg_left hf.2 s4.1) hw
  unfold backZ wholeZ itsZ
  split <;> omega
