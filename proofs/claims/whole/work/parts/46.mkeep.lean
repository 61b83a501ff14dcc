/-! ===== PURE 16: what an asset's close leaves alone ===== -/
def aKeep (a : Int) (B B1 : Int → Int) : Prop := (∀ i : Int, (i < 1866 ∨ (2084 ≤ i ∧ (i < 2084 + 48 * a ∨ 2084 + 48 * a + 48 ≤ i))) → B1 i = B i) ∧ 0 ≤ B1 1867 ∧ B1 1867 ≤ 40
theorem aKeep_rf {a : Int} {B : Int → Int} (hK : 0 ≤ B 1867 ∧ B 1867 ≤ 40) : aKeep a B B := ⟨fun _ _ => rfl, hK⟩
theorem aKeep_up {a k v : Int} {B B1 : Int → Int} (ha : 0 ≤ a) (h : aKeep a B B1) (hk : 0 ≤ k ∧ k < 48) : aKeep a B (upZ B1 (2084 + 48 * a + k) v) := by
  refine ⟨fun i hi => ?_, ?_⟩
  · rw [upZ_ne (by omega)]; exact h.1 i hi
  · rw [upZ_ne (by omega)]; exact h.2
theorem aKeep_book {a t so v x : Int} {B B1 : Int → Int} (h : aKeep a B B1) (h0 : 0 ≤ t) (h1 : t < 4) (h2 : 0 ≤ so) (h3 : so < 4) : aKeep a B (bookZ B1 t so v x) := by
  refine ⟨fun i hi => ?_, book_kept h0 h2 h.2⟩
  rcases Int.lt_or_le i 1866 with q | q
  · exact (book_lo h0 h2 q).trans (h.1 i hi)
  · exact (book_hi h0 h1 h2 h3 h.2 (by omega)).trans (h.1 i hi)
theorem aKeep_bookFor {a so v : Int} {B B1 : Int → Int} (ha : 0 ≤ a) (h : aKeep a B B1) (h0 : 0 ≤ AtZ B1 a 0 ∧ AtZ B1 a 0 < 4) (h2 : 0 ≤ so) (h3 : so < 4) : aKeep a B (bookFor B1 a so v) :=
  aKeep_book (aKeep_up ha h (by omega)) h0.1 h0.2 h2 h3
theorem AtZ_bookFor {a so v j : Int} {B1 : Int → Int} (ha : 0 ≤ a) (h0 : 0 ≤ AtZ B1 a 0 ∧ AtZ B1 a 0 < 4) (h2 : 0 ≤ so) (h3 : so < 4) (hK : 0 ≤ B1 1867 ∧ B1 1867 ≤ 40) (hj : 0 ≤ j) : AtZ (bookFor B1 a so v) a j = if j = 10 then AtZ B1 a 10 + v else AtZ B1 a j := by
  have hk : 0 ≤ upZ B1 (2084 + 48 * a + 10) (AtZ B1 a 10 + v) 1867 ∧ upZ B1 (2084 + 48 * a + 10) (AtZ B1 a 10 + v) 1867 ≤ 40 := by
    rw [upZ_ne (by omega)]; exact hK
  unfold bookFor
  show bookZ _ _ _ _ _ (2084 + 48 * a + j) = _
  rw [book_hi h0.1 h0.2 h2 h3 hk (by omega)]
  exact AtZ_up
theorem AO_bookFor {a so v : Int} {B1 : Int → Int} (ha : 0 ≤ a) (hA : AO B1 a) (h2 : 0 ≤ so) (h3 : so < 4) (hK : 0 ≤ B1 1867 ∧ B1 1867 ≤ 40) : AO (bookFor B1 a so v) a := by
  have hk : 0 ≤ upZ B1 (2084 + 48 * a + 10) (AtZ B1 a 10 + v) 1867 ∧ upZ B1 (2084 + 48 * a + 10) (AtZ B1 a 10 + v) 1867 ≤ 40 := by
    rw [upZ_ne (by omega)]; exact hK
  exact AO_book (AO_set hA ha (by omega) (by unfold okV; omega)) ha hA.1.1 hA.1.2 h2 h3 hk
theorem clsF_keep {T B B1 : Int → Int} {a i : Int} (ha : 0 ≤ a) (hA : AO B1 a) (h : aKeep a B B1) : aKeep a B (clsF T B1 a i) ∧ AO (clsF T B1 a i) a := by
  unfold clsF
  generalize AtZ B1 a 4 - 1 - i = d
  generalize AtZ B1 a 7 - 1 = k
  have h5 : aKeep a B (clsD T B1 a d k) ∧ AO (clsD T B1 a d k) a := by
    unfold clsD
    split
    · generalize capZ B1 a (lastZ T B1 a d k (AtZ B1 a 6)) = v
      have hA1 : AO (upZ B1 (2084 + 48 * a + 11) 1) a := AO_set hA ha (by omega) (by unfold okV; omega)
      have hA2 : AO (upZ (upZ B1 (2084 + 48 * a + 11) 1) (2084 + 48 * a + 12) v) a := AO_set hA1 ha (by omega) (by unfold okV; omega)
      have hk2 := aKeep_up (v := v) (k := 12) ha (aKeep_up (v := 1) (k := 11) ha h (by omega)) (by omega)
      exact ⟨aKeep_bookFor ha hk2 hA2.1 (by omega) (by omega), AO_bookFor ha hA2 (by omega) (by omega) hk2.2⟩
    · exact ⟨h, hA⟩
  generalize clsD T B1 a d k = B5 at h5
  unfold clsE
  have h6 : aKeep a B (clsE1 B5 a d k) ∧ AO (clsE1 B5 a d k) a := by
    unfold clsE1
    split
    · exact ⟨aKeep_up ha h5.1 (by omega), AO_set h5.2 ha (by omega) (by unfold okV; omega)⟩
    · exact h5
  generalize clsE1 B5 a d k = B6 at h6
  have hh := h6.2.2.1
  exact ⟨aKeep_up ha h6.1 (by omega), AO_set h6.2 ha (by omega) (by unfold okV; omega)⟩
theorem clsZ_keep {T tr B : Int → Int} {a y : Int} (ha : 0 ≤ a) (hT : told3 T) (hA : AO B a) (hK : 0 ≤ B 1867 ∧ B 1867 ≤ 40) (hw : 0 ≤ worthZ T tr B a (AtZ B a 2) ∧ worthZ T tr B a (AtZ B a 2) ≤ T 1) (hi : AtZ B a 9 ≠ 1 → 0 ≤ y - AtZ B a 5 / 4 ∧ y - AtZ B a 5 / 4 ≤ 9) : aKeep a B (clsZ T tr B a y) ∧ AO (clsZ T tr B a y) a := by
  have t1 := hT.2.1
  unfold clsZ
  split
  · exact ⟨aKeep_rf hK, hA⟩
  · next c9 =>
    have hi2 := hi c9
    generalize worthZ T tr B a (AtZ B a 2) = w at hw
    generalize y - AtZ B a 5 / 4 = i at hi2
    have hA3 : AO (clsB B a i w) a := AO_clsB ha hA hi2
    have hk3 : aKeep a B (clsB B a i w) := by
      unfold clsB
      exact aKeep_up ha (aKeep_up ha (aKeep_up ha (aKeep_rf hK) (by omega)) (by omega)) (by omega)
    generalize clsB B a i w = B3 at hA3 hk3
    have h4 : aKeep a B (clsC T B3 a i w) ∧ AO (clsC T B3 a i w) a := by
      unfold clsC
      split
      · exact ⟨aKeep_up ha (aKeep_up ha hk3 (by omega)) (by omega), AO_set (AO_set hA3 ha (by omega) (by unfold okV; omega)) ha (by omega) (by unfold okV; omega)⟩
      · generalize adjZ T B3 a w (AtZ B3 a 6) = v
        have hA7 : AO (upZ B3 (2084 + 48 * a + (27 + i)) v) a := AO_set hA3 ha (by omega) (by unfold okV; omega)
        have hk7 : aKeep a B (upZ B3 (2084 + 48 * a + (27 + i)) v) := aKeep_up ha hk3 (by omega)
        exact ⟨aKeep_bookFor ha hk7 hA7.1 (by omega) (by omega), AO_bookFor ha hA7 (by omega) (by omega) hk7.2⟩
    exact clsF_keep ha h4.2 h4.1
