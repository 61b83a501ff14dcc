/-! ===== PURE 14: an asset's close, whole ===== -/
section MCLOSE2
variable {M : MemT} {bk nt : Int} {T tr sl bu as B S : Int → Int} {ho ha : Int} {sm : Int32} {n : Nat}
theorem worthZ_rng {a use : Int} (hT : told3 T) (hB : BS B) (hN : BN B) (hA : AO B a) : 0 ≤ worthZ T tr B a use ∧ worthZ T tr B a use ≤ T 1 :=
  wthZ_rng hT (annZ_rng hT hB hN hA.1.1 hA.1.2)
theorem AO_clsB {a i w : Int} (h0 : 0 ≤ a) (hA : AO B a) (hi : 0 ≤ i ∧ i ≤ 9) : AO (clsB B a i w) a := by
  unfold clsB
  refine AO_set (AO_set (AO_set hA h0 (by omega) ?_) h0 (by omega) ?_) h0 (by omega) ?_
  · unfold okV; omega
  · unfold okV; omega
  · unfold okV; omega
theorem m_closesAsset (h : MOk M bk nt T tr sl bu as) (hT : told3 T) (htr : trOk tr) (hn : 300 < n) (hB : BS B) (hN : BN B) {a : Int} (h0 : 0 ≤ a) (h1 : a < 8) (hA : AO B a) (hK : 0 ≤ B 1867 ∧ B 1867 ≤ 40) (hi : AtZ B a 9 ≠ 1 → 0 ≤ yearZ B - AtZ B a 5 / 4 ∧ yearZ B - AtZ B a 5 / 4 ≤ 9) : ∃ S1 ho1 ha1, g_X10_closesAsset n (WC M bk B S ho ha sm) 139 (zi a) (zi (yearZ B)) = some ((), WC M bk (clsZ T tr B a (yearZ B)) S1 ho1 ha1 sm) := by
  have r9 : g_X10_at n (WC M bk B S ho ha sm) 139 (zi a) 9 = some (zi (AtZ B a 9), _) := m_at h (k := 9) h0 h1 (by omega) (by omega)
  have r2 : g_X10_at n (WC M bk B S ho ha sm) 139 (zi a) 2 = some (zi (AtZ B a 2), _) := m_at h (k := 2) h0 h1 (by omega) (by omega)
  have c9' := hA.2.2.2.2.2.2.2.2.2.1
  have c5 := hA.2.2.2.2.2.1
  obtain ⟨n1, n2⟩ := id hN
  have e9 : (zi (AtZ B a 9) = 1) = (AtZ B a 9 = 1) := zi_eq (b := 1) (by omega) (by omega) (by omega) (by omega)
  by_cases c9 : AtZ B a 9 = 1
  · refine ⟨S, ho, ha, ?_⟩
    unfold g_X10_closesAsset clsZ
    rw [m_chk h, r9, i_bd, if_pos (by rw [e9]; exact c9), if_pos c9]
  · obtain ⟨S1, ho1, ha1, hw⟩ := m_worthBy (n := n) (S := S) (ho := ho) (ha := ha) (sm := sm) h hT htr (by omega) hB hN h0 h1 hA hA.2.2.1
    refine ⟨S1, ho1, ha1, ?_⟩
    have hwr := worthZ_rng (tr := tr) (use := AtZ B a 2) hT hB hN hA
    have hi2 := hi c9
    have t1 := hT.2.1
    unfold clsZ
    rw [if_neg c9]
    unfold g_X10_closesAsset
    rw [m_chk h, r9, i_bd, if_neg (by rw [e9]; exact c9), m_chk h, m_intervalOf h h0 h1 (by omega), i_bd, m_chk h, r2, i_bd, m_chk h, hw, i_bd, m_chk h]
    generalize worthZ T tr B a (AtZ B a 2) = w at hwr
    generalize yearZ B - AtZ B a 5 / 4 = i at hi2
    have q17 : (17 : Int32) + zi i = zi (17 + i) := zi_add 17 i
    have q37 : (37 : Int32) + zi i = zi (37 + i) := zi_add 37 i
    have q27 : (27 : Int32) + zi i = zi (27 + i) := zi_add 27 i
    have q1 : zi i + 1 = zi (i + 1) := zi_add i 1
    have p17 : g_X10_put n (WC M bk B S1 ho1 ha1 sm) 139 (zi a) (17 + zi i) (zi w) = some ((), WC M bk (upZ B (2084 + 48 * a + (17 + i)) w) S1 ho1 ha1 sm) := by
      rw [q17]; exact m_put h h0 h1 (by omega) (by omega)
    have r0 : g_X10_at n (WC M bk (upZ B (2084 + 48 * a + (17 + i)) w) S1 ho1 ha1 sm) 139 (zi a) 0 = some (zi (AtZ B a 0), WC M bk (upZ B (2084 + 48 * a + (17 + i)) w) S1 ho1 ha1 sm) := by
      have hz := m_at (n := n) (M := M) (B := upZ B (2084 + 48 * a + (17 + i)) w) (S := S1) (ho := ho1) (ha := ha1) (sm := sm) h (k := 0) h0 h1 (by omega) (by omega)
      rw [show upZ B (2084 + 48 * a + (17 + i)) w (2084 + 48 * a + 0) = AtZ B a 0 from upZ_ne (by omega)] at hz
      exact hz
    have p37 : g_X10_put n (WC M bk (upZ B (2084 + 48 * a + (17 + i)) w) S1 ho1 ha1 sm) 139 (zi a) (37 + zi i) (zi (AtZ B a 0)) = some ((), WC M bk (upZ (upZ B (2084 + 48 * a + (17 + i)) w) (2084 + 48 * a + (37 + i)) (AtZ B a 0)) S1 ho1 ha1 sm) := by
      rw [q37]; exact m_put h h0 h1 (by omega) (by omega)
    have p47 : g_X10_put n (WC M bk (upZ (upZ B (2084 + 48 * a + (17 + i)) w) (2084 + 48 * a + (37 + i)) (AtZ B a 0)) S1 ho1 ha1 sm) 139 (zi a) 47 (zi i + 1) = some ((), WC M bk (clsB B a i w) S1 ho1 ha1 sm) := by
      rw [q1]; exact m_put h (k := 47) h0 h1 (by omega) (by omega)
    rw [p17, i_bd, m_chk h, r0, i_bd, m_chk h, p37, i_bd, m_chk h, p47, i_bd, i_jp]
    have hA3 : AO (clsB B a i w) a := AO_clsB h0 hA (by omega)
    have hK3 : clsB B a i w 1867 = B 1867 := by
      unfold clsB
      rw [upZ_ne (by omega), upZ_ne (by omega), upZ_ne (by omega)]
    generalize clsB B a i w = B3 at hA3 hK3
    have ei : (zi i = 0) = (i = 0) := zi_eq (b := 0) (by omega) (by omega) (by omega) (by omega)
    by_cases ci : i = 0
    · have hC : clsC T B3 a i w = upZ (upZ B3 (2084 + 48 * a + 6) w) (2084 + 48 * a + 10) (fstZ T (upZ B3 (2084 + 48 * a + 6) w) a w) := if_pos ci
      have p6 : g_X10_put n (WC M bk B3 S1 ho1 ha1 sm) 139 (zi a) 6 (zi w) = some ((), WC M bk (upZ B3 (2084 + 48 * a + 6) w) S1 ho1 ha1 sm) := m_put h (k := 6) h0 h1 (by omega) (by omega)
      have hA6 : AO (upZ B3 (2084 + 48 * a + 6) w) a := AO_set hA3 h0 (by omega) (by unfold okV; omega)
      have p10 : ∀ v : Int, g_X10_put n (WC M bk (upZ B3 (2084 + 48 * a + 6) w) S1 ho1 ha1 sm) 139 (zi a) 10 (zi v) = some ((), WC M bk (upZ (upZ B3 (2084 + 48 * a + 6) w) (2084 + 48 * a + 10) v) S1 ho1 ha1 sm) := fun v => m_put h (k := 10) h0 h1 (by omega) (by omega)
      rw [if_pos (by rw [ei]; exact ci), m_chk h, p6, i_bd, m_chk h, m_firstTaken h hT h0 h1 hA6 (by omega), i_bd, m_chk h, zj_32, p10, i_bd, hC]
      exact m_cls17 h hT hn h0 h1 (AO_set hA6 h0 (by omega) (by unfold okV; omega)) (by rw [upZ_ne (by omega), upZ_ne (by omega), hK3]; exact hK) (by omega)
    · have hC : clsC T B3 a i w = bookFor (upZ B3 (2084 + 48 * a + (27 + i)) (adjZ T B3 a w (AtZ B3 a 6))) a 2 (adjZ T B3 a w (AtZ B3 a 6)) := if_neg ci
      have r6 : g_X10_at n (WC M bk B3 S1 ho1 ha1 sm) 139 (zi a) 6 = some (zi (AtZ B3 a 6), _) := m_at h (k := 6) h0 h1 (by omega) (by omega)
      have c6 := hA3.2.2.2.2.2.2.1
      have hadj := m_adjustedBy (n := n) (S := S1) (ho := ho1) (ha := ha1) (sm := sm) (w := w) (b := AtZ B3 a 6) h hT h0 h1 hA3 (by omega)
      rw [if_neg (by rw [ei]; exact ci), m_chk h, r6, i_bd, m_chk h, hadj, i_bd, m_chk h, zj_32, hC]
      generalize adjZ T B3 a w (AtZ B3 a 6) = v
      have p27 : g_X10_put n (WC M bk B3 S1 ho1 ha1 sm) 139 (zi a) (27 + zi i) (zi v) = some ((), WC M bk (upZ B3 (2084 + 48 * a + (27 + i)) v) S1 ho1 ha1 sm) := by
        rw [q27]; exact m_put h h0 h1 (by omega) (by omega)
      have hA7 : AO (upZ B3 (2084 + 48 * a + (27 + i)) v) a := AO_set hA3 h0 (by omega) (by unfold okV; omega)
      have hK7 : 0 ≤ upZ B3 (2084 + 48 * a + (27 + i)) v 1867 ∧ upZ B3 (2084 + 48 * a + (27 + i)) v 1867 ≤ 40 := by
        rw [upZ_ne (by omega), hK3]; exact hK
      have pb : g_X10_booksFor n (WC M bk (upZ B3 (2084 + 48 * a + (27 + i)) v) S1 ho1 ha1 sm) 139 (zi a) 2 (zi v) = some ((), WC M bk (bookFor (upZ B3 (2084 + 48 * a + (27 + i)) v) a 2 v) S1 ho1 ha1 sm) := m_booksFor (so := 2) h hn hK7 h0 h1 hA7.1 (by omega) (by omega)
      rw [p27, i_bd, m_chk h, pb, i_bd]
      have hA8 : AO (upZ (upZ B3 (2084 + 48 * a + (27 + i)) v) (2084 + 48 * a + 10) (AtZ (upZ B3 (2084 + 48 * a + (27 + i)) v) a 10 + v)) a := AO_set hA7 h0 (by omega) (by unfold okV; omega)
      have hK8 : 0 ≤ upZ (upZ B3 (2084 + 48 * a + (27 + i)) v) (2084 + 48 * a + 10) (AtZ (upZ B3 (2084 + 48 * a + (27 + i)) v) a 10 + v) 1867 ∧ upZ (upZ B3 (2084 + 48 * a + (27 + i)) v) (2084 + 48 * a + 10) (AtZ (upZ B3 (2084 + 48 * a + (27 + i)) v) a 10 + v) 1867 ≤ 40 := by
        rw [upZ_ne (by omega)]; exact hK7
      exact m_cls17 h hT hn h0 h1 (AO_book hA8 h0 hA7.1.1 hA7.1.2 (by omega) (by omega) hK8) (book_kept hA7.1.1 (by omega) hK8) (by omega)
end MCLOSE2
