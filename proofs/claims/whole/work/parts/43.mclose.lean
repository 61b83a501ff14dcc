/-! ===== PURE 13: an asset's close ===== -/
section MCLOSE
variable {M : MemT} {bk nt : Int} {T tr sl bu as B S : Int → Int} {ho ha : Int} {sm : Int32} {n : Nat}
theorem m_cls23 (h : MOk M bk nt T tr sl bu as) {a i k1 sp : Int} (h0 : 0 ≤ a) (h1 : a < 8) (hk : 0 ≤ k1 ∧ k1 ≤ 3) (hs : -1000 ≤ sp - 1 - i ∧ sp - 1 - i ≤ 1000) : (fun (M24 : MemT)  => jp (fun (s : MemT) => (fun (M26 : MemT)  => chk M26 8 139 (bd (g_X10_at n M26 139 (zi a) 1) (fun r27 M28 => chk M28 8 139 (bd (g_X10_put n M28 139 (zi a) 0 r27) (fun r29 M30 => some ((), M30)))))) s) (fun K25 => jp (fun (s : MemT) => (fun (M32 : MemT)  => chk M32 8 139 (bd (g_X10_put n M32 139 (zi a) 9 1) (fun r33 M34 => K25 M34))) s) (fun K31 => (if 0 ≤ ((zi k1) - 1) then K31 M24 else (if (((zi sp) - 1) - (zi i)) = 0 then K31 M24 else K25 M24))))) (WC M bk B S ho ha sm) = some ((), WC M bk (clsE B a (sp - 1 - i) (k1 - 1)) S ho ha sm) := by
  have ek : (zi k1 : Int32) - 1 = zi (k1 - 1) := zi_sub k1 1
  have es : (zi sp : Int32) - 1 = zi (sp - 1) := zi_sub sp 1
  have e1 : ((0 : Int32) ≤ zi (k1 - 1)) = (0 ≤ k1 - 1) := zi_le (a := 0) (by omega) (by omega) (by omega) (by omega)
  have e2 : (zi (sp - 1 - i) = 0) = (sp - 1 - i = 0) := zi_eq (b := 0) (by omega) (by omega) (by omega) (by omega)
  have fin : ∀ B1 : Int → Int, chk (WC M bk B1 S ho ha sm) 8 139 (bd (g_X10_at n (WC M bk B1 S ho ha sm) 139 (zi a) 1) (fun r27 M28 => chk M28 8 139 (bd (g_X10_put n M28 139 (zi a) 0 r27) (fun r29 M30 => (some ((), M30) : Option (Unit × MemT)))))) = some ((), WC M bk (upZ B1 (2084 + 48 * a + 0) (AtZ B1 a 1)) S ho ha sm) := by
    intro B1
    have r1 : g_X10_at n (WC M bk B1 S ho ha sm) 139 (zi a) 1 = some (zi (AtZ B1 a 1), _) := m_at h (k := 1) h0 h1 (by omega) (by omega)
    have p0 : g_X10_put n (WC M bk B1 S ho ha sm) 139 (zi a) 0 (zi (AtZ B1 a 1)) = _ := m_put h (k := 0) h0 h1 (by omega) (by omega)
    rw [m_chk h, r1, i_bd, m_chk h, p0, i_bd]
  have p9 : g_X10_put n (WC M bk B S ho ha sm) 139 (zi a) 9 1 = some ((), WC M bk (upZ B (2084 + 48 * a + 9) 1) S ho ha sm) := m_put h (k := 9) (v := 1) h0 h1 (by omega) (by omega)
  dsimp only
  simp only [i_jp, ek, es, zi_sub, e1, e2]
  unfold clsE clsE1
  by_cases c1 : 0 ≤ k1 - 1
  · rw [if_pos c1, if_pos (Or.inl c1), m_chk h, p9, i_bd]
    exact fin _
  · by_cases c2 : sp - 1 - i = 0
    · rw [if_neg c1, if_pos c2, if_pos (Or.inr c2), m_chk h, p9, i_bd]
      exact fin _
    · rw [if_neg c1, if_neg c2, if_neg (fun q => q.elim c1 c2)]
      exact fin _
theorem m_cls17 (h : MOk M bk nt T tr sl bu as) (hT : told3 T) (hn : 300 < n) {a i : Int} (h0 : 0 ≤ a) (h1 : a < 8) (hA : AO B a) (hK : 0 ≤ B 1867 ∧ B 1867 ≤ 40) (hi : 0 ≤ i ∧ i ≤ 9) : (fun (M18 : MemT)  => chk M18 8 139 (bd (g_X10_at n M18 139 (zi a) 4) (fun r19 M20 => chk M20 8 139 (bd (g_X10_at n M20 139 (zi a) 7) (fun r21 M22 => jp (fun (s : MemT) => (fun (M24 : MemT)  => jp (fun (s : MemT) => (fun (M26 : MemT)  => chk M26 8 139 (bd (g_X10_at n M26 139 (zi a) 1) (fun r27 M28 => chk M28 8 139 (bd (g_X10_put n M28 139 (zi a) 0 r27) (fun r29 M30 => some ((), M30)))))) s) (fun K25 => jp (fun (s : MemT) => (fun (M32 : MemT)  => chk M32 8 139 (bd (g_X10_put n M32 139 (zi a) 9 1) (fun r33 M34 => K25 M34))) s) (fun K31 => (if 0 ≤ (r21 - 1) then K31 M24 else (if ((r19 - 1) - (zi i)) = 0 then K31 M24 else K25 M24))))) s) (fun K23 => jp (fun (s : MemT) => (fun (M36 : MemT)  => chk M36 8 139 (bd (g_X10_at n M36 139 (zi a) 6) (fun r37 M38 => chk M38 8 139 (bd (g_X10_lastBy n M38 139 (zi a) ((r19 - 1) - (zi i)) (r21 - 1) r37) (fun r39 M40 => chk M40 8 139 (bd (g_X10_at n M40 139 (zi a) 8) (fun r41 M42 => jp (fun (s : MemT × Int64) => (fun (M44 : MemT) (v45 : Int64) => chk M44 8 139 (bd (g_X10_put n M44 139 (zi a) 11 1) (fun r46 M47 => chk M47 8 139 (bd (g_X10_put n M47 139 (zi a) 12 (Int64.toInt32 v45)) (fun r48 M49 => chk M49 8 139 (bd (g_X10_booksFor n M49 139 (zi a) 3 (Int64.toInt32 v45)) (fun r50 M51 => K23 M51))))))) s.1 s.2) (fun K43 => jp (fun (s : MemT) => (fun (M53 : MemT)  => K43 (M53, r39)) s) (fun K52 => (if r41 < 0 then K52 M42 else chk M42 8 139 (bd (g_X10_at n M42 139 (zi a) 8) (fun r54 M55 => (if (lg_cmp r39 (Int32.toInt64 r54)) ≤ 0 then K52 M55 else chk M55 8 139 (bd (g_X10_at n M55 139 (zi a) 8) (fun r56 M57 => K43 (M57, Int32.toInt64 r56)))))))))))))))) s) (fun K35 => (if (r21 - 1) = 0 then K35 M22 else (if (r21 - 1) = 1 then K35 M22 else K23 M22))))))))) (WC M bk B S ho ha sm) = some ((), WC M bk (clsF T B a i) S ho ha sm) := by
  obtain ⟨c0, -, -, -, c4, -, c6, c7, c8, -⟩ := id hA
  have r4 : g_X10_at n (WC M bk B S ho ha sm) 139 (zi a) 4 = some (zi (AtZ B a 4), _) := m_at h (k := 4) h0 h1 (by omega) (by omega)
  have r7 : g_X10_at n (WC M bk B S ho ha sm) 139 (zi a) 7 = some (zi (AtZ B a 7), _) := m_at h (k := 7) h0 h1 (by omega) (by omega)
  have r6 : g_X10_at n (WC M bk B S ho ha sm) 139 (zi a) 6 = some (zi (AtZ B a 6), _) := m_at h (k := 6) h0 h1 (by omega) (by omega)
  have r8 : g_X10_at n (WC M bk B S ho ha sm) 139 (zi a) 8 = some (zi (AtZ B a 8), _) := m_at h (k := 8) h0 h1 (by omega) (by omega)
  dsimp only
  rw [m_chk h, r4, i_bd, m_chk h, r7, i_bd, i_jp]
  have t23 := fun B1 : Int → Int => m_cls23 (n := n) (B := B1) (S := S) (ho := ho) (ha := ha) (sm := sm) (i := i) (k1 := AtZ B a 7) (sp := AtZ B a 4) h h0 h1 c7 (by omega)
  unfold clsF clsD
  have ek : (zi (AtZ B a 7) : Int32) - 1 = zi (AtZ B a 7 - 1) := zi_sub _ 1
  have es : (zi (AtZ B a 4) : Int32) - 1 = zi (AtZ B a 4 - 1) := zi_sub _ 1
  have e0 : (zi (AtZ B a 7 - 1) = 0) = (AtZ B a 7 - 1 = 0) := zi_eq (b := 0) (by omega) (by omega) (by omega) (by omega)
  have e1 : (zi (AtZ B a 7 - 1) = 1) = (AtZ B a 7 - 1 = 1) := zi_eq (b := 1) (by omega) (by omega) (by omega) (by omega)
  have e8 : (zi (AtZ B a 8) < 0) = (AtZ B a 8 < 0) := zi_lt (b := 0) (by omega) (by omega) (by omega) (by omega)
  simp only [i_jp, ek, es, zi_sub] at t23 ⊢
  simp only [e0, e1, e8]
  have hl := m_lastBy (n := n) (S := S) (ho := ho) (ha := ha) (sm := sm) (d := AtZ B a 4 - 1 - i) (k := AtZ B a 7 - 1) (b := AtZ B a 6) h hT h0 h1 hA (by omega) (by omega) (by omega)
  have hlr : -1152921504606846976 ≤ lastZ T B a (AtZ B a 4 - 1 - i) (AtZ B a 7 - 1) (AtZ B a 6) ∧ lastZ T B a (AtZ B a 4 - 1 - i) (AtZ B a 7 - 1) (AtZ B a 6) ≤ 1152921504606846976 := by
    have hs := spanT hT hA
    have c3 := hA.2.2.2.1
    have t1 := hT.2.1
    have hp1 := mul_rng (a := AtZ B a 3) (b := AtZ B a 4 - 1 - i) (x := 99999) (y := 10) (by omega) (by omega) (by omega) (by omega)
    have hg : -1000 ≤ (if AtZ B a 7 - 1 = 0 then T 1 else 0) - AtZ B a 6 ∧ (if AtZ B a 7 - 1 = 0 then T 1 else 0) - AtZ B a 6 ≤ 1000 := by split <;> omega
    have hp := mul_rng (a := AtZ B a 3 * (AtZ B a 4 - 1 - i)) (b := (if AtZ B a 7 - 1 = 0 then T 1 else 0) - AtZ B a 6) (x := 999990) (y := 1000) (by omega) (by omega) hg.1 hg.2
    have hc := cutZ_abs (w := T 0) (a := AtZ B a 3 * (AtZ B a 4 - 1 - i) * ((if AtZ B a 7 - 1 = 0 then T 1 else 0) - AtZ B a 6)) hs.1
    unfold lastZ
    omega
  generalize lastZ T B a (AtZ B a 4 - 1 - i) (AtZ B a 7 - 1) (AtZ B a 6) = v at hl hlr
  have p11 : g_X10_put n (WC M bk B S ho ha sm) 139 (zi a) 11 1 = some ((), WC M bk (upZ B (2084 + 48 * a + 11) 1) S ho ha sm) := m_put h (k := 11) (v := 1) h0 h1 (by omega) (by omega)
  have p12 : ∀ w : Int, g_X10_put n (WC M bk (upZ B (2084 + 48 * a + 11) 1) S ho ha sm) 139 (zi a) 12 (zi w) = some ((), WC M bk (upZ (upZ B (2084 + 48 * a + 11) 1) (2084 + 48 * a + 12) w) S ho ha sm) := fun w => m_put h (k := 12) h0 h1 (by omega) (by omega)
  have pb : ∀ w : Int, g_X10_booksFor n (WC M bk (upZ (upZ B (2084 + 48 * a + 11) 1) (2084 + 48 * a + 12) w) S ho ha sm) 139 (zi a) 3 (zi w) = some ((), WC M bk (bookFor (upZ (upZ B (2084 + 48 * a + 11) 1) (2084 + 48 * a + 12) w) a 3 w) S ho ha sm) := fun w => m_booksFor (so := 3) h hn (by rw [upZ_ne (by omega), upZ_ne (by omega)]; exact hK) h0 h1 (by rw [AtZ_up, if_neg (by omega), AtZ_up, if_neg (by omega)]; exact c0) (by omega) (by omega)
  have e64 : (zi (AtZ B a 8)).toInt64 = zj (AtZ B a 8) := zi_64 (by omega) (by omega)
  have ecmp : (lg_cmp (zj v) (zj (AtZ B a 8)) ≤ 0) = (v ≤ AtZ B a 8) := by
    rw [lg_cmp_le]; exact zj_le (by omega) (by omega) (by omega) (by omega)
  by_cases q0 : AtZ B a 7 - 1 = 0
  · rw [if_pos q0, if_pos (Or.inl q0)]
    rw [m_chk h, r6, i_bd, m_chk h, hl, i_bd, m_chk h, r8, i_bd]
    by_cases d0 : AtZ B a 8 < 0
    · have hc : capZ B a v = v := if_neg (by omega)
      rw [hc, if_pos (by rw [e8]; exact d0), m_chk h, p11, i_bd, m_chk h, zj_32, p12, i_bd, m_chk h, pb, i_bd]
      exact t23 _
    · by_cases d1 : v ≤ AtZ B a 8
      · have hc : capZ B a v = v := if_neg (by omega)
        rw [hc, if_neg (by rw [e8]; exact d0), m_chk h, r8, i_bd, if_pos (by rw [e64, ecmp]; exact d1), m_chk h, p11, i_bd, m_chk h, zj_32, p12, i_bd, m_chk h, pb, i_bd]
        exact t23 _
      · have hc : capZ B a v = AtZ B a 8 := if_pos (by omega)
        rw [hc, if_neg (by rw [e8]; exact d0), m_chk h, r8, i_bd, if_neg (by rw [e64, ecmp]; exact d1), m_chk h, r8, i_bd, m_chk h, p11, i_bd, m_chk h, e64, zj_32, p12, i_bd, m_chk h, pb, i_bd]
        exact t23 _
  · by_cases q1 : AtZ B a 7 - 1 = 1
    · rw [if_neg q0, if_pos q1, if_pos (Or.inr q1)]
      rw [m_chk h, r6, i_bd, m_chk h, hl, i_bd, m_chk h, r8, i_bd]
      by_cases d0 : AtZ B a 8 < 0
      · have hc : capZ B a v = v := if_neg (by omega)
        rw [hc, if_pos (by rw [e8]; exact d0), m_chk h, p11, i_bd, m_chk h, zj_32, p12, i_bd, m_chk h, pb, i_bd]
        exact t23 _
      · by_cases d1 : v ≤ AtZ B a 8
        · have hc : capZ B a v = v := if_neg (by omega)
          rw [hc, if_neg (by rw [e8]; exact d0), m_chk h, r8, i_bd, if_pos (by rw [e64, ecmp]; exact d1), m_chk h, p11, i_bd, m_chk h, zj_32, p12, i_bd, m_chk h, pb, i_bd]
          exact t23 _
        · have hc : capZ B a v = AtZ B a 8 := if_pos (by omega)
          rw [hc, if_neg (by rw [e8]; exact d0), m_chk h, r8, i_bd, if_neg (by rw [e64, ecmp]; exact d1), m_chk h, r8, i_bd, m_chk h, p11, i_bd, m_chk h, e64, zj_32, p12, i_bd, m_chk h, pb, i_bd]
          exact t23 _
    · rw [if_neg q0, if_neg q1, if_neg (show ¬ (AtZ B a 7 - 1 = 0 ∨ AtZ B a 7 - 1 = 1) from fun q => q.elim q0 q1)]
      exact t23 _
end MCLOSE
