/-! ===== PURE 33: an interval's end, the component's side, from its start ===== -/
section XINT3
variable {M : MemT} {c r : Nat} {R : Nat → Nat → Int32} {F : Nat → Int32} {S : Int → Int} {n : Nat} {T tr sl bu as B : Int → Int} {nt : Int} {a : Nat}
theorem c_o5 (h : CSh M c r) : gO (WX M c R F S) 1 (c + 10) 5 = some (c + 10 + 3) := x_o5 (M := WF M (c + 60) F S) (wx_B (F := F) (S := S) h)
theorem c_oA (h : CSh M c r) (ha : a < 8) : aO (WX M c R F S) 14 (c + 10 + 3) (zi (a : Int)) = some (c + 10 + 10 + 5 * a) := x_oA (M := WF M (c + 60) F S) (wx_B (F := F) (S := S) h) ha
theorem clsC_AO0 {w : Int} (hA : AO B a) (hw : 0 ≤ w ∧ w ≤ 1000) : AO (clsC T (clsB B a 0 w) a 0 w) a := by
  unfold clsC
  rw [if_pos rfl]
  exact AO_set (AO_set (AO_clsB (by omega) hA (by omega)) (by omega) (by omega) (by unfold okV; omega)) (by omega) (by omega) (by unfold okV; omega)
theorem clsC_lo0 {w j : Int} (hj : j < 2084) : clsC T (clsB B a 0 w) a 0 w j = B j := by
  unfold clsC
  rw [if_pos rfl, upZ_ne (by omega), upZ_ne (by omega), clsB_lo (by omega) hj]
theorem clsC_at0 {w j : Int} (h1 : j ≠ 10) (h2 : j ≠ 6) (h3 : j ≠ 37) (h4 : j ≠ 17) : AtZ (clsC T (clsB B a 0 w) a 0 w) a j = if j = 47 then 1 else AtZ B a j := by
  unfold clsC
  rw [if_pos rfl, AtZ_up, if_neg h1, AtZ_up, if_neg h2, clsB_at]
  by_cases q : j = 47
  · rw [if_pos q, if_pos q]; rfl
  · rw [if_neg q, if_neg q, if_neg (by omega), if_neg (by omega)]
theorem c_endInterval (h : CSh M c r) (hU : RU M r nt T tr sl bu as) (hT : told3 T) (hR : RM B R) (hB : BS B) (hN : BN B) (hK : 0 ≤ B 1867 ∧ B 1867 ≤ 40) (hE : 0 ≤ B 1866 ∧ B 1866 ≤ 999990) (ha : a < 8) (hRA : RA T B R a) (hA : AO B a) (h9 : AtZ B a 9 = 0) (hth : AtZ B a 47 = yearZ B - AtZ B a 5 / 4) (h47 : AtZ B a 47 ≤ 9) (h27 : AtZ B a 47 = 0 → AtZ B a 27 = 0) (hAnn : B (1801 + 16 * AtZ B a 0 + yearZ B) = annZ T tr B (AtZ B a 0) (yearZ B)) (hn : 5 < n) : ∃ R1, g_X3_endInterval n (WX M c R F S) c (zi (a : Int)) (zi (yearZ B)) = some ((), WX M c R1 F S) ∧ RM (clsZ T tr B a (yearZ B)) R1 ∧ RAn T (clsZ T tr B a (yearZ B)) R1 a ∧ ∀ o, o ≠ 0 → o ≠ 8 → o ≠ 9 → ¬ (10 + 5 * a ≤ o ∧ o < 15 + 5 * a) → R1 o = R o := by
  obtain ⟨n1, n2⟩ := id hN
  have hy : 0 ≤ yearZ B ∧ yearZ B < 16 := by unfold yearZ; omega
  have c0 := hA.1
  have c2 := hA.2.2.1
  have c6 := hA.2.2.2.2.2.2.1
  have c47 := hA.2.2.2.2.2.2.2.2.2.2.2.2
  have hRn := RAn_of hRA
  obtain ⟨⟨r0, r1, r2, r3, r4, r5⟩, ⟨r6, r7, r8, r9, r10, r11, r12, r13, r14⟩, rr⟩ := id hRn
  have hf := annZ_rng (tr := tr) hT hB hN c0.1 c0.2
  have hw := c_worthBy (n := n) (F := F) (S := S) h hU hR hT hN ha hRA hA hth hn c2 hf
  have hwr := wthZ_rng (B := B) (a := (a : Int)) (use := AtZ B a 2) hT hf
  have hka := x_keptAnnual (n := n) (wx_B (F := F) (S := S) h) hR (t := AtZ B a 0) (y := yearZ B) c0.1 c0.2 hy.1 hy.2
  rw [hAnn] at hka
  have ht1 := hT.2.1
  have hZ : clsZ T tr B a (yearZ B) = clsF T (clsC T (clsB B a (AtZ B a 47) (worthZ T tr B a (AtZ B a 2))) a (AtZ B a 47) (worthZ T tr B a (AtZ B a 2))) a (AtZ B a 47) := by
    unfold clsZ
    rw [if_neg (by omega), ← hth]
  have hwz : worthZ T tr B a (AtZ B a 2) = wthZ T B a (AtZ B a 2) (annZ T tr B (AtZ B a 0) (yearZ B)) := rfl
  rw [hZ, hwz]
  generalize wthZ T B a (AtZ B a 2) (annZ T tr B (AtZ B a 0) (yearZ B)) = w at hw hwr
  have e14 : (zi (AtZ B a 47) = 0) = (AtZ B a 47 = 0) := zi_eq (b := 0) (by omega) (by omega) (by omega) (by omega)
  have start : g_X3_endInterval n (WX M c R F S) c (zi (a : Int)) (zi (yearZ B)) = (if AtZ B a 47 = 0 then (pI (WX M c R F S) 0 (c + 10 + 10 + 5 * a) 9 (zi w)).bind (fun M33 => chk M33 2 c (bd (g_X3_firstBy n M33 c (c + 10 + 10 + 5 * a) (zi w)) (fun r34 M35 => (pI M35 0 (c + 10 + 10 + 5 * a) 10 r34).bind (fun M36 => (gI M36 0 (c + 10 + 10 + 5 * a) 10).bind (fun v37 => (pI M36 0 (c + 10 + 10 + 5 * a) 11 v37).bind (fun M38 => chk M38 0 (c + 10 + 10 + 5 * a) (bd (g_X1_endInterval n M38 (c + 10 + 10 + 5 * a) (zi w) 0) (fun r39 M40 => (fun (M13 : MemT)  => (gI M13 0 (c + 10 + 10 + 5 * a) 6).bind (fun v14 => jp (fun (s : MemT) => (fun (M16 : MemT)  => (gI M16 0 (c + 10 + 10 + 5 * a) 6).bind (fun v17 => jp (fun (s : MemT × Int32) => (fun (M19 : MemT) (v20 : Int32) => (pZ M19 0 (c + 10 + 10 + 5 * a) 8 v20).bind (fun M21 => (gI M21 0 (c + 10 + 10 + 5 * a) 1).bind (fun v22 => (pI M21 0 (c + 10 + 10 + 5 * a) 0 v22).bind (fun M23 => some ((), M23))))) s.1 s.2) (fun K18 => jp (fun (s : MemT) => (fun (M25 : MemT)  => K18 (M25, 1)) s) (fun K24 => (if v17 = ((-2)) then (gI M16 0 (c + 10 + 10 + 5 * a) 14).bind (fun v26 => (gI M16 0 (c + 10 + 10 + 5 * a) 4).bind (fun v27 => (if v26 = v27 then K24 M16 else K18 (M16, 0)))) else K24 M16))))) s) (fun K15 => jp (fun (s : MemT) => (fun (M29 : MemT)  => chk M29 2 c (bd (g_X3_bookFinal n M29 c (c + 10 + 10 + 5 * a) (zi (a : Int))) (fun r30 M31 => K15 M31))) s) (fun K28 => (if v14 = 0 then K28 M13 else (gI M13 0 (c + 10 + 10 + 5 * a) 6).bind (fun v32 => (if v32 = 1 then K28 M13 else K15 M13))))))) M40)))))))) else (gI (WX M c R F S) 0 (c + 10 + 10 + 5 * a) 9).bind (fun v41 => chk (WX M c R F S) 2 c (bd (g_X3_adjustedBy n (WX M c R F S) c (c + 10 + 10 + 5 * a) (zi w) v41) (fun r42 M43 => (gO M43 2 c 1).bind (fun j44 => (gI M43 0 (c + 10 + 10 + 5 * a) 0).bind (fun v45 => chk M43 1 j44 (bd (g_X2_enter n M43 j44 v45 2 r42 (zi (a : Int))) (fun r46 M47 => chk M47 0 (c + 10 + 10 + 5 * a) (bd (g_X1_endInterval n M47 (c + 10 + 10 + 5 * a) (zi w) r42) (fun r48 M49 => (fun (M13 : MemT)  => (gI M13 0 (c + 10 + 10 + 5 * a) 6).bind (fun v14 => jp (fun (s : MemT) => (fun (M16 : MemT)  => (gI M16 0 (c + 10 + 10 + 5 * a) 6).bind (fun v17 => jp (fun (s : MemT × Int32) => (fun (M19 : MemT) (v20 : Int32) => (pZ M19 0 (c + 10 + 10 + 5 * a) 8 v20).bind (fun M21 => (gI M21 0 (c + 10 + 10 + 5 * a) 1).bind (fun v22 => (pI M21 0 (c + 10 + 10 + 5 * a) 0 v22).bind (fun M23 => some ((), M23))))) s.1 s.2) (fun K18 => jp (fun (s : MemT) => (fun (M25 : MemT)  => K18 (M25, 1)) s) (fun K24 => (if v17 = ((-2)) then (gI M16 0 (c + 10 + 10 + 5 * a) 14).bind (fun v26 => (gI M16 0 (c + 10 + 10 + 5 * a) 4).bind (fun v27 => (if v26 = v27 then K24 M16 else K18 (M16, 0)))) else K24 M16))))) s) (fun K15 => jp (fun (s : MemT) => (fun (M29 : MemT)  => chk M29 2 c (bd (g_X3_bookFinal n M29 c (c + 10 + 10 + 5 * a) (zi (a : Int))) (fun r30 M31 => K15 M31))) s) (fun K28 => (if v14 = 0 then K28 M13 else (gI M13 0 (c + 10 + 10 + 5 * a) 6).bind (fun v32 => (if v32 = 1 then K28 M13 else K15 M13))))))) M49)))))))))) := by
    unfold g_X3_endInterval
    have hka' : g_X2_keptAnnual n (WX M c R F S) (c + 10) (zi (AtZ B a 0)) (zi (yearZ B)) = _ := hka
    rw [c_o1 h, i_sb, c_o5 h, i_sb, c_oA h ha, i_sb, c_gA h ha, i_sb, r2, i_sb, c_gA h ha, i_sb, r0, c_kB h, hka', i_bd]
    show chk (WX M c R F S) 2 c (bd (g_X3_worthBy n (WX M c R F S) c (c + 10 + 10 + 5 * a) (zi (AtZ B a 2)) (zi (annZ T tr B (AtZ B a 0) (yearZ B)))) _) = _
    rw [c_kC h, hw, i_bd, c_gA h ha, i_sb, r14, i_jp]
    simp only [e14]
  rw [start]
  by_cases z : AtZ B a 47 = 0
  · rw [if_pos z, z]
    have hfb := c_firstBy (n := n) (R := up2 R (10 + 5 * a) 9 (zi w)) (F := F) (S := S) (b := w) h hU hT ha ((up2_k (by omega)).trans r3) hA (by omega)
    have hRf := RAn_first (w := w) (own := 0) hA hRn (h27 z) z
    have hae := x_aEnd (M := WF M (c + 60) F S) (n := n) (R := up2 (up2 (up2 R (10 + 5 * a) 9 (zi w)) (10 + 5 * a) 10 (zi (fstZ T B a w))) (10 + 5 * a) 11 (zi (fstZ T B a w))) (i := 0) (w := w) (v := 0) (own := AtZ B a 0) (tk := fstZ T B a w) (wx_B (F := F) (S := S) h) ha (by omega) (by rw [up2_k (by omega), up2_k (by omega), up2_k (by omega), r14, z]) (by rw [up2_k (by omega), up2_k (by omega), up2_k (by omega), r0]) up2_at
    have hR4 : RM (clsC T (clsB B a 0 w) a 0 w) (aEnd (up2 (up2 (up2 R (10 + 5 * a) 9 (zi w)) (10 + 5 * a) 10 (zi (fstZ T B a w))) (10 + 5 * a) 11 (zi (fstZ T B a w))) (10 + 5 * a) 0 w 0 (zi (AtZ B a 0)) (zi (fstZ T B a w + 0)) (zi (0 + 1))) := RM_eq hR (fun i hi => clsC_lo0 hi) hK.2 (fun o ho => by
      rw [aEnd_o (by omega)]
      funext k
      rw [up2_o (by omega), up2_o (by omega), up2_o (by omega)])
    have hA4 : AO (clsC T (clsB B a 0 w) a 0 w) a := clsC_AO0 hA (by omega)
    have fr : ∀ o, ¬ (10 + 5 * a ≤ o ∧ o < 15 + 5 * a) → aEnd (up2 (up2 (up2 R (10 + 5 * a) 9 (zi w)) (10 + 5 * a) 10 (zi (fstZ T B a w))) (10 + 5 * a) 11 (zi (fstZ T B a w))) (10 + 5 * a) 0 w 0 (zi (AtZ B a 0)) (zi (fstZ T B a w + 0)) (zi (0 + 1)) o = R o := fun o ho => by
      rw [aEnd_o ho]
      funext k
      rw [up2_o (by omega), up2_o (by omega), up2_o (by omega)]
    obtain ⟨R5, g5, m5, n5, o5⟩ := c_end13 (n := n) (F := F) (S := S) (i := 0) h hU hT hR4 (by unfold BN; rw [clsC_lo0 (by omega)]; exact hN) (by rw [clsC_lo0 (by omega)]; exact hK) (by rw [clsC_lo0 (by omega)]; omega) ha hRf hA4 (by rw [clsC_at0 (by omega) (by omega) (by omega) (by omega), if_neg (by omega)]; exact h9) (by rw [clsC_at0 (by omega) (by omega) (by omega) (by omega), if_pos rfl]; rfl) (by omega)
    refine ⟨R5, ?_, m5, n5, fun o q0 q8 q9 qa => (o5 o q0 q8 q9 (by omega)).trans (fr o qa)⟩
    have hae' : g_X1_endInterval n (WX M c (up2 (up2 (up2 R (10 + 5 * a) 9 (zi w)) (10 + 5 * a) 10 (zi (fstZ T B a w))) (10 + 5 * a) 11 (zi (fstZ T B a w))) F S) (c + 10 + 10 + 5 * a) (zi w) (zi 0) = some ((), WX M c (aEnd (up2 (up2 (up2 R (10 + 5 * a) 9 (zi w)) (10 + 5 * a) 10 (zi (fstZ T B a w))) (10 + 5 * a) 11 (zi (fstZ T B a w))) (10 + 5 * a) 0 w 0 (zi (AtZ B a 0)) (zi (fstZ T B a w + 0)) (zi (0 + 1))) F S) := hae
    rw [c_pA h ha, i_sb, c_kC h, hfb, i_bd, c_pA h ha, i_sb, c_gA h ha, i_sb, up2_at, c_pA h ha, i_sb, c_kA h ha]
    show bd (g_X1_endInterval n (WX M c (up2 (up2 (up2 R (10 + 5 * a) 9 (zi w)) (10 + 5 * a) 10 (zi (fstZ T B a w))) (10 + 5 * a) 11 (zi (fstZ T B a w))) F S) (c + 10 + 10 + 5 * a) (zi w) (zi 0)) _ = _
    rw [hae', i_bd]
    exact g5
  · rw [if_neg z]
    generalize hi : AtZ B a 47 = i at *
    have hadj := c_adjustedBy (n := n) (R := R) (F := F) (S := S) (w := w) (b := AtZ B a 6) h hU hT ha r3 r4 hA (by omega)
    have hadj2 : adjZ T (clsB B a i w) a w (AtZ (clsB B a i w) a 6) = adjZ T B a w (AtZ B a 6) := by
      unfold adjZ
      rw [clsB_at, clsB_at, clsB_at, if_neg (by omega), if_neg (by omega), if_neg (by omega), if_neg (by omega), if_neg (by omega), if_neg (by omega), if_neg (by omega), if_neg (by omega), if_neg (by omega)]
    have hC : clsC T (clsB B a i w) a i w = bookFor (upZ (clsB B a i w) (2084 + 48 * a + (27 + i)) (adjZ T B a w (AtZ B a 6))) a 2 (adjZ T B a w (AtZ B a 6)) := by
      unfold clsC
      rw [if_neg z, hadj2]
    rw [hC]
    generalize adjZ T B a w (AtZ B a 6) = v at hadj
    have hA7 : AO (upZ (clsB B a i w) (2084 + 48 * a + (27 + i)) v) a := AO_set (AO_clsB (by omega) hA (by omega)) (by omega) (by omega) (by unfold okV; omega)
    have hK7 : 0 ≤ upZ (clsB B a i w) (2084 + 48 * a + (27 + i)) v 1867 ∧ upZ (clsB B a i w) (2084 + 48 * a + (27 + i)) v 1867 ≤ 40 := by
      rw [upZ_ne (by omega), clsB_lo (by omega) (by omega)]; exact hK
    have hlo : ∀ j : Int, j < 2084 → upZ (clsB B a i w) (2084 + 48 * a + (27 + i)) v j = B j := fun j hj => by
      rw [upZ_ne (by omega), clsB_lo (by omega) hj]
    have h00 : AtZ (upZ (clsB B a i w) (2084 + 48 * a + (27 + i)) v) a 0 = AtZ B a 0 := by
      rw [AtZ_up, if_neg (by omega), clsB_at, if_neg (by omega), if_neg (by omega), if_neg (by omega)]
    obtain ⟨R2, g2, m2, o2⟩ := c_enter (n := n) (F := F) (S := S) h hR hN hK (by omega) (t := AtZ B a 0) (so := 2) (v := v) (x := (a : Int)) c0.1 c0.2 (by omega) (by omega)
    have hR2 : ∀ o, 10 ≤ o → R2 o = R o := fun o ho => o2 o (by omega) (by omega) (by omega)
    have e2 : R2 (10 + 5 * a) = R (10 + 5 * a) := hR2 _ (by omega)
    have hRx := RAn_next (R' := R2) (w := w) (v := v) (i := i) (by omega) hA hK hRn hi hR2
    have hae := x_aEnd (M := WF M (c + 60) F S) (n := n) (R := R2) (i := i) (w := w) (v := v) (own := AtZ B a 0) (tk := AtZ B a 10) (wx_B (F := F) (S := S) h) ha (by omega) (by rw [e2, r14]) (by rw [e2, r0]) (by rw [e2, r11])
    have hR4 : RM (bookFor (upZ (clsB B a i w) (2084 + 48 * a + (27 + i)) v) a 2 v) (aEnd R2 (10 + 5 * a) i w v (zi (AtZ B a 0)) (zi (AtZ B a 10 + v)) (zi (i + 1))) := RM_eq m2 (fun j hj => bookFor_congr (by omega) hlo h00 j hj) (book_kept c0.1 (by omega) hK).2 (fun o ho => aEnd_o (by omega))
    have hA8 := AO_bookFor (v := v) (so := 2) (by omega) hA7 (by omega) (by omega) hK7
    have hat : ∀ j : Int, 0 ≤ j → AtZ (bookFor (upZ (clsB B a i w) (2084 + 48 * a + (27 + i)) v) a 2 v) a j = if j = 10 then AtZ (upZ (clsB B a i w) (2084 + 48 * a + (27 + i)) v) a 10 + v else AtZ (upZ (clsB B a i w) (2084 + 48 * a + (27 + i)) v) a j := fun j j0 => AtZ_bookFor (by omega) hA7.1 (by omega) (by omega) hK7 j0
    have hb0 : ∀ j : Int, j < 2084 → bookFor (upZ (clsB B a i w) (2084 + 48 * a + (27 + i)) v) a 2 v j = bookZ B (AtZ B a 0) 2 v a j := fun j hj => bookFor_congr (by omega) hlo h00 j hj
    have hbE : bookZ B (AtZ B a 0) 2 v a 1866 = B 1866 + 1 := by
      unfold bookZ
      dsimp only
      rw [if_neg (by omega), if_pos rfl]
    have hb9 : AtZ (bookFor (upZ (clsB B a i w) (2084 + 48 * a + (27 + i)) v) a 2 v) a 9 = 0 := by
      rw [hat 9 (by omega), if_neg (by omega), AtZ_up, if_neg (by omega), clsB_at, if_neg (by omega), if_neg (by omega), if_neg (by omega), h9]
    have hb47 : AtZ (bookFor (upZ (clsB B a i w) (2084 + 48 * a + (27 + i)) v) a 2 v) a 47 = i + 1 := by
      rw [hat 47 (by omega), if_neg (by omega), AtZ_up, if_neg (by omega), clsB_at, if_pos rfl]
    obtain ⟨R5, g5, m5, n5, o5⟩ := c_end13 (n := n) (F := F) (S := S) (i := i) h hU hT hR4 (by unfold BN; rw [hb0 0 (by omega), book_lo c0.1 (by omega) (by omega)]; exact hN) (by rw [hb0 1867 (by omega)]; exact book_kept c0.1 (by omega) hK) (by rw [hb0 1866 (by omega), hbE]; omega) ha hRx hA8 hb9 hb47 (by omega)
    refine ⟨R5, ?_, m5, n5, fun o q0 q8 q9 qa => ((o5 o q0 q8 q9 (by omega)).trans (aEnd_o qa)).trans (o2 o q0 q8 q9)⟩
    have hae' : g_X1_endInterval n (WX M c R2 F S) (c + 10 + 10 + 5 * a) (zi w) (zi v) = some ((), WX M c (aEnd R2 (10 + 5 * a) i w v (zi (AtZ B a 0)) (zi (AtZ B a 10 + v)) (zi (i + 1))) F S) := hae
    rw [c_gA h ha, i_sb, r9, c_kC h, hadj, i_bd, c_o1 h, i_sb, c_gA h ha, i_sb, r0, c_kB h]
    show bd (g_X2_enter n (WX M c R F S) (c + 10) (zi (AtZ B a 0)) (zi 2) (zi v) (zi (a : Int))) _ = _
    rw [g2, i_bd, c_kA h ha, hae', i_bd]
    exact g5
end XINT3
