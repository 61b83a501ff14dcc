/-! ===== PURE 32: an interval's end, the component's side: the tail, the whole ===== -/
theorem upZ_same {B : Int → Int} {j v : Int} (h : B j = v) : upZ B j v = B := by
  funext i
  unfold upZ
  by_cases c : i = j
  · rw [if_pos c, c, h]
  · rw [if_neg c]
section XINT2
variable {M : MemT} {c r : Nat} {R : Nat → Nat → Int32} {F : Nat → Int32} {S : Int → Int} {n : Nat} {T tr sl bu as B : Int → Int} {nt : Int} {a : Nat}
theorem RM_hi {j v : Int} (h : RM B R) (hK : B 1867 ≤ 40) (hj : 2084 ≤ j) {R1 : Nat → Nat → Int32} (hr : ∀ o, o < 10 → R1 o = R o) : RM (upZ B j v) R1 := RM_eq h (fun i hi => upZ_ne (by omega)) hK hr
theorem c_end16 (h : CSh M c r) (hR : RM B R) (hK : B 1867 ≤ 40) (ha : a < 8) (hRA : RAn T B R a) (hA : AO B a) (h9 : AtZ B a 9 = 0) {d k : Int} (hd : AtZ B a 4 - AtZ B a 47 = d) (hk : AtZ B a 7 - 1 = k) : ∃ R1, (fun (M16 : MemT)  => (gI M16 0 (c + 10 + 10 + 5 * a) 6).bind (fun v17 => jp (fun (s : MemT × Int32) => (fun (M19 : MemT) (v20 : Int32) => (pZ M19 0 (c + 10 + 10 + 5 * a) 8 v20).bind (fun M21 => (gI M21 0 (c + 10 + 10 + 5 * a) 1).bind (fun v22 => (pI M21 0 (c + 10 + 10 + 5 * a) 0 v22).bind (fun M23 => some ((), M23))))) s.1 s.2) (fun K18 => jp (fun (s : MemT) => (fun (M25 : MemT)  => K18 (M25, 1)) s) (fun K24 => (if v17 = ((-2)) then (gI M16 0 (c + 10 + 10 + 5 * a) 14).bind (fun v26 => (gI M16 0 (c + 10 + 10 + 5 * a) 4).bind (fun v27 => (if v26 = v27 then K24 M16 else K18 (M16, 0)))) else K24 M16))))) (WX M c R F S) = some ((), WX M c R1 F S) ∧ RM (clsE B a d k) R1 ∧ RAn T (clsE B a d k) R1 a ∧ ∀ o, o ≠ 10 + 5 * a → R1 o = R o := by
  have c4 := hA.2.2.2.2.1
  have c7 := hA.2.2.2.2.2.2.2.1
  have c47 := hA.2.2.2.2.2.2.2.2.2.2.2.2
  obtain ⟨⟨r0, r1, r2, r3, r4, r5⟩, ⟨r6, r7, r8, r9, r10, r11, r12, r13, r14⟩, rr⟩ := id hRA
  have key : ∀ s : Int, clsE1 B a d k = upZ B (2084 + 48 * a + 9) s → RM (clsE B a d k) (up2 (up2 R (10 + 5 * a) 8 (zi s)) (10 + 5 * a) 0 (zi (AtZ B a 1))) ∧ RAn T (clsE B a d k) (up2 (up2 R (10 + 5 * a) 8 (zi s)) (10 + 5 * a) 0 (zi (AtZ B a 1))) a ∧ ∀ o, o ≠ 10 + 5 * a → up2 (up2 R (10 + 5 * a) 8 (zi s)) (10 + 5 * a) 0 (zi (AtZ B a 1)) o = R o := by
    intro s hs
    have e1 : AtZ (clsE1 B a d k) a 1 = AtZ B a 1 := by rw [hs, AtZ_up, if_neg (by omega)]
    have hw := RAn_s0 (v := AtZ B a 1) (RAn_s8 (v := s) hRA)
    unfold clsE
    rw [e1, hs]
    refine ⟨?_, hw, fun o ho => ?_⟩
    · refine RM_hi (R := up2 R (10 + 5 * a) 8 (zi s)) (RM_hi hR hK (by omega) (fun o ho => ?_)) (by rw [upZ_ne (by omega)]; exact hK) (by omega) (fun o ho => ?_)
      · funext j; exact up2_o (by omega)
      · funext j; exact up2_o (by omega)
    · funext j
      rw [up2_o ho, up2_o ho]
  have em : (-2 : Int32) = zi (-2) := by decide
  have e8 : up2 R (10 + 5 * a) 8 (zi 1) (10 + 5 * a) 1 = zi (AtZ B a 1) := (up2_k (by omega)).trans r1
  have e8' : up2 R (10 + 5 * a) 8 (zi 0) (10 + 5 * a) 1 = zi (AtZ B a 1) := (up2_k (by omega)).trans r1
  have z1 : (1 : Int32) = zi 1 := rfl
  have z0 : (0 : Int32) = zi 0 := rfl
  have sh : 0 ≤ k ∨ d = 0 → clsE1 B a d k = upZ B (2084 + 48 * a + 9) 1 := fun q => by unfold clsE1; rw [if_pos q]
  have ns : ¬ (0 ≤ k ∨ d = 0) → clsE1 B a d k = upZ B (2084 + 48 * a + 9) 0 := fun q => by
    unfold clsE1
    rw [if_neg q, upZ_same]
    exact h9
  have tl1 : (pZ (WX M c R F S) 0 (c + 10 + 10 + 5 * a) 8 1).bind (fun M21 => (gI M21 0 (c + 10 + 10 + 5 * a) 1).bind (fun v22 => (pI M21 0 (c + 10 + 10 + 5 * a) 0 v22).bind (fun M23 => some ((), M23)))) = some ((), WX M c (up2 (up2 R (10 + 5 * a) 8 (zi 1)) (10 + 5 * a) 0 (zi (AtZ B a 1))) F S) := by
    rw [c_zA h ha (Or.inr rfl), i_sb, c_gA h ha, i_sb, z1, e8, c_pA h ha, i_sb]
  have tl0 : (pZ (WX M c R F S) 0 (c + 10 + 10 + 5 * a) 8 0).bind (fun M21 => (gI M21 0 (c + 10 + 10 + 5 * a) 1).bind (fun v22 => (pI M21 0 (c + 10 + 10 + 5 * a) 0 v22).bind (fun M23 => some ((), M23)))) = some ((), WX M c (up2 (up2 R (10 + 5 * a) 8 (zi 0)) (10 + 5 * a) 0 (zi (AtZ B a 1))) F S) := by
    rw [c_zA h ha (Or.inl rfl), i_sb, c_gA h ha, i_sb, z0, e8', c_pA h ha, i_sb]
  dsimp only
  simp only [i_jp]
  rw [c_gA h ha, i_sb, r6]
  by_cases z : AtZ B a 7 = 0
  · have eq : (zi (AtZ B a 47) = zi (AtZ B a 4)) = (AtZ B a 47 = AtZ B a 4) := zi_eq (by omega) (by omega) (by omega) (by omega)
    rw [if_pos z, if_pos em.symm, c_gA h ha, i_sb, c_gA h ha, i_sb, r14, r4]
    simp only [eq]
    by_cases z2 : AtZ B a 47 = AtZ B a 4
    · rw [if_pos z2, tl1]
      exact ⟨_, rfl, key 1 (sh (by omega))⟩
    · rw [if_neg z2, tl0]
      exact ⟨_, rfl, key 0 (ns (by omega))⟩
  · have eq : (zi (AtZ B a 7 - 1) = -2) = False := by
      rw [em, zi_eq (by omega) (by omega) (by omega) (by omega)]
      exact eq_false (by omega)
    rw [if_neg z]
    simp only [eq, if_false]
    rw [tl1]
    exact ⟨_, rfl, key 1 (sh (by omega))⟩
theorem clsD_at {d k j : Int} (hA : AO B a) (hK : 0 ≤ B 1867 ∧ B 1867 ≤ 40) (j0 : 0 ≤ j) (h1 : j ≠ 10) (h2 : j ≠ 11) (h3 : j ≠ 12) : AtZ (clsD T B a d k) a j = AtZ B a j := by
  unfold clsD
  split
  · have hA1 : AO (upZ B (2084 + 48 * a + 11) 1) a := AO_set hA (by omega) (by omega) (by unfold okV; omega)
    generalize capZ B a (lastZ T B a d k (AtZ B a 6)) = v
    have hA2 : AO (upZ (upZ B (2084 + 48 * a + 11) 1) (2084 + 48 * a + 12) v) a := AO_set hA1 (by omega) (by omega) (by unfold okV; omega)
    rw [AtZ_bookFor (by omega) hA2.1 (by omega) (by omega) (by rw [upZ_ne (by omega), upZ_ne (by omega)]; exact hK) j0, if_neg h1, AtZ_up, if_neg h3, AtZ_up, if_neg h2]
  · rfl
theorem clsD_AO {d k : Int} (hA : AO B a) (hK : 0 ≤ B 1867 ∧ B 1867 ≤ 40) : AO (clsD T B a d k) a ∧ 0 ≤ clsD T B a d k 1867 ∧ clsD T B a d k 1867 ≤ 40 := by
  unfold clsD
  split
  · have hA1 : AO (upZ B (2084 + 48 * a + 11) 1) a := AO_set hA (by omega) (by omega) (by unfold okV; omega)
    generalize capZ B a (lastZ T B a d k (AtZ B a 6)) = v
    have hA2 : AO (upZ (upZ B (2084 + 48 * a + 11) 1) (2084 + 48 * a + 12) v) a := AO_set hA1 (by omega) (by omega) (by unfold okV; omega)
    have hk2 := aKeep_up (v := v) (k := 12) (a := (a : Int)) (by omega) (aKeep_up (v := 1) (k := 11) (by omega) (aKeep_rf hK) (by omega)) (by omega)
    exact ⟨AO_bookFor (by omega) hA2 (by omega) (by omega) hk2.2, (aKeep_bookFor (by omega) hk2 hA2.1 (by omega) (by omega)).2⟩
  · exact ⟨hA, hK⟩
theorem c_end13 (h : CSh M c r) (hU : RU M r nt T tr sl bu as) (hT : told3 T) (hR : RM B R) (hN : BN B) (hK : 0 ≤ B 1867 ∧ B 1867 ≤ 40) (hE : 0 ≤ B 1866 ∧ B 1866 ≤ 1000000) (ha : a < 8) (hRA : RAn T B R a) (hA : AO B a) (h9 : AtZ B a 9 = 0) {i : Int} (hi : AtZ B a 47 = i + 1) (i0 : 0 ≤ i) : ∃ R1, (fun (M13 : MemT)  => (gI M13 0 (c + 10 + 10 + 5 * a) 6).bind (fun v14 => jp (fun (s : MemT) => (fun (M16 : MemT)  => (gI M16 0 (c + 10 + 10 + 5 * a) 6).bind (fun v17 => jp (fun (s : MemT × Int32) => (fun (M19 : MemT) (v20 : Int32) => (pZ M19 0 (c + 10 + 10 + 5 * a) 8 v20).bind (fun M21 => (gI M21 0 (c + 10 + 10 + 5 * a) 1).bind (fun v22 => (pI M21 0 (c + 10 + 10 + 5 * a) 0 v22).bind (fun M23 => some ((), M23))))) s.1 s.2) (fun K18 => jp (fun (s : MemT) => (fun (M25 : MemT)  => K18 (M25, 1)) s) (fun K24 => (if v17 = ((-2)) then (gI M16 0 (c + 10 + 10 + 5 * a) 14).bind (fun v26 => (gI M16 0 (c + 10 + 10 + 5 * a) 4).bind (fun v27 => (if v26 = v27 then K24 M16 else K18 (M16, 0)))) else K24 M16))))) s) (fun K15 => jp (fun (s : MemT) => (fun (M29 : MemT)  => chk M29 2 c (bd (g_X3_bookFinal n M29 c (c + 10 + 10 + 5 * a) (zi (a : Int))) (fun r30 M31 => K15 M31))) s) (fun K28 => (if v14 = 0 then K28 M13 else (gI M13 0 (c + 10 + 10 + 5 * a) 6).bind (fun v32 => (if v32 = 1 then K28 M13 else K15 M13))))))) (WX M c R F S) = some ((), WX M c R1 F S) ∧ RM (clsF T B a i) R1 ∧ RAn T (clsF T B a i) R1 a ∧ ∀ o, o ≠ 0 → o ≠ 8 → o ≠ 9 → o ≠ 10 + 5 * a → R1 o = R o := by
  have c7 := hA.2.2.2.2.2.2.2.1
  obtain ⟨⟨r0, r1, r2, r3, r4, r5⟩, ⟨r6, r7, r8, r9, r10, r11, r12, r13, r14⟩, rr⟩ := id hRA
  have e0 : (zi (if AtZ B a 7 = 0 then -2 else AtZ B a 7 - 1) = 0) = (AtZ B a 7 - 1 = 0) := by
    by_cases z : AtZ B a 7 = 0
    · rw [if_pos z]
      exact (zi_eq (b := 0) (by omega) (by omega) (by omega) (by omega)).trans (propext ⟨fun q => by omega, fun q => by omega⟩)
    · rw [if_neg z]
      exact zi_eq (b := 0) (by omega) (by omega) (by omega) (by omega)
  have e1 : (zi (if AtZ B a 7 = 0 then -2 else AtZ B a 7 - 1) = 1) = (AtZ B a 7 - 1 = 1) := by
    by_cases z : AtZ B a 7 = 0
    · rw [if_pos z]
      exact (zi_eq (b := 1) (by omega) (by omega) (by omega) (by omega)).trans (propext ⟨fun q => by omega, fun q => by omega⟩)
    · rw [if_neg z]
      exact zi_eq (b := 1) (by omega) (by omega) (by omega) (by omega)
  have fin : (AtZ B a 7 - 1 = 0 ∨ AtZ B a 7 - 1 = 1) → ∃ R1, chk (WX M c R F S) 2 c (bd (g_X3_bookFinal n (WX M c R F S) c (c + 10 + 10 + 5 * a) (zi (a : Int))) (fun r30 M31 => (fun (M16 : MemT)  => (gI M16 0 (c + 10 + 10 + 5 * a) 6).bind (fun v17 => jp (fun (s : MemT × Int32) => (fun (M19 : MemT) (v20 : Int32) => (pZ M19 0 (c + 10 + 10 + 5 * a) 8 v20).bind (fun M21 => (gI M21 0 (c + 10 + 10 + 5 * a) 1).bind (fun v22 => (pI M21 0 (c + 10 + 10 + 5 * a) 0 v22).bind (fun M23 => some ((), M23))))) s.1 s.2) (fun K18 => jp (fun (s : MemT) => (fun (M25 : MemT)  => K18 (M25, 1)) s) (fun K24 => (if v17 = ((-2)) then (gI M16 0 (c + 10 + 10 + 5 * a) 14).bind (fun v26 => (gI M16 0 (c + 10 + 10 + 5 * a) 4).bind (fun v27 => (if v26 = v27 then K24 M16 else K18 (M16, 0)))) else K24 M16))))) M31)) = some ((), WX M c R1 F S) ∧ RM (clsF T B a i) R1 ∧ RAn T (clsF T B a i) R1 a ∧ ∀ o, o ≠ 0 → o ≠ 8 → o ≠ 9 → o ≠ 10 + 5 * a → R1 o = R o := fun hk2 => by
    obtain ⟨R2, g2, m2, n2, o2⟩ := c_bookFinal (n := n) (F := F) (S := S) (d := AtZ B a 4 - 1 - i) (k := AtZ B a 7 - 1) h hU hT hR hN hK hE ha hRA hA (by omega) rfl hk2
    obtain ⟨hA2, hK2⟩ := clsD_AO (T := T) (d := AtZ B a 4 - 1 - i) (k := AtZ B a 7 - 1) hA hK
    have hat : ∀ j : Int, 0 ≤ j → j ≠ 10 → j ≠ 11 → j ≠ 12 → AtZ (clsD T B a (AtZ B a 4 - 1 - i) (AtZ B a 7 - 1)) a j = AtZ B a j := fun j j0 j1 j2 j3 => clsD_at hA hK j0 j1 j2 j3
    obtain ⟨R3, g3, m3, n3, o3⟩ := c_end16 (F := F) (S := S) (d := AtZ B a 4 - 1 - i) (k := AtZ B a 7 - 1) h m2 hK2.2 ha n2 hA2 (by rw [hat 9 (by omega) (by omega) (by omega) (by omega)]; exact h9) (by rw [hat 4 (by omega) (by omega) (by omega) (by omega), hat 47 (by omega) (by omega) (by omega) (by omega)]; omega) (by rw [hat 7 (by omega) (by omega) (by omega) (by omega)])
    refine ⟨R3, ?_, m3, n3, fun o q0 q8 q9 qa => (o3 o qa).trans (o2 o q0 q8 q9 qa)⟩
    rw [c_kC h, g2, i_bd]
    exact g3
  dsimp only at fin ⊢
  simp only [i_jp] at fin ⊢
  rw [c_gA h ha, i_sb, r6]
  simp only [e0]
  by_cases z0 : AtZ B a 7 - 1 = 0
  · rw [if_pos z0]
    exact fin (Or.inl z0)
  · rw [if_neg z0, i_sb]
    simp only [e1]
    by_cases z1 : AtZ B a 7 - 1 = 1
    · rw [if_pos z1]
      exact fin (Or.inr z1)
    · rw [if_neg z1]
      have hD : clsD T B a (AtZ B a 4 - 1 - i) (AtZ B a 7 - 1) = B := by
        unfold clsD
        rw [if_neg (fun q => q.elim z0 z1)]
      have hF : clsF T B a i = clsE B a (AtZ B a 4 - 1 - i) (AtZ B a 7 - 1) := by
        unfold clsF
        rw [hD]
      obtain ⟨R3, g3, m3, n3, o3⟩ := c_end16 (F := F) (S := S) (d := AtZ B a 4 - 1 - i) (k := AtZ B a 7 - 1) h hR hK.2 ha hRA hA h9 (by omega) rfl
      rw [hF]
      refine ⟨R3, ?_, m3, n3, fun o q0 q8 q9 qa => o3 o qa⟩
      dsimp only at g3
      simp only [i_jp] at g3
      rw [c_gA h ha, i_sb, r6] at g3
      rw [i_sb]
      exact g3
end XINT2
