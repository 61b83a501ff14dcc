/-! ===== PURE 115: the start: the component ===== -/
def F9 : Nat → Nat → Int32 := up2 (up2 (up2 (up2 (up2 (up2 (up2 (fun _ _ => 0) 2 1 (-1)) 4 7 0) 4 8 100) 14 7 0) 14 8 100) 76 7 0) 76 8 100
theorem nwO_at {β : Type} {M : MemT} {c N : Nat} {F : Nat → MemT → Option β} (h : mN M = N) : nwO M c F = F N (nwM M c 0) := by
  subst h
  rfl
theorem nwA_at {β : Type} {M : MemT} {κ l N : Nat} {F : Nat → MemT → Option β} (h : mN M = N) : nwA M κ l F = F N (nwM M κ l) := by
  subst h
  rfl
theorem fld_at {M W : MemT} {N j a : Nat} (hS : ∀ y, y < N → SE M W y) (h0 : 0 < N) : (∀ y, y < N → y ≠ 0 → SE M (sR W 0 j (some a)) y) ∧ mK (sR W 0 j (some a)) 0 = mK M 0 ∧ ∀ k, mR (sR W 0 j (some a)) 0 k = if k = j then some a else mR M 0 k := by
  refine ⟨fun y h1 h2 => SE_t (hS y h1) (sR_SE h2), (hS 0 h0).1, fun k => ?_⟩
  show (if 0 = 0 ∧ k = j then some a else mR W 0 k) = _
  by_cases c : k = j
  · rw [if_pos ⟨rfl, c⟩, if_pos c]
  · rw [if_neg (fun q => c q.2), if_neg c, (hS 0 h0).2.2]
theorem IZ_0 : IZe (nwM Mz 7 0) (fun _ _ => 0) := IZ_nw ⟨fun _ _ => rfl, fun _ _ _ => rfl⟩
section M60
variable {n : Nat}
theorem x_init9 : ∃ V, g_X9_init n (nwM Mz 7 0) 0 = some ((), V) ∧ mN V = 139 ∧ IZe V F9 ∧ (mK V 0 = 7 ∧ mR V 0 0 = some 1 ∧ mR V 0 2 = some 2 ∧ mR V 0 3 = some 4 ∧ mR V 0 4 = some 13 ∧ mR V 0 5 = some 75) ∧ (mR V 0 6 = some 137 ∧ mR V 0 7 = none) ∧ (mK V 1 = 11 ∧ mL V 1 = 700) ∧ (mK V 2 = 4 ∧ mR V 2 12 = some 3 ∧ mK V 3 = 12 ∧ mL V 3 = 4) ∧ CSh V 13 14 ∧ RSh V 4 ∧ CSh V 75 76 ∧ (mK V 137 = 3 ∧ mR V 137 2 = some 138 ∧ mK V 138 = 15 ∧ mL V 138 = 20 ∧ ∀ i, mR V 138 i = none) := by
  obtain ⟨V1, e1⟩ : ∃ V1, V1 = apO (nwM Mz 7 0) 0 0 11 700 := ⟨_, rfl⟩
  have N1 : mN V1 = 2 := by rw [e1]; rfl
  have Z1 : IZe V1 (fun _ _ => 0) := by rw [e1]; exact IZ_ap IZ_0
  have k1 : mK V1 0 = 7 := by rw [e1]; rfl
  have k11 : mK V1 1 = 11 ∧ mL V1 1 = 700 := by rw [e1]; exact ⟨rfl, rfl⟩
  have r1 : mR V1 0 0 = some 1 ∧ mR V1 0 7 = none := by rw [e1]; exact ⟨rfl, rfl⟩
  obtain ⟨V2, e2⟩ : ∃ V2, V2 = sR (apO (sI (nwM V1 4 0) 2 1 (-1)) 2 12 12 4) 0 2 (some 2) := ⟨_, rfl⟩
  have s2 : ∀ y, y < 2 → SE V1 (apO (sI (nwM V1 4 0) 2 1 (-1)) 2 12 12 4) y := fun y hy => SE_t (nw_SE (κ := 4) (l := 0) (by omega)) (SE_t (sI_SE (x := 2) (k := 1) (v := -1)) (apO_SE (by rw [sI_N, nw_N]; omega) (by omega)))
  obtain ⟨S2, k2, r2⟩ := fld_at (j := 2) (a := 2) s2 (by omega)
  have c2 : mK (apO (sI (nwM V1 4 0) 2 1 (-1)) 2 12 12 4) 0 = 7 := (s2 0 (by omega)).1.trans k1
  rw [← e2] at S2 k2 r2
  have N2 : mN V2 = 4 := by rw [e2]; show mN V1 + 1 + 1 = 4; rw [N1]
  have Z2 : IZe V2 (up2 (fun _ _ => 0) 2 1 (-1)) := by rw [e2]; exact IZ_sR (IZ_ap (IZ_sI (IZ_nw Z1) (by rw [nw_N]; omega)))
  have m2 : mK V2 2 = 4 ∧ mR V2 2 12 = some 3 ∧ mK V2 3 = 12 ∧ mL V2 3 = 4 := by
    have q3 : mN (sI (nwM V1 4 0) 2 1 (-1)) = 3 := by rw [sI_N, nw_N, N1]
    rw [e2]
    refine ⟨?_, ?_, ?_, ?_⟩
    · show mK (apO (sI (nwM V1 4 0) 2 1 (-1)) 2 12 12 4) 2 = 4
      rw [apO_Kne (by omega), sI_K, nw_Kat N1.symm]
    · have h : mR (apO (sI (nwM V1 4 0) 2 1 (-1)) 2 12 12 4) 2 12 = some (mN (sI (nwM V1 4 0) 2 1 (-1))) := apO_Rat
      rw [q3] at h
      exact ((sR_SE (x := 0) (k := 2) (v := some 2) (y := 2) (by omega)).2.2 12).trans h
    · show mK (apO (sI (nwM V1 4 0) 2 1 (-1)) 2 12 12 4) 3 = 12
      exact apO_Kat q3.symm
    · show mL (apO (sI (nwM V1 4 0) 2 1 (-1)) 2 12 12 4) 3 = 4
      exact apO_Lat q3.symm
  obtain ⟨V3, e3⟩ : ∃ V3, V3 = sR (W7 (nwM V2 6 0) 4) 0 3 (some 4) := ⟨_, rfl⟩
  have n3 : mN (nwM V2 6 0) = 4 + 1 := by rw [nw_N, N2]
  have s3 : ∀ y, y < 4 → SE V2 (W7 (nwM V2 6 0) 4) y := fun y hy => SE_t (nw_SE (κ := 6) (l := 0) (by omega)) (W7_S n3 hy)
  obtain ⟨S3, k3, r3⟩ := fld_at (j := 3) (a := 4) s3 (by omega)
  have c3 : mK (W7 (nwM V2 6 0) 4) 0 = 7 := (s3 0 (by omega)).1.trans (k2.trans k1)
  have R3 : RSh V3 4 := by
    rw [e3]
    exact RSh_f (RSh_W7 (nw_Kat N2.symm) n3) (fun y h1 h2 => sR_SE (by omega))
  rw [← e3] at S3 k3 r3
  have N3 : mN V3 = 13 := by rw [e3]; show mN (W7 (nwM V2 6 0) 4) = 13; rw [W7_N, n3]
  have Z3 := IZ_sR (x := 0) (k := 3) (o := some 4) (IZ_W7 (IZ_nw (κ := 6) (l := 0) Z2) n3)
  rw [← e3] at Z3
  obtain ⟨V4, e4⟩ : ∃ V4, V4 = sR (W3 (nwM V3 2 0) 13) 0 4 (some 13) := ⟨_, rfl⟩
  have n4 : mN (nwM V3 2 0) = 13 + 1 := by rw [nw_N, N3]
  have s4 : ∀ y, y < 13 → SE V3 (W3 (nwM V3 2 0) 13) y := fun y hy => SE_t (nw_SE (κ := 2) (l := 0) (by omega)) (W3_S (by omega) (by omega))
  obtain ⟨S4, k4, r4⟩ := fld_at (j := 4) (a := 13) s4 (by omega)
  have c4 : mK (W3 (nwM V3 2 0) 13) 0 = 7 := (s4 0 (by omega)).1.trans (k3.trans (k2.trans k1))
  have C4 : CSh V4 13 14 := by
    rw [e4]
    exact CSh_f (W3_C (nw_Kat N3.symm) n4) (fun y h1 h2 => sR_SE (by omega)) (fun y h1 h2 => sR_SE (by omega))
  rw [← e4] at S4 k4 r4
  have N4 : mN V4 = 75 := by rw [e4]; show mN (W3 (nwM V3 2 0) 13) = 75; rw [W3_N, n4]
  have Z4 := IZ_sR (x := 0) (k := 4) (o := some 13) (IZ_W3 (IZ_nw (κ := 2) (l := 0) Z3) n4)
  rw [← e4] at Z4
  obtain ⟨V5, e5⟩ : ∃ V5, V5 = sR (W3 (nwM V4 2 0) 75) 0 5 (some 75) := ⟨_, rfl⟩
  have n5 : mN (nwM V4 2 0) = 75 + 1 := by rw [nw_N, N4]
  have s5 : ∀ y, y < 75 → SE V4 (W3 (nwM V4 2 0) 75) y := fun y hy => SE_t (nw_SE (κ := 2) (l := 0) (by omega)) (W3_S (by omega) (by omega))
  obtain ⟨S5, k5, r5⟩ := fld_at (j := 5) (a := 75) s5 (by omega)
  have c5 : mK (W3 (nwM V4 2 0) 75) 0 = 7 := (s5 0 (by omega)).1.trans (k4.trans (k3.trans (k2.trans k1)))
  have C5 : CSh V5 75 76 := by
    rw [e5]
    exact CSh_f (W3_C (nw_Kat N4.symm) n5) (fun y h1 h2 => sR_SE (by omega)) (fun y h1 h2 => sR_SE (by omega))
  rw [← e5] at S5 k5 r5
  have N5 : mN V5 = 137 := by rw [e5]; show mN (W3 (nwM V4 2 0) 75) = 137; rw [W3_N, n5]
  have Z5 := IZ_sR (x := 0) (k := 5) (o := some 75) (IZ_W3 (IZ_nw (κ := 2) (l := 0) Z4) n5)
  rw [← e5] at Z5
  obtain ⟨V6, e6⟩ : ∃ V6, V6 = sR (apO (nwM V5 3 0) 137 2 15 20) 0 6 (some 137) := ⟨_, rfl⟩
  have n6 : mN (nwM V5 3 0) = 138 := by rw [nw_N, N5]
  have s6 : ∀ y, y < 137 → SE V5 (apO (nwM V5 3 0) 137 2 15 20) y := fun y hy => SE_t (nw_SE (κ := 3) (l := 0) (by omega)) (apO_SE (by omega) (by omega))
  obtain ⟨S6, k6, r6⟩ := fld_at (j := 6) (a := 137) s6 (by omega)
  have c6 : mK (apO (nwM V5 3 0) 137 2 15 20) 0 = 7 := (s6 0 (by omega)).1.trans (k5.trans (k4.trans (k3.trans (k2.trans k1))))
  rw [← e6] at S6 k6 r6
  have N6 : mN V6 = 139 := by rw [e6]; show mN (nwM V5 3 0) + 1 = 139; rw [n6]
  have Z6 := IZ_sR (x := 0) (k := 6) (o := some 137) (IZ_ap (x := 137) (k := 2) (κ := 15) (l := 20) (IZ_nw (κ := 3) (l := 0) Z5))
  rw [← e6] at Z6
  have m6 : mK V6 137 = 3 ∧ mR V6 137 2 = some 138 ∧ mK V6 138 = 15 ∧ mL V6 138 = 20 ∧ ∀ i, mR V6 138 i = none := by
    rw [e6]
    refine ⟨?_, ?_, ?_, ?_, fun i => ?_⟩
    · show mK (apO (nwM V5 3 0) 137 2 15 20) 137 = 3
      rw [apO_Kne (by omega), nw_Kat N5.symm]
    · have h : mR (apO (nwM V5 3 0) 137 2 15 20) 137 2 = some (mN (nwM V5 3 0)) := apO_Rat
      rw [n6] at h
      exact ((sR_SE (x := 0) (k := 6) (v := some 137) (y := 137) (by omega)).2.2 2).trans h
    · show mK (apO (nwM V5 3 0) 137 2 15 20) 138 = 15
      exact apO_Kat n6.symm
    · show mL (apO (nwM V5 3 0) 137 2 15 20) 138 = 20
      exact apO_Lat n6.symm
    · show (if 138 = 0 ∧ i = 6 then some 137 else if 138 = 137 ∧ i = 2 then some (mN (nwM V5 3 0)) else if 138 = mN (nwM V5 3 0) then none else mR (nwM V5 3 0) 138 i) = none
      rw [if_neg (by omega), if_neg (by omega), if_pos n6.symm]
  refine ⟨V6, ?_, N6, Z6, ⟨?_, ?_, ?_, ?_, ?_, ?_⟩, ⟨?_, ?_⟩, ?_, ?_, ?_, ?_, ?_, m6⟩
  · unfold g_X9_init
    rw [i_apO (M := nwM Mz 7 0) (ci := 7) rfl (by decide) (fun _ _ => rfl), ← e1, nwO_at N1, x_init5 (nw_Kat N1.symm) (by rw [nw_N]; omega), i_bd, i_pO c2, i_sb, ← e2, nwO_at N2, x_init7 (nw_Kat N2.symm) n3, i_bd, i_pO c3, i_sb, ← e3, nwO_at N3, x_init3 (nw_Kat N3.symm) (by omega), i_bd, i_pO c4, i_sb, ← e4, nwO_at N4, x_init3 (nw_Kat N4.symm) (by omega), i_bd, i_pO c5, i_sb, ← e5, nwO_at N5, x_init4 (nw_Kat N5.symm) (by omega), i_bd, i_pO c6, i_sb, ← e6]
  · exact k6.trans (k5.trans (k4.trans (k3.trans (k2.trans k1))))
  · rw [r6, if_neg (by omega), r5, if_neg (by omega), r4, if_neg (by omega), r3, if_neg (by omega), r2, if_neg (by omega)]
    exact r1.1
  · rw [r6, if_neg (by omega), r5, if_neg (by omega), r4, if_neg (by omega), r3, if_neg (by omega), r2, if_pos rfl]
  · rw [r6, if_neg (by omega), r5, if_neg (by omega), r4, if_neg (by omega), r3, if_pos rfl]
  · rw [r6, if_neg (by omega), r5, if_neg (by omega), r4, if_pos rfl]
  · rw [r6, if_neg (by omega), r5, if_pos rfl]
  · rw [r6, if_pos rfl]
  · rw [r6, if_neg (by omega), r5, if_neg (by omega), r4, if_neg (by omega), r3, if_neg (by omega), r2, if_neg (by omega)]
    exact r1.2
  · have t1 : SE V1 V6 1 := SE_t (S2 1 (by omega) (by omega)) (SE_t (S3 1 (by omega) (by omega)) (SE_t (S4 1 (by omega) (by omega)) (SE_t (S5 1 (by omega) (by omega)) (S6 1 (by omega) (by omega)))))
    exact ⟨t1.1.trans k11.1, t1.2.1.trans k11.2⟩
  · have t2 : ∀ y, y < 4 → y ≠ 0 → SE V2 V6 y := fun y y4 y0 => SE_t (S3 y y4 y0) (SE_t (S4 y (by omega) y0) (SE_t (S5 y (by omega) y0) (S6 y (by omega) y0)))
    have t22 := t2 2 (by omega) (by omega)
    have t23 := t2 3 (by omega) (by omega)
    exact ⟨t22.1.trans m2.1, (t22.2.2 _).trans m2.2.1, t23.1.trans m2.2.2.1, t23.2.1.trans m2.2.2.2⟩
  · have t4 : ∀ y, y < 75 → y ≠ 0 → SE V4 V6 y := fun y y4 y0 => SE_t (S5 y y4 y0) (S6 y (by omega) y0)
    exact CSh_f C4 (fun y h1 h2 => t4 y (by omega) (by omega)) (fun y h1 h2 => t4 y (by omega) (by omega))
  · have t3 : ∀ y, y < 13 → y ≠ 0 → SE V3 V6 y := fun y y4 y0 => SE_t (S4 y y4 y0) (SE_t (S5 y (by omega) y0) (S6 y (by omega) y0))
    exact RSh_f R3 (fun y h1 h2 => t3 y (by omega) (by omega))
  · exact CSh_f C5 (fun y h1 h2 => S6 y (by omega) (by omega)) (fun y h1 h2 => S6 y (by omega) (by omega))
end M60
