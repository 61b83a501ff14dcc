/-! ===== PURE 118: the start: the reference ===== -/
def F10 : Nat → Nat → Int32 := up2 (woF F9 141 68) 139 5 (-1)
section M63
variable {V : MemT} {n : Nat}
theorem x_init10 (hV : mN V = 139) (hZ : IZe V F9) (hn : 3000 < n) : ∃ Y S ho ha sm, g_X10_init n (nwM V 8 0) 139 = some ((), WC (YX Y (kpg (up1 (up1 (mI Y 139) 12 0) 18 0)) (kpA (up2 (plA (fun o => mI Y (142 + o)) 7) 4 8 100))) 0 (comZ st0.2.1 st0.2.2.2.1 st0.2.2.2.2.1 st0.2.2.2.2.2.1 (hdB st0.1 st0.2.2.1)) S ho ha sm) ∧ mN Y = 149 ∧ IZe Y F10 ∧ MShape Y ∧ mL Y 141 = 68 ∧ (∀ y, y < 139 → SE V Y y) ∧ RYs (up1 (up1 (mI Y 139) 12 0) 18 0) (up2 (plA (fun o => mI Y (142 + o)) 7) 4 8 100) 0 (up1 (up1 (mI Y 139) 12 0) 18 0) (up2 (plA (fun o => mI Y (142 + o)) 7) 4 8 100) st0 := by
  have n0 : mN (nwM V 8 0) = 140 := by rw [nw_N, hV]
  obtain ⟨Y1, e1⟩ : ∃ Y1, Y1 = apO (nwM V 8 0) 139 0 10 700 := ⟨_, rfl⟩
  have N1 : mN Y1 = 141 := by rw [e1, apO_N, n0]
  have Z1 : IZe Y1 F9 := by rw [e1]; exact IZ_ap (IZ_nw hZ)
  have k1 : mK Y1 139 = 8 := by rw [e1, apO_Kne (by omega), nw_Kat hV.symm]
  have k10 : mK Y1 140 = 10 := by rw [e1, apO_Kat n0.symm]
  have l10 : mL Y1 140 = 700 := by rw [e1, apO_Lat n0.symm]
  have r10 : mR Y1 139 0 = some 140 := by rw [e1, apO_Rat, n0]
  have s1 : ∀ y, y < 139 → SE V Y1 y := fun y hy => by
    rw [e1]
    exact SE_t (nw_SE (κ := 8) (l := 0) (by omega)) (apO_SE (by omega) (by omega))
  obtain ⟨Y2, e2⟩ : ∃ Y2, Y2 = woM (nwM Y1 10 68) 141 68 := ⟨_, rfl⟩
  have N2 : mN Y2 = 142 := by rw [e2]; show mN (nwM Y1 10 68) = 142; rw [nw_N, N1]
  have Z2 : IZe Y2 (woF F9 141 68) := by rw [e2]; exact IZ_wo (IZ_nw Z1) (by rw [nw_N]; omega)
  have s2 : ∀ y, y < 141 → SE Y1 Y2 y := fun y hy => by
    rw [e2]
    exact SE_t (nw_SE (κ := 10) (l := 68) (by omega)) wo_SE
  have k21 : mK Y2 141 = 10 ∧ mL Y2 141 = 68 := by
    rw [e2]
    exact ⟨nw_Kat (κ := 10) (l := 68) N1.symm, nw_Lat (κ := 10) (l := 68) N1.symm⟩
  have k2 : mK Y2 139 = 8 := (s2 139 (by omega)).1.trans k1
  obtain ⟨Y3, e3⟩ : ∃ Y3, Y3 = sI (sR Y2 139 3 (some 141)) 139 5 (-1) := ⟨_, rfl⟩
  have N3 : mN Y3 = 142 := by rw [e3]; exact N2
  have Z3 : IZe Y3 F10 := by rw [e3]; exact IZ_sI (IZ_sR Z2) (by show 139 < mN Y2; omega)
  have k3 : mK Y3 139 = 8 := by rw [e3]; exact k2
  have s3 : ∀ y, y ≠ 139 → SE Y2 Y3 y := fun y hy => by
    rw [e3]
    exact SE_t (sR_SE hy) sI_SE
  have r3 : ∀ j, j ≠ 3 → mR Y3 139 j = mR Y2 139 j := fun j hj => by
    rw [e3]
    exact if_neg (fun q => hj q.2)
  have r33 : mR Y3 139 3 = some 141 := by
    rw [e3]
    rfl
  have hS : MShape (mdA Y3) := mdA_S N3 k3 ((r3 0 (by omega)).trans (((s2 139 (by omega)).2.2 0).trans r10)) r33 ((s3 140 (by omega)).1.trans ((s2 140 (by omega)).1.trans k10)) ((s3 141 (by omega)).1.trans k21.1) ((s3 140 (by omega)).2.1.trans ((s2 140 (by omega)).2.1.trans l10))
  have Z4 : IZe (mdA Y3) F10 := IZ_mdA Z3
  have N4 : mN (mdA Y3) = 149 := by rw [mdA_N, N3]
  have s4 : ∀ y, y < 139 → SE V (mdA Y3) y := fun y hy => SE_t (s1 y hy) (SE_t (s2 y (by omega)) (SE_t (s3 y (by omega)) (mdA_lo N3 (by omega) (by omega))))
  have l4 : mL (mdA Y3) 141 = 68 := (mdA_lo N3 (by omega) (by omega)).2.1.trans ((s3 141 (by omega)).2.1.trans k21.2)
  have xm := fun (f : MemT → Option (Unit × MemT)) => x_mdA (f := f) N3 k3
  have k4 : mK (mdA Y3) 139 = 8 := hS.1
  generalize mdA Y3 = Y at *
  have hA : ∀ o k, o < 5 → (fun o => mI Y (142 + o)) o k = 0 := fun o k ho => by
    show mI Y (142 + o) k = 0
    rw [Z4.1]
    show (if 142 + o = 139 ∧ k = 5 then (-1 : Int32) else if 142 + o = 141 ∧ k < 68 then zi (WD k) else F9 (142 + o) k) = 0
    rw [if_neg (by omega), if_neg (by omega)]
    unfold F9
    rw [up2_ne (by omega), up2_ne (by omega), up2_ne (by omega), up2_ne (by omega), up2_ne (by omega), up2_ne (by omega), up2_ne (by omega)]
  have hR := RYs_s (g := mI Y 139) (A := fun o => mI Y (142 + o)) (by rw [Z4.1]; rfl) (by rw [Z4.1]; rfl) (by rw [Z4.1]; rfl) hA
  obtain ⟨S, ho, ha, sm, kt⟩ := y_keepS (n := n) hS hR st0_ok hn
  refine ⟨Y, S, ho, ha, sm, ?_, N4, Z4, hS, l4, s4, hR⟩
  have pl := y_plain (M := Y) (g := mI Y 139) (A := fun o => mI Y (142 + o)) (n := n) hS (by omega)
  rw [YX_self] at pl
  have kY : mK (YX Y (up1 (up1 (mI Y 139) 12 0) 18 0) (up2 (plA (fun o => mI Y (142 + o)) 7) 4 8 100)) 139 = 8 := k4
  unfold g_X10_init
  rw [i_apO (M := nwM V 8 0) (ci := 8) (nw_Kat hV.symm) (by omega) (fun _ _ => rfl), ← e1, nwA_at N1]
  refine Eq.trans (wo_all (M := nwM Y1 10 68) (x := 141) (nw_Kat N1.symm) (nw_Lat N1.symm)) ?_
  rw [← e2, i_pO k2, i_sb, i_pI (M := sR Y2 139 3 (some 141)) k2, i_sb, ← e3]
  refine Eq.trans (xm _) ?_
  rw [i_chk k4, pl, i_bd, i_chk kY, kt, i_bd]
end M63
