/-! ===== PURE 74c: chance ===== -/
section M19c
variable {M M1 : MemT} {r s q : Nat} {P : Nat → Nat} {old cnt tl kp nt U : Int} {T tr sl bu as B Bi : Int → Int} {Bs : Nat → Int → Int} {n : Nat}
theorem ch_M (h : TOP M r s q P old cnt tl kp nt T tr sl bu as B Bi Bs U) (hU2 : U ≤ 90000000) (hn : 100000010 < n) {sd k t : Int} (sd1 : -2147483648 ≤ sd) (sd2 : sd ≤ 2147483647) (k1 : -2147483648 ≤ k) (k2 : k ≤ 2147483647) (t1 : -2147483648 ≤ t) (t2 : t ≤ 2147483647) (C : -1 ≤ sd ∧ (1 ≤ k ∧ k ≤ 8) ∧ B 0 + k ≤ 63 ∧ (0 ≤ t ∧ t < nt)) : ∃ M2, g_X10_chance n M 139 (zi sd) (zi k) (zi t) = some (zi (dS (chI T tr sl bu as nt t B (if sd = -1 then Int32.toInt64 (zi (T 3)) else Int32.toInt64 (zi sd)) k.toNat).1 B t 4), M2) ∧ TOP M2 r s q P old cnt tl kp nt T tr sl bu as B Bi Bs U := by
  have hD := h.2.2.1
  have hnt4 := hD.1
  obtain ⟨n1, n2⟩ := h.2.2.2.2.2.1.2.1
  have k7 := h.1.1.1
  have k8 := h.2.2.2.2.2.2.1.1.1
  have esd : (zi sd < (-1 : Int32)) = (sd < -1) := zi_lt (b := -1) (by omega) (by omega) (by omega) (by omega)
  have esq : (zi sd = (-1 : Int32)) = (sd = -1) := zi_eq (b := -1) (by omega) (by omega) (by omega) (by omega)
  have es0 : ((0 : Int32) ≤ zi sd) = (0 ≤ sd) := zi_le (a := 0) (by omega) (by omega) (by omega) (by omega)
  have mi1 : ∀ M1, g_X10_isIn n M1 (zi k) 1 8 = some (bI2 (1 ≤ k ∧ k ≤ 8), M1) := fun M1 => m_isIn2 (a := 1) (b := 8) k1 k2 (by omega) (by omega) (by omega) (by omega)
  have m63 : 1 ≤ k ∧ k ≤ 8 → (zi (B 0) + zi k ≤ 63) = (B 0 + k ≤ 63) := fun c => by
    rw [zi_add]
    exact zi_le (b := 63) (by omega) (by omega) (by omega) (by omega)
  obtain ⟨c0, c1, c2, c3⟩ := C
  have p1 : pI M 8 139 2 0 = some (sI M 139 2 0) := i_pI k8
  have hT1' := top_M0 h
  generalize hv0 : (if sd = -1 then Int32.toInt64 (zi (T 3)) else Int32.toInt64 (zi sd)) = v0
  generalize sI M 139 2 0 = Y at p1 hT1'
  have mof : g_X10_of n Y 139 0 = some (zi (B 0), Y) := bk_of (k := 0) hT1'.2.2.2.2.2.2.1 hT1'.2.2.2.2.2.2.2.1 (by omega) (by omega)
  have k81 : mK Y 139 = 8 := hT1'.2.2.2.2.2.2.1.1.1
  have hTJ : TOP (sJ Y 139 28 v0) r s q P old cnt tl kp nt T tr sl bu as B Bi Bs U := TOP_f hT1' (Nat.le_refl _) (fun _ _ => ⟨rfl, rfl, fun _ => rfl⟩) (fun _ _ _ _ => rfl)
  obtain ⟨ga, hO1, hb1, hfin⟩ := asN_r (n := n) hTJ (by omega)
  obtain ⟨S0, ho0, ha0, sm0, eM⟩ := WC_selfb (b := 1) (by omega) hb1
  have eJ := asN_J (Y := Y) (v := v0)
  have kJ : mK (sJ Y 139 28 v0) 139 = 8 := k81
  have pj : pJ Y 8 139 28 v0 = some (sJ Y 139 28 v0) := i_pJ k81
  generalize sJ Y 139 28 v0 = Z at ga hO1 hb1 hfin eM eJ hTJ kJ pj
  generalize asN Z = N at ga hO1 hb1 hfin eM eJ
  obtain ⟨S2, ho2, ha2, sm2, gm⟩ := m_ch (N := N) (n := n) (S := S0) (ho := ho0) (ha := ha0) (sm := sm0) (U := U) hO1 hD.2.1 hD.2.2.1 hD.2.2.2.1 hD.2.2.2.2.1 hD.1 ⟨hD.2.2.2.2.2.1, hU2⟩ h.2.2.2.2.2.1 (by omega) c3.1 (by omega) v0 (show 0 ≤ k by omega) c1.2 c2
  rw [eJ, eM] at gm
  generalize (chI T tr sl bu as nt t B v0 k.toNat).1 = CB at gm ⊢
  generalize (chI T tr sl bu as nt t B v0 k.toNat).2 = Cv at gm
  have hfin2 : TOP (sI (WC (sJ N 139 28 Cv) 1 CB S2 ho2 ha2 sm2) 139 21 0) r s q P old cnt tl kp nt T tr sl bu as B Bi Bs U := TOP_f (hfin _ S2 ho2 ha2 sm2 CB rfl) (Nat.le_refl _) (fun _ _ => ⟨rfl, rfl, fun _ => rfl⟩) (fun _ _ _ _ => rfl)
  refine ⟨_, ?_, hfin2⟩
  have hO0 := hT1'.2.2.2.2.2.2.1
  have e17 : gO Y 8 139 17 = some 146 := i_gO hO0.1.1 hO0.1.2.1.2.2.2.2.2.2.1
  have eT3 : aI Y 10 146 3 = some (zi (T 3)) := by
    have q1 := i_aI (M := Y) (x := 146) (k := 3) (N := 14) hO0.1.2.2.1.2.2.2.2.2.2.1 (by rw [hO0.1.2.2.2.2.2.2.2.2.1]; rfl) (by omega) (by omega) (by omega)
    exact q1.trans (congrArg some (hO0.2.2.2.2.1 3 (by omega) (by omega)))
  have tB := m_tot (n := n) (B := B) (S := S0) (ho := ho0) (ha := ha0) (sm := sm0) hO1 c3.1 (show t < 4 by omega)
  rw [eM] at tB
  have tC := m_tot (M := sJ N 139 28 Cv) (n := n) (B := CB) (S := S2) (ho := ho2) (ha := ha2) (sm := sm2) hO1 c3.1 (show t < 4 by omega)
  unfold g_X10_chance
  dsimp only at gm
  rw [p1, i_sb, if_neg (by rw [esd]; omega), mi1, i_bd, if_neg (bz_t c1), i_chk k81, top_mtr hT1' t1 t2, i_bd, if_neg (bz_t c3), i_chk k81, mof, i_bd, if_pos (by rw [m63 c1]; exact c2), i_jp]
  have hd : CB (2068 + 4 * t) + CB (2068 + 4 * t + 1) + CB (2068 + 4 * t + 2) + CB (2068 + 4 * t + 3) - (B (2068 + 4 * t) + B (2068 + 4 * t + 1) + B (2068 + 4 * t + 2) + B (2068 + 4 * t + 3)) = dS CB B t 4 := by
    show _ = 0 + (CB (2068 + 4 * t + ((0 : Nat) : Int)) - B (2068 + 4 * t + ((0 : Nat) : Int))) + (CB (2068 + 4 * t + ((1 : Nat) : Int)) - B (2068 + 4 * t + ((1 : Nat) : Int))) + (CB (2068 + 4 * t + ((2 : Nat) : Int)) - B (2068 + 4 * t + ((2 : Nat) : Int))) + (CB (2068 + 4 * t + ((3 : Nat) : Int)) - B (2068 + 4 * t + ((3 : Nat) : Int)))
    rw [show 2068 + 4 * t + ((0 : Nat) : Int) = 2068 + 4 * t by omega, show (((1 : Nat) : Int)) = 1 from rfl, show (((2 : Nat) : Int)) = 2 from rfl, show (((3 : Nat) : Int)) = 3 from rfl]
    omega
  have fin : ∀ v, v = v0 → (pJ Y 8 139 28 v).bind (fun M11 => chk M11 8 139 (bd (g_X10_asNow n M11 139) (fun r12 M13 => chk M13 8 139 (bd (g_X10_totalOf n M13 139 (zi t)) (fun r14 M15 => (loopF (fun (s : MemT × Int32) => (fun (M16 : MemT) (v17 : Int32) => (if zi k ≤ v17 then some (.inr (M16, v17)) else chk M16 8 139 (bd (g_X10_of n M16 139 0) (fun r19 M20 => chk M20 8 139 (bd (g_X10_sumAt n M20 139 (zi t) r19 0) (fun r21 M22 => chk M22 8 139 (bd (g_X10_draw n M22 139 1000) (fun r23 M24 => chk M24 8 139 (bd (g_X10_add n M24 139 r21 r23) (fun r25 M26 => chk M26 8 139 (bd (g_X10_of n M26 139 0) (fun r27 M28 => chk M28 8 139 (bd (g_X10_sumAt n M28 139 (zi t) r27 1) (fun r29 M30 => chk M30 8 139 (bd (g_X10_draw n M30 139 1000) (fun r31 M32 => chk M32 8 139 (bd (g_X10_add n M32 139 r29 r31) (fun r33 M34 => chk M34 8 139 (bd (g_X10_closesQuarter n M34 139) (fun r35 M36 => some (.inl (M36, v17 + 1)))))))))))))))))))))) s.1 s.2) n (M15, 0)).bind (fun (s : MemT × Int32) => (fun (M37 : MemT) (v38 : Int32) => chk M37 8 139 (bd (g_X10_totalOf n M37 139 (zi t)) (fun r39 M40 => (pI M40 8 139 21 0).bind (fun M41 => some (r39 - r14, M41))))) s.1 s.2)))))) = some (zi (dS CB B t 4), sI (WC (sJ N 139 28 Cv) 1 CB S2 ho2 ha2 sm2) 139 21 0) := fun v hv => by
    rw [hv, pj, i_sb, i_chk kJ, ga, i_bd, i_chk hO1.1.1, tB, i_bd, gm, i_sb]
    dsimp only
    rw [i_chk (M := WC (sJ N 139 28 Cv) 1 CB S2 ho2 ha2 sm2) hO1.1.1, tC, i_bd, i_pI (M := WC (sJ N 139 28 Cv) 1 CB S2 ho2 ha2 sm2) hO1.1.1, i_sb, zi_sub, hd]
  by_cases cs : sd = -1
  · rw [if_pos cs] at hv0
    rw [if_neg (by rw [es0]; omega), e17, i_sb, eT3, i_sb]
    exact fin _ hv0
  · rw [if_neg cs] at hv0
    rw [if_pos (by rw [es0]; omega)]
    exact fin _ hv0
end M19c
