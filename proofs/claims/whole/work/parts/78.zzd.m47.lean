/-! ===== PURE 102: a text that is right, on both sides ===== -/
section M47
variable {M M6 : MemT} {r s q : Nat} {P : Nat → Nat} {old cnt tl kp nt U : Int} {T tr sl bu as B Bi : Int → Int} {Bs : Nat → Int → Int} {n len : Nat} {u : Nat → Int} {f hd F : Nat → Int32} {Z R1 A : Nat → Nat → Int32} {S : Int → Int} {σ : PSt}
theorem TSh_tx {M1 : MemT} (h : TSh M r s q) (g : ∀ y, y ≠ 0 → y ≠ 2 → y ≠ 13 → SE M M1 y) (h0 : mK M1 0 = 7 ∧ mR M1 0 0 = some 1 ∧ mR M1 0 2 = some 2 ∧ mR M1 0 3 = some r ∧ mR M1 0 4 = some 13 ∧ mR M1 0 5 = some 75) (h2 : mK M1 2 = 4 ∧ mR M1 2 12 = some 3) (hC : CSh M1 13 s) : TSh M1 s r q := by
  obtain ⟨-, ⟨b1, b2⟩, ⟨c1, c2, c3, c4⟩, hC0, hR, hC2, hrs, hq, ⟨o1, o2⟩, w1⟩ := h
  have g3 := g 3 (by omega) (by omega) (by omega)
  exact ⟨h0, ⟨(g 1 (by omega) (by omega) (by omega)).1.trans b1, (g 1 (by omega) (by omega) (by omega)).2.1.trans b2⟩, ⟨h2.1, h2.2, g3.1.trans c3, g3.2.1.trans c4⟩, hC, RSh_f hC0.2.2.2.1 (fun y h1 h2 => g y (by omega) (by omega) (by omega)), CSh_f hC2 (fun y h1 h2 => g y (by omega) (by omega) (by omega)) (fun y h1 h2 => g y (by omega) (by omega) (by omega)), by omega, by omega, ⟨(g 149 (by omega) (by omega) (by omega)).1.trans o1, (g 149 (by omega) (by omega) (by omega)).2.1.trans o2⟩, (g 141 (by omega) (by omega) (by omega)).2.1.trans w1⟩
theorem TOP_tx (h : TOP M r s q P old cnt tl kp nt T tr sl bu as B Bi Bs U) (hSE : ∀ y, y ≠ 0 → y ≠ 2 → y ≠ 13 → SE M M6 y) (hN : mN M6 = mN M) (k0 : mK M6 0 = 7) (q0 : ∀ j, mR M6 0 j = if j = 3 then some r else mR M 0 j) (h2 : mK M6 2 = 4 ∧ mR M6 2 12 = some 3) (hC : CSh M6 13 s) (hOk : ROk σ) (htr : trOk (kTr σ A)) (hZ : RZ (fun o => mI M6 (s + o)) σ.1 σ.2.1 σ.2.2.1 σ.2.2.2.1 σ.2.2.2.2.1 σ.2.2.2.2.2.1) (hRB : RBk σ.2.1 (comZ σ.2.1 σ.2.2.2.1 σ.2.2.2.2.1 σ.2.2.2.2.2.1 (hdB σ.1 σ.2.2.1)) σ.1 (rows M6 23)) (hMO : MOk M6 0 σ.1 (kT σ A) (kTr σ A) (kSl σ A) (kBu σ A) (kAs σ A)) (hb : BkI M6 0 (comZ σ.2.1 σ.2.2.2.1 σ.2.2.2.2.1 σ.2.2.2.2.2.1 (hdB σ.1 σ.2.2.1))) (hTI : TI M6 old 0 0 0) : TopE M6 U := by
  obtain ⟨tS, hP, hD, -⟩ := h
  have hUU := hD.2.2.2.2.2
  refine ⟨s, r, q, P, old, 0, 0, 0, σ.1, kT σ A, kTr σ A, kSl σ A, kBu σ A, kAs σ A, comZ σ.2.1 σ.2.2.2.1 σ.2.2.2.2.1 σ.2.2.2.2.2.1 (hdB σ.1 σ.2.2.1), fun _ => 0, fun _ _ => 0, TSh_tx tS hSE ⟨k0, ?_, ?_, ?_, ?_, ?_⟩ h2 hC, PGe_0 hP (by omega) ⟨k0, ?_, ?_⟩ hSE, kTD hOk htr hUU, RZ_cg (Z := fun o => mI M6 (s + o)) hZ kT_e kTr_e kSl_e kBu_e kAs_e, RBk_cg hRB kT_e, kBI hOk hUU.1, hMO, hb, hTI, fun i hi => absurd hi (by omega), fun hk => absurd hk (by omega)⟩
  · rw [q0, if_neg (by omega)]; exact tS.1.2.1
  · rw [q0, if_neg (by omega)]; exact tS.1.2.2.1
  · rw [q0, if_pos rfl]
  · rw [q0, if_neg (by omega)]; exact tS.1.2.2.2.2.1
  · rw [q0, if_neg (by omega)]; exact tS.1.2.2.2.2.2
  · rw [q0, if_neg (by omega)]
  · rw [q0, if_neg (by omega)]
theorem txE_q0 (j : Nat) : mR (txE M r s f hd Z R1 F S) 0 j = if j = 3 then some r else mR M 0 j := by
  show (if 0 = 13 ∧ j = 0 then some s else if 0 = 0 ∧ j = 3 then some r else if 0 = 2 ∧ j = 4 then some s else if 0 = 2 ∧ j = 2 then some 1 else mR M 0 j) = _
  rw [if_neg (by omega)]
  by_cases c3 : j = 3
  · rw [if_pos ⟨rfl, c3⟩, if_pos c3]
  · rw [if_neg (fun q => c3 q.2), if_neg (by omega), if_neg (by omega), if_neg c3]
theorem txE_S (y : Nat) (y0 : y ≠ 0) (y2 : y ≠ 2) (y3 : y ≠ 13) : SE M (txE M r s f hd Z R1 F S) y := by
  have hh : SE M (sR (txM M r s f hd Z) 13 0 (some s)) y := SE_t (txM_S y0 y2) (sR_SE y3)
  exact ⟨hh.1, hh.2.1, hh.2.2⟩
theorem txE_I (y k : Nat) : mI (txE M r s f hd Z R1 F S) y k = if y = 0 ∧ k = 8 then 0 else if y = 137 ∧ k = 0 then 0 else if 23 ≤ y ∧ y < 73 then R1 (y - 23) k else if y = 73 then F k else if y = 2 then f k else if y = 3 then hd k else if s ≤ y ∧ y < s + 9 then Z (y - s) k else if y = 0 ∧ k = 1 then 0 else mI M y k := rfl
theorem txE_C (tS : TSh M r s q) : CSh (txE M r s f hd Z R1 F S) 13 s := CSh_f (M := sR (txM M r s f hd Z) 13 0 (some s)) (txM_C tS) (fun y _ _ => ⟨rfl, rfl, fun _ => rfl⟩) (fun y _ _ => ⟨rfl, rfl, fun _ => rfl⟩)
theorem txE_K {y : Nat} : mK (txE M r s f hd Z R1 F S) y = mK M y := rfl
theorem txE_2 (tS : TSh M r s q) : mK (txE M r s f hd Z R1 F S) 2 = 4 ∧ mR (txE M r s f hd Z R1 F S) 2 12 = some 3 := ⟨tS.2.2.1.1, tS.2.2.1.2.1⟩
theorem txE_N : mN (txE M r s f hd Z R1 F S) = mN M := rfl
end M47
