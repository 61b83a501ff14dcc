/-! ===== PURE 119: the start: both sides stand alike; the law ===== -/
section M64
variable {V Y M6 M9 : MemT} {S : Int → Int} {ho ha : Int} {sm : Int32} {g : Nat → Int32} {A : Nat → Nat → Int32} {n y k : Nat}
theorem F9_z (h : ¬ (y = 2 ∧ k = 1)) (h2 : ¬ ((y = 4 ∨ y = 14 ∨ y = 76) ∧ k = 8)) : F9 y k = 0 := by
  unfold F9 up2
  repeat' split
  all_goals first | rfl | (exfalso; omega)
theorem com_0 (k : Int) : comZ st0.2.1 st0.2.2.2.1 st0.2.2.2.2.1 st0.2.2.2.2.2.1 (hdB st0.1 st0.2.2.1) k = 0 := by
  have t4 : (st0.2.1 4).toNat = 0 := by decide
  have t5 : (st0.2.1 5).toNat = 0 := by decide
  have t6 : (st0.2.1 6).toNat = 0 := by decide
  unfold comZ
  rw [t4, t5, t6]
  show hdB 0 st0.2.2.1 k = 0
  exact if_neg (by omega)
theorem RBk_0 {T B : Int → Int} {R : Nat → Nat → Int32} (hB : ∀ k, B k = 0) (hR : ∀ o k, o < 50 → R o k = 0) : RBk T B 0 R := by
  refine ⟨⟨⟨?_, ?_, ?_⟩, fun k h0 h1 => ?_, fun k h0 h1 => ?_, fun k h0 h1 => ?_, fun k h0 h1 => ?_, fun k h0 h1 => ?_, fun k w h0 h1 => ?_⟩, fun t h0 h1 => absurd h1 (by omega), fun a ha => ?_⟩
  · rw [hB, hR _ _ (by omega)]; rfl
  · rw [hB, hR _ _ (by omega)]; rfl
  · rw [hB, hR _ _ (by omega)]; rfl
  · rw [hB, hR _ _ (by omega)]; rfl
  · rw [hB, hR _ _ (by omega)]; rfl
  · rw [hB, hR _ _ (by omega)]; rfl
  · rw [hB, hR _ _ (by omega)]; rfl
  · rw [hB, hR _ _ (by omega)]; rfl
  · rw [hB] at h1; omega
  · rw [hB] at ha; omega
theorem top_0 (q0 : mK V 0 = 7 ∧ mR V 0 0 = some 1 ∧ mR V 0 2 = some 2 ∧ mR V 0 3 = some 4 ∧ mR V 0 4 = some 13 ∧ mR V 0 5 = some 75) (q1 : mR V 0 6 = some 137 ∧ mR V 0 7 = none) (q2 : mK V 1 = 11 ∧ mL V 1 = 700) (q3 : mK V 2 = 4 ∧ mR V 2 12 = some 3 ∧ mK V 3 = 12 ∧ mL V 3 = 4) (q4 : CSh V 13 14) (q5 : RSh V 4) (q6 : CSh V 75 76) (q7 : mK V 137 = 3 ∧ mR V 137 2 = some 138 ∧ mK V 138 = 15 ∧ mL V 138 = 20 ∧ ∀ i, mR V 138 i = none) (l1 : mL Y 141 = 68) (sV : ∀ y, y < 139 → SE V M9 y) (sY : ∀ y, y ≠ 149 → SE Y M9 y) (n9 : mN M9 = 150) (k9 : mK M9 149 = 13 ∧ mL M9 149 = 1) (lo : ∀ y k, y < 139 → mI M9 y k = F9 y k) (i40 : ∀ k, mI M9 140 k = 0) (i41 : ∀ k, k < 68 → mI M9 141 k = zi (WD k)) (i39 : ∀ k, k ≠ 27 → mI M9 139 k = kpg g k) (i42 : ∀ k, mI M9 142 k = kpA A 0 k) (hMO : MOk M9 0 st0.1 (kT st0 A) (kTr st0 A) (kSl st0 A) (kBu st0 A) (kAs st0 A)) (hb : BkI M9 0 (comZ st0.2.1 st0.2.2.2.1 st0.2.2.2.2.1 st0.2.2.2.2.2.1 (hdB st0.1 st0.2.2.1))) (hR : RYs g A 0 g A st0) (h1 : g 1 = 0) : TopE M9 2000000 := by
  have f0 := sV 0 (by omega)
  have f1 := sV 1 (by omega)
  have f2 := sV 2 (by omega)
  have f3 := sV 3 (by omega)
  have f137 := sV 137 (by omega)
  have f138 := sV 138 (by omega)
  have lz : ∀ y k, y < 139 → ¬ (y = 2 ∧ k = 1) → ¬ ((y = 4 ∨ y = 14 ∨ y = 76) ∧ k = 8) → mI M9 y k = zi 0 := fun y k a b c => (lo y k a).trans (F9_z b c)
  have hTS : TSh M9 14 4 76 := ⟨⟨f0.1.trans q0.1, (f0.2.2 _).trans q0.2.1, (f0.2.2 _).trans q0.2.2.1, (f0.2.2 _).trans q0.2.2.2.1, (f0.2.2 _).trans q0.2.2.2.2.1, (f0.2.2 _).trans q0.2.2.2.2.2⟩, ⟨f1.1.trans q2.1, f1.2.1.trans q2.2⟩, ⟨f2.1.trans q3.1, (f2.2.2 _).trans q3.2.1, f3.1.trans q3.2.2.1, f3.2.1.trans q3.2.2.2⟩, CSh_f q4 (fun y h1 h2 => sV y (by omega)) (fun y h1 h2 => sV y (by omega)), RSh_f q5 (fun y h1 h2 => sV y (by omega)), CSh_f q6 (fun y h1 h2 => sV y (by omega)) (fun y h1 h2 => sV y (by omega)), Or.inr ⟨rfl, rfl⟩, Or.inr (Or.inr rfl), k9, (sY 141 (by omega)).2.1.trans l1⟩
  have hP : PGe M9 (fun _ => 0) := ⟨⟨f0.1.trans q0.1, (f0.2.2 _).trans q1.1, ((f0.2.2 _).trans q1.2).trans (if_pos rfl).symm⟩, ⟨f137.1.trans q7.1, (f137.2.2 _).trans q7.2.1, f138.1.trans q7.2.2.1, f138.2.1.trans q7.2.2.2.1⟩, fun i _ => ((f138.2.2 _).trans (q7.2.2.2.2 i)).trans (if_pos rfl).symm, by omega, fun i _ hz => absurd rfl hz, fun i j _ _ _ hz _ => absurd rfl hz⟩
  have hZ : RZ (fun o => mI M9 (14 + o)) st0.1 st0.2.1 st0.2.2.1 st0.2.2.2.1 st0.2.2.2.2.1 st0.2.2.2.2.2.1 := ⟨⟨lz 14 0 (by omega) (by omega) (by omega), lz 14 7 (by omega) (by omega) (by omega), (lo 14 8 (by omega)).trans rfl, lz 14 9 (by omega) (by omega) (by omega), lz 14 10 (by omega) (by omega) (by omega), lz 14 11 (by omega) (by omega) (by omega), lz 14 12 (by omega) (by omega) (by omega), lz 14 14 (by omega) (by omega) (by omega)⟩, fun t t0 t1 => absurd (show t < 0 from t1) (by omega), ⟨fun _ => 0, rfl, rfl, fun i hi => absurd (show (i : Int) < 0 from hi) (by omega)⟩, fun k k0 k1 => absurd (show k < 0 from k1) (by omega)⟩
  have hRB : RBk st0.2.1 (comZ st0.2.1 st0.2.2.2.1 st0.2.2.2.2.1 st0.2.2.2.2.2.1 (hdB st0.1 st0.2.2.1)) st0.1 (rows M9 23) := RBk_0 com_0 (fun o k ho => lz (23 + o) k (by omega) (by omega) (by omega))
  have hTI : TI M9 0 0 0 0 := by
    refine ⟨⟨lz _ _ (by omega) (by omega) (by omega), lz _ _ (by omega) (by omega) (by omega), (i39 22 (by omega)).trans rfl⟩, ⟨⟨by omega, by omega⟩, by omega, by omega⟩, ⟨?_, ?_⟩, ⟨lz _ _ (by omega) (by omega) (by omega), ?_, by omega, by omega⟩, ⟨lz _ _ (by omega) (by omega) (by omega), (i39 23 (by omega)).trans rfl, Or.inl rfl⟩, fun k hk => ⟨0, ⟨by omega, by omega⟩, lz _ _ (by omega) (by omega) (by omega), (i40 k).trans rfl⟩, ⟨i41, fun t ht => ?_⟩⟩
    · rw [lz 2 0 (by omega) (by omega) (by omega), i39 4 (by omega)]
      exact hR.2.1.2.2.2.1.symm
    · rw [lo 2 1 (by omega), i39 5 (by omega)]
      exact hR.2.1.2.2.2.2.symm
    · rw [i39 1 (by omega)]
      exact h1
    · rw [i42, i42, i42, i42, kpA_0, kpA_0, kpA_0, kpA_0, if_neg (by omega), if_neg (by omega), if_neg (by omega), if_neg (by omega)]
      exact hR.1.2.2 t ht
  exact ⟨14, 4, 76, fun _ => 0, 0, 0, 0, 0, st0.1, kT st0 A, kTr st0 A, kSl st0 A, kBu st0 A, kAs st0 A, comZ st0.2.1 st0.2.2.2.1 st0.2.2.2.2.1 st0.2.2.2.2.2.1 (hdB st0.1 st0.2.2.1), fun _ => 0, fun _ _ => 0, hTS, hP, kTD st0_ok (k_tr hR st0_ok) ⟨by omega, by omega⟩, RZ_cg (Z := fun o => mI M9 (14 + o)) hZ kT_e kTr_e kSl_e kBu_e kAs_e, RBk_cg hRB kT_e, kBI st0_ok (by omega), hMO, hb, hTI, fun i hi => absurd hi (by omega), fun hk => absurd hk (by omega)⟩
theorem top_1 (zY : IZe Y F10) (nY : mN Y = 149) (hS : MShape Y) (sY : ∀ y, y < 139 → SE V Y y) (hR : RYs g A 0 g A st0) (hM : M6 = WC (YX Y (kpg g) (kpA A)) 0 (comZ st0.2.1 st0.2.2.2.1 st0.2.2.2.2.1 st0.2.2.2.2.2.1 (hdB st0.1 st0.2.2.1)) S ho ha sm) : (∀ y, y < 139 → SE V M6 y) ∧ (∀ y, SE Y M6 y) ∧ mN M6 = 149 ∧ (∀ y k, y < 139 → mI M6 y k = F9 y k) ∧ (∀ k, mI M6 140 k = 0) ∧ (∀ k, k < 68 → mI M6 141 k = zi (WD k)) ∧ (∀ k, k ≠ 27 → mI M6 139 k = kpg g k) ∧ (∀ k, mI M6 142 k = kpA A 0 k) ∧ MOk M6 0 st0.1 (kT st0 A) (kTr st0 A) (kSl st0 A) (kBu st0 A) (kAs st0 A) ∧ BkI M6 0 (comZ st0.2.1 st0.2.2.2.1 st0.2.2.2.2.1 st0.2.2.2.2.2.1 (hdB st0.1 st0.2.2.1)) := by
  have hMW := k_MOk hS hR st0_ok (gg := kpg g) rfl hR.2.1.1
  generalize comZ st0.2.1 st0.2.2.2.1 st0.2.2.2.2.1 st0.2.2.2.2.2.1 (hdB st0.1 st0.2.2.1) = Bf at *
  have i6 : ∀ y k, mI M6 y k = if y = 147 then (if 2468 * 0 ≤ (k : Int) ∧ (k : Int) < 2468 * 0 + 2468 then zi (Bf ((k : Int) - 2468 * 0)) else mI Y 147 k) else if y = 139 ∧ k = 27 then sm else (if y = 139 then kpg g k else if 142 ≤ y ∧ y ≤ 146 then kpA A (y - 142) k else mI Y y k) := fun y k => by rw [hM]; rfl
  have S6 : ∀ y, SE Y M6 y := fun y => by rw [hM]; exact ⟨rfl, rfl, fun _ => rfl⟩
  have SW : ∀ y, SE (YX Y (kpg g) (kpA A)) M6 y := fun y => by rw [hM]; exact ⟨rfl, rfl, fun _ => rfl⟩
  have nN6 : mN M6 = 149 := by rw [hM]; exact nY
  refine ⟨fun y hy => SE_t (sY y hy) (S6 y), S6, nN6, fun y k hy => ?_, fun k => ?_, fun k hk => ?_, fun k hk => ?_, fun k => ?_, MOk_f hMW (fun y _ _ => SW y) (fun y k y1 y2 y3 => ?_), fun j j0 j1 => ?_⟩
  · rw [i6, if_neg (by omega), if_neg (by omega), if_neg (by omega), if_neg (by omega), zY.1]
    show (if y = 139 ∧ k = 5 then (-1 : Int32) else if y = 141 ∧ k < 68 then zi (WD k) else F9 y k) = _
    rw [if_neg (by omega), if_neg (by omega)]
  · rw [i6, if_neg (by omega), if_neg (by omega), if_neg (by omega), if_neg (by omega), zY.1]
    show (if 140 = 139 ∧ k = 5 then (-1 : Int32) else if 140 = 141 ∧ k < 68 then zi (WD k) else F9 140 k) = _
    rw [if_neg (by omega), if_neg (by omega)]
    exact F9_z (by omega) (by omega)
  · rw [i6, if_neg (by omega), if_neg (by omega), if_neg (by omega), if_neg (by omega), zY.1]
    show (if 141 = 139 ∧ k = 5 then (-1 : Int32) else if 141 = 141 ∧ k < 68 then zi (WD k) else F9 141 k) = _
    rw [if_neg (by omega), if_pos ⟨rfl, hk⟩]
  · rw [i6, if_neg (by omega), if_neg (by omega), if_pos rfl]
  · rw [i6, if_neg (by omega), if_neg (by omega), if_neg (by omega), if_pos (by omega)]
  · rw [i6, if_neg (by omega), if_neg (by omega), y_I]
  · rw [i6, if_pos rfl, if_pos (by omega)]
    exact congrArg (fun z => zi (Bf z)) (by omega)
end M64
