/-! ===== PURE 70: keep ===== -/
section M15
variable {M M1 : MemT} {r s q : Nat} {P : Nat → Nat} {old cnt tl kp nt U : Int} {T tr sl bu as B Bi : Int → Int} {Bs : Nat → Int → Int} {n : Nat}
theorem TOP_imgW {W : MemT} (hNW : mN W = mN M + 50) (np_S : ∀ {y : Nat}, y < mN M → SE M W y) (np_I : ∀ {y j : Nat}, y < mN M → mI W y j = mI M y j) (np_B : BSh W (mN M)) (h : TOP M r s q P old cnt tl kp nt T tr sl bu as B Bi Bs U) (hz : P 20 = 0) : TOP (sR (W) 0 7 (some (mN M))) r s q (upP P 20 (mN M)) old cnt tl kp nt T tr sl bu as B Bi Bs U := by
  obtain ⟨tS, hP, hD, hU, hR0, hB0, hM, hb0, hI, hu, hi⟩ := h
  have h150 := hP.2.2.2.1
  have hrs := tS.2.2.2.2.2.2.1
  have hr1 := hI.2.1
  have sE : ∀ y, y < mN M → y ≠ 0 → SE M (sR (W) 0 7 (some (mN M))) y := fun y g1 g2 => SE_t (np_S g1) (sR_SE g2)
  have eI : ∀ y k, y < mN M → mI (sR (W) 0 7 (some (mN M))) y k = mI M y k := fun y k g1 => np_I g1
  have eP : ∀ i, i < 20 → upP P 20 (mN M) i = P i := fun i hi => if_neg (by omega)
  have f0 : mK (sR (W) 0 7 (some (mN M))) 0 = mK M 0 ∧ ∀ j, j ≠ 7 → mR (sR (W) 0 7 (some (mN M))) 0 j = mR M 0 j := ⟨(np_S (by omega)).1, fun j hj => (if_neg (by omega) : mR (sR (W) 0 7 (some (mN M))) 0 j = mR (W) 0 j).trans ((np_S (by omega)).2.2 j)⟩
  refine ⟨?_, PGe_newW hNW np_S np_B hP (by omega) hz (Or.inr ⟨rfl, rfl, rfl⟩), hD, RU_f hU (fun y g1 g2 => funext fun k => eI y k (by omega)), RBk_c hR0 (fun o ho => funext fun k => eI _ k (by omega)) (BI_8 hB0).2, hB0, MOk_f hM (fun y _ _ => sE y (by omega) (by omega)) (fun y k _ _ _ => eI y k (by omega)), fun j j0 j1 => (eI 147 _ (by omega)).trans (hb0 j j0 j1), TI_f hI (fun y k g1 _ => eI y k (by omega)), fun i hi' => ?_, fun hk => absurd hz (hi hk).1⟩
  · obtain ⟨⟨a1, a2, a3, a4, a5, a6⟩, ⟨b1, b2⟩, ⟨c1, c2, c3, c4⟩, hC, hR, hC2, hrs, hq, ⟨o1, o2⟩, w1⟩ := tS
    have f2 := sE 2 (by omega) (by omega)
    have f3 := sE 3 (by omega) (by omega)
    exact ⟨⟨f0.1.trans a1, (f0.2 _ (by omega)).trans a2, (f0.2 _ (by omega)).trans a3, (f0.2 _ (by omega)).trans a4, (f0.2 _ (by omega)).trans a5, (f0.2 _ (by omega)).trans a6⟩, ⟨(sE 1 (by omega) (by omega)).1.trans b1, (sE 1 (by omega) (by omega)).2.1.trans b2⟩, ⟨f2.1.trans c1, (f2.2.2 _).trans c2, f3.1.trans c3, f3.2.1.trans c4⟩, CSh_f hC (fun y h1 h2 => sE y (by omega) (by omega)) (fun y h1 h2 => sE y (by omega) (by omega)), RSh_f hR (fun y h1 h2 => sE y (by omega) (by omega)), CSh_f hC2 (fun y h1 h2 => sE y (by omega) (by omega)) (fun y h1 h2 => sE y (by omega) (by omega)), hrs, hq, ⟨(sE 149 (by omega) (by omega)).1.trans o1, (sE 149 (by omega) (by omega)).2.1.trans o2⟩, (sE 141 (by omega) (by omega)).2.1.trans w1⟩
  · obtain ⟨g1, g2, g3, g4⟩ := hu i hi'
    obtain ⟨p1, p2, -⟩ := hP.2.2.2.2.1 _ (by omega) g1
    rw [eP _ (by omega)]
    exact ⟨g1, RBk_c g2 (fun o ho => funext fun k => eI _ k (by omega)) (BI_8 g4).2, fun j j0 j1 => (eI 147 _ (by omega)).trans (g3 j j0 j1), g4⟩
theorem TOP_img (h : TOP M r s q P old cnt tl kp nt T tr sl bu as B Bi Bs U) (hz : P 20 = 0) : TOP (sR (npM M) 0 7 (some (mN M))) r s q (upP P 20 (mN M)) old cnt tl kp nt T tr sl bu as B Bi Bs U := TOP_imgW np_N np_S np_I np_B h hz
theorem TOP_keep (h : TOP M r s q P old cnt tl kp nt T tr sl bu as B Bi Bs U) (hz : P 20 ≠ 0) (hn : 3000 < n) : ∃ Q, g_X2_copyFrom n M (P 20) 23 = some ((), WR M (P 20) Q) ∧ (∀ M1, M1 = sI (sI (WR M (P 20) Q) 0 8 1) 139 2 0 → g_X10_copyBank n M1 139 0 2 = some ((), LB M1 2 2468 (fun j => mI M1 147 (2468 * 0 + j).toNat)) ∧ TOP (sI (LB M1 2 2468 (fun j => mI M1 147 (2468 * 0 + j).toNat)) 139 23 1) r s q P old cnt tl 1 nt T tr sl bu as B B Bs U) := by
  obtain ⟨tS, hP, hD, hU, hR0, hB0, hM, hb0, hI, hu, hi⟩ := h
  obtain ⟨g1, g2, g3⟩ := hP.2.2.2.2.1 20 (by omega) hz
  have h150 := hP.2.2.2.1
  have hrs := tS.2.2.2.2.2.2.1
  have hr1 := hI.2.1
  refine ⟨cpAZ (rows M 23) (rows M (P 20)) (B 1865).toNat, copyS g3 tS.2.2.2.1.2.2.1 (by omega) (fun o _ => rfl) hR0 hB0 (by omega), fun M1 e1 => ?_⟩
  have hRQ : RBk T B nt (cpAZ (rows M 23) (rows M (P 20)) (B 1865).toNat) := RB_cpB hR0 hB0 hD.1.2
  generalize hQ : cpAZ (rows M 23) (rows M (P 20)) (B 1865).toNat = Q at e1 hRQ
  have hS1 : ∀ y, SE M M1 y := fun y => by rw [e1]; exact ⟨rfl, rfl, fun _ => rfl⟩
  have hMS : MShape M1 := MShape_f hM.1 (fun y _ _ => hS1 y)
  generalize hb : P 20 = b at g1 g2 g3 e1
  have i1 : ∀ y k, ¬ (b ≤ y ∧ y < b + 50) → ¬ (y = 0 ∧ k = 8) → ¬ (y = 139 ∧ k = 2) → mI M1 y k = mI M y k := fun y k q1 q2 q3 => by
    rw [e1, sI_ne (by omega), sI_ne (by omega), xr_out (by omega)]
  have i2 : ∀ y k, ¬ (b ≤ y ∧ y < b + 50) → ¬ (y = 0 ∧ k = 8) → ¬ (y = 139 ∧ (k = 2 ∨ k = 23)) → ¬ (y = 147 ∧ 4936 ≤ k ∧ k < 7404) → mI (sI (LB M1 2 2468 (fun j => mI M1 147 (2468 * 0 + j).toNat)) 139 23 1) y k = mI M y k := fun y k q1 q2 q3 q4 => by
    rw [sI_ne (by omega), LB_ne (by omega)]
    exact i1 y k q1 q2 (by omega)
  have hS2 : ∀ y, SE M (sI (LB M1 2 2468 (fun j => mI M1 147 (2468 * 0 + j).toNat)) 139 23 1) y := fun y => SE_t (hS1 y) ⟨rfl, rfl, fun _ => rfl⟩
  have cb := r_copyBank (M := M1) (n := n) (a := 0) (b := 2) hMS hn (by omega) (by omega) (by omega) (by omega) (by omega)
  refine ⟨cb, TSh_f tS (fun y _ _ => hS2 y), PGe_f hP (by show mN M ≤ mN M1; rw [e1]; exact Nat.le_refl _) (fun y _ => hS2 y), hD, RU_f hU (fun y q1 q2 => funext fun k => i2 y k (by omega) (by omega) (by omega) (by omega)), RBk_c hR0 (fun o ho => funext fun k => i2 _ k (by omega) (by omega) (by omega) (by omega)) (BI_8 hB0).2, hB0, MOk_f hM (fun y _ _ => hS2 y) (fun y k q1 q2 q3 => i2 y k (by omega) (by omega) (by omega) (by omega)), fun j j0 j1 => (i2 147 _ (by omega) (by omega) (by omega) (by omega)).trans (hb0 j j0 j1), ?_, fun i hi' => ?_, fun hk => ⟨by rw [hb]; omega, ?_, fun j j0 j1 => ?_, hB0⟩⟩
  · obtain ⟨⟨a1, a2, a3⟩, -, ⟨b1, b2⟩, ⟨c1, c2, c3⟩, ⟨k1, k2, k3⟩, ht, hw⟩ := hI
    have g : ∀ y k, y < 147 → ¬ (y = 0 ∧ k = 8) → ¬ (y = 139 ∧ (k = 2 ∨ k = 23)) → mI (sI (LB M1 2 2468 (fun j => mI M1 147 (2468 * 0 + j).toNat)) 139 23 1) y k = mI M y k := fun y k q1 q2 q3 => i2 y k (by omega) q2 q3 (by omega)
    refine ⟨⟨(g _ _ (by omega) (by omega) (by omega)).trans a1, (g _ _ (by omega) (by omega) (by omega)).trans a2, (g _ _ (by omega) (by omega) (by omega)).trans a3⟩, hr1, ⟨?_, ?_⟩, ⟨(g _ _ (by omega) (by omega) (by omega)).trans c1, (g _ _ (by omega) (by omega) (by omega)).trans c2, c3⟩, ⟨?_, sI_at, Or.inr rfl⟩, fun k hk => ?_, ⟨fun k hk => (g _ _ (by omega) (by omega) (by omega)).trans (hw.1 k hk), TR2_f hw.2 (fun k => g _ _ (by omega) (by omega) (by omega))⟩⟩
    · rw [g 2 0 (by omega) (by omega) (by omega), g 139 4 (by omega) (by omega) (by omega), b1]
    · rw [g 2 1 (by omega) (by omega) (by omega), g 139 5 (by omega) (by omega) (by omega), b2]
    · rw [sI_ne (by omega), LB_ne (by omega), e1, sI_ne (by omega), sI_at]
      rfl
    · rw [g 1 k (by omega) (by omega) (by omega), g 140 k (by omega) (by omega) (by omega)]
      exact ht k hk
  · obtain ⟨q1, q2, q3, q4⟩ := hu i hi'
    obtain ⟨p1, p2, -⟩ := hP.2.2.2.2.1 _ (by omega) q1
    have hd := hP.2.2.2.2.2 20 _ (by omega) (by omega) (by omega) hz q1
    rw [hb] at hd
    exact ⟨q1, RBk_c q2 (fun o ho => funext fun k => i2 _ k (by omega) (by omega) (by omega) (by omega)) (BI_8 q4).2, fun j j0 j1 => (i2 147 _ (by omega) (by omega) (by omega) (by omega)).trans (q3 j j0 j1), q4⟩
  · rw [hb]
    refine RBk_c hRQ (fun o ho => funext fun k => ?_) (BI_8 hB0).2
    show mI (sI (LB M1 2 2468 _) 139 23 1) (b + o) k = _
    rw [sI_ne (by omega), LB_ne (by omega), e1, sI_ne (by omega), sI_ne (by omega), WR_I, if_pos (by omega)]
    exact congrArg (fun z => Q z k) (by omega)
  · rw [sI_ne (by omega), LB_I, if_pos (by omega), i1 _ _ (by omega) (by omega) (by omega), ← hb0 j j0 j1]
    exact congrArg (mI M 147) (by omega)
theorem keep_run (h : TOP M r s q P old cnt tl kp nt T tr sl bu as B Bi Bs U) (hU2 : U ≤ 99000000) (hn : 100000010 < n) (hz : P 20 ≠ 0) : ∃ v M1 M2, (fun (M3 : MemT)  => (gO M3 7 0 7).bind (fun j4 => (gO M3 7 0 4).bind (fun j5 => (gO M3 2 j5 1).bind (fun j6 => chk M3 1 j4 (bd (g_X2_copyFrom n M3 j4 j6) (fun r7 M8 => (pZ M8 7 0 8 1).bind (fun M9 => (gO M9 7 0 4).bind (fun j10 => (gO M9 2 j10 1).bind (fun j11 => (gI M9 1 j11 0).bind (fun v12 => some (v12, M9))))))))))) M = some (v, M1) ∧ mK M1 139 = 8 ∧ g_X10_keep n M1 139 = some (v, M2) ∧ TopE M2 (U + 100000) := by
  obtain ⟨tS, hP, hD, hU, hR0, hB0, hM, hb0, hI, hu, hi⟩ := id h
  obtain ⟨g1, g2, g3⟩ := hP.2.2.2.2.1 20 (by omega) hz
  obtain ⟨Q, cp, hT⟩ := TOP_keep (n := n) h hz (by omega)
  obtain ⟨t1, t2⟩ := hT _ rfl
  have k7 := tS.1.1
  have k8 : mK M 139 = 8 := hM.1.1
  have hpg := hP.1.2.2
  unfold pgR at hpg
  rw [if_neg hz] at hpg
  have o4 : ∀ M1 : MemT, (∀ y, SE M M1 y) → gO M1 7 0 4 = some 13 := fun M1 hS => i_gO ((hS 0).1.trans k7) (((hS 0).2.2 4).trans tS.1.2.2.2.2.1)
  have o1 : ∀ M1 : MemT, (∀ y, SE M M1 y) → gO M1 2 13 1 = some 23 := fun M1 hS => i_gO ((hS 13).1.trans tS.2.2.2.1.1.1) (((hS 13).2.2 1).trans tS.2.2.2.1.1.2.2.1)
  refine ⟨zi (B 0), sI (WR M (P 20) Q) 0 8 1, _, ?_, k8, ?_, TOP_E (TOP_U t2 hU2)⟩
  · dsimp only
    rw [i_gO k7 hpg, i_sb, o4 M (fun _ => SE_r), i_sb, o1 M (fun _ => SE_r), i_sb, i_chk g3.1, cp, i_bd, i_pZ (M := WR M (P 20) Q) k7 (Or.inr rfl), i_sb, o4 (sI (WR M (P 20) Q) 0 8 1) (fun y => ⟨rfl, rfl, fun _ => rfl⟩), i_sb, o1 (sI (WR M (P 20) Q) 0 8 1) (fun y => ⟨rfl, rfl, fun _ => rfl⟩), i_sb, i_gI (M := sI (WR M (P 20) Q) 0 8 1) tS.2.2.2.1.2.2.1.1, i_sb, sI_ne (by omega), xr_out (by omega)]
    have e0 : mI M 23 0 = zi (B 0) := hR0.1.1.1
    rw [e0]
  · unfold g_X10_keep
    have hO2 := t2.2.2.2.2.2.2.1
    have hb2 := t2.2.2.2.2.2.2.2.1
    rw [i_pI (M := sI (WR M (P 20) Q) 0 8 1) k8, i_sb, i_chk (M := sI (sI (WR M (P 20) Q) 0 8 1) 139 2 0) k8, t1, i_bd, LB_pZ (M := sI (sI (WR M (P 20) Q) 0 8 1) 139 2 0) k8, i_sb]
    have g0 : g_X10_of n (sI (LB (sI (sI (WR M (P 20) Q) 0 8 1) 139 2 0) 2 2468 (fun j => mI (sI (sI (WR M (P 20) Q) 0 8 1) 139 2 0) 147 (2468 * 0 + j).toNat)) 139 23 1) 139 0 = _ := bk_of (n := n) (k := 0) hO2 hb2 (by omega) (by omega)
    rw [i_chk hO2.1.1, g0, i_bd]
theorem r_keep (h : TOP M r s q P old cnt tl kp nt T tr sl bu as B Bi Bs U) (hU2 : U ≤ 99000000) (hn : 100000010 < n) : RunsTo (fun M => g_X9_keep n M 0) (fun M => g_X10_keep n M 139) M (U + 100000) := by
  have hpg := h.2.1.1.2.2
  have k7 := h.1.1.1
  unfold pgR at hpg
  by_cases hz : P 20 = 0
  · rw [if_pos hz] at hpg
    have h2 := TOP_img h hz
    obtain ⟨v, M1, M2, q1, q2, q3, q4⟩ := keep_run h2 hU2 hn (by unfold upP; rw [if_pos rfl]; have := h.2.1.2.2.2.1; omega)
    refine ⟨v, M1, M2, ?_, q2, q3, q4⟩
    show g_X9_keep n M 0 = _
    unfold g_X9_keep
    rw [i_gV k7, i_sb, i_jp, hpg, nzR_n]
    unfold nwO
    dsimp only
    rw [np_init, i_bd, i_pO ((np_S (by have := h.2.1.2.2.2.1; omega)).1.trans k7), i_sb]
    exact q1
  · rw [if_neg hz] at hpg
    obtain ⟨v, M1, M2, q1, q2, q3, q4⟩ := keep_run h hU2 hn hz
    refine ⟨v, M1, M2, ?_, q2, q3, q4⟩
    show g_X9_keep n M 0 = _
    unfold g_X9_keep
    rw [i_gV k7, i_sb, i_jp, hpg, nzR_s]
    exact q1
end M15
