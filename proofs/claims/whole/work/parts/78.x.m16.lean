/-! ===== PURE 71: the trial ===== -/
def XTr (M : MemT) (c r : Nat) (R : Nat → Nat → Int32) (nt : Int) (T tr sl bu as B : Int → Int) (U : Int) : Prop := (mK M 0 = 7 ∧ mR M 0 5 = some c) ∧ COk M c r R nt T tr sl bu as B ∧ RowsOk T sl bu as ∧ BI T nt U B ∧ (2000000 ≤ U ∧ U ≤ 100000000)
section M16
variable {M M' : MemT} {c r : Nat} {R R1 : Nat → Nat → Int32} {F : Nat → Int32} {S : Int → Int} {n : Nat} {T tr sl bu as B B1 : Int → Int} {nt U V : Int}
theorem t_new (hx : XTr M c r R nt T tr sl bu as B U) (hR : RBk T B1 nt R1) (hB : BI T nt V B1) (hV : 2000000 ≤ V ∧ V ≤ 100000000) : XTr M c r R1 nt T tr sl bu as B1 V := by
  obtain ⟨h0, ⟨h1, h2, -, h4, h5, h6, -, -, -⟩, h10, -, -⟩ := hx
  exact ⟨h0, ⟨h1, h2, hR, h4, h5, h6, hB.1, hB.2.1, AN2_r hB.2.1 hB.2.2.2.2.2.2.1⟩, h10, hB, hV⟩
theorem t_o5 (h : XTr M c r R nt T tr sl bu as B U) {R1 : Nat → Nat → Int32} : gO (WX M c R1 F S) 7 0 5 = some c := i_gO h.1.1 h.1.2
theorem t_add (hx : XTr M c r R nt T tr sl bu as B U) {t q w v : Int} (t0 : 0 ≤ t) (t1 : t < 4) (q0 : 0 ≤ q) (q1 : q < 64) (w0 : 0 ≤ w) (w1 : w < 5) : ∃ R1, g_X2_addToSum n (WX M c R F S) (c + 10) (zi t) (zi q) (zi w) (zi v) = some (zi (B (sumI t q w) + v), WX M c R1 F S) ∧ RBk T (addZ B (sumI t q w) v) nt R1 := by
  have hB := hx.2.2.2.1
  have hK := KE_K hB.2.2.2.2.1
  obtain ⟨R1, g, m, o⟩ := x_addToSum (M := WF M (c + 60) F S) (n := n) (v := v) (wx_B (F := F) (S := S) hx.2.1.1) hx.2.1.2.2.1.1 (by omega) t0 t1 q0 q1 w0 w1
  have hp : 1 ≤ sumI t q w ∧ sumI t q w < 1281 := by unfold sumI; omega
  exact ⟨R1, g, RBk_main hx.2.1.2.2.1 m hx.2.1.2.2.2.1.2 (fun i hi => addZ_ne (by omega)) (fun o' ho => o o' (by omega)) (bi_Q47 hB)⟩
theorem t_end (hx : XTr M c r R nt T tr sl bu as B U) (hNt : RowsNt T as nt) (hn : 300 < n) (h63 : B 0 < 63) : (∃ R1 F1 S1, g_X3_endQuarter n (WX M c R F S) c = some ((), WX M c R1 F1 S1) ∧ RBk T (clqZ T tr sl bu as B nt) nt R1) ∧ BI T nt U (clqZ T tr sl bu as B nt) ∧ clqZ T tr sl bu as B nt 0 = B 0 + 1 := by
  obtain ⟨h0, hC, h10, hB, hU⟩ := id hx
  obtain ⟨n1, n2⟩ := id hB.2.1
  have hK := KE_K hB.2.2.2.2.1
  have hE := hB.2.2.2.2.2.1
  have hX := hB.2.2.2.2.2.2.2.2.2
  exact ⟨c_endQuarter (n := n) (F := F) (S := S) hC h10 (by omega) (by omega) (by omega) hB.2.2.2.2.2.2.2.2.1 (AX_allA hX) (AX_X2 hX) (by omega), clqZ_BI hC.2.2.2.2.1 hC.2.2.2.2.2.1 h10 hNt hC.2.2.2.1 hU hB h63⟩
theorem t_close (hx : XTr M c r R nt T tr sl bu as B U) (hNt : RowsNt T as nt) (hn : 300 < n) {k : Int} (k0 : 0 ≤ k) (hk : B 0 + k ≤ 63) : ∃ R1 F1 S1, loopF (fun (s : MemT × Int32) => (fun (M13 : MemT) (v14 : Int32) => (if (zi k) ≤ v14 then some (.inr (M13, v14)) else (gO M13 7 0 5).bind (fun j16 => chk M13 2 j16 (bd (g_X3_endQuarter n M13 j16) (fun r17 M18 => some (.inl (M18, v14 + 1))))))) s.1 s.2) n (WX M c R F S, 0) = some (WX M c R1 F1 S1, zi k) ∧ RBk T (cqI T tr sl bu as B nt k.toNat) nt R1 := by
  obtain ⟨h0, ⟨h1, h2, h3, h4, h5, h6, -, -, -⟩, h10, h11, h12⟩ := id hx
  have hN := h11.2.1
  obtain ⟨n1, n2⟩ := id hN
  have key := loop_inv (step := fun (s : MemT × Int32) => (fun (M13 : MemT) (v14 : Int32) => (if (zi k) ≤ v14 then some (.inr (M13, v14)) else (gO M13 7 0 5).bind (fun j16 => chk M13 2 j16 (bd (g_X3_endQuarter n M13 j16) (fun r17 M18 => some (.inl (M18, v14 + 1))))))) s.1 s.2) (fun i s => ∃ R1 F1 S1, s = (WX M c R1 F1 S1, zi (i : Int)) ∧ RBk T (cqI T tr sl bu as B nt i) nt R1) (fun u => ∃ R1 F1 S1, u = (WX M c R1 F1 S1, zi k) ∧ RBk T (cqI T tr sl bu as B nt k.toNat) nt R1) k.toNat (fun i hi s hs => ?_) (fun s hs => ?_) n (by omega) (WX M c R F S, 0) ⟨R, F, S, rfl, h3⟩
  · obtain ⟨u, hu, R1, F1, S1, rfl, hR⟩ := key
    exact ⟨R1, F1, S1, hu, hR⟩
  · obtain ⟨R1, F1, S1, rfl, hR⟩ := hs
    obtain ⟨b1, b2⟩ := cqI_BI (tr := tr) (sl := sl) (bu := bu) h5 h6 h10 hNt h4 h12 h11 i (by omega)
    have hx1 := t_new hx hR b1 h12
    obtain ⟨⟨R2, F2, S2, g, hR2⟩, -⟩ := t_end (n := n) (F := F1) (S := S1) hx1 hNt hn (by omega)
    refine ⟨(WX M c R2 F2 S2, zi ((i + 1 : Nat) : Int)), ?_, R2, F2, S2, rfl, hR2⟩
    dsimp only
    rw [if_neg (by rw [zi_le (by omega) (by omega) (by omega) (by omega)]; omega), t_o5 hx1, i_sb, c_kC h1, g, i_bd, show zi (i : Int) + 1 = zi ((i + 1 : Nat) : Int) from zi_add (i : Int) 1]
  · obtain ⟨R1, F1, S1, rfl, hR⟩ := hs
    refine ⟨_, ?_, R1, F1, S1, rfl, hR⟩
    dsimp only
    rw [Int.toNat_of_nonneg k0, if_pos (Int32.le_refl _)]
end M16
theorem sR_at {M : MemT} {x k : Nat} {v : Option Nat} : mR (sR M x k v) x k = v := if_pos ⟨rfl, rfl⟩
theorem sR_ne {M : MemT} {x k y j : Nat} {v : Option Nat} (h : y ≠ x ∨ j ≠ k) : mR (sR M x k v) y j = mR M y j := if_neg (fun q => by omega)
section M16T
variable {M M1 : MemT} {r s q : Nat} {P : Nat → Nat} {old cnt tl kp nt U : Int} {T tr sl bu as B Bi : Int → Int} {Bs : Nat → Int → Int} {n : Nat}
theorem TOP_q (h : TOP M r s q P old cnt tl kp nt T tr sl bu as B Bi Bs U) : TOP (sR M 75 0 (some r)) r s r P old cnt tl kp nt T tr sl bu as B Bi Bs U := by
  obtain ⟨tS, hP, hD, hU, hR0, hB0, hM, hb0, hI, hu, hi⟩ := h
  have h150 := hP.2.2.2.1
  have hrs := tS.2.2.2.2.2.2.1
  have sE : ∀ y, y ≠ 75 → SE M (sR M 75 0 (some r)) y := fun y g1 => sR_SE g1
  refine ⟨?_, PGe_f hP (Nat.le_refl _) (fun y g => sE y (by omega)), hD, RU_f hU (fun _ _ _ => rfl), hR0, hB0, MOk_f hM (fun y _ _ => sE y (by omega)) (fun _ _ _ _ _ => rfl), hb0, hI, hu, hi⟩
  obtain ⟨⟨a1, a2, a3, a4, a5, a6⟩, ⟨b1, b2⟩, ⟨c1, c2, c3, c4⟩, hC, hR, hC2, hrs, hq, ⟨o1, o2⟩, w1⟩ := tS
  have f0 := sE 0 (by omega)
  have f2 := sE 2 (by omega)
  obtain ⟨⟨d1, d2, d3, d4⟩, d5, d6, d7, d8⟩ := hC2
  have hC' : CSh (sR M 75 0 (some r)) 13 r := CSh_f hC (fun y h1 h2 => sE y (by omega)) (fun y h1 h2 => sE y (by omega))
  exact ⟨⟨a1, (f0.2.2 _).trans a2, (f0.2.2 _).trans a3, (f0.2.2 _).trans a4, (f0.2.2 _).trans a5, (f0.2.2 _).trans a6⟩, ⟨b1, b2⟩, ⟨c1, (f2.2.2 _).trans c2, c3, c4⟩, hC', RSh_f hR (fun y h1 h2 => sE y (by omega)), ⟨⟨d1, sR_at, (sR_ne (by omega)).trans d3, (sR_ne (by omega)).trans d4⟩, ⟨d5.1, ((sE 135 (by omega)).2.2 _).trans d5.2.1, d5.2.2⟩, BSh_f d6 (fun y h1 h2 => sE y (by omega)), hC'.2.2.2.1, by omega⟩, hrs, by omega, ⟨o1, o2⟩, w1⟩
/-- the trial takes the rules and a copy of the books -/
theorem imit (h : TOP M r s q P old cnt tl kp nt T tr sl bu as B Bi Bs U) (hn : 10 < n) : ∃ W, g_X3_imitate n M 75 13 = some ((), W) ∧ XTr W 75 r (rows W 85) nt T tr sl bu as B U ∧ RBk T B nt (rows W 23) ∧ (mK W 0 = 7 ∧ mR W 0 4 = some 13 ∧ mR W 0 5 = some 75) ∧ BSh W 23 ∧ mK W 13 = 2 ∧ mR W 13 1 = some 23 ∧ (mR W 13 0 = some r ∧ mK W r = 6 ∧ ∀ k, mI W r k = mI M r k) ∧ ∀ R1 F1 S1, TOP (WX W 75 R1 F1 S1) r s r P old cnt tl kp nt T tr sl bu as B Bi Bs U := by
  have h2 := TOP_q h
  obtain ⟨tS, hP, hD, hU, hR0, hB0, hM, hb0, hI, hu, hi⟩ := h2
  have hrs := tS.2.2.2.2.2.2.1
  have hC2 := tS.2.2.2.2.2.1
  have hC := tS.2.2.2.1
  refine ⟨WR (sR M 75 0 (some r)) 85 (cpAZ (rows M 23) (rows M 85) (B 1865).toNat), ?_, ⟨⟨tS.1.1, tS.1.2.2.2.2.2⟩, ⟨hC2, RU_f hU (fun y g1 g2 => funext fun k => by rw [xr_out (by omega)]), ?_, hD.1, hD.2.1, hD.2.2.1, hB0.1, hB0.2.1, AN2_r hB0.2.1 hB0.2.2.2.2.2.2.1⟩, hD.2.2.2.1, hB0, hD.2.2.2.2.2⟩, ?_, ⟨tS.1.1, tS.1.2.2.2.2.1, tS.1.2.2.2.2.2⟩, hC.2.2.1, hC.1.1, hC.1.2.2.1, ⟨hC.1.2.1, hC.2.2.2.1.1, fun k => ?_⟩, fun R1 F1 S1 => ?_⟩
  · unfold g_X3_imitate
    rw [i_gO h.1.2.2.2.1.1.1 h.1.2.2.2.1.1.2.1, i_sb, i_pO (M := M) hC2.1.1, i_sb, i_gO (M := sR M 75 0 (some r)) hC2.1.1 hC2.1.2.2.1, i_sb, i_gO (M := sR M 75 0 (some r)) hC.1.1 hC.1.2.2.1, i_sb, i_chk (M := sR M 75 0 (some r)) hC2.2.2.1.1, copyS (M := sR M 75 0 (some r)) (b := 75 + 10) (s := 13 + 10) hC2.2.2.1 hC.2.2.1 (by omega) (Q := rows M 23) (fun o _ => rfl) hR0 hB0 hn, i_bd]
    rfl
  · refine RBk_c (RB_cpB (R := rows M 85) hR0 hB0 hD.1.2) (fun o ho => funext fun k => ?_) (BI_8 hB0).2
    show mI (WR _ 85 _) (85 + o) k = _
    exact xr_at ho
  · exact RBk_c hR0 (fun o ho => funext fun k => (xr_out (by omega))) (BI_8 hB0).2
  · rw [xr_out (by omega)]
    rfl
  · refine TOP_f ⟨tS, hP, hD, hU, hR0, hB0, hM, hb0, hI, hu, hi⟩ (Nat.le_refl _) (fun _ _ => ⟨rfl, rfl, fun _ => rfl⟩) (fun y k _ hs => ?_)
    unfold scr at hs
    rw [WX_I, if_neg (by omega), if_neg (by omega), xr_out (by omega)]
end M16T
