/-! ===== PURE 98: the reference's text; a text that is wrong ===== -/
def plA (A : Nat → Nat → Int32) (i : Nat) : Nat → Nat → Int32 := fun x k => if x = 4 ∧ 7 ≤ k ∧ k < 7 + i then 0 else A x k
def gSt (g : Nat → Int32) (len : Nat) : Nat → Int32 := up1 (up1 (up1 (up1 (up1 (up1 g 2 0) 6 (zi (len : Int))) 1 0) 4 0) 5 (-1)) 7 0
section M43
variable {M M1 MX : MemT} {g g0 : Nat → Int32} {A A0 : Nat → Nat → Int32} {u : Nat → Int} {n len sX : Nat} {tl : Int}
theorem YX_self : YX M (mI M 139) (fun o => mI M (142 + o)) = M := by
  unfold YX
  refine Prod.ext rfl (Prod.ext rfl (Prod.ext rfl (Prod.ext rfl (Prod.ext ?_ rfl))))
  funext x k
  show (if x = 139 then mI M 139 k else if 142 ≤ x ∧ x ≤ 146 then mI M (142 + (x - 142)) k else mI M x k) = mI M x k
  by_cases c : x = 139
  · rw [if_pos c, c]
  · rw [if_neg c]
    by_cases c2 : 142 ≤ x ∧ x ≤ 146
    · rw [if_pos c2, show 142 + (x - 142) = x by omega]
    · rw [if_neg c2]
theorem y_plain (hS : MShape M) (hn : 100 < n) : g_X10_plain n (YX M g A) 139 = some ((), YX M (up1 (up1 g 12 0) 18 0) (up2 (plA A 7) 4 8 100)) := by
  have e0 : plA A 0 = A := funext fun x => funext fun k => if_neg (by omega)
  have es : ∀ i : Nat, up2 (plA A i) 4 (7 + i) 0 = plA A (i + 1) := fun i => by
    funext x k
    show (if x = 4 ∧ k = 7 + i then 0 else if x = 4 ∧ 7 ≤ k ∧ k < 7 + i then 0 else A x k) = (if x = 4 ∧ 7 ≤ k ∧ k < 7 + (i + 1) then 0 else A x k)
    by_cases c1 : x = 4 ∧ k = 7 + i
    · rw [if_pos c1, if_pos (by omega)]
    · rw [if_neg c1]
      by_cases c2 : x = 4 ∧ 7 ≤ k ∧ k < 7 + i
      · rw [if_pos c2, if_pos (by omega)]
      · rw [if_neg c2, if_neg (by omega)]
  have key := loop_k (step := fun (s : MemT × Int32) => (fun (M2 : MemT) (v3 : Int32) => (if 14 ≤ v3 then some (.inr (M2, v3)) else (gO M2 8 139 17).bind (fun j5 => (wI M2 j5 v3 0).bind (fun M6 => (some (.inl (M6, v3 + 1)) : Option ((MemT × Int32) ⊕ (MemT × Int32))))))) s.1 s.2) (fun i : Nat => (YX M (up1 g 12 0) (plA A i), zi (7 + (i : Int)))) (YX M (up1 g 12 0) (plA A 7), zi (7 + ((7 : Nat) : Int))) 7 (fun i hi => ?_) ?_ n (by omega)
  · unfold g_X10_plain
    dsimp only at key
    rw [e0] at key
    rw [y_pI hS, i_sb, show loopF _ n (YX M (up1 g 12 0) A, (7 : Int32)) = some (YX M (up1 g 12 0) (plA A 7), zi (7 + ((7 : Nat) : Int))) from key, i_sb]
    dsimp only
    rw [y_o17 hS, i_sb, show wI (YX M (up1 g 12 0) (plA A 7)) 146 8 100 = some (YX M (up1 g 12 0) (up2 (plA A 7) 4 8 100)) from y_w4 hS (i := 8) (by omega) (by omega), i_sb, y_pI hS, i_sb]
  · dsimp only
    rw [if_neg (show ¬ ((14 : Int32) ≤ zi (7 + (i : Int))) by (show ¬ (zi 14 ≤ zi (7 + (i : Int)))); rw [zi_le (by omega) (by omega) (by omega) (by omega)]; omega), y_o17 hS, i_sb, y_w4 hS (by omega) (by omega), i_sb, show (7 + (i : Int)).toNat = 7 + i by omega, es, show zi (7 + (i : Int)) + 1 = zi (7 + ((i + 1 : Nat) : Int)) by (show zi (7 + (i : Int)) + zi 1 = _); rw [zi_add]; exact congrArg zi (by omega)]
  · dsimp only
    rw [if_pos (show (14 : Int32) ≤ zi (7 + ((7 : Nat) : Int)) by decide)]
theorem RYs_0 (hT : TRAf A) : RYs (gSt g len) A len (up1 (up1 (gSt g len) 12 0) 18 0) (up2 (plA A 7) 4 8 100) st0 := by
  have e0 : plA A 7 0 = A 0 := funext fun k => if_neg (by omega)
  have hT7 : TRAf (plA A 7) := by
    unfold TRAf
    rw [e0]
    exact hT
  refine ⟨⟨gFr_t (gFr_u (by omega)) (gFr_u (by omega)), ⟨fun k hk => (up2_ne (by omega)).trans (if_neg (by omega)), fun k hk => (up2_ne (by omega)).trans (if_neg (by omega)), fun k hk => (up2_ne (by omega)).trans (if_neg (by omega)), fun k hk => (up2_ne (by omega)).trans (if_neg (by omega)), fun k hk => (up2_ne (by omega)).trans (if_neg (by omega))⟩, TRAf_o hT7 (by omega)⟩, ⟨rfl, (show (0 : Int32) = wBs (fun _ => false) by decide), rfl, rfl, rfl⟩, fun j j0 j1 => ?_, fun t j t0 t1 => absurd (show t < 0 from t1) (by omega), fun k k0 k1 => absurd (show k < 0 from k1) (by omega), fun k k0 k1 => absurd (show k < 0 from k1) (by omega), fun k k0 k1 => absurd (show k < 0 from k1) (by omega)⟩
  show up2 (plA A 7) 4 8 100 4 (7 + j).toNat = zi (if j = 1 then 100 else 0)
  by_cases c : j = 1
  · rw [if_pos c, c]
    rfl
  · rw [if_neg c, up2_ne (by omega)]
    exact if_pos ⟨rfl, by omega, by omega⟩
theorem y_txt {f hd : Nat → Int32} {Z : Nat → Nat → Int32} (hS : MShape M) (hu : YT M u) (hp : PSh MX sX) (hx : XT MX u) (hT : TRAf A) (h1 : g 1 = zi tl) (htl : (len : Int) ≤ tl ∧ tl ≤ 700) (h3 : f 3 = zi (len : Int)) (hX : RXs f hd Z st0) (hn : 1000 < n) : RDy n M (gSt g len) A u len (txR u len 701 0 st0 0) (g_X10_text n (YX M g A) 139 (zi (len : Int))) := by
  have e0 : (zi (len : Int) < (0 : Int32)) = ((len : Int) < 0) := zi_lt (b := 0) (by omega) (by omega) (by omega) (by omega)
  have e1 : (zi (len : Int) ≤ zi tl) = ((len : Int) ≤ tl) := zi_le (by omega) (by omega) (by omega) (by omega)
  have hR := RYs_0 (g := g) (len := len) hT
  have key := y_reads (g0 := gSt g len) (A0 := A) hp hx hS hu (len := len) (by omega) hn 701 0 0 _ _ ((up1 (up1 (gSt g len) 12 0) 18 0) 9) st0 f hd Z (by omega) (by omega) (by omega) h3 hX st0_ok hR n (by omega)
  have e7 : mkR (up1 (up1 (gSt g len) 12 0) 18 0) (zi ((0 : Nat) : Int)) ((up1 (up1 (gSt g len) 12 0) 18 0) 8) ((up1 (up1 (gSt g len) 12 0) 18 0) 9) ((up1 (up1 (gSt g len) 12 0) 18 0) 10) = up1 (up1 (gSt g len) 12 0) 18 0 := mk_0
  have tk := y_tokM (k := (up1 (up1 (gSt g len) 12 0) 18 0) 8) (w := (up1 (up1 (gSt g len) 12 0) 18 0) 9) (a := (up1 (up1 (gSt g len) 12 0) 18 0) 10) (A := up2 (plA A 7) 4 8 100) (p := 0) hS hu hR.2.1.2.2.1 (by omega) (by omega) hn
  rw [e7] at tk
  unfold g_X10_text
  rw [y_pI hS, i_sb, if_neg (by rw [e0]; omega), y_gI hS, i_sb, show up1 g 2 0 1 = zi tl from h1, if_pos (by rw [e1]; exact htl.1), y_pI hS, i_sb, y_pI hS, i_sb, y_pI hS, i_sb, y_pI hS, i_sb, y_pI hS, i_sb, y_k hS, show up1 (up1 (up1 (up1 (up1 (up1 g 2 0) 6 (zi (len : Int))) 1 0) 4 0) 5 (-1)) 7 0 = gSt g len from rfl, y_plain hS (by omega), i_bd, y_k hS, tk, i_bd]
  exact key
end M43
section M43B
variable {M M2 : MemT} {r s q : Nat} {P : Nat → Nat} {old cnt tl kp nt U : Int} {T tr sl bu as B Bi : Int → Int} {Bs : Nat → Int → Int} {n len : Nat} {u : Nat → Int}
theorem TSh_2 (h : TSh M r s q) (f : ∀ y, y ≠ 2 → SE M M2 y) (h2 : mK M2 2 = 4 ∧ mR M2 2 12 = some 3) : TSh M2 r s q := by
  obtain ⟨⟨a1, a2, a3, a4, a5, a6⟩, ⟨b1, b2⟩, ⟨c1, c2, c3, c4⟩, hC, hR, hC2, hrs, hq, ⟨o1, o2⟩, w1⟩ := h
  have f0 := f 0 (by omega)
  have f3 := f 3 (by omega)
  exact ⟨⟨f0.1.trans a1, (f0.2.2 _).trans a2, (f0.2.2 _).trans a3, (f0.2.2 _).trans a4, (f0.2.2 _).trans a5, (f0.2.2 _).trans a6⟩, ⟨(f 1 (by omega)).1.trans b1, (f 1 (by omega)).2.1.trans b2⟩, ⟨h2.1, h2.2, f3.1.trans c3, f3.2.1.trans c4⟩, CSh_f hC (fun y h1 h2 => f y (by omega)) (fun y h1 h2 => f y (by omega)), RSh_f hR (fun y h1 h2 => f y (by omega)), CSh_f hC2 (fun y h1 h2 => f y (by omega)) (fun y h1 h2 => f y (by omega)), hrs, hq, ⟨(f 149 (by omega)).1.trans o1, (f 149 (by omega)).2.1.trans o2⟩, (f 141 (by omega)).2.1.trans w1⟩
theorem TOP_txF (h : TOP M r s q P old cnt tl kp nt T tr sl bu as B Bi Bs U) (f : ∀ y, y ≠ 2 → SE M M2 y) (h2 : mK M2 2 = 4 ∧ mR M2 2 12 = some 3) (hN : mN M2 = mN M) (e : ∀ y k, ¬ scr y k → y ≠ 2 → y ≠ 3 → ¬ (s ≤ y ∧ y < s + 9) → ¬ (y = 0 ∧ k = 1) → ¬ (y = 139 ∧ (k = 1 ∨ k = 4 ∨ k = 5)) → ¬ (142 ≤ y ∧ y ≤ 146) → mI M2 y k = mI M y k) (hA : AFr (fun o => mI M (142 + o)) (fun o => mI M2 (142 + o))) (hT2 : TRAf (fun o => mI M2 (142 + o))) (hf : mI M2 2 0 = mI M2 139 4 ∧ mI M2 2 1 = mI M2 139 5) (h1 : mI M2 0 1 = zi 0 ∧ mI M2 139 1 = zi 0) : TopE M2 U := by
  obtain ⟨tS, hP, hD, hU, hR0, hB0, hM, hb0, hI, hu, hi⟩ := h
  have h150 := hP.2.2.2.1
  have hrs := tS.2.2.2.2.2.2.1
  obtain ⟨d1, d2, d3, d4, d5, d6⟩ := hD
  obtain ⟨hS0, hb, hb1, hnn, m1, m2, m3, m4, m5⟩ := hM
  have b4 := d4.1
  have b5 := d4.2.1
  have b6 := d4.2.2.1
  have eT : ∀ j : Int, 0 ≤ j → j < 7 → ovF 7 T (mI M2 146) j = T j := fun j j0 j1 => ovF_in ⟨j0, j1⟩
  have eR : ∀ j : Int, 0 ≤ j → j < 32 → ovF 32 tr (mI M2 142) j = tr j := fun j j0 j1 => ovF_in ⟨j0, j1⟩
  have eS : ∀ j : Int, 0 ≤ j → j < 4 * T 4 → ovF 48 sl (mI M2 143) j = sl j := fun j j0 j1 => ovF_in ⟨j0, by omega⟩
  have eB : ∀ j : Int, 0 ≤ j → j < 4 * T 5 → ovF 48 bu (mI M2 144) j = bu j := fun j j0 j1 => ovF_in ⟨j0, by omega⟩
  have eA : ∀ j : Int, 0 ≤ j → j < 5 * T 6 → ovF 20 as (mI M2 145) j = as j := fun j j0 j1 => ovF_in ⟨j0, by omega⟩
  refine ⟨r, s, q, P, old, cnt, 0, kp, nt, ovF 7 T (mI M2 146), ovF 32 tr (mI M2 142), ovF 48 sl (mI M2 143), ovF 48 bu (mI M2 144), ovF 20 as (mI M2 145), B, Bi, Bs, TSh_2 tS f h2, PGe_f hP (by omega) (fun y hy => f y (by omega)), ⟨d1, told3_cg d2 eT, fun t t0 t1 => ?_, RowsOk_cg d4 eT eS eB eA, RowsNt_cg d5 eT eA, d6⟩, ?_, RBk_cg (RBk_c hR0 (fun o ho => funext fun k => e _ k (by unfold scr; omega) (by omega) (by omega) (by omega) (by omega) (by omega) (by omega)) (BI_8 hB0).2) eT, BI_cg hB0 eT, ?_, fun j j0 j1 => (e 147 _ (by unfold scr; omega) (by omega) (by omega) (by omega) (by omega) (by omega) (by omega)).trans (hb0 j j0 j1), ?_, ?_, ?_⟩
  · rw [eR _ (by omega) (by omega), eR _ (by omega) (by omega), eR _ (by omega) (by omega), eR _ (by omega) (by omega)]
    exact d3 t t0 t1
  · exact RZ_cg (Z := fun o => mI M2 (r + o)) (RU_f hU (fun y g1 g2 => funext fun k => e y k (by unfold scr; omega) (by omega) (by omega) (by omega) (by omega) (by omega) (by omega))) eT (fun j j0 j1 => eR j j0 (by omega)) eS eB eA
  · refine ⟨MShape_f hS0 (fun y _ _ => f y (by omega)), (e 139 21 (by unfold scr; omega) (by omega) (by omega) (by omega) (by omega) (by omega) (by omega)).trans hb, hb1, (e 139 11 (by unfold scr; omega) (by omega) (by omega) (by omega) (by omega) (by omega) (by omega)).trans hnn, fun k k0 k1 => ovF_row (fun q0 q1 => (hA.2.2.2.2 k.toNat (by omega)).trans (m1 k k0 k1)) k0, fun k k0 k1 => ovF_row (fun q0 q1 => (hA.1 k.toNat (by omega)).trans (m2 k k0 k1)) k0, fun k k0 k1 => ovF_row (fun q0 q1 => (hA.2.1 k.toNat (by omega)).trans (m3 k k0 k1)) k0, fun k k0 k1 => ovF_row (fun q0 q1 => (hA.2.2.1 k.toNat (by omega)).trans (m4 k k0 k1)) k0, fun k k0 k1 => ovF_row (fun q0 q1 => (hA.2.2.2.1 k.toNat (by omega)).trans (m5 k k0 k1)) k0⟩
  · obtain ⟨⟨a1, a2, a3⟩, hr, -, -, ⟨e1, e2, e3⟩, ht, hw⟩ := hI
    have g : ∀ y k, y < 147 → y ≠ 73 → (y < 85 ∨ 137 ≤ y) → (y ≠ 139 ∨ k = 11 ∨ k = 21 ∨ k = 22 ∨ k = 23) → y ≠ 2 → y ≠ 3 → ¬ (s ≤ y ∧ y < s + 9) → ¬ (y = 0 ∧ k = 1) → ¬ (142 ≤ y ∧ y ≤ 146) → mI M2 y k = mI M y k := fun y k q1 q2 q3 q4 q5 q6 q7 q8 q9 => e y k (by unfold scr; omega) q5 q6 q7 q8 (by omega) q9
    refine ⟨⟨?_, ?_, ?_⟩, hr, hf, ⟨h1.1, h1.2, by omega, by omega⟩, ⟨?_, ?_, e3⟩, fun k hk => ?_, ⟨fun k hk => ?_, hT2⟩⟩
    · exact (g _ _ (by omega) (by omega) (by omega) (by omega) (by omega) (by omega) (by omega) (by omega) (by omega)).trans a1
    · exact (g _ _ (by omega) (by omega) (by omega) (by omega) (by omega) (by omega) (by omega) (by omega) (by omega)).trans a2
    · exact (g _ _ (by omega) (by omega) (by omega) (by omega) (by omega) (by omega) (by omega) (by omega) (by omega)).trans a3
    · exact (g _ _ (by omega) (by omega) (by omega) (by omega) (by omega) (by omega) (by omega) (by omega) (by omega)).trans e1
    · exact (g _ _ (by omega) (by omega) (by omega) (by omega) (by omega) (by omega) (by omega) (by omega) (by omega)).trans e2
    · rw [g 1 k (by omega) (by omega) (by omega) (by omega) (by omega) (by omega) (by omega) (by omega) (by omega), g 140 k (by omega) (by omega) (by omega) (by omega) (by omega) (by omega) (by omega) (by omega) (by omega)]
      exact ht k hk
    · exact (g _ _ (by omega) (by omega) (by omega) (by omega) (by omega) (by omega) (by omega) (by omega) (by omega)).trans (hw.1 k hk)
  · intro i hi'
    obtain ⟨u1, u2, u3, u4⟩ := UDs_f (M1 := M2) hu ⟨hI.2.1.1.1, hI.2.1.1.2, hI.2.1.2.2⟩ hP (fun y k g1 g2 g3 => e y k g3 (by omega) (by omega) (by omega) (by omega) (by omega) (by omega)) i hi'
    exact ⟨u1, RBk_cg u2 eT, u3, BI_cg u4 eT⟩
  · intro hk
    obtain ⟨u1, u2, u3, u4⟩ := IMs_f (M1 := M2) hi hP (fun y k g1 g2 g3 => e y k g3 (by omega) (by omega) (by omega) (by omega) (by omega) (by omega)) hk
    exact ⟨u1, RBk_cg u2 eT, u3, BI_cg u4 eT⟩
end M43B
