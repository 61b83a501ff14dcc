/-! ===== PURE 91: the reference's lines: words, traders ===== -/
section M36
variable {M : MemT} {g g0 g' : Nat → Int32} {A A0 : Nat → Nat → Int32} {u : Nat → Int} {n len p S0 : Nat} {e k w a v c d : Int32} {s : PSt} {W : Nat → Bool}
theorem y_tokM (hS : MShape M) (hu : YT M u) (h6 : g 6 = zi (len : Int)) (hl : len ≤ 700) (hpl : p ≤ len) (hn : 1000 < n) : g_X10_token n (YX M (mkR g (zi (p : Int)) k w a) A) 139 = some ((), YX M (AHf u len g p w) A) := y_tok hS hu h6 hl hpl hn
theorem gFr_v : gFr g (up1 (up1 (mkR g e k w a) 4 c) 5 d) := gFr_t gFr_m (gFr_t (gFr_u (by omega)) (gFr_u (by omega)))
theorem RYs_W (h : RYs g0 A0 len g A s) : RYs g0 A0 len (up1 g 18 (wBs W)) A (s.1, s.2.1, s.2.2.1, s.2.2.2.1, s.2.2.2.2.1, s.2.2.2.2.2.1, W) := ⟨⟨gFr_t h.1.1 (gFr_u (by omega)), h.1.2⟩, ⟨(up1_ne (by omega)).trans h.2.1.1, up1_at, (up1_ne (by omega)).trans h.2.1.2.2.1, (up1_ne (by omega)).trans h.2.1.2.2.2.1, (up1_ne (by omega)).trans h.2.1.2.2.2.2⟩, h.2.2⟩
theorem RYs_T {j x : Int} (h : RYs g0 A0 len g A s) (hj : 0 ≤ j ∧ j < 4) : RYs g0 A0 len g (up2 A 4 (7 + j).toNat (zi x)) (s.1, upZ s.2.1 j x, s.2.2) := by
  have eO : ∀ i : Int, i ≠ j → upZ s.2.1 j x i = s.2.1 i := fun i hi => upZ_ne hi
  have e4 := eO 4 (by omega)
  have e5 := eO 5 (by omega)
  have e6 := eO 6 (by omega)
  refine ⟨⟨h.1.1, AFr_w h.1.2.1 (by omega), TRAf_o h.1.2.2 (by omega)⟩, h.2.1, fun i q1 q2 => ?_, fun t i q1 q2 q3 q4 => (up2_ne (by omega)).trans (h.2.2.2.1 t i q1 q2 q3 q4), fun i q1 q2 => (up2_ne (by omega)).trans (h.2.2.2.2.1 i q1 (by rw [show (s.1, upZ s.2.1 j x, s.2.2).2.1 4 = s.2.1 4 from e4] at q2; exact q2)), fun i q1 q2 => (up2_ne (by omega)).trans (h.2.2.2.2.2.1 i q1 (by rw [show (s.1, upZ s.2.1 j x, s.2.2).2.1 5 = s.2.1 5 from e5] at q2; exact q2)), fun i q1 q2 => (up2_ne (by omega)).trans (h.2.2.2.2.2.2 i q1 (by rw [show (s.1, upZ s.2.1 j x, s.2.2).2.1 6 = s.2.1 6 from e6] at q2; exact q2))⟩
  show up2 A 4 (7 + j).toNat (zi x) 4 (7 + i).toNat = zi (upZ s.2.1 j x i)
  by_cases c : i = j
  · rw [c, upZ_self]
    exact if_pos ⟨rfl, rfl⟩
  · rw [upZ_ne c]
    exact (up2_ne (by omega)).trans (h.2.2.1 i q1 q2)
theorem wG_3 : (((wBs W >>> ((zi 3) &&& 31)) &&& 1) = 1) ↔ (W 3 = true) := by
  unfold wBs
  generalize W 3 = b3
  generalize W 4 = b4
  generalize W 5 = b5
  generalize W 6 = b6
  cases b3 <;> cases b4 <;> cases b5 <;> cases b6 <;> decide
theorem wS_3' : wBs W ||| ((1 : Int32) <<< ((zi 3) &&& 31)) = wBs (fun i => if i = 3 then true else W i) := by
  have h : ∀ f : Nat → Bool, (∀ i, i ≠ 3 → f i = W i) → f 3 = true → wBs W ||| ((1 : Int32) <<< ((zi 3) &&& 31)) = wBs f := by
    intro f h1 h2
    unfold wBs
    rw [h1 4 (by omega), h1 5 (by omega), h1 6 (by omega), h2]
    generalize W 3 = b3
    generalize W 4 = b4
    generalize W 5 = b5
    generalize W 6 = b6
    cases b3 <;> cases b4 <;> cases b5 <;> cases b6 <;> decide
  exact h _ (fun i hi => if_neg hi) (if_pos rfl)
theorem wG_4 : (((wBs W >>> ((zi 4) &&& 31)) &&& 1) = 1) ↔ (W 4 = true) := by
  unfold wBs
  generalize W 3 = b3
  generalize W 4 = b4
  generalize W 5 = b5
  generalize W 6 = b6
  cases b3 <;> cases b4 <;> cases b5 <;> cases b6 <;> decide
theorem wS_4' : wBs W ||| ((1 : Int32) <<< ((zi 4) &&& 31)) = wBs (fun i => if i = 4 then true else W i) := by
  have h : ∀ f : Nat → Bool, (∀ i, i ≠ 4 → f i = W i) → f 4 = true → wBs W ||| ((1 : Int32) <<< ((zi 4) &&& 31)) = wBs f := by
    intro f h1 h2
    unfold wBs
    rw [h1 3 (by omega), h1 5 (by omega), h1 6 (by omega), h2]
    generalize W 3 = b3
    generalize W 4 = b4
    generalize W 5 = b5
    generalize W 6 = b6
    cases b3 <;> cases b4 <;> cases b5 <;> cases b6 <;> decide
  exact h _ (fun i hi => if_neg hi) (if_pos rfl)
theorem wG_5 : (((wBs W >>> ((zi 5) &&& 31)) &&& 1) = 1) ↔ (W 5 = true) := by
  unfold wBs
  generalize W 3 = b3
  generalize W 4 = b4
  generalize W 5 = b5
  generalize W 6 = b6
  cases b3 <;> cases b4 <;> cases b5 <;> cases b6 <;> decide
theorem wS_5' : wBs W ||| ((1 : Int32) <<< ((zi 5) &&& 31)) = wBs (fun i => if i = 5 then true else W i) := by
  have h : ∀ f : Nat → Bool, (∀ i, i ≠ 5 → f i = W i) → f 5 = true → wBs W ||| ((1 : Int32) <<< ((zi 5) &&& 31)) = wBs f := by
    intro f h1 h2
    unfold wBs
    rw [h1 3 (by omega), h1 4 (by omega), h1 6 (by omega), h2]
    generalize W 3 = b3
    generalize W 4 = b4
    generalize W 5 = b5
    generalize W 6 = b6
    cases b3 <;> cases b4 <;> cases b5 <;> cases b6 <;> decide
  exact h _ (fun i hi => if_neg hi) (if_pos rfl)
theorem wG_6 : (((wBs W >>> ((zi 6) &&& 31)) &&& 1) = 1) ↔ (W 6 = true) := by
  unfold wBs
  generalize W 3 = b3
  generalize W 4 = b4
  generalize W 5 = b5
  generalize W 6 = b6
  cases b3 <;> cases b4 <;> cases b5 <;> cases b6 <;> decide
theorem wS_6' : wBs W ||| ((1 : Int32) <<< ((zi 6) &&& 31)) = wBs (fun i => if i = 6 then true else W i) := by
  have h : ∀ f : Nat → Bool, (∀ i, i ≠ 6 → f i = W i) → f 6 = true → wBs W ||| ((1 : Int32) <<< ((zi 6) &&& 31)) = wBs f := by
    intro f h1 h2
    unfold wBs
    rw [h1 3 (by omega), h1 4 (by omega), h1 5 (by omega), h2]
    generalize W 3 = b3
    generalize W 4 = b4
    generalize W 5 = b5
    generalize W 6 = b6
    cases b3 <;> cases b4 <;> cases b5 <;> cases b6 <;> decide
  exact h _ (fun i hi => if_neg hi) (if_pos rfl)
theorem y_lnN4 (hS : MShape M) (hu : YT M u) (hl : len ≤ 700) (hpl : p ≤ len) (hn : 1000 < n) (hR : RYs g0 A0 len g A s) : LYo M g0 A0 u len (lnNm s u len S0 p 4 10 1000) (g_X10_wordLine n (YX M (mkR g (zi (p : Int)) k (zi 4) (zi (S0 : Int))) A) 139) := by
  have h18 : mkR g (zi (p : Int)) k (zi 4) (zi (S0 : Int)) 18 = wBs s.2.2.2.2.2.2 := (mk_o (by omega)).trans hR.2.1.2.1
  obtain ⟨e1, e2⟩ := tkE_r (u := u) hpl
  unfold lnNm g_X10_wordLine
  rw [y_gI hS, i_sb, show mkR g (zi (p : Int)) k (zi 4) (zi (S0 : Int)) 9 = zi 4 from rfl, y_gI hS, i_sb, h18]
  by_cases c : s.2.2.2.2.2.2 4 = true
  · rw [if_pos c, if_pos (wG_4.mpr c), y_k hS, y_wrong hS, i_bd]
    exact Or.inl ⟨3, S0, _, A, rfl, rz_0, rfl, rfl, gFr_t hR.1.1 gFr_v, hR.1.2⟩
  · have hR1 : RYs g0 A0 len (up1 g 18 (wBs (fun i => if i = 4 then true else s.2.2.2.2.2.2 i))) A _ := RYs_W hR
    have h6 := hR1.2.1.2.2.1
    rw [if_neg c, if_neg (fun q => c (wG_4.mp q)), i_sb, y_pI hS, i_sb, wS_4', mk_uo (by omega), y_k hS, y_tokM hS hu h6 hl hpl hn, i_bd, if_neg (show ¬ (zi 4 = (3 : Int32)) by decide), i_jp, if_pos (show zi 4 = (4 : Int32) from rfl), y_k hS]
    generalize up1 g 18 (wBs (fun i => if i = 4 then true else s.2.2.2.2.2.2 i)) = gg at *
    rcases y_num (g := gg) (w := zi 4) (A := A) (lo := 10) (hi := 1000) hS hu h6 hl hpl hn (by omega) (by omega) with ⟨c', g', r3, r4, r5, r6, r7⟩ | ⟨r3, r4, w', r5⟩
    · rw [r3, show g_X10_number n _ 139 10 1000 = _ from r4, i_bd, if_pos (show zi 0 = (0 : Int32) from rfl)]
      exact Or.inl ⟨c', _, g', A, rfl, rz_0, r5, r6, gFr_t hR1.1.1 r7, hR1.1.2⟩
    · rw [r3, pb_r, show g_X10_number n _ 139 10 1000 = _ from r5, i_bd, if_neg (show ¬ (zi 1 = (0 : Int32)) by decide)]
      dsimp only
      rw [y_o17 hS, i_sb, if_pos (show zi 4 = (4 : Int32) from rfl), y_gI hS, i_sb, show AHf u len (up1 gg 19 (zi (numV u len p))) (tkE u len p) w' 19 = zi (numV u len p) from rfl, show wI (YX M (AHf u len (up1 gg 19 (zi (numV u len p))) (tkE u len p) w') A) 146 8 (zi (numV u len p)) = some (YX M (AHf u len (up1 gg 19 (zi (numV u len p))) (tkE u len p) w') (up2 A 4 8 (zi (numV u len p)))) from y_w4 hS (i := 8) (by omega) (by omega), i_sb]
      have hR2 := RYs_T (j := 1) (x := numV u len p) (RYs_19 (v := zi (numV u len p)) hR1) (by omega)
      exact Or.inr ⟨_, _, _, _, w', rfl, e2, rz_1, hR2⟩
theorem y_lnN5 (hS : MShape M) (hu : YT M u) (hl : len ≤ 700) (hpl : p ≤ len) (hn : 1000 < n) (hR : RYs g0 A0 len g A s) : LYo M g0 A0 u len (lnNm s u len S0 p 5 0 9999) (g_X10_wordLine n (YX M (mkR g (zi (p : Int)) k (zi 5) (zi (S0 : Int))) A) 139) := by
  have h18 : mkR g (zi (p : Int)) k (zi 5) (zi (S0 : Int)) 18 = wBs s.2.2.2.2.2.2 := (mk_o (by omega)).trans hR.2.1.2.1
  obtain ⟨e1, e2⟩ := tkE_r (u := u) hpl
  unfold lnNm g_X10_wordLine
  rw [y_gI hS, i_sb, show mkR g (zi (p : Int)) k (zi 5) (zi (S0 : Int)) 9 = zi 5 from rfl, y_gI hS, i_sb, h18]
  by_cases c : s.2.2.2.2.2.2 5 = true
  · rw [if_pos c, if_pos (wG_5.mpr c), y_k hS, y_wrong hS, i_bd]
    exact Or.inl ⟨3, S0, _, A, rfl, rz_0, rfl, rfl, gFr_t hR.1.1 gFr_v, hR.1.2⟩
  · have hR1 : RYs g0 A0 len (up1 g 18 (wBs (fun i => if i = 5 then true else s.2.2.2.2.2.2 i))) A _ := RYs_W hR
    have h6 := hR1.2.1.2.2.1
    rw [if_neg c, if_neg (fun q => c (wG_5.mp q)), i_sb, y_pI hS, i_sb, wS_5', mk_uo (by omega), y_k hS, y_tokM hS hu h6 hl hpl hn, i_bd, if_neg (show ¬ (zi 5 = (3 : Int32)) by decide), i_jp, if_neg (show ¬ (zi 5 = (4 : Int32)) by decide), if_pos (show zi 5 = (5 : Int32) from rfl), y_k hS]
    generalize up1 g 18 (wBs (fun i => if i = 5 then true else s.2.2.2.2.2.2 i)) = gg at *
    rcases y_num (g := gg) (w := zi 5) (A := A) (lo := 0) (hi := 9999) hS hu h6 hl hpl hn (by omega) (by omega) with ⟨c', g', r3, r4, r5, r6, r7⟩ | ⟨r3, r4, w', r5⟩
    · rw [r3, show g_X10_number n _ 139 0 9999 = _ from r4, i_bd, if_pos (show zi 0 = (0 : Int32) from rfl)]
      exact Or.inl ⟨c', _, g', A, rfl, rz_0, r5, r6, gFr_t hR1.1.1 r7, hR1.1.2⟩
    · rw [r3, pb_r, show g_X10_number n _ 139 0 9999 = _ from r5, i_bd, if_neg (show ¬ (zi 1 = (0 : Int32)) by decide)]
      dsimp only
      rw [y_o17 hS, i_sb, if_neg (show ¬ (zi 5 = (4 : Int32)) by decide), if_pos (show zi 5 = (5 : Int32) from rfl), y_gI hS, i_sb, show AHf u len (up1 gg 19 (zi (numV u len p))) (tkE u len p) w' 19 = zi (numV u len p) from rfl, show wI (YX M (AHf u len (up1 gg 19 (zi (numV u len p))) (tkE u len p) w') A) 146 9 (zi (numV u len p)) = some (YX M (AHf u len (up1 gg 19 (zi (numV u len p))) (tkE u len p) w') (up2 A 4 9 (zi (numV u len p)))) from y_w4 hS (i := 9) (by omega) (by omega), i_sb]
      have hR2 := RYs_T (j := 2) (x := numV u len p) (RYs_19 (v := zi (numV u len p)) hR1) (by omega)
      exact Or.inr ⟨_, _, _, _, w', rfl, e2, rz_1, hR2⟩
theorem y_lnN6 (hS : MShape M) (hu : YT M u) (hl : len ≤ 700) (hpl : p ≤ len) (hn : 1000 < n) (hR : RYs g0 A0 len g A s) : LYo M g0 A0 u len (lnNm s u len S0 p 6 0 99999) (g_X10_wordLine n (YX M (mkR g (zi (p : Int)) k (zi 6) (zi (S0 : Int))) A) 139) := by
  have h18 : mkR g (zi (p : Int)) k (zi 6) (zi (S0 : Int)) 18 = wBs s.2.2.2.2.2.2 := (mk_o (by omega)).trans hR.2.1.2.1
  obtain ⟨e1, e2⟩ := tkE_r (u := u) hpl
  unfold lnNm g_X10_wordLine
  rw [y_gI hS, i_sb, show mkR g (zi (p : Int)) k (zi 6) (zi (S0 : Int)) 9 = zi 6 from rfl, y_gI hS, i_sb, h18]
  by_cases c : s.2.2.2.2.2.2 6 = true
  · rw [if_pos c, if_pos (wG_6.mpr c), y_k hS, y_wrong hS, i_bd]
    exact Or.inl ⟨3, S0, _, A, rfl, rz_0, rfl, rfl, gFr_t hR.1.1 gFr_v, hR.1.2⟩
  · have hR1 : RYs g0 A0 len (up1 g 18 (wBs (fun i => if i = 6 then true else s.2.2.2.2.2.2 i))) A _ := RYs_W hR
    have h6 := hR1.2.1.2.2.1
    rw [if_neg c, if_neg (fun q => c (wG_6.mp q)), i_sb, y_pI hS, i_sb, wS_6', mk_uo (by omega), y_k hS, y_tokM hS hu h6 hl hpl hn, i_bd, if_neg (show ¬ (zi 6 = (3 : Int32)) by decide), i_jp, if_neg (show ¬ (zi 6 = (4 : Int32)) by decide), if_neg (show ¬ (zi 6 = (5 : Int32)) by decide), y_k hS]
    generalize up1 g 18 (wBs (fun i => if i = 6 then true else s.2.2.2.2.2.2 i)) = gg at *
    rcases y_num (g := gg) (w := zi 6) (A := A) (lo := 0) (hi := 99999) hS hu h6 hl hpl hn (by omega) (by omega) with ⟨c', g', r3, r4, r5, r6, r7⟩ | ⟨r3, r4, w', r5⟩
    · rw [r3, show g_X10_number n _ 139 0 99999 = _ from r4, i_bd, if_pos (show zi 0 = (0 : Int32) from rfl)]
      exact Or.inl ⟨c', _, g', A, rfl, rz_0, r5, r6, gFr_t hR1.1.1 r7, hR1.1.2⟩
    · rw [r3, pb_r, show g_X10_number n _ 139 0 99999 = _ from r5, i_bd, if_neg (show ¬ (zi 1 = (0 : Int32)) by decide)]
      dsimp only
      rw [y_o17 hS, i_sb, if_neg (show ¬ (zi 6 = (4 : Int32)) by decide), if_neg (show ¬ (zi 6 = (5 : Int32)) by decide), y_gI hS, i_sb, show AHf u len (up1 gg 19 (zi (numV u len p))) (tkE u len p) w' 19 = zi (numV u len p) from rfl, show wI (YX M (AHf u len (up1 gg 19 (zi (numV u len p))) (tkE u len p) w') A) 146 10 (zi (numV u len p)) = some (YX M (AHf u len (up1 gg 19 (zi (numV u len p))) (tkE u len p) w') (up2 A 4 10 (zi (numV u len p)))) from y_w4 hS (i := 10) (by omega) (by omega), i_sb]
      have hR2 := RYs_T (j := 3) (x := numV u len p) (RYs_19 (v := zi (numV u len p)) hR1) (by omega)
      exact Or.inr ⟨_, _, _, _, w', rfl, e2, rz_1, hR2⟩
theorem y_lnRd (hS : MShape M) (hu : YT M u) (hl : len ≤ 700) (hpl : p ≤ len) (hn : 1000 < n) (hR : RYs g0 A0 len g A s) : LYo M g0 A0 u len (lnRd s u len S0 p) (g_X10_wordLine n (YX M (mkR g (zi (p : Int)) k (zi 3) (zi (S0 : Int))) A) 139) := by
  have h18 : mkR g (zi (p : Int)) k (zi 3) (zi (S0 : Int)) 18 = wBs s.2.2.2.2.2.2 := (mk_o (by omega)).trans hR.2.1.2.1
  obtain ⟨e1, e2⟩ := tkE_r (u := u) hpl
  obtain ⟨-, -, k1, k2, -⟩ := kind_w (u := u) hpl
  have hKr := tkKM_r (u := u) (len := len) (p := p)
  have e1' : (zi (tkKM u len p) = (1 : Int32)) = (tkKM u len p = 1) := zi_eq (b := 1) (by omega) (by omega) (by omega) (by omega)
  unfold lnRd g_X10_wordLine
  rw [y_gI hS, i_sb, show mkR g (zi (p : Int)) k (zi 3) (zi (S0 : Int)) 9 = zi 3 from rfl, y_gI hS, i_sb, h18]
  by_cases c : s.2.2.2.2.2.2 3 = true
  · rw [if_pos c, if_pos (wG_3.mpr c), y_k hS, y_wrong hS, i_bd]
    exact Or.inl ⟨3, S0, _, A, rfl, rz_0, rfl, rfl, gFr_t hR.1.1 gFr_v, hR.1.2⟩
  · have hR1 : RYs g0 A0 len (up1 g 18 (wBs (fun i => if i = 3 then true else s.2.2.2.2.2.2 i))) A _ := RYs_W hR
    have h6 := hR1.2.1.2.2.1
    rw [if_neg c, if_neg (fun q => c (wG_3.mp q)), i_sb, y_pI hS, i_sb, wS_3', mk_uo (by omega), y_k hS, y_tokM hS hu h6 hl hpl hn, i_bd, if_pos (show zi 3 = (3 : Int32) from rfl), y_gI hS, i_sb, show AHf u len (up1 g 18 (wBs (fun i => if i = 3 then true else s.2.2.2.2.2.2 i))) p (zi 3) 8 = zi (tkKM u len p) from rfl]
    generalize up1 g 18 (wBs (fun i => if i = 3 then true else s.2.2.2.2.2.2 i)) = gg at *
    have go : ∀ x : Int, wI (YX M (AHf u len gg p (zi 3)) A) 146 7 (zi x) = some (YX M (AHf u len gg p (zi 3)) (up2 A 4 7 (zi x))) := fun x => y_w4 hS (i := 7) (by omega) (by omega)
    by_cases c1 : tkK u len p = 1
    · cases hf : wdX u len p with
      | none =>
        rw [if_neg (fun q => by rcases q.2 with q | q | q <;> exact absurd q (by simp)), if_neg (by rw [e1']; exact fun q => (k1.mp q).2 hf), y_k hS, y_wrong hS, i_bd]
        exact Or.inl ⟨1, tkS u len p, _, A, rfl, rz_0, rfl, rfl, gFr_t hR1.1.1 gFr_w, hR1.1.2⟩
      | some j =>
        have hj : j < 13 := by have := (fnd_lt (show fnd (mtX u (tkS u len p) (tkE u len p)) 0 13 = some j from hf)).2.1; omega
        have k3 := k2 j c1 hf
        have hsw : swW j < 13 := by unfold swW; split <;> (try split) <;> omega
        have e10 : ((10 : Int32) ≤ zi ((swW j : Nat) : Int)) = ((10 : Int) ≤ ((swW j : Nat) : Int)) := zi_le (a := 10) (by omega) (by omega) (by omega) (by omega)
        have e11' : (zi ((swW j : Nat) : Int) = (11 : Int32)) = (((swW j : Nat) : Int) = 11) := zi_eq (b := 11) (by omega) (by omega) (by omega) (by omega)
        have e10' : (zi ((swW j : Nat) : Int) = (10 : Int32)) = (((swW j : Nat) : Int) = 10) := zi_eq (b := 10) (by omega) (by omega) (by omega) (by omega)
        have hs1 : j = 10 → swW j = 11 := fun q => by rw [q]; rfl
        have hs2 : j = 11 → swW j = 10 := fun q => by rw [q]; rfl
        have hs3 : j ≠ 10 → j ≠ 11 → swW j = j := fun q1 q2 => by unfold swW; rw [if_neg q1, if_neg q2]
        rw [if_pos (show zi (tkKM u len p) = (1 : Int32) by rw [e1']; exact k1.mpr ⟨c1, by rw [hf]; simp⟩), y_gI hS, i_sb, show AHf u len gg p (zi 3) 9 = tkWM u len p (zi 3) from rfl, k3]
        by_cases c10 : j = 10
        · have hR2 := RYs_T (j := 0) (x := 0) hR1 (by omega)
          have h62 := hR2.2.1.2.2.1
          rw [if_pos ⟨c1, Or.inl (congrArg some c10)⟩, if_pos (congrArg some c10), if_pos (by rw [e10, hs1 c10]; omega), y_o17 hS, i_sb, i_sb, if_pos (by rw [e11', hs1 c10]; rfl), show wI (YX M (AHf u len gg p (zi 3)) A) 146 7 0 = _ from go 0, i_sb, y_k hS, y_tokA hS hu h62 hl hpl hn, i_bd]
          exact Or.inr ⟨_, _, _, _, _, rfl, e2, rz_1, hR2⟩
        · by_cases c11 : j = 11
          · have hR2 := RYs_T (j := 0) (x := 1) hR1 (by omega)
            have h62 := hR2.2.1.2.2.1
            rw [if_pos ⟨c1, Or.inr (Or.inl (congrArg some c11))⟩, if_neg (fun q => c10 (Option.some.inj q)), if_pos (congrArg some c11), if_pos (by rw [e10, hs2 c11]; omega), y_o17 hS, i_sb, i_sb, if_neg (by rw [e11', hs2 c11]; omega), i_sb, if_pos (by rw [e10', hs2 c11]; rfl), show wI (YX M (AHf u len gg p (zi 3)) A) 146 7 1 = _ from go 1, i_sb, y_k hS, y_tokA hS hu h62 hl hpl hn, i_bd]
            exact Or.inr ⟨_, _, _, _, _, rfl, e2, rz_1, hR2⟩
          · have hsj := hs3 c10 c11
            by_cases c12 : j = 12
            · have hR2 := RYs_T (j := 0) (x := 2) hR1 (by omega)
              have h62 := hR2.2.1.2.2.1
              rw [if_pos ⟨c1, Or.inr (Or.inr (congrArg some c12))⟩, if_neg (fun q => c10 (Option.some.inj q)), if_neg (fun q => c11 (Option.some.inj q)), if_pos (by rw [e10]; omega), y_o17 hS, i_sb, i_sb, if_neg (by rw [e11']; omega), i_sb, if_neg (by rw [e10']; omega), show wI (YX M (AHf u len gg p (zi 3)) A) 146 7 2 = _ from go 2, i_sb, y_k hS, y_tokA hS hu h62 hl hpl hn, i_bd]
              exact Or.inr ⟨_, _, _, _, _, rfl, e2, rz_1, hR2⟩
            · rw [if_neg (fun q => by rcases q.2 with q | q | q <;> (have := Option.some.inj q; omega)), if_neg (by rw [e10]; omega), y_k hS, y_wrong hS, i_bd]
              exact Or.inl ⟨1, tkS u len p, _, A, rfl, rz_0, rfl, rfl, gFr_t hR1.1.1 gFr_w, hR1.1.2⟩
    · rw [if_neg (fun q => c1 q.1), if_neg (by rw [e1']; exact fun q => c1 (k1.mp q).1), y_k hS, y_wrong hS, i_bd]
      exact Or.inl ⟨1, tkS u len p, _, A, rfl, rz_0, rfl, rfl, gFr_t hR1.1.1 gFr_w, hR1.1.2⟩
end M36
