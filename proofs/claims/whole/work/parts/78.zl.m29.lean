/-! ===== PURE 84: the component's lines: round, step, limit, seed ===== -/
section M29
variable {M : MemT} {s : Nat} {f hd : Nat → Int32} {Z : Nat → Nat → Int32} {u : Nat → Int} {n len p S0 : Nat} {k st e v w : Int32} {g : PSt}
theorem RXs_W {j : Nat} {x : Int} (hR : RXs f hd Z g) (hg : ROk g) (hj : j ≤ 3) (h0 : j = 0 → 0 ≤ x ∧ x ≤ 2) (h1 : j = 1 → 10 ≤ x ∧ x ≤ 1000) (h2 : j = 2 → 0 ≤ x ∧ x ≤ 9999) (h3 : j = 3 → 0 ≤ x ∧ x ≤ 99999) : RXs (up1 f (13 + j) 1) hd (up2 Z 0 (7 + j) (zi x)) (setW g j x (j + 3)) ∧ ROk (setW g j x (j + 3)) := by
  obtain ⟨⟨⟨a0, a7, a8, a9, a10, a11, a12, a14⟩, hT, hC, hA⟩, hH, hW⟩ := hR
  have eT : ∀ i : Int, i ≠ j → (setW g j x (j + 3)).2.1 i = g.2.1 i := fun i hi => upZ_ne hi
  have eTj : (setW g j x (j + 3)).2.1 j = x := upZ_self
  have e : ∀ o y, o ≠ 0 → up2 Z 0 (7 + j) (zi x) o y = Z o y := fun o y h => up2_ne (by omega)
  have e0 : ∀ y, y ≠ 7 + j → up2 Z 0 (7 + j) (zi x) 0 y = Z 0 y := fun y h => up2_ne (by omega)
  have ea : up2 Z 0 (7 + j) (zi x) 0 (7 + j) = zi x := up2_at
  have fld : ∀ (i : Nat), i ≤ 3 → Z 0 (7 + i) = zi (g.2.1 (i : Int)) → up2 Z 0 (7 + j) (zi x) 0 (7 + i) = zi ((setW g j x (j + 3)).2.1 (i : Int)) := fun i hi hz => by
    by_cases c : i = j
    · rw [c, ea, eTj]
    · rw [e0 _ (by omega), eT _ (by omega), hz]
  have fl : ∀ i : Nat, 3 ≤ i → i ≤ 6 → f (10 + i) = bW (g.2.2.2.2.2.2 i) → up1 f (13 + j) 1 (10 + i) = bW (if i = j + 3 then true else g.2.2.2.2.2.2 i) := fun i i0 i1 hz => by
    by_cases c : i = j + 3
    · rw [if_pos c, show 10 + i = 13 + j by omega, up1_at]
      rfl
    · rw [if_neg c, up1_ne (by omega), hz]
  refine ⟨⟨⟨⟨(e0 0 (by omega)).trans a0, fld 0 (by omega) a7, fld 1 (by omega) a8, fld 2 (by omega) a9, fld 3 (by omega) a10, ?_, ?_, ?_⟩, fun t t0 t1 => ?_, ?_, ?_⟩, hH, fl 3 (by omega) (by omega) hW.1, fl 4 (by omega) (by omega) hW.2.1, fl 5 (by omega) (by omega) hW.2.2.1, fl 6 (by omega) (by omega) hW.2.2.2.1, (up1_ne (by omega)).trans hW.2.2.2.2.1, (up1_ne (by omega)).trans hW.2.2.2.2.2⟩, ?_⟩
  · rw [eT 4 (by omega)]
    exact (e0 11 (by omega)).trans a11
  · rw [eT 5 (by omega)]
    exact (e0 12 (by omega)).trans a12
  · rw [eT 6 (by omega)]
    exact (e0 14 (by omega)).trans a14
  · have q := hT t t0 t1
    exact ⟨(e _ _ (by omega)).trans q.1, (e _ _ (by omega)).trans q.2.1, (e _ _ (by omega)).trans q.2.2.1, (e _ _ (by omega)).trans q.2.2.2.1, (e _ _ (by omega)).trans q.2.2.2.2.1, (e _ _ (by omega)).trans q.2.2.2.2.2⟩
  · obtain ⟨cs, c1, c2, c3⟩ := hC
    rw [eT 4 (by omega), eT 5 (by omega)]
    refine ⟨cs, c1, c2, fun i hi => ?_⟩
    rw [e 7 _ (by omega), e 7 _ (by omega), e 7 _ (by omega), e 7 _ (by omega)]
    exact c3 i hi
  · rw [eT 6 (by omega)]
    intro i i0 i1
    exact (e 8 _ (by omega)).trans (hA i i0 i1)
  · obtain ⟨g1, ⟨b0, b1, b2⟩, g3, g4, g5, g6⟩ := hg
    refine ⟨g1, ⟨?_, ?_, ?_⟩, ?_, g4, ?_, ?_⟩
    · by_cases c : j = 0
      · have := eTj; rw [c] at this
        rw [show (0 : Int) = ((0 : Nat) : Int) from rfl, c, this]
        exact h0 c
      · rw [eT 0 (by omega)]; exact b0
    · by_cases c : j = 1
      · have := eTj; rw [c] at this
        rw [show (1 : Int) = ((1 : Nat) : Int) from rfl, c, this]
        exact h1 c
      · rw [eT 1 (by omega)]; exact b1
    · by_cases c : j = 2
      · have := eTj; rw [c] at this
        rw [show (2 : Int) = ((2 : Nat) : Int) from rfl, c, this]
        exact h2 c
      · rw [eT 2 (by omega)]; exact b2
    · by_cases c : j = 3
      · have := eTj; rw [c] at this
        rw [show (3 : Int) = ((3 : Nat) : Int) from rfl, c, this]
        exact h3 c
      · rw [eT 3 (by omega)]; exact g3
    · show RowsOk (setW g j x (j + 3)).2.1 g.2.2.2.1 g.2.2.2.2.1 g.2.2.2.2.2.1
      unfold RowsOk at g5 ⊢
      rw [eT 4 (by omega), eT 5 (by omega), eT 6 (by omega)]
      exact g5
    · show RowsNt (setW g j x (j + 3)).2.1 g.2.2.2.2.2.1 g.1
      unfold RowsNt at g6 ⊢
      rw [eT 6 (by omega)]
      exact g6
theorem bW_0 {b : Bool} : (bW b = (0 : Int32)) = (b = false) := by cases b <;> simp [bW]
theorem x_lnNm (hp : PSh M s) (hu : XT M u) (h3 : f 3 = zi (len : Int)) (hl : len ≤ 700) (hpl : p ≤ len) (hn : 1000 < n) (hR : RXs f hd Z g) (hg : ROk g) : LXo M s len (lnNm g u len S0 p 4 10 1000) (g_X5_readStep n (PX M s (tkR f k (zi (S0 : Int)) (zi (p : Int)) v) hd Z) 2) ∧ LXo M s len (lnNm g u len S0 p 5 0 9999) (g_X5_readLimit n (PX M s (tkR f k (zi (S0 : Int)) (zi (p : Int)) v) hd Z) 2) ∧ LXo M s len (lnNm g u len S0 p 6 0 99999) (g_X5_readSeed n (PX M s (tkR f k (zi (S0 : Int)) (zi (p : Int)) v) hd Z) 2) := by
  obtain ⟨e1, e2⟩ := tkE_r (u := u) hpl
  refine ⟨?_, ?_, ?_⟩
  · unfold lnNm g_X5_readStep
    rw [p_gI hp, i_sb, tk_o (by omega), hR.2.2.2.1, i_jp]
    by_cases c : g.2.2.2.2.2.2 4 = true
    · rw [if_pos c, if_neg (show ¬ (bW (g.2.2.2.2.2.2 4) = (0 : Int32)) by rw [c]; decide)]
      dsimp only
      rw [p_k hp, x_newF hp, i_bd, if_pos (show zi 0 = (0 : Int32) from rfl)]
      exact Or.inl ⟨3, S0, _, _, _, rfl, rz_0, rfl, rfl⟩
    · rw [if_neg c, if_pos (show bW (g.2.2.2.2.2.2 4) = (0 : Int32) by rw [bW_0]; simpa using c)]
      dsimp only
      rw [p_k hp, x_newT hp, i_bd, if_neg (show ¬ (zi 1 = (0 : Int32)) by decide), p_k hp]
      rcases x_num (k := k) (st := zi (S0 : Int)) (v := v) (hd := hd) (Z := Z) (lo := 10) (hi := 1000) hp hu h3 hl hpl hn (by omega) (by omega) with ⟨c', f', r3, r4, r5, r6⟩ | ⟨r3, r4, r5⟩
      · rw [r3, show g_X5_takeNumber n _ 2 10 1000 = _ from r4, i_bd, if_pos (show zi 0 = (0 : Int32) from rfl)]
        exact Or.inl ⟨c', _, f', _, _, rfl, rz_0, r5, r6⟩
      · obtain ⟨z1, z2⟩ := RXs_W (j := 1) (x := numV u len p) hR hg (by omega) (by omega) (fun _ => r4) (by omega) (by omega)
        rw [r3, show g_X5_takeNumber n _ 2 10 1000 = _ from r5, i_bd, if_neg (show ¬ (zi 1 = (0 : Int32)) by decide), p_o4 hp, i_sb, p_gI hp, i_sb, tk_8, p_pR hp, i_sb, p_pZ hp (Or.inr rfl), i_sb, tk_uo (by omega)]
        exact Or.inr ⟨_, _, _, _, _, _, _, _, rfl, e2, rz_1, (up1_ne (by omega)).trans h3, z1, z2⟩
  · unfold lnNm g_X5_readLimit
    rw [p_gI hp, i_sb, tk_o (by omega), hR.2.2.2.2.1, i_jp]
    by_cases c : g.2.2.2.2.2.2 5 = true
    · rw [if_pos c, if_neg (show ¬ (bW (g.2.2.2.2.2.2 5) = (0 : Int32)) by rw [c]; decide)]
      dsimp only
      rw [p_k hp, x_newF hp, i_bd, if_pos (show zi 0 = (0 : Int32) from rfl)]
      exact Or.inl ⟨3, S0, _, _, _, rfl, rz_0, rfl, rfl⟩
    · rw [if_neg c, if_pos (show bW (g.2.2.2.2.2.2 5) = (0 : Int32) by rw [bW_0]; simpa using c)]
      dsimp only
      rw [p_k hp, x_newT hp, i_bd, if_neg (show ¬ (zi 1 = (0 : Int32)) by decide), p_k hp]
      rcases x_num (k := k) (st := zi (S0 : Int)) (v := v) (hd := hd) (Z := Z) (lo := 0) (hi := 9999) hp hu h3 hl hpl hn (by omega) (by omega) with ⟨c', f', r3, r4, r5, r6⟩ | ⟨r3, r4, r5⟩
      · rw [r3, show g_X5_takeNumber n _ 2 0 9999 = _ from r4, i_bd, if_pos (show zi 0 = (0 : Int32) from rfl)]
        exact Or.inl ⟨c', _, f', _, _, rfl, rz_0, r5, r6⟩
      · obtain ⟨z1, z2⟩ := RXs_W (j := 2) (x := numV u len p) hR hg (by omega) (by omega) (by omega) (fun _ => r4) (by omega)
        rw [r3, show g_X5_takeNumber n _ 2 0 9999 = _ from r5, i_bd, if_neg (show ¬ (zi 1 = (0 : Int32)) by decide), p_o4 hp, i_sb, p_gI hp, i_sb, tk_8, p_pR hp, i_sb, p_pZ hp (Or.inr rfl), i_sb, tk_uo (by omega)]
        exact Or.inr ⟨_, _, _, _, _, _, _, _, rfl, e2, rz_1, (up1_ne (by omega)).trans h3, z1, z2⟩
  · unfold lnNm g_X5_readSeed
    rw [p_gI hp, i_sb, tk_o (by omega), hR.2.2.2.2.2.1, i_jp]
    by_cases c : g.2.2.2.2.2.2 6 = true
    · rw [if_pos c, if_neg (show ¬ (bW (g.2.2.2.2.2.2 6) = (0 : Int32)) by rw [c]; decide)]
      dsimp only
      rw [p_k hp, x_newF hp, i_bd, if_pos (show zi 0 = (0 : Int32) from rfl)]
      exact Or.inl ⟨3, S0, _, _, _, rfl, rz_0, rfl, rfl⟩
    · rw [if_neg c, if_pos (show bW (g.2.2.2.2.2.2 6) = (0 : Int32) by rw [bW_0]; simpa using c)]
      dsimp only
      rw [p_k hp, x_newT hp, i_bd, if_neg (show ¬ (zi 1 = (0 : Int32)) by decide), p_k hp]
      rcases x_num (k := k) (st := zi (S0 : Int)) (v := v) (hd := hd) (Z := Z) (lo := 0) (hi := 99999) hp hu h3 hl hpl hn (by omega) (by omega) with ⟨c', f', r3, r4, r5, r6⟩ | ⟨r3, r4, r5⟩
      · rw [r3, show g_X5_takeNumber n _ 2 0 99999 = _ from r4, i_bd, if_pos (show zi 0 = (0 : Int32) from rfl)]
        exact Or.inl ⟨c', _, f', _, _, rfl, rz_0, r5, r6⟩
      · obtain ⟨z1, z2⟩ := RXs_W (j := 3) (x := numV u len p) hR hg (by omega) (by omega) (by omega) (by omega) (fun _ => r4)
        rw [r3, show g_X5_takeNumber n _ 2 0 99999 = _ from r5, i_bd, if_neg (show ¬ (zi 1 = (0 : Int32)) by decide), p_o4 hp, i_sb, p_gI hp, i_sb, tk_8, p_pR hp, i_sb, p_pZ hp (Or.inr rfl), i_sb, tk_uo (by omega)]
        exact Or.inr ⟨_, _, _, _, _, _, _, _, rfl, e2, rz_1, (up1_ne (by omega)).trans h3, z1, z2⟩
theorem x_lnRd (hp : PSh M s) (hu : XT M u) (h3 : f 3 = zi (len : Int)) (hl : len ≤ 700) (hpl : p ≤ len) (hn : 1000 < n) (hR : RXs f hd Z g) (hg : ROk g) : LXo M s len (lnRd g u len S0 p) (g_X5_readRound n (PX M s (tkR f k (zi (S0 : Int)) (zi (p : Int)) v) hd Z) 2) := by
  obtain ⟨s1, s2⟩ := tkS_r (u := u) hpl
  obtain ⟨e1, e2⟩ := tkE_r (u := u) hpl
  have hKr := tkK_r (u := u) (len := len) (p := p)
  have e1' : (zi (tkK u len p) = (1 : Int32)) = (tkK u len p = 1) := zi_eq (b := 1) (by omega) (by omega) (by omega) (by omega)
  have eqs : ∀ {T : Type} {j k : Nat} {x y : Option T}, j < 13 → eqK (some j) k x y = if j = k then x else y := fun {T j k x y} hj => if_pos hj
  have eqn : ∀ {T : Type} {k : Nat} {x y : Option T}, eqK none k x y = y := rfl
  have hw : wdX u len p = fnd (mtX u (tkS u len p) (tkE u len p)) 0 13 := rfl
  by_cases c : g.2.2.2.2.2.2 3 = true
  · rw [show lnRd g u len S0 p = .inl (3, S0) by unfold lnRd; rw [if_pos c]]
    unfold g_X5_readRound
    rw [p_gI hp, i_sb, tk_o (by omega), hR.2.2.1, i_jp, if_neg (show ¬ (bW (g.2.2.2.2.2.2 3) = (0 : Int32)) by rw [c]; decide)]
    dsimp only
    rw [p_k hp, x_newF hp, i_bd, if_pos (show zi 0 = (0 : Int32) from rfl)]
    exact Or.inl ⟨3, S0, _, _, _, rfl, rz_0, rfl, rfl⟩
  · have fl : LXo M s len (.inl (1, tkS u len p)) ((gI (PX M s (tkR f (zi (tkK u len p)) (zi (tkS u len p : Int)) (zi (tkE u len p : Int)) (tkV u len p)) hd Z) 4 2 6).bind (fun v22 => chk (PX M s (tkR f (zi (tkK u len p)) (zi (tkS u len p : Int)) (zi (tkE u len p : Int)) (tkV u len p)) hd Z) 4 2 (bd (g_X5_fail n (PX M s (tkR f (zi (tkK u len p)) (zi (tkS u len p : Int)) (zi (tkE u len p : Int)) (tkV u len p)) hd Z) 2 1 v22) (fun r23 M24 => rz r23 M24)))) := by
      rw [p_gI hp, i_sb, tk_6, p_k hp, x_fail hp, i_bd]
      exact Or.inl ⟨1, tkS u len p, _, _, _, rfl, rz_0, rfl, rfl⟩
    have ok : ∀ x : Int, 0 ≤ x → x ≤ 2 → LXo M s len (.inr (setW g 0 x 3, tkE u len p)) ((gO (PX M s (tkR f (zi (tkK u len p)) (zi (tkS u len p : Int)) (zi (tkE u len p : Int)) (tkV u len p)) hd Z) 4 2 4).bind (fun j13 => (pI (PX M s (tkR f (zi (tkK u len p)) (zi (tkS u len p : Int)) (zi (tkE u len p : Int)) (tkV u len p)) hd Z) 6 j13 7 (zi x)).bind (fun M14 => (pZ M14 4 2 13 1).bind (fun M15 => rz 1 M15)))) := fun x x0 x1 => by
      obtain ⟨z1, z2⟩ := RXs_W (j := 0) (x := x) hR hg (by omega) (fun _ => ⟨x0, x1⟩) (by omega) (by omega) (by omega)
      rw [p_o4 hp, i_sb, p_pR hp, i_sb, p_pZ hp (Or.inr rfl), i_sb, tk_uo (by omega)]
      exact Or.inr ⟨_, _, _, _, _, _, _, _, rfl, e2, rz_1, (up1_ne (by omega)).trans h3, z1, z2⟩
    have no : ¬ (tkK u len p = 1 ∧ (wdX u len p = some 10 ∨ wdX u len p = some 11 ∨ wdX u len p = some 12)) → lnRd g u len S0 p = .inl (1, tkS u len p) := fun q => by
      unfold lnRd
      rw [if_neg c, if_neg q]
    unfold g_X5_readRound
    rw [p_gI hp, i_sb, tk_o (by omega), hR.2.2.1, i_jp, if_pos (show bW (g.2.2.2.2.2.2 3) = (0 : Int32) by rw [bW_0]; simpa using c)]
    dsimp only
    rw [p_k hp, x_newT hp, i_bd, if_neg (show ¬ (zi 1 = (0 : Int32)) by decide), p_k hp, x_tok hp hu h3 hl hpl hn, i_bd, p_gI hp, i_sb, tk_5, i_jp]
    by_cases c1 : tkK u len p = 1
    · rw [if_pos (show zi (tkK u len p) = (1 : Int32) by rw [e1']; exact c1), p_o2 hp, i_sb, p_gI hp, i_sb, tk_6, p_gI hp, i_sb, tk_7, x_at hp hu e1 (by omega) (by omega), i_bd]
      dsimp only
      cases hf : fnd (mtX u (tkS u len p) (tkE u len p)) 0 13 with
      | none =>
        rw [hf] at hw
        rw [no (fun q => by rw [hw] at q; rcases q.2 with q | q | q <;> exact absurd q (by simp)), eqn, eqn, eqn]
        exact fl
      | some j =>
        rw [hf] at hw
        have hj : j < 13 := by have := (fnd_lt hf).2.1; omega
        rw [eqs hj, eqs hj, eqs hj]
        by_cases d0 : j = 10
        · rw [if_pos d0, show lnRd g u len S0 p = .inr (setW g 0 0 3, tkE u len p) by unfold lnRd; rw [if_neg c, if_pos ⟨c1, Or.inl (by rw [hw, d0])⟩, if_pos (by rw [hw, d0])]]
          exact ok 0 (by omega) (by omega)
        · rw [if_neg d0]
          by_cases d1 : j = 11
          · rw [if_pos d1, show lnRd g u len S0 p = .inr (setW g 0 1 3, tkE u len p) by unfold lnRd; rw [if_neg c, if_pos ⟨c1, Or.inr (Or.inl (by rw [hw, d1]))⟩, if_neg (fun q => d0 (Option.some.inj (hw.symm.trans q))), if_pos (by rw [hw, d1])]]
            exact ok 1 (by omega) (by omega)
          · rw [if_neg d1]
            by_cases d2 : j = 12
            · rw [if_pos d2, show lnRd g u len S0 p = .inr (setW g 0 2 3, tkE u len p) by unfold lnRd; rw [if_neg c, if_pos ⟨c1, Or.inr (Or.inr (by rw [hw, d2]))⟩, if_neg (fun q => d0 (Option.some.inj (hw.symm.trans q))), if_neg (fun q => d1 (Option.some.inj (hw.symm.trans q)))]]
              exact ok 2 (by omega) (by omega)
            · rw [if_neg d2, no (fun q => by rw [hw] at q; rcases q.2 with q | q | q; exact d0 (Option.some.inj q); exact d1 (Option.some.inj q); exact d2 (Option.some.inj q))]
              exact fl
    · rw [if_neg (show ¬ (zi (tkK u len p) = (1 : Int32)) by rw [e1']; exact c1), no (fun q => c1 q.1)]
      dsimp only
      rw [eqn, eqn, eqn]
      exact fl
end M29
