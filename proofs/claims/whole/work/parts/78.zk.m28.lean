/-! ===== PURE 83: the component's lines: head, start ===== -/
section M28
variable {M : MemT} {s : Nat} {f hd : Nat → Int32} {Z : Nat → Nat → Int32} {u : Nat → Int} {n len p S0 : Nat} {k st e v w : Int32} {g : PSt}
theorem pb_l {α β : Type} {x : Int × Nat} {q : α → (Int × Nat) ⊕ β} : pb (.inl x) q = .inl x := rfl
theorem pb_r {α β : Type} {a : α} {q : α → (Int × Nat) ⊕ β} : pb (.inr a) q = q a := rfl
theorem x_newT (hp : PSh M s) : g_X5_isNew n (PX M s f hd Z) 2 1 = some (zi 1, PX M s f hd Z) := by
  have := x_new (n := n) (f := f) (hd := hd) (Z := Z) hp (q := True)
  rw [if_pos trivial, if_pos trivial] at this
  exact this
theorem x_newF (hp : PSh M s) : g_X5_isNew n (PX M s f hd Z) 2 0 = some (zi 0, PX M s (up1 (up1 f 0 3) 1 (f 6)) hd Z) := by
  have := x_new (n := n) (f := f) (hd := hd) (Z := Z) hp (q := False)
  rw [if_neg (fun q => q), if_neg (fun q => q)] at this
  exact this
theorem hd_at {t : Nat} {o a t' j : Int} (j0 : 0 ≤ j) (j1 : j < 8) : (setHead g t o a).2.2.1 (8 * t' + j) = if t' = t then (if j = 3 then 1 else if j = 4 then o else if j = 5 then a else g.2.2.1 (8 * t' + j)) else g.2.2.1 (8 * t' + j) := by
  show (if 8 * t' + j = 8 * (t : Int) + 5 then a else if 8 * t' + j = 8 * (t : Int) + 4 then o else if 8 * t' + j = 8 * (t : Int) + 3 then 1 else g.2.2.1 (8 * t' + j)) = _
  by_cases c : t' = t
  · rw [if_pos c]
    by_cases c5 : j = 5
    · rw [if_pos (by omega), if_neg (by omega), if_neg (by omega), if_pos c5]
    · rw [if_neg (by omega)]
      by_cases c4 : j = 4
      · rw [if_pos (by omega), if_neg (by omega), if_pos c4]
      · rw [if_neg (by omega)]
        by_cases c3 : j = 3
        · rw [if_pos (by omega), if_pos c3]
        · rw [if_neg (by omega), if_neg c3, if_neg c4, if_neg c5]
  · rw [if_neg c, if_neg (by omega), if_neg (by omega), if_neg (by omega)]
theorem st_at {t : Nat} {x t' j : Int} (j0 : 0 ≤ j) (j1 : j < 8) : (setStart g t x).2.2.1 (8 * t' + j) = if t' = t then (if j = 6 then 1 else if j = 7 then x else g.2.2.1 (8 * t' + j)) else g.2.2.1 (8 * t' + j) := by
  show (if 8 * t' + j = 8 * (t : Int) + 7 then x else if 8 * t' + j = 8 * (t : Int) + 6 then 1 else g.2.2.1 (8 * t' + j)) = _
  by_cases c : t' = t
  · rw [if_pos c]
    by_cases c5 : j = 7
    · rw [if_pos (by omega), if_neg (by omega), if_pos c5]
    · rw [if_neg (by omega)]
      by_cases c4 : j = 6
      · rw [if_pos (by omega), if_pos c4]
      · rw [if_neg (by omega), if_neg c4, if_neg c5]
  · rw [if_neg c, if_neg (by omega), if_neg (by omega)]
theorem RXs_hd {t : Nat} {o a : Int} (hR : RXs f hd Z g) (hg : ROk g) (ht : (t : Int) < g.1) (ho : 0 ≤ o ∧ o ≤ a ∧ a ≤ 999) : RXs f (up1 hd t 1) (up2 (up2 Z 5 t (zi o)) 6 t (zi a)) (setHead g t o a) ∧ ROk (setHead g t o a) := by
  obtain ⟨⟨⟨a0, a7, a8, a9, a10, a11, a12, a14⟩, hT, hC, hA⟩, hH, hW⟩ := hR
  have e : ∀ x y, x ≠ 5 → x ≠ 6 → up2 (up2 Z 5 t (zi o)) 6 t (zi a) x y = Z x y := fun x y h1 h2 => (up2_ne (by omega)).trans (up2_ne (by omega))
  refine ⟨⟨⟨⟨(e _ _ (by omega) (by omega)).trans a0, (e _ _ (by omega) (by omega)).trans a7, (e _ _ (by omega) (by omega)).trans a8, (e _ _ (by omega) (by omega)).trans a9, (e _ _ (by omega) (by omega)).trans a10, (e _ _ (by omega) (by omega)).trans a11, (e _ _ (by omega) (by omega)).trans a12, (e _ _ (by omega) (by omega)).trans a14⟩, fun t' t0 t1 => ?_, ?_, fun j j0 j1 => (e _ _ (by omega) (by omega)).trans (hA j j0 j1)⟩, fun t' t0 t1 => ?_, hW⟩, ?_⟩
  · have q := hT t' t0 t1
    have h0 := hd_at (g := g) (t := t) (o := o) (a := a) (t' := t') (j := 0) (by omega) (by omega)
    rw [Int.add_zero] at h0
    rw [h0, hd_at (j := 1) (by omega) (by omega), hd_at (j := 2) (by omega) (by omega), hd_at (j := 6) (by omega) (by omega), hd_at (j := 7) (by omega) (by omega), hd_at (j := 4) (by omega) (by omega), hd_at (j := 5) (by omega) (by omega)]
    show up2 (up2 Z 5 t (zi o)) 6 t (zi a) 1 t'.toNat = _ ∧ up2 (up2 Z 5 t (zi o)) 6 t (zi a) 2 t'.toNat = _ ∧ up2 (up2 Z 5 t (zi o)) 6 t (zi a) 3 t'.toNat = _ ∧ up2 (up2 Z 5 t (zi o)) 6 t (zi a) 4 t'.toNat = _ ∧ up2 (up2 Z 5 t (zi o)) 6 t (zi a) 5 t'.toNat = _ ∧ up2 (up2 Z 5 t (zi o)) 6 t (zi a) 6 t'.toNat = _
    rw [e 1 _ (by omega) (by omega), e 2 _ (by omega) (by omega), e 3 _ (by omega) (by omega), e 4 _ (by omega) (by omega)]
    by_cases c : t' = t
    · simp only [if_pos c, Int.reduceEq, if_false, if_true]
      refine ⟨q.1, q.2.1, q.2.2.1, q.2.2.2.1, ?_, ?_⟩
      · rw [up2_ne (by omega), c, Int.toNat_natCast, up2_at]
      · rw [c, Int.toNat_natCast, up2_at]
    · simp only [if_neg c]
      refine ⟨q.1, q.2.1, q.2.2.1, q.2.2.2.1, ?_, ?_⟩
      · rw [up2_ne (by omega), up2_ne (by omega)]
        exact q.2.2.2.2.1
      · rw [up2_ne (by omega), up2_ne (by omega)]
        exact q.2.2.2.2.2
  · obtain ⟨cs, c1, c2, c3⟩ := hC
    refine ⟨cs, c1, c2, fun i hi => ?_⟩
    rw [e 7 _ (by omega) (by omega), e 7 _ (by omega) (by omega), e 7 _ (by omega) (by omega), e 7 _ (by omega) (by omega)]
    exact c3 i hi
  · have h3 := hd_at (g := g) (t := t) (o := o) (a := a) (t' := t') (j := 3) (by omega) (by omega)
    rw [h3]
    by_cases c : t' = t
    · rw [if_pos c, if_pos rfl, c, Int.toNat_natCast, up1_at]
      rfl
    · rw [if_neg c, up1_ne (by omega)]
      exact hH t' t0 t1
  · obtain ⟨g1, g2, g3, g4, g5, g6⟩ := hg
    refine ⟨g1, g2, g3, fun t' t0 t1 => ?_, g5, g6⟩
    have q := g4 t' t0 t1
    unfold trW at q ⊢
    rw [hd_at (j := 1) (by omega) (by omega), hd_at (j := 2) (by omega) (by omega), hd_at (j := 3) (by omega) (by omega), hd_at (j := 4) (by omega) (by omega), hd_at (j := 5) (by omega) (by omega), hd_at (j := 6) (by omega) (by omega), hd_at (j := 7) (by omega) (by omega)]
    by_cases c : t' = t
    · simp only [if_pos c, Int.reduceEq, if_false, if_true]
      exact ⟨q.1, q.2.1, Or.inr trivial, ho, q.2.2.2.2.1, q.2.2.2.2.2⟩
    · simp only [if_neg c]
      exact q
theorem RXs_st {t : Nat} {x : Int} (hR : RXs f hd Z g) (hg : ROk g) (ht : (t : Int) < g.1) (hx : 0 ≤ x ∧ x ≤ 1000) : RXs f hd (up2 Z 4 t (zi x)) (setStart g t x) ∧ ROk (setStart g t x) := by
  obtain ⟨⟨⟨a0, a7, a8, a9, a10, a11, a12, a14⟩, hT, hC, hA⟩, hH, hW⟩ := hR
  have e : ∀ q y, q ≠ 4 → up2 Z 4 t (zi x) q y = Z q y := fun q y h1 => up2_ne (by omega)
  refine ⟨⟨⟨⟨(e _ _ (by omega)).trans a0, (e _ _ (by omega)).trans a7, (e _ _ (by omega)).trans a8, (e _ _ (by omega)).trans a9, (e _ _ (by omega)).trans a10, (e _ _ (by omega)).trans a11, (e _ _ (by omega)).trans a12, (e _ _ (by omega)).trans a14⟩, fun t' t0 t1 => ?_, ?_, fun j j0 j1 => (e _ _ (by omega)).trans (hA j j0 j1)⟩, fun t' t0 t1 => ?_, hW⟩, ?_⟩
  · have q := hT t' t0 t1
    have h0 := st_at (g := g) (t := t) (x := x) (t' := t') (j := 0) (by omega) (by omega)
    rw [Int.add_zero] at h0
    rw [h0, st_at (j := 1) (by omega) (by omega), st_at (j := 2) (by omega) (by omega), st_at (j := 6) (by omega) (by omega), st_at (j := 7) (by omega) (by omega), st_at (j := 4) (by omega) (by omega), st_at (j := 5) (by omega) (by omega)]
    show up2 Z 4 t (zi x) 1 t'.toNat = _ ∧ up2 Z 4 t (zi x) 2 t'.toNat = _ ∧ up2 Z 4 t (zi x) 3 t'.toNat = _ ∧ up2 Z 4 t (zi x) 4 t'.toNat = _ ∧ up2 Z 4 t (zi x) 5 t'.toNat = _ ∧ up2 Z 4 t (zi x) 6 t'.toNat = _
    rw [e 1 _ (by omega), e 2 _ (by omega), e 3 _ (by omega), e 5 _ (by omega), e 6 _ (by omega)]
    by_cases c : t' = t
    · simp only [if_pos c, Int.reduceEq, if_false, if_true]
      refine ⟨q.1, q.2.1, q.2.2.1, ?_, q.2.2.2.2.1, q.2.2.2.2.2⟩
      rw [c, Int.toNat_natCast, up2_at]
    · simp only [if_neg c]
      refine ⟨q.1, q.2.1, q.2.2.1, ?_, q.2.2.2.2.1, q.2.2.2.2.2⟩
      rw [up2_ne (by omega)]
      exact q.2.2.2.1
  · obtain ⟨cs, c1, c2, c3⟩ := hC
    refine ⟨cs, c1, c2, fun i hi => ?_⟩
    rw [e 7 _ (by omega), e 7 _ (by omega), e 7 _ (by omega), e 7 _ (by omega)]
    exact c3 i hi
  · have h3 := st_at (g := g) (t := t) (x := x) (t' := t') (j := 3) (by omega) (by omega)
    rw [h3]
    have q := hH t' t0 t1
    by_cases c : t' = t
    · rw [if_pos c, if_neg (by omega), if_neg (by omega)]
      exact q
    · rw [if_neg c]
      exact q
  · obtain ⟨g1, g2, g3, g4, g5, g6⟩ := hg
    refine ⟨g1, g2, g3, fun t' t0 t1 => ?_, g5, g6⟩
    have q := g4 t' t0 t1
    unfold trW at q ⊢
    rw [st_at (j := 1) (by omega) (by omega), st_at (j := 2) (by omega) (by omega), st_at (j := 3) (by omega) (by omega), st_at (j := 4) (by omega) (by omega), st_at (j := 5) (by omega) (by omega), st_at (j := 6) (by omega) (by omega), st_at (j := 7) (by omega) (by omega)]
    by_cases c : t' = t
    · simp only [if_pos c, Int.reduceEq, if_false, if_true]
      exact ⟨q.1, q.2.1, q.2.2.1, q.2.2.2.1, Or.inr trivial, hx⟩
    · simp only [if_neg c]
      exact q
theorem x_lnHd (hp : PSh M s) (hu : XT M u) (h3 : f 3 = zi (len : Int)) (hl : len ≤ 700) (hpl : p ≤ len) (hn : 1000 < n) (hR : RXs f hd Z g) (hg : ROk g) : LXo M s len (lnHd g u len p) (g_X5_readHead n (PX M s (tkR f k st (zi (p : Int)) v) hd Z) 2) := by
  have hnt := hg.1
  obtain ⟨e1, e2⟩ := tkE_r (u := u) hpl
  unfold lnHd g_X5_readHead
  rcases x_trd (k := k) (st := st) (v := v) hp hu h3 hl hpl hn hR hg with ⟨c', pl, f', q1, q2, q3, q4⟩ | ⟨t, q1, ht, q2⟩
  · rw [q1, p_k hp, q2, i_bd, if_pos (show zi 0 = (0 : Int32) from rfl)]
    exact Or.inl ⟨c', _, f', _, _, rfl, rz_0, q3, q4⟩
  · have htw := hg.2.2.2.1 (t : Int) (by omega) ht
    have hh := hR.2.1 (t : Int) (by omega) ht
    rw [Int.toNat_natCast] at hh
    have h3' : up1 f 9 (zi (t : Int)) 3 = zi (len : Int) := (up1_ne (by omega)).trans h3
    rw [q1, pb_r, p_k hp, q2, i_bd, if_neg (show ¬ (zi 1 = (0 : Int32)) by decide), p_o12 hp, i_sb, p_gI hp, i_sb, tk_o (by omega), up1_at, p_hA hp (by omega) (by omega), i_sb, Int.toNat_natCast, hh, i_jp]
    dsimp only
    by_cases c : g.2.2.1 (8 * (t : Int) + 3) = 1
    · rw [if_pos c, c, if_neg (show ¬ (zi 1 = (0 : Int32)) by decide), p_k hp, x_newF hp, i_bd, if_pos (show zi 0 = (0 : Int32) from rfl)]
      exact Or.inl ⟨3, tkS u len p, _, _, _, rfl, rz_0, rfl, rfl⟩
    · have c0 : g.2.2.1 (8 * (t : Int) + 3) = 0 := by
        rcases htw.2.2.1 with q | q
        · exact q
        · exact absurd q c
      rw [if_neg c, c0, if_pos (show zi 0 = (0 : Int32) from rfl), p_k hp, x_newT hp, i_bd, if_neg (show ¬ (zi 1 = (0 : Int32)) by decide), p_k hp]
      rcases x_num (k := 1) (st := zi (tkS u len p : Int)) (v := tkV u len p) (hd := hd) (Z := Z) (lo := 0) (hi := 999) hp hu h3' hl e2 hn (by omega) (by omega) with ⟨c', f', r3, r4, r5, r6⟩ | ⟨r3, r4, r5⟩
      · rw [r3, show g_X5_takeNumber n _ 2 0 999 = _ from r4, i_bd, if_pos (show zi 0 = (0 : Int32) from rfl)]
        exact Or.inl ⟨c', _, f', _, _, rfl, rz_0, r5, r6⟩
      · obtain ⟨e3, e4⟩ := tkE_r (u := u) e2
        rw [r3, pb_r, show g_X5_takeNumber n _ 2 0 999 = _ from r5, i_bd, if_neg (show ¬ (zi 1 = (0 : Int32)) by decide), p_gI hp, i_sb, tk_8, p_k hp]
        dsimp only
        rcases x_num (k := 2) (st := zi (tkS u len (tkE u len p) : Int)) (v := zi (numV u len (tkE u len p))) (hd := hd) (Z := Z) (lo := numV u len (tkE u len p)) (hi := 999) hp hu h3' hl e4 hn (by omega) (by omega) with ⟨c', f', w3, w4, w5, w6⟩ | ⟨w3, w4, w5⟩
        · rw [w3, show g_X5_takeNumber n _ 2 (zi (numV u len (tkE u len p))) 999 = _ from w4, i_bd, if_pos (show zi 0 = (0 : Int32) from rfl)]
          exact Or.inl ⟨c', _, f', _, _, rfl, rz_0, w5, w6⟩
        · obtain ⟨e5, e6⟩ := tkE_r (u := u) e4
          obtain ⟨z1, z2⟩ := RXs_hd (t := t) (o := numV u len (tkE u len p)) (a := numV u len (tkE u len (tkE u len p))) (RXs_f (f' := up1 f 9 (zi (t : Int))) hR (fun j hj => up1_ne (by omega))) hg ht (by omega)
          have h11 : (1 : Int32) &&& 1 = 1 := by decide
          rw [w3, show g_X5_takeNumber n _ 2 (zi (numV u len (tkE u len p))) 999 = _ from w5, i_bd, if_neg (show ¬ (zi 1 = (0 : Int32)) by decide), p_o4 hp, i_sb, p_r5 hp, i_sb, p_gI hp, i_sb, tk_o (by omega), up1_at, p_w5 hp (by omega) (by omega), i_sb, Int.toNat_natCast, p_o4 hp, i_sb, p_r6 hp, i_sb, p_gI hp, i_sb, tk_o (by omega), up1_at, p_gI hp, i_sb, tk_8, p_w6 hp (by omega) (by omega), i_sb, Int.toNat_natCast, p_o12 hp, i_sb, p_gI hp, i_sb, tk_o (by omega), up1_at, p_hW hp (by omega) (by omega), i_sb, h11, Int.toNat_natCast]
          exact Or.inr ⟨_, _, _, _, _, _, _, _, rfl, e6, rz_1, h3', z1, z2⟩
theorem x_lnSt (hp : PSh M s) (hu : XT M u) (h3 : f 3 = zi (len : Int)) (hl : len ≤ 700) (hpl : p ≤ len) (hn : 1000 < n) (hR : RXs f hd Z g) (hg : ROk g) : LXo M s len (lnSt g u len p) (g_X5_readStart n (PX M s (tkR f k st (zi (p : Int)) v) hd Z) 2) := by
  have hnt := hg.1
  obtain ⟨e1, e2⟩ := tkE_r (u := u) hpl
  unfold lnSt g_X5_readStart
  rcases x_trd (k := k) (st := st) (v := v) hp hu h3 hl hpl hn hR hg with ⟨c', pl, f', q1, q2, q3, q4⟩ | ⟨t, q1, ht, q2⟩
  · rw [q1, p_k hp, q2, i_bd, if_pos (show zi 0 = (0 : Int32) from rfl)]
    exact Or.inl ⟨c', _, f', _, _, rfl, rz_0, q3, q4⟩
  · have htw := hg.2.2.2.1 (t : Int) (by omega) ht
    have hh : Z 4 t = zi (if g.2.2.1 (8 * (t : Int) + 6) = 1 then g.2.2.1 (8 * (t : Int) + 7) else -2) := by
      have := (hR.1.2.1 (t : Int) (by omega) ht).2.2.2.1
      rw [Int.toNat_natCast] at this
      exact this
    have h3' : up1 f 9 (zi (t : Int)) 3 = zi (len : Int) := (up1_ne (by omega)).trans h3
    rw [q1, pb_r, p_k hp, q2, i_bd, if_neg (show ¬ (zi 1 = (0 : Int32)) by decide), p_o4 hp, i_sb, p_r4 hp, i_sb, p_gI hp, i_sb, tk_o (by omega), up1_at, p_a4 hp (by omega) (by omega), i_sb, Int.toNat_natCast, hh, i_jp]
    dsimp only
    by_cases c : g.2.2.1 (8 * (t : Int) + 6) = 1
    · have h7 := htw.2.2.2.2.2
      rw [if_pos c, if_pos c, if_neg (by show ¬ (zi (g.2.2.1 (8 * (t : Int) + 7)) = zi (-2)); rw [zi_eq (by omega) (by omega) (by omega) (by omega)]; omega), p_k hp, x_newF hp, i_bd, if_pos (show zi 0 = (0 : Int32) from rfl)]
      exact Or.inl ⟨3, tkS u len p, _, _, _, rfl, rz_0, rfl, rfl⟩
    · rw [if_neg c, if_neg c, if_pos (show zi (-2) = (-2 : Int32) from rfl), p_k hp, x_newT hp, i_bd, if_neg (show ¬ (zi 1 = (0 : Int32)) by decide), p_k hp]
      rcases x_num (k := 1) (st := zi (tkS u len p : Int)) (v := tkV u len p) (hd := hd) (Z := Z) (lo := 0) (hi := 1000) hp hu h3' hl e2 hn (by omega) (by omega) with ⟨c', f', r3, r4, r5, r6⟩ | ⟨r3, r4, r5⟩
      · rw [r3, show g_X5_takeNumber n _ 2 0 1000 = _ from r4, i_bd, if_pos (show zi 0 = (0 : Int32) from rfl)]
        exact Or.inl ⟨c', _, f', _, _, rfl, rz_0, r5, r6⟩
      · obtain ⟨e3, e4⟩ := tkE_r (u := u) e2
        obtain ⟨z1, z2⟩ := RXs_st (t := t) (x := numV u len (tkE u len p)) (RXs_f (f' := up1 f 9 (zi (t : Int))) hR (fun j hj => up1_ne (by omega))) hg ht r4
        rw [r3, pb_r, show g_X5_takeNumber n _ 2 0 1000 = _ from r5, i_bd, if_neg (show ¬ (zi 1 = (0 : Int32)) by decide), p_o4 hp, i_sb, p_r4 hp, i_sb, p_gI hp, i_sb, tk_o (by omega), up1_at, p_gI hp, i_sb, tk_8, p_w4 hp (by omega) (by omega), i_sb, Int.toNat_natCast]
        exact Or.inr ⟨_, _, _, _, _, _, _, _, rfl, e4, rz_1, h3', z1, z2⟩
end M28
