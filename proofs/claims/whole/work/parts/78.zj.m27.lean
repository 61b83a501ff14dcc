/-! ===== PURE 82: the component's lines: trader, head, start ===== -/
def LXo (M : MemT) (s len : Nat) (out : (Int × Nat) ⊕ (PSt × Nat)) (run : Option (Int32 × MemT)) : Prop := (∃ c pl f' hd' Z', out = .inl (c, pl) ∧ run = some (zi 0, PX M s f' hd' Z') ∧ f' 0 = zi c ∧ f' 1 = zi (pl : Int)) ∨ (∃ g' e f' hd' Z' k st v, out = .inr (g', e) ∧ e ≤ len ∧ run = some (zi 1, PX M s (tkR f' k st (zi (e : Int)) v) hd' Z') ∧ f' 3 = zi (len : Int) ∧ RXs f' hd' Z' g' ∧ ROk g')
section M27
variable {M : MemT} {s : Nat} {f hd : Nat → Int32} {Z : Nat → Nat → Int32} {u : Nat → Int} {n len p S0 : Nat} {k st e v w : Int32} {g : PSt}
theorem RXs_f {f' : Nat → Int32} (h : RXs f hd Z g) (e : ∀ j, (j ≤ 1 ∨ 13 ≤ j) → f' j = f j) : RXs f' hd Z g := ⟨h.1, h.2.1, (e 13 (by omega)).trans h.2.2.1, (e 14 (by omega)).trans h.2.2.2.1, (e 15 (by omega)).trans h.2.2.2.2.1, (e 16 (by omega)).trans h.2.2.2.2.2.1, (e 0 (by omega)).trans h.2.2.2.2.2.2.1, (e 1 (by omega)).trans h.2.2.2.2.2.2.2⟩
theorem up2_ne {Z : Nat → Nat → Int32} {o j x y : Nat} {v : Int32} (h : x ≠ o ∨ y ≠ j) : up2 Z o j v x y = Z x y := if_neg (fun q => by omega)
theorem tr_at {nm : Int32} {m b t j : Int} (j0 : 0 ≤ j) (j1 : j < 8) : (addTr g nm m b).2.2.1 (8 * t + j) = (if t = g.1 then (if j = 0 then nm.toInt else if j = 1 then m else if j = 2 then b else 0) else g.2.2.1 (8 * t + j)) := by
  show (if 8 * g.1 ≤ 8 * t + j ∧ 8 * t + j < 8 * g.1 + 8 then (if 8 * t + j = 8 * g.1 then nm.toInt else if 8 * t + j = 8 * g.1 + 1 then m else if 8 * t + j = 8 * g.1 + 2 then b else 0) else g.2.2.1 (8 * t + j)) = _
  by_cases c : t = g.1
  · rw [if_pos c, if_pos (by omega)]
    by_cases c0 : j = 0
    · rw [if_pos (by omega), if_pos c0]
    · rw [if_neg (by omega), if_neg c0]
      by_cases c1 : j = 1
      · rw [if_pos (by omega), if_pos c1]
      · rw [if_neg (by omega), if_neg c1]
        by_cases c2 : j = 2
        · rw [if_pos (by omega), if_pos c2]
        · rw [if_neg (by omega), if_neg c2]
  · rw [if_neg (by omega), if_neg c]
theorem x_addTr (hp : PSh M s) (hR : RXs f hd Z g) (hg : ROk g) (h4 : g.1 < 4) {nm : Int32} {m b : Int} (hm : 0 ≤ m ∧ m ≤ 2) (hb : 0 ≤ b ∧ b ≤ 1) : ∃ Z', g_X7_addTrader n (PX M s f (up1 hd g.1.toNat 0) Z) s nm (zi m) (zi b) = some ((), PX M s f (up1 hd g.1.toNat 0) Z') ∧ RXs f (up1 hd g.1.toNat 0) Z' (addTr g nm m b) ∧ ROk (addTr g nm m b) := by
  obtain ⟨⟨⟨a0, a7, a8, a9, a10, a11, a12, a14⟩, hT, hC, hA⟩, hH, hW⟩ := hR
  have hnt := hg.1
  have e4 : (zi g.1 < (4 : Int32)) = (g.1 < 4) := zi_lt (b := 4) (by omega) (by omega) (by omega) (by omega)
  refine ⟨up2 (up2 (up2 (up2 (up2 (up2 (up2 Z 1 g.1.toNat nm) 2 g.1.toNat (zi m)) 3 g.1.toNat (zi b)) 4 g.1.toNat (-2)) 5 g.1.toNat 0) 6 g.1.toNat 0) 0 0 (zi (g.1 + 1)), ?_, ?_, ?_⟩
  · unfold g_X7_addTrader
    have z : ∀ Y : Nat → Nat → Int32, Y 0 0 = zi g.1 → gI (PX M s f (up1 hd g.1.toNat 0) Y) 6 s 0 = some (zi g.1) := fun Y hY => by rw [p_gR hp, hY]
    have e0 : ∀ (Y : Nat → Nat → Int32) (o : Nat) (v : Int32), 1 ≤ o → Y 0 0 = zi g.1 → up2 Y o g.1.toNat v 0 0 = zi g.1 := fun Y o v ho hY => (up2_ne (by omega)).trans hY
    have y1 := e0 Z 1 nm (by omega) a0
    have y2 := e0 _ 2 (zi m) (by omega) y1
    have y3 := e0 _ 3 (zi b) (by omega) y2
    have y4 := e0 _ 4 (-2) (by omega) y3
    have y5 := e0 _ 5 0 (by omega) y4
    have y6 := e0 _ 6 0 (by omega) y5
    rw [z Z a0, i_sb, if_pos (by rw [e4]; exact h4), p_r1 hp, i_sb, i_sb, p_w1 hp (by omega) h4, i_sb, p_r2 hp, i_sb, z _ y1, i_sb, p_w2 hp (by omega) h4, i_sb, p_r3 hp, i_sb, z _ y2, i_sb, p_w3 hp (by omega) h4, i_sb, p_r4 hp, i_sb, z _ y3, i_sb, p_w4 hp (by omega) h4, i_sb, p_r5 hp, i_sb, z _ y4, i_sb, p_w5 hp (by omega) h4, i_sb, p_r6 hp, i_sb, z _ y5, i_sb, p_w6 hp (by omega) h4, i_sb, z _ y6, i_sb, p_pR hp, i_sb, show zi g.1 + 1 = zi (g.1 + 1) from zi_add g.1 1]
  · have f0 : ∀ j, j ≠ 0 → (up2 (up2 (up2 (up2 (up2 (up2 (up2 Z 1 g.1.toNat nm) 2 g.1.toNat (zi m)) 3 g.1.toNat (zi b)) 4 g.1.toNat (-2)) 5 g.1.toNat 0) 6 g.1.toNat 0) 0 0 (zi (g.1 + 1))) 0 j = Z 0 j := fun j hj => by rw [up2_ne (by omega), up2_ne (by omega), up2_ne (by omega), up2_ne (by omega), up2_ne (by omega), up2_ne (by omega), up2_ne (by omega)]
    have f00 : (up2 (up2 (up2 (up2 (up2 (up2 (up2 Z 1 g.1.toNat nm) 2 g.1.toNat (zi m)) 3 g.1.toNat (zi b)) 4 g.1.toNat (-2)) 5 g.1.toNat 0) 6 g.1.toNat 0) 0 0 (zi (g.1 + 1))) 0 0 = zi (g.1 + 1) := up2_at
    have fo : ∀ o j, (1 ≤ o ∧ j ≠ g.1.toNat) ∨ 7 ≤ o → (up2 (up2 (up2 (up2 (up2 (up2 (up2 Z 1 g.1.toNat nm) 2 g.1.toNat (zi m)) 3 g.1.toNat (zi b)) 4 g.1.toNat (-2)) 5 g.1.toNat 0) 6 g.1.toNat 0) 0 0 (zi (g.1 + 1))) o j = Z o j := fun o j hj => by rw [up2_ne (by omega), up2_ne (by omega), up2_ne (by omega), up2_ne (by omega), up2_ne (by omega), up2_ne (by omega), up2_ne (by omega)]
    have f1 : (up2 (up2 (up2 (up2 (up2 (up2 (up2 Z 1 g.1.toNat nm) 2 g.1.toNat (zi m)) 3 g.1.toNat (zi b)) 4 g.1.toNat (-2)) 5 g.1.toNat 0) 6 g.1.toNat 0) 0 0 (zi (g.1 + 1))) 1 g.1.toNat = nm := by rw [up2_ne (by omega), up2_ne (by omega), up2_ne (by omega), up2_ne (by omega), up2_ne (by omega), up2_ne (by omega), up2_at]
    have f2 : (up2 (up2 (up2 (up2 (up2 (up2 (up2 Z 1 g.1.toNat nm) 2 g.1.toNat (zi m)) 3 g.1.toNat (zi b)) 4 g.1.toNat (-2)) 5 g.1.toNat 0) 6 g.1.toNat 0) 0 0 (zi (g.1 + 1))) 2 g.1.toNat = zi m := by rw [up2_ne (by omega), up2_ne (by omega), up2_ne (by omega), up2_ne (by omega), up2_ne (by omega), up2_at]
    have f3 : (up2 (up2 (up2 (up2 (up2 (up2 (up2 Z 1 g.1.toNat nm) 2 g.1.toNat (zi m)) 3 g.1.toNat (zi b)) 4 g.1.toNat (-2)) 5 g.1.toNat 0) 6 g.1.toNat 0) 0 0 (zi (g.1 + 1))) 3 g.1.toNat = zi b := by rw [up2_ne (by omega), up2_ne (by omega), up2_ne (by omega), up2_ne (by omega), up2_at]
    have f4 : (up2 (up2 (up2 (up2 (up2 (up2 (up2 Z 1 g.1.toNat nm) 2 g.1.toNat (zi m)) 3 g.1.toNat (zi b)) 4 g.1.toNat (-2)) 5 g.1.toNat 0) 6 g.1.toNat 0) 0 0 (zi (g.1 + 1))) 4 g.1.toNat = -2 := by rw [up2_ne (by omega), up2_ne (by omega), up2_ne (by omega), up2_at]
    have f5 : (up2 (up2 (up2 (up2 (up2 (up2 (up2 Z 1 g.1.toNat nm) 2 g.1.toNat (zi m)) 3 g.1.toNat (zi b)) 4 g.1.toNat (-2)) 5 g.1.toNat 0) 6 g.1.toNat 0) 0 0 (zi (g.1 + 1))) 5 g.1.toNat = 0 := by rw [up2_ne (by omega), up2_ne (by omega), up2_at]
    have f6 : (up2 (up2 (up2 (up2 (up2 (up2 (up2 Z 1 g.1.toNat nm) 2 g.1.toNat (zi m)) 3 g.1.toNat (zi b)) 4 g.1.toNat (-2)) 5 g.1.toNat 0) 6 g.1.toNat 0) 0 0 (zi (g.1 + 1))) 6 g.1.toNat = 0 := by rw [up2_ne (by omega), up2_at]
    generalize (up2 (up2 (up2 (up2 (up2 (up2 (up2 Z 1 g.1.toNat nm) 2 g.1.toNat (zi m)) 3 g.1.toNat (zi b)) 4 g.1.toNat (-2)) 5 g.1.toNat 0) 6 g.1.toNat 0) 0 0 (zi (g.1 + 1))) = Y at f0 f00 fo f1 f2 f3 f4 f5 f6 ⊢
    refine ⟨⟨⟨f00, (f0 7 (by omega)).trans a7, (f0 8 (by omega)).trans a8, (f0 9 (by omega)).trans a9, (f0 10 (by omega)).trans a10, (f0 11 (by omega)).trans a11, (f0 12 (by omega)).trans a12, (f0 14 (by omega)).trans a14⟩, fun t t0 t1 => ?_, ?_, fun j j0 j1 => (fo 8 _ (by omega)).trans (hA j j0 j1)⟩, fun t t0 t1 => ?_, hW⟩
    · have t1 : t < g.1 + 1 := t1
      have et0 := tr_at (g := g) (nm := nm) (m := m) (b := b) (t := t) (j := 0) (by omega) (by omega)
      rw [Int.add_zero] at et0
      rw [et0, tr_at (j := 1) (by omega) (by omega), tr_at (j := 2) (by omega) (by omega), tr_at (j := 6) (by omega) (by omega), tr_at (j := 7) (by omega) (by omega), tr_at (j := 4) (by omega) (by omega), tr_at (j := 5) (by omega) (by omega)]
      by_cases c : t = g.1
      · rw [c, f1, f2, f3, f4, f5, f6]
        simp only [if_true, Int.reduceEq, if_false]
        refine ⟨(zi_int nm).symm, ?_, ?_, ?_, ?_, ?_⟩ <;> first | trivial | rfl
      · simp only [if_neg c]
        have q := hT t t0 (by omega)
        rw [fo 1 _ (by omega), fo 2 _ (by omega), fo 3 _ (by omega), fo 4 _ (by omega), fo 5 _ (by omega), fo 6 _ (by omega)]
        exact q
    · obtain ⟨cs, c1, c2, c3⟩ := hC
      refine ⟨cs, c1, c2, fun i hi => ?_⟩
      rw [fo 7 _ (by omega), fo 7 _ (by omega), fo 7 _ (by omega), fo 7 _ (by omega)]
      exact c3 i hi
    · have t1 : t < g.1 + 1 := t1
      rw [tr_at (j := 3) (by omega) (by omega)]
      by_cases c : t = g.1
      · rw [c, up1_at]
        simp only [if_true, Int.reduceEq, if_false]
        rfl
      · rw [up1_ne (by omega), if_neg c]
        exact hH t t0 (by omega)
  · obtain ⟨g1, g2, g3, g4, g5, g6⟩ := hg
    refine ⟨⟨by show 0 ≤ g.1 + 1; omega, by show g.1 + 1 ≤ 4; omega⟩, g2, g3, fun t t0 t1 => ?_, g5, fun j j0 j1 => by show g.2.2.2.2.2.1 (5 * j) < g.1 + 1; have := g6 j j0 j1; omega⟩
    have t1 : t < g.1 + 1 := t1
    unfold trW
    rw [tr_at (j := 1) (by omega) (by omega), tr_at (j := 2) (by omega) (by omega), tr_at (j := 3) (by omega) (by omega), tr_at (j := 4) (by omega) (by omega), tr_at (j := 5) (by omega) (by omega), tr_at (j := 6) (by omega) (by omega), tr_at (j := 7) (by omega) (by omega)]
    by_cases c : t = g.1
    · rw [if_pos c, if_pos c, if_pos c, if_pos c, if_pos c, if_pos c, if_pos c]
      exact ⟨hm, hb, Or.inl rfl, ⟨Int.le_refl _, Int.le_refl _, (by decide : (0 : Int) ≤ 999)⟩, Or.inl rfl, (by decide : (0 : Int) ≤ 0 ∧ (0 : Int) ≤ 1000)⟩
    · simp only [if_neg c]
      exact g4 t t0 (by omega)
theorem x_lnTr (hp : PSh M s) (hu : XT M u) (h3 : f 3 = zi (len : Int)) (hl : len ≤ 700) (hpl : p ≤ len) (hn : 1000 < n) (hR : RXs f hd Z g) (hg : ROk g) : LXo M s len (lnTr g u len S0 p) (g_X5_readTrader n (PX M s (tkR f k (zi (S0 : Int)) (zi (p : Int)) v) hd Z) 2) := by
  have hnt := hg.1
  have a0 : Z 0 0 = zi g.1 := hR.1.1.1
  have hR' : ∀ k st e v, RXs (tkR f k st e v) hd Z g := fun k st e v => RXs_f hR (fun j hj => tk_o (by omega))
  obtain ⟨e1, e2⟩ := tkE_r (u := u) hpl
  unfold lnTr g_X5_readTrader
  rw [p_o4 hp, i_sb, p_gR hp, i_sb, a0, p_k hp, show (4 : Int32) = zi 4 from rfl, x_room hp (by omega) (by omega)]
  by_cases c : 4 ≤ g.1
  · rw [if_pos c, if_neg (by omega), i_bd, if_pos (show zi 0 = (0 : Int32) from rfl)]
    exact Or.inl ⟨2, S0, _, _, _, rfl, rz_0, rfl, rfl⟩
  · rw [if_neg c, if_pos (by omega), i_bd, if_neg (show ¬ (zi 1 = (0 : Int32)) by decide), p_k hp]
    rcases x_name (k := k) (st := zi (S0 : Int)) (v := v) (hd := hd) (Z := Z) hp hu h3 hl hpl hn with ⟨c', f', q1, q2, q3, q4⟩ | ⟨q1, q2⟩
    · rw [q1, q2, i_bd, if_pos (show zi 0 = (0 : Int32) from rfl)]
      exact Or.inl ⟨c', _, f', _, _, rfl, rz_0, q3, q4⟩
    · rw [q1, q2, i_bd, if_neg (show ¬ (zi 1 = (0 : Int32)) by decide), p_gI hp, i_sb, tk_8, p_o4 hp, i_sb, p_kR hp, x_nmd hp (hR' _ _ _ _) hg hn, i_bd, i_jp]
      show LXo M s len (match fnd (nmq g.2.2.1 (tkV u len p)) 0 g.1.toNat with | some _ => .inl (3, tkS u len p) | none => pb (numR u len (tkE u len p) 0 2) (fun m => pb (numR u len m.2 0 1) (fun b => .inr (addTr g (tkV u len p) m.1 b.1, b.2)))) _
      cases hf : fnd (nmq g.2.2.1 (tkV u len p)) 0 g.1.toNat with
      | some t =>
        have ht := (fnd_lt hf).2.1
        dsimp only
        rw [if_neg (by show ¬ (zi (t : Int) = zi (-1)); rw [zi_eq (by omega) (by omega) (by omega) (by omega)]; omega), p_k hp]
        have := x_new (n := n) (f := tkR f 1 (zi (tkS u len p : Int)) (zi (tkE u len p : Int)) (tkV u len p)) (hd := hd) (Z := Z) hp (q := False)
        rw [if_neg (fun q => q), if_neg (fun q => q)] at this
        rw [this, i_bd, if_pos (show zi 0 = (0 : Int32) from rfl)]
        exact Or.inl ⟨3, tkS u len p, _, _, _, rfl, rz_0, rfl, rfl⟩
      | none =>
        dsimp only
        rw [if_pos (show zi (-1) = (-1 : Int32) from rfl), p_k hp]
        have := x_new (n := n) (f := tkR f 1 (zi (tkS u len p : Int)) (zi (tkE u len p : Int)) (tkV u len p)) (hd := hd) (Z := Z) hp (q := True)
        rw [if_pos trivial, if_pos trivial] at this
        rw [this, i_bd, if_neg (show ¬ (zi 1 = (0 : Int32)) by decide), p_k hp]
        rcases x_num (k := 1) (st := zi (tkS u len p : Int)) (v := tkV u len p) (hd := hd) (Z := Z) (lo := 0) (hi := 2) hp hu h3 hl e2 hn (by omega) (by omega) with ⟨c', f', q3, q4, q5, q6⟩ | ⟨q3, q4, q5⟩
        · rw [q3, show g_X5_takeNumber n _ 2 0 2 = _ from q4, i_bd, if_pos (show zi 0 = (0 : Int32) from rfl)]
          exact Or.inl ⟨c', _, f', _, _, rfl, rz_0, q5, q6⟩
        · obtain ⟨e3, e4⟩ := tkE_r (u := u) e2
          rw [q3, show g_X5_takeNumber n _ 2 0 2 = _ from q5, i_bd, if_neg (show ¬ (zi 1 = (0 : Int32)) by decide), p_gI hp, i_sb, tk_8, p_k hp]
          show LXo M s len (pb (numR u len (tkE u len (tkE u len p)) 0 1) (fun b => .inr (addTr g (tkV u len p) (numV u len (tkE u len p)) b.1, b.2))) _
          rcases x_num (k := 2) (st := zi (tkS u len (tkE u len p) : Int)) (v := zi (numV u len (tkE u len p))) (hd := hd) (Z := Z) (lo := 0) (hi := 1) hp hu h3 hl e4 hn (by omega) (by omega) with ⟨c', f', r3, r4, r5, r6⟩ | ⟨r3, r4, r5⟩
          · rw [r3, show g_X5_takeNumber n _ 2 0 1 = _ from r4, i_bd, if_pos (show zi 0 = (0 : Int32) from rfl)]
            exact Or.inl ⟨c', _, f', _, _, rfl, rz_0, r5, r6⟩
          · obtain ⟨e5, e6⟩ := tkE_r (u := u) e4
            obtain ⟨Z', z1, z2, z3⟩ := x_addTr (n := n) (nm := tkV u len p) hp (hR' 2 (zi (tkS u len (tkE u len (tkE u len p)) : Int)) (zi (tkE u len (tkE u len (tkE u len p)) : Int)) (zi (numV u len (tkE u len (tkE u len p))))) hg (by omega) q4 r4
            have h00 : (0 : Int32) &&& 1 = 0 := by decide
            rw [r3, show g_X5_takeNumber n _ 2 0 1 = _ from r5, i_bd, if_neg (show ¬ (zi 1 = (0 : Int32)) by decide), p_o12 hp, i_sb, p_o4 hp, i_sb, p_gR hp, i_sb, a0, p_hW hp hnt.1 (by omega), i_sb, h00, p_o4 hp, i_sb, p_gI hp, i_sb, tk_8, p_kR hp, z1, i_bd]
            exact Or.inr ⟨_, _, f, _, _, _, _, _, rfl, e6, rz_1, h3, RXs_f z2 (fun j hj => (tk_o (by omega)).symm), z3⟩
end M27
