/-! ===== PURE 85: the component's lines: sale, buy, asset ===== -/
section M30
variable {M : MemT} {s : Nat} {f hd : Nat → Int32} {Z : Nat → Nat → Int32} {u : Nat → Int} {n len p S0 : Nat} {k st e v w : Int32} {g : PSt}
theorem x_deal (hp : PSh M s) (hu : XT M u) (h3 : f 3 = zi (len : Int)) (hl : len ≤ 700) (hpl : p ≤ len) (hn : 1000 < n) (hR : RXs f hd Z g) (hg : ROk g) {kd : Int} (hk : 0 ≤ kd ∧ kd ≤ 10) : (∃ c pl f', dealR g u len p kd = .inl (c, pl) ∧ g_X5_takeDeal n (PX M s (tkR f k st (zi (p : Int)) v) hd Z) 2 (zi (kd + 1)) = some (zi 0, PX M s f' hd Z) ∧ f' 0 = zi c ∧ f' 1 = zi (pl : Int)) ∨ (∃ (t : Nat) (q x : Int) (e : Nat) (k' st' v' : Int32), dealR g u len p kd = .inr ((t, q, x), e) ∧ ((t : Int) < g.1) ∧ (0 ≤ q ∧ q ≤ 63) ∧ (0 ≤ x ∧ x ≤ kd) ∧ e ≤ len ∧ g_X5_takeDeal n (PX M s (tkR f k st (zi (p : Int)) v) hd Z) 2 (zi (kd + 1)) = some (zi 1, PX M s (tkR (up1 (up1 (up1 f 9 (zi (t : Int))) 10 (zi q)) 11 (zi x)) k' st' (zi (e : Int)) v') hd Z)) := by
  obtain ⟨e1, e2⟩ := tkE_r (u := u) hpl
  unfold dealR g_X5_takeDeal
  rcases x_trd (k := k) (st := st) (v := v) hp hu h3 hl hpl hn hR hg with ⟨c', pl, f', q1, q2, q3, q4⟩ | ⟨t, q1, ht, q2⟩
  · rw [q1, p_k hp, q2, i_bd, if_pos (show zi 0 = (0 : Int32) from rfl)]
    exact Or.inl ⟨c', _, f', rfl, rz_0, q3, q4⟩
  · have h3' : up1 f 9 (zi (t : Int)) 3 = zi (len : Int) := (up1_ne (by omega)).trans h3
    rw [q1, pb_r, p_k hp, q2, i_bd, if_neg (show ¬ (zi 1 = (0 : Int32)) by decide), p_k hp]
    dsimp only
    rcases x_num (k := 1) (st := zi (tkS u len p : Int)) (v := tkV u len p) (hd := hd) (Z := Z) (lo := 0) (hi := 63) hp hu h3' hl e2 hn (by omega) (by omega) with ⟨c', f', r3, r4, r5, r6⟩ | ⟨r3, r4, r5⟩
    · rw [r3, show g_X5_takeNumber n _ 2 0 63 = _ from r4, i_bd, if_pos (show zi 0 = (0 : Int32) from rfl)]
      exact Or.inl ⟨c', _, f', rfl, rz_0, r5, r6⟩
    · obtain ⟨e3, e4⟩ := tkE_r (u := u) e2
      have h3'' : up1 (up1 f 9 (zi (t : Int))) 10 (zi (numV u len (tkE u len p))) 3 = zi (len : Int) := (up1_ne (by omega)).trans h3'
      rw [r3, pb_r, show g_X5_takeNumber n _ 2 0 63 = _ from r5, i_bd, if_neg (show ¬ (zi 1 = (0 : Int32)) by decide), p_gI hp, i_sb, tk_8, p_pI hp, i_sb, tk_uo (by omega), p_k hp, show zi (kd + 1) - 1 = zi kd from (zi_sub (kd + 1) 1).trans (congrArg zi (by omega))]
      dsimp only
      rcases x_num (k := 2) (st := zi (tkS u len (tkE u len p) : Int)) (v := zi (numV u len (tkE u len p))) (hd := hd) (Z := Z) (lo := 0) (hi := kd) hp hu h3'' hl e4 hn (by omega) (by omega) with ⟨c', f', w3, w4, w5, w6⟩ | ⟨w3, w4, w5⟩
      · rw [w3, show g_X5_takeNumber n _ 2 0 (zi kd) = _ from w4, i_bd, if_pos (show zi 0 = (0 : Int32) from rfl)]
        exact Or.inl ⟨c', _, f', rfl, rz_0, w5, w6⟩
      · obtain ⟨e5, e6⟩ := tkE_r (u := u) e4
        rw [w3, pb_r, show g_X5_takeNumber n _ 2 0 (zi kd) = _ from w5, i_bd, if_neg (show ¬ (zi 1 = (0 : Int32)) by decide), p_gI hp, i_sb, tk_8, p_pI hp, i_sb, tk_uo (by omega)]
        exact Or.inr ⟨t, _, _, _, _, _, _, rfl, ht, r4, w4, e6, rz_1⟩
/-- a told move -/
theorem x_move (hp : PSh M s) {t q x y : Int} {L : Int} (hL : 0 ≤ L ∧ L < 24) {a b : Int} (ha : Z 0 11 = zi a) (hb : Z 0 12 = zi b) (hab : a + b = L) : g_X7_addMove n (PX M s f hd Z) s (zi t) (zi q) (zi x) (zi y) = some ((), PX M s f hd (up2 (up2 (up2 (up2 Z 7 (4 * L).toNat (zi t)) 7 (4 * L + 1).toNat (zi q)) 7 (4 * L + 2).toNat (zi x)) 7 (4 * L + 3).toNat (zi y))) := by
  have gL : ∀ Y, aL (PX M s f hd Y) (s + 7) = some (zi 96) := fun Y => i_aLg (M := PX M s f hd Y) (N := 96) (show 10 ≤ mK M (s + 7) ∧ mK M (s + 7) < 16 by rw [hp.2.2.2.1.2.2.1.2.2.2.2.2.2.1]; omega) hp.2.2.2.1.2.2.2.2.2.2.2.2.2.1
  have el : (zi a + zi b) * 4 = zi (4 * L) := by
    show (zi a + zi b) * zi 4 = _
    rw [zi_add, zi_mul, hab]
    exact congrArg zi (by omega)
  have el4 : zi (4 * L) + 4 = zi (4 * L + 4) := zi_add (4 * L) 4
  have el1 : zi (4 * L) + 1 = zi (4 * L + 1) := zi_add (4 * L) 1
  have el2 : zi (4 * L) + 2 = zi (4 * L + 2) := zi_add (4 * L) 2
  have el3 : zi (4 * L) + 3 = zi (4 * L + 3) := zi_add (4 * L) 3
  unfold g_X7_addMove
  rw [p_gR hp, i_sb, p_gR hp, i_sb, ha, hb, p_r13 hp, i_sb, gL, i_sb, el, el4, if_pos (by rw [zi_le (by omega) (by omega) (by omega) (by omega)]; omega), i_sb, p_w7 hp (by omega) (by omega), i_sb, p_r13 hp, i_sb, el1, p_w7 hp (by omega) (by omega), i_sb, p_r13 hp, i_sb, el2, p_w7 hp (by omega) (by omega), i_sb, p_r13 hp, i_sb, el3, p_w7 hp (by omega) (by omega), i_sb]
theorem row4_at {r : Int → Int} {P a b c d i : Int} : row4 r P a b c d i = if i = P then a else if i = P + 1 then b else if i = P + 2 then c else if i = P + 3 then d else r i := by
  show (if i = P + 3 then d else if i = P + 2 then c else if i = P + 1 then b else if i = P then a else r i) = _
  by_cases c0 : i = P
  · rw [if_neg (by omega), if_neg (by omega), if_neg (by omega), if_pos c0, if_pos c0]
  · rw [if_neg c0, if_neg c0]
    by_cases c1 : i = P + 1
    · rw [if_neg (by omega), if_neg (by omega), if_pos c1, if_pos c1]
    · rw [if_neg c1, if_neg c1]
      by_cases c2 : i = P + 2
      · rw [if_neg (by omega), if_pos c2, if_pos c2]
      · rw [if_neg c2, if_neg c2]
theorem RXs_sl {t : Nat} {q x y : Int} (hR : RXs f hd Z g) (hg : ROk g) (ht : (t : Int) < g.1) (hq : 0 ≤ q ∧ q ≤ 63) (hx : 0 ≤ x ∧ x ≤ 1) (hy : 1 ≤ y ∧ y ≤ 99999) (hl : g.2.1 4 < 12) : RXs f hd (up2 (up2 (up2 (up2 (up2 Z 7 (4 * (g.2.1 4 + g.2.1 5)).toNat (zi t)) 7 (4 * (g.2.1 4 + g.2.1 5) + 1).toNat (zi q)) 7 (4 * (g.2.1 4 + g.2.1 5) + 2).toNat (zi (x))) 7 (4 * (g.2.1 4 + g.2.1 5) + 3).toNat (zi y)) 0 11 (zi (g.2.1 4 + 1))) (addSl g t q x y) ∧ ROk (addSl g t q x y) := by
  obtain ⟨⟨⟨a0, a7, a8, a9, a10, a11, a12, a14⟩, hT, hC, hA⟩, hH, hW⟩ := hR
  obtain ⟨g1, g2, g3, g4, g5, g6⟩ := hg
  obtain ⟨b4, b5, b6, r1, r2, r3⟩ := id g5
  have eT : ∀ i : Int, i ≠ 4 → (addSl g t q x y).2.1 i = g.2.1 i := fun i hi => upZ_ne hi
  have eTs : (addSl g t q x y).2.1 4 = g.2.1 4 + 1 := (upZ_self : upZ g.2.1 4 (g.2.1 4 + 1) 4 = _)
  have er : ∀ i : Int, (addSl g t q x y).2.2.2.1 i = if i = 4 * g.2.1 4 then (t : Int) else if i = 4 * g.2.1 4 + 1 then q else if i = 4 * g.2.1 4 + 2 then x else if i = 4 * g.2.1 4 + 3 then y else g.2.2.2.1 i := fun i => row4_at
  generalize hN : g.2.1 4 + g.2.1 5 = N at hC ⊢
  have e : ∀ o j, o ≠ 7 → (o ≠ 0 ∨ j ≠ 11) → (up2 (up2 (up2 (up2 (up2 Z 7 (4 * N).toNat (zi t)) 7 (4 * N + 1).toNat (zi q)) 7 (4 * N + 2).toNat (zi (x))) 7 (4 * N + 3).toNat (zi y)) 0 11 (zi (g.2.1 4 + 1))) o j = Z o j := fun o j h1 h2 => (up2_ne (by omega)).trans ((up2_ne (by omega)).trans ((up2_ne (by omega)).trans ((up2_ne (by omega)).trans (up2_ne (by omega)))))
  have e7 : ∀ j : Nat, (up2 (up2 (up2 (up2 (up2 Z 7 (4 * N).toNat (zi t)) 7 (4 * N + 1).toNat (zi q)) 7 (4 * N + 2).toNat (zi (x))) 7 (4 * N + 3).toNat (zi y)) 0 11 (zi (g.2.1 4 + 1))) 7 j = if (j : Int) = 4 * N then zi t else if (j : Int) = 4 * N + 1 then zi q else if (j : Int) = 4 * N + 2 then zi (x) else if (j : Int) = 4 * N + 3 then zi y else Z 7 j := fun j => by
    by_cases c0 : (j : Int) = 4 * N
    · rw [if_pos c0, up2_ne (by omega), up2_ne (by omega), up2_ne (by omega), up2_ne (by omega), show j = (4 * N).toNat by omega, up2_at]
    · rw [if_neg c0]
      by_cases c1 : (j : Int) = 4 * N + 1
      · rw [if_pos c1, up2_ne (by omega), up2_ne (by omega), up2_ne (by omega), show j = (4 * N + 1).toNat by omega, up2_at]
      · rw [if_neg c1]
        by_cases c2 : (j : Int) = 4 * N + 2
        · rw [if_pos c2, up2_ne (by omega), up2_ne (by omega), show j = (4 * N + 2).toNat by omega, up2_at]
        · rw [if_neg c2]
          by_cases c3 : (j : Int) = 4 * N + 3
          · rw [if_pos c3, up2_ne (by omega), show j = (4 * N + 3).toNat by omega, up2_at]
          · rw [if_neg c3, up2_ne (by omega), up2_ne (by omega), up2_ne (by omega), up2_ne (by omega), up2_ne (by omega)]
  generalize hY : (up2 (up2 (up2 (up2 (up2 Z 7 (4 * N).toNat (zi t)) 7 (4 * N + 1).toNat (zi q)) 7 (4 * N + 2).toNat (zi (x))) 7 (4 * N + 3).toNat (zi y)) 0 11 (zi (g.2.1 4 + 1))) = Y at e e7 ⊢
  have eY : Y 0 11 = zi (g.2.1 4 + 1) := by rw [← hY]; exact up2_at
  refine ⟨⟨⟨⟨(e _ _ (by omega) (by omega)).trans a0, ?_, ?_, ?_, ?_, ?_, ?_, ?_⟩, fun t' t0 t1 => ?_, ?_, ?_⟩, hH, hW⟩, ⟨g1, ?_, ?_, g4, ?_, ?_⟩⟩
  · rw [eT 0 (by omega)]; exact (e 0 7 (by omega) (by omega)).trans a7
  · rw [eT 1 (by omega)]; exact (e 0 8 (by omega) (by omega)).trans a8
  · rw [eT 2 (by omega)]; exact (e 0 9 (by omega) (by omega)).trans a9
  · rw [eT 3 (by omega)]; exact (e 0 10 (by omega) (by omega)).trans a10
  · rw [eTs]; exact eY
  · rw [eT 5 (by omega)]; exact (e 0 12 (by omega) (by omega)).trans a12
  · rw [eT 6 (by omega)]; exact (e 0 14 (by omega) (by omega)).trans a14
  · have z := hT t' t0 t1
    exact ⟨(e _ _ (by omega) (by omega)).trans z.1, (e _ _ (by omega) (by omega)).trans z.2.1, (e _ _ (by omega) (by omega)).trans z.2.2.1, (e _ _ (by omega) (by omega)).trans z.2.2.2.1, (e _ _ (by omega) (by omega)).trans z.2.2.2.2.1, (e _ _ (by omega) (by omega)).trans z.2.2.2.2.2⟩
  · obtain ⟨cs, c1, c2, c3⟩ := hC
    refine ⟨fun i => if (i : Int) ≤ N then cs i else g.2.1 4 + 1, ?_, ?_, fun i hi => ?_⟩
    · dsimp only
      rw [if_pos (by omega)]
      exact c1
    · dsimp only
      rw [eTs, eT 5 (by omega), if_neg (by omega)]
    · dsimp only
      have hi' : (i : Int) ≤ N := by
        rw [eTs, eT 5 (by omega)] at hi
        omega
      rw [eTs, eT 5 (by omega)]
      show _ ∧ ((_ ∧ _ ∧ Y 7 (4 * i) = _ ∧ Y 7 (4 * i + 1) = _ ∧ Y 7 (4 * i + 2) = _ ∧ Y 7 (4 * i + 3) = _) ∨ (_ ∧ _ ∧ Y 7 (4 * i) = _ ∧ Y 7 (4 * i + 1) = _ ∧ Y 7 (4 * i + 2) = _ ∧ Y 7 (4 * i + 3) = _))
      rw [if_pos hi']
      by_cases c : (i : Int) = N
      · have ec : cs i = g.2.1 4 := by rw [← c2]; exact congrArg cs (by omega)
        rw [if_neg (by omega), ec]
        refine ⟨by omega, Or.inl ⟨by omega, by omega, ?_, ?_, ?_, ?_⟩⟩
        · rw [e7, if_pos (by omega), er, if_pos (by omega)]
        · rw [e7, if_neg (by omega), if_pos (by omega), er, if_neg (by omega), if_pos (by omega)]
        · rw [e7, if_neg (by omega), if_neg (by omega), if_pos (by omega), er, if_neg (by omega), if_neg (by omega), if_pos (by omega)]
        · rw [e7, if_neg (by omega), if_neg (by omega), if_neg (by omega), if_pos (by omega), er, if_neg (by omega), if_neg (by omega), if_neg (by omega), if_pos (by omega)]
      · have z := c3 i (by omega)
        rw [if_pos (by omega)]
        have y0 : Y 7 (4 * i) = Z 7 (4 * i) := by rw [e7, if_neg (by omega), if_neg (by omega), if_neg (by omega), if_neg (by omega)]
        have y1 : Y 7 (4 * i + 1) = Z 7 (4 * i + 1) := by rw [e7, if_neg (by omega), if_neg (by omega), if_neg (by omega), if_neg (by omega)]
        have y2 : Y 7 (4 * i + 2) = Z 7 (4 * i + 2) := by rw [e7, if_neg (by omega), if_neg (by omega), if_neg (by omega), if_neg (by omega)]
        have y3 : Y 7 (4 * i + 3) = Z 7 (4 * i + 3) := by rw [e7, if_neg (by omega), if_neg (by omega), if_neg (by omega), if_neg (by omega)]
        rw [y0, y1, y2, y3]
        refine ⟨by have := z.1; omega, ?_⟩
        rcases z.2 with ⟨d1, d2, d3, d4, d5, d6⟩ | ⟨d1, d2, d3, d4, d5, d6⟩
        · refine Or.inl ⟨d1, by omega, ?_, ?_, ?_, ?_⟩
          · rw [er, if_neg (by omega), if_neg (by omega), if_neg (by omega), if_neg (by omega)]; exact d3
          · rw [er, if_neg (by omega), if_neg (by omega), if_neg (by omega), if_neg (by omega)]; exact d4
          · rw [er, if_neg (by omega), if_neg (by omega), if_neg (by omega), if_neg (by omega)]; exact d5
          · rw [er, if_neg (by omega), if_neg (by omega), if_neg (by omega), if_neg (by omega)]; exact d6
        · exact Or.inr ⟨d1, by omega, d3, d4, d5, d6⟩
  · rw [eT 6 (by omega)]
    intro j j0 j1
    exact (e 8 _ (by omega) (by omega)).trans (hA j j0 j1)
  · obtain ⟨u0, u1, u2⟩ := g2
    exact ⟨by rw [eT 0 (by omega)]; exact u0, by rw [eT 1 (by omega)]; exact u1, by rw [eT 2 (by omega)]; exact u2⟩
  · rw [eT 3 (by omega)]; exact g3
  · refine ⟨by rw [eTs]; omega, by rw [eT 5 (by omega)]; exact b5, by rw [eT 6 (by omega)]; exact b6, fun j j0 j1 => ?_, by rw [eT 5 (by omega)]; exact r2, by rw [eT 6 (by omega)]; exact r3⟩
    rw [eTs] at j1
    rw [er (4 * j), er (4 * j + 1), er (4 * j + 2), er (4 * j + 3)]
    by_cases c : j = g.2.1 4
    · rw [if_pos (by omega), if_neg (by omega), if_pos (by omega), if_neg (by omega), if_neg (by omega), if_pos (by omega), if_neg (by omega), if_neg (by omega), if_neg (by omega), if_pos (by omega)]
      omega
    · rw [if_neg (by omega), if_neg (by omega), if_neg (by omega), if_neg (by omega), if_neg (by omega), if_neg (by omega), if_neg (by omega), if_neg (by omega), if_neg (by omega), if_neg (by omega), if_neg (by omega), if_neg (by omega), if_neg (by omega), if_neg (by omega), if_neg (by omega), if_neg (by omega)]
      exact r1 j j0 (by omega)
  · intro j j0 j1
    rw [eT 6 (by omega)] at j1
    exact g6 j j0 j1
theorem RXs_bu {t : Nat} {q x y : Int} (hR : RXs f hd Z g) (hg : ROk g) (ht : (t : Int) < g.1) (hq : 0 ≤ q ∧ q ≤ 63) (hx : 0 ≤ x ∧ x ≤ 2) (hy : 1 ≤ y ∧ y ≤ 9999) (hl : g.2.1 5 < 12) : RXs f hd (up2 (up2 (up2 (up2 (up2 Z 7 (4 * (g.2.1 4 + g.2.1 5)).toNat (zi t)) 7 (4 * (g.2.1 4 + g.2.1 5) + 1).toNat (zi q)) 7 (4 * (g.2.1 4 + g.2.1 5) + 2).toNat (zi (2 + x))) 7 (4 * (g.2.1 4 + g.2.1 5) + 3).toNat (zi y)) 0 12 (zi (g.2.1 5 + 1))) (addBu g t q x y) ∧ ROk (addBu g t q x y) := by
  obtain ⟨⟨⟨a0, a7, a8, a9, a10, a11, a12, a14⟩, hT, hC, hA⟩, hH, hW⟩ := hR
  obtain ⟨g1, g2, g3, g4, g5, g6⟩ := hg
  obtain ⟨b4, b5, b6, r1, r2, r3⟩ := id g5
  have eT : ∀ i : Int, i ≠ 5 → (addBu g t q x y).2.1 i = g.2.1 i := fun i hi => upZ_ne hi
  have eTs : (addBu g t q x y).2.1 5 = g.2.1 5 + 1 := (upZ_self : upZ g.2.1 5 (g.2.1 5 + 1) 5 = _)
  have er : ∀ i : Int, (addBu g t q x y).2.2.2.2.1 i = if i = 4 * g.2.1 5 then (t : Int) else if i = 4 * g.2.1 5 + 1 then q else if i = 4 * g.2.1 5 + 2 then x else if i = 4 * g.2.1 5 + 3 then y else g.2.2.2.2.1 i := fun i => row4_at
  generalize hN : g.2.1 4 + g.2.1 5 = N at hC ⊢
  have e : ∀ o j, o ≠ 7 → (o ≠ 0 ∨ j ≠ 12) → (up2 (up2 (up2 (up2 (up2 Z 7 (4 * N).toNat (zi t)) 7 (4 * N + 1).toNat (zi q)) 7 (4 * N + 2).toNat (zi (2 + x))) 7 (4 * N + 3).toNat (zi y)) 0 12 (zi (g.2.1 5 + 1))) o j = Z o j := fun o j h1 h2 => (up2_ne (by omega)).trans ((up2_ne (by omega)).trans ((up2_ne (by omega)).trans ((up2_ne (by omega)).trans (up2_ne (by omega)))))
  have e7 : ∀ j : Nat, (up2 (up2 (up2 (up2 (up2 Z 7 (4 * N).toNat (zi t)) 7 (4 * N + 1).toNat (zi q)) 7 (4 * N + 2).toNat (zi (2 + x))) 7 (4 * N + 3).toNat (zi y)) 0 12 (zi (g.2.1 5 + 1))) 7 j = if (j : Int) = 4 * N then zi t else if (j : Int) = 4 * N + 1 then zi q else if (j : Int) = 4 * N + 2 then zi (2 + x) else if (j : Int) = 4 * N + 3 then zi y else Z 7 j := fun j => by
    by_cases c0 : (j : Int) = 4 * N
    · rw [if_pos c0, up2_ne (by omega), up2_ne (by omega), up2_ne (by omega), up2_ne (by omega), show j = (4 * N).toNat by omega, up2_at]
    · rw [if_neg c0]
      by_cases c1 : (j : Int) = 4 * N + 1
      · rw [if_pos c1, up2_ne (by omega), up2_ne (by omega), up2_ne (by omega), show j = (4 * N + 1).toNat by omega, up2_at]
      · rw [if_neg c1]
        by_cases c2 : (j : Int) = 4 * N + 2
        · rw [if_pos c2, up2_ne (by omega), up2_ne (by omega), show j = (4 * N + 2).toNat by omega, up2_at]
        · rw [if_neg c2]
          by_cases c3 : (j : Int) = 4 * N + 3
          · rw [if_pos c3, up2_ne (by omega), show j = (4 * N + 3).toNat by omega, up2_at]
          · rw [if_neg c3, up2_ne (by omega), up2_ne (by omega), up2_ne (by omega), up2_ne (by omega), up2_ne (by omega)]
  generalize hY : (up2 (up2 (up2 (up2 (up2 Z 7 (4 * N).toNat (zi t)) 7 (4 * N + 1).toNat (zi q)) 7 (4 * N + 2).toNat (zi (2 + x))) 7 (4 * N + 3).toNat (zi y)) 0 12 (zi (g.2.1 5 + 1))) = Y at e e7 ⊢
  have eY : Y 0 12 = zi (g.2.1 5 + 1) := by rw [← hY]; exact up2_at
  refine ⟨⟨⟨⟨(e _ _ (by omega) (by omega)).trans a0, ?_, ?_, ?_, ?_, ?_, ?_, ?_⟩, fun t' t0 t1 => ?_, ?_, ?_⟩, hH, hW⟩, ⟨g1, ?_, ?_, g4, ?_, ?_⟩⟩
  · rw [eT 0 (by omega)]; exact (e 0 7 (by omega) (by omega)).trans a7
  · rw [eT 1 (by omega)]; exact (e 0 8 (by omega) (by omega)).trans a8
  · rw [eT 2 (by omega)]; exact (e 0 9 (by omega) (by omega)).trans a9
  · rw [eT 3 (by omega)]; exact (e 0 10 (by omega) (by omega)).trans a10
  · rw [eT 4 (by omega)]; exact (e 0 11 (by omega) (by omega)).trans a11
  · rw [eTs]; exact eY
  · rw [eT 6 (by omega)]; exact (e 0 14 (by omega) (by omega)).trans a14
  · have z := hT t' t0 t1
    exact ⟨(e _ _ (by omega) (by omega)).trans z.1, (e _ _ (by omega) (by omega)).trans z.2.1, (e _ _ (by omega) (by omega)).trans z.2.2.1, (e _ _ (by omega) (by omega)).trans z.2.2.2.1, (e _ _ (by omega) (by omega)).trans z.2.2.2.2.1, (e _ _ (by omega) (by omega)).trans z.2.2.2.2.2⟩
  · obtain ⟨cs, c1, c2, c3⟩ := hC
    refine ⟨fun i => if (i : Int) ≤ N then cs i else g.2.1 4, ?_, ?_, fun i hi => ?_⟩
    · dsimp only
      rw [if_pos (by omega)]
      exact c1
    · dsimp only
      rw [eTs, eT 4 (by omega), if_neg (by omega)]
    · dsimp only
      have hi' : (i : Int) ≤ N := by
        rw [eTs, eT 4 (by omega)] at hi
        omega
      rw [eTs, eT 4 (by omega)]
      show _ ∧ ((_ ∧ _ ∧ Y 7 (4 * i) = _ ∧ Y 7 (4 * i + 1) = _ ∧ Y 7 (4 * i + 2) = _ ∧ Y 7 (4 * i + 3) = _) ∨ (_ ∧ _ ∧ Y 7 (4 * i) = _ ∧ Y 7 (4 * i + 1) = _ ∧ Y 7 (4 * i + 2) = _ ∧ Y 7 (4 * i + 3) = _))
      rw [if_pos hi']
      by_cases c : (i : Int) = N
      · have ec : cs i = g.2.1 4 := by rw [← c2]; exact congrArg cs (by omega)
        rw [if_neg (by omega), ec]
        refine ⟨by omega, Or.inr ⟨by omega, by omega, ?_, ?_, ?_, ?_⟩⟩
        · rw [e7, if_pos (by omega), er, if_pos (by omega)]
        · rw [e7, if_neg (by omega), if_pos (by omega), er, if_neg (by omega), if_pos (by omega)]
        · rw [e7, if_neg (by omega), if_neg (by omega), if_pos (by omega), er, if_neg (by omega), if_neg (by omega), if_pos (by omega)]
        · rw [e7, if_neg (by omega), if_neg (by omega), if_neg (by omega), if_pos (by omega), er, if_neg (by omega), if_neg (by omega), if_neg (by omega), if_pos (by omega)]
      · have z := c3 i (by omega)
        rw [if_pos (by omega)]
        have y0 : Y 7 (4 * i) = Z 7 (4 * i) := by rw [e7, if_neg (by omega), if_neg (by omega), if_neg (by omega), if_neg (by omega)]
        have y1 : Y 7 (4 * i + 1) = Z 7 (4 * i + 1) := by rw [e7, if_neg (by omega), if_neg (by omega), if_neg (by omega), if_neg (by omega)]
        have y2 : Y 7 (4 * i + 2) = Z 7 (4 * i + 2) := by rw [e7, if_neg (by omega), if_neg (by omega), if_neg (by omega), if_neg (by omega)]
        have y3 : Y 7 (4 * i + 3) = Z 7 (4 * i + 3) := by rw [e7, if_neg (by omega), if_neg (by omega), if_neg (by omega), if_neg (by omega)]
        rw [y0, y1, y2, y3]
        refine ⟨by have := z.1; omega, ?_⟩
        rcases z.2 with ⟨d1, d2, d3, d4, d5, d6⟩ | ⟨d1, d2, d3, d4, d5, d6⟩
        · exact Or.inl ⟨d1, by omega, d3, d4, d5, d6⟩
        · refine Or.inr ⟨d1, by omega, ?_, ?_, ?_, ?_⟩
          · rw [er, if_neg (by omega), if_neg (by omega), if_neg (by omega), if_neg (by omega)]; exact d3
          · rw [er, if_neg (by omega), if_neg (by omega), if_neg (by omega), if_neg (by omega)]; exact d4
          · rw [er, if_neg (by omega), if_neg (by omega), if_neg (by omega), if_neg (by omega)]; exact d5
          · rw [er, if_neg (by omega), if_neg (by omega), if_neg (by omega), if_neg (by omega)]; exact d6
  · rw [eT 6 (by omega)]
    intro j j0 j1
    exact (e 8 _ (by omega) (by omega)).trans (hA j j0 j1)
  · obtain ⟨u0, u1, u2⟩ := g2
    exact ⟨by rw [eT 0 (by omega)]; exact u0, by rw [eT 1 (by omega)]; exact u1, by rw [eT 2 (by omega)]; exact u2⟩
  · rw [eT 3 (by omega)]; exact g3
  · refine ⟨by rw [eT 4 (by omega)]; exact b4, by rw [eTs]; omega, by rw [eT 6 (by omega)]; exact b6, by rw [eT 4 (by omega)]; exact r1, fun j j0 j1 => ?_, by rw [eT 6 (by omega)]; exact r3⟩
    rw [eTs] at j1
    rw [er (4 * j), er (4 * j + 1), er (4 * j + 2), er (4 * j + 3)]
    by_cases c : j = g.2.1 5
    · rw [if_pos (by omega), if_neg (by omega), if_pos (by omega), if_neg (by omega), if_neg (by omega), if_pos (by omega), if_neg (by omega), if_neg (by omega), if_neg (by omega), if_pos (by omega)]
      omega
    · rw [if_neg (by omega), if_neg (by omega), if_neg (by omega), if_neg (by omega), if_neg (by omega), if_neg (by omega), if_neg (by omega), if_neg (by omega), if_neg (by omega), if_neg (by omega), if_neg (by omega), if_neg (by omega), if_neg (by omega), if_neg (by omega), if_neg (by omega), if_neg (by omega)]
      exact r2 j j0 (by omega)
  · intro j j0 j1
    rw [eT 6 (by omega)] at j1
    exact g6 j j0 j1
theorem x_addSl (hp : PSh M s) {F : Nat → Int32} (hR : RXs f hd Z g) (hg : ROk g) {t : Nat} {q x y : Int} (hl : g.2.1 4 < 12) : g_X7_addSale n (PX M s F hd Z) s (zi t) (zi q) (zi x) (zi y) = some ((), PX M s F hd (up2 (up2 (up2 (up2 (up2 Z 7 (4 * (g.2.1 4 + g.2.1 5)).toNat (zi t)) 7 (4 * (g.2.1 4 + g.2.1 5) + 1).toNat (zi q)) 7 (4 * (g.2.1 4 + g.2.1 5) + 2).toNat (zi x)) 7 (4 * (g.2.1 4 + g.2.1 5) + 3).toNat (zi y)) 0 11 (zi (g.2.1 4 + 1)))) := by
  obtain ⟨b4, b5, -⟩ := hg.2.2.2.2.1
  have a11 : Z 0 11 = zi (g.2.1 4) := hR.1.1.2.2.2.2.2.1
  have a12 : Z 0 12 = zi (g.2.1 5) := hR.1.1.2.2.2.2.2.2.1
  unfold g_X7_addSale
  rw [p_kR hp, x_move hp (L := g.2.1 4 + g.2.1 5) (by omega) a11 a12 rfl, i_bd, p_gR hp, i_sb, up2_ne (by omega), up2_ne (by omega), up2_ne (by omega), up2_ne (by omega), a11, p_pR hp, i_sb, show zi (g.2.1 4) + 1 = zi (g.2.1 4 + 1) from zi_add _ 1]
theorem x_addBu (hp : PSh M s) {F : Nat → Int32} (hR : RXs f hd Z g) (hg : ROk g) {t : Nat} {q x y : Int} (hl : g.2.1 5 < 12) : g_X7_addBuy n (PX M s F hd Z) s (zi t) (zi q) (zi x) (zi y) = some ((), PX M s F hd (up2 (up2 (up2 (up2 (up2 Z 7 (4 * (g.2.1 4 + g.2.1 5)).toNat (zi t)) 7 (4 * (g.2.1 4 + g.2.1 5) + 1).toNat (zi q)) 7 (4 * (g.2.1 4 + g.2.1 5) + 2).toNat (zi (2 + x))) 7 (4 * (g.2.1 4 + g.2.1 5) + 3).toNat (zi y)) 0 12 (zi (g.2.1 5 + 1)))) := by
  obtain ⟨b4, b5, -⟩ := hg.2.2.2.2.1
  have a11 : Z 0 11 = zi (g.2.1 4) := hR.1.1.2.2.2.2.2.1
  have a12 : Z 0 12 = zi (g.2.1 5) := hR.1.1.2.2.2.2.2.2.1
  unfold g_X7_addBuy
  rw [p_kR hp, show (2 : Int32) + zi x = zi (2 + x) from zi_add 2 x, x_move hp (L := g.2.1 4 + g.2.1 5) (by omega) a11 a12 rfl, i_bd, p_gR hp, i_sb, up2_ne (by omega), up2_ne (by omega), up2_ne (by omega), up2_ne (by omega), a12, p_pR hp, i_sb, show zi (g.2.1 5) + 1 = zi (g.2.1 5 + 1) from zi_add _ 1]
end M30
