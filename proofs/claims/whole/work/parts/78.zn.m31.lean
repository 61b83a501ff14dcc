/-! ===== PURE 86: the component's lines: sale, buy, asset; a line whole ===== -/
def LXk {β : Type} (M : MemT) (s len : Nat) (out : (Int × Nat) ⊕ (PSt × Nat)) (code : Option β) (K : MemT × Int32 → Option β) : Prop := (∃ c pl f' hd' Z', out = .inl (c, pl) ∧ code = K (PX M s f' hd' Z', zi 0) ∧ f' 0 = zi c ∧ f' 1 = zi (pl : Int)) ∨ (∃ g' e f' hd' Z' k st v, out = .inr (g', e) ∧ e ≤ len ∧ code = K (PX M s (tkR f' k st (zi (e : Int)) v) hd' Z', zi 1) ∧ f' 3 = zi (len : Int) ∧ RXs f' hd' Z' g' ∧ ROk g')
theorem LXo_k {β : Type} {M : MemT} {s len : Nat} {out : (Int × Nat) ⊕ (PSt × Nat)} {run : Option (Int32 × MemT)} {K : MemT × Int32 → Option β} (h : LXo M s len out run) : LXk M s len out (bd run (fun r M1 => K (M1, r))) K := by
  rcases h with ⟨c, pl, f', hd', Z', h1, h2, h3, h4⟩ | ⟨g', e, f', hd', Z', k, st, v, h1, h2, h3, h4⟩
  · exact Or.inl ⟨c, pl, f', hd', Z', h1, by rw [h2]; rfl, h3, h4⟩
  · exact Or.inr ⟨g', e, f', hd', Z', k, st, v, h1, h2, by rw [h3]; rfl, h4⟩
section M31
variable {M : MemT} {s : Nat} {f hd : Nat → Int32} {Z : Nat → Nat → Int32} {u : Nat → Int} {n len p S0 : Nat} {k st e v w : Int32} {g : PSt}
theorem x_lnSl {β : Type} {K : MemT × Int32 → Option β} (hp : PSh M s) (hu : XT M u) (h3 : f 3 = zi (len : Int)) (hl : len ≤ 700) (hpl : p ≤ len) (hn : 1000 < n) (hR : RXs f hd Z g) (hg : ROk g) : LXk M s len (lnSl g u len S0 p) ((gO (PX M s (tkR f k (zi (S0 : Int)) (zi (p : Int)) v) hd Z) 4 2 4).bind (fun j41 => (gI (PX M s (tkR f k (zi (S0 : Int)) (zi (p : Int)) v) hd Z) 6 j41 11).bind (fun v42 => chk (PX M s (tkR f k (zi (S0 : Int)) (zi (p : Int)) v) hd Z) 4 2 (bd (g_X5_isRoom n (PX M s (tkR f k (zi (S0 : Int)) (zi (p : Int)) v) hd Z) 2 v42 12) (fun r43 M44 => jp (fun (s : MemT × Int32) => (fun (M46 : MemT) (v47 : Int32) => K (M46, v47)) s.1 s.2) (fun K45 => jp (fun (s : MemT) => (fun (M49 : MemT)  => K45 (M49, 0)) s) (fun K48 => (if r43 = 0 then K48 M44 else chk M44 4 2 (bd (g_X5_takeDeal n M44 2 2) (fun r50 M51 => (if r50 = 0 then K48 M51 else chk M51 4 2 (bd (g_X5_endSale n M51 2) (fun r52 M53 => (if r52 = 0 then K48 M53 else K45 (M53, 1))))))))))))))) K := by
  obtain ⟨b4, b5, -⟩ := id hg.2.2.2.2.1
  have a11 : Z 0 11 = zi (g.2.1 4) := hR.1.1.2.2.2.2.2.1
  unfold lnSl
  rw [p_o4 hp, i_sb, p_gR hp, i_sb, a11, p_k hp, show (12 : Int32) = zi 12 from rfl, x_room hp (by omega) (by omega)]
  by_cases c : 12 ≤ g.2.1 4
  · rw [if_pos c, if_neg (by omega), i_bd, i_jp, i_jp, if_pos (show zi 0 = (0 : Int32) from rfl)]
    exact Or.inl ⟨2, S0, _, _, _, rfl, rfl, rfl, rfl⟩
  · rw [if_neg c, if_pos (by omega), i_bd, i_jp, i_jp, if_neg (show ¬ (zi 1 = (0 : Int32)) by decide), p_k hp]
    rcases x_deal (k := k) (st := zi (S0 : Int)) (v := v) (kd := 1) hp hu h3 hl hpl hn hR hg (by omega) with ⟨c', pl, f', q1, q2, q3, q4⟩ | ⟨t, q, x, e', k', st', v', q1, ht, hq, hx, he, q2⟩
    · rw [q1, show g_X5_takeDeal n _ 2 2 = _ from q2, i_bd, if_pos (show zi 0 = (0 : Int32) from rfl)]
      exact Or.inl ⟨c', _, f', _, _, rfl, rfl, q3, q4⟩
    · have h3' : up1 (up1 (up1 f 9 (zi (t : Int))) 10 (zi q)) 11 (zi x) 3 = zi (len : Int) := (up1_ne (by omega)).trans ((up1_ne (by omega)).trans ((up1_ne (by omega)).trans h3))
      have hR' : RXs (up1 (up1 (up1 f 9 (zi (t : Int))) 10 (zi q)) 11 (zi x)) hd Z g := RXs_f hR (fun j hj => (up1_ne (by omega)).trans ((up1_ne (by omega)).trans (up1_ne (by omega))))
      rw [q1, pb_r, show g_X5_takeDeal n _ 2 2 = _ from q2, i_bd, if_neg (show ¬ (zi 1 = (0 : Int32)) by decide), p_k hp]
      unfold g_X5_endSale
      rw [p_k hp]
      dsimp only
      rcases x_num (k := k') (st := st') (v := v') (hd := hd) (Z := Z) (lo := 1) (hi := 99999) hp hu h3' hl he hn (by omega) (by omega) with ⟨c', f', r3, r4, r5, r6⟩ | ⟨r3, r4, r5⟩
      · rw [r3, show g_X5_takeNumber n _ 2 1 99999 = _ from r4, i_bd, if_pos (show zi 0 = (0 : Int32) from rfl)]
        exact Or.inl ⟨c', _, f', _, _, rfl, rfl, r5, r6⟩
      · obtain ⟨e5, e6⟩ := tkE_r (u := u) he
        obtain ⟨z1, z2⟩ := RXs_sl (q := q) (x := x) (y := numV u len e') hR' hg ht hq hx r4 (by omega)
        rw [r3, pb_r, show g_X5_takeNumber n _ 2 1 99999 = _ from r5, i_bd, if_neg (show ¬ (zi 1 = (0 : Int32)) by decide), p_o4 hp, i_sb, p_gI hp, i_sb, tk_o (by omega), p_gI hp, i_sb, tk_o (by omega), p_gI hp, i_sb, tk_o (by omega), p_gI hp, i_sb, tk_8, p_kR hp]
        rw [show up1 (up1 (up1 f 9 (zi (t : Int))) 10 (zi q)) 11 (zi x) 9 = zi (t : Int) by rw [up1_ne (by omega), up1_ne (by omega), up1_at], show up1 (up1 (up1 f 9 (zi (t : Int))) 10 (zi q)) 11 (zi x) 10 = zi q by rw [up1_ne (by omega), up1_at], up1_at, x_addSl hp hR' hg (by omega), i_bd]
        exact Or.inr ⟨_, _, _, _, _, _, _, _, rfl, e6, rfl, h3', z1, z2⟩
theorem x_lnBu {β : Type} {K : MemT × Int32 → Option β} (hp : PSh M s) (hu : XT M u) (h3 : f 3 = zi (len : Int)) (hl : len ≤ 700) (hpl : p ≤ len) (hn : 1000 < n) (hR : RXs f hd Z g) (hg : ROk g) : LXk M s len (lnBu g u len S0 p) ((gO (PX M s (tkR f k (zi (S0 : Int)) (zi (p : Int)) v) hd Z) 4 2 4).bind (fun j55 => (gI (PX M s (tkR f k (zi (S0 : Int)) (zi (p : Int)) v) hd Z) 6 j55 12).bind (fun v56 => chk (PX M s (tkR f k (zi (S0 : Int)) (zi (p : Int)) v) hd Z) 4 2 (bd (g_X5_isRoom n (PX M s (tkR f k (zi (S0 : Int)) (zi (p : Int)) v) hd Z) 2 v56 12) (fun r57 M58 => jp (fun (s : MemT × Int32) => (fun (M60 : MemT) (v61 : Int32) => K (M60, v61)) s.1 s.2) (fun K59 => jp (fun (s : MemT) => (fun (M63 : MemT)  => K59 (M63, 0)) s) (fun K62 => (if r57 = 0 then K62 M58 else chk M58 4 2 (bd (g_X5_takeDeal n M58 2 3) (fun r64 M65 => (if r64 = 0 then K62 M65 else chk M65 4 2 (bd (g_X5_endBuy n M65 2) (fun r66 M67 => (if r66 = 0 then K62 M67 else K59 (M67, 1))))))))))))))) K := by
  obtain ⟨b4, b5, -⟩ := id hg.2.2.2.2.1
  have a12 : Z 0 12 = zi (g.2.1 5) := hR.1.1.2.2.2.2.2.2.1
  unfold lnBu
  rw [p_o4 hp, i_sb, p_gR hp, i_sb, a12, p_k hp, show (12 : Int32) = zi 12 from rfl, x_room hp (by omega) (by omega)]
  by_cases c : 12 ≤ g.2.1 5
  · rw [if_pos c, if_neg (by omega), i_bd, i_jp, i_jp, if_pos (show zi 0 = (0 : Int32) from rfl)]
    exact Or.inl ⟨2, S0, _, _, _, rfl, rfl, rfl, rfl⟩
  · rw [if_neg c, if_pos (by omega), i_bd, i_jp, i_jp, if_neg (show ¬ (zi 1 = (0 : Int32)) by decide), p_k hp]
    rcases x_deal (k := k) (st := zi (S0 : Int)) (v := v) (kd := 2) hp hu h3 hl hpl hn hR hg (by omega) with ⟨c', pl, f', q1, q2, q3, q4⟩ | ⟨t, q, x, e', k', st', v', q1, ht, hq, hx, he, q2⟩
    · rw [q1, show g_X5_takeDeal n _ 2 3 = _ from q2, i_bd, if_pos (show zi 0 = (0 : Int32) from rfl)]
      exact Or.inl ⟨c', _, f', _, _, rfl, rfl, q3, q4⟩
    · have h3' : up1 (up1 (up1 f 9 (zi (t : Int))) 10 (zi q)) 11 (zi x) 3 = zi (len : Int) := (up1_ne (by omega)).trans ((up1_ne (by omega)).trans ((up1_ne (by omega)).trans h3))
      have hR' : RXs (up1 (up1 (up1 f 9 (zi (t : Int))) 10 (zi q)) 11 (zi x)) hd Z g := RXs_f hR (fun j hj => (up1_ne (by omega)).trans ((up1_ne (by omega)).trans (up1_ne (by omega))))
      rw [q1, pb_r, show g_X5_takeDeal n _ 2 3 = _ from q2, i_bd, if_neg (show ¬ (zi 1 = (0 : Int32)) by decide), p_k hp]
      unfold g_X5_endBuy
      rw [p_k hp]
      dsimp only
      rcases x_num (k := k') (st := st') (v := v') (hd := hd) (Z := Z) (lo := 1) (hi := 9999) hp hu h3' hl he hn (by omega) (by omega) with ⟨c', f', r3, r4, r5, r6⟩ | ⟨r3, r4, r5⟩
      · rw [r3, show g_X5_takeNumber n _ 2 1 9999 = _ from r4, i_bd, if_pos (show zi 0 = (0 : Int32) from rfl)]
        exact Or.inl ⟨c', _, f', _, _, rfl, rfl, r5, r6⟩
      · obtain ⟨e5, e6⟩ := tkE_r (u := u) he
        obtain ⟨z1, z2⟩ := RXs_bu (q := q) (x := x) (y := numV u len e') hR' hg ht hq hx r4 (by omega)
        rw [r3, pb_r, show g_X5_takeNumber n _ 2 1 9999 = _ from r5, i_bd, if_neg (show ¬ (zi 1 = (0 : Int32)) by decide), p_o4 hp, i_sb, p_gI hp, i_sb, tk_o (by omega), p_gI hp, i_sb, tk_o (by omega), p_gI hp, i_sb, tk_o (by omega), p_gI hp, i_sb, tk_8, p_kR hp]
        rw [show up1 (up1 (up1 f 9 (zi (t : Int))) 10 (zi q)) 11 (zi x) 9 = zi (t : Int) by rw [up1_ne (by omega), up1_ne (by omega), up1_at], show up1 (up1 (up1 f 9 (zi (t : Int))) 10 (zi q)) 11 (zi x) 10 = zi q by rw [up1_ne (by omega), up1_at], up1_at, x_addBu hp hR' hg (by omega), i_bd]
        exact Or.inr ⟨_, _, _, _, _, _, _, _, rfl, e6, rfl, h3', z1, z2⟩
theorem x_addAs (hp : PSh M s) {F : Nat → Int32} (hR : RXs f hd Z g) (hg : ROk g) {t : Nat} {q x y z : Int} (hl : g.2.1 6 < 4) : g_X7_addAsset n (PX M s F hd Z) s (zi t) (zi q) (zi x) (zi y) (zi z) = some ((), PX M s F hd (up2 (up2 (up2 (up2 (up2 (up2 Z 8 (5 * g.2.1 6).toNat (zi t)) 8 (5 * g.2.1 6 + 1).toNat (zi q)) 8 (5 * g.2.1 6 + 2).toNat (zi x)) 8 (5 * g.2.1 6 + 3).toNat (zi y)) 8 (5 * g.2.1 6 + 4).toNat (zi z)) 0 14 (zi (g.2.1 6 + 1)))) := by
  obtain ⟨b4, b5, b6, -⟩ := id hg.2.2.2.2.1
  have a14 : Z 0 14 = zi (g.2.1 6) := hR.1.1.2.2.2.2.2.2.2
  have gL : ∀ Y, aL (PX M s F hd Y) (s + 8) = some (zi 20) := fun Y => i_aLg (M := PX M s F hd Y) (N := 20) (show 10 ≤ mK M (s + 8) ∧ mK M (s + 8) < 16 by rw [hp.2.2.2.1.2.2.1.2.2.2.2.2.2.2]; omega) hp.2.2.2.1.2.2.2.2.2.2.2.2.2.2
  have el : zi (g.2.1 6) * 5 = zi (5 * g.2.1 6) := by
    show zi (g.2.1 6) * zi 5 = _
    rw [zi_mul]
    exact congrArg zi (by omega)
  have el5 : zi (5 * g.2.1 6) + 5 = zi (5 * g.2.1 6 + 5) := zi_add _ 5
  have el1 : zi (5 * g.2.1 6) + 1 = zi (5 * g.2.1 6 + 1) := zi_add _ 1
  have el2 : zi (5 * g.2.1 6) + 2 = zi (5 * g.2.1 6 + 2) := zi_add _ 2
  have el3 : zi (5 * g.2.1 6) + 3 = zi (5 * g.2.1 6 + 3) := zi_add _ 3
  have el4 : zi (5 * g.2.1 6) + 4 = zi (5 * g.2.1 6 + 4) := zi_add _ 4
  unfold g_X7_addAsset
  rw [p_gR hp, i_sb, a14, p_r15 hp, i_sb, gL, i_sb, el, el5, if_pos (by rw [zi_le (by omega) (by omega) (by omega) (by omega)]; omega), i_sb, p_w8 hp (by omega) (by omega), i_sb, p_r15 hp, i_sb, el1, p_w8 hp (by omega) (by omega), i_sb, p_r15 hp, i_sb, el2, p_w8 hp (by omega) (by omega), i_sb, p_r15 hp, i_sb, el3, p_w8 hp (by omega) (by omega), i_sb, p_r15 hp, i_sb, el4, p_w8 hp (by omega) (by omega), i_sb, p_gR hp, i_sb, up2_ne (by omega), up2_ne (by omega), up2_ne (by omega), up2_ne (by omega), up2_ne (by omega), a14, p_pR hp, i_sb, show zi (g.2.1 6) + 1 = zi (g.2.1 6 + 1) from zi_add _ 1]
theorem RXs_as {t : Nat} {q x y z : Int} (hR : RXs f hd Z g) (hg : ROk g) (ht : (t : Int) < g.1) (hq : 0 ≤ q ∧ q ≤ 63) (hx : 0 ≤ x ∧ x ≤ 2) (hy : 1 ≤ y ∧ y ≤ 9999) (hz : z = 5 ∨ z = 10) (hl : g.2.1 6 < 4) : RXs f hd (up2 (up2 (up2 (up2 (up2 (up2 Z 8 (5 * g.2.1 6).toNat (zi t)) 8 (5 * g.2.1 6 + 1).toNat (zi q)) 8 (5 * g.2.1 6 + 2).toNat (zi x)) 8 (5 * g.2.1 6 + 3).toNat (zi y)) 8 (5 * g.2.1 6 + 4).toNat (zi z)) 0 14 (zi (g.2.1 6 + 1))) (addAs g t q x y z) ∧ ROk (addAs g t q x y z) := by
  obtain ⟨⟨⟨a0, a7, a8, a9, a10, a11, a12, a14⟩, hT, hC, hA⟩, hH, hW⟩ := hR
  obtain ⟨g1, g2, g3, g4, g5, g6⟩ := hg
  obtain ⟨b4, b5, b6, r1, r2, r3⟩ := id g5
  have eT : ∀ i : Int, i ≠ 6 → (addAs g t q x y z).2.1 i = g.2.1 i := fun i hi => upZ_ne hi
  have eTs : (addAs g t q x y z).2.1 6 = g.2.1 6 + 1 := (upZ_self : upZ g.2.1 6 (g.2.1 6 + 1) 6 = _)
  have er : ∀ i : Int, (addAs g t q x y z).2.2.2.2.2.1 i = if i = 5 * g.2.1 6 + 4 then z else if i = 5 * g.2.1 6 then (t : Int) else if i = 5 * g.2.1 6 + 1 then q else if i = 5 * g.2.1 6 + 2 then x else if i = 5 * g.2.1 6 + 3 then y else g.2.2.2.2.2.1 i := fun i => by
    show (if i = 5 * g.2.1 6 + 4 then z else row4 g.2.2.2.2.2.1 (5 * g.2.1 6) t q x y i) = _
    rw [row4_at]
  generalize hN : g.2.1 6 = N at *
  have e : ∀ o j, o ≠ 8 → (o ≠ 0 ∨ j ≠ 14) → (up2 (up2 (up2 (up2 (up2 (up2 Z 8 (5 * N).toNat (zi t)) 8 (5 * N + 1).toNat (zi q)) 8 (5 * N + 2).toNat (zi x)) 8 (5 * N + 3).toNat (zi y)) 8 (5 * N + 4).toNat (zi z)) 0 14 (zi (N + 1))) o j = Z o j := fun o j h1 h2 => by rw [up2_ne (by omega), up2_ne (by omega), up2_ne (by omega), up2_ne (by omega), up2_ne (by omega), up2_ne (by omega)]
  have e8 : ∀ j : Nat, (up2 (up2 (up2 (up2 (up2 (up2 Z 8 (5 * N).toNat (zi t)) 8 (5 * N + 1).toNat (zi q)) 8 (5 * N + 2).toNat (zi x)) 8 (5 * N + 3).toNat (zi y)) 8 (5 * N + 4).toNat (zi z)) 0 14 (zi (N + 1))) 8 j = if (j : Int) = 5 * N + 4 then zi z else if (j : Int) = 5 * N then zi t else if (j : Int) = 5 * N + 1 then zi q else if (j : Int) = 5 * N + 2 then zi x else if (j : Int) = 5 * N + 3 then zi y else Z 8 j := fun j => by
    by_cases c4 : (j : Int) = 5 * N + 4
    · rw [if_pos c4, up2_ne (by omega), show j = (5 * N + 4).toNat by omega, up2_at]
    · rw [if_neg c4]
      by_cases c0 : (j : Int) = 5 * N
      · rw [if_pos c0, up2_ne (by omega), up2_ne (by omega), up2_ne (by omega), up2_ne (by omega), up2_ne (by omega), show j = (5 * N).toNat by omega, up2_at]
      · rw [if_neg c0]
        by_cases c1 : (j : Int) = 5 * N + 1
        · rw [if_pos c1, up2_ne (by omega), up2_ne (by omega), up2_ne (by omega), up2_ne (by omega), show j = (5 * N + 1).toNat by omega, up2_at]
        · rw [if_neg c1]
          by_cases c2 : (j : Int) = 5 * N + 2
          · rw [if_pos c2, up2_ne (by omega), up2_ne (by omega), up2_ne (by omega), show j = (5 * N + 2).toNat by omega, up2_at]
          · rw [if_neg c2]
            by_cases c3 : (j : Int) = 5 * N + 3
            · rw [if_pos c3, up2_ne (by omega), up2_ne (by omega), show j = (5 * N + 3).toNat by omega, up2_at]
            · rw [if_neg c3, up2_ne (by omega), up2_ne (by omega), up2_ne (by omega), up2_ne (by omega), up2_ne (by omega), up2_ne (by omega)]
  have eY : (up2 (up2 (up2 (up2 (up2 (up2 Z 8 (5 * N).toNat (zi t)) 8 (5 * N + 1).toNat (zi q)) 8 (5 * N + 2).toNat (zi x)) 8 (5 * N + 3).toNat (zi y)) 8 (5 * N + 4).toNat (zi z)) 0 14 (zi (N + 1))) 0 14 = zi (N + 1) := up2_at
  generalize (up2 (up2 (up2 (up2 (up2 (up2 Z 8 (5 * N).toNat (zi t)) 8 (5 * N + 1).toNat (zi q)) 8 (5 * N + 2).toNat (zi x)) 8 (5 * N + 3).toNat (zi y)) 8 (5 * N + 4).toNat (zi z)) 0 14 (zi (N + 1))) = Y at e e8 eY ⊢
  refine ⟨⟨⟨⟨(e _ _ (by omega) (by omega)).trans a0, ?_, ?_, ?_, ?_, ?_, ?_, ?_⟩, fun t' t0 t1 => ?_, ?_, ?_⟩, hH, hW⟩, ⟨g1, ?_, ?_, g4, ?_, ?_⟩⟩
  · rw [eT 0 (by omega)]; exact (e 0 7 (by omega) (by omega)).trans a7
  · rw [eT 1 (by omega)]; exact (e 0 8 (by omega) (by omega)).trans a8
  · rw [eT 2 (by omega)]; exact (e 0 9 (by omega) (by omega)).trans a9
  · rw [eT 3 (by omega)]; exact (e 0 10 (by omega) (by omega)).trans a10
  · rw [eT 4 (by omega)]; exact (e 0 11 (by omega) (by omega)).trans a11
  · rw [eT 5 (by omega)]; exact (e 0 12 (by omega) (by omega)).trans a12
  · rw [eTs]; exact eY
  · have z := hT t' t0 t1
    exact ⟨(e _ _ (by omega) (by omega)).trans z.1, (e _ _ (by omega) (by omega)).trans z.2.1, (e _ _ (by omega) (by omega)).trans z.2.2.1, (e _ _ (by omega) (by omega)).trans z.2.2.2.1, (e _ _ (by omega) (by omega)).trans z.2.2.2.2.1, (e _ _ (by omega) (by omega)).trans z.2.2.2.2.2⟩
  · obtain ⟨cs, c1, c2, c3⟩ := hC
    rw [eT 4 (by omega), eT 5 (by omega)]
    refine ⟨cs, c1, c2, fun i hi => ?_⟩
    rw [e 7 _ (by omega) (by omega), e 7 _ (by omega) (by omega), e 7 _ (by omega) (by omega), e 7 _ (by omega) (by omega)]
    exact c3 i hi
  · rw [eTs]
    intro j j0 j1
    rw [e8, er]
    by_cases c4 : j = 5 * N + 4
    · rw [if_pos (by omega), if_pos c4]
    · rw [if_neg (by omega), if_neg c4]
      by_cases c0 : j = 5 * N
      · rw [if_pos (by omega), if_pos c0]
      · rw [if_neg (by omega), if_neg c0]
        by_cases c1 : j = 5 * N + 1
        · rw [if_pos (by omega), if_pos c1]
        · rw [if_neg (by omega), if_neg c1]
          by_cases c2 : j = 5 * N + 2
          · rw [if_pos (by omega), if_pos c2]
          · rw [if_neg (by omega), if_neg c2]
            by_cases c3 : j = 5 * N + 3
            · rw [if_pos (by omega), if_pos c3]
            · rw [if_neg (by omega), if_neg c3]
              exact hA j j0 (by omega)
  · obtain ⟨u0, u1, u2⟩ := g2
    exact ⟨by rw [eT 0 (by omega)]; exact u0, by rw [eT 1 (by omega)]; exact u1, by rw [eT 2 (by omega)]; exact u2⟩
  · rw [eT 3 (by omega)]; exact g3
  · refine ⟨by rw [eT 4 (by omega)]; exact b4, by rw [eT 5 (by omega)]; exact b5, by rw [eTs]; omega, by rw [eT 4 (by omega)]; exact r1, by rw [eT 5 (by omega)]; exact r2, fun j j0 j1 => ?_⟩
    rw [eTs] at j1
    rw [er (5 * j), er (5 * j + 1), er (5 * j + 2), er (5 * j + 3), er (5 * j + 4)]
    by_cases c : j = N
    · rw [if_neg (by omega), if_pos (by omega), if_neg (by omega), if_neg (by omega), if_pos (by omega), if_neg (by omega), if_neg (by omega), if_neg (by omega), if_pos (by omega), if_neg (by omega), if_neg (by omega), if_neg (by omega), if_neg (by omega), if_pos (by omega), if_pos (by omega)]
      exact ⟨by omega, by omega, hx, hy, hz⟩
    · simp only [show ¬ (5 * j = 5 * N + 4) by omega, show ¬ (5 * j = 5 * N) by omega, show ¬ (5 * j = 5 * N + 1) by omega, show ¬ (5 * j = 5 * N + 2) by omega, show ¬ (5 * j = 5 * N + 3) by omega, show ¬ (5 * j + 1 = 5 * N + 4) by omega, show ¬ (5 * j + 1 = 5 * N) by omega, show ¬ (5 * j + 1 = 5 * N + 1) by omega, show ¬ (5 * j + 1 = 5 * N + 2) by omega, show ¬ (5 * j + 1 = 5 * N + 3) by omega, show ¬ (5 * j + 2 = 5 * N + 4) by omega, show ¬ (5 * j + 2 = 5 * N) by omega, show ¬ (5 * j + 2 = 5 * N + 1) by omega, show ¬ (5 * j + 2 = 5 * N + 2) by omega, show ¬ (5 * j + 2 = 5 * N + 3) by omega, show ¬ (5 * j + 3 = 5 * N + 4) by omega, show ¬ (5 * j + 3 = 5 * N) by omega, show ¬ (5 * j + 3 = 5 * N + 1) by omega, show ¬ (5 * j + 3 = 5 * N + 2) by omega, show ¬ (5 * j + 3 = 5 * N + 3) by omega, show ¬ (5 * j + 4 = 5 * N + 4) by omega, show ¬ (5 * j + 4 = 5 * N) by omega, show ¬ (5 * j + 4 = 5 * N + 1) by omega, show ¬ (5 * j + 4 = 5 * N + 2) by omega, show ¬ (5 * j + 4 = 5 * N + 3) by omega, if_false]
      exact r3 j j0 (by omega)
  · intro j j0 j1
    rw [eTs] at j1
    rw [er]
    by_cases c : j = N
    · rw [if_neg (by omega), if_pos (by omega)]
      exact ht
    · rw [if_neg (by omega), if_neg (by omega), if_neg (by omega), if_neg (by omega), if_neg (by omega)]
      exact g6 j j0 (by omega)
theorem x_lnAs {β : Type} {K : MemT × Int32 → Option β} (hp : PSh M s) (hu : XT M u) (h3 : f 3 = zi (len : Int)) (hl : len ≤ 700) (hpl : p ≤ len) (hn : 1000 < n) (hR : RXs f hd Z g) (hg : ROk g) : LXk M s len (lnAs g u len S0 p) ((gO (PX M s (tkR f k (zi (S0 : Int)) (zi (p : Int)) v) hd Z) 4 2 4).bind (fun j69 => (gI (PX M s (tkR f k (zi (S0 : Int)) (zi (p : Int)) v) hd Z) 6 j69 14).bind (fun v70 => chk (PX M s (tkR f k (zi (S0 : Int)) (zi (p : Int)) v) hd Z) 4 2 (bd (g_X5_isRoom n (PX M s (tkR f k (zi (S0 : Int)) (zi (p : Int)) v) hd Z) 2 v70 4) (fun r71 M72 => jp (fun (s : MemT × Int32) => (fun (M74 : MemT) (v75 : Int32) => K (M74, v75)) s.1 s.2) (fun K73 => jp (fun (s : MemT) => (fun (M77 : MemT)  => K73 (M77, 0)) s) (fun K76 => (if r71 = 0 then K76 M72 else chk M72 4 2 (bd (g_X5_takeDeal n M72 2 3) (fun r78 M79 => (if r78 = 0 then K76 M79 else chk M79 4 2 (bd (g_X5_endAsset n M79 2) (fun r80 M81 => (if r80 = 0 then K76 M81 else K73 (M81, 1))))))))))))))) K := by
  obtain ⟨b4, b5, b6, -⟩ := id hg.2.2.2.2.1
  have a14 : Z 0 14 = zi (g.2.1 6) := hR.1.1.2.2.2.2.2.2.2
  unfold lnAs
  rw [p_o4 hp, i_sb, p_gR hp, i_sb, a14, p_k hp, show (4 : Int32) = zi 4 from rfl, x_room hp (by omega) (by omega)]
  by_cases c : 4 ≤ g.2.1 6
  · rw [if_pos c, if_neg (by omega), i_bd, i_jp, i_jp, if_pos (show zi 0 = (0 : Int32) from rfl)]
    exact Or.inl ⟨2, S0, _, _, _, rfl, rfl, rfl, rfl⟩
  · rw [if_neg c, if_pos (by omega), i_bd, i_jp, i_jp, if_neg (show ¬ (zi 1 = (0 : Int32)) by decide), p_k hp]
    rcases x_deal (k := k) (st := zi (S0 : Int)) (v := v) (kd := 2) hp hu h3 hl hpl hn hR hg (by omega) with ⟨c', pl, f', q1, q2, q3, q4⟩ | ⟨t, q, x, e', k', st', v', q1, ht, hq, hx, he, q2⟩
    · rw [q1, show g_X5_takeDeal n _ 2 3 = _ from q2, i_bd, if_pos (show zi 0 = (0 : Int32) from rfl)]
      exact Or.inl ⟨c', _, f', _, _, rfl, rfl, q3, q4⟩
    · have h3' : up1 (up1 (up1 f 9 (zi (t : Int))) 10 (zi q)) 11 (zi x) 3 = zi (len : Int) := (up1_ne (by omega)).trans ((up1_ne (by omega)).trans ((up1_ne (by omega)).trans h3))
      have hR' : RXs (up1 (up1 (up1 f 9 (zi (t : Int))) 10 (zi q)) 11 (zi x)) hd Z g := RXs_f hR (fun j hj => (up1_ne (by omega)).trans ((up1_ne (by omega)).trans (up1_ne (by omega))))
      rw [q1, pb_r, show g_X5_takeDeal n _ 2 3 = _ from q2, i_bd, if_neg (show ¬ (zi 1 = (0 : Int32)) by decide), p_k hp]
      unfold g_X5_endAsset
      rw [p_k hp]
      dsimp only
      rcases x_num (k := k') (st := st') (v := v') (hd := hd) (Z := Z) (lo := 1) (hi := 9999) hp hu h3' hl he hn (by omega) (by omega) with ⟨c', f', r3, r4, r5, r6⟩ | ⟨r3, r4, r5⟩
      · rw [r3, show g_X5_takeNumber n _ 2 1 9999 = _ from r4, i_bd, if_pos (show zi 0 = (0 : Int32) from rfl)]
        exact Or.inl ⟨c', _, f', _, _, rfl, rfl, r5, r6⟩
      · obtain ⟨e5, e6⟩ := tkE_r (u := u) he
        obtain ⟨s5, s6⟩ := tkS_r (u := u) e6
        rw [r3, pb_r, show g_X5_takeNumber n _ 2 1 9999 = _ from r5, i_bd, if_neg (show ¬ (zi 1 = (0 : Int32)) by decide), p_gI hp, i_sb, tk_8, p_k hp]
        dsimp only
        rcases x_num (k := 2) (st := zi (tkS u len e' : Int)) (v := zi (numV u len e')) (hd := hd) (Z := Z) (lo := 0) (hi := 10) hp hu h3' hl e6 hn (by omega) (by omega) with ⟨c', f', w3, w4, w5, w6⟩ | ⟨w3, w4, w5⟩
        · rw [w3, show g_X5_takeNumber n _ 2 0 10 = _ from w4, i_bd, if_pos (show zi 0 = (0 : Int32) from rfl)]
          exact Or.inl ⟨c', _, f', _, _, rfl, rfl, w5, w6⟩
        · obtain ⟨e7, e8⟩ := tkE_r (u := u) e6
          have eiv : ∀ W, g_X9_isIntervals n W (zi (numV u len (tkE u len e'))) = some (if numV u len (tkE u len e') = 5 ∨ numV u len (tkE u len e') = 10 then zi 1 else zi 0, W) := fun W => by
            have i5 : (zi (numV u len (tkE u len e')) = (5 : Int32)) = (numV u len (tkE u len e') = 5) := zi_eq (b := 5) (by omega) (by omega) (by omega) (by omega)
            have i10 : (zi (numV u len (tkE u len e')) = (10 : Int32)) = (numV u len (tkE u len e') = 10) := zi_eq (b := 10) (by omega) (by omega) (by omega) (by omega)
            unfold g_X9_isIntervals
            by_cases d5 : numV u len (tkE u len e') = 5
            · rw [if_pos (by rw [i5]; exact d5), if_pos (Or.inl d5)]; exact rz_1
            · rw [if_neg (by rw [i5]; exact d5)]
              by_cases d10 : numV u len (tkE u len e') = 10
              · rw [if_pos (by rw [i10]; exact d10), if_pos (Or.inr d10)]; exact rz_1
              · rw [if_neg (by rw [i10]; exact d10), if_neg (fun q => q.elim d5 d10)]; exact rz_0
          rw [w3, pb_r, show g_X5_takeNumber n _ 2 0 10 = _ from w5, i_bd, if_neg (show ¬ (zi 1 = (0 : Int32)) by decide), p_gI hp, i_sb, tk_8, eiv, i_bd]
          dsimp only
          by_cases d : numV u len (tkE u len e') = 5 ∨ numV u len (tkE u len e') = 10
          · obtain ⟨z1, z2⟩ := RXs_as (q := q) (x := x) (y := numV u len e') (z := numV u len (tkE u len e')) hR' hg ht hq hx r4 d (by omega)
            rw [if_pos d, if_pos d, if_neg (show ¬ (zi 1 = (0 : Int32)) by decide), p_o4 hp, i_sb, p_gI hp, i_sb, tk_o (by omega), p_gI hp, i_sb, tk_o (by omega), p_gI hp, i_sb, tk_o (by omega), p_gI hp, i_sb, tk_8, p_kR hp]
            rw [show up1 (up1 (up1 f 9 (zi (t : Int))) 10 (zi q)) 11 (zi x) 9 = zi (t : Int) by rw [up1_ne (by omega), up1_ne (by omega), up1_at], show up1 (up1 (up1 f 9 (zi (t : Int))) 10 (zi q)) 11 (zi x) 10 = zi q by rw [up1_ne (by omega), up1_at], up1_at, x_addAs hp hR' hg (by omega), i_bd]
            exact Or.inr ⟨_, _, _, _, _, _, _, _, rfl, e8, rfl, h3', z1, z2⟩
          · rw [if_neg d, if_neg d, if_pos (show zi 0 = (0 : Int32) from rfl), p_gI hp, i_sb, tk_6, p_k hp, x_fail hp, i_bd]
            exact Or.inl ⟨2, tkS u len (tkE u len e'), _, _, _, rfl, rfl, rfl, rfl⟩
end M31
