/-! ===== PURE 90: the reference's lines: rows ===== -/
def rowTail (n : Nat) (a0 a1 : Nat) (a2 a3 : Int32) (M18 : MemT) : Option (Int32 × MemT) := (if 5 ≤ a3 then (gI M18 8 a0 8).bind (fun v19 => (if v19 = 3 then (gI M18 8 a0 9).bind (fun v22 => jp (fun (s : MemT) => (fun (M24 : MemT)  => (gI M24 8 a0 9).bind (fun v25 => (wI M24 a1 (a2 + 4) v25).bind (fun M26 => chk M26 8 a0 (bd (g_X10_token n M26 a0) (fun r27 M28 => rz 1 M28))))) s) (fun K23 => (if v22 = 5 then K23 M18 else (gI M18 8 a0 9).bind (fun v29 => (if v29 = 10 then K23 M18 else chk M18 8 a0 (bd (g_X10_wrong n M18 a0 2) (fun r30 M31 => rz r30 M31))))))) else chk M18 8 a0 (bd (g_X10_wrong n M18 a0 1) (fun r20 M21 => rz r20 M21)))) else rz 1 M18)
def RowO (M : MemT) (g0 : Nat → Int32) (A0 : Nat → Nat → Int32) (u : Nat → Int) (len : Nat) (s : PSt) (p : Nat) (kd top : Int) (o : Nat) (B : Int) (tail : MemT → Option (Int32 × MemT)) (run : Option (Int32 × MemT)) : Prop :=
  (∃ c pl g' A', (dealR s u len p kd = .inl (c, pl) ∨ ∃ d, dealR s u len p kd = .inr d ∧ numR u len d.2 1 top = .inl (c, pl)) ∧ run = some (zi 0, YX M g' A') ∧ g' 4 = zi c ∧ g' 5 = zi (pl : Int) ∧ gFr g0 g' ∧ AFr A0 A' ∧ TRAf A') ∨
  (∃ t q w x e3 e4 g' A' w', dealR s u len p kd = .inr ((t, q, w), e3) ∧ numR u len e3 1 top = .inr (x, e4) ∧ e4 ≤ len ∧ run = tail (YX M (AHf u len g' e4 w') A') ∧ RYs g0 A0 len g' A' s ∧ A' o B.toNat = zi ((t : Nat) : Int) ∧ A' o (B + 1).toNat = zi q ∧ A' o (B + 2).toNat = zi w ∧ A' o (B + 3).toNat = zi x)
section M35
variable {M : MemT} {g g0 g' : Nat → Int32} {A A0 : Nat → Nat → Int32} {u : Nat → Int} {n len p S0 : Nat} {e k w a v c d : Int32} {s : PSt}
theorem TRAf_o {o i : Nat} (h : TRAf A) (ho : o ≠ 0) : TRAf (up2 A o i v) := by
  intro t ht
  obtain ⟨b1, b2, b3, b4, h1, h2, h3, h4⟩ := h t ht
  exact ⟨b1, b2, b3, b4, ⟨(up2_ne (by omega)).trans h1.1, h1.2⟩, ⟨(up2_ne (by omega)).trans h2.1, h2.2⟩, ⟨(up2_ne (by omega)).trans h3.1, h3.2⟩, ⟨(up2_ne (by omega)).trans h4.1, h4.2⟩⟩
theorem RYs_w {o i : Nat} (h : RYs g0 A0 len g A s) (hT : 0 ≤ s.2.1 4 ∧ 0 ≤ s.2.1 5 ∧ 0 ≤ s.2.1 6) (hi : (o = 1 ∧ 48 + 4 * s.2.1 4 ≤ i) ∨ (o = 2 ∧ 48 + 4 * s.2.1 5 ≤ i) ∨ (o = 3 ∧ 20 + 5 * s.2.1 6 ≤ i)) : RYs g0 A0 len g (up2 A o i v) s :=
  ⟨⟨h.1.1, AFr_w h.1.2.1 (by omega), TRAf_o h.1.2.2 (by omega)⟩, h.2.1, fun j q1 q2 => (up2_ne (by omega)).trans (h.2.2.1 j q1 q2), fun t j q1 q2 q3 q4 => (up2_ne (by omega)).trans (h.2.2.2.1 t j q1 q2 q3 q4), fun j q1 q2 => (up2_ne (by omega)).trans (h.2.2.2.2.1 j q1 q2), fun j q1 q2 => (up2_ne (by omega)).trans (h.2.2.2.2.2.1 j q1 q2), fun j q1 q2 => (up2_ne (by omega)).trans (h.2.2.2.2.2.2 j q1 q2)⟩
theorem y_row {a1 o : Nat} {B kd top : Int} {a3 : Int32} (hS : MShape M) (hu : YT M u) (hl : len ≤ 700) (hpl : p ≤ len) (hn : 1000 < n) (hR : RYs g0 A0 len g A s) (hg : ROk s) (ha : a1 = 142 + o) (hB : (o = 1 ∧ B = 48 + 4 * s.2.1 4 ∧ s.2.1 4 < 12) ∨ (o = 2 ∧ B = 48 + 4 * s.2.1 5 ∧ s.2.1 5 < 12) ∨ (o = 3 ∧ B = 20 + 5 * s.2.1 6 ∧ s.2.1 6 < 4)) (hk : 0 ≤ kd ∧ kd ≤ 99999) (ht : 0 ≤ top ∧ top ≤ 99999) : RowO M g0 A0 u len s p kd top o B (rowTail n 139 a1 (zi B) a3) (g_X10_rowLine n (YX M (mkR g (zi (p : Int)) k w a) A) 139 a1 (zi B) a3 (zi kd) (zi top) 1) := by
  have hnt := hg.1
  have hT : 0 ≤ s.2.1 4 ∧ 0 ≤ s.2.1 5 ∧ 0 ≤ s.2.1 6 := ⟨hg.2.2.2.2.1.1.1, hg.2.2.2.2.1.2.1.1, hg.2.2.2.2.1.2.2.1.1⟩
  obtain ⟨e1, e2⟩ := tkE_r (u := u) hpl
  have hB0 : 0 ≤ B := by omega
  have hw : ∀ (g : Nat → Int32) (A : Nat → Nat → Int32) (v : Int32) (j : Int), 0 ≤ j → j < 4 → wI (YX M g A) a1 (zi (B + j)) v = some (YX M g (up2 A o (B + j).toNat v)) := by
    intro g A v j j0 j1
    rcases hB with ⟨q1, q2, q3⟩ | ⟨q1, q2, q3⟩ | ⟨q1, q2, q3⟩ <;> subst q1 <;> subst ha
    · exact y_w1 hS (by omega) (by omega)
    · exact y_w2 hS (by omega) (by omega)
    · exact y_w3 hS (by omega) (by omega)
  have hw0 : ∀ (g : Nat → Int32) (A : Nat → Nat → Int32) (v : Int32), wI (YX M g A) a1 (zi B) v = some (YX M g (up2 A o B.toNat v)) := fun g A v => by
    have h := hw g A v 0 (by omega) (by omega)
    rw [Int.add_zero] at h
    exact h
  have hr : ∀ (g : Nat → Int32) (A : Nat → Nat → Int32) (v : Int32) (j : Int), 0 ≤ j → j < 4 → RYs g0 A0 len g A s → RYs g0 A0 len g (up2 A o (B + j).toNat v) s := fun g A v j j0 j1 h => RYs_w h hT (by omega)
  unfold g_X10_rowLine
  rcases y_trd (k := k) (w := w) (a := a) hS hu hl hpl hn hR hg with ⟨c', pl, g', q1, q2, q3, q4, q5⟩ | ⟨t, q1, ht', q2⟩
  · rw [y_k hS, q2, i_bd, if_pos (show zi 0 = (0 : Int32) from rfl)]
    exact Or.inl ⟨c', pl, g', A, Or.inl (by unfold dealR; rw [q1]; rfl), rz_0, q3, q4, gFr_t hR.1.1 q5, hR.1.2⟩
  · have hR1 : RYs g0 A0 len (up1 g 19 (zi (t : Int))) (up2 A o B.toNat (zi (t : Int))) s := by
      have h := hr (up1 g 19 (zi (t : Int))) A (zi (t : Int)) 0 (by omega) (by omega) (RYs_19 hR)
      rw [Int.add_zero] at h
      exact h
    have h6 := hR1.2.1.2.2.1
    rw [y_k hS, q2, i_bd, if_neg (show ¬ (zi 1 = (0 : Int32)) by decide), y_gI hS, i_sb, show AHf u len (up1 g 19 (zi (t : Int))) p w 19 = zi (t : Int) from rfl, hw0, i_sb, y_k hS, y_tokA hS hu h6 hl hpl hn, i_bd, y_k hS]
    have v1 : up2 A o B.toNat (zi (t : Int)) o B.toNat = zi (t : Int) := if_pos ⟨rfl, rfl⟩
    generalize up2 A o B.toNat (zi (t : Int)) = A2 at *
    generalize hp1 : tkE u len p = p1 at *
    generalize up1 g 19 (zi (t : Int)) = gg at *
    obtain ⟨e3, e4⟩ := tkE_r (u := u) e2
    rcases y_num (g := gg) (w := tkWM u len p w) (A := A2) (lo := 0) (hi := 63) hS hu h6 hl e2 hn (by omega) (by omega) with ⟨c', g', r3, r4, r5, r6, r7⟩ | ⟨r3, r4, w', r5⟩
    · rw [show g_X10_number n _ 139 0 63 = _ from r4, i_bd, if_pos (show zi 0 = (0 : Int32) from rfl)]
      exact Or.inl ⟨c', _, g', A2, Or.inl (by unfold dealR; rw [q1, pb_r]; dsimp only; rw [r3]; rfl), rz_0, r5, r6, gFr_t hR1.1.1 r7, hR1.1.2⟩
    · have hR2 := hr (up1 gg 19 (zi (numV u len p1))) A2 (zi (numV u len p1)) 1 (by omega) (by omega) (RYs_19 hR1)
      have h62 := hR2.2.1.2.2.1
      rw [show g_X10_number n _ 139 0 63 = _ from r5, i_bd, if_neg (show ¬ (zi 1 = (0 : Int32)) by decide), y_gI hS, i_sb, show AHf u len (up1 gg 19 (zi (numV u len p1))) (tkE u len p1) w' 19 = zi (numV u len p1) from rfl, show zi B + 1 = zi (B + 1) from zi_add B 1, hw _ _ _ 1 (by omega) (by omega), i_sb, y_k hS]
      have v2 : up2 A2 o (B + 1).toNat (zi (numV u len p1)) o B.toNat = zi (t : Int) := (up2_ne (by omega)).trans v1
      have v3 : up2 A2 o (B + 1).toNat (zi (numV u len p1)) o (B + 1).toNat = zi (numV u len p1) := if_pos ⟨rfl, rfl⟩
      generalize up2 A2 o (B + 1).toNat (zi (numV u len p1)) = A3 at *
      generalize hp2 : tkE u len p1 = p2 at *
      generalize up1 gg 19 (zi (numV u len p1)) = g2 at *
      obtain ⟨e5, e6⟩ := tkE_r (u := u) e4
      rcases y_num (g := g2) (w := w') (A := A3) (lo := 0) (hi := kd) hS hu h62 hl e4 hn (by omega) (by omega) with ⟨c', g', t3, t4, t5, t6, t7⟩ | ⟨t3, t4, w2, t5⟩
      · rw [show g_X10_number n _ 139 0 (zi kd) = _ from t4, i_bd, if_pos (show zi 0 = (0 : Int32) from rfl)]
        exact Or.inl ⟨c', _, g', A3, Or.inl (by unfold dealR; rw [q1, pb_r]; dsimp only; rw [r3, pb_r]; dsimp only; rw [t3]; rfl), rz_0, t5, t6, gFr_t hR2.1.1 t7, hR2.1.2⟩
      · have hR3 := hr (up1 g2 19 (zi (numV u len p2))) A3 (zi (numV u len p2)) 2 (by omega) (by omega) (RYs_19 hR2)
        have h63 := hR3.2.1.2.2.1
        have hD : dealR s u len p kd = .inr ((t, numV u len p1, numV u len p2), tkE u len p2) := by unfold dealR; rw [q1, pb_r]; dsimp only; rw [r3, pb_r]; dsimp only; rw [t3]; rfl
        rw [show g_X10_number n _ 139 0 (zi kd) = _ from t5, i_bd, if_neg (show ¬ (zi 1 = (0 : Int32)) by decide), y_gI hS, i_sb, show AHf u len (up1 g2 19 (zi (numV u len p2))) (tkE u len p2) w2 19 = zi (numV u len p2) from rfl, show zi B + 2 = zi (B + 2) from zi_add B 2, hw _ _ _ 2 (by omega) (by omega), i_sb, y_k hS]
        have x1 : up2 A3 o (B + 2).toNat (zi (numV u len p2)) o B.toNat = zi (t : Int) := (up2_ne (by omega)).trans v2
        have x2 : up2 A3 o (B + 2).toNat (zi (numV u len p2)) o (B + 1).toNat = zi (numV u len p1) := (up2_ne (by omega)).trans v3
        have x3 : up2 A3 o (B + 2).toNat (zi (numV u len p2)) o (B + 2).toNat = zi (numV u len p2) := if_pos ⟨rfl, rfl⟩
        generalize up2 A3 o (B + 2).toNat (zi (numV u len p2)) = A4 at *
        generalize hp3 : tkE u len p2 = p3 at *
        generalize up1 g2 19 (zi (numV u len p2)) = g3 at *
        obtain ⟨e7, e8⟩ := tkE_r (u := u) e6
        rcases y_num (g := g3) (w := w2) (A := A4) (lo := 1) (hi := top) hS hu h63 hl e6 hn (by omega) (by omega) with ⟨c', g', z3, z4, z5, z6, z7⟩ | ⟨z3, z4, w3, z5⟩
        · rw [show g_X10_number n _ 139 1 (zi top) = _ from z4, i_bd, if_pos (show zi 0 = (0 : Int32) from rfl)]
          exact Or.inl ⟨c', _, g', A4, Or.inr ⟨_, hD, z3⟩, rz_0, z5, z6, gFr_t hR3.1.1 z7, hR3.1.2⟩
        · have hR4 := hr (up1 g3 19 (zi (numV u len p3))) A4 (zi (numV u len p3)) 3 (by omega) (by omega) (RYs_19 hR3)
          rw [show g_X10_number n _ 139 1 (zi top) = _ from z5, i_bd, if_neg (show ¬ (zi 1 = (0 : Int32)) by decide), y_gI hS, i_sb, show AHf u len (up1 g3 19 (zi (numV u len p3))) (tkE u len p3) w3 19 = zi (numV u len p3) from rfl, show zi B + 3 = zi (B + 3) from zi_add B 3, hw _ _ _ 3 (by omega) (by omega), i_sb]
          exact Or.inr ⟨t, _, _, _, _, _, _, _, w3, hD, z3, e8, rfl, hR4, (up2_ne (by omega)).trans x1, (up2_ne (by omega)).trans x2, (up2_ne (by omega)).trans x3, if_pos ⟨rfl, rfl⟩⟩
theorem y_t4 (hS : MShape M) (hR : RYs g0 A0 len g A s) {j : Int} (h0 : 0 ≤ j) (h1 : j < 7) : aI (YX M g' A) 10 146 (zi (7 + j)) = some (zi (s.2.1 j)) := by
  rw [y_a4 hS (by omega) (by omega), hR.2.2.1 j h0 h1]
theorem RYs_sl {t : Nat} {q x y : Int} (h : RYs g0 A0 len g A s) (hT : 0 ≤ s.2.1 4 ∧ 0 ≤ s.2.1 5 ∧ 0 ≤ s.2.1 6) (a0 : A 1 (48 + 4 * s.2.1 4).toNat = zi (t : Int)) (a1 : A 1 (48 + 4 * s.2.1 4 + 1).toNat = zi q) (a2 : A 1 (48 + 4 * s.2.1 4 + 2).toNat = zi x) (a3 : A 1 (48 + 4 * s.2.1 4 + 3).toNat = zi y) : RYs g0 A0 len g (up2 A 4 11 (zi (s.2.1 4 + 1))) (addSl s t q x y) := by
  have eS : (addSl s t q x y).2.1 4 = s.2.1 4 + 1 := (upZ_self : upZ s.2.1 4 (s.2.1 4 + 1) 4 = _)
  have eO : ∀ i : Int, i ≠ 4 → (addSl s t q x y).2.1 i = s.2.1 i := fun i hi => upZ_ne hi
  have e5 := eO 5 (by omega)
  have e6 := eO 6 (by omega)
  refine ⟨⟨h.1.1, AFr_w h.1.2.1 (by omega), TRAf_o h.1.2.2 (by omega)⟩, h.2.1, fun j q1 q2 => ?_, fun t' j q1 q2 q3 q4 => (up2_ne (by omega)).trans (h.2.2.2.1 t' j q1 q2 q3 q4), fun j q1 q2 => ?_, fun j q1 q2 => (up2_ne (by omega)).trans (h.2.2.2.2.2.1 j q1 (by rw [e5] at q2; exact q2)), fun j q1 q2 => (up2_ne (by omega)).trans (h.2.2.2.2.2.2 j q1 (by rw [e6] at q2; exact q2))⟩
  · by_cases c : j = 4
    · rw [c, eS]
      exact if_pos ⟨rfl, rfl⟩
    · rw [eO j c]
      exact (up2_ne (by omega)).trans (h.2.2.1 j q1 q2)
  · rw [eS] at q2
    show up2 A 4 11 _ 1 (48 + j).toNat = zi (row4 s.2.2.2.1 (4 * s.2.1 4) t q x y j)
    rw [up2_ne (by omega), row4_at]
    by_cases c0 : j = 4 * s.2.1 4
    · rw [if_pos c0, c0]; exact a0
    · rw [if_neg c0]
      by_cases c1 : j = 4 * s.2.1 4 + 1
      · rw [if_pos c1, c1, ← Int.add_assoc]; exact a1
      · rw [if_neg c1]
        by_cases c2 : j = 4 * s.2.1 4 + 2
        · rw [if_pos c2, c2, ← Int.add_assoc]; exact a2
        · rw [if_neg c2]
          by_cases c3 : j = 4 * s.2.1 4 + 3
          · rw [if_pos c3, c3, ← Int.add_assoc]; exact a3
          · rw [if_neg c3]
            exact h.2.2.2.2.1 j q1 (by omega)
theorem RYs_bu {t : Nat} {q x y : Int} (h : RYs g0 A0 len g A s) (hT : 0 ≤ s.2.1 4 ∧ 0 ≤ s.2.1 5 ∧ 0 ≤ s.2.1 6) (a0 : A 2 (48 + 4 * s.2.1 5).toNat = zi (t : Int)) (a1 : A 2 (48 + 4 * s.2.1 5 + 1).toNat = zi q) (a2 : A 2 (48 + 4 * s.2.1 5 + 2).toNat = zi x) (a3 : A 2 (48 + 4 * s.2.1 5 + 3).toNat = zi y) : RYs g0 A0 len g (up2 A 4 12 (zi (s.2.1 5 + 1))) (addBu s t q x y) := by
  have eS : (addBu s t q x y).2.1 5 = s.2.1 5 + 1 := (upZ_self : upZ s.2.1 5 (s.2.1 5 + 1) 5 = _)
  have eO : ∀ i : Int, i ≠ 5 → (addBu s t q x y).2.1 i = s.2.1 i := fun i hi => upZ_ne hi
  have e4 := eO 4 (by omega)
  have e6 := eO 6 (by omega)
  refine ⟨⟨h.1.1, AFr_w h.1.2.1 (by omega), TRAf_o h.1.2.2 (by omega)⟩, h.2.1, fun j q1 q2 => ?_, fun t' j q1 q2 q3 q4 => (up2_ne (by omega)).trans (h.2.2.2.1 t' j q1 q2 q3 q4), fun j q1 q2 => (up2_ne (by omega)).trans (h.2.2.2.2.1 j q1 (by rw [e4] at q2; exact q2)), fun j q1 q2 => ?_, fun j q1 q2 => (up2_ne (by omega)).trans (h.2.2.2.2.2.2 j q1 (by rw [e6] at q2; exact q2))⟩
  · by_cases c : j = 5
    · rw [c, eS]
      exact if_pos ⟨rfl, rfl⟩
    · rw [eO j c]
      exact (up2_ne (by omega)).trans (h.2.2.1 j q1 q2)
  · rw [eS] at q2
    show up2 A 4 12 _ 2 (48 + j).toNat = zi (row4 s.2.2.2.2.1 (4 * s.2.1 5) t q x y j)
    rw [up2_ne (by omega), row4_at]
    by_cases c0 : j = 4 * s.2.1 5
    · rw [if_pos c0, c0]; exact a0
    · rw [if_neg c0]
      by_cases c1 : j = 4 * s.2.1 5 + 1
      · rw [if_pos c1, c1, ← Int.add_assoc]; exact a1
      · rw [if_neg c1]
        by_cases c2 : j = 4 * s.2.1 5 + 2
        · rw [if_pos c2, c2, ← Int.add_assoc]; exact a2
        · rw [if_neg c2]
          by_cases c3 : j = 4 * s.2.1 5 + 3
          · rw [if_pos c3, c3, ← Int.add_assoc]; exact a3
          · rw [if_neg c3]
            exact h.2.2.2.2.2.1 j q1 (by omega)
theorem RYs_as {t : Nat} {q x y z : Int} (h : RYs g0 A0 len g A s) (hT : 0 ≤ s.2.1 4 ∧ 0 ≤ s.2.1 5 ∧ 0 ≤ s.2.1 6) (a0 : A 3 (20 + 5 * s.2.1 6).toNat = zi (t : Int)) (a1 : A 3 (20 + 5 * s.2.1 6 + 1).toNat = zi q) (a2 : A 3 (20 + 5 * s.2.1 6 + 2).toNat = zi x) (a3 : A 3 (20 + 5 * s.2.1 6 + 3).toNat = zi y) (a4 : A 3 (20 + 5 * s.2.1 6 + 4).toNat = zi z) : RYs g0 A0 len g (up2 A 4 13 (zi (s.2.1 6 + 1))) (addAs s t q x y z) := by
  have eS : (addAs s t q x y z).2.1 6 = s.2.1 6 + 1 := (upZ_self : upZ s.2.1 6 (s.2.1 6 + 1) 6 = _)
  have eO : ∀ i : Int, i ≠ 6 → (addAs s t q x y z).2.1 i = s.2.1 i := fun i hi => upZ_ne hi
  have e4 := eO 4 (by omega)
  have e5 := eO 5 (by omega)
  refine ⟨⟨h.1.1, AFr_w h.1.2.1 (by omega), TRAf_o h.1.2.2 (by omega)⟩, h.2.1, fun j q1 q2 => ?_, fun t' j q1 q2 q3 q4 => (up2_ne (by omega)).trans (h.2.2.2.1 t' j q1 q2 q3 q4), fun j q1 q2 => (up2_ne (by omega)).trans (h.2.2.2.2.1 j q1 (by rw [e4] at q2; exact q2)), fun j q1 q2 => (up2_ne (by omega)).trans (h.2.2.2.2.2.1 j q1 (by rw [e5] at q2; exact q2)), fun j q1 q2 => ?_⟩
  · by_cases c : j = 6
    · rw [c, eS]
      exact if_pos ⟨rfl, rfl⟩
    · rw [eO j c]
      exact (up2_ne (by omega)).trans (h.2.2.1 j q1 q2)
  · rw [eS] at q2
    show up2 A 4 13 _ 3 (20 + j).toNat = zi (upZ (row4 s.2.2.2.2.2.1 (5 * s.2.1 6) t q x y) (5 * s.2.1 6 + 4) z j)
    rw [up2_ne (by omega)]
    by_cases c4 : j = 5 * s.2.1 6 + 4
    · rw [c4, upZ_self, ← Int.add_assoc]; exact a4
    · rw [upZ_ne c4, row4_at]
      by_cases c0 : j = 5 * s.2.1 6
      · rw [if_pos c0, c0]; exact a0
      · rw [if_neg c0]
        by_cases c1 : j = 5 * s.2.1 6 + 1
        · rw [if_pos c1, c1, ← Int.add_assoc]; exact a1
        · rw [if_neg c1]
          by_cases c2 : j = 5 * s.2.1 6 + 2
          · rw [if_pos c2, c2, ← Int.add_assoc]; exact a2
          · rw [if_neg c2]
            by_cases c3 : j = 5 * s.2.1 6 + 3
            · rw [if_pos c3, c3, ← Int.add_assoc]; exact a3
            · rw [if_neg c3]
              exact h.2.2.2.2.2.2 j q1 (by omega)
theorem y_lnSl (hS : MShape M) (hu : YT M u) (hl : len ≤ 700) (hpl : p ≤ len) (hn : 1000 < n) (hR : RYs g0 A0 len g A s) (hg : ROk s) : LYo M g0 A0 u len (lnSl s u len S0 p) (g_X10_saleLine n (YX M (mkR g (zi (p : Int)) k w (zi (S0 : Int))) A) 139) := by
  have hT : 0 ≤ s.2.1 4 ∧ 0 ≤ s.2.1 5 ∧ 0 ≤ s.2.1 6 := ⟨hg.2.2.2.2.1.1.1, hg.2.2.2.2.1.2.1.1, hg.2.2.2.2.1.2.2.1.1⟩
  have hT4 := hg.2.2.2.2.1.1.2
  have e12 : (zi (s.2.1 4) = (12 : Int32)) = (s.2.1 4 = 12) := zi_eq (b := 12) (by omega) (by omega) (by omega) (by omega)
  unfold lnSl g_X10_saleLine
  rw [y_o17 hS, i_sb, show aI (YX M (mkR g (zi (p : Int)) k w (zi (S0 : Int))) A) 10 146 11 = some (zi (s.2.1 4)) from y_t4 hS hR (j := 4) (by omega) (by omega), i_sb]
  by_cases c : 12 ≤ s.2.1 4
  · rw [if_pos c, if_pos (by rw [e12]; omega), y_k hS, y_wrong hS, i_bd]
    exact Or.inl ⟨2, S0, _, A, rfl, rz_0, rfl, rfl, gFr_t hR.1.1 (gFr_t gFr_m (gFr_t (gFr_u (by omega)) (gFr_u (by omega)))), hR.1.2⟩
  · rw [if_neg c, if_neg (by rw [e12]; omega), y_o14 hS, i_sb, i_sb, show aI (YX M (mkR g (zi (p : Int)) k w (zi (S0 : Int))) A) 10 146 11 = some (zi (s.2.1 4)) from y_t4 hS hR (j := 4) (by omega) (by omega), i_sb, y_k hS, show (48 : Int32) + 4 * zi (s.2.1 4) = zi (48 + 4 * s.2.1 4) by (show zi 48 + zi 4 * zi (s.2.1 4) = _); rw [zi_mul, zi_add]]
    rcases y_row (a1 := 143) (o := 1) (B := 48 + 4 * s.2.1 4) (kd := 1) (top := 99999) (a3 := 4) (k := k) (w := w) (a := zi (S0 : Int)) hS hu hl hpl hn hR hg rfl (Or.inl ⟨rfl, rfl, by omega⟩) (by omega) (by omega) with ⟨c', pl, g', A', h1, h2, h3, h4, h5⟩ | ⟨t, q, w1, x, e3, e4, g', A', w', h1, h2, h3, h4, h5, h6, h7, h8, h9⟩
    · rw [show g_X10_rowLine n _ 139 143 _ 4 1 99999 1 = _ from h2, i_bd, if_pos (show zi 0 = (0 : Int32) from rfl)]
      rcases h1 with h1 | ⟨d, h1, h1'⟩
      · rw [h1]
        exact Or.inl ⟨c', pl, g', A', rfl, rz_0, h3, h4, h5⟩
      · rw [h1, pb_r, h1']
        exact Or.inl ⟨c', pl, g', A', rfl, rz_0, h3, h4, h5⟩
    · have hT : rowTail n 139 143 (zi (48 + 4 * s.2.1 4)) 4 (YX M (AHf u len g' e4 w') A') = some (zi 1, YX M (AHf u len g' e4 w') A') := by
        unfold rowTail
        rw [if_neg (by decide)]
        exact rz_1
      rw [h1, pb_r]
      dsimp only
      rw [h2, pb_r, show g_X10_rowLine n _ 139 143 _ 4 1 99999 1 = _ from h4.trans hT, i_bd, if_neg (show ¬ (zi 1 = (0 : Int32)) by decide), y_o17 hS, i_sb, show aI (YX M (AHf u len g' e4 w') A') 10 146 11 = some (zi (s.2.1 4)) from y_t4 hS h5 (j := 4) (by omega) (by omega), i_sb, show zi (s.2.1 4) + 1 = zi (s.2.1 4 + 1) from zi_add (s.2.1 4) 1, show wI (YX M (AHf u len g' e4 w') A') 146 11 (zi (s.2.1 4 + 1)) = some (YX M (AHf u len g' e4 w') (up2 A' 4 11 (zi (s.2.1 4 + 1)))) from y_w4 hS (i := 11) (by omega) (by omega), i_sb]
      exact Or.inr ⟨_, _, _, _, w', rfl, h3, rz_1, RYs_sl h5 (by omega) h6 h7 h8 h9⟩
theorem y_lnBu (hS : MShape M) (hu : YT M u) (hl : len ≤ 700) (hpl : p ≤ len) (hn : 1000 < n) (hR : RYs g0 A0 len g A s) (hg : ROk s) : LYo M g0 A0 u len (lnBu s u len S0 p) (g_X10_buyLine n (YX M (mkR g (zi (p : Int)) k w (zi (S0 : Int))) A) 139) := by
  have hT : 0 ≤ s.2.1 4 ∧ 0 ≤ s.2.1 5 ∧ 0 ≤ s.2.1 6 := ⟨hg.2.2.2.2.1.1.1, hg.2.2.2.2.1.2.1.1, hg.2.2.2.2.1.2.2.1.1⟩
  have hT4 := hg.2.2.2.2.1.2.1.2
  have e12 : (zi (s.2.1 5) = (12 : Int32)) = (s.2.1 5 = 12) := zi_eq (b := 12) (by omega) (by omega) (by omega) (by omega)
  unfold lnBu g_X10_buyLine
  rw [y_o17 hS, i_sb, show aI (YX M (mkR g (zi (p : Int)) k w (zi (S0 : Int))) A) 10 146 12 = some (zi (s.2.1 5)) from y_t4 hS hR (j := 5) (by omega) (by omega), i_sb]
  by_cases c : 12 ≤ s.2.1 5
  · rw [if_pos c, if_pos (by rw [e12]; omega), y_k hS, y_wrong hS, i_bd]
    exact Or.inl ⟨2, S0, _, A, rfl, rz_0, rfl, rfl, gFr_t hR.1.1 (gFr_t gFr_m (gFr_t (gFr_u (by omega)) (gFr_u (by omega)))), hR.1.2⟩
  · rw [if_neg c, if_neg (by rw [e12]; omega), y_o15 hS, i_sb, i_sb, show aI (YX M (mkR g (zi (p : Int)) k w (zi (S0 : Int))) A) 10 146 12 = some (zi (s.2.1 5)) from y_t4 hS hR (j := 5) (by omega) (by omega), i_sb, y_k hS, show (48 : Int32) + 4 * zi (s.2.1 5) = zi (48 + 4 * s.2.1 5) by (show zi 48 + zi 4 * zi (s.2.1 5) = _); rw [zi_mul, zi_add]]
    rcases y_row (a1 := 144) (o := 2) (B := 48 + 4 * s.2.1 5) (kd := 2) (top := 9999) (a3 := 4) (k := k) (w := w) (a := zi (S0 : Int)) hS hu hl hpl hn hR hg rfl (Or.inr (Or.inl ⟨rfl, rfl, by omega⟩)) (by omega) (by omega) with ⟨c', pl, g', A', h1, h2, h3, h4, h5⟩ | ⟨t, q, w1, x, e3, e4, g', A', w', h1, h2, h3, h4, h5, h6, h7, h8, h9⟩
    · rw [show g_X10_rowLine n _ 139 144 _ 4 2 9999 1 = _ from h2, i_bd, if_pos (show zi 0 = (0 : Int32) from rfl)]
      rcases h1 with h1 | ⟨d, h1, h1'⟩
      · rw [h1]
        exact Or.inl ⟨c', pl, g', A', rfl, rz_0, h3, h4, h5⟩
      · rw [h1, pb_r, h1']
        exact Or.inl ⟨c', pl, g', A', rfl, rz_0, h3, h4, h5⟩
    · have hT : rowTail n 139 144 (zi (48 + 4 * s.2.1 5)) 4 (YX M (AHf u len g' e4 w') A') = some (zi 1, YX M (AHf u len g' e4 w') A') := by
        unfold rowTail
        rw [if_neg (by decide)]
        exact rz_1
      rw [h1, pb_r]
      dsimp only
      rw [h2, pb_r, show g_X10_rowLine n _ 139 144 _ 4 2 9999 1 = _ from h4.trans hT, i_bd, if_neg (show ¬ (zi 1 = (0 : Int32)) by decide), y_o17 hS, i_sb, show aI (YX M (AHf u len g' e4 w') A') 10 146 12 = some (zi (s.2.1 5)) from y_t4 hS h5 (j := 5) (by omega) (by omega), i_sb, show zi (s.2.1 5) + 1 = zi (s.2.1 5 + 1) from zi_add (s.2.1 5) 1, show wI (YX M (AHf u len g' e4 w') A') 146 12 (zi (s.2.1 5 + 1)) = some (YX M (AHf u len g' e4 w') (up2 A' 4 12 (zi (s.2.1 5 + 1)))) from y_w4 hS (i := 12) (by omega) (by omega), i_sb]
      exact Or.inr ⟨_, _, _, _, w', rfl, h3, rz_1, RYs_bu h5 (by omega) h6 h7 h8 h9⟩
theorem y_tail (hS : MShape M) (hu : YT M u) (h6 : g 6 = zi (len : Int)) (hl : len ≤ 700) (hpl : p ≤ len) (hn : 1000 < n) {B : Int} (hB : 20 ≤ B ∧ B ≤ 35) : rowTail n 139 145 (zi B) 5 (YX M (AHf u len g p w) A) = (if tkK u len p = 2 then (if numV u len p = 5 ∨ numV u len p = 10 then some (zi 1, YX M (AHf u len g (tkE u len p) (tkWM u len p w)) (up2 A 3 (B + 4).toNat (zi (numV u len p)))) else some (zi 0, YX M (up1 (up1 (AHf u len g p w) 4 2) 5 (zi (tkS u len p : Int))) A)) else some (zi 0, YX M (up1 (up1 (AHf u len g p w) 4 1) 5 (zi (tkS u len p : Int))) A)) := by
  obtain ⟨k1, k2⟩ := kind_n (u := u) hpl
  have hKr := tkKM_r (u := u) (len := len) (p := p)
  have e3' : (zi (tkKM u len p) = (3 : Int32)) = (tkKM u len p = 3) := zi_eq (b := 3) (by omega) (by omega) (by omega) (by omega)
  unfold rowTail
  rw [if_pos (by decide), y_gI hS, i_sb, show AHf u len g p w 8 = zi (tkKM u len p) from rfl]
  by_cases c : tkK u len p = 2
  · obtain ⟨k3, k4⟩ := k2 c
    have hMr := numM_r hu hpl hl c
    have e5' : (zi (numM u len p) = (5 : Int32)) = (numM u len p = 5) := zi_eq (b := 5) (by omega) (by omega) (by omega) (by omega)
    have e10' : (zi (numM u len p) = (10 : Int32)) = (numM u len p = 10) := zi_eq (b := 10) (by omega) (by omega) (by omega) (by omega)
    rw [if_pos c, if_pos (by rw [e3']; exact k1.mpr c), y_gI hS, i_sb, show AHf u len g p w 9 = tkWM u len p w from rfl, k3, i_jp]
    by_cases d : numV u len p = 5 ∨ numV u len p = 10
    · have hV : numV u len p = numM u len p := by rcases k4 with q | q <;> omega
      have hgo : (some (zi (numM u len p))).bind (fun v25 => (wI (YX M (AHf u len g p w) A) 145 (zi B + 4) v25).bind (fun M26 => chk M26 8 139 (bd (g_X10_token n M26 139) (fun r27 M28 => rz 1 M28)))) = some (zi 1, YX M (AHf u len g (tkE u len p) (zi (numM u len p))) (up2 A 3 (B + 4).toNat (zi (numV u len p)))) := by
        rw [i_sb, show zi B + 4 = zi (B + 4) from zi_add B 4, y_w3 hS (by omega) (by omega), i_sb, y_k hS, y_tokA hS hu h6 hl hpl hn, i_bd, k3, ← hV]
        exact rz_1
      rw [if_pos d]
      by_cases d5 : numM u len p = 5
      · rw [if_pos (by rw [e5']; exact d5)]
        dsimp only
        rw [y_gI hS, show AHf u len g p w 9 = tkWM u len p w from rfl, k3]
        exact hgo
      · rw [if_neg (by rw [e5']; exact d5), i_sb, if_pos (by rw [e10']; omega)]
        dsimp only
        rw [y_gI hS, show AHf u len g p w 9 = tkWM u len p w from rfl, k3]
        exact hgo
    · have d5 : ¬ (numM u len p = 5) := by rcases k4 with q | q <;> omega
      have d10 : ¬ (numM u len p = 10) := by rcases k4 with q | q <;> omega
      rw [if_neg d, if_neg (by rw [e5']; exact d5), i_sb, if_neg (by rw [e10']; exact d10), y_k hS, y_wrong hS, i_bd]
      exact rz_0
  · rw [if_neg c, if_neg (by rw [e3']; exact fun q => c (k1.mp q)), y_k hS, y_wrong hS, i_bd]
    exact rz_0
theorem as_num (hu : YT M u) (hpl : p ≤ len) (hl : len ≤ 700) {F : Int × Nat → (Int × Nat) ⊕ (PSt × Nat)} : pb (numR u len p 0 10) (fun y => if y.1 = 5 ∨ y.1 = 10 then F y else .inl (2, tkS u len p)) = (if tkK u len p = 2 then (if numV u len p = 5 ∨ numV u len p = 10 then F (numV u len p, tkE u len p) else .inl (2, tkS u len p)) else .inl (1, tkS u len p)) := by
  unfold numR
  by_cases c : tkK u len p = 2
  · rw [if_pos c, if_pos c]
    by_cases d : 0 ≤ numV u len p ∧ numV u len p ≤ 10
    · rw [if_pos d, pb_r]
    · rw [if_neg d, pb_l, if_neg (by omega)]
  · rw [if_neg c, if_neg c, pb_l]
theorem y_lnAs (hS : MShape M) (hu : YT M u) (hl : len ≤ 700) (hpl : p ≤ len) (hn : 1000 < n) (hR : RYs g0 A0 len g A s) (hg : ROk s) : LYo M g0 A0 u len (lnAs s u len S0 p) (g_X10_assetLine n (YX M (mkR g (zi (p : Int)) k w (zi (S0 : Int))) A) 139) := by
  have hT : 0 ≤ s.2.1 4 ∧ 0 ≤ s.2.1 5 ∧ 0 ≤ s.2.1 6 := ⟨hg.2.2.2.2.1.1.1, hg.2.2.2.2.1.2.1.1, hg.2.2.2.2.1.2.2.1.1⟩
  have hT4 := hg.2.2.2.2.1.2.2.1.2
  have e12 : (zi (s.2.1 6) = (4 : Int32)) = (s.2.1 6 = 4) := zi_eq (b := 4) (by omega) (by omega) (by omega) (by omega)
  have hA : aI (YX M (mkR g (zi (p : Int)) k w (zi (S0 : Int))) A) 10 146 13 = some (zi (s.2.1 6)) := y_t4 hS hR (j := 6) (by omega) (by omega)
  unfold lnAs g_X10_assetLine
  rw [y_o17 hS, i_sb, hA, i_sb]
  by_cases c : 4 ≤ s.2.1 6
  · rw [if_pos c, if_pos (by rw [e12]; omega), y_k hS, y_wrong hS, i_bd]
    exact Or.inl ⟨2, S0, _, A, rfl, rz_0, rfl, rfl, gFr_t hR.1.1 (gFr_t gFr_m (gFr_t (gFr_u (by omega)) (gFr_u (by omega)))), hR.1.2⟩
  · rw [if_neg c, if_neg (by rw [e12]; omega), y_o16 hS, i_sb, i_sb, hA, i_sb, y_k hS, show (20 : Int32) + 5 * zi (s.2.1 6) = zi (20 + 5 * s.2.1 6) by (show zi 20 + zi 5 * zi (s.2.1 6) = _); rw [zi_mul, zi_add]]
    rcases y_row (a1 := 145) (o := 3) (B := 20 + 5 * s.2.1 6) (kd := 2) (top := 9999) (a3 := 5) (k := k) (w := w) (a := zi (S0 : Int)) hS hu hl hpl hn hR hg rfl (Or.inr (Or.inr ⟨rfl, rfl, by omega⟩)) (by omega) (by omega) with ⟨c', pl, g', A', h1, h2, h3, h4, h5⟩ | ⟨t, q, w1, x, e3, e4, g', A', w', h1, h2, h3, h4, h5, h6, h7, h8, h9⟩
    · rw [show g_X10_rowLine n _ 139 145 _ 5 2 9999 1 = _ from h2, i_bd, if_pos (show zi 0 = (0 : Int32) from rfl)]
      rcases h1 with h1 | ⟨d, h1, h1'⟩
      · rw [h1]
        exact Or.inl ⟨c', pl, g', A', rfl, rz_0, h3, h4, h5⟩
      · rw [h1, pb_r, h1']
        exact Or.inl ⟨c', pl, g', A', rfl, rz_0, h3, h4, h5⟩
    · obtain ⟨e5, e6⟩ := tkE_r (u := u) h3
      have tl := y_tail (w := w') (A := A') hS hu h5.2.1.2.2.1 hl h3 hn (B := 20 + 5 * s.2.1 6) (by omega)
      have an := as_num (M := M) hu h3 hl (F := fun y => .inr (addAs s t q w1 x y.1, y.2))
      rw [h1, pb_r]
      dsimp only
      rw [h2, pb_r]
      dsimp only
      rw [an]
      by_cases c2 : tkK u len e4 = 2
      · rw [if_pos c2] at tl
        rw [if_pos c2]
        by_cases c3 : numV u len e4 = 5 ∨ numV u len e4 = 10
        · rw [if_pos c3] at tl
          have h5' : RYs g0 A0 len g' (up2 A' 3 (20 + 5 * s.2.1 6 + 4).toNat (zi (numV u len e4))) s := RYs_w h5 hT (by omega)
          have x6 : up2 A' 3 (20 + 5 * s.2.1 6 + 4).toNat (zi (numV u len e4)) 3 (20 + 5 * s.2.1 6).toNat = zi (t : Int) := (up2_ne (by omega)).trans h6
          have x7 : up2 A' 3 (20 + 5 * s.2.1 6 + 4).toNat (zi (numV u len e4)) 3 (20 + 5 * s.2.1 6 + 1).toNat = zi q := (up2_ne (by omega)).trans h7
          have x8 : up2 A' 3 (20 + 5 * s.2.1 6 + 4).toNat (zi (numV u len e4)) 3 (20 + 5 * s.2.1 6 + 2).toNat = zi w1 := (up2_ne (by omega)).trans h8
          have x9 : up2 A' 3 (20 + 5 * s.2.1 6 + 4).toNat (zi (numV u len e4)) 3 (20 + 5 * s.2.1 6 + 3).toNat = zi x := (up2_ne (by omega)).trans h9
          have x10 : up2 A' 3 (20 + 5 * s.2.1 6 + 4).toNat (zi (numV u len e4)) 3 (20 + 5 * s.2.1 6 + 4).toNat = zi (numV u len e4) := if_pos ⟨rfl, rfl⟩
          generalize up2 A' 3 (20 + 5 * s.2.1 6 + 4).toNat (zi (numV u len e4)) = A5 at *
          generalize tkWM u len e4 w' = w5 at *
          rw [if_pos c3, show g_X10_rowLine n _ 139 145 _ 5 2 9999 1 = _ from h4.trans tl, i_bd, if_neg (show ¬ (zi 1 = (0 : Int32)) by decide), y_o17 hS, i_sb, show aI (YX M (AHf u len g' (tkE u len e4) w5) A5) 10 146 13 = some (zi (s.2.1 6)) from y_t4 hS h5' (j := 6) (by omega) (by omega), i_sb, show zi (s.2.1 6) + 1 = zi (s.2.1 6 + 1) from zi_add (s.2.1 6) 1, show wI (YX M (AHf u len g' (tkE u len e4) w5) A5) 146 13 (zi (s.2.1 6 + 1)) = some (YX M (AHf u len g' (tkE u len e4) w5) (up2 A5 4 13 (zi (s.2.1 6 + 1)))) from y_w4 hS (i := 13) (by omega) (by omega), i_sb]
          exact Or.inr ⟨_, _, _, _, w5, rfl, e6, rz_1, RYs_as h5' (by omega) x6 x7 x8 x9 x10⟩
        · rw [if_neg c3] at tl
          rw [if_neg c3, show g_X10_rowLine n _ 139 145 _ 5 2 9999 1 = _ from h4.trans tl, i_bd, if_pos (show zi 0 = (0 : Int32) from rfl)]
          exact Or.inl ⟨2, tkS u len e4, _, A', rfl, rz_0, rfl, rfl, gFr_t h5.1.1 gFr_w, h5.1.2⟩
      · rw [if_neg c2] at tl
        rw [if_neg c2, show g_X10_rowLine n _ 139 145 _ 5 2 9999 1 = _ from h4.trans tl, i_bd, if_pos (show zi 0 = (0 : Int32) from rfl)]
        exact Or.inl ⟨1, tkS u len e4, _, A', rfl, rz_0, rfl, rfl, gFr_t h5.1.1 gFr_w, h5.1.2⟩
end M35
