/-! ===== PURE 89: the reference's lines: heads, starts ===== -/
def LYo (M : MemT) (g0 : Nat → Int32) (A0 : Nat → Nat → Int32) (u : Nat → Int) (len : Nat) (out : (Int × Nat) ⊕ (PSt × Nat)) (run : Option (Int32 × MemT)) : Prop :=
  (∃ c pl g' A', out = .inl (c, pl) ∧ run = some (zi 0, YX M g' A') ∧ g' 4 = zi c ∧ g' 5 = zi (pl : Int) ∧ gFr g0 g' ∧ AFr A0 A' ∧ TRAf A') ∨
  (∃ s' e g' A' w', out = .inr (s', e) ∧ e ≤ len ∧ run = some (zi 1, YX M (AHf u len g' e w') A') ∧ RYs g0 A0 len g' A' s')
section M34
variable {M : MemT} {g g0 g' : Nat → Int32} {A A0 : Nat → Nat → Int32} {u : Nat → Int} {n len p : Nat} {e k w a v c d : Int32} {s : PSt}
theorem ix8 (t j : Int) : (32 : Int32) + 8 * zi t + zi j = zi (32 + 8 * t + j) := by
  show zi 32 + zi 8 * zi t + zi j = _
  rw [zi_mul, zi_add, zi_add]
theorem RYs_g (h : RYs g0 A0 len g A s) (e : ∀ j, j ≠ 19 → g' j = g j) : RYs g0 A0 len g' A s := ⟨⟨fun k hk => (e k (by omega)).trans (h.1.1 k hk), h.1.2⟩, ⟨(e 12 (by omega)).trans h.2.1.1, (e 18 (by omega)).trans h.2.1.2.1, (e 6 (by omega)).trans h.2.1.2.2.1, (e 4 (by omega)).trans h.2.1.2.2.2.1, (e 5 (by omega)).trans h.2.1.2.2.2.2⟩, h.2.2⟩
theorem RYs_19 (h : RYs g0 A0 len g A s) : RYs g0 A0 len (up1 g 19 v) A s := RYs_g h (fun j hj => up1_ne hj)
theorem AFr_w {o i : Nat} (h : AFr A0 A) (hi : (o = 0 → 32 ≤ i) ∧ (o = 1 → 48 ≤ i) ∧ (o = 2 → 48 ≤ i) ∧ (o = 3 → 20 ≤ i) ∧ (o = 4 → 7 ≤ i)) : AFr A0 (up2 A o i v) := ⟨fun k hk => (up2_ne (by omega)).trans (h.1 k hk), fun k hk => (up2_ne (by omega)).trans (h.2.1 k hk), fun k hk => (up2_ne (by omega)).trans (h.2.2.1 k hk), fun k hk => (up2_ne (by omega)).trans (h.2.2.2.1 k hk), fun k hk => (up2_ne (by omega)).trans (h.2.2.2.2 k hk)⟩
theorem TRAf_1 {t j x hi b : Int} {t' i : Nat} (ht : 0 ≤ t ∧ t < 4) (hj : 0 ≤ j ∧ j < 8) (hi8 : i < 8) (h : A 0 (32 + 8 * t' + i) = zi b ∧ 0 ≤ b ∧ b ≤ hi) (hv : j = (i : Int) → 0 ≤ x ∧ x ≤ hi) : ∃ b' : Int, up2 A 0 (32 + 8 * t + j).toNat (zi x) 0 (32 + 8 * t' + i) = zi b' ∧ 0 ≤ b' ∧ b' ≤ hi := by
  by_cases q : (t' : Int) = t ∧ j = (i : Int)
  · exact ⟨x, if_pos ⟨rfl, by omega⟩, hv q.2⟩
  · exact ⟨b, (up2_ne (by omega)).trans h.1, h.2⟩
theorem TRAf_w {t j x : Int} (h : TRAf A) (ht : 0 ≤ t ∧ t < 4) (hj : 0 ≤ j ∧ j < 8) (hv : (j = 1 → 0 ≤ x ∧ x ≤ 2) ∧ (j = 2 → 0 ≤ x ∧ x ≤ 1) ∧ (j = 6 → 0 ≤ x ∧ x ≤ 1) ∧ (j = 7 → 0 ≤ x ∧ x ≤ 1000)) : TRAf (up2 A 0 (32 + 8 * t + j).toNat (zi x)) := by
  intro t' ht'
  obtain ⟨b1, b2, b3, b4, h1, h2, h3, h4⟩ := h t' ht'
  obtain ⟨c1, k1⟩ := TRAf_1 (t := t) (j := j) (x := x) (i := 1) ht hj (by omega) h1 hv.1
  obtain ⟨c2, k2⟩ := TRAf_1 (t := t) (j := j) (x := x) (i := 2) ht hj (by omega) h2 hv.2.1
  obtain ⟨c3, k3⟩ := TRAf_1 (t := t) (j := j) (x := x) (i := 6) ht hj (by omega) h3 hv.2.2.1
  obtain ⟨c4, k4⟩ := TRAf_1 (t := t) (j := j) (x := x) (i := 7) ht hj (by omega) h4 hv.2.2.2
  exact ⟨c1, c2, c3, c4, k1, k2, k3, k4⟩
theorem RYs_tr {t j x : Int} (h : RYs g0 A0 len g A s) (ht : 0 ≤ t ∧ t < 4) (hj : 0 ≤ j ∧ j < 8) (hv : (j = 1 → 0 ≤ x ∧ x ≤ 2) ∧ (j = 2 → 0 ≤ x ∧ x ≤ 1) ∧ (j = 6 → 0 ≤ x ∧ x ≤ 1) ∧ (j = 7 → 0 ≤ x ∧ x ≤ 1000)) : RYs g0 A0 len g (up2 A 0 (32 + 8 * t + j).toNat (zi x)) (s.1, s.2.1, upZ s.2.2.1 (8 * t + j) x, s.2.2.2) := by
  refine ⟨⟨h.1.1, AFr_w h.1.2.1 (by omega), TRAf_w h.1.2.2 ht hj hv⟩, h.2.1, fun i q1 q2 => (up2_ne (by omega)).trans (h.2.2.1 i q1 q2), fun t' j' q1 q2 q3 q4 => ?_, fun i q1 q2 => (up2_ne (by omega)).trans (h.2.2.2.2.1 i q1 q2), fun i q1 q2 => (up2_ne (by omega)).trans (h.2.2.2.2.2.1 i q1 q2), fun i q1 q2 => (up2_ne (by omega)).trans (h.2.2.2.2.2.2 i q1 q2)⟩
  show up2 A 0 (32 + 8 * t + j).toNat (zi x) 0 (32 + 8 * t' + j').toNat = zi (upZ s.2.2.1 (8 * t + j) x (8 * t' + j'))
  by_cases q : 8 * t' + j' = 8 * t + j
  · rw [q, upZ_self]
    exact if_pos ⟨rfl, by omega⟩
  · rw [upZ_ne q]
    exact (up2_ne (by omega)).trans (h.2.2.2.1 t' j' q1 q2 q3 q4)
theorem y_tokA (hS : MShape M) (hu : YT M u) (h6 : g 6 = zi (len : Int)) (hl : len ≤ 700) (hpl : p ≤ len) (hn : 1000 < n) : g_X10_token n (YX M (AHf u len g p w) A) 139 = some ((), YX M (AHf u len g (tkE u len p) (tkWM u len p w)) A) := y_tok hS hu h6 hl (tkE_r (u := u) hpl).2 hn
theorem gFr_w : gFr g (up1 (up1 (AHf u len g p w) 4 c) 5 d) := gFr_t gFr_A (gFr_t (gFr_u (by omega)) (gFr_u (by omega)))
theorem numM_r (hu : YT M u) (hpl : p ≤ len) (hl : len ≤ 700) (c : tkK u len p = 2) : 0 ≤ numM u len p ∧ numM u len p ≤ 1000000 := by
  obtain ⟨e1, e2⟩ := tkE_r (u := u) hpl
  unfold tkK at c
  unfold numM
  by_cases d0 : tkS u len p = len
  · rw [if_pos d0] at c; omega
  · rw [if_neg d0] at c
    by_cases d1 : isLt (u (tkS u len p)) = true
    · rw [if_pos d1] at c; omega
    · rw [if_neg d1] at c
      by_cases d2 : isDg (u (tkS u len p)) = true
      · have hE : tkE u len p = scnF isDg u (len - tkS u len p) (tkS u len p) := by unfold tkE; rw [if_neg d0, if_neg d1, if_pos d2]
        have hs := (scnF_r (p := isDg) (u := u) (len - tkS u len p) (tkS u len p)).2.2.2
        exact nMf_r (fun k hk => (hu.1 k hk).2) _ (fun i q1 q2 => ⟨by omega, hs i q1 (by omega)⟩)
      · rw [if_neg d2] at c
        split at c <;> omega
theorem y_lnHd (hS : MShape M) (hu : YT M u) (hl : len ≤ 700) (hpl : p ≤ len) (hn : 1000 < n) (hR : RYs g0 A0 len g A s) (hg : ROk s) : LYo M g0 A0 u len (lnHd s u len p) (g_X10_headLine n (YX M (mkR g (zi (p : Int)) k w a) A) 139) := by
  have hnt := hg.1
  obtain ⟨e1, e2⟩ := tkE_r (u := u) hpl
  unfold lnHd g_X10_headLine
  rcases y_trd (k := k) (w := w) (a := a) hS hu hl hpl hn hR hg with ⟨c', pl, g', q1, q2, q3, q4, q5⟩ | ⟨t, q1, ht, q2⟩
  · rw [q1, y_k hS, q2, i_bd, if_pos (show zi 0 = (0 : Int32) from rfl)]
    exact Or.inl ⟨c', pl, g', A, rfl, rz_0, q3, q4, gFr_t hR.1.1 q5, hR.1.2⟩
  · have htw := hg.2.2.2.1 (t : Int) (by omega) ht
    have hR1 : RYs g0 A0 len (up1 g 19 (zi (t : Int))) A s := RYs_19 hR
    have hb := hR.2.2.2.1 (t : Int) 3 (by omega) ht (by omega) (by omega)
    rw [q1, pb_r, y_k hS, q2, i_bd, if_neg (show ¬ (zi 1 = (0 : Int32)) by decide), y_gI hS, i_sb, show AHf u len (up1 g 19 (zi (t : Int))) p w 19 = zi (t : Int) from rfl, y_o13 hS, i_sb, show ((32 : Int32) + 8 * zi (t : Int) + 3) = zi (32 + 8 * (t : Int) + 3) from ix8 t 3, y_a0 hS (by omega) (by omega), i_sb, hb]
    dsimp only
    by_cases c : s.2.2.1 (8 * (t : Int) + 3) = 1
    · rw [if_pos c, c, if_pos (show zi 1 = (1 : Int32) from rfl), y_k hS, y_wrong hS, i_bd]
      exact Or.inl ⟨3, tkS u len p, _, A, rfl, rz_0, rfl, rfl, gFr_t hR1.1.1 gFr_w, hR.1.2⟩
    · have c0 : s.2.2.1 (8 * (t : Int) + 3) = 0 := by
        rcases htw.2.2.1 with q | q
        · exact q
        · exact absurd q c
      have hR2 : RYs g0 A0 len (up1 g 19 (zi (t : Int))) (up2 A 0 (32 + 8 * (t : Int) + 3).toNat 1) (s.1, s.2.1, upZ s.2.2.1 (8 * (t : Int) + 3) 1, s.2.2.2) := RYs_tr (t := (t : Int)) (j := 3) (x := 1) hR1 (by omega) (by omega) (by omega)
      have h6 := hR2.2.1.2.2.1
      rw [if_neg c, c0, if_neg (show ¬ (zi 0 = (1 : Int32)) by decide), i_sb, y_w0 hS (by omega) (by omega), i_sb, y_k hS, y_tokA hS hu h6 hl hpl hn, i_bd, y_gI hS, i_sb, show AHf u len (up1 g 19 (zi (t : Int))) (tkE u len p) (tkWM u len p w) 8 = zi (tkKM u len (tkE u len p)) from rfl]
      generalize up2 A 0 (32 + 8 * (t : Int) + 3).toNat 1 = A2 at *
      generalize hp1 : tkE u len p = p1 at *
      obtain ⟨e3, e4⟩ := tkE_r (u := u) e2
      obtain ⟨k1, k2⟩ := kind_n (u := u) e2
      have hKr := tkKM_r (u := u) (len := len) (p := p1)
      have e3' : (zi (tkKM u len p1) = (3 : Int32)) = (tkKM u len p1 = 3) := zi_eq (b := 3) (by omega) (by omega) (by omega) (by omega)
      by_cases c3 : tkK u len p1 = 2
      · obtain ⟨k3, k4⟩ := k2 c3
        have hMr := numM_r hu e2 hl c3
        have ele : (zi (numM u len p1) ≤ (999 : Int32)) = (numM u len p1 ≤ 999) := zi_le (b := 999) (by omega) (by omega) (by omega) (by omega)
        rw [if_pos (by rw [e3']; exact k1.mpr c3), y_gI hS, i_sb, show AHf u len (up1 g 19 (zi (t : Int))) p1 (tkWM u len p w) 9 = tkWM u len p1 (tkWM u len p w) from rfl, k3]
        by_cases d : numM u len p1 ≤ 999
        · have hV : numV u len p1 = numM u len p1 := by rcases k4 with q | q <;> omega
          have hN : numR u len p1 0 999 = .inr (numV u len p1, tkE u len p1) := by unfold numR; rw [if_pos c3, if_pos (by omega)]
          rw [hN, pb_r, if_pos (by rw [ele]; exact d), i_sb, y_k hS, y_tokA hS hu h6 hl e2 hn, i_bd, y_k hS, k3, ← hV]
          dsimp only
          generalize hp2 : tkE u len p1 = p2 at *
          obtain ⟨e5, e6⟩ := tkE_r (u := u) e4
          rcases y_num (g := up1 g 19 (zi (t : Int))) (w := zi (numV u len p1)) (A := A2) (lo := numV u len p1) (hi := 999) hS hu h6 hl e4 hn (by omega) (by omega) with ⟨c', g', r3, r4, r5, r6, r7⟩ | ⟨r3, r4, w', r5⟩
          · rw [r3, show g_X10_number n _ 139 (zi (numV u len p1)) 999 = _ from r4, i_bd, if_pos (show zi 0 = (0 : Int32) from rfl)]
            exact Or.inl ⟨c', _, g', A2, rfl, rz_0, r5, r6, gFr_t hR2.1.1 r7, hR2.1.2⟩
          · rw [r3, pb_r, show g_X10_number n _ 139 (zi (numV u len p1)) 999 = _ from r5, i_bd, if_neg (show ¬ (zi 1 = (0 : Int32)) by decide), y_o13 hS, i_sb, show ((32 : Int32) + 8 * zi (t : Int) + 4) = zi (32 + 8 * (t : Int) + 4) from ix8 t 4, y_w0 hS (by omega) (by omega), i_sb, y_o13 hS, i_sb, y_gI hS, i_sb, show AHf u len (up1 (up1 g 19 (zi (t : Int))) 19 (zi (numV u len p2))) (tkE u len p2) w' 19 = zi (numV u len p2) from rfl, show zi (32 + 8 * (t : Int) + 4) + 1 = zi (32 + 8 * (t : Int) + 5) by (show zi (32 + 8 * (t : Int) + 4) + zi 1 = _); rw [zi_add, Int.add_assoc (32 + 8 * (t : Int)) 4 1]; rfl, y_w0 hS (by omega) (by omega), i_sb]
            have hR3 := RYs_tr (t := (t : Int)) (j := 5) (x := numV u len p2) (RYs_tr (t := (t : Int)) (j := 4) (x := numV u len p1) (RYs_19 (v := zi (numV u len p2)) hR2) (by omega) (by omega) (by omega)) (by omega) (by omega) (by omega)
            exact Or.inr ⟨_, _, _, _, w', rfl, e6, rz_1, hR3⟩
        · have hN : numR u len p1 0 999 = .inl (2, tkS u len p1) := by
            unfold numR
            rw [if_pos c3, if_neg (by rcases k4 with q | q <;> omega)]
          rw [hN, if_neg (by rw [ele]; exact d), y_k hS, y_wrong hS, i_bd]
          exact Or.inl ⟨2, tkS u len p1, _, A2, rfl, rz_0, rfl, rfl, gFr_t hR2.1.1 gFr_w, hR2.1.2⟩
      · have hN : numR u len p1 0 999 = .inl (1, tkS u len p1) := by unfold numR; rw [if_neg c3]
        rw [hN, if_neg (by rw [e3']; exact fun q => c3 (k1.mp q)), y_k hS, y_wrong hS, i_bd]
        exact Or.inl ⟨1, tkS u len p1, _, A2, rfl, rz_0, rfl, rfl, gFr_t hR2.1.1 gFr_w, hR2.1.2⟩
theorem y_lnSt (hS : MShape M) (hu : YT M u) (hl : len ≤ 700) (hpl : p ≤ len) (hn : 1000 < n) (hR : RYs g0 A0 len g A s) (hg : ROk s) : LYo M g0 A0 u len (lnSt s u len p) (g_X10_startLine n (YX M (mkR g (zi (p : Int)) k w a) A) 139) := by
  have hnt := hg.1
  obtain ⟨e1, e2⟩ := tkE_r (u := u) hpl
  unfold lnSt g_X10_startLine
  rcases y_trd (k := k) (w := w) (a := a) hS hu hl hpl hn hR hg with ⟨c', pl, g', q1, q2, q3, q4, q5⟩ | ⟨t, q1, ht, q2⟩
  · rw [q1, y_k hS, q2, i_bd, if_pos (show zi 0 = (0 : Int32) from rfl)]
    exact Or.inl ⟨c', pl, g', A, rfl, rz_0, q3, q4, gFr_t hR.1.1 q5, hR.1.2⟩
  · have htw := hg.2.2.2.1 (t : Int) (by omega) ht
    have hR1 : RYs g0 A0 len (up1 g 19 (zi (t : Int))) A s := RYs_19 hR
    have hb := hR.2.2.2.1 (t : Int) 6 (by omega) ht (by omega) (by omega)
    rw [q1, pb_r, y_k hS, q2, i_bd, if_neg (show ¬ (zi 1 = (0 : Int32)) by decide), y_gI hS, i_sb, show AHf u len (up1 g 19 (zi (t : Int))) p w 19 = zi (t : Int) from rfl, y_o13 hS, i_sb, show ((32 : Int32) + 8 * zi (t : Int) + 6) = zi (32 + 8 * (t : Int) + 6) from ix8 t 6, y_a0 hS (by omega) (by omega), i_sb, hb]
    dsimp only
    by_cases c : s.2.2.1 (8 * (t : Int) + 6) = 1
    · rw [if_pos c, c, if_pos (show zi 1 = (1 : Int32) from rfl), y_k hS, y_wrong hS, i_bd]
      exact Or.inl ⟨3, tkS u len p, _, A, rfl, rz_0, rfl, rfl, gFr_t hR1.1.1 gFr_w, hR.1.2⟩
    · have c0 : s.2.2.1 (8 * (t : Int) + 6) = 0 := by
        rcases htw.2.2.2.2.1 with q | q
        · exact q
        · exact absurd q c
      have hR2 : RYs g0 A0 len (up1 g 19 (zi (t : Int))) (up2 A 0 (32 + 8 * (t : Int) + 6).toNat 1) (s.1, s.2.1, upZ s.2.2.1 (8 * (t : Int) + 6) 1, s.2.2.2) := RYs_tr (t := (t : Int)) (j := 6) (x := 1) hR1 (by omega) (by omega) (by omega)
      have h6 := hR2.2.1.2.2.1
      rw [if_neg c, c0, if_neg (show ¬ (zi 0 = (1 : Int32)) by decide), i_sb, y_w0 hS (by omega) (by omega), i_sb, y_k hS, y_tokA hS hu h6 hl hpl hn, i_bd, y_k hS]
      generalize up2 A 0 (32 + 8 * (t : Int) + 6).toNat 1 = A2 at *
      generalize hp1 : tkE u len p = p1 at *
      obtain ⟨e3, e4⟩ := tkE_r (u := u) e2
      rcases y_num (g := up1 g 19 (zi (t : Int))) (w := tkWM u len p w) (A := A2) (lo := 0) (hi := 1000) hS hu h6 hl e2 hn (by omega) (by omega) with ⟨c', g', r3, r4, r5, r6, r7⟩ | ⟨r3, r4, w', r5⟩
      · rw [r3, show g_X10_number n _ 139 0 1000 = _ from r4, i_bd, if_pos (show zi 0 = (0 : Int32) from rfl)]
        exact Or.inl ⟨c', _, g', A2, rfl, rz_0, r5, r6, gFr_t hR2.1.1 r7, hR2.1.2⟩
      · rw [r3, pb_r, show g_X10_number n _ 139 0 1000 = _ from r5, i_bd, if_neg (show ¬ (zi 1 = (0 : Int32)) by decide), y_o13 hS, i_sb, y_gI hS, i_sb, show AHf u len (up1 (up1 g 19 (zi (t : Int))) 19 (zi (numV u len p1))) (tkE u len p1) w' 19 = zi (numV u len p1) from rfl, show ((32 : Int32) + 8 * zi (t : Int) + 7) = zi (32 + 8 * (t : Int) + 7) from ix8 t 7, y_w0 hS (by omega) (by omega), i_sb]
        have hR3 := RYs_tr (t := (t : Int)) (j := 7) (x := numV u len p1) (RYs_19 (v := zi (numV u len p1)) hR2) (by omega) (by omega) (by omega)
        exact Or.inr ⟨_, _, _, _, w', rfl, e4, rz_1, hR3⟩
end M34
