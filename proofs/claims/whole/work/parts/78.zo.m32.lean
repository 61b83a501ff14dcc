/-! ===== PURE 87: the component reads a text ===== -/
section M32
variable {M : MemT} {s : Nat} {f hd : Nat → Int32} {Z : Nat → Nat → Int32} {u : Nat → Int} {n len p S0 : Nat} {k st e v w : Int32} {g : PSt}
def x_K10 (n : Nat) (q : MemT × Int32) : Option (Int32 × MemT) := (if q.2 = 0 then rz 0 q.1 else chk q.1 4 2 (bd (g_X5_takeToken n q.1 2) (fun r13 M14 => (gI M14 4 2 5).bind (fun v15 => (if v15 = 3 then rz 1 M14 else (gI M14 4 2 6).bind (fun v16 => chk M14 4 2 (bd (g_X5_fail n M14 2 1 v16) (fun r17 M18 => (if r17 = 0 then rz 0 M18 else rz 1 M18)))))))))
theorem x_fin {out : (Int × Nat) ⊕ (PSt × Nat)} {code : Option (Int32 × MemT)} (hp : PSh M s) (hu : XT M u) (hl : len ≤ 700) (hn : 1000 < n) (h : LXk M s len out code (x_K10 n)) : LXo M s len (pb out (fun y => if tkK u len y.2 = 3 then .inr (y.1, tkE u len y.2) else .inl (1, tkS u len y.2))) code := by
  rcases h with ⟨c, pl, f', hd', Z', h1, h2, h3, h4⟩ | ⟨g', e, f', hd', Z', k, st, v, h1, he, h2, h3, h4, h5⟩
  · refine Or.inl ⟨c, pl, f', hd', Z', by rw [h1]; rfl, ?_, h3, h4⟩
    rw [h2]
    unfold x_K10
    dsimp only
    rw [if_pos (show zi 0 = (0 : Int32) from rfl)]
    exact rz_0
  · obtain ⟨e1, e2⟩ := tkE_r (u := u) he
    have e3' : (zi (tkK u len e) = (3 : Int32)) = (tkK u len e = 3) := zi_eq (b := 3) (by have := tkK_r (u := u) (len := len) (p := e); omega) (by have := tkK_r (u := u) (len := len) (p := e); omega) (by omega) (by omega)
    rw [h1, pb_r, h2]
    unfold x_K10
    dsimp only
    rw [if_neg (show ¬ (zi 1 = (0 : Int32)) by decide), p_k hp, x_tok hp hu h3 hl he hn, i_bd, p_gI hp, i_sb, tk_5]
    by_cases c : tkK u len e = 3
    · rw [if_pos c, if_pos (by rw [e3']; exact c)]
      exact Or.inr ⟨g', _, f', hd', Z', _, _, _, rfl, e2, rz_1, h3, h4, h5⟩
    · rw [if_neg c, if_neg (by rw [e3']; exact c), p_gI hp, i_sb, tk_6, p_k hp, x_fail hp, i_bd, if_pos (show zi 0 = (0 : Int32) from rfl)]
      exact Or.inl ⟨1, tkS u len e, _, hd', Z', rfl, rz_0, rfl, rfl⟩
theorem x_line (hp : PSh M s) (hu : XT M u) (h3 : f 3 = zi (len : Int)) (hl : len ≤ 700) (hpl : p ≤ len) (hn : 1000 < n) (hR : RXs f hd Z g) (hg : ROk g) : LXo M s len (lineR g u len p) (g_X5_readLine n (PX M s (tkR f (zi (tkK u len p)) (zi (tkS u len p : Int)) (zi (tkE u len p : Int)) (tkV u len p)) hd Z) 2) := by
  obtain ⟨s1, s2⟩ := tkS_r (u := u) hpl
  obtain ⟨e1, e2⟩ := tkE_r (u := u) hpl
  have hKr := tkK_r (u := u) (len := len) (p := p)
  have e1' : (zi (tkK u len p) = (1 : Int32)) = (tkK u len p = 1) := zi_eq (b := 1) (by omega) (by omega) (by omega) (by omega)
  have hw : wdX u len p = fnd (mtX u (tkS u len p) (tkE u len p)) 0 13 := rfl
  have fl : LXo M s len (.inl (1, tkS u len p)) ((gI (PX M s (tkR f (zi (tkK u len p)) (zi (tkS u len p : Int)) (zi (tkE u len p : Int)) (tkV u len p)) hd Z) 4 2 6).bind (fun v7 => chk (PX M s (tkR f (zi (tkK u len p)) (zi (tkS u len p : Int)) (zi (tkE u len p : Int)) (tkV u len p)) hd Z) 4 2 (bd (g_X5_fail n (PX M s (tkR f (zi (tkK u len p)) (zi (tkS u len p : Int)) (zi (tkE u len p : Int)) (tkV u len p)) hd Z) 2 1 v7) (fun r8 M9 => rz r8 M9)))) := by
    rw [p_gI hp, i_sb, tk_6, p_k hp, x_fail hp, i_bd]
    exact Or.inl ⟨1, tkS u len p, _, _, _, rfl, rz_0, rfl, rfl⟩
  have mtn : ∀ {T : Type} {a : Option T} {q : Nat → Option T}, mtK none a q = a := rfl
  have mts : ∀ {T : Type} {j : Nat} {a : Option T} {q : Nat → Option T}, mtK (some j) a q = q j := rfl
  unfold g_X5_readLine
  rw [p_gI hp, i_sb, tk_5, i_jp]
  by_cases c1 : tkK u len p = 1
  · rw [if_pos (show zi (tkK u len p) = (1 : Int32) by rw [e1']; exact c1), p_o2 hp, i_sb, p_gI hp, i_sb, tk_6, p_gI hp, i_sb, tk_7, x_at hp hu e1 (by omega) (by omega), i_bd]
    dsimp only
    cases hf : fnd (mtX u (tkS u len p) (tkE u len p)) 0 13 with
    | none =>
      rw [hf] at hw
      rw [mtn, show lineR g u len p = .inl (1, tkS u len p) by unfold lineR; rw [if_pos c1, hw]]
      exact fl
    | some j =>
      rw [hf] at hw
      have hj : j < 13 := by have := (fnd_lt hf).2.1; omega
      rw [mts, if_pos hj, i_jp, show lineR g u len p = pb (lnR g u len j (tkS u len p) (tkE u len p)) (fun y => if tkK u len y.2 = 3 then .inr (y.1, tkE u len y.2) else .inl (1, tkS u len y.2)) by unfold lineR; rw [if_pos c1, hw]]
      refine x_fin hp hu hl hn ?_
      rcases (show j = 0 ∨ j = 1 ∨ j = 2 ∨ j = 3 ∨ j = 4 ∨ j = 5 ∨ j = 6 ∨ j = 7 ∨ j = 8 ∨ j = 9 ∨ j = 10 ∨ j = 11 ∨ j = 12 by omega) with q | q | q | q | q | q | q | q | q | q | q | q | q <;> subst q
      · rw [if_pos (by decide), p_k hp]
        exact LXo_k (K := x_K10 n) (x_lnTr hp hu h3 hl e2 hn hR hg)
      · rw [if_neg (by decide), if_pos (by decide), p_k hp]
        exact LXo_k (K := x_K10 n) (x_lnHd hp hu h3 hl e2 hn hR hg)
      · rw [if_neg (by decide), if_neg (by decide), if_pos (by decide), p_k hp]
        exact LXo_k (K := x_K10 n) (x_lnSt hp hu h3 hl e2 hn hR hg)
      · rw [if_neg (by decide), if_neg (by decide), if_neg (by decide), if_pos (by decide), p_k hp]
        exact LXo_k (K := x_K10 n) (x_lnRd hp hu h3 hl e2 hn hR hg)
      · rw [if_neg (by decide), if_neg (by decide), if_neg (by decide), if_neg (by decide), if_pos (by decide), p_k hp]
        exact LXo_k (K := x_K10 n) (x_lnNm hp hu h3 hl e2 hn hR hg).1
      · rw [if_neg (by decide), if_neg (by decide), if_neg (by decide), if_neg (by decide), if_neg (by decide), if_pos (by decide), p_k hp]
        exact LXo_k (K := x_K10 n) (x_lnNm hp hu h3 hl e2 hn hR hg).2.1
      · rw [if_neg (by decide), if_neg (by decide), if_neg (by decide), if_neg (by decide), if_neg (by decide), if_neg (by decide), if_pos (by decide), p_k hp]
        exact LXo_k (K := x_K10 n) (x_lnNm hp hu h3 hl e2 hn hR hg).2.2
      · rw [if_neg (by decide), if_neg (by decide), if_neg (by decide), if_neg (by decide), if_neg (by decide), if_neg (by decide), if_neg (by decide), if_pos (by decide)]
        exact x_lnSl (K := x_K10 n) hp hu h3 hl e2 hn hR hg
      · rw [if_neg (by decide), if_neg (by decide), if_neg (by decide), if_neg (by decide), if_neg (by decide), if_neg (by decide), if_neg (by decide), if_neg (by decide), if_pos (by decide)]
        exact x_lnBu (K := x_K10 n) hp hu h3 hl e2 hn hR hg
      · rw [if_neg (by decide), if_neg (by decide), if_neg (by decide), if_neg (by decide), if_neg (by decide), if_neg (by decide), if_neg (by decide), if_neg (by decide), if_neg (by decide), if_pos (by decide)]
        exact x_lnAs (K := x_K10 n) hp hu h3 hl e2 hn hR hg
      all_goals
        rw [if_neg (by decide), if_neg (by decide), if_neg (by decide), if_neg (by decide), if_neg (by decide), if_neg (by decide), if_neg (by decide), if_neg (by decide), if_neg (by decide), if_neg (by decide), p_gI hp, i_sb, tk_6, p_k hp, x_fail hp, i_bd]
        exact Or.inl ⟨1, tkS u len p, _, _, _, rfl, rfl, rfl, rfl⟩
  · rw [if_neg (show ¬ (zi (tkK u len p) = (1 : Int32)) by rw [e1']; exact c1), show lineR g u len p = .inl (1, tkS u len p) by unfold lineR; rw [if_neg c1]]
    exact fl
theorem pb_i {α β : Type} {r : (Int × Nat) ⊕ α} {q : α → (Int × Nat) ⊕ β} {y : β} (h : pb r q = .inr y) : ∃ a, r = .inr a ∧ q a = .inr y := by
  cases r with
  | inl x => exact absurd h (by show ¬ (Sum.inl x = Sum.inr y); simp)
  | inr a => exact ⟨a, rfl, h⟩
theorem numR_p {lo hi : Int} {y : Int × Nat} (hpl : p ≤ len) (h : numR u len p lo hi = .inr y) : p ≤ y.2 ∧ y.2 ≤ len := by
  have h1 := tkS_r (u := u) hpl
  have h2 := tkE_r (u := u) hpl
  unfold numR at h
  split at h
  · split at h
    · have e := Sum.inr.inj h
      rw [← e]
      dsimp only
      omega
    · exact absurd h (by simp)
  · exact absurd h (by simp)
theorem nameR_p {y : Int32 × Nat × Nat} (hpl : p ≤ len) (h : nameR u len p = .inr y) : p ≤ y.2.1 ∧ y.2.1 ≤ len := by
  have h1 := tkS_r (u := u) hpl
  have h2 := tkE_r (u := u) hpl
  unfold nameR at h
  split at h
  · have e := Sum.inr.inj h
    rw [← e]
    dsimp only
    omega
  · exact absurd h (by simp)
theorem trdR_p {y : Nat × Nat × Nat} (hpl : p ≤ len) (h : trdR g u len p = .inr y) : p ≤ y.2.1 ∧ y.2.1 ≤ len := by
  unfold trdR at h
  obtain ⟨a, h1, h2⟩ := pb_i h
  have h3 := nameR_p hpl h1
  split at h2
  · have e := Sum.inr.inj h2
    rw [← e]
    exact h3
  · exact absurd h2 (by simp)
theorem dealR_p {kd : Int} {y : (Nat × Int × Int) × Nat} (hpl : p ≤ len) (h : dealR g u len p kd = .inr y) : p ≤ y.2 ∧ y.2 ≤ len := by
  unfold dealR at h
  obtain ⟨a, h1, h2⟩ := pb_i h
  have h3 := trdR_p hpl h1
  obtain ⟨b, h4, h5⟩ := pb_i h2
  have h6 := numR_p h3.2 h4
  obtain ⟨c, h7, h8⟩ := pb_i h5
  have h9 := numR_p h6.2 h7
  have e := Sum.inr.inj h8
  rw [← e]
  dsimp only
  omega
theorem lnR_p {j : Nat} {y : PSt × Nat} (hpl : p ≤ len) (h : lnR g u len j S0 p = .inr y) : p ≤ y.2 ∧ y.2 ≤ len := by
  have nm : ∀ {j : Nat} {lo hi : Int}, lnNm g u len S0 p j lo hi = .inr y → p ≤ y.2 ∧ y.2 ≤ len := fun {j lo hi} h => by
    unfold lnNm at h
    split at h
    · exact absurd h (by simp)
    · obtain ⟨a, h1, h2⟩ := pb_i h
      have h3 := numR_p hpl h1
      rw [← Sum.inr.inj h2]
      exact h3
  unfold lnR at h
  split at h
  · unfold lnTr at h
    split at h
    · exact absurd h (by simp)
    · obtain ⟨a, h1, h2⟩ := pb_i h
      have h3 := nameR_p hpl h1
      split at h2
      · exact absurd h2 (by simp)
      · obtain ⟨b, h4, h5⟩ := pb_i h2
        have h6 := numR_p h3.2 h4
        obtain ⟨c, h7, h8⟩ := pb_i h5
        have h9 := numR_p h6.2 h7
        rw [← Sum.inr.inj h8]
        dsimp only
        omega
  split at h
  · unfold lnHd at h
    obtain ⟨a, h1, h2⟩ := pb_i h
    have h3 := trdR_p hpl h1
    split at h2
    · exact absurd h2 (by simp)
    · obtain ⟨b, h4, h5⟩ := pb_i h2
      have h6 := numR_p h3.2 h4
      obtain ⟨c, h7, h8⟩ := pb_i h5
      have h9 := numR_p h6.2 h7
      rw [← Sum.inr.inj h8]
      dsimp only
      omega
  split at h
  · unfold lnSt at h
    obtain ⟨a, h1, h2⟩ := pb_i h
    have h3 := trdR_p hpl h1
    split at h2
    · exact absurd h2 (by simp)
    · obtain ⟨b, h4, h5⟩ := pb_i h2
      have h6 := numR_p h3.2 h4
      rw [← Sum.inr.inj h5]
      dsimp only
      omega
  split at h
  · unfold lnRd at h
    have h1 := tkS_r (u := u) hpl
    have h2 := tkE_r (u := u) hpl
    split at h
    · exact absurd h (by simp)
    · split at h
      · rw [← Sum.inr.inj h]
        dsimp only
        omega
      · exact absurd h (by simp)
  split at h
  · exact nm h
  split at h
  · exact nm h
  split at h
  · exact nm h
  split at h
  · unfold lnSl at h
    split at h
    · exact absurd h (by simp)
    · obtain ⟨a, h1, h2⟩ := pb_i h
      have h3 := dealR_p hpl h1
      obtain ⟨b, h4, h5⟩ := pb_i h2
      have h6 := numR_p h3.2 h4
      rw [← Sum.inr.inj h5]
      dsimp only
      omega
  split at h
  · unfold lnBu at h
    split at h
    · exact absurd h (by simp)
    · obtain ⟨a, h1, h2⟩ := pb_i h
      have h3 := dealR_p hpl h1
      obtain ⟨b, h4, h5⟩ := pb_i h2
      have h6 := numR_p h3.2 h4
      rw [← Sum.inr.inj h5]
      dsimp only
      omega
  split at h
  · unfold lnAs at h
    split at h
    · exact absurd h (by simp)
    · obtain ⟨a, h1, h2⟩ := pb_i h
      have h3 := dealR_p hpl h1
      obtain ⟨b, h4, h5⟩ := pb_i h2
      have h6 := numR_p h3.2 h4
      obtain ⟨c, h7, h8⟩ := pb_i h5
      have h9 := numR_p h6.2 h7
      split at h8
      · rw [← Sum.inr.inj h8]
        dsimp only
        omega
      · exact absurd h8 (by simp)
  · exact absurd h (by simp)
/-- a line takes at least a place -/
theorem lineR_p {y : PSt × Nat} (hpl : p ≤ len) (h : lineR g u len p = .inr y) : p < y.2 ∧ y.2 ≤ len := by
  obtain ⟨e1, e2⟩ := tkE_r (u := u) hpl
  obtain ⟨s1, s2⟩ := tkS_r (u := u) hpl
  unfold lineR at h
  split at h
  · split at h
    · obtain ⟨a, h1, h2⟩ := pb_i h
      have h3 := lnR_p e2 h1
      obtain ⟨e5, e6⟩ := tkE_r (u := u) h3.2
      obtain ⟨s5, s6⟩ := tkS_r (u := u) h3.2
      split at h2
      · next c =>
        have hE : tkE u len a.2 = tkS u len a.2 + 1 := by
          unfold tkK at c
          unfold tkE
          by_cases d0 : tkS u len a.2 = len
          · rw [if_pos d0] at c; omega
          · rw [if_neg d0] at c ⊢
            by_cases d1 : isLt (u (tkS u len a.2)) = true
            · rw [if_pos d1] at c; omega
            · rw [if_neg d1] at c ⊢
              by_cases d2 : isDg (u (tkS u len a.2)) = true
              · rw [if_pos d2] at c; omega
              · rw [if_neg d2]
        rw [← Sum.inr.inj h2]
        dsimp only
        omega
      · exact absurd h2 (by simp)
    · exact absurd h (by simp)
  · exact absurd h (by simp)
/-- what the component's reader leaves -/
def RDo (M : MemT) (s : Nat) (out : (Int × Nat) ⊕ (PSt × Nat)) (run : Option (Int32 × MemT)) : Prop := (∃ c pl f' hd' Z', out = .inl (c, pl) ∧ run = some (-1, PX M s f' hd' Z') ∧ f' 0 = zi c ∧ f' 1 = zi (pl : Int)) ∨ (∃ g' c f' hd' Z', out = .inr (g', c) ∧ c ≤ 700 ∧ run = some (zi (c : Int), PX M s f' hd' Z') ∧ RXs f' hd' Z' g' ∧ ROk g')
def rdStep (n : Nat) : MemT × Int32 → Option ((MemT × Int32) ⊕ (Int32 × MemT)) := (fun (s : MemT × Int32) => (fun (M3 : MemT) (v4 : Int32) => (if 700 < v4 then some (.inr (((-1), M3))) else chk M3 4 2 (bd (g_X5_takeToken n M3 2) (fun r6 M7 => (gI M7 4 2 5).bind (fun v8 => (if v8 = 0 then some (.inr ((v4, M7))) else chk M7 4 2 (bd (g_X5_readLine n M7 2) (fun r9 M10 => (if r9 = 0 then some (.inr (((-1), M10))) else some (.inl (M10, v4 + 1))))))))))) s.1 s.2)
theorem loopS_l {σ T : Type} {step : σ → Option (σ ⊕ T)} {s s1 : σ} {N : Nat} (h : step s = some (.inl s1)) : loopF step (N + 1) s = loopF step N s1 := by
  show (match step s with | none => none | some (.inl s1) => loopF step N s1 | some (.inr t) => some t) = _
  rw [h]
theorem loopS_r {σ T : Type} {step : σ → Option (σ ⊕ T)} {s : σ} {t : T} {N : Nat} (h : step s = some (.inr t)) : loopF step (N + 1) s = some t := by
  show (match step s with | none => none | some (.inl s1) => loopF step N s1 | some (.inr t) => some t) = _
  rw [h]
theorem x_reads (hp : PSh M s) (hu : XT M u) (hl : len ≤ 700) (hn : 1000 < n) : ∀ m c p (f hd : Nat → Int32) Z g k st v, m + c = 701 → c ≤ p → p ≤ len → f 3 = zi (len : Int) → RXs f hd Z g → ROk g → ∀ N, m < N → RDo M s (txR u len m c g p) (loopF (rdStep n) N (PX M s (tkR f k st (zi (p : Int)) v) hd Z, zi (c : Int))) := by
  intro m
  induction m with
  | zero => intro c p f hd Z g k st v h1 h2 h3; omega
  | succ m ih =>
    intro c p f hd Z g k st v h1 h2 hpl h3 hR hg N hN
    obtain ⟨N', rfl⟩ : ∃ N', N = N' + 1 := ⟨N - 1, by omega⟩
    have hKr := tkK_r (u := u) (len := len) (p := p)
    have e0' : (zi (tkK u len p) = (0 : Int32)) = (tkK u len p = 0) := zi_eq (b := 0) (by omega) (by omega) (by omega) (by omega)
    have e7 : ((700 : Int32) < zi (c : Int)) = (700 < (c : Int)) := zi_lt (a := 700) (by omega) (by omega) (by omega) (by omega)
    have hL := x_line hp hu h3 hl hpl hn hR hg
    by_cases c0 : tkK u len p = 0
    · rw [show txR u len (m + 1) c g p = .inr (g, c) from if_pos c0, loopS_r (t := (zi (c : Int), PX M s (tkR f (zi (tkK u len p)) (zi (tkS u len p : Int)) (zi (tkE u len p : Int)) (tkV u len p)) hd Z)) (by unfold rdStep; dsimp only; rw [if_neg (by rw [e7]; omega), p_k hp, x_tok hp hu h3 hl hpl hn, i_bd, p_gI hp, i_sb, tk_5, if_pos (by rw [e0']; exact c0)])]
      exact Or.inr ⟨g, c, _, hd, Z, rfl, by omega, rfl, RXs_f hR (fun j hj => tk_o (by omega)), hg⟩
    · rw [show txR u len (m + 1) c g p = pb (lineR g u len p) (fun y => txR u len m (c + 1) y.1 y.2) from if_neg c0]
      rcases hL with ⟨c', pl, f', hd', Z', q1, q2, q3, q4⟩ | ⟨g', e, f', hd', Z', k', st', v', q1, he, q2, q3, q4, q5⟩
      · rw [q1, loopS_r (t := (-1, PX M s f' hd' Z')) (by unfold rdStep; dsimp only; rw [if_neg (by rw [e7]; omega), p_k hp, x_tok hp hu h3 hl hpl hn, i_bd, p_gI hp, i_sb, tk_5, if_neg (by rw [e0']; exact c0), p_k hp, q2, i_bd, if_pos (show zi 0 = (0 : Int32) from rfl)])]
        exact Or.inl ⟨c', pl, f', hd', Z', rfl, rfl, q3, q4⟩
      · have hpy := lineR_p hpl q1
        rw [q1, pb_r, loopS_l (s1 := (PX M s (tkR f' k' st' (zi (e : Int)) v') hd' Z', zi (c : Int) + 1)) (by unfold rdStep; dsimp only; rw [if_neg (by rw [e7]; omega), p_k hp, x_tok hp hu h3 hl hpl hn, i_bd, p_gI hp, i_sb, tk_5, if_neg (by rw [e0']; exact c0), p_k hp, q2, i_bd, if_neg (show ¬ (zi 1 = (0 : Int32)) by decide)])]
        dsimp only at hpy ⊢
        rw [show zi (c : Int) + 1 = zi ((c + 1 : Nat) : Int) from zi_add (c : Int) 1]
        exact ih (c + 1) e f' hd' Z' g' k' st' v' (by omega) (by omega) he q3 q4 q5 N' (by omega)
end M32
