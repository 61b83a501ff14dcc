/-! ===== PURE 77: words ===== -/
def WT (k j : Nat) : Int := (([[116, 114, 97, 100, 101, 114], [104, 101, 97, 100], [115, 116, 97, 114, 116], [114, 111, 117, 110, 100], [115, 116, 101, 112], [108, 105, 109, 105, 116], [115, 101, 101, 100], [115, 97, 108, 101], [98, 117, 121], [97, 115, 115, 101, 116], [100, 111, 119, 110], [117, 112], [110, 101, 97, 114]] : List (List Int)).getD k []).getD j 0
def wOff (k : Nat) : Nat := [0, 7, 12, 18, 24, 29, 35, 40, 45, 49, 55, 58, 63, 68].getD k 0
def wLnM (k : Nat) : Nat := [6, 4, 5, 5, 4, 5, 4, 4, 3, 5, 2, 4, 4].getD k 0
def eqW (w : Nat → Int) (u : Nat → Int) (s : Nat) : Nat → Bool
  | 0 => true
  | j + 1 => eqW w u s j && decide (w j = u (s + j))
theorem eqW_f {w u : Nat → Int} {s : Nat} {i : Nat} (h : eqW w u s i = false) : ∀ j, i ≤ j → eqW w u s j = false := by
  intro j
  induction j with
  | zero =>
    intro hj
    have e : i = 0 := by omega
    rw [e] at h
    exact h
  | succ j ih =>
    intro hj
    by_cases c : i = j + 1
    · rw [← c]; exact h
    · show (eqW w u s j && _) = false
      rw [ih (by omega)]
      rfl
def mtX (u : Nat → Int) (s e k : Nat) : Bool := decide (wLen.getD k 0 = e - s) && eqW (WT k) u s (wLen.getD k 0)
def mtM (u : Nat → Int) (s e k : Nat) : Bool := decide (wLnM k = e - s) && eqW (fun j => WD (wOff k + j)) u s (wLnM k)
theorem fnd_lt {p : Nat → Bool} : ∀ {d i j : Nat}, fnd p i d = some j → i ≤ j ∧ j < i + d ∧ p j = true := by
  intro d
  induction d with
  | zero => intro i j h; exact absurd h (by show ¬ (none = some j); simp)
  | succ d ih =>
    intro i j h
    have h : (if p i then some i else fnd p (i + 1) d) = some j := h
    by_cases c : p i = true
    · rw [if_pos c] at h
      have e : i = j := Option.some.inj h
      exact ⟨by omega, by omega, by rw [← e]; exact c⟩
    · rw [if_neg c] at h
      have := ih h
      exact ⟨by omega, by omega, this.2.2⟩
theorem fnd_no {p : Nat → Bool} : ∀ {d i : Nat}, fnd p i d = none → ∀ j, i ≤ j → j < i + d → p j = false := by
  intro d
  induction d with
  | zero => intro i h j h1 h2; omega
  | succ d ih =>
    intro i h j h1 h2
    have h : (if p i then some i else fnd p (i + 1) d) = none := h
    by_cases c : p i = true
    · rw [if_pos c] at h
      exact absurd h (by simp)
    · rw [if_neg c] at h
      by_cases e : j = i
      · rw [e]; simpa using c
      · exact ih h j (by omega) (by omega)
theorem wch_v : ∀ k, k < 13 → ∀ j, j < wLen.getD k 0 → (Int32.toUInt32 ((wCh k j) &&& 255) % 65536).toInt32 = zi (WT k j) ∧ (zi (WT k j)).toUInt32.toUInt16.toUInt32.toInt32 = zi (WT k j) ∧ 97 ≤ WT k j ∧ WT k j ≤ 122 := by decide +kernel
theorem wD_v : ∀ k, k < 13 → wOff (k + 1) = wOff k + wLnM k + 1 ∧ wOff k + wLnM k < 68 ∧ WD (wOff k + wLnM k) = 32 ∧ ∀ j, j < wLnM k → WD (wOff k + j) ≠ 32 ∧ 97 ≤ WD (wOff k + j) ∧ WD (wOff k + j) ≤ 122 := by decide +kernel
theorem wLn_7 : ∀ k, k < 13 → wLen.getD k 0 ≤ 6 ∧ wLnM k ≤ 6 ∧ 1 ≤ wLen.getD k 0 ∧ 1 ≤ wLnM k := by decide +kernel
/-- the component's words and the reference's -/
theorem wS_v : ∀ k, k < 10 → wLen.getD k 0 = wLnM k ∧ ∀ j, j < wLnM k → WT k j = WD (wOff k + j) := by decide +kernel
theorem wS_10 : wLen.getD 10 0 = wLnM 11 ∧ ∀ j, j < wLnM 11 → WT 10 j = WD (wOff 11 + j) := by decide +kernel
theorem wS_11 : wLen.getD 11 0 = wLnM 10 ∧ ∀ j, j < wLnM 10 → WT 11 j = WD (wOff 10 + j) := by decide +kernel
theorem wS_12 : wLen.getD 12 0 = wLnM 12 ∧ ∀ j, j < wLnM 12 → WT 12 j = WD (wOff 12 + j) := by decide +kernel
theorem eqW_c {w w2 u : Nat → Int} {s : Nat} : ∀ i, (∀ j, j < i → w j = w2 j) → eqW w u s i = eqW w2 u s i := by
  intro i
  induction i with
  | zero => intro _; rfl
  | succ i ih =>
    intro h
    show (eqW w u s i && decide (w i = u (s + i))) = (eqW w2 u s i && decide (w2 i = u (s + i)))
    rw [ih (fun j hj => h j (by omega)), h i (by omega)]
theorem mt_c {u : Nat → Int} {s e k k2 : Nat} (h : wLen.getD k 0 = wLnM k2 ∧ ∀ j, j < wLnM k2 → WT k j = WD (wOff k2 + j)) : mtX u s e k = mtM u s e k2 := by
  unfold mtX mtM
  rw [h.1, eqW_c (wLnM k2) h.2]
/-- the word that the reference's index names, by the component's -/
def swW (k : Nat) : Nat := if k = 10 then 11 else if k = 11 then 10 else k
theorem fnd_13 (p : Nat → Bool) : fnd p 0 13 = (if p 0 then some 0 else if p 1 then some 1 else if p 2 then some 2 else if p 3 then some 3 else if p 4 then some 4 else if p 5 then some 5 else if p 6 then some 6 else if p 7 then some 7 else if p 8 then some 8 else if p 9 then some 9 else if p 10 then some 10 else if p 11 then some 11 else if p 12 then some 12 else none) := rfl
theorem wd_eq (u : Nat → Int) (s e : Nat) : fnd (mtM u s e) 0 13 = (fnd (mtX u s e) 0 13).map swW := by
  have h := fun k hk => mt_c (u := u) (s := s) (e := e) (wS_v k hk)
  have h10 := mt_c (u := u) (s := s) (e := e) wS_10
  have h11 := mt_c (u := u) (s := s) (e := e) wS_11
  have h12 := mt_c (u := u) (s := s) (e := e) wS_12
  have hd : mtM u s e 10 = true → mtM u s e 11 = false := fun q => by
    have q1 : decide (wLnM 10 = e - s) = true := by
      unfold mtM at q
      exact (Bool.and_eq_true_iff.mp q).1
    have q2 : wLnM 10 = e - s := of_decide_eq_true q1
    unfold mtM
    rw [decide_eq_false (show ¬ (wLnM 11 = e - s) by rw [← q2]; decide)]
    rfl
  rw [fnd_13, fnd_13, h 0 (by omega), h 1 (by omega), h 2 (by omega), h 3 (by omega), h 4 (by omega), h 5 (by omega), h 6 (by omega), h 7 (by omega), h 8 (by omega), h 9 (by omega), h10, h11, h12]
  cases mtM u s e 0 with
  | true => rfl
  | false =>
  cases mtM u s e 1 with
  | true => rfl
  | false =>
  cases mtM u s e 2 with
  | true => rfl
  | false =>
  cases mtM u s e 3 with
  | true => rfl
  | false =>
  cases mtM u s e 4 with
  | true => rfl
  | false =>
  cases mtM u s e 5 with
  | true => rfl
  | false =>
  cases mtM u s e 6 with
  | true => rfl
  | false =>
  cases mtM u s e 7 with
  | true => rfl
  | false =>
  cases mtM u s e 8 with
  | true => rfl
  | false =>
  cases mtM u s e 9 with
  | true => rfl
  | false =>
  cases c10 : mtM u s e 10 with
  | true =>
    rw [hd c10]
    rfl
  | false =>
  cases mtM u s e 11 with
  | true => rfl
  | false =>
  cases mtM u s e 12 with
  | true => rfl
  | false => rfl
/-- a loop that compares, place by place -/
theorem cmp_loop {σ T : Type} {step : σ → Option (σ ⊕ T)} (st bad : Nat → σ) (w u : Nat → Int) (s L : Nat) (good : T) (ba : Nat → T) (h1 : ∀ i, i < L → w i = u (s + i) → step (st i) = some (.inl (st (i + 1)))) (h2 : ∀ i, i < L → ¬ w i = u (s + i) → step (st i) = some (.inl (bad (i + 1)))) (h3 : ∀ i, i ≤ L → step (bad i) = some (.inr (ba i))) (h4 : step (st L) = some (.inr good)) {n : Nat} (hn : L + 1 < n) : ∃ t, loopF step n (st 0) = some t ∧ ((eqW w u s L = true ∧ t = good) ∨ (eqW w u s L = false ∧ ∃ i, t = ba i)) := by
  have key : ∀ d i, i + d = L → eqW w u s i = true → ∀ n, d + 1 < n → ∃ t, loopF step n (st i) = some t ∧ ((eqW w u s L = true ∧ t = good) ∨ (eqW w u s L = false ∧ ∃ i, t = ba i)) := by
    intro d
    induction d with
    | zero =>
      intro i hi hq n hn
      obtain ⟨m, rfl⟩ : ∃ m, n = m + 1 := ⟨n - 1, by omega⟩
      have e : i = L := by omega
      subst e
      refine ⟨good, ?_, Or.inl ⟨hq, rfl⟩⟩
      show (match step (st i) with | none => none | some (.inl s1) => loopF step m s1 | some (.inr t) => some t) = _
      rw [h4]
    | succ d ih =>
      intro i hi hq n hn
      obtain ⟨m, rfl⟩ : ∃ m, n = m + 1 := ⟨n - 1, by omega⟩
      by_cases c : w i = u (s + i)
      · obtain ⟨t, g1, g2⟩ := ih (i + 1) (by omega) (by show (eqW w u s i && decide (w i = u (s + i))) = true; rw [hq, decide_eq_true c]; rfl) m (by omega)
        refine ⟨t, ?_, g2⟩
        show (match step (st i) with | none => none | some (.inl s1) => loopF step m s1 | some (.inr t) => some t) = _
        rw [h1 i (by omega) c]
        exact g1
      · obtain ⟨m2, rfl⟩ : ∃ m2, m = m2 + 1 := ⟨m - 1, by omega⟩
        refine ⟨ba (i + 1), ?_, Or.inr ⟨eqW_f (i := i + 1) (by show (eqW w u s i && decide (w i = u (s + i))) = false; rw [decide_eq_false c, Bool.and_false]) L (by omega), i + 1, rfl⟩⟩
        show (match step (st i) with | none => none | some (.inl s1) => loopF step (m2 + 1) s1 | some (.inr t) => some t) = _
        rw [h2 i (by omega) c]
        show (match step (bad (i + 1)) with | none => none | some (.inl s1) => loopF step m2 s1 | some (.inr t) => some t) = _
        rw [h3 (i + 1) (by omega)]
  exact key L 0 (by omega) rfl n hn
def xatStep (n a e : Nat) : MemT × Int32 → Option ((MemT × Int32) ⊕ (Option Nat × MemT)) := (fun (s : MemT × Int32) => (fun (M2 : MemT) (v3 : Int32) => (if 13 ≤ v3 then some (.inr ((none, M2))) else (if v3 < 0 ∨ 13 ≤ Int32.toNatClampNeg v3 then none else (if (Int32.toNatClampNeg v3) < 13 then (if (Int32.toNatClampNeg v3) < 13 then bd (g_J0_length_8abf5 n M2 ((Int32.toNatClampNeg v3))) (fun r5 M6 => jp (fun (s : MemT × Int32) => (fun (M8 : MemT) (v9 : Int32) => (loopF (fun (s : MemT × Int32 × Int32) => (fun (M10 : MemT) (v11 : Int32) (v12 : Int32) => (if v11 = 0 then some (.inr (M10, v11, v12)) else (if (Int32.toNatClampNeg v3) < 13 then (if (Int32.toNatClampNeg v3) < 13 then bd (g_J0_length_8abf5 n M10 ((Int32.toNatClampNeg v3))) (fun r14 M15 => (if r14 ≤ v12 then some (.inr (M15, v11, v12)) else (aI M15 11 1 ((zi (a : Int)) + v12)).bind (fun v16 => (if (Int32.toNatClampNeg v3) < 13 then (if (Int32.toNatClampNeg v3) < 13 then bd (g_J0_charAt_5068e n M15 ((Int32.toNatClampNeg v3)) v12) (fun r17 M18 => (if v16 = r17 then some (.inl (M18, 1, v12 + 1)) else some (.inl (M18, 0, v12 + 1)))) else none) else none)))) else none) else none))) s.1 s.2.1 s.2.2) n (M8, v9, 0)).bind (fun (s : MemT × Int32 × Int32) => (fun (M19 : MemT) (v20 : Int32) (v21 : Int32) => (if v20 = 0 then some (.inl (M19, v3 + 1)) else some (.inr (((some (Int32.toNatClampNeg v3)), M19))))) s.1 s.2.1 s.2.2)) s.1 s.2) (fun K7 => (if r5 = ((zi (e : Int)) - (zi (a : Int))) then K7 (M6, 1) else K7 (M6, 0)))) else none) else none)))) s.1 s.2)
theorem loop1 {σ T : Type} {step : σ → Option (σ ⊕ T)} {s : σ} {t : T} (h : step s = some (.inr t)) {n : Nat} (hn : 0 < n) : loopF step n s = some t := by
  obtain ⟨m, rfl⟩ : ∃ m, n = m + 1 := ⟨n - 1, by omega⟩
  show (match step s with | none => none | some (.inl s1) => loopF step m s1 | some (.inr t) => some t) = _
  rw [h]
section M22
variable {M : MemT} {s : Nat} {f hd : Nat → Int32} {Z : Nat → Nat → Int32} {u : Nat → Int} {n : Nat}
theorem x_char {W : MemT} {k j : Nat} (hk : k < 13) (hj : j < wLen.getD k 0) : g_J0_charAt_5068e n W k (zi (j : Int)) = some (zi (WT k j), W) := by
  obtain ⟨h1, h2, h3, h4⟩ := wch_v k hk j hj
  have h7 := (wLn_7 k hk).1
  have e0 : ¬ (zi (j : Int) < (0 : Int32)) := by
    show ¬ (zi (j : Int) < zi 0)
    rw [zi_lt (by omega) (by omega) (by omega) (by omega)]
    omega
  have e1 : zi (j : Int) < nI (wLen.getD k 0) := by
    rw [zi_nI, zi_lt (by omega) (by omega) (by omega) (by omega)]
    omega
  have et : (zi (j : Int)).toNatClampNeg = j := by
    rw [zi_tn (by omega) (by omega)]
    omega
  unfold g_J0_charAt_5068e g_J0_isLatin1_aae02 g_J1_charAt_3b067 g_J0_checkIndex_df160 g_J3_checkIndex_8e157
  rw [if_pos hk, if_neg (by decide), if_pos hk, if_pos rfl]
  show bd (some ((1 : Int32), W)) _ = _
  rw [i_bd, if_neg (by decide), if_pos hk, if_pos hk, if_neg e0, if_pos e1, i_bd, i_bd, if_pos ⟨hk, by rw [et]; exact fun q => q.elim e0 (fun z => by omega)⟩, et, h1]
  unfold rC
  rw [if_pos h2, i_bd, if_pos h2]
theorem x_len {W : MemT} {k : Nat} (hk : k < 13) : g_J0_length_8abf5 n W k = some (zi (wLen.getD k 0 : Int), W) := by
  unfold g_J0_length_8abf5 g_J0_coder_7d493
  rw [if_pos hk, if_pos hk, if_pos hk, if_neg (by decide), if_pos hk]
  show bd (some ((0 : Int32), W)) _ = _
  rw [i_bd, zi_nI]
  have : ∀ x : Int32, x >>> ((0 : Int32) &&& 31) = x := fun x => by
    rw [show ((0 : Int32) &&& 31) = 0 by decide]
    exact Int32.shiftRight_zero
  rw [this]
theorem x_at (hp : PSh M s) (hu : XT M u) {a e : Nat} (ha : a ≤ e) (he : e ≤ 700) (hn : 20 < n) : g_X8_at n (PX M s f hd Z) 1 (zi (a : Int)) (zi (e : Int)) = some (fnd (mtX u a e) 0 13, PX M s f hd Z) := by
  have gL : aL (PX M s f hd Z) 1 = some (zi 700) := i_aLg (M := PX M s f hd Z) (N := 700) (show 10 ≤ mK M 1 ∧ mK M 1 < 16 by rw [hp.2.2.1.1]; omega) hp.2.2.1.2
  unfold g_X8_at
  rw [if_neg (by show ¬ (zi (a : Int) < zi 0); rw [zi_lt (by omega) (by omega) (by omega) (by omega)]; omega), gL, i_sb, if_pos (by rw [zi_le (by omega) (by omega) (by omega) (by omega)]; omega)]
  have inner : ∀ k, k < 13 → wLen.getD k 0 = e - a → ∃ v i, loopF (fun (s : MemT × Int32 × Int32) => (fun (M10 : MemT) (v11 : Int32) (v12 : Int32) => (if v11 = 0 then some (.inr (M10, v11, v12)) else (if k < 13 then (if k < 13 then bd (g_J0_length_8abf5 n M10 k) (fun r14 M15 => (if r14 ≤ v12 then some (.inr (M15, v11, v12)) else (aI M15 11 1 ((zi (a : Int)) + v12)).bind (fun v16 => (if k < 13 then (if k < 13 then bd (g_J0_charAt_5068e n M15 k v12) (fun r17 M18 => (if v16 = r17 then (some (.inl (M18, 1, v12 + 1)) : Option ((MemT × Int32 × Int32) ⊕ (MemT × Int32 × Int32))) else some (.inl (M18, 0, v12 + 1)))) else none) else none)))) else none) else none))) s.1 s.2.1 s.2.2) n (PX M s f hd Z, 1, 0) = some (PX M s f hd Z, v, i) ∧ v = (if eqW (WT k) u a (wLen.getD k 0) then 1 else 0) := fun k hk hL => by
    have h7 := (wLn_7 k hk).1
    have cl := cmp_loop (step := fun (s : MemT × Int32 × Int32) => (fun (M10 : MemT) (v11 : Int32) (v12 : Int32) => (if v11 = 0 then some (.inr (M10, v11, v12)) else (if k < 13 then (if k < 13 then bd (g_J0_length_8abf5 n M10 k) (fun r14 M15 => (if r14 ≤ v12 then some (.inr (M15, v11, v12)) else (aI M15 11 1 ((zi (a : Int)) + v12)).bind (fun v16 => (if k < 13 then (if k < 13 then bd (g_J0_charAt_5068e n M15 k v12) (fun r17 M18 => (if v16 = r17 then (some (.inl (M18, 1, v12 + 1)) : Option ((MemT × Int32 × Int32) ⊕ (MemT × Int32 × Int32))) else some (.inl (M18, 0, v12 + 1)))) else none) else none)))) else none) else none))) s.1 s.2.1 s.2.2) (fun i : Nat => (PX M s f hd Z, (1 : Int32), zi (i : Int))) (fun i : Nat => (PX M s f hd Z, (0 : Int32), zi (i : Int))) (WT k) u a (wLen.getD k 0) (PX M s f hd Z, (1 : Int32), zi (wLen.getD k 0 : Int)) (fun i : Nat => (PX M s f hd Z, (0 : Int32), zi (i : Int))) (fun i hi c => ?_) (fun i hi c => ?_) (fun i hi => ?_) ?_ (n := n) (by omega)
    · obtain ⟨tt, g1, g2⟩ := cl
      rcases g2 with ⟨q1, q2⟩ | ⟨q1, i, q2⟩
      · exact ⟨1, _, by rw [← q2]; exact g1, by rw [if_pos q1]⟩
      · exact ⟨0, _, by rw [← q2]; exact g1, by rw [if_neg (by rw [q1]; decide)]⟩
    · have hub := (hu (a + i) (by omega)).2
      have hw := (wch_v k hk i hi).2.2
      dsimp only
      rw [if_neg (by decide), if_pos hk, if_pos hk, x_len hk, i_bd, if_neg (by rw [zi_le (by omega) (by omega) (by omega) (by omega)]; omega), zi_add, show ((a : Int) + (i : Int)) = ((a + i : Nat) : Int) by omega, p_tp hp hu (by omega), i_sb, if_pos hk, if_pos hk, x_char hk hi, i_bd, if_pos (by rw [sgn8_eq hub.1 hub.2 (by omega) (by omega)]; exact c.symm), show zi (i : Int) + 1 = zi ((i + 1 : Nat) : Int) from zi_add (i : Int) 1]
    · have hub := (hu (a + i) (by omega)).2
      have hw := (wch_v k hk i hi).2.2
      dsimp only
      rw [if_neg (by decide), if_pos hk, if_pos hk, x_len hk, i_bd, if_neg (by rw [zi_le (by omega) (by omega) (by omega) (by omega)]; omega), zi_add, show ((a : Int) + (i : Int)) = ((a + i : Nat) : Int) by omega, p_tp hp hu (by omega), i_sb, if_pos hk, if_pos hk, x_char hk hi, i_bd, if_neg (by rw [sgn8_eq hub.1 hub.2 (by omega) (by omega)]; exact fun q => c q.symm), show zi (i : Int) + 1 = zi ((i + 1 : Nat) : Int) from zi_add (i : Int) 1]
    · dsimp only
      rw [if_pos rfl]
    · dsimp only
      rw [if_neg (by decide), if_pos hk, if_pos hk, x_len hk, i_bd, if_pos (Int32.le_refl _)]
  have outer : ∀ k : Nat, k < 13 → xatStep n a e (PX M s f hd Z, zi (k : Int)) = if mtX u a e k then some (.inr (some k, PX M s f hd Z)) else some (.inl (PX M s f hd Z, zi ((k + 1 : Nat) : Int))) := fun k hk => by
    have h7 := (wLn_7 k hk).1
    have et : (zi (k : Int)).toNatClampNeg = k := by
      rw [zi_tn (by omega) (by omega)]
      omega
    unfold xatStep
    dsimp only
    rw [if_neg (by show ¬ (zi 13 ≤ zi (k : Int)); rw [zi_le (by omega) (by omega) (by omega) (by omega)]; omega), et, if_neg (show ¬ (zi (k : Int) < 0 ∨ 13 ≤ k) from fun q => q.elim (fun z => by rw [show ((0 : Int32)) = zi 0 from rfl, zi_lt (by omega) (by omega) (by omega) (by omega)] at z; omega) (fun z => by omega)), if_pos hk, if_pos hk, x_len hk, i_bd, i_jp, zi_sub]
    have ek : zi (k : Int) + 1 = zi ((k + 1 : Nat) : Int) := zi_add (k : Int) 1
    by_cases hL : wLen.getD k 0 = e - a
    · obtain ⟨v, i, g1, g2⟩ := inner k hk hL
      dsimp only at g1
      rw [if_pos (show zi (wLen.getD k 0 : Int) = zi ((e : Int) - (a : Int)) from congrArg zi (by omega))]
      dsimp only
      rw [g1, i_sb]
      dsimp only
      unfold mtX
      rw [decide_eq_true hL, Bool.true_and]
      by_cases c : eqW (WT k) u a (wLen.getD k 0) = true
      · rw [if_pos c] at g2 ⊢
        rw [if_neg (by rw [g2]; decide)]
      · rw [if_neg c] at g2 ⊢
        rw [if_pos g2, ek]
    · rw [if_neg (by rw [zi_eq (by omega) (by omega) (by omega) (by omega)]; omega)]
      dsimp only
      rw [loop1 (t := (PX M s f hd Z, (0 : Int32), (0 : Int32))) (by dsimp only; rw [if_pos rfl]) (by omega), i_sb]
      dsimp only
      rw [if_pos rfl, ek]
      unfold mtX
      rw [decide_eq_false hL, Bool.false_and]
      rfl
  have key := loop_find (step := xatStep n a e) (fun i : Nat => (PX M s f hd Z, zi (i : Int))) (fun i => (some i, PX M s f hd Z)) (none, PX M s f hd Z) 13 (mtX u a e) (fun i hi c => (outer i hi).trans (by rw [if_neg (by rw [c]; decide)])) (fun i hi c => (outer i hi).trans (by rw [if_pos c])) ?_ n (by omega)
  · refine Eq.trans key ?_
    cases fnd (mtX u a e) 0 13 with
    | none => rfl
    | some k => rfl
  · unfold xatStep
    dsimp only
    rw [if_pos (by show zi 13 ≤ zi ((13 : Nat) : Int); exact Int32.le_refl _)]
end M22
