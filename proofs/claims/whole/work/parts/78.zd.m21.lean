/-! ===== PURE 76: tokens: what stands at a place; the component's reader takes one ===== -/
def scnF (p : Int → Bool) (u : Nat → Int) : Nat → Nat → Nat
  | 0, i => i
  | k + 1, i => if p (u i) then scnF p u k (i + 1) else i
theorem scnF_r {p : Int → Bool} {u : Nat → Int} : ∀ k i, i ≤ scnF p u k i ∧ scnF p u k i ≤ i + k ∧ (scnF p u k i = i + k ∨ p (u (scnF p u k i)) = false) ∧ ∀ j, i ≤ j → j < scnF p u k i → p (u j) = true := by
  intro k
  induction k with
  | zero => intro i; exact ⟨Nat.le_refl _, Nat.le_refl _, Or.inl rfl, fun j h1 h2 => absurd h2 (by show ¬ j < i; omega)⟩
  | succ k ih =>
    intro i
    obtain ⟨h1, h2, h3, h4⟩ := ih (i + 1)
    by_cases c : p (u i) = true
    · have e : scnF p u (k + 1) i = scnF p u k (i + 1) := if_pos c
      rw [e]
      refine ⟨by omega, by omega, ?_, fun j j1 j2 => ?_⟩
      · rcases h3 with q | q
        · exact Or.inl (by omega)
        · exact Or.inr q
      · by_cases d : j = i
        · rw [d]; exact c
        · exact h4 j (by omega) j2
    · have e : scnF p u (k + 1) i = i := if_neg c
      rw [e]
      exact ⟨Nat.le_refl _, by omega, Or.inr (by simpa using c), fun j j1 j2 => absurd j2 (by omega)⟩
theorem scan_loop {σ T : Type} {step : σ → Option (σ ⊕ T)} (st : Nat → σ) (fin : Nat → T) (p : Int → Bool) (u : Nat → Int) (i0 len : Nat) (h1 : ∀ i, i0 ≤ i → i < len → (∀ j, i0 ≤ j → j < i → p (u j) = true) → p (u i) = true → step (st i) = some (.inl (st (i + 1)))) (h2 : ∀ i, i0 ≤ i → i < len → p (u i) = false → step (st i) = some (.inr (fin i))) (h3 : i0 ≤ len → step (st len) = some (.inr (fin len))) {n : Nat} (hi0 : i0 ≤ len) (hn : len < n) : loopF step n (st i0) = some (fin (scnF p u (len - i0) i0)) := by
  have key : ∀ k i, i0 ≤ i → (∀ j, i0 ≤ j → j < i → p (u j) = true) → i + k = len → ∀ n, k < n → loopF step n (st i) = some (fin (scnF p u k i)) := by
    intro k
    induction k with
    | zero =>
      intro i hi hj hk n hn
      obtain ⟨m, rfl⟩ : ∃ m, n = m + 1 := ⟨n - 1, by omega⟩
      have e : i = len := by omega
      subst e
      show (match step (st i) with | none => none | some (.inl s1) => loopF step m s1 | some (.inr t) => some t) = _
      rw [h3 hi]
      rfl
    | succ k ih =>
      intro i hi hj hk n hn
      obtain ⟨m, rfl⟩ : ∃ m, n = m + 1 := ⟨n - 1, by omega⟩
      show (match step (st i) with | none => none | some (.inl s1) => loopF step m s1 | some (.inr t) => some t) = _
      by_cases c : p (u i) = true
      · rw [h1 i hi (by omega) hj c]
        have e : scnF p u (k + 1) i = scnF p u k (i + 1) := if_pos c
        rw [e]
        refine ih (i + 1) (by omega) (fun j j1 j2 => ?_) (by omega) m (by omega)
        by_cases d : j = i
        · rw [d]; exact c
        · exact hj j j1 (by omega)
      · have c' : p (u i) = false := by simpa using c
        rw [h2 i hi (by omega) c']
        have e : scnF p u (k + 1) i = i := if_neg c
        rw [e]
  exact key (len - i0) i0 (Nat.le_refl _) (fun j a b => absurd b (by omega)) (by omega) n (by omega)
def isBl (c : Int) : Bool := decide (c = 10 ∨ c = 32)
def isLt (c : Int) : Bool := decide (97 ≤ c ∧ c ≤ 122)
def isDg (c : Int) : Bool := decide (48 ≤ c ∧ c ≤ 57)
def sgn8 (c : Int) : Int := if c < 128 then c else c - 256
/-- the letters packed, as the component packs them -/
def pkXf (u : Nat → Int) (s : Nat) : Nat → Int32
  | 0 => 0
  | j + 1 => pkXf u s j ||| (if j < 6 then (zi (u (s + j)) - 97 + 1) <<< (zi (25 - 5 * (j : Int)) &&& 31) else 0)
/-- a number, as the component counts it -/
def nXf (u : Nat → Int) (s : Nat) : Nat → Int
  | 0 => 0
  | j + 1 => if nXf u s j * 10 + (u (s + j) - 48) < 1000000 then nXf u s j * 10 + (u (s + j) - 48) else 1000000
def tkS (u : Nat → Int) (len p : Nat) : Nat := scnF isBl u (len - p) p
def tkK (u : Nat → Int) (len p : Nat) : Int := if tkS u len p = len then 0 else if isLt (u (tkS u len p)) then 1 else if isDg (u (tkS u len p)) then 2 else if u (tkS u len p) = 59 then 3 else 4
def tkE (u : Nat → Int) (len p : Nat) : Nat := if tkS u len p = len then len else if isLt (u (tkS u len p)) then scnF isLt u (len - tkS u len p) (tkS u len p) else if isDg (u (tkS u len p)) then scnF isDg u (len - tkS u len p) (tkS u len p) else tkS u len p + 1
def tkV (u : Nat → Int) (len p : Nat) : Int32 := if tkS u len p = len then 0 else if isLt (u (tkS u len p)) then pkXf u (tkS u len p) (tkE u len p - tkS u len p) else if isDg (u (tkS u len p)) then zi (nXf u (tkS u len p) (tkE u len p - tkS u len p)) else 0
def PSh (M : MemT) (s : Nat) : Prop := (mK M 2 = 4 ∧ mR M 2 2 = some 1 ∧ mR M 2 4 = some s ∧ mR M 2 12 = some 3) ∧ (mK M 3 = 12 ∧ mL M 3 = 4) ∧ (mK M 1 = 11 ∧ mL M 1 = 700) ∧ RSh M s ∧ (s = 4 ∨ s = 14)
def PX (M : MemT) (s : Nat) (f hd : Nat → Int32) (Z : Nat → Nat → Int32) : MemT := (M.1, M.2.1, M.2.2.1, M.2.2.2.1, fun x k => if x = 2 then f k else if x = 3 then hd k else if s ≤ x ∧ x < s + 9 then Z (x - s) k else M.2.2.2.2.1 x k, M.2.2.2.2.2)
def XT (M : MemT) (u : Nat → Int) : Prop := ∀ k : Nat, k < 700 → mI M 1 k = zi (sgn8 (u k)) ∧ 0 ≤ u k ∧ u k < 256
def tkR (f : Nat → Int32) (k s e v : Int32) : Nat → Int32 := fun j => if j = 5 then k else if j = 6 then s else if j = 7 then e else if j = 8 then v else f j
section M21
variable {M : MemT} {s : Nat} {f hd : Nat → Int32} {Z : Nat → Nat → Int32} {u : Nat → Int} {n len p : Nat} {k st e v w : Int32}
theorem tk_0 : tkR f (f 5) (f 6) (f 7) (f 8) = f := by
  funext j
  unfold tkR
  by_cases c5 : j = 5
  · rw [if_pos c5, c5]
  · rw [if_neg c5]
    by_cases c6 : j = 6
    · rw [if_pos c6, c6]
    · rw [if_neg c6]
      by_cases c7 : j = 7
      · rw [if_pos c7, c7]
      · rw [if_neg c7]
        by_cases c8 : j = 8
        · rw [if_pos c8, c8]
        · rw [if_neg c8]
theorem tk_u5 : up1 (tkR f k st e v) 5 w = tkR f w st e v := by
  funext j
  unfold tkR up1
  by_cases c : j = 5 <;> simp [c]
theorem tk_u6 : up1 (tkR f k st e v) 6 w = tkR f k w e v := by
  funext j
  unfold tkR up1
  by_cases c : j = 6 <;> simp [c]
theorem tk_u7 : up1 (tkR f k st e v) 7 w = tkR f k st w v := by
  funext j
  unfold tkR up1
  by_cases c : j = 7 <;> simp [c]
theorem tk_u8 : up1 (tkR f k st e v) 8 w = tkR f k st e w := by
  funext j
  unfold tkR up1
  by_cases c : j = 8 <;> simp [c]
theorem tk_uo {i : Nat} (h : i < 5 ∨ 8 < i) : up1 (tkR f k st e v) i w = tkR (up1 f i w) k st e v := by
  funext j
  unfold tkR up1
  by_cases c : j = i
  · subst c
    simp [show ¬ j = 5 by omega, show ¬ j = 6 by omega, show ¬ j = 7 by omega, show ¬ j = 8 by omega]
  · simp [c]
theorem tk_5 : tkR f k st e v 5 = k := rfl
theorem tk_6 : tkR f k st e v 6 = st := rfl
theorem tk_7 : tkR f k st e v 7 = e := rfl
theorem tk_8 : tkR f k st e v 8 = v := rfl
theorem tk_o {i : Nat} (h : i < 5 ∨ 8 < i) : tkR f k st e v i = f i := by
  unfold tkR
  rw [if_neg (by omega), if_neg (by omega), if_neg (by omega), if_neg (by omega)]
theorem p_gI (hp : PSh M s) {j : Nat} : gI (PX M s f hd Z) 4 2 j = some (f j) := i_gI (M := PX M s f hd Z) hp.1.1
theorem p_set {j : Nat} : sI (PX M s f hd Z) 2 j v = PX M s (up1 f j v) hd Z := by
  unfold PX sI
  refine Prod.ext rfl (Prod.ext rfl (Prod.ext rfl (Prod.ext rfl (Prod.ext ?_ rfl))))
  funext x i
  show (if x = 2 ∧ i = j then v else if x = 2 then f i else if x = 3 then hd i else if s ≤ x ∧ x < s + 9 then Z (x - s) i else M.2.2.2.2.1 x i) = (if x = 2 then (if i = j then v else f i) else if x = 3 then hd i else if s ≤ x ∧ x < s + 9 then Z (x - s) i else M.2.2.2.2.1 x i)
  by_cases c : x = 2
  · subst c
    by_cases d : i = j <;> simp [d]
  · simp [c]
theorem p_pI (hp : PSh M s) {j : Nat} : pI (PX M s f hd Z) 4 2 j v = some (PX M s (up1 f j v) hd Z) := by rw [i_pI (M := PX M s f hd Z) hp.1.1, p_set]
theorem p_pZ (hp : PSh M s) {j : Nat} (hv : v = 0 ∨ v = 1) : pZ (PX M s f hd Z) 4 2 j v = some (PX M s (up1 f j v) hd Z) := by rw [i_pZ (M := PX M s f hd Z) hp.1.1 hv, p_set]
theorem p_o2 (hp : PSh M s) : gO (PX M s f hd Z) 4 2 2 = some 1 := i_gO hp.1.1 hp.1.2.1
theorem p_o4 (hp : PSh M s) : gO (PX M s f hd Z) 4 2 4 = some s := i_gO hp.1.1 hp.1.2.2.1
theorem p_o12 (hp : PSh M s) : gO (PX M s f hd Z) 4 2 12 = some 3 := i_gO hp.1.1 hp.1.2.2.2
theorem p_k {β : Type} {x : Option β} (hp : PSh M s) : chk (PX M s f hd Z) 4 2 x = x := i_chk hp.1.1
theorem i_aB {x : Nat} {k N : Int} (hk : mK M x = 11) (hl : (mL M x : Int) = N) (h0 : 0 ≤ k) (h1 : k < N) (h2 : N ≤ 2147483647) : aI M 11 x (zi k) = some (mI M x k.toNat) := by
  unfold aI inA
  have e0 : ¬ (zi k < 0 ∨ mL M x ≤ (zi k).toNatClampNeg) := by
    show ¬ (zi k < zi 0 ∨ _)
    rw [zi_lt (by omega) (by omega) (by omega) (by omega), zi_tn (by omega) h0]
    omega
  rw [if_pos ⟨hk, e0⟩, zi_tn (by omega) h0]
theorem p_tp (hp : PSh M s) (hu : XT M u) {i : Nat} (hi : i < 700) : aI (PX M s f hd Z) 11 1 (zi (i : Int)) = some (zi (sgn8 (u i))) := by
  have hs := hp.2.2.2.2
  rw [i_aB (M := PX M s f hd Z) (N := 700) hp.2.2.1.1 (by show (mL M 1 : Int) = 700; rw [hp.2.2.1.2]; rfl) (by omega) (by omega) (by omega), Int.toNat_natCast]
  refine congrArg some (Eq.trans ?_ (hu i hi).1)
  show (if 1 = 2 then f i else if 1 = 3 then hd i else if s ≤ 1 ∧ 1 < s + 9 then Z (1 - s) i else mI M 1 i) = _
  rw [if_neg (by omega), if_neg (by omega), if_neg (by omega)]
theorem x_isL (hu : XT M u) {W : MemT} {i : Nat} (hi : i < 700) : g_X5_isLetter n W (zi (sgn8 (u i))) = some (if isLt (u i) then zi 1 else zi 0, W) := by
  have h := hu i hi
  have hr : -200 ≤ sgn8 (u i) ∧ sgn8 (u i) ≤ 300 := by unfold sgn8; split <;> omega
  have e1 : (zi (sgn8 (u i)) < 97) = (sgn8 (u i) < 97) := zi_lt (b := 97) (by omega) (by omega) (by omega) (by omega)
  have e2 : (122 < zi (sgn8 (u i))) = (122 < sgn8 (u i)) := zi_lt (a := 122) (by omega) (by omega) (by omega) (by omega)
  unfold g_X5_isLetter isLt
  by_cases c : 97 ≤ u i ∧ u i ≤ 122
  · have e : sgn8 (u i) = u i := if_pos (by omega)
    rw [if_neg (by rw [e1]; omega), if_neg (by rw [e2]; omega), if_pos (decide_eq_true c)]
    exact rz_1
  · rw [if_neg (show ¬ (decide (97 ≤ u i ∧ u i ≤ 122) = true) by rw [decide_eq_true_eq]; exact c)]
    by_cases d : sgn8 (u i) < 97
    · rw [if_pos (by rw [e1]; exact d)]; exact rz_0
    · have d2 : 122 < sgn8 (u i) := by unfold sgn8 at d ⊢; split at d <;> split <;> omega
      rw [if_neg (by rw [e1]; exact d), if_pos (by rw [e2]; exact d2)]; exact rz_0
theorem x_isD (hu : XT M u) {W : MemT} {i : Nat} (hi : i < 700) : g_X5_isDigit n W (zi (sgn8 (u i))) = some (if isDg (u i) then zi 1 else zi 0, W) := by
  have h := hu i hi
  have hr : -200 ≤ sgn8 (u i) ∧ sgn8 (u i) ≤ 300 := by unfold sgn8; split <;> omega
  have e1 : (zi (sgn8 (u i)) < 48) = (sgn8 (u i) < 48) := zi_lt (b := 48) (by omega) (by omega) (by omega) (by omega)
  have e2 : (57 < zi (sgn8 (u i))) = (57 < sgn8 (u i)) := zi_lt (a := 57) (by omega) (by omega) (by omega) (by omega)
  unfold g_X5_isDigit isDg
  by_cases c : 48 ≤ u i ∧ u i ≤ 57
  · have e : sgn8 (u i) = u i := if_pos (by omega)
    rw [if_neg (by rw [e1]; omega), if_neg (by rw [e2]; omega), if_pos (decide_eq_true c)]
    exact rz_1
  · rw [if_neg (show ¬ (decide (48 ≤ u i ∧ u i ≤ 57) = true) by rw [decide_eq_true_eq]; exact c)]
    by_cases d : sgn8 (u i) < 48
    · rw [if_pos (by rw [e1]; exact d)]; exact rz_0
    · have d2 : 57 < sgn8 (u i) := by unfold sgn8 at d ⊢; split at d <;> split <;> omega
      rw [if_neg (by rw [e1]; exact d), if_pos (by rw [e2]; exact d2)]; exact rz_0
theorem sgn8_eq {c x : Int} (h0 : 0 ≤ x) (h1 : x < 256) (c0 : 0 ≤ c) (c1 : c < 128) : (zi (sgn8 x) = zi c) = (x = c) := by
  unfold sgn8
  by_cases d : x < 128
  · rw [if_pos d]
    exact zi_eq (by omega) (by omega) (by omega) (by omega)
  · rw [if_neg d, zi_eq (by omega) (by omega) (by omega) (by omega)]
    exact propext ⟨fun _ => by omega, fun _ => by omega⟩
theorem x_isB (hu : XT M u) {W : MemT} {i : Nat} (hi : i < 700) : g_X5_isBlank n W (zi (sgn8 (u i))) = some (if isBl (u i) then zi 1 else zi 0, W) := by
  have h := hu i hi
  have e1 : (zi (sgn8 (u i)) = 10) = (u i = 10) := sgn8_eq (c := 10) h.2.1 h.2.2 (by omega) (by omega)
  have e2 : (zi (sgn8 (u i)) = 32) = (u i = 32) := sgn8_eq (c := 32) h.2.1 h.2.2 (by omega) (by omega)
  unfold g_X5_isBlank isBl
  by_cases c1 : u i = 10
  · rw [if_pos (by rw [e1]; exact c1), if_pos (decide_eq_true (Or.inl c1))]
    exact rz_1
  · rw [if_neg (by rw [e1]; exact c1)]
    by_cases c2 : u i = 32
    · rw [if_pos (by rw [e2]; exact c2), if_pos (decide_eq_true (Or.inr c2))]
      exact rz_1
    · rw [if_neg (by rw [e2]; exact c2), if_neg (by rw [decide_eq_true_eq]; omega)]
      exact rz_0
theorem sc_isLt {len st : Nat} (h : st < len) (c : isLt (u st) = true) : st < scnF isLt u (len - st) st := by
  obtain ⟨m, hm⟩ : ∃ m, len - st = m + 1 := ⟨len - st - 1, by omega⟩
  rw [hm]
  have e : scnF isLt u (m + 1) st = scnF isLt u m (st + 1) := if_pos c
  rw [e]
  have := (scnF_r (p := isLt) (u := u) m (st + 1)).1
  omega
theorem sc_isDg {len st : Nat} (h : st < len) (c : isDg (u st) = true) : st < scnF isDg u (len - st) st := by
  obtain ⟨m, hm⟩ : ∃ m, len - st = m + 1 := ⟨len - st - 1, by omega⟩
  rw [hm]
  have e : scnF isDg u (m + 1) st = scnF isDg u m (st + 1) := if_pos c
  rw [e]
  have := (scnF_r (p := isDg) (u := u) m (st + 1)).1
  omega
theorem nXf_r {st : Nat} (hb : ∀ k : Nat, k < 700 → 0 ≤ u k ∧ u k < 256) : ∀ j, (∀ i, st ≤ i → i < st + j → i < 700 ∧ isDg (u i) = true) → 0 ≤ nXf u st j ∧ nXf u st j ≤ 1000000 := by
  intro j
  induction j with
  | zero => intro _; exact ⟨by show (0 : Int) ≤ 0; omega, by show (0 : Int) ≤ 1000000; omega⟩
  | succ j ih =>
    intro h
    have h1 := ih (fun i q1 q2 => h i q1 (by omega))
    have h2 := h (st + j) (by omega) (by omega)
    have h3 : 48 ≤ u (st + j) ∧ u (st + j) ≤ 57 := of_decide_eq_true h2.2
    show 0 ≤ (if nXf u st j * 10 + (u (st + j) - 48) < 1000000 then nXf u st j * 10 + (u (st + j) - 48) else 1000000) ∧ (if nXf u st j * 10 + (u (st + j) - 48) < 1000000 then nXf u st j * 10 + (u (st + j) - 48) else 1000000) ≤ 1000000
    split <;> omega
theorem tkS_r {len p : Nat} (h : p ≤ len) : p ≤ tkS u len p ∧ tkS u len p ≤ len := by
  have := scnF_r (p := isBl) (u := u) (len - p) p
  unfold tkS
  omega
theorem tkE_r {len p : Nat} (h : p ≤ len) : tkS u len p ≤ tkE u len p ∧ tkE u len p ≤ len := by
  obtain ⟨h1, h2⟩ := tkS_r (u := u) h
  unfold tkE
  have hl := scnF_r (p := isLt) (u := u) (len - tkS u len p) (tkS u len p)
  have hd := scnF_r (p := isDg) (u := u) (len - tkS u len p) (tkS u len p)
  split
  · omega
  · split
    · omega
    · split
      · omega
      · omega
theorem x_tok (hp : PSh M s) (hu : XT M u) (h3 : f 3 = zi (len : Int)) (hl : len ≤ 700) (hpl : p ≤ len) (hn : 1000 < n) : g_X5_takeToken n (PX M s (tkR f k st (zi (p : Int)) v) hd Z) 2 = some ((), PX M s (tkR f (zi (tkK u len p)) (zi (tkS u len p : Int)) (zi (tkE u len p : Int)) (tkV u len p)) hd Z) := by
  have hub : ∀ k : Nat, k < 700 → 0 ≤ u k ∧ u k < 256 := fun k hk => (hu k hk).2
  obtain ⟨s1, s2⟩ := tkS_r (u := u) hpl
  -- the blanks
  have blk := scan_loop (step := fun (s : MemT) => (fun (M3 : MemT)  => (gI M3 4 2 6).bind (fun v5 => (gI M3 4 2 3).bind (fun v6 => (if v6 ≤ v5 then some (.inr M3) else (gO M3 4 2 2).bind (fun j7 => (gI M3 4 2 6).bind (fun v8 => (aI M3 11 j7 v8).bind (fun v9 => bd (g_X5_isBlank n M3 v9) (fun r10 M11 => (if r10 = 0 then some (.inr M11) else (gI M11 4 2 6).bind (fun v12 => (pI M11 4 2 6 (v12 + 1)).bind (fun M13 => (some (.inl M13) : Option (MemT ⊕ MemT))))))))))))) s) (fun i : Nat => PX M s (tkR f k (zi (i : Int)) (zi (p : Int)) v) hd Z) (fun i : Nat => PX M s (tkR f k (zi (i : Int)) (zi (p : Int)) v) hd Z) isBl u p len (fun i i0 i1 hj c => ?_) (fun i i0 i1 c => ?_) (fun i0 => ?_) (n := n) hpl (by omega)
  · -- the letters
    have ltr : ∀ S : Nat, S < len → isLt (u S) = true → loopF (fun (s : MemT × Int32) => (fun (M27 : MemT) (v28 : Int32) => (gI M27 4 2 7).bind (fun v30 => (gI M27 4 2 3).bind (fun v31 => (if v31 ≤ v30 then some (.inr (M27, v28)) else (gO M27 4 2 2).bind (fun j32 => (gI M27 4 2 7).bind (fun v33 => (aI M27 11 j32 v33).bind (fun v34 => bd (g_X5_isLetter n M27 v34) (fun r35 M36 => (if r35 = 0 then some (.inr (M36, v28)) else (gI M36 4 2 8).bind (fun v37 => jp (fun (s : MemT × Int32) => (fun (M39 : MemT) (v40 : Int32) => (pI M39 4 2 8 (v37 ||| v40)).bind (fun M41 => (gI M41 4 2 7).bind (fun v42 => (pI M41 4 2 7 (v42 + 1)).bind (fun M43 => (some (.inl (M43, v28 + (-5))) : Option ((MemT × Int32) ⊕ (MemT × Int32))))))) s.1 s.2) (fun K38 => (if v28 < 0 then K38 (M36, 0) else (gO M36 4 2 2).bind (fun j44 => (gI M36 4 2 7).bind (fun v45 => (aI M36 11 j44 v45).bind (fun v46 => K38 (M36, ((v46 - 97) + 1) <<< (v28 &&& 31))))))))))))))))) s.1 s.2) n (PX M s (tkR f 1 (zi (S : Int)) (zi (S : Int)) 0) hd Z, 25) = some (PX M s (tkR f 1 (zi (S : Int)) (zi (scnF isLt u (len - S) S : Int)) (pkXf u S (scnF isLt u (len - S) S - S))) hd Z, zi (25 - 5 * ((scnF isLt u (len - S) S - S : Nat) : Int))) := fun S hS hc => by
      have key := scan_loop (step := fun (s : MemT × Int32) => (fun (M27 : MemT) (v28 : Int32) => (gI M27 4 2 7).bind (fun v30 => (gI M27 4 2 3).bind (fun v31 => (if v31 ≤ v30 then some (.inr (M27, v28)) else (gO M27 4 2 2).bind (fun j32 => (gI M27 4 2 7).bind (fun v33 => (aI M27 11 j32 v33).bind (fun v34 => bd (g_X5_isLetter n M27 v34) (fun r35 M36 => (if r35 = 0 then some (.inr (M36, v28)) else (gI M36 4 2 8).bind (fun v37 => jp (fun (s : MemT × Int32) => (fun (M39 : MemT) (v40 : Int32) => (pI M39 4 2 8 (v37 ||| v40)).bind (fun M41 => (gI M41 4 2 7).bind (fun v42 => (pI M41 4 2 7 (v42 + 1)).bind (fun M43 => (some (.inl (M43, v28 + (-5))) : Option ((MemT × Int32) ⊕ (MemT × Int32))))))) s.1 s.2) (fun K38 => (if v28 < 0 then K38 (M36, 0) else (gO M36 4 2 2).bind (fun j44 => (gI M36 4 2 7).bind (fun v45 => (aI M36 11 j44 v45).bind (fun v46 => K38 (M36, ((v46 - 97) + 1) <<< (v28 &&& 31))))))))))))))))) s.1 s.2) (fun i : Nat => (PX M s (tkR f 1 (zi (S : Int)) (zi (i : Int)) (pkXf u S (i - S))) hd Z, zi (25 - 5 * ((i - S : Nat) : Int)))) (fun i : Nat => (PX M s (tkR f 1 (zi (S : Int)) (zi (i : Int)) (pkXf u S (i - S))) hd Z, zi (25 - 5 * ((i - S : Nat) : Int)))) isLt u S len (fun i i0 i1 hj c => ?_) (fun i i0 i1 c => ?_) (fun i0 => ?_) (n := n) (by omega) (by omega)
      · dsimp only at key
        rw [Nat.sub_self] at key
        exact key
      · have hub2 := hub i (by omega)
        have hc2 : 97 ≤ u i ∧ u i ≤ 122 := of_decide_eq_true c
        have esg : sgn8 (u i) = u i := if_pos (by omega)
        dsimp only
        rw [p_gI hp, i_sb, p_gI hp, i_sb, tk_7, tk_o (by omega), h3, if_neg (by rw [zi_le (by omega) (by omega) (by omega) (by omega)]; omega), p_o2 hp, i_sb, i_sb, p_tp hp hu (by omega), i_sb, x_isL hu (by omega), i_bd, if_pos c, if_neg (show ¬ (zi 1 = (0 : Int32)) by decide), p_gI hp, i_sb, tk_8, i_jp]
        have fin : ∀ w : Int32, w = (if i - S < 6 then (zi (u (S + (i - S))) - 97 + 1) <<< (zi (25 - 5 * ((i - S : Nat) : Int)) &&& 31) else 0) → (pI (PX M s (tkR f 1 (zi (S : Int)) (zi (i : Int)) (pkXf u S (i - S))) hd Z) 4 2 8 (pkXf u S (i - S) ||| w)).bind (fun M41 => (gI M41 4 2 7).bind (fun v42 => (pI M41 4 2 7 (v42 + 1)).bind (fun M43 => (some (.inl (M43, zi (25 - 5 * ((i - S : Nat) : Int)) + (-5))) : Option ((MemT × Int32) ⊕ (MemT × Int32)))))) = some (.inl (PX M s (tkR f 1 (zi (S : Int)) (zi ((i + 1 : Nat) : Int)) (pkXf u S (i + 1 - S))) hd Z, zi (25 - 5 * ((i + 1 - S : Nat) : Int)))) := fun w hw => by
          rw [p_pI hp, i_sb, tk_u8, p_gI hp, i_sb, tk_7, p_pI hp, i_sb, tk_u7, show zi (i : Int) + 1 = zi ((i + 1 : Nat) : Int) from zi_add (i : Int) 1, show i + 1 - S = (i - S) + 1 by omega, hw]
          rw [show (-5 : Int32) = zi (-5) by decide, zi_add, show 25 - 5 * ((i - S : Nat) : Int) + -5 = 25 - 5 * (((i - S) + 1 : Nat) : Int) by omega]
          rfl
        have e0 : (zi (25 - 5 * ((i - S : Nat) : Int)) < (0 : Int32)) = (25 - 5 * ((i - S : Nat) : Int) < 0) := zi_lt (b := 0) (by omega) (by omega) (by omega) (by omega)
        by_cases d : i - S < 6
        · rw [if_neg (by rw [e0]; omega), p_o2 hp, i_sb, p_gI hp, i_sb, tk_7, p_tp hp hu (by omega), i_sb, esg]
          exact fin _ (by rw [if_pos d, show S + (i - S) = i by omega])
        · rw [if_pos (by rw [e0]; omega)]
          exact fin _ (by rw [if_neg d])
      · dsimp only
        rw [p_gI hp, i_sb, p_gI hp, i_sb, tk_7, tk_o (by omega), h3, if_neg (by rw [zi_le (by omega) (by omega) (by omega) (by omega)]; omega), p_o2 hp, i_sb, i_sb, p_tp hp hu (by omega), i_sb, x_isL hu (by omega), i_bd, if_neg (show ¬ (isLt (u i) = true) by rw [c]; decide)]
        rfl
      · dsimp only
        rw [p_gI hp, i_sb, p_gI hp, i_sb, tk_7, tk_o (by omega), h3, if_pos (Int32.le_refl _)]
    have dgt : ∀ S : Nat, S < len → isDg (u S) = true → loopF (fun (s : MemT) => (fun (M55 : MemT)  => (gI M55 4 2 7).bind (fun v57 => (gI M55 4 2 3).bind (fun v58 => (if v58 ≤ v57 then some (.inr M55) else (gO M55 4 2 2).bind (fun j59 => (gI M55 4 2 7).bind (fun v60 => (aI M55 11 j59 v60).bind (fun v61 => bd (g_X5_isDigit n M55 v61) (fun r62 M63 => (if r62 = 0 then some (.inr M63) else (gI M63 4 2 8).bind (fun v64 => (gO M63 4 2 2).bind (fun j65 => (gI M63 4 2 7).bind (fun v66 => (aI M63 11 j65 v66).bind (fun v67 => (pI M63 4 2 8 (if ((v64 * 10) + (v67 - 48)) < 1000000 then ((v64 * 10) + (v67 - 48)) else 1000000)).bind (fun M68 => (gI M68 4 2 7).bind (fun v69 => (pI M68 4 2 7 (v69 + 1)).bind (fun M70 => (some (.inl M70) : Option (MemT ⊕ MemT)))))))))))))))))) s) n (PX M s (tkR f 2 (zi (S : Int)) (zi (S : Int)) 0) hd Z) = some (PX M s (tkR f 2 (zi (S : Int)) (zi (scnF isDg u (len - S) S : Int)) (zi (nXf u S (scnF isDg u (len - S) S - S)))) hd Z) := fun S hS hc => by
      have key := scan_loop (step := fun (s : MemT) => (fun (M55 : MemT)  => (gI M55 4 2 7).bind (fun v57 => (gI M55 4 2 3).bind (fun v58 => (if v58 ≤ v57 then some (.inr M55) else (gO M55 4 2 2).bind (fun j59 => (gI M55 4 2 7).bind (fun v60 => (aI M55 11 j59 v60).bind (fun v61 => bd (g_X5_isDigit n M55 v61) (fun r62 M63 => (if r62 = 0 then some (.inr M63) else (gI M63 4 2 8).bind (fun v64 => (gO M63 4 2 2).bind (fun j65 => (gI M63 4 2 7).bind (fun v66 => (aI M63 11 j65 v66).bind (fun v67 => (pI M63 4 2 8 (if ((v64 * 10) + (v67 - 48)) < 1000000 then ((v64 * 10) + (v67 - 48)) else 1000000)).bind (fun M68 => (gI M68 4 2 7).bind (fun v69 => (pI M68 4 2 7 (v69 + 1)).bind (fun M70 => (some (.inl M70) : Option (MemT ⊕ MemT)))))))))))))))))) s) (fun i : Nat => PX M s (tkR f 2 (zi (S : Int)) (zi (i : Int)) (zi (nXf u S (i - S)))) hd Z) (fun i : Nat => PX M s (tkR f 2 (zi (S : Int)) (zi (i : Int)) (zi (nXf u S (i - S)))) hd Z) isDg u S len (fun i i0 i1 hj c => ?_) (fun i i0 i1 c => ?_) (fun i0 => ?_) (n := n) (by omega) (by omega)
      · dsimp only at key
        rw [Nat.sub_self] at key
        exact key
      · have hub2 := hub i (by omega)
        have hc2 : 48 ≤ u i ∧ u i ≤ 57 := of_decide_eq_true c
        have esg : sgn8 (u i) = u i := if_pos (by omega)
        have hnr : 0 ≤ nXf u S (i - S) ∧ nXf u S (i - S) ≤ 1000000 := nXf_r hub (i - S) (fun j q1 q2 => ⟨by omega, hj j q1 (by omega)⟩)
        dsimp only
        rw [p_gI hp, i_sb, p_gI hp, i_sb, tk_7, tk_o (by omega), h3, if_neg (by rw [zi_le (by omega) (by omega) (by omega) (by omega)]; omega), p_o2 hp, i_sb, i_sb, p_tp hp hu (by omega), i_sb, x_isD hu (by omega), i_bd, if_pos c, if_neg (show ¬ (zi 1 = (0 : Int32)) by decide), p_gI hp, i_sb, tk_8, p_o2 hp, i_sb, p_gI hp, i_sb, tk_7, p_tp hp hu (by omega), i_sb, esg]
        have ev : zi (nXf u S (i - S)) * 10 + (zi (u i) - 48) = zi (nXf u S (i - S) * 10 + (u i - 48)) := by
          show zi (nXf u S (i - S)) * zi 10 + (zi (u i) - zi 48) = _
          rw [zi_mul, zi_sub, zi_add]
        have el : (zi (nXf u S (i - S) * 10 + (u i - 48)) < (1000000 : Int32)) = (nXf u S (i - S) * 10 + (u i - 48) < 1000000) := zi_lt (b := 1000000) (by omega) (by omega) (by omega) (by omega)
        have e2 : (if zi (nXf u S (i - S) * 10 + (u i - 48)) < (1000000 : Int32) then zi (nXf u S (i - S) * 10 + (u i - 48)) else 1000000) = zi (nXf u S (i - S + 1)) := by
          show _ = zi (if nXf u S (i - S) * 10 + (u (S + (i - S)) - 48) < 1000000 then nXf u S (i - S) * 10 + (u (S + (i - S)) - 48) else 1000000)
          rw [show S + (i - S) = i by omega]
          by_cases d : nXf u S (i - S) * 10 + (u i - 48) < 1000000
          · rw [if_pos (by rw [el]; exact d), if_pos d]
          · rw [if_neg (by rw [el]; exact d), if_neg d]
            rfl
        rw [ev, e2, p_pI hp, i_sb, tk_u8, p_gI hp, i_sb, tk_7, p_pI hp, i_sb, tk_u7, show zi (i : Int) + 1 = zi ((i + 1 : Nat) : Int) from zi_add (i : Int) 1, show i + 1 - S = (i - S) + 1 by omega]
      · dsimp only
        rw [p_gI hp, i_sb, p_gI hp, i_sb, tk_7, tk_o (by omega), h3, if_neg (by rw [zi_le (by omega) (by omega) (by omega) (by omega)]; omega), p_o2 hp, i_sb, i_sb, p_tp hp hu (by omega), i_sb, x_isD hu (by omega), i_bd, if_neg (show ¬ (isDg (u i) = true) by rw [c]; decide)]
        rfl
      · dsimp only
        rw [p_gI hp, i_sb, p_gI hp, i_sb, tk_7, tk_o (by omega), h3, if_pos (Int32.le_refl _)]
    dsimp only at blk ltr dgt
    unfold g_X5_takeToken
    rw [p_gI hp, i_sb, tk_7, p_pI hp, i_sb, tk_u6, blk, i_sb]
    generalize hSt : scnF isBl u (len - p) p = S
    have hSt' : tkS u len p = S := hSt
    rw [hSt'] at s1 s2
    have elt : (zi (S : Int) < zi (len : Int)) = (S < len) := by
      rw [zi_lt (by omega) (by omega) (by omega) (by omega)]
      exact propext (by omega)
    dsimp only
    rw [p_gI hp, i_sb, tk_6, p_pI hp, i_sb, tk_u7, p_pI hp, i_sb, tk_u8, p_gI hp, i_sb, p_gI hp, i_sb, tk_6, tk_o (by omega), h3]
    unfold tkK tkV tkE
    rw [hSt']
    by_cases c0 : S = len
    · rw [if_neg (by rw [elt]; omega), if_pos c0, if_pos c0, if_pos c0, p_pI hp, i_sb, tk_u5, c0]
      rfl
    · rw [if_pos (by rw [elt]; omega), if_neg c0, if_neg c0, if_neg c0, p_o2 hp, i_sb, i_sb, p_tp hp hu (by omega), i_sb, x_isL hu (by omega), i_bd]
      by_cases c1 : isLt (u S) = true
      · rw [if_pos c1, if_neg (show ¬ (zi 1 = (0 : Int32)) by decide), p_pI hp, i_sb, tk_u5, ltr S (by omega) c1, i_sb, if_pos c1, if_pos c1, if_pos c1]
        rfl
      · rw [if_neg c1, if_pos (show zi 0 = (0 : Int32) from rfl), if_neg c1, if_neg c1, if_neg c1, p_o2 hp, i_sb, p_gI hp, i_sb, tk_6, p_tp hp hu (by omega), i_sb, x_isD hu (by omega), i_bd]
        by_cases c2 : isDg (u S) = true
        · rw [if_pos c2, if_neg (show ¬ (zi 1 = (0 : Int32)) by decide), p_pI hp, i_sb, tk_u5, dgt S (by omega) c2, i_sb, if_pos c2, if_pos c2, if_pos c2]
          rfl
        · rw [if_neg c2, if_pos (show zi 0 = (0 : Int32) from rfl), if_neg c2, if_neg c2, if_neg c2, p_o2 hp, i_sb, p_gI hp, i_sb, tk_6, p_tp hp hu (by omega), i_sb, i_jp]
          have e59 : (zi (sgn8 (u S)) = 59) = (u S = 59) := sgn8_eq (c := 59) (hub S (by omega)).1 (hub S (by omega)).2 (by omega) (by omega)
          by_cases c3 : u S = 59
          · rw [if_pos (by rw [e59]; exact c3), if_pos c3]
            show (pI (PX M s (tkR f k (zi (S : Int)) (zi (S : Int)) 0) hd Z) 4 2 5 3).bind _ = _
            rw [p_pI hp, i_sb, tk_u5, p_gI hp, i_sb, tk_7, p_pI hp, i_sb, tk_u7, show zi (S : Int) + 1 = zi ((S + 1 : Nat) : Int) from zi_add (S : Int) 1]
            rfl
          · rw [if_neg (by rw [e59]; exact c3), if_neg c3]
            show (pI (PX M s (tkR f k (zi (S : Int)) (zi (S : Int)) 0) hd Z) 4 2 5 4).bind _ = _
            rw [p_pI hp, i_sb, tk_u5, p_gI hp, i_sb, tk_7, p_pI hp, i_sb, tk_u7, show zi (S : Int) + 1 = zi ((S + 1 : Nat) : Int) from zi_add (S : Int) 1]
            rfl
  · have hub2 := hub i (by omega)
    dsimp only
    rw [p_gI hp, i_sb, p_gI hp, i_sb, tk_6, tk_o (by omega), h3, if_neg (by rw [zi_le (by omega) (by omega) (by omega) (by omega)]; omega), p_o2 hp, i_sb, i_sb, p_tp hp hu (by omega), i_sb, x_isB hu (by omega), i_bd, if_pos c, if_neg (show ¬ (zi 1 = (0 : Int32)) by decide), p_gI hp, i_sb, tk_6, p_pI hp, i_sb, tk_u6, show zi (i : Int) + 1 = zi ((i + 1 : Nat) : Int) from zi_add (i : Int) 1]
  · dsimp only
    rw [p_gI hp, i_sb, p_gI hp, i_sb, tk_6, tk_o (by omega), h3, if_neg (by rw [zi_le (by omega) (by omega) (by omega) (by omega)]; omega), p_o2 hp, i_sb, i_sb, p_tp hp hu (by omega), i_sb, x_isB hu (by omega), i_bd, if_neg (show ¬ (isBl (u i) = true) by rw [c]; decide)]
    rfl
  · dsimp only
    rw [p_gI hp, i_sb, p_gI hp, i_sb, tk_6, tk_o (by omega), h3, if_pos (Int32.le_refl _)]
end M21
