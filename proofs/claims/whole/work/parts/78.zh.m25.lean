/-! ===== PURE 80: lines of a text, as one function ===== -/
abbrev PSt := Int × (Int → Int) × (Int → Int) × (Int → Int) × (Int → Int) × (Int → Int) × (Nat → Bool)
def pb {α β : Type} (r : (Int × Nat) ⊕ α) (k : α → (Int × Nat) ⊕ β) : (Int × Nat) ⊕ β := match r with
  | .inl x => .inl x
  | .inr a => k a
def numV (u : Nat → Int) (len p : Nat) : Int := nXf u (tkS u len p) (tkE u len p - tkS u len p)
def numR (u : Nat → Int) (len p : Nat) (lo hi : Int) : (Int × Nat) ⊕ (Int × Nat) := if tkK u len p = 2 then (if lo ≤ numV u len p ∧ numV u len p ≤ hi then .inr (numV u len p, tkE u len p) else .inl (2, tkS u len p)) else .inl (1, tkS u len p)
def wdX (u : Nat → Int) (len p : Nat) : Option Nat := fnd (mtX u (tkS u len p) (tkE u len p)) 0 13
def nameR (u : Nat → Int) (len p : Nat) : (Int × Nat) ⊕ (Int32 × Nat × Nat) := if tkK u len p = 1 ∧ tkE u len p - tkS u len p ≤ 6 ∧ wdX u len p = none then .inr (tkV u len p, tkE u len p, tkS u len p) else .inl (1, tkS u len p)
def nmq (tr : Int → Int) (v : Int32) (t : Nat) : Bool := decide (zi (tr (8 * (t : Int))) = v)
def trdR (s : PSt) (u : Nat → Int) (len p : Nat) : (Int × Nat) ⊕ (Nat × Nat × Nat) := pb (nameR u len p) (fun x => match fnd (nmq s.2.2.1 x.1) 0 s.1.toNat with
  | some t => .inr (t, x.2.1, x.2.2)
  | none => .inl (4, x.2.2))
def addTr (s : PSt) (v : Int32) (m b : Int) : PSt := (s.1 + 1, s.2.1, fun k => if 8 * s.1 ≤ k ∧ k < 8 * s.1 + 8 then (if k = 8 * s.1 then v.toInt else if k = 8 * s.1 + 1 then m else if k = 8 * s.1 + 2 then b else 0) else s.2.2.1 k, s.2.2.2)
def setHead (s : PSt) (t : Nat) (o a : Int) : PSt := (s.1, s.2.1, upZ (upZ (upZ s.2.2.1 (8 * t + 3) 1) (8 * t + 4) o) (8 * t + 5) a, s.2.2.2)
def setStart (s : PSt) (t : Nat) (v : Int) : PSt := (s.1, s.2.1, upZ (upZ s.2.2.1 (8 * t + 6) 1) (8 * t + 7) v, s.2.2.2)
def setW (s : PSt) (j v : Int) (k : Nat) : PSt := (s.1, upZ s.2.1 j v, s.2.2.1, s.2.2.2.1, s.2.2.2.2.1, s.2.2.2.2.2.1, fun i => if i = k then true else s.2.2.2.2.2.2 i)
def row4 (r : Int → Int) (p a b c d : Int) : Int → Int := upZ (upZ (upZ (upZ r p a) (p + 1) b) (p + 2) c) (p + 3) d
def addSl (s : PSt) (t : Nat) (q w x : Int) : PSt := (s.1, upZ s.2.1 4 (s.2.1 4 + 1), s.2.2.1, row4 s.2.2.2.1 (4 * s.2.1 4) t q w x, s.2.2.2.2)
def addBu (s : PSt) (t : Nat) (q w x : Int) : PSt := (s.1, upZ s.2.1 5 (s.2.1 5 + 1), s.2.2.1, s.2.2.2.1, row4 s.2.2.2.2.1 (4 * s.2.1 5) t q w x, s.2.2.2.2.2)
def addAs (s : PSt) (t : Nat) (q w x y : Int) : PSt := (s.1, upZ s.2.1 6 (s.2.1 6 + 1), s.2.2.1, s.2.2.2.1, s.2.2.2.2.1, upZ (row4 s.2.2.2.2.2.1 (5 * s.2.1 6) t q w x) (5 * s.2.1 6 + 4) y, s.2.2.2.2.2.2)
def dealR (s : PSt) (u : Nat → Int) (len p : Nat) (kinds : Int) : (Int × Nat) ⊕ ((Nat × Int × Int) × Nat) := pb (trdR s u len p) (fun x => pb (numR u len x.2.1 0 63) (fun q => pb (numR u len q.2 0 kinds) (fun w => .inr ((x.1, q.1, w.1), w.2))))
def lnTr (s : PSt) (u : Nat → Int) (len S0 p : Nat) : (Int × Nat) ⊕ (PSt × Nat) := if 4 ≤ s.1 then .inl (2, S0) else pb (nameR u len p) (fun x => match fnd (nmq s.2.2.1 x.1) 0 s.1.toNat with
  | some _ => .inl (3, x.2.2)
  | none => pb (numR u len x.2.1 0 2) (fun m => pb (numR u len m.2 0 1) (fun b => .inr (addTr s x.1 m.1 b.1, b.2))))
def lnHd (s : PSt) (u : Nat → Int) (len p : Nat) : (Int × Nat) ⊕ (PSt × Nat) := pb (trdR s u len p) (fun x => if s.2.2.1 (8 * x.1 + 3) = 1 then .inl (3, x.2.2) else pb (numR u len x.2.1 0 999) (fun o => pb (numR u len o.2 o.1 999) (fun a => .inr (setHead s x.1 o.1 a.1, a.2))))
def lnSt (s : PSt) (u : Nat → Int) (len p : Nat) : (Int × Nat) ⊕ (PSt × Nat) := pb (trdR s u len p) (fun x => if s.2.2.1 (8 * x.1 + 6) = 1 then .inl (3, x.2.2) else pb (numR u len x.2.1 0 1000) (fun v => .inr (setStart s x.1 v.1, v.2)))
def lnRd (s : PSt) (u : Nat → Int) (len S0 p : Nat) : (Int × Nat) ⊕ (PSt × Nat) := if s.2.2.2.2.2.2 3 = true then .inl (3, S0) else if tkK u len p = 1 ∧ (wdX u len p = some 10 ∨ wdX u len p = some 11 ∨ wdX u len p = some 12) then .inr (setW s 0 (if wdX u len p = some 10 then 0 else if wdX u len p = some 11 then 1 else 2) 3, tkE u len p) else .inl (1, tkS u len p)
def lnNm (s : PSt) (u : Nat → Int) (len S0 p k : Nat) (lo hi : Int) : (Int × Nat) ⊕ (PSt × Nat) := if s.2.2.2.2.2.2 k = true then .inl (3, S0) else pb (numR u len p lo hi) (fun v => .inr (setW s ((k : Int) - 3) v.1 k, v.2))
def lnSl (s : PSt) (u : Nat → Int) (len S0 p : Nat) : (Int × Nat) ⊕ (PSt × Nat) := if 12 ≤ s.2.1 4 then .inl (2, S0) else pb (dealR s u len p 1) (fun d => pb (numR u len d.2 1 99999) (fun x => .inr (addSl s d.1.1 d.1.2.1 d.1.2.2 x.1, x.2)))
def lnBu (s : PSt) (u : Nat → Int) (len S0 p : Nat) : (Int × Nat) ⊕ (PSt × Nat) := if 12 ≤ s.2.1 5 then .inl (2, S0) else pb (dealR s u len p 2) (fun d => pb (numR u len d.2 1 9999) (fun x => .inr (addBu s d.1.1 d.1.2.1 d.1.2.2 x.1, x.2)))
def lnAs (s : PSt) (u : Nat → Int) (len S0 p : Nat) : (Int × Nat) ⊕ (PSt × Nat) := if 4 ≤ s.2.1 6 then .inl (2, S0) else pb (dealR s u len p 2) (fun d => pb (numR u len d.2 1 9999) (fun x => pb (numR u len x.2 0 10) (fun y => if y.1 = 5 ∨ y.1 = 10 then .inr (addAs s d.1.1 d.1.2.1 d.1.2.2 x.1 y.1, y.2) else .inl (2, tkS u len x.2))))
def lnR (s : PSt) (u : Nat → Int) (len k S0 p : Nat) : (Int × Nat) ⊕ (PSt × Nat) := if k = 0 then lnTr s u len S0 p else if k = 1 then lnHd s u len p else if k = 2 then lnSt s u len p else if k = 3 then lnRd s u len S0 p else if k = 4 then lnNm s u len S0 p 4 10 1000 else if k = 5 then lnNm s u len S0 p 5 0 9999 else if k = 6 then lnNm s u len S0 p 6 0 99999 else if k = 7 then lnSl s u len S0 p else if k = 8 then lnBu s u len S0 p else if k = 9 then lnAs s u len S0 p else .inl (1, S0)
def lineR (s : PSt) (u : Nat → Int) (len p : Nat) : (Int × Nat) ⊕ (PSt × Nat) := if tkK u len p = 1 then (match wdX u len p with
  | some k => pb (lnR s u len k (tkS u len p) (tkE u len p)) (fun y => if tkK u len y.2 = 3 then .inr (y.1, tkE u len y.2) else .inl (1, tkS u len y.2))
  | none => .inl (1, tkS u len p)) else .inl (1, tkS u len p)
def txR (u : Nat → Int) (len : Nat) : Nat → Nat → PSt → Nat → (Int × Nat) ⊕ (PSt × Nat)
  | 0, _, _, _ => .inl (0, 0)
  | m + 1, c, s, p => if tkK u len p = 0 then .inr (s, c) else pb (lineR s u len p) (fun y => txR u len m (c + 1) y.1 y.2)
section M25
variable {M : MemT} {s : Nat} {f hd : Nat → Int32} {Z : Nat → Nat → Int32} {u : Nat → Int} {n len p : Nat} {k st e v w : Int32}
theorem x_fail (hp : PSh M s) : g_X5_fail n (PX M s f hd Z) 2 v w = some (zi 0, PX M s (up1 (up1 f 0 v) 1 w) hd Z) := by
  unfold g_X5_fail
  rw [p_pI hp, i_sb, p_pI hp, i_sb]
  exact rz_0
theorem tkK_r : 0 ≤ tkK u len p ∧ tkK u len p ≤ 4 := by
  unfold tkK
  split
  · omega
  · split
    · omega
    · split
      · omega
      · split <;> omega
theorem x_room (hp : PSh M s) {a b : Int} (ha : 0 ≤ a ∧ a ≤ 100) (hb : 0 ≤ b ∧ b ≤ 100) : g_X5_isRoom n (PX M s f hd Z) 2 (zi a) (zi b) = if a < b then some (zi 1, PX M s f hd Z) else some (zi 0, PX M s (up1 (up1 f 0 2) 1 (f 6)) hd Z) := by
  have e : (zi a < zi b) = (a < b) := zi_lt (by omega) (by omega) (by omega) (by omega)
  unfold g_X5_isRoom
  by_cases c : a < b
  · rw [if_pos (by rw [e]; exact c), if_pos c]; exact rz_1
  · rw [if_neg (by rw [e]; exact c), if_neg c, p_gI hp, i_sb, p_k hp, x_fail hp, i_bd, if_pos (show zi 0 = (0 : Int32) from rfl)]; exact rz_0
theorem x_new (hp : PSh M s) {q : Prop} [Decidable q] : g_X5_isNew n (PX M s f hd Z) 2 (if q then 1 else 0) = if q then some (zi 1, PX M s f hd Z) else some (zi 0, PX M s (up1 (up1 f 0 3) 1 (f 6)) hd Z) := by
  unfold g_X5_isNew
  by_cases c : q
  · rw [if_pos c, if_pos c, if_neg (by decide)]; exact rz_1
  · rw [if_neg c, if_neg c, if_pos rfl, p_gI hp, i_sb, p_k hp, x_fail hp, i_bd, if_pos (show zi 0 = (0 : Int32) from rfl)]; exact rz_0
theorem x_num (hp : PSh M s) (hu : XT M u) (h3 : f 3 = zi (len : Int)) (hl : len ≤ 700) (hpl : p ≤ len) (hn : 1000 < n) {lo hi : Int} (h0 : 0 ≤ lo ∧ lo ≤ 1000000) (h1 : 0 ≤ hi ∧ hi ≤ 1000000) : (∃ c f', numR u len p lo hi = .inl (c, tkS u len p) ∧ g_X5_takeNumber n (PX M s (tkR f k st (zi (p : Int)) v) hd Z) 2 (zi lo) (zi hi) = some (zi 0, PX M s f' hd Z) ∧ f' 0 = zi c ∧ f' 1 = zi (tkS u len p : Int)) ∨ (numR u len p lo hi = .inr (numV u len p, tkE u len p) ∧ (lo ≤ numV u len p ∧ numV u len p ≤ hi) ∧ g_X5_takeNumber n (PX M s (tkR f k st (zi (p : Int)) v) hd Z) 2 (zi lo) (zi hi) = some (zi 1, PX M s (tkR f 2 (zi (tkS u len p : Int)) (zi (tkE u len p : Int)) (zi (numV u len p))) hd Z)) := by
  obtain ⟨s1, s2⟩ := tkS_r (u := u) hpl
  obtain ⟨e1, e2⟩ := tkE_r (u := u) hpl
  have hKr := tkK_r (u := u) (len := len) (p := p)
  have e2' : (zi (tkK u len p) = (2 : Int32)) = (tkK u len p = 2) := zi_eq (b := 2) (by omega) (by omega) (by omega) (by omega)
  by_cases c : tkK u len p = 2
  · have hV : tkV u len p = zi (numV u len p) := by
      unfold tkK at c
      unfold tkV numV
      by_cases d0 : tkS u len p = len
      · rw [if_pos d0] at c; omega
      · rw [if_neg d0] at c ⊢
        by_cases d1 : isLt (u (tkS u len p)) = true
        · rw [if_pos d1] at c; omega
        · rw [if_neg d1] at c ⊢
          by_cases d2 : isDg (u (tkS u len p)) = true
          · rw [if_pos d2]
          · rw [if_neg d2] at c
            split at c <;> omega
    have hVr : 0 ≤ numV u len p ∧ numV u len p ≤ 1000000 := by
      unfold tkK at c
      unfold numV
      by_cases d0 : tkS u len p = len
      · rw [if_pos d0] at c; omega
      · rw [if_neg d0] at c
        by_cases d1 : isLt (u (tkS u len p)) = true
        · rw [if_pos d1] at c; omega
        · rw [if_neg d1] at c
          by_cases d2 : isDg (u (tkS u len p)) = true
          · have hE : tkE u len p = scnF isDg u (len - tkS u len p) (tkS u len p) := by unfold tkE; rw [if_neg d0, if_neg d1, if_pos d2]
            have hs := (scnF_r (p := isDg) (u := u) (len - tkS u len p) (tkS u len p)).2.2.2
            exact nXf_r (fun k hk => (hu k hk).2) _ (fun i q1 q2 => ⟨by omega, hs i q1 (by omega)⟩)
          · rw [if_neg d2] at c
            split at c <;> omega
    by_cases d : lo ≤ numV u len p ∧ numV u len p ≤ hi
    · refine Or.inr ⟨by unfold numR; rw [if_pos c, if_pos d], d, ?_⟩
      unfold g_X5_takeNumber
      rw [p_k hp, x_tok hp hu h3 hl hpl hn, i_bd, p_gI hp, i_sb, tk_5, if_pos (by rw [e2']; exact c), p_gI hp, i_sb, tk_8, hV, x_isIn2 (by omega) (by omega) (by omega) (by omega) (by omega) (by omega), i_bd, if_neg (bz_t d), c]
      exact rz_1
    · refine Or.inl ⟨2, up1 (up1 (tkR f (zi (tkK u len p)) (zi (tkS u len p : Int)) (zi (tkE u len p : Int)) (zi (numV u len p))) 0 2) 1 (zi (tkS u len p : Int)), by unfold numR; rw [if_pos c, if_neg d], ?_, rfl, rfl⟩
      · unfold g_X5_takeNumber
        rw [p_k hp, x_tok hp hu h3 hl hpl hn, i_bd, p_gI hp, i_sb, tk_5, if_pos (by rw [e2']; exact c), p_gI hp, i_sb, tk_8, hV, x_isIn2 (by omega) (by omega) (by omega) (by omega) (by omega) (by omega), i_bd, if_pos (bz_f d), p_gI hp, i_sb, tk_6, p_k hp, x_fail hp, i_bd, if_pos (show zi 0 = (0 : Int32) from rfl)]
        exact rz_0
  · refine Or.inl ⟨1, up1 (up1 (tkR f (zi (tkK u len p)) (zi (tkS u len p : Int)) (zi (tkE u len p : Int)) (tkV u len p)) 0 1) 1 (zi (tkS u len p : Int)), by unfold numR; rw [if_neg c], ?_, rfl, rfl⟩
    · unfold g_X5_takeNumber
      rw [p_k hp, x_tok hp hu h3 hl hpl hn, i_bd, p_gI hp, i_sb, tk_5, if_neg (by rw [e2']; exact c), p_gI hp, i_sb, tk_6, p_k hp, x_fail hp, i_bd]
      exact rz_0
theorem x_name (hp : PSh M s) (hu : XT M u) (h3 : f 3 = zi (len : Int)) (hl : len ≤ 700) (hpl : p ≤ len) (hn : 1000 < n) : (∃ c f', nameR u len p = .inl (c, tkS u len p) ∧ g_X5_takeName n (PX M s (tkR f k st (zi (p : Int)) v) hd Z) 2 = some (zi 0, PX M s f' hd Z) ∧ f' 0 = zi c ∧ f' 1 = zi (tkS u len p : Int)) ∨ (nameR u len p = .inr (tkV u len p, tkE u len p, tkS u len p) ∧ g_X5_takeName n (PX M s (tkR f k st (zi (p : Int)) v) hd Z) 2 = some (zi 1, PX M s (tkR f 1 (zi (tkS u len p : Int)) (zi (tkE u len p : Int)) (tkV u len p)) hd Z)) := by
  obtain ⟨s1, s2⟩ := tkS_r (u := u) hpl
  obtain ⟨e1, e2⟩ := tkE_r (u := u) hpl
  have hKr := tkK_r (u := u) (len := len) (p := p)
  have e1' : (zi (tkK u len p) = (1 : Int32)) = (tkK u len p = 1) := zi_eq (b := 1) (by omega) (by omega) (by omega) (by omega)
  have e6' : ((6 : Int32) < zi ((tkE u len p : Int) - (tkS u len p : Int))) = (6 < (tkE u len p : Int) - (tkS u len p : Int)) := zi_lt (a := 6) (by omega) (by omega) (by omega) (by omega)
  have fl : (gI (PX M s (tkR f (zi (tkK u len p)) (zi (tkS u len p : Int)) (zi (tkE u len p : Int)) (tkV u len p)) hd Z) 4 2 6).bind (fun v6 => chk (PX M s (tkR f (zi (tkK u len p)) (zi (tkS u len p : Int)) (zi (tkE u len p : Int)) (tkV u len p)) hd Z) 4 2 (bd (g_X5_fail n (PX M s (tkR f (zi (tkK u len p)) (zi (tkS u len p : Int)) (zi (tkE u len p : Int)) (tkV u len p)) hd Z) 2 1 v6) (fun r7 M8 => rz r7 M8))) = some (zi 0, PX M s (up1 (up1 (tkR f (zi (tkK u len p)) (zi (tkS u len p : Int)) (zi (tkE u len p : Int)) (tkV u len p)) 0 1) 1 (zi (tkS u len p : Int))) hd Z) := by
    rw [p_gI hp, i_sb, tk_6, p_k hp, x_fail hp, i_bd]
    exact rz_0
  have hw : wdX u len p = fnd (mtX u (tkS u len p) (tkE u len p)) 0 13 := rfl
  have no : ¬ (tkK u len p = 1 ∧ tkE u len p - tkS u len p ≤ 6 ∧ wdX u len p = none) → nameR u len p = .inl (1, tkS u len p) := fun q => by
    unfold nameR
    rw [if_neg q]
  by_cases c : tkK u len p = 1
  · by_cases d : tkE u len p - tkS u len p ≤ 6
    · cases hf : fnd (mtX u (tkS u len p) (tkE u len p)) 0 13 with
      | none =>
        rw [hf] at hw
        refine Or.inr ⟨by unfold nameR; rw [if_pos ⟨c, d, hw⟩], ?_⟩
        unfold g_X5_takeName
        rw [p_k hp, x_tok hp hu h3 hl hpl hn, i_bd, p_gI hp, i_sb, tk_5, i_jp, if_pos (by rw [e1']; exact c), p_gI hp, i_sb, p_gI hp, i_sb, tk_7, tk_6, zi_sub, if_neg (by rw [e6']; omega), p_o2 hp, i_sb, i_sb, i_sb, x_at hp hu e1 (by omega) (by omega), i_bd, hf, c]
        exact rz_1
      | some j =>
        rw [hf] at hw
        refine Or.inl ⟨1, up1 (up1 (tkR f (zi (tkK u len p)) (zi (tkS u len p : Int)) (zi (tkE u len p : Int)) (tkV u len p)) 0 1) 1 (zi (tkS u len p : Int)), no (fun q => by rw [hw] at q; exact absurd q.2.2 (by simp)), ?_, rfl, rfl⟩
        · unfold g_X5_takeName
          rw [p_k hp, x_tok hp hu h3 hl hpl hn, i_bd, p_gI hp, i_sb, tk_5, i_jp, if_pos (by rw [e1']; exact c), p_gI hp, i_sb, p_gI hp, i_sb, tk_7, tk_6, zi_sub, if_neg (by rw [e6']; omega), p_o2 hp, i_sb, i_sb, i_sb, x_at hp hu e1 (by omega) (by omega), i_bd, hf]
          exact fl
    · refine Or.inl ⟨1, up1 (up1 (tkR f (zi (tkK u len p)) (zi (tkS u len p : Int)) (zi (tkE u len p : Int)) (tkV u len p)) 0 1) 1 (zi (tkS u len p : Int)), no (fun q => d q.2.1), ?_, rfl, rfl⟩
      · unfold g_X5_takeName
        rw [p_k hp, x_tok hp hu h3 hl hpl hn, i_bd, p_gI hp, i_sb, tk_5, i_jp, if_pos (by rw [e1']; exact c), p_gI hp, i_sb, p_gI hp, i_sb, tk_7, tk_6, zi_sub, if_pos (by rw [e6']; omega)]
        exact fl
  · refine Or.inl ⟨1, up1 (up1 (tkR f (zi (tkK u len p)) (zi (tkS u len p : Int)) (zi (tkE u len p : Int)) (tkV u len p)) 0 1) 1 (zi (tkS u len p : Int)), no (fun q => c q.1), ?_, rfl, rfl⟩
    · unfold g_X5_takeName
      rw [p_k hp, x_tok hp hu h3 hl hpl hn, i_bd, p_gI hp, i_sb, tk_5, i_jp, if_neg (by rw [e1']; exact c)]
      exact fl
end M25
