/-! ===== PURE 81: the component's reader: rules, names ===== -/
/-- what the rules' rows hold, by what a text tells -/
def RZ (Z : Nat → Nat → Int32) (nt : Int) (T tr sl bu as : Int → Int) : Prop :=
  (Z 0 0 = zi nt ∧ Z 0 7 = zi (T 0) ∧ Z 0 8 = zi (T 1) ∧ Z 0 9 = zi (T 2) ∧ Z 0 10 = zi (T 3) ∧ Z 0 11 = zi (T 4) ∧ Z 0 12 = zi (T 5) ∧ Z 0 14 = zi (T 6)) ∧
  (∀ t : Int, 0 ≤ t → t < nt → Z 1 t.toNat = zi (tr (8 * t)) ∧ Z 2 t.toNat = zi (tr (8 * t + 1)) ∧ Z 3 t.toNat = zi (tr (8 * t + 2)) ∧ Z 4 t.toNat = zi (if tr (8 * t + 6) = 1 then tr (8 * t + 7) else -2) ∧ Z 5 t.toNat = zi (tr (8 * t + 4)) ∧ Z 6 t.toNat = zi (tr (8 * t + 5))) ∧
  (∃ cs : Nat → Int, cs 0 = 0 ∧ cs (T 4 + T 5).toNat = T 4 ∧ ∀ i : Nat, (i : Int) < T 4 + T 5 →
    (0 ≤ cs i ∧ cs i ≤ T 4 ∧ 0 ≤ i - cs i ∧ i - cs i ≤ T 5) ∧
    ((cs (i + 1) = cs i + 1 ∧ cs i < T 4 ∧ Z 7 (4 * i) = zi (sl (4 * cs i)) ∧ Z 7 (4 * i + 1) = zi (sl (4 * cs i + 1)) ∧ Z 7 (4 * i + 2) = zi (sl (4 * cs i + 2)) ∧ Z 7 (4 * i + 3) = zi (sl (4 * cs i + 3))) ∨
     (cs (i + 1) = cs i ∧ i - cs i < T 5 ∧ Z 7 (4 * i) = zi (bu (4 * (i - cs i))) ∧ Z 7 (4 * i + 1) = zi (bu (4 * (i - cs i) + 1)) ∧ Z 7 (4 * i + 2) = zi (2 + bu (4 * (i - cs i) + 2)) ∧ Z 7 (4 * i + 3) = zi (bu (4 * (i - cs i) + 3))))) ∧
  (∀ k : Int, 0 ≤ k → k < 5 * T 6 → Z 8 k.toNat = zi (as k))
theorem RZ_RU {M : MemT} {r : Nat} {Z : Nat → Nat → Int32} {nt : Int} {T tr sl bu as : Int → Int} (h : RZ Z nt T tr sl bu as) (e : ∀ o, o < 9 → mI M (r + o) = Z o) : RU M r nt T tr sl bu as := by
  have e0 := e 0 (by omega)
  rw [Nat.add_zero] at e0
  unfold RU
  rw [e0, e 1 (by omega), e 2 (by omega), e 3 (by omega), e 4 (by omega), e 5 (by omega), e 6 (by omega), e 7 (by omega), e 8 (by omega)]
  exact h
def bW (b : Bool) : Int32 := if b then 1 else 0
def RXs (f hd : Nat → Int32) (Z : Nat → Nat → Int32) (s : PSt) : Prop := RZ Z s.1 s.2.1 s.2.2.1 s.2.2.2.1 s.2.2.2.2.1 s.2.2.2.2.2.1 ∧ (∀ t : Int, 0 ≤ t → t < s.1 → hd t.toNat = zi (s.2.2.1 (8 * t + 3))) ∧ (f 13 = bW (s.2.2.2.2.2.2 3) ∧ f 14 = bW (s.2.2.2.2.2.2 4) ∧ f 15 = bW (s.2.2.2.2.2.2 5) ∧ f 16 = bW (s.2.2.2.2.2.2 6) ∧ f 0 = zi 0 ∧ f 1 = zi (-1))
/-- a trader's row -/
def trW (tr : Int → Int) (t : Int) : Prop := (0 ≤ tr (8 * t + 1) ∧ tr (8 * t + 1) ≤ 2) ∧ (0 ≤ tr (8 * t + 2) ∧ tr (8 * t + 2) ≤ 1) ∧ (tr (8 * t + 3) = 0 ∨ tr (8 * t + 3) = 1) ∧ (0 ≤ tr (8 * t + 4) ∧ tr (8 * t + 4) ≤ tr (8 * t + 5) ∧ tr (8 * t + 5) ≤ 999) ∧ (tr (8 * t + 6) = 0 ∨ tr (8 * t + 6) = 1) ∧ (0 ≤ tr (8 * t + 7) ∧ tr (8 * t + 7) ≤ 1000)
def ROk (s : PSt) : Prop := (0 ≤ s.1 ∧ s.1 ≤ 4) ∧ told3 s.2.1 ∧ (0 ≤ s.2.1 3 ∧ s.2.1 3 ≤ 99999) ∧ (∀ t : Int, 0 ≤ t → t < s.1 → trW s.2.2.1 t) ∧ RowsOk s.2.1 s.2.2.2.1 s.2.2.2.2.1 s.2.2.2.2.2.1 ∧ RowsNt s.2.1 s.2.2.2.2.2.1 s.1
section M26
variable {M : MemT} {s : Nat} {f hd : Nat → Int32} {Z : Nat → Nat → Int32} {u : Nat → Int} {n len p : Nat} {k st e v w : Int32} {g : PSt}
theorem p_kR {β : Type} {x : Option β} (hp : PSh M s) : chk (PX M s f hd Z) 6 s x = x := i_chk hp.2.2.2.1.1
theorem p_IR {o j : Nat} (hp : PSh M s) (ho : o < 9) : mI (PX M s f hd Z) (s + o) j = Z o j := by
  have hs := hp.2.2.2.2
  show (if s + o = 2 then f j else if s + o = 3 then hd j else if s ≤ s + o ∧ s + o < s + 9 then Z (s + o - s) j else mI M (s + o) j) = _
  rw [if_neg (by omega), if_neg (by omega), if_pos (by omega), Nat.add_sub_cancel_left]
theorem p_gR (hp : PSh M s) {j : Nat} : gI (PX M s f hd Z) 6 s j = some (Z 0 j) := by
  rw [i_gI (M := PX M s f hd Z) hp.2.2.2.1.1]
  exact congrArg some (p_IR (o := 0) hp (by omega))
theorem p_setR {o j : Nat} (hp : PSh M s) (ho : o < 9) : sI (PX M s f hd Z) (s + o) j v = PX M s f hd (up2 Z o j v) := by
  have hs := hp.2.2.2.2
  unfold PX sI
  refine Prod.ext rfl (Prod.ext rfl (Prod.ext rfl (Prod.ext rfl (Prod.ext ?_ rfl))))
  funext x i
  show (if x = s + o ∧ i = j then v else if x = 2 then f i else if x = 3 then hd i else if s ≤ x ∧ x < s + 9 then Z (x - s) i else M.2.2.2.2.1 x i) = (if x = 2 then f i else if x = 3 then hd i else if s ≤ x ∧ x < s + 9 then (if x - s = o ∧ i = j then v else Z (x - s) i) else M.2.2.2.2.1 x i)
  by_cases c : x = s + o ∧ i = j
  · rw [if_pos c, if_neg (by omega), if_neg (by omega), if_pos (by omega), if_pos (by omega)]
  · rw [if_neg c]
    by_cases c2 : x = 2
    · rw [if_pos c2, if_pos c2]
    · rw [if_neg c2, if_neg c2]
      by_cases c3 : x = 3
      · rw [if_pos c3, if_pos c3]
      · rw [if_neg c3, if_neg c3]
        by_cases c4 : s ≤ x ∧ x < s + 9
        · rw [if_pos c4, if_pos c4, if_neg (by omega)]
        · rw [if_neg c4, if_neg c4]
theorem p_pR (hp : PSh M s) {j : Nat} : pI (PX M s f hd Z) 6 s j v = some (PX M s f hd (up2 Z 0 j v)) := by
  rw [i_pI (M := PX M s f hd Z) hp.2.2.2.1.1]
  exact congrArg some (p_setR (o := 0) hp (by omega))
theorem p_rA (hp : PSh M s) {o N : Nat} {i : Int} (ho : o < 9) (hk : mK M (s + o) = 10) (hl : mL M (s + o) = N) (h0 : 0 ≤ i) (h1 : i < N) (hN : N ≤ 100) : aI (PX M s f hd Z) 10 (s + o) (zi i) = some (Z o i.toNat) := by
  rw [i_aI (M := PX M s f hd Z) (N := (N : Int)) hk (by show (mL M (s + o) : Int) = N; rw [hl]) h0 h1 (by omega), p_IR hp ho]
theorem p_rW (hp : PSh M s) {o N : Nat} {i : Int} (ho : o < 9) (hk : mK M (s + o) = 10) (hl : mL M (s + o) = N) (h0 : 0 ≤ i) (h1 : i < N) (hN : N ≤ 100) : wI (PX M s f hd Z) (s + o) (zi i) v = some (PX M s f hd (up2 Z o i.toNat v)) := by
  rw [i_wI (M := PX M s f hd Z) (N := (N : Int)) hk (by show (mL M (s + o) : Int) = N; rw [hl]) h0 h1 (by omega), p_setR hp ho]
theorem p_r1 (hp : PSh M s) : gO (PX M s f hd Z) 6 s 1 = some (s + 1) := i_gO hp.2.2.2.1.1 hp.2.2.2.1.2.1.1
theorem p_r2 (hp : PSh M s) : gO (PX M s f hd Z) 6 s 2 = some (s + 2) := i_gO hp.2.2.2.1.1 hp.2.2.2.1.2.1.2.1
theorem p_r3 (hp : PSh M s) : gO (PX M s f hd Z) 6 s 3 = some (s + 3) := i_gO hp.2.2.2.1.1 hp.2.2.2.1.2.1.2.2.1
theorem p_r4 (hp : PSh M s) : gO (PX M s f hd Z) 6 s 4 = some (s + 4) := i_gO hp.2.2.2.1.1 hp.2.2.2.1.2.1.2.2.2.1
theorem p_r5 (hp : PSh M s) : gO (PX M s f hd Z) 6 s 5 = some (s + 5) := i_gO hp.2.2.2.1.1 hp.2.2.2.1.2.1.2.2.2.2.1
theorem p_r6 (hp : PSh M s) : gO (PX M s f hd Z) 6 s 6 = some (s + 6) := i_gO hp.2.2.2.1.1 hp.2.2.2.1.2.1.2.2.2.2.2.1
theorem p_r13 (hp : PSh M s) : gO (PX M s f hd Z) 6 s 13 = some (s + 7) := i_gO hp.2.2.2.1.1 hp.2.2.2.1.2.1.2.2.2.2.2.2.1
theorem p_r15 (hp : PSh M s) : gO (PX M s f hd Z) 6 s 15 = some (s + 8) := i_gO hp.2.2.2.1.1 hp.2.2.2.1.2.1.2.2.2.2.2.2.2
theorem p_a1 (hp : PSh M s) {i : Int} (h0 : 0 ≤ i) (h1 : i < 4) : aI (PX M s f hd Z) 10 (s + 1) (zi i) = some (Z 1 i.toNat) := p_rA hp (by omega) hp.2.2.2.1.2.2.1.1 hp.2.2.2.1.2.2.2.1 h0 h1 (by omega)
theorem p_a4 (hp : PSh M s) {i : Int} (h0 : 0 ≤ i) (h1 : i < 4) : aI (PX M s f hd Z) 10 (s + 4) (zi i) = some (Z 4 i.toNat) := p_rA hp (by omega) hp.2.2.2.1.2.2.1.2.2.2.1 hp.2.2.2.1.2.2.2.2.2.2.1 h0 h1 (by omega)
theorem p_w1 (hp : PSh M s) {i : Int} (h0 : 0 ≤ i) (h1 : i < 4) : wI (PX M s f hd Z) (s + 1) (zi i) v = some (PX M s f hd (up2 Z 1 i.toNat v)) := p_rW hp (by omega) hp.2.2.2.1.2.2.1.1 hp.2.2.2.1.2.2.2.1 h0 h1 (by omega)
theorem p_w2 (hp : PSh M s) {i : Int} (h0 : 0 ≤ i) (h1 : i < 4) : wI (PX M s f hd Z) (s + 2) (zi i) v = some (PX M s f hd (up2 Z 2 i.toNat v)) := p_rW hp (by omega) hp.2.2.2.1.2.2.1.2.1 hp.2.2.2.1.2.2.2.2.1 h0 h1 (by omega)
theorem p_w3 (hp : PSh M s) {i : Int} (h0 : 0 ≤ i) (h1 : i < 4) : wI (PX M s f hd Z) (s + 3) (zi i) v = some (PX M s f hd (up2 Z 3 i.toNat v)) := p_rW hp (by omega) hp.2.2.2.1.2.2.1.2.2.1 hp.2.2.2.1.2.2.2.2.2.1 h0 h1 (by omega)
theorem p_w4 (hp : PSh M s) {i : Int} (h0 : 0 ≤ i) (h1 : i < 4) : wI (PX M s f hd Z) (s + 4) (zi i) v = some (PX M s f hd (up2 Z 4 i.toNat v)) := p_rW hp (by omega) hp.2.2.2.1.2.2.1.2.2.2.1 hp.2.2.2.1.2.2.2.2.2.2.1 h0 h1 (by omega)
theorem p_w5 (hp : PSh M s) {i : Int} (h0 : 0 ≤ i) (h1 : i < 4) : wI (PX M s f hd Z) (s + 5) (zi i) v = some (PX M s f hd (up2 Z 5 i.toNat v)) := p_rW hp (by omega) hp.2.2.2.1.2.2.1.2.2.2.2.1 hp.2.2.2.1.2.2.2.2.2.2.2.1 h0 h1 (by omega)
theorem p_w6 (hp : PSh M s) {i : Int} (h0 : 0 ≤ i) (h1 : i < 4) : wI (PX M s f hd Z) (s + 6) (zi i) v = some (PX M s f hd (up2 Z 6 i.toNat v)) := p_rW hp (by omega) hp.2.2.2.1.2.2.1.2.2.2.2.2.1 hp.2.2.2.1.2.2.2.2.2.2.2.2.1 h0 h1 (by omega)
theorem p_w7 (hp : PSh M s) {i : Int} (h0 : 0 ≤ i) (h1 : i < 96) : wI (PX M s f hd Z) (s + 7) (zi i) v = some (PX M s f hd (up2 Z 7 i.toNat v)) := p_rW hp (by omega) hp.2.2.2.1.2.2.1.2.2.2.2.2.2.1 hp.2.2.2.1.2.2.2.2.2.2.2.2.2.1 h0 h1 (by omega)
theorem p_w8 (hp : PSh M s) {i : Int} (h0 : 0 ≤ i) (h1 : i < 20) : wI (PX M s f hd Z) (s + 8) (zi i) v = some (PX M s f hd (up2 Z 8 i.toNat v)) := p_rW hp (by omega) hp.2.2.2.1.2.2.1.2.2.2.2.2.2.2 hp.2.2.2.1.2.2.2.2.2.2.2.2.2.2 h0 h1 (by omega)
theorem p_hA (hp : PSh M s) {i : Int} (h0 : 0 ≤ i) (h1 : i < 4) : aI (PX M s f hd Z) 12 3 (zi i) = some (hd i.toNat) := by
  unfold aI inA
  have e0 : ¬ (zi i < 0 ∨ mL (PX M s f hd Z) 3 ≤ (zi i).toNatClampNeg) := by
    show ¬ (zi i < zi 0 ∨ mL M 3 ≤ _)
    rw [zi_lt (by omega) (by omega) (by omega) (by omega), zi_tn (by omega) h0, hp.2.1.2]
    omega
  rw [if_pos ⟨hp.2.1.1, e0⟩, zi_tn (by omega) h0]
  refine congrArg some ?_
  show (if 3 = 2 then f i.toNat else if 3 = 3 then hd i.toNat else if s ≤ 3 ∧ 3 < s + 9 then Z (3 - s) i.toNat else mI M 3 i.toNat) = _
  rw [if_neg (by omega), if_pos rfl]
theorem p_hW (hp : PSh M s) {i : Int} (h0 : 0 ≤ i) (h1 : i < 4) : wZ (PX M s f hd Z) 3 (zi i) v = some (PX M s f (up1 hd i.toNat (v &&& 1)) Z) := by
  have hs := hp.2.2.2.2
  unfold wZ inA
  have e0 : ¬ (zi i < 0 ∨ mL (PX M s f hd Z) 3 ≤ (zi i).toNatClampNeg) := by
    show ¬ (zi i < zi 0 ∨ mL M 3 ≤ _)
    rw [zi_lt (by omega) (by omega) (by omega) (by omega), zi_tn (by omega) h0, hp.2.1.2]
    omega
  rw [if_pos ⟨hp.2.1.1, e0⟩, zi_tn (by omega) h0]
  refine congrArg some ?_
  unfold PX sI
  refine Prod.ext rfl (Prod.ext rfl (Prod.ext rfl (Prod.ext rfl (Prod.ext ?_ rfl))))
  funext x j
  show (if x = 3 ∧ j = i.toNat then v &&& 1 else if x = 2 then f j else if x = 3 then hd j else if s ≤ x ∧ x < s + 9 then Z (x - s) j else M.2.2.2.2.1 x j) = (if x = 2 then f j else if x = 3 then (if j = i.toNat then v &&& 1 else hd j) else if s ≤ x ∧ x < s + 9 then Z (x - s) j else M.2.2.2.2.1 x j)
  by_cases c : x = 3
  · subst c
    by_cases d : j = i.toNat <;> simp [d]
  · simp [c]
theorem x_nmd (hp : PSh M s) (hR : RXs f hd Z g) (hg : ROk g) (hn : 1000 < n) : g_X7_traderNamed n (PX M s f hd Z) s v = some (match fnd (nmq g.2.2.1 v) 0 g.1.toNat with | some t => zi (t : Int) | none => zi (-1), PX M s f hd Z) := by
  have h0 : Z 0 0 = zi g.1 := hR.1.1.1
  have hnt := hg.1
  have h1 : ∀ t : Nat, (t : Int) < g.1 → Z 1 t = zi (g.2.2.1 (8 * (t : Int))) := fun t ht => by
    have := (hR.1.2.1 (t : Int) (by omega) ht).1
    rw [Int.toNat_natCast] at this
    exact this
  have key := loop_find (step := fun (s_1 : MemT × Int32) => (fun (M1 : MemT) (v2 : Int32) => (gI M1 6 s 0).bind (fun v4 => (if v4 ≤ v2 then some (.inr (((-1), M1))) else (gO M1 6 s 1).bind (fun j5 => (aI M1 10 j5 v2).bind (fun v6 => (if v6 = v then (some (.inr ((v2, M1))) : Option ((MemT × Int32) ⊕ (Int32 × MemT))) else some (.inl (M1, v2 + 1)))))))) s_1.1 s_1.2) (fun i : Nat => (PX M s f hd Z, zi (i : Int))) (fun i => (zi (i : Int), PX M s f hd Z)) (zi (-1), PX M s f hd Z) g.1.toNat (nmq g.2.2.1 v) (fun i hi c => ?_) (fun i hi c => ?_) ?_ n (by omega)
  · unfold g_X7_traderNamed
    refine Eq.trans key ?_
    cases fnd (nmq g.2.2.1 v) 0 g.1.toNat <;> rfl
  · have c' := of_decide_eq_false c
    dsimp only
    rw [p_gR hp, i_sb, h0, if_neg (by rw [zi_le (by omega) (by omega) (by omega) (by omega)]; omega), p_r1 hp, i_sb, p_a1 hp (by omega) (by omega), i_sb, Int.toNat_natCast, h1 i (by omega), if_neg c', show zi (i : Int) + 1 = zi ((i + 1 : Nat) : Int) from zi_add (i : Int) 1]
  · have c' := of_decide_eq_true c
    dsimp only
    rw [p_gR hp, i_sb, h0, if_neg (by rw [zi_le (by omega) (by omega) (by omega) (by omega)]; omega), p_r1 hp, i_sb, p_a1 hp (by omega) (by omega), i_sb, Int.toNat_natCast, h1 i (by omega), if_pos c']
  · dsimp only
    rw [p_gR hp, i_sb, h0, Int.toNat_of_nonneg hnt.1, if_pos (Int32.le_refl _)]
    rfl
theorem x_trd (hp : PSh M s) (hu : XT M u) (h3 : f 3 = zi (len : Int)) (hl : len ≤ 700) (hpl : p ≤ len) (hn : 1000 < n) (hR : RXs f hd Z g) (hg : ROk g) : (∃ c pl f', trdR g u len p = .inl (c, pl) ∧ g_X5_takeTrader n (PX M s (tkR f k st (zi (p : Int)) v) hd Z) 2 = some (zi 0, PX M s f' hd Z) ∧ f' 0 = zi c ∧ f' 1 = zi (pl : Int)) ∨ (∃ t : Nat, trdR g u len p = .inr (t, tkE u len p, tkS u len p) ∧ ((t : Int) < g.1) ∧ g_X5_takeTrader n (PX M s (tkR f k st (zi (p : Int)) v) hd Z) 2 = some (zi 1, PX M s (tkR (up1 f 9 (zi (t : Int))) 1 (zi (tkS u len p : Int)) (zi (tkE u len p : Int)) (tkV u len p)) hd Z)) := by
  have hnt := hg.1
  unfold trdR g_X5_takeTrader
  rcases x_name (k := k) (st := st) (v := v) (hd := hd) (Z := Z) hp hu h3 hl hpl hn with ⟨c, f', q1, q2, q3, q4⟩ | ⟨q1, q2⟩
  · rw [q1, p_k hp, q2, i_bd, if_pos (show zi 0 = (0 : Int32) from rfl)]
    exact Or.inl ⟨c, _, f', rfl, rz_0, q3, q4⟩
  · rw [q1, p_k hp, q2, i_bd, if_neg (show ¬ (zi 1 = (0 : Int32)) by decide), p_o4 hp, i_sb, p_gI hp, i_sb, tk_8, p_kR hp]
    have hR' : RXs (tkR f 1 (zi (tkS u len p : Int)) (zi (tkE u len p : Int)) (tkV u len p)) hd Z g := ⟨hR.1, hR.2.1, (tk_o (by omega)).trans hR.2.2.1, (tk_o (by omega)).trans hR.2.2.2.1, (tk_o (by omega)).trans hR.2.2.2.2.1, (tk_o (by omega)).trans hR.2.2.2.2.2.1, (tk_o (by omega)).trans hR.2.2.2.2.2.2.1, (tk_o (by omega)).trans hR.2.2.2.2.2.2.2⟩
    rw [x_nmd hp hR' hg hn, i_bd]
    show _ ∨ _
    cases hf : fnd (nmq g.2.2.1 (tkV u len p)) 0 g.1.toNat with
    | none =>
      dsimp only
      rw [p_pI hp, i_sb, tk_uo (by omega), p_gI hp, i_sb, tk_o (by omega), up1_at, if_pos (show zi (-1) = (-1 : Int32) from rfl), p_gI hp, i_sb, tk_6, p_k hp, x_fail hp, i_bd, if_pos (show zi 0 = (0 : Int32) from rfl)]
      refine Or.inl ⟨4, tkS u len p, _, ?_, rz_0, rfl, rfl⟩
      show (match fnd (nmq g.2.2.1 (tkV u len p)) 0 g.1.toNat with | some t => Sum.inr (t, tkE u len p, tkS u len p) | none => Sum.inl ((4 : Int), tkS u len p)) = _
      rw [hf]
    | some t =>
      have ht := (fnd_lt hf).2.1
      dsimp only
      rw [p_pI hp, i_sb, tk_uo (by omega), p_gI hp, i_sb, tk_o (by omega), up1_at, if_neg (by show ¬ (zi (t : Int) = zi (-1)); rw [zi_eq (by omega) (by omega) (by omega) (by omega)]; omega)]
      refine Or.inr ⟨t, ?_, by omega, rz_1⟩
      show (match fnd (nmq g.2.2.1 (tkV u len p)) 0 g.1.toNat with | some t => Sum.inr (t, tkE u len p, tkS u len p) | none => Sum.inl ((4 : Int), tkS u len p)) = _
      rw [hf]
end M26
