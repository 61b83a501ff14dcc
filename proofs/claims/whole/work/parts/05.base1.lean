/-! ===== BASE 1: the words that all methods share; a memory by numbers ===== -/
def gT : List Cond := lw_tbl.filter goodWord
theorem gT_in {w : Cond} (h : w ∈ gT) : w ∈ lw_tbl := (List.mem_filter.mp h).1
theorem qT (k : Nat) {w : Cond} (h : lw_tbl[k]? = some w) (hg : goodWord w = true) : w ∈ gT := List.mem_filter.mpr ⟨List.mem_of_getElem? h, hg⟩
theorem gT_good {w : Cond} (h : w ∈ gT) : (w.onTables && w.keeps) = true ∨ ∃ ty, w = .arrayClass ty := good_of_word (List.mem_filter.mp h).2
theorem gT_call {w : Cond} (h : w ∈ gT) : GoodIn gT (w :: gT) := fun v hv => by
  rcases List.mem_cons.mp hv with e | hv
  · subst e
    exact ⟨h, gT_good h⟩
  · exact ⟨hv, gT_good hv⟩
/-- the classes of the world, by their places in vwCl -/
def TC : Nat → u_T
  | 0 => TX1 | 1 => TX2 | 2 => TX3 | 3 => TX4 | 4 => TX5 | 5 => TX6 | 6 => TX7 | 7 => TX9 | _ => TX10
def NC : Nat → Nat
  | 0 => 19 | 1 => 12 | 2 => 3 | 3 => 3 | 4 => 17 | 5 => 7 | 6 => 16 | 7 => 9 | _ => 29
def RC : Nat → String
  | 0 => RX1 | 1 => RX2 | 2 => RX3 | 3 => RX4 | 4 => RX5 | 5 => RX6 | 6 => RX7 | 7 => RX9 | _ => RX10
def tyC : Nat → Nat → FieldType
  | 0 => tyX1 | 1 => tyX2 | 2 => tyX3 | 3 => tyX4 | 4 => tyX5 | 5 => tyX6 | 6 => tyX7 | 7 => tyX9 | _ => tyX10
theorem cl_at : ∀ c : Nat, c < 9 → vwCl[c]? = some (RC c, TC c, NC c)
  | 0, _ => rfl | 1, _ => rfl | 2, _ => rfl | 3, _ => rfl | 4, _ => rfl | 5, _ => rfl | 6, _ => rfl | 7, _ => rfl | 8, _ => rfl
  | n + 9, h => absurd h (by omega)
theorem tyC_ok : ∀ c : Nat, c < 9 → ∀ k, k < NC c → parseFieldDescriptor (TC c k).2.2.1 = some (tyC c k)
  | 0, _ => tyX1_ok | 1, _ => tyX2_ok | 2, _ => tyX3_ok | 3, _ => tyX4_ok | 4, _ => tyX5_ok | 5, _ => tyX6_ok | 6, _ => tyX7_ok | 7, _ => tyX9_ok | 8, _ => tyX10_ok
  | n + 9, h => absurd h (by omega)
theorem nmC : ∀ c : Nat, c < 9 → ∀ a, a < NC c → ∀ b, b < NC c → a ≠ b → (TC c a).2.1 ≠ (TC c b).2.1
  | 0, _ => nmX1 | 1, _ => nmX2 | 2, _ => nmX3 | 3, _ => nmX4 | 4, _ => nmX5 | 5, _ => nmX6 | 6, _ => nmX7 | 7, _ => nmX9 | 8, _ => nmX10
  | n + 9, h => absurd h (by omega)
/-- kinds: 0 .. 8 an object of a class, 9 nothing, 10 int[], 11 byte[], 12 boolean[], 13 long[], 14 Asset[], 15 Books[] -/
def eK : Nat → FieldType
  | 10 => .int | 11 => .byte | 12 => .boolean | 13 => .long | 14 => .object RX1 | _ => .object RX2
def tysG (ac : Nat → ClassId) : List (ClassId × FieldType) := [(ac 10, .int), (ac 11, .byte), (ac 12, .boolean), (ac 13, .long), (ac 14, .object RX1), (ac 15, .object RX2)]
theorem tys_at (ac : Nat → ClassId) : ∀ κ : Nat, 10 ≤ κ → κ < 16 → (tysG ac)[κ - 10]? = some (ac κ, eK κ) := by
  intro κ h1 h2
  match κ, h1, h2 with
  | 10, _, _ => rfl
  | 11, _, _ => rfl
  | 12, _, _ => rfl
  | 13, _, _ => rfl
  | 14, _, _ => rfl
  | 15, _, _ => rfl
  | n + 16, _, h => omega
  | 0, h, _ | 1, h, _ | 2, h, _ | 3, h, _ | 4, h, _ | 5, h, _ | 6, h, _ | 7, h, _ | 8, h, _ | 9, h, _ => omega
/-- the memory: kinds, lengths, how many, references, ints, longs, each by the object's number and the place in it -/
abbrev MemT : Type := (Nat → Nat) × (Nat → Nat) × Nat × (Nat → Nat → Option Nat) × (Nat → Nat → Int32) × (Nat → Nat → Int64)
def mK (M : MemT) : Nat → Nat := M.1
def mL (M : MemT) : Nat → Nat := M.2.1
def mN (M : MemT) : Nat := M.2.2.1
def mR (M : MemT) : Nat → Nat → Option Nat := M.2.2.2.1
def mI (M : MemT) : Nat → Nat → Int32 := M.2.2.2.2.1
def mJ (M : MemT) : Nat → Nat → Int64 := M.2.2.2.2.2
def up1 {α : Type} (f : Nat → α) (x : Nat) (v : α) : Nat → α := fun a => if a = x then v else f a
def up2 {α : Type} (f : Nat → Nat → α) (x k : Nat) (v : α) : Nat → Nat → α := fun a b => if a = x ∧ b = k then v else f a b
def upr {α : Type} (f : Nat → Nat → α) (x : Nat) (g : Nat → α) : Nat → Nat → α := fun a b => if a = x then g b else f a b
def sI (M : MemT) (x k : Nat) (v : Int32) : MemT := (M.1, M.2.1, M.2.2.1, M.2.2.2.1, up2 M.2.2.2.2.1 x k v, M.2.2.2.2.2)
def sJ (M : MemT) (x k : Nat) (v : Int64) : MemT := (M.1, M.2.1, M.2.2.1, M.2.2.2.1, M.2.2.2.2.1, up2 M.2.2.2.2.2 x k v)
def sR (M : MemT) (x k : Nat) (v : Option Nat) : MemT := (M.1, M.2.1, M.2.2.1, up2 M.2.2.2.1 x k v, M.2.2.2.2.1, M.2.2.2.2.2)
def sIr (M : MemT) (x : Nat) (g : Nat → Int32) : MemT := (M.1, M.2.1, M.2.2.1, M.2.2.2.1, upr M.2.2.2.2.1 x g, M.2.2.2.2.2)
/-- one more object: its places empty -/
def nwM (M : MemT) (κ len : Nat) : MemT := (up1 M.1 M.2.2.1 κ, up1 M.2.1 M.2.2.1 len, M.2.2.1 + 1, upr M.2.2.2.1 M.2.2.1 (fun _ => none), upr M.2.2.2.2.1 M.2.2.1 (fun _ => 0), upr M.2.2.2.2.2 M.2.2.1 (fun _ => 0))
/-- what a field holds, an object, an array -/
def fval (ad : Nat → Nat) (M : MemT) (c x k : Nat) : Value := match tyC c k with
  | .long => .long (mJ M x k)
  | .object _ => va_re ad (mR M x k)
  | .array _ => va_re ad (mR M x k)
  | _ => .int (mI M x k)
def arrE (ad : Nat → Nat) (M : MemT) (x : Nat) : vp_A :=
  if mK M x = 13 then (mL M x, .inr (.inl (mJ M x))) else if 14 ≤ mK M x then (mL M x, .inr (.inr (.inr (.inr (fun j => (mR M x j).map ad))))) else (mL M x, .inl (mI M x))
def ent (ac : Nat → ClassId) (ad : Nat → Nat) (M : MemT) (x : Nat) : va_E :=
  if mK M x < 9 then .inr (mK M x, (List.range (NC (mK M x))).map (fval ad M (mK M x) x)) else .inl (ac (mK M x), arrE ad M x)
def wsM (ac : Nat → ClassId) (ad : Nat → Nat) (M : MemT) : va_W := (List.range (mN M)).map (fun x => (ad x, ent ac ad M x))
theorem ws_at (ac : Nat → ClassId) (ad : Nat → Nat) (M : MemT) {x : Nat} (h : x < mN M) : (wsM ac ad M)[x]? = some (ad x, ent ac ad M x) := by
  simp [wsM, h]
theorem ws_lt {ac : Nat → ClassId} {ad : Nat → Nat} {M : MemT} {x : Nat} {q : Nat × va_E} (h : (wsM ac ad M)[x]? = some q) : x < mN M ∧ q = (ad x, ent ac ad M x) := by
  have h1 : x < mN M := by
    have := (List.getElem?_eq_some_iff.mp h).1
    simpa [wsM] using this
  rw [ws_at ac ad M h1] at h
  exact ⟨h1, (Option.some.inj h).symm⟩
theorem ws_set {ac : Nat → ClassId} {ad : Nat → Nat} {M M1 : MemT} {x : Nat} {E : va_E} (hn : mN M1 = mN M) (he : x < mN M → E = ent ac ad M1 x) (ho : ∀ y, y ≠ x → ent ac ad M1 y = ent ac ad M y) : (wsM ac ad M).set x (ad x, E) = wsM ac ad M1 := by
  apply List.ext_getElem?
  intro i
  by_cases hi : i < mN M
  · rw [ws_at ac ad M1 (by omega)]
    by_cases hx : i = x
    · subst hx
      rw [List.getElem?_set_self (by simpa [wsM] using hi), he hi]
    · rw [List.getElem?_set_ne (Ne.symm hx), ws_at ac ad M hi, ho i hx]
  · rw [List.getElem?_eq_none (by simp [wsM]; omega), List.getElem?_eq_none (by simp [wsM]; omega)]
theorem ws_push {ac : Nat → ClassId} {ad ad1 : Nat → Nat} {M M1 : MemT} {a : Nat} {E : va_E} (hn : mN M1 = mN M + 1) (ha : ad1 (mN M) = a) (he : ent ac ad1 M1 (mN M) = E) (ho : ∀ y, y < mN M → ad1 y = ad y ∧ ent ac ad1 M1 y = ent ac ad M y) : wsM ac ad M ++ [(a, E)] = wsM ac ad1 M1 := by
  apply List.ext_getElem?
  intro i
  by_cases hi : i < mN M
  · rw [List.getElem?_append_left (by simpa [wsM] using hi), ws_at ac ad M hi, ws_at ac ad1 M1 (by omega), (ho i hi).1, (ho i hi).2]
  · by_cases hx : i = mN M
    · subst hx
      rw [ws_at ac ad1 M1 (by omega), List.getElem?_append_right (by simp [wsM]), ha, he]
      simp [wsM]
    · rw [List.getElem?_eq_none (by simp [wsM]; omega), List.getElem?_eq_none (by simp [wsM]; omega)]
theorem ent_o {ac : Nat → ClassId} {ad : Nat → Nat} {M : MemT} {x c : Nat} (h : mK M x = c) (hc : c < 9) : ent ac ad M x = .inr (c, (List.range (NC c)).map (fval ad M c x)) := by
  subst h
  simp [ent, hc]
theorem ent_a {ac : Nat → ClassId} {ad : Nat → Nat} {M : MemT} {x κ : Nat} (h : mK M x = κ) (hc : 10 ≤ κ) : ent ac ad M x = .inl (ac κ, arrE ad M x) := by
  subst h
  simp [ent, show ¬ mK M x < 9 by omega]
theorem arr_i {ad : Nat → Nat} {M : MemT} {x κ : Nat} (h : mK M x = κ) (hc : κ < 13) : arrE ad M x = (mL M x, .inl (mI M x)) := by
  subst h
  simp [arrE, show ¬ mK M x = 13 by omega, show ¬ 14 ≤ mK M x by omega]
theorem arr_j {ad : Nat → Nat} {M : MemT} {x : Nat} (h : mK M x = 13) : arrE ad M x = (mL M x, .inr (.inl (mJ M x))) := by
  simp [arrE, h]
theorem arr_r {ad : Nat → Nat} {M : MemT} {x κ : Nat} (h : mK M x = κ) (hc : 14 ≤ κ) : arrE ad M x = (mL M x, .inr (.inr (.inr (.inr (fun j => (mR M x j).map ad))))) := by
  subst h
  simp [arrE, show ¬ mK M x = 13 by omega, hc]
theorem fval_at {ad : Nat → Nat} {M : MemT} {c x k : Nat} (hk : k < NC c) : ((List.range (NC c)).map (fval ad M c x))[k]? = some (fval ad M c x k) := by
  simp [hk]
/-- the same entry where kind, length and contents are the same -/
theorem ent_same {ac : Nat → ClassId} {ad ad1 : Nat → Nat} {M M1 : MemT} {y : Nat} (hk : mK M1 y = mK M y) (hl : mL M1 y = mL M y) (hi : mI M1 y = mI M y) (hj : mJ M1 y = mJ M y) (hr : ∀ k, (mR M1 y k).map ad1 = (mR M y k).map ad) : ent ac ad1 M1 y = ent ac ad M y := by
  have hf : ∀ c : Nat, fval ad1 M1 c y = fval ad M c y := by
    intro c
    funext k
    unfold fval
    split <;> simp [hi, hj, va_re, hr k]
  have ha : arrE ad1 M1 y = arrE ad M y := by
    unfold arrE
    rw [hk, hl, hi, hj]
    simp [hr]
  unfold ent
  rw [hk, hf, ha]
/-- a field's new value in the list of an object's fields -/
theorem fs_set {ad : Nat → Nat} {M M1 : MemT} {c x k : Nat} {v : Value} (hv : fval ad M1 c x k = v) (ho : ∀ j, j ≠ k → fval ad M1 c x j = fval ad M c x j) : ((List.range (NC c)).map (fval ad M c x)).set k v = (List.range (NC c)).map (fval ad M1 c x) := by
  apply List.ext_getElem?
  intro i
  by_cases hi : i < NC c
  · rw [fval_at hi]
    by_cases hx : i = k
    · subst hx
      rw [List.getElem?_set_self (by simpa using hi), hv]
    · rw [List.getElem?_set_ne (Ne.symm hx), fval_at hi, ho i hx]
  · rw [List.getElem?_eq_none (by simp; omega), List.getElem?_eq_none (by simp; omega)]
