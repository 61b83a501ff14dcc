/-! ===== BASE 2: constants, the judgement, its rows ===== -/
def wNm : List String := ["TRADER", "HEAD", "START", "ROUND", "STEP", "LIMIT", "SEED", "SALE", "BUY", "ASSET", "DOWNWARDS", "UPWARDS", "NEAREST"]
def wOrd : List (String × String × String × List Int32) := [("java/lang/Enum", "ordinal", "I", [0, 1, 2, 3, 4, 5, 6, 7, 8, 9, 10, 11, 12])]
def wByt : List (List Int32) := [[116, 114, 97, 100, 101, 114], [104, 101, 97, 100], [115, 116, 97, 114, 116], [114, 111, 117, 110, 100], [115, 116, 101, 112], [108, 105, 109, 105, 116], [115, 101, 101, 100], [115, 97, 108, 101], [98, 117, 121], [97, 115, 115, 101, 116], [100, 111, 119, 110], [117, 112], [110, 101, 97, 114]]
def wLen : List Nat := [6, 4, 5, 5, 4, 5, 4, 4, 3, 5, 4, 2, 4]
def wSm (j : Nat) : Int32 := if j < 10 then nI (j + 1) else 0
/-- the private methods of a nest mate that are called -/
def nestW : List Cond := [.methodLinkNest RX9 15 yX5_init RX9, .methodLinkNest RX9 22 yX7_init RX9, .methodLinkNest RX9 29 yX3_init RX9, .methodLinkNest RX3 11 yX7_init RX9, .methodLinkNest RX2 42 yX1_init RX9, .methodLinkNest RX3 27 yX6_init RX9, .methodLinkNest RX9 39 yX4_init RX9, .methodLinkNest RX5 225 yX9_isIn RX9, .methodLinkNest RX5 218 yX9_isIntervals RX9, .methodLinkNest RX3 40 yX9_copyRow RX9, .methodLinkNest RX2 57 yX9_copyRow RX9, .methodLinkNest RX1 71 yX9_copyRow RX9, .methodLinkNest RX6 35 yX9_cut RX9, .methodLinkNest RX3 258 yX9_cut RX9]
def va_Zk (kad : Nat → Nat) (A : Nat → Prop) (U : State) (H : Heap) : Prop := va_Z RJ3 "SIOOBE_FORMATTER" "Ljava/util/function/BiFunction;" .null A U H ∨ va_Z RJ3 "SIOOBE_FORMATTER" "Ljava/util/function/BiFunction;" (.ref (kad 99)) A U H
theorem va_Zk.moved {kad : Nat → Nat} {A : Nat → Prop} {u U : State} {H : Heap} (hvm : u.vm.Alike U.vm) (h : va_Zk kad A u H) : va_Zk kad A U H := h.elim (fun h => Or.inl (h.moved hvm)) (fun h => Or.inr (h.moved hvm))
theorem va_Zk.kept {kad : Nat → Nat} {A : Nat → Prop} {U : State} {H H1 : Heap} (h : va_Zk kad A U H) (hq : ∀ a : Nat, a < H.size → ¬ A a → H1[a]? = H[a]?) : va_Zk kad A U H1 := h.elim (fun h => Or.inl (h.kept hq)) (fun h => Or.inr (h.kept hq))
theorem va_Zk.narrow {kad : Nat → Nat} {A B : Nat → Prop} {U : State} {H : Heap} (h : va_Zk kad A U H) (hAB : ∀ q, B q → A q) : va_Zk kad B U H := h.elim (fun h => Or.inl (h.narrow hAB)) (fun h => Or.inr (h.narrow hAB))
def extW : List Cond := [.castable "java/lang/IndexOutOfBoundsException" "java/lang/IndexOutOfBoundsException", .castable "java/util/NoSuchElementException" "java/util/NoSuchElementException", .declares ⟨"java/lang/RuntimeException", "<init>", "(Ljava/lang/String;)V"⟩, .declares ⟨"java/lang/Exception", "<init>", "(Ljava/lang/String;)V"⟩, .declares ⟨"java/lang/Throwable", "<init>", "(Ljava/lang/String;)V"⟩]
/-- what is constant: the enum, its texts, the statics; words that go from caller to callee as facts. kad: 0 .. 12 the constants, 13 ALL, 14 the switch's map, 20 + k a text, 40 + k its bytes, 60, 61 the messages -/
def CFt (kad : Nat → Nat) (A : Nat → Prop) (U : State) (H : Heap) : Prop :=
  va_En RX8 "LExemptDesk$Word;" wNm wOrd kad A U H ∧
  va_Ef 13 RX8 "letters" "Ljava/lang/String;" (fun i => .ref (kad (20 + i))) kad A U H ∧
  va_Z RX8 "ALL" "[LExemptDesk$Word;" (.ref (kad 13)) A U H ∧
  va_T (.object RX8) (kad 13) 13 (fun j => .ref (kad j)) A U H ∧
  va_Z RX0 "$SwitchMap$ExemptDesk$Word" "[I" (.ref (kad 14)) A U H ∧
  va_T .int (kad 14) 13 (fun j => .int (wSm j)) A U H ∧
  vk_S 13 wLen wByt (fun i => kad (20 + i)) (fun i => kad (40 + i)) A U H ∧
  va_Z RJ0 "COMPACT_STRINGS" "Z" (.int 1) A U H ∧
  va_Zk kad A U H ∧
  vk_R RX9 86 "no such trader" (kad 60) U ∧ vk_R RX9 118 "no such what" (kad 61) U ∧
  (∀ w ∈ nestW, va_Nw w U) ∧ va_AO RX1 U ∧ va_AO RX2 U ∧
  (∀ w ∈ extW, va_Nw w U) ∧ va_Nc "java/util/NoSuchElementException" "java/lang/IndexOutOfBoundsException" U ∧ vx_Zq Bundle.tN "UNASSIGNED_STACK" Bundle.steD A U H ∧ vx_Zq Bundle.tN "SUPPRESSED_SENTINEL" Bundle.listD A U H
theorem ext_ok : ∀ w ∈ extW, w.onTables = true := by decide +kernel
theorem ext_warm {s U : State} (hW : s.WarmedH U.vm) (h : ∀ w ∈ extW, va_Nw w s) : ∀ w ∈ extW, va_Nw w U := by
  intro w hw
  have h1 := h w hw
  simp only [extW, List.mem_cons, List.not_mem_nil, or_false] at hw
  rcases hw with rfl | rfl | rfl | rfl | rfl
  · exact va_Nw.warmC hW h1
  · exact va_Nw.warmC hW h1
  · exact va_Nw.warmD hW h1
  · exact va_Nw.warmD hW h1
  · exact va_Nw.warmD hW h1
theorem nest_ok : ∀ w ∈ nestW, w.onTables = true := by decide +kernel
theorem nest_warm {s U : State} (hW : s.WarmedH U.vm) (h : ∀ w ∈ nestW, va_Nw w s) : ∀ w ∈ nestW, va_Nw w U := by
  intro w hw
  have h1 := h w hw
  simp only [nestW, List.mem_cons, List.not_mem_nil, or_false] at hw
  rcases hw with rfl | rfl | rfl | rfl | rfl | rfl | rfl | rfl | rfl | rfl | rfl | rfl | rfl | rfl <;> exact va_Nw.warmM hW h1
theorem CFt.go {kad : Nat → Nat} {A B : Nat → Prop} {s U : State} {H : Heap} {locs : List Loc} (h : CFt kad A s s.heap) (hS : va_S A s.heap H locs) (hW : s.WarmedH U.vm) (hAB : ∀ q, B q → A q) : CFt kad B U H := by
  obtain ⟨h1, h2, h3, h4, h5, h6, h7, h8, h9, h10, h11, h12, h13, h14, h15, h16, h17, h18⟩ := h
  exact ⟨((h1.kept hS.2.1).moved hW.alike).narrow hAB, ((h2.kept hS.2.1).moved hW.alike).narrow hAB, ((h3.kept hS.2.1).moved hW.alike).narrow hAB, ((h4.kept hS.2.1).moved hW.alike).narrow hAB, ((h5.kept hS.2.1).moved hW.alike).narrow hAB, ((h6.kept hS.2.1).moved hW.alike).narrow hAB, ((h7.kept hS.2.1).moved hW.alike).narrow hAB, ((h8.kept hS.2.1).moved hW.alike).narrow hAB, ((h9.kept hS.2.1).moved hW.alike).narrow hAB, h10.warm hW, h11.warm hW, nest_warm hW h12, h13.moved hW.alike, h14.moved hW.alike, ext_warm hW h15, h16.moved hW.alike, ((h17.kept hS.2.1).moved hW.alike).narrow hAB, ((h18.kept hS.2.1).moved hW.alike).narrow hAB⟩
theorem CFt.blind {kad : Nat → Nat} {A : Nat → Prop} {U U1 : State} {H : Heap} (hv : U.vm = U1.vm) (h : CFt kad A U H) : CFt kad A U1 H := by
  have hW : U.vm.Alike U1.vm := by rw [← hv]; exact Vm.Alike.refl U.vm
  obtain ⟨h1, h2, h3, h4, h5, h6, h7, h8, h9, h10, h11, h12, h13, h14, h15, h16, h17, h18⟩ := h
  exact ⟨h1.moved hW, h2.moved hW, h3.moved hW, h4.moved hW, h5.moved hW, h6.moved hW, h7.moved hW, h8.moved hW, h9.moved hW, vk_R.same hv.symm h10, vk_R.same hv.symm h11, fun w hw => va_Nw.same (nest_ok w hw) hv (h12 w hw), h13.moved hW, h14.moved hW, fun w hw => va_Nw.same (ext_ok w hw) hv (h15 w hw), h16.moved hW, h17.moved hW, h18.moved hW⟩
/-- values by the objects' numbers; .float k is the constant k -/
def cv (ad kad : Nat → Nat) : Value → Value
  | .ref i => .ref (ad i)
  | .float b => .ref (kad b.toNat)
  | .int v => .int v
  | .long v => .long v
  | .double b => .double b
  | .null => .null
  | .retAddr p => .retAddr p
theorem cv_cat (ad kad : Nat → Nat) (v : Value) : (cv ad kad v).category = v.category := by cases v <;> rfl
theorem cv_sum (ad kad : Nat → Nat) (l : List Value) : ((l.map (cv ad kad)).map fun v => v.category) = l.map fun v => v.category := by
  simp [cv_cat]
def okv (n : Nat) : Value → Prop
  | .ref i => i < n
  | _ => True
def okl (n : Nat) : List Value → Prop
  | [] => True
  | v :: l => okv n v ∧ okl n l
def okc (n : Nat) : List (Option Value) → Prop
  | [] => True
  | none :: l => okc n l
  | some v :: l => okv n v ∧ okc n l
theorem okv_mono {n k : Nat} (h : n ≤ k) : ∀ {v : Value}, okv n v → okv k v := by
  intro v hv
  cases v <;> first | trivial | exact Nat.lt_of_lt_of_le hv h
theorem okl_mono {n k : Nat} (h : n ≤ k) : ∀ {l : List Value}, okl n l → okl k l := by
  intro l
  induction l with
  | nil => exact fun _ => trivial
  | cons v l ih => exact fun hv => ⟨okv_mono h hv.1, ih hv.2⟩
theorem okc_mono {n k : Nat} (h : n ≤ k) : ∀ {l : List (Option Value)}, okc n l → okc k l := by
  intro l
  induction l with
  | nil => exact fun _ => trivial
  | cons v l ih =>
    cases v with
    | none => exact fun hv => ih hv
    | some v => exact fun hv => ⟨okv_mono h hv.1, ih hv.2⟩
theorem okc_at {n : Nat} : ∀ {l : List (Option Value)} {k : Nat} {v : Value}, okc n l → l[k]? = some (some v) → okv n v := by
  intro l
  induction l with
  | nil => intro k v _ h; simp at h
  | cons w l ih =>
    intro k v ho h
    cases k with
    | zero =>
      simp at h
      subst h
      exact ho.1
    | succ k =>
      rw [List.getElem?_cons_succ] at h
      cases w with
      | none => exact ih ho h
      | some w => exact ih ho.2 h
theorem okc_of {n : Nat} : ∀ {l : List (Option Value)}, (∀ (k : Nat) (v : Value), l[k]? = some (some v) → okv n v) → okc n l := by
  intro l
  induction l with
  | nil => exact fun _ => trivial
  | cons w l ih =>
    intro h
    have h1 : okc n l := ih (fun k v hk => h (k + 1) v (by rw [List.getElem?_cons_succ]; exact hk))
    cases w with
    | none => exact h1
    | some w => exact ⟨h 0 w rfl, h1⟩
theorem okl_app {n : Nat} : ∀ {a b : List Value}, okl n (a ++ b) ↔ okl n a ∧ okl n b := by
  intro a b
  induction a with
  | nil => simp [okl]
  | cons v a ih => simp [okl, ih, and_assoc]
theorem okl_rev {n : Nat} : ∀ {a : List Value}, okl n a.reverse ↔ okl n a := by
  intro a
  induction a with
  | nil => simp
  | cons v a ih => simp [okl, okl_app, ih, and_comm]
theorem cv_same {ad ad1 kad : Nat → Nat} {n : Nat} (h : ∀ i, i < n → ad1 i = ad i) : ∀ {v : Value}, okv n v → cv ad1 kad v = cv ad kad v := by
  intro v hv
  cases v <;> first | rfl | exact congrArg Value.ref (h _ hv)
theorem map_same {ad ad1 kad : Nat → Nat} {n : Nat} (h : ∀ i, i < n → ad1 i = ad i) : ∀ {l : List Value}, okl n l → l.map (cv ad1 kad) = l.map (cv ad kad) := by
  intro l
  induction l with
  | nil => exact fun _ => rfl
  | cons v l ih => exact fun hv => by rw [List.map_cons, List.map_cons, cv_same h hv.1, ih hv.2]
/-- the machine's locals hold the named ones -/
def lrel (ad kad : Nat → Nat) (loc : List (Option Value)) (ls : Array Slot) (nL : Nat) : Prop := ls.size = nL ∧ lv_wf ls ∧ ∀ (k : Nat) (v : Value), loc[k]? = some (some v) → ls[k]? = some (.val (cv ad kad v))
theorem lrel_same {ad ad1 kad : Nat → Nat} {n nL : Nat} {loc : List (Option Value)} {ls : Array Slot} (h : ∀ i, i < n → ad1 i = ad i) (ho : okc n loc) (hl : lrel ad kad loc ls nL) : lrel ad1 kad loc ls nL :=
  ⟨hl.1, hl.2.1, fun k v hk => by rw [cv_same h (okc_at ho hk)]; exact hl.2.2 k v hk⟩
def prs (ad kad : Nat → Nat) : Nat → List (Option Value) → List (Nat × Value)
  | _, [] => []
  | k, none :: l => prs ad kad (k + 1) l
  | k, some v :: l => (k, cv ad kad v) :: prs ad kad (k + 1) l
theorem prs_mem {ad kad : Nat → Nat} : ∀ {l : List (Option Value)} {k : Nat} {q : Nat × Value}, q ∈ prs ad kad k l → ∃ (j : Nat) (v : Value), q.1 = k + j ∧ l[j]? = some (some v) ∧ q.2 = cv ad kad v := by
  intro l
  induction l with
  | nil => intro k q h; simp [prs] at h
  | cons w l ih =>
    intro k q h
    cases w with
    | none =>
      obtain ⟨j, v, h1, h2, h3⟩ := ih (k := k + 1) h
      exact ⟨j + 1, v, by omega, by rw [List.getElem?_cons_succ]; exact h2, h3⟩
    | some w =>
      rcases List.mem_cons.mp h with e | h
      · subst e
        exact ⟨0, w, rfl, rfl, rfl⟩
      · obtain ⟨j, v, h1, h2, h3⟩ := ih (k := k + 1) h
        exact ⟨j + 1, v, by omega, by rw [List.getElem?_cons_succ]; exact h2, h3⟩
theorem prs_of {ad kad : Nat → Nat} : ∀ {l : List (Option Value)} {k j : Nat} {v : Value}, l[j]? = some (some v) → (k + j, cv ad kad v) ∈ prs ad kad k l := by
  intro l
  induction l with
  | nil => intro k j v h; simp at h
  | cons w l ih =>
    intro k j v h
    cases j with
    | zero =>
      simp at h
      subst h
      exact List.mem_cons_self
    | succ j =>
      rw [List.getElem?_cons_succ] at h
      have h1 := ih (k := k + 1) h
      rw [show k + 1 + j = k + (j + 1) by omega] at h1
      cases w with
      | none => exact h1
      | some w => exact List.mem_cons_of_mem _ h1
theorem lrel.has {ad kad : Nat → Nat} {loc : List (Option Value)} {ls : Array Slot} {nL : Nat} (h : lrel ad kad loc ls nL) : lv_has ls nL (prs ad kad 0 loc) := by
  refine ⟨h.1, h.2.1, fun q hq => ?_⟩
  obtain ⟨j, v, h1, h2, h3⟩ := prs_mem hq
  rw [h1, h3, Nat.zero_add]
  exact h.2.2 j v h2
/-- no long's second half is written over by a store at i -/
def noLong (loc : List (Option Value)) : Nat → Prop
  | 0 => True
  | i + 1 => match loc[i]? with
    | some (some v) => v.category = 1
    | _ => True
theorem noLong_at {loc : List (Option Value)} {i k : Nat} {v : Value} (h : noLong loc i) (hk : loc[k]? = some (some v)) (hi : k + 1 = i) : v.category = 1 := by
  subst hi
  simp only [noLong, hk] at h
  exact h
theorem lrel_st1 {ad kad : Nat → Nat} {loc : List (Option Value)} {ls1 : Array Slot} {nL i : Nat} {x : Value} (hn : noLong loc i) (h : lv_has ls1 nL ((i, cv ad kad x) :: (prs ad kad 0 loc).filter (fun q => !(q.1 == i) && !(q.1 + 1 == i && q.2.category == 2)))) : lrel ad kad (loc.set i (some x)) ls1 nL := by
  refine ⟨h.1, h.2.1, fun k v hk => ?_⟩
  by_cases hki : k = i
  · subst hki
    have hl : k < loc.length := by
      have := (List.getElem?_eq_some_iff.mp hk).1
      simpa using this
    rw [List.getElem?_set_self hl] at hk
    cases hk
    exact h.2.2 (k, cv ad kad x) List.mem_cons_self
  · rw [List.getElem?_set_ne (Ne.symm hki)] at hk
    refine h.2.2 (k, cv ad kad v) (List.mem_cons_of_mem _ (List.mem_filter.mpr ⟨by have := prs_of (ad := ad) (kad := kad) (k := 0) hk; rwa [Nat.zero_add] at this, ?_⟩))
    have h2 : k + 1 = i → ¬ (cv ad kad v).category = 2 := fun e => by rw [cv_cat, noLong_at hn hk e]; omega
    simp only [Bool.and_eq_true, Bool.not_eq_true', beq_eq_false_iff_ne, ne_eq, Bool.and_eq_false_iff]
    refine ⟨hki, ?_⟩
    by_cases e : k + 1 = i
    · exact Or.inr (h2 e)
    · exact Or.inl e
theorem lrel_st2 {ad kad : Nat → Nat} {loc : List (Option Value)} {ls1 : Array Slot} {nL i : Nat} {x : Value} (hn : noLong loc i) (h : lv_has ls1 nL ((i, cv ad kad x) :: (prs ad kad 0 loc).filter (fun q => !(q.1 == i) && (!(q.1 == i + 1) && !(q.1 + 1 == i && q.2.category == 2))))) : lrel ad kad ((loc.set i (some x)).set (i + 1) none) ls1 nL := by
  refine ⟨h.1, h.2.1, fun k v hk => ?_⟩
  by_cases hk1 : k = i + 1
  · subst hk1
    have hl : i + 1 < (loc.set i (some x)).length := by
      have := (List.getElem?_eq_some_iff.mp hk).1
      simpa using this
    rw [List.getElem?_set_self hl] at hk
    cases hk
  · rw [List.getElem?_set_ne (Ne.symm hk1)] at hk
    by_cases hki : k = i
    · subst hki
      have hl : k < loc.length := by
        have := (List.getElem?_eq_some_iff.mp hk).1
        simpa using this
      rw [List.getElem?_set_self hl] at hk
      cases hk
      exact h.2.2 (k, cv ad kad x) List.mem_cons_self
    · rw [List.getElem?_set_ne (Ne.symm hki)] at hk
      refine h.2.2 (k, cv ad kad v) (List.mem_cons_of_mem _ (List.mem_filter.mpr ⟨by have := prs_of (ad := ad) (kad := kad) (k := 0) hk; rwa [Nat.zero_add] at this, ?_⟩))
      have h2 : k + 1 = i → ¬ (cv ad kad v).category = 2 := fun e => by rw [cv_cat, noLong_at hn hk e]; omega
      simp only [Bool.and_eq_true, Bool.not_eq_true', beq_eq_false_iff_ne, ne_eq, Bool.and_eq_false_iff]
      refine ⟨hki, hk1, ?_⟩
      by_cases e : k + 1 = i
      · exact Or.inr (h2 e)
      · exact Or.inl e
theorem okc_set {n : Nat} {loc : List (Option Value)} {i : Nat} {x : Option Value} (h : okc n loc) (hx : ∀ v, x = some v → okv n v) : okc n (loc.set i x) := by
  refine okc_of (fun k v hk => ?_)
  by_cases hki : k = i
  · subst hki
    have hl : k < loc.length := by
      have := (List.getElem?_eq_some_iff.mp hk).1
      simpa using this
    rw [List.getElem?_set_self hl] at hk
    exact hx v (Option.some.inj hk)
  · rw [List.getElem?_set_ne (Ne.symm hki)] at hk
    exact okc_at h hk
/-- which cells a method may change: the objects of its world, and new ones -/
def freeA (ad : Nat → Nat) (n sz : Nat) : Nat → Prop := fun q => (∃ i : Nat, i < n ∧ q = ad i) ∨ sz ≤ q
/-- the heap holds the memory -/
def WH (D : va_G) (ac : Nat → ClassId) (ad : Nat → Nat) (A : Nat → Prop) (M : MemT) (H : Heap) : Prop :=
  va_P D vwCl (wsM ac ad M) H ∧ va_D A (wsM ac ad M) ∧ (∀ x, mN M ≤ x → mK M x = 9) ∧ ∀ x k j, mR M x k = some j → j < mN M
abbrev CxT : Type := Program × Launch × Env × Room × State × MethodId × Array Value × List Frame × Method × Code × (State → Prop) × va_G × (Nat → ClassId) × (Nat → Nat) × (Nat → Nat) × Nat
abbrev xp (X : CxT) : Program := X.1
abbrev xl (X : CxT) : Launch := X.2.1
abbrev xe (X : CxT) : Env := X.2.2.1
abbrev xR (X : CxT) : Room := X.2.2.2.1
abbrev xs (X : CxT) : State := X.2.2.2.2.1
abbrev xm (X : CxT) : MethodId := X.2.2.2.2.2.1
abbrev xargs (X : CxT) : Array Value := X.2.2.2.2.2.2.1
abbrev xbelow (X : CxT) : List Frame := X.2.2.2.2.2.2.2.1
abbrev xmeth (X : CxT) : Method := X.2.2.2.2.2.2.2.2.1
abbrev xc (X : CxT) : Code := X.2.2.2.2.2.2.2.2.2.1
abbrev xQ (X : CxT) : State → Prop := X.2.2.2.2.2.2.2.2.2.2.1
abbrev xD (X : CxT) : va_G := X.2.2.2.2.2.2.2.2.2.2.2.1
abbrev xac (X : CxT) : Nat → ClassId := X.2.2.2.2.2.2.2.2.2.2.2.2.1
abbrev xkad (X : CxT) : Nat → Nat := X.2.2.2.2.2.2.2.2.2.2.2.2.2.1
abbrev xad0 (X : CxT) : Nat → Nat := X.2.2.2.2.2.2.2.2.2.2.2.2.2.2.1
abbrev xn0 (X : CxT) : Nat := X.2.2.2.2.2.2.2.2.2.2.2.2.2.2.2
def A0 (X : CxT) : Nat → Prop := freeA (xad0 X) (xn0 X) (xs X).heap.size
def Hy (X : CxT) (nL : Nat) (M : MemT) (loc : List (Option Value)) (stk : List Value) (ad : Nat → Nat) (H : Heap) (locs : List Loc) (ls : Array Slot) : Prop :=
  WH (xD X) (xac X) ad (A0 X) M H ∧ va_S (A0 X) (xs X).heap H locs ∧ xn0 X ≤ mN M ∧ (∀ i, i < xn0 X → ad i = xad0 X i) ∧ okl (mN M) stk ∧ okc (mN M) loc ∧ lrel ad (xkad X) loc ls nL
theorem Hy.st {X : CxT} {nL : Nat} {M : MemT} {loc : List (Option Value)} {stk stk1 : List Value} {ad : Nat → Nat} {H : Heap} {locs : List Loc} {ls : Array Slot} (h : Hy X nL M loc stk ad H locs ls) (ho : okl (mN M) stk1) : Hy X nL M loc stk1 ad H locs ls :=
  ⟨h.1, h.2.1, h.2.2.1, h.2.2.2.1, ho, h.2.2.2.2.2⟩
theorem Hy.ok {X : CxT} {nL : Nat} {M : MemT} {loc : List (Option Value)} {stk : List Value} {ad : Nat → Nat} {H : Heap} {locs : List Loc} {ls : Array Slot} (h : Hy X nL M loc stk ad H locs ls) : okl (mN M) stk := h.2.2.2.2.1
theorem Hy.oc {X : CxT} {nL : Nat} {M : MemT} {loc : List (Option Value)} {stk : List Value} {ad : Nat → Nat} {H : Heap} {locs : List Loc} {ls : Array Slot} (h : Hy X nL M loc stk ad H locs ls) : okc (mN M) loc := h.2.2.2.2.2.1
theorem Hy.lr {X : CxT} {nL : Nat} {M : MemT} {loc : List (Option Value)} {stk : List Value} {ad : Nat → Nat} {H : Heap} {locs : List Loc} {ls : Array Slot} (h : Hy X nL M loc stk ad H locs ls) : lrel ad (xkad X) loc ls nL := h.2.2.2.2.2.2
theorem Hy.fr {X : CxT} {nL : Nat} {M : MemT} {loc : List (Option Value)} {stk : List Value} {ad : Nat → Nat} {H : Heap} {locs : List Loc} {ls : Array Slot} (h : Hy X nL M loc stk ad H locs ls) : ∀ q, freeA ad (mN M) H.size q → A0 X q := by
  intro q hq
  rcases hq with ⟨i, hi, rfl⟩ | hq
  · exact h.1.2.1.2 i _ (ws_at (xac X) ad M hi)
  · exact Or.inr (Nat.le_trans h.2.1.1 hq)
/-- new contents, the same objects -/
theorem Hy.mem {X : CxT} {nL : Nat} {M M1 : MemT} {loc : List (Option Value)} {stk stk1 : List Value} {ad : Nat → Nat} {H H1 : Heap} {locs locs1 : List Loc} {ls : Array Slot} (h : Hy X nL M loc stk ad H locs ls) (hn : mN M1 = mN M) (hk : mK M1 = mK M) (hr : ∀ x k j, mR M1 x k = some j → j < mN M1) (ho : okl (mN M) stk1)
    (hP : va_P (xD X) vwCl (wsM (xac X) ad M1) H1) (hD : va_D (A0 X) (wsM (xac X) ad M1)) (hS : va_S (A0 X) (xs X).heap H1 locs1) : Hy X nL M1 loc stk1 ad H1 locs1 ls :=
  ⟨⟨hP, hD, fun x hx => by rw [hk]; exact h.1.2.2.1 x (by omega), hr⟩, hS, by rw [hn]; exact h.2.2.1, h.2.2.2.1, by rw [hn]; exact ho, by rw [hn]; exact h.oc, h.lr⟩
def WW (X : CxT) (nL ck sk pc : Nat) (loc : List (Option Value)) (stk : List Value) (M : MemT) : Prop :=
  ∀ (ad : Nat → Nat) (H : Heap) (locs : List Loc) (ls : Array Slot), Hy X nL M loc stk ad H locs ls → W (xp X) (xl X) (xe X) (xR X) (xs X) (xm X) (xargs X) (xbelow X) (xmeth X) (xc X) H locs ck sk (xQ X) (F0 (xm X) pc ls (stk.map (cv ad (xkad X))))
/-- a pure term beside the program: what e answers, if A allows it, the machine reaches -/
def Sim {T : Type} (X : CxT) (nL : Nat) (A : T → Prop) (e : Option T) (ck sk pc : Nat) (loc : List (Option Value)) (stk : List Value) (M : MemT) : Prop :=
  ∀ t : T, e = some t → A t → WW X nL ck sk pc loc stk M
def CxOk (X : CxT) (cc : ByteArray) (nL : Nat) (own : String) (rm : Room) : Prop :=
  (xp X).tables.exec = Jvm.exec ∧ (xc X).code = cc ∧ (xc X).maxLocals = nL ∧ (xs X).vm.findClass own = some (xm X).cls ∧ (∀ w ∈ gT, w.before (xargs X) (xs X) = true) ∧ va_K (xD X) vwCl (tysG (xac X)) (xs X) ∧ xR X = rm ∧ CFt (xkad X) (A0 X) (xs X) (xs X).heap
def RetG {α : Type} (X : CxT) (rm : Room) (ret : Option FieldType) (inj : α → Option Value) (A : α × MemT → Prop) : Prop :=
  ∃ (Qc : Array Value → State → Outcome → State → Prop) (free : Addr → Prop), xQ X = MQ (xbelow X) Qc (xargs X) (xs X) rm.cells rm.slots free ∧ (xmeth X).sig.returnType = ret ∧ (xmeth X).locks = false ∧
    ∀ (r : α) (M : MemT) (ad : Nat → Nat) (H : Heap) (locs : List Loc), A (r, M) → WH (xD X) (xac X) ad (A0 X) M H → va_S (A0 X) (xs X).heap H locs → xn0 X ≤ mN M → (∀ i, i < xn0 X → ad i = xad0 X i) → okl (mN M) (inj r).toList →
      (∀ t : State, t.heap = H → (xs X).WarmedH t.vm → Qc (xargs X) (xs X) (.returned ((inj r).map (cv ad (xkad X)))) t) ∧ ∀ q ∈ locs, free q.base
abbrev iI : Int32 → Option Value := fun r => some (.int r)
abbrev iJ : Int64 → Option Value := fun r => some (.long r)
abbrev iU : Unit → Option Value := fun _ => none
abbrev iV : Value → Option Value := fun r => some r


def bd {α β : Type} (e : Option (α × MemT)) (f : α → MemT → Option β) : Option β := match e with
  | none => none
  | some (a, M) => f a M
def loopF {σ T : Type} (step : σ → Option (σ ⊕ T)) : Nat → σ → Option T
  | 0, _ => none
  | n + 1, s => match step s with
    | none => none
    | some (.inl s1) => loopF step n s1
    | some (.inr t) => some t
def gI (M : MemT) (c x k : Nat) : Option Int32 := if mK M x = c then some (mI M x k) else none
def gJ (M : MemT) (c x k : Nat) : Option Int64 := if mK M x = c then some (mJ M x k) else none
def gO (M : MemT) (c x k : Nat) : Option Nat := if mK M x = c then mR M x k else none
def ovl : Option Nat → Value
  | none => .null
  | some j => .ref j
def gV (M : MemT) (c x k : Nat) : Option Value := if mK M x = c then some (ovl (mR M x k)) else none
def pI (M : MemT) (c x k : Nat) (v : Int32) : Option MemT := if mK M x = c then some (sI M x k v) else none
def pZ (M : MemT) (c x k : Nat) (v : Int32) : Option MemT := if mK M x = c ∧ (v = 0 ∨ v = 1) then some (sI M x k v) else none
def pJ (M : MemT) (c x k : Nat) (v : Int64) : Option MemT := if mK M x = c then some (sJ M x k v) else none
def pO (M : MemT) (c x k j : Nat) : Option MemT := if mK M x = c then some (sR M x k (some j)) else none
def aL (M : MemT) (x : Nat) : Option Int32 := if 10 ≤ mK M x ∧ mK M x < 16 then some (nI (mL M x)) else none
abbrev inA (M : MemT) (κ x : Nat) (i : Int32) : Prop := mK M x = κ ∧ ¬ (i < 0 ∨ mL M x ≤ i.toNatClampNeg)
def aI (M : MemT) (κ x : Nat) (i : Int32) : Option Int32 := if inA M κ x i then some (mI M x i.toNatClampNeg) else none
def aJ (M : MemT) (x : Nat) (i : Int32) : Option Int64 := if inA M 13 x i then some (mJ M x i.toNatClampNeg) else none
def aO (M : MemT) (κ x : Nat) (i : Int32) : Option Nat := if inA M κ x i then mR M x i.toNatClampNeg else none
def aV (M : MemT) (κ x : Nat) (i : Int32) : Option Value := if inA M κ x i then some (ovl (mR M x i.toNatClampNeg)) else none
def wI (M : MemT) (x : Nat) (i v : Int32) : Option MemT := if inA M 10 x i then some (sI M x i.toNatClampNeg v) else none
def wB (M : MemT) (x : Nat) (i v : Int32) : Option MemT := if inA M 11 x i then some (sI M x i.toNatClampNeg (v.toInt8.toInt32)) else none
def wZ (M : MemT) (x : Nat) (i v : Int32) : Option MemT := if inA M 12 x i then some (sI M x i.toNatClampNeg (v &&& 1)) else none
def wJ (M : MemT) (x : Nat) (i : Int32) (v : Int64) : Option MemT := if inA M 13 x i then some (sJ M x i.toNatClampNeg v) else none
def wO (M : MemT) (κ ci x : Nat) (i : Int32) (j : Nat) : Option MemT := if inA M κ x i ∧ mK M j = ci then some (sR M x i.toNatClampNeg (some j)) else none
def acpy (M : MemT) (x : Nat) (sp : Int32) (y : Nat) (dp n : Int32) : Option MemT := if (mK M x = 10 ∧ mK M y = 10) ∧ (¬ sp < 0 ∧ ¬ dp < 0 ∧ ¬ n < 0) ∧ sp.toNatClampNeg + n.toNatClampNeg ≤ mL M x ∧ dp.toNatClampNeg + n.toNatClampNeg ≤ mL M y then some (sIr M y (va_cpy (mI M x) (mI M y) sp.toNatClampNeg dp.toNatClampNeg n.toNatClampNeg)) else none
def chk {β : Type} (M : MemT) (c x : Nat) (e : Option β) : Option β := if mK M x = c then e else none
def asR {β : Type} (v : Value) (f : Nat → Option β) : Option β := match v with
  | .ref j => f j
  | _ => none
/-- null, or a known object -/
def nzR {β : Type} (v : Value) (a : Option β) (f : Nat → Option β) : Option β := match v with
  | .null => a
  | .ref j => f j
  | _ => none
def nzK {β : Type} (v : Value) (a : Option β) (f : Nat → Option β) : Option β := match v with
  | .null => a
  | .float b => if b.toNat < 13 then f b.toNat else none
  | _ => none
def nwO {β : Type} (M : MemT) (c : Nat) (f : Nat → MemT → Option β) : Option β := f (mN M) (nwM M c 0)
def nwA {β : Type} (M : MemT) (κ n : Nat) (f : Nat → MemT → Option β) : Option β := f (mN M) (nwM M κ n)
def rz (v : Int32) (M : MemT) : Option (Int32 × MemT) := if v = 0 ∨ v = 1 then some (v, M) else none

section ROWS
variable {X : CxT} {nL : Nat} {T : Type} {A : T → Prop} {ck sk pc : Nat} {loc : List (Option Value)} {stk : List Value} {M : MemT} {cc : ByteArray} {own : String} {rm : Room}
theorem s_iconst {e : Option T} {n : Int} {v : Int32} (hX : CxOk X cc nL own rm) (hd : decode cc pc = .ok (.iconst n, 1)) (hv : Int32.ofInt n = v) (h : Sim X nL A e ck sk (pc + 1) loc (.int v :: stk) M) : Sim X nL A e ck sk pc loc (stk) M :=
  fun t ht hA ad H locs ls hy => lv_iconst hX.1 hX.2.1 hd hv (h t ht hA ad H locs ls (hy.st ⟨trivial, hy.ok⟩))
theorem s_bipush {e : Option T} {n : Int} {v : Int32} (hX : CxOk X cc nL own rm) (hd : decode cc pc = .ok (.bipush n, 2)) (hv : (Int8.ofInt n).toInt32 = v) (h : Sim X nL A e ck sk (pc + 2) loc (.int v :: stk) M) : Sim X nL A e ck sk pc loc (stk) M :=
  fun t ht hA ad H locs ls hy => lv_bipush hX.1 hX.2.1 hd hv (h t ht hA ad H locs ls (hy.st ⟨trivial, hy.ok⟩))
theorem s_sipush {e : Option T} {n : Int} {v : Int32} (hX : CxOk X cc nL own rm) (hd : decode cc pc = .ok (.sipush n, 3)) (hv : (Int16.ofInt n).toInt32 = v) (h : Sim X nL A e ck sk (pc + 3) loc (.int v :: stk) M) : Sim X nL A e ck sk pc loc (stk) M :=
  fun t ht hA ad H locs ls hy => lv_sipush hX.1 hX.2.1 hd hv (h t ht hA ad H locs ls (hy.st ⟨trivial, hy.ok⟩))
theorem s_lconst {e : Option T} {n : Fin 2} {v : Int64} (hX : CxOk X cc nL own rm) (hd : decode cc pc = .ok (.lconst n, 1)) (hv : Int64.ofNat (n : Nat) = v) (h : Sim X nL A e ck sk (pc + 1) loc (.long v :: stk) M) : Sim X nL A e ck sk pc loc (stk) M :=
  fun t ht hA ad H locs ls hy => lv_lconst hX.1 hX.2.1 hd hv (h t ht hA ad H locs ls (hy.st ⟨trivial, hy.ok⟩))
theorem s_null {e : Option T}  (hX : CxOk X cc nL own rm) (hd : decode cc pc = .ok (.aconst_null, 1)) (h : Sim X nL A e ck sk (pc + 1) loc (.null :: stk) M) : Sim X nL A e ck sk pc loc (stk) M :=
  fun t ht hA ad H locs ls hy => lv_null hX.1 hX.2.1 hd (h t ht hA ad H locs ls (hy.st ⟨trivial, hy.ok⟩))
theorem s_ldc {e : Option T} {index : Nat} {v : Int32} (hX : CxOk X cc nL own rm) (hd : decode cc pc = .ok (.ldc index, 2)) (hq : Cond.constant own index v ∈ gT) (h : Sim X nL A e ck sk (pc + 2) loc (.int v :: stk) M) : Sim X nL A e ck sk pc loc stk M :=
  fun t ht hA ad H locs ls hy => lv_ldc hX.1 hX.2.1 hX.2.2.2.1 (hX.2.2.2.2.1 _ hq) hd (h t ht hA ad H locs ls (hy.st ⟨trivial, hy.ok⟩))
theorem s_ldcw {e : Option T} {index : Nat} {v : Int32} (hX : CxOk X cc nL own rm) (hd : decode cc pc = .ok (.ldc_w index, 3)) (hq : Cond.constant own index v ∈ gT) (h : Sim X nL A e ck sk (pc + 3) loc (.int v :: stk) M) : Sim X nL A e ck sk pc loc stk M :=
  fun t ht hA ad H locs ls hy => lv_ldcw hX.1 hX.2.1 hX.2.2.2.1 (hX.2.2.2.2.1 _ hq) hd (h t ht hA ad H locs ls (hy.st ⟨trivial, hy.ok⟩))
theorem s_ldc2 {e : Option T} {index : Nat} {v : Int64} (hX : CxOk X cc nL own rm) (hd : decode cc pc = .ok (.ldc2_w index, 3)) (hq : Cond.constantLong own index v ∈ gT) (h : Sim X nL A e ck sk (pc + 3) loc (.long v :: stk) M) : Sim X nL A e ck sk pc loc stk M :=
  fun t ht hA ad H locs ls hy => lv_ldc2 hX.1 hX.2.1 hX.2.2.2.1 (hX.2.2.2.2.1 _ hq) hd (h t ht hA ad H locs ls (hy.st ⟨trivial, hy.ok⟩))
theorem s_iload_n {e : Option T} {k : Fin 4} {x : Int32} (hX : CxOk X cc nL own rm) (hd : decode cc pc = .ok (.iload_n k, 1)) (hl : loc[(k : Nat)]? = some (some (.int x))) (h : Sim X nL A e ck sk (pc + 1) loc (.int x :: stk) M) : Sim X nL A e ck sk pc loc stk M :=
  fun t ht hA ad H locs ls hy => lv_iload_n hX.1 hX.2.1 hd rfl (hy.lr.2.2 _ _ hl) (h t ht hA ad H locs ls (hy.st ⟨trivial, hy.ok⟩))
theorem s_iload {e : Option T} {i : Nat} {x : Int32} (hX : CxOk X cc nL own rm) (hd : decode cc pc = .ok (.iload i, 2)) (hl : loc[i]? = some (some (.int x))) (h : Sim X nL A e ck sk (pc + 2) loc (.int x :: stk) M) : Sim X nL A e ck sk pc loc stk M :=
  fun t ht hA ad H locs ls hy => lv_iload hX.1 hX.2.1 hd (hy.lr.2.2 _ _ hl) (h t ht hA ad H locs ls (hy.st ⟨trivial, hy.ok⟩))
theorem s_lload_n {e : Option T} {k : Fin 4} {x : Int64} (hX : CxOk X cc nL own rm) (hd : decode cc pc = .ok (.lload_n k, 1)) (hl : loc[(k : Nat)]? = some (some (.long x))) (h : Sim X nL A e ck sk (pc + 1) loc (.long x :: stk) M) : Sim X nL A e ck sk pc loc stk M :=
  fun t ht hA ad H locs ls hy => lv_lload_n hX.1 hX.2.1 hd rfl (hy.lr.2.2 _ _ hl) (h t ht hA ad H locs ls (hy.st ⟨trivial, hy.ok⟩))
theorem s_lload {e : Option T} {i : Nat} {x : Int64} (hX : CxOk X cc nL own rm) (hd : decode cc pc = .ok (.lload i, 2)) (hl : loc[i]? = some (some (.long x))) (h : Sim X nL A e ck sk (pc + 2) loc (.long x :: stk) M) : Sim X nL A e ck sk pc loc stk M :=
  fun t ht hA ad H locs ls hy => lv_lload hX.1 hX.2.1 hd (hy.lr.2.2 _ _ hl) (h t ht hA ad H locs ls (hy.st ⟨trivial, hy.ok⟩))
theorem s_aload_n {e : Option T} {k : Fin 4} {x : Nat} (hX : CxOk X cc nL own rm) (hd : decode cc pc = .ok (.aload_n k, 1)) (hl : loc[(k : Nat)]? = some (some (.ref x))) (h : Sim X nL A e ck sk (pc + 1) loc (.ref x :: stk) M) : Sim X nL A e ck sk pc loc stk M :=
  fun t ht hA ad H locs ls hy => lv_aload_n hX.1 hX.2.1 hd rfl (hy.lr.2.2 _ _ hl) (h t ht hA ad H locs ls (hy.st ⟨(okc_at hy.oc hl), hy.ok⟩))
theorem s_aload {e : Option T} {i : Nat} {x : Nat} (hX : CxOk X cc nL own rm) (hd : decode cc pc = .ok (.aload i, 2)) (hl : loc[i]? = some (some (.ref x))) (h : Sim X nL A e ck sk (pc + 2) loc (.ref x :: stk) M) : Sim X nL A e ck sk pc loc stk M :=
  fun t ht hA ad H locs ls hy => lv_aload hX.1 hX.2.1 hd (hy.lr.2.2 _ _ hl) (h t ht hA ad H locs ls (hy.st ⟨(okc_at hy.oc hl), hy.ok⟩))
theorem s_kload_n {e : Option T} {k : Fin 4} {x : UInt32} (hX : CxOk X cc nL own rm) (hd : decode cc pc = .ok (.aload_n k, 1)) (hl : loc[(k : Nat)]? = some (some (.float x))) (h : Sim X nL A e ck sk (pc + 1) loc (.float x :: stk) M) : Sim X nL A e ck sk pc loc stk M :=
  fun t ht hA ad H locs ls hy => lv_aload_n (x := xkad X x.toNat) hX.1 hX.2.1 hd rfl (hy.lr.2.2 _ _ hl) (h t ht hA ad H locs ls (hy.st ⟨trivial, hy.ok⟩))
theorem s_kload {e : Option T} {i : Nat} {x : UInt32} (hX : CxOk X cc nL own rm) (hd : decode cc pc = .ok (.aload i, 2)) (hl : loc[i]? = some (some (.float x))) (h : Sim X nL A e ck sk (pc + 2) loc (.float x :: stk) M) : Sim X nL A e ck sk pc loc stk M :=
  fun t ht hA ad H locs ls hy => lv_aload (x := xkad X x.toNat) hX.1 hX.2.1 hd (hy.lr.2.2 _ _ hl) (h t ht hA ad H locs ls (hy.st ⟨trivial, hy.ok⟩))
theorem s_istoreG_n {e : Option T} {k : Fin 4} {i : Nat} {x : Int32} (hX : CxOk X cc nL own rm) (hd : decode cc pc = .ok (.istore_n k, 1)) (hi : (k : Nat) = i) (hn : i < nL) (hL : noLong loc i) (h : Sim X nL A e ck sk (pc + 1) (loc.set i (some (.int x))) stk M) : Sim X nL A e ck sk pc loc (.int x :: stk) M :=
  fun t ht hA ad H locs ls hy => lv_istore_n (lv := prs ad (xkad X) 0 loc) hX.1 hX.2.1 hd hi hy.lr.has hn rfl (fun ls1 hl1 => h t ht hA ad H locs ls1 ⟨hy.1, hy.2.1, hy.2.2.1, hy.2.2.2.1, hy.ok.2, okc_set hy.oc (fun v hv => by cases hv; exact trivial), lrel_st1 (x := .int x) hL hl1⟩)
theorem s_istoreG {e : Option T} {i : Nat} {x : Int32} (hX : CxOk X cc nL own rm) (hd : decode cc pc = .ok (.istore i, 2)) (hn : i < nL) (hL : noLong loc i) (h : Sim X nL A e ck sk (pc + 2) (loc.set i (some (.int x))) stk M) : Sim X nL A e ck sk pc loc (.int x :: stk) M :=
  fun t ht hA ad H locs ls hy => lv_istore (lv := prs ad (xkad X) 0 loc) hX.1 hX.2.1 hd hy.lr.has hn rfl (fun ls1 hl1 => h t ht hA ad H locs ls1 ⟨hy.1, hy.2.1, hy.2.2.1, hy.2.2.2.1, hy.ok.2, okc_set hy.oc (fun v hv => by cases hv; exact trivial), lrel_st1 (x := .int x) hL hl1⟩)
theorem s_lstoreG_n {e : Option T} {k : Fin 4} {i : Nat} {x : Int64} (hX : CxOk X cc nL own rm) (hd : decode cc pc = .ok (.lstore_n k, 1)) (hi : (k : Nat) = i) (hn : i + 1 < nL) (hL : noLong loc i) (h : Sim X nL A e ck sk (pc + 1) ((loc.set i (some (.long x))).set (i + 1) none) stk M) : Sim X nL A e ck sk pc loc (.long x :: stk) M :=
  fun t ht hA ad H locs ls hy => lv_lstore_n (lv := prs ad (xkad X) 0 loc) hX.1 hX.2.1 hd hi hy.lr.has hn rfl (fun ls1 hl1 => h t ht hA ad H locs ls1 ⟨hy.1, hy.2.1, hy.2.2.1, hy.2.2.2.1, hy.ok.2, okc_set (okc_set hy.oc (fun v hv => by cases hv; exact trivial)) (fun v hv => by cases hv), lrel_st2 (x := .long x) hL hl1⟩)
theorem s_lstoreG {e : Option T} {i : Nat} {x : Int64} (hX : CxOk X cc nL own rm) (hd : decode cc pc = .ok (.lstore i, 2)) (hn : i + 1 < nL) (hL : noLong loc i) (h : Sim X nL A e ck sk (pc + 2) ((loc.set i (some (.long x))).set (i + 1) none) stk M) : Sim X nL A e ck sk pc loc (.long x :: stk) M :=
  fun t ht hA ad H locs ls hy => lv_lstore (lv := prs ad (xkad X) 0 loc) hX.1 hX.2.1 hd hy.lr.has hn rfl (fun ls1 hl1 => h t ht hA ad H locs ls1 ⟨hy.1, hy.2.1, hy.2.2.1, hy.2.2.2.1, hy.ok.2, okc_set (okc_set hy.oc (fun v hv => by cases hv; exact trivial)) (fun v hv => by cases hv), lrel_st2 (x := .long x) hL hl1⟩)
theorem s_astoreG_n {e : Option T} {k : Fin 4} {i : Nat} {x : Nat} (hX : CxOk X cc nL own rm) (hd : decode cc pc = .ok (.astore_n k, 1)) (hi : (k : Nat) = i) (hn : i < nL) (hL : noLong loc i) (h : Sim X nL A e ck sk (pc + 1) (loc.set i (some (.ref x))) stk M) : Sim X nL A e ck sk pc loc (.ref x :: stk) M :=
  fun t ht hA ad H locs ls hy => lv_astore_n (x := ad x) (lv := prs ad (xkad X) 0 loc) hX.1 hX.2.1 hd hi hy.lr.has hn rfl (fun ls1 hl1 => h t ht hA ad H locs ls1 ⟨hy.1, hy.2.1, hy.2.2.1, hy.2.2.2.1, hy.ok.2, okc_set hy.oc (fun v hv => by cases hv; exact hy.ok.1), lrel_st1 (x := .ref x) hL hl1⟩)
theorem s_astoreG {e : Option T} {i : Nat} {x : Nat} (hX : CxOk X cc nL own rm) (hd : decode cc pc = .ok (.astore i, 2)) (hn : i < nL) (hL : noLong loc i) (h : Sim X nL A e ck sk (pc + 2) (loc.set i (some (.ref x))) stk M) : Sim X nL A e ck sk pc loc (.ref x :: stk) M :=
  fun t ht hA ad H locs ls hy => lv_astore (x := ad x) (lv := prs ad (xkad X) 0 loc) hX.1 hX.2.1 hd hy.lr.has hn rfl (fun ls1 hl1 => h t ht hA ad H locs ls1 ⟨hy.1, hy.2.1, hy.2.2.1, hy.2.2.2.1, hy.ok.2, okc_set hy.oc (fun v hv => by cases hv; exact hy.ok.1), lrel_st1 (x := .ref x) hL hl1⟩)
theorem s_kstoreG_n {e : Option T} {k : Fin 4} {i : Nat} {x : UInt32} (hX : CxOk X cc nL own rm) (hd : decode cc pc = .ok (.astore_n k, 1)) (hi : (k : Nat) = i) (hn : i < nL) (hL : noLong loc i) (h : Sim X nL A e ck sk (pc + 1) (loc.set i (some (.float x))) stk M) : Sim X nL A e ck sk pc loc (.float x :: stk) M :=
  fun t ht hA ad H locs ls hy => lv_astore_n (x := xkad X x.toNat) (lv := prs ad (xkad X) 0 loc) hX.1 hX.2.1 hd hi hy.lr.has hn rfl (fun ls1 hl1 => h t ht hA ad H locs ls1 ⟨hy.1, hy.2.1, hy.2.2.1, hy.2.2.2.1, hy.ok.2, okc_set hy.oc (fun v hv => by cases hv; exact trivial), lrel_st1 (x := .float x) hL hl1⟩)
theorem s_kstoreG {e : Option T} {i : Nat} {x : UInt32} (hX : CxOk X cc nL own rm) (hd : decode cc pc = .ok (.astore i, 2)) (hn : i < nL) (hL : noLong loc i) (h : Sim X nL A e ck sk (pc + 2) (loc.set i (some (.float x))) stk M) : Sim X nL A e ck sk pc loc (.float x :: stk) M :=
  fun t ht hA ad H locs ls hy => lv_astore (x := xkad X x.toNat) (lv := prs ad (xkad X) 0 loc) hX.1 hX.2.1 hd hy.lr.has hn rfl (fun ls1 hl1 => h t ht hA ad H locs ls1 ⟨hy.1, hy.2.1, hy.2.2.1, hy.2.2.2.1, hy.ok.2, okc_set hy.oc (fun v hv => by cases hv; exact trivial), lrel_st1 (x := .float x) hL hl1⟩)
theorem s_iincG {e : Option T} {i : Nat} {n : Int} {x v : Int32} (hX : CxOk X cc nL own rm) (hd : decode cc pc = .ok (.iinc i n, 3)) (hl : loc[i]? = some (some (.int x))) (hv : x + Int32.ofInt n = v) (hn : i < nL) (hL : noLong loc i) (h : Sim X nL A e ck sk (pc + 3) (loc.set i (some (.int v))) stk M) : Sim X nL A e ck sk pc loc stk M := by
  intro t ht hA ad H locs ls hy
  have hm : (i, Value.int x) ∈ prs ad (xkad X) 0 loc := by
    have := prs_of (ad := ad) (kad := xkad X) (k := 0) hl
    rwa [Nat.zero_add] at this
  obtain ⟨k, hk⟩ := List.getElem?_of_mem hm
  exact lv_iinc (lv := prs ad (xkad X) 0 loc) (k := k) hX.1 hX.2.1 hd hy.lr.has hk hv hn rfl (fun ls1 hl1 => h t ht hA ad H locs ls1 ⟨hy.1, hy.2.1, hy.2.2.1, hy.2.2.2.1, hy.ok, okc_set hy.oc (fun w hw => by cases hw; trivial), lrel_st1 (x := .int v) hL hl1⟩)
theorem s_istore0 {e : Option T} {y : Option Value} {l : List (Option Value)} {x : Int32} (hX : CxOk X cc nL own rm) (hd : decode cc pc = .ok (.istore_n 0, 1)) (hn : 0 < nL) (h : Sim X nL A e ck sk (pc + 1) (some (.int x) :: l) stk M) : Sim X nL A e ck sk pc (y :: l) (.int x :: stk) M :=
  s_istoreG_n (i := 0) hX hd rfl hn trivial h
theorem s_astore0 {e : Option T} {y : Option Value} {l : List (Option Value)} {x : Nat} (hX : CxOk X cc nL own rm) (hd : decode cc pc = .ok (.astore_n 0, 1)) (hn : 0 < nL) (h : Sim X nL A e ck sk (pc + 1) (some (.ref x) :: l) stk M) : Sim X nL A e ck sk pc (y :: l) (.ref x :: stk) M :=
  s_astoreG_n (i := 0) hX hd rfl hn trivial h
theorem s_kstore0 {e : Option T} {y : Option Value} {l : List (Option Value)} {x : UInt32} (hX : CxOk X cc nL own rm) (hd : decode cc pc = .ok (.astore_n 0, 1)) (hn : 0 < nL) (h : Sim X nL A e ck sk (pc + 1) (some (.float x) :: l) stk M) : Sim X nL A e ck sk pc (y :: l) (.float x :: stk) M :=
  s_kstoreG_n (i := 0) hX hd rfl hn trivial h
theorem s_lstore0 {e : Option T} {y z : Option Value} {l : List (Option Value)} {x : Int64} (hX : CxOk X cc nL own rm) (hd : decode cc pc = .ok (.lstore_n 0, 1)) (hn : 0 + 1 < nL) (h : Sim X nL A e ck sk (pc + 1) (some (.long x) :: none :: l) stk M) : Sim X nL A e ck sk pc (y :: z :: l) (.long x :: stk) M :=
  s_lstoreG_n (i := 0) hX hd rfl hn trivial h
theorem s_iinc0 {e : Option T} {l : List (Option Value)} {n : Int} {x v : Int32} (hX : CxOk X cc nL own rm) (hd : decode cc pc = .ok (.iinc 0 n, 3)) (hv : x + Int32.ofInt n = v) (hn : 0 < nL) (h : Sim X nL A e ck sk (pc + 3) (some (.int v) :: l) stk M) : Sim X nL A e ck sk pc (some (.int x) :: l) stk M :=
  s_iincG (i := 0) hX hd rfl hv hn trivial h
theorem s_istore1 {e : Option T} {o0 : Option Value} {y : Option Value} {l : List (Option Value)} {x : Int32} (hX : CxOk X cc nL own rm) (hd : decode cc pc = .ok (.istore_n 1, 1)) (hL : noLong [o0] 1) (hn : 1 < nL) (h : Sim X nL A e ck sk (pc + 1) (o0 :: some (.int x) :: l) stk M) : Sim X nL A e ck sk pc (o0 :: y :: l) (.int x :: stk) M :=
  s_istoreG_n (i := 1) hX hd rfl hn (by simpa [noLong] using hL) h
theorem s_astore1 {e : Option T} {o0 : Option Value} {y : Option Value} {l : List (Option Value)} {x : Nat} (hX : CxOk X cc nL own rm) (hd : decode cc pc = .ok (.astore_n 1, 1)) (hL : noLong [o0] 1) (hn : 1 < nL) (h : Sim X nL A e ck sk (pc + 1) (o0 :: some (.ref x) :: l) stk M) : Sim X nL A e ck sk pc (o0 :: y :: l) (.ref x :: stk) M :=
  s_astoreG_n (i := 1) hX hd rfl hn (by simpa [noLong] using hL) h
theorem s_kstore1 {e : Option T} {o0 : Option Value} {y : Option Value} {l : List (Option Value)} {x : UInt32} (hX : CxOk X cc nL own rm) (hd : decode cc pc = .ok (.astore_n 1, 1)) (hL : noLong [o0] 1) (hn : 1 < nL) (h : Sim X nL A e ck sk (pc + 1) (o0 :: some (.float x) :: l) stk M) : Sim X nL A e ck sk pc (o0 :: y :: l) (.float x :: stk) M :=
  s_kstoreG_n (i := 1) hX hd rfl hn (by simpa [noLong] using hL) h
theorem s_lstore1 {e : Option T} {o0 : Option Value} {y z : Option Value} {l : List (Option Value)} {x : Int64} (hX : CxOk X cc nL own rm) (hd : decode cc pc = .ok (.lstore_n 1, 1)) (hL : noLong [o0] 1) (hn : 1 + 1 < nL) (h : Sim X nL A e ck sk (pc + 1) (o0 :: some (.long x) :: none :: l) stk M) : Sim X nL A e ck sk pc (o0 :: y :: z :: l) (.long x :: stk) M :=
  s_lstoreG_n (i := 1) hX hd rfl hn (by simpa [noLong] using hL) h
theorem s_iinc1 {e : Option T} {o0 : Option Value} {l : List (Option Value)} {n : Int} {x v : Int32} (hX : CxOk X cc nL own rm) (hd : decode cc pc = .ok (.iinc 1 n, 3)) (hv : x + Int32.ofInt n = v) (hL : noLong [o0] 1) (hn : 1 < nL) (h : Sim X nL A e ck sk (pc + 3) (o0 :: some (.int v) :: l) stk M) : Sim X nL A e ck sk pc (o0 :: some (.int x) :: l) stk M :=
  s_iincG (i := 1) hX hd rfl hv hn (by simpa [noLong] using hL) h
theorem s_istore2 {e : Option T} {o0 o1 : Option Value} {y : Option Value} {l : List (Option Value)} {x : Int32} (hX : CxOk X cc nL own rm) (hd : decode cc pc = .ok (.istore_n 2, 1)) (hL : noLong [o0, o1] 2) (hn : 2 < nL) (h : Sim X nL A e ck sk (pc + 1) (o0 :: o1 :: some (.int x) :: l) stk M) : Sim X nL A e ck sk pc (o0 :: o1 :: y :: l) (.int x :: stk) M :=
  s_istoreG_n (i := 2) hX hd rfl hn (by simpa [noLong] using hL) h
theorem s_astore2 {e : Option T} {o0 o1 : Option Value} {y : Option Value} {l : List (Option Value)} {x : Nat} (hX : CxOk X cc nL own rm) (hd : decode cc pc = .ok (.astore_n 2, 1)) (hL : noLong [o0, o1] 2) (hn : 2 < nL) (h : Sim X nL A e ck sk (pc + 1) (o0 :: o1 :: some (.ref x) :: l) stk M) : Sim X nL A e ck sk pc (o0 :: o1 :: y :: l) (.ref x :: stk) M :=
  s_astoreG_n (i := 2) hX hd rfl hn (by simpa [noLong] using hL) h
theorem s_kstore2 {e : Option T} {o0 o1 : Option Value} {y : Option Value} {l : List (Option Value)} {x : UInt32} (hX : CxOk X cc nL own rm) (hd : decode cc pc = .ok (.astore_n 2, 1)) (hL : noLong [o0, o1] 2) (hn : 2 < nL) (h : Sim X nL A e ck sk (pc + 1) (o0 :: o1 :: some (.float x) :: l) stk M) : Sim X nL A e ck sk pc (o0 :: o1 :: y :: l) (.float x :: stk) M :=
  s_kstoreG_n (i := 2) hX hd rfl hn (by simpa [noLong] using hL) h
theorem s_lstore2 {e : Option T} {o0 o1 : Option Value} {y z : Option Value} {l : List (Option Value)} {x : Int64} (hX : CxOk X cc nL own rm) (hd : decode cc pc = .ok (.lstore_n 2, 1)) (hL : noLong [o0, o1] 2) (hn : 2 + 1 < nL) (h : Sim X nL A e ck sk (pc + 1) (o0 :: o1 :: some (.long x) :: none :: l) stk M) : Sim X nL A e ck sk pc (o0 :: o1 :: y :: z :: l) (.long x :: stk) M :=
  s_lstoreG_n (i := 2) hX hd rfl hn (by simpa [noLong] using hL) h
theorem s_iinc2 {e : Option T} {o0 o1 : Option Value} {l : List (Option Value)} {n : Int} {x v : Int32} (hX : CxOk X cc nL own rm) (hd : decode cc pc = .ok (.iinc 2 n, 3)) (hv : x + Int32.ofInt n = v) (hL : noLong [o0, o1] 2) (hn : 2 < nL) (h : Sim X nL A e ck sk (pc + 3) (o0 :: o1 :: some (.int v) :: l) stk M) : Sim X nL A e ck sk pc (o0 :: o1 :: some (.int x) :: l) stk M :=
  s_iincG (i := 2) hX hd rfl hv hn (by simpa [noLong] using hL) h
theorem s_istore3 {e : Option T} {o0 o1 o2 : Option Value} {y : Option Value} {l : List (Option Value)} {x : Int32} (hX : CxOk X cc nL own rm) (hd : decode cc pc = .ok (.istore_n 3, 1)) (hL : noLong [o0, o1, o2] 3) (hn : 3 < nL) (h : Sim X nL A e ck sk (pc + 1) (o0 :: o1 :: o2 :: some (.int x) :: l) stk M) : Sim X nL A e ck sk pc (o0 :: o1 :: o2 :: y :: l) (.int x :: stk) M :=
  s_istoreG_n (i := 3) hX hd rfl hn (by simpa [noLong] using hL) h
theorem s_astore3 {e : Option T} {o0 o1 o2 : Option Value} {y : Option Value} {l : List (Option Value)} {x : Nat} (hX : CxOk X cc nL own rm) (hd : decode cc pc = .ok (.astore_n 3, 1)) (hL : noLong [o0, o1, o2] 3) (hn : 3 < nL) (h : Sim X nL A e ck sk (pc + 1) (o0 :: o1 :: o2 :: some (.ref x) :: l) stk M) : Sim X nL A e ck sk pc (o0 :: o1 :: o2 :: y :: l) (.ref x :: stk) M :=
  s_astoreG_n (i := 3) hX hd rfl hn (by simpa [noLong] using hL) h
theorem s_kstore3 {e : Option T} {o0 o1 o2 : Option Value} {y : Option Value} {l : List (Option Value)} {x : UInt32} (hX : CxOk X cc nL own rm) (hd : decode cc pc = .ok (.astore_n 3, 1)) (hL : noLong [o0, o1, o2] 3) (hn : 3 < nL) (h : Sim X nL A e ck sk (pc + 1) (o0 :: o1 :: o2 :: some (.float x) :: l) stk M) : Sim X nL A e ck sk pc (o0 :: o1 :: o2 :: y :: l) (.float x :: stk) M :=
  s_kstoreG_n (i := 3) hX hd rfl hn (by simpa [noLong] using hL) h
theorem s_lstore3 {e : Option T} {o0 o1 o2 : Option Value} {y z : Option Value} {l : List (Option Value)} {x : Int64} (hX : CxOk X cc nL own rm) (hd : decode cc pc = .ok (.lstore_n 3, 1)) (hL : noLong [o0, o1, o2] 3) (hn : 3 + 1 < nL) (h : Sim X nL A e ck sk (pc + 1) (o0 :: o1 :: o2 :: some (.long x) :: none :: l) stk M) : Sim X nL A e ck sk pc (o0 :: o1 :: o2 :: y :: z :: l) (.long x :: stk) M :=
  s_lstoreG_n (i := 3) hX hd rfl hn (by simpa [noLong] using hL) h
theorem s_iinc3 {e : Option T} {o0 o1 o2 : Option Value} {l : List (Option Value)} {n : Int} {x v : Int32} (hX : CxOk X cc nL own rm) (hd : decode cc pc = .ok (.iinc 3 n, 3)) (hv : x + Int32.ofInt n = v) (hL : noLong [o0, o1, o2] 3) (hn : 3 < nL) (h : Sim X nL A e ck sk (pc + 3) (o0 :: o1 :: o2 :: some (.int v) :: l) stk M) : Sim X nL A e ck sk pc (o0 :: o1 :: o2 :: some (.int x) :: l) stk M :=
  s_iincG (i := 3) hX hd rfl hv hn (by simpa [noLong] using hL) h
theorem s_istore4 {e : Option T} {o0 o1 o2 o3 : Option Value} {y : Option Value} {l : List (Option Value)} {x : Int32} (hX : CxOk X cc nL own rm) (hd : decode cc pc = .ok (.istore 4, 2)) (hL : noLong [o0, o1, o2, o3] 4) (hn : 4 < nL) (h : Sim X nL A e ck sk (pc + 2) (o0 :: o1 :: o2 :: o3 :: some (.int x) :: l) stk M) : Sim X nL A e ck sk pc (o0 :: o1 :: o2 :: o3 :: y :: l) (.int x :: stk) M :=
  s_istoreG (i := 4) hX hd hn (by simpa [noLong] using hL) h
theorem s_astore4 {e : Option T} {o0 o1 o2 o3 : Option Value} {y : Option Value} {l : List (Option Value)} {x : Nat} (hX : CxOk X cc nL own rm) (hd : decode cc pc = .ok (.astore 4, 2)) (hL : noLong [o0, o1, o2, o3] 4) (hn : 4 < nL) (h : Sim X nL A e ck sk (pc + 2) (o0 :: o1 :: o2 :: o3 :: some (.ref x) :: l) stk M) : Sim X nL A e ck sk pc (o0 :: o1 :: o2 :: o3 :: y :: l) (.ref x :: stk) M :=
  s_astoreG (i := 4) hX hd hn (by simpa [noLong] using hL) h
theorem s_kstore4 {e : Option T} {o0 o1 o2 o3 : Option Value} {y : Option Value} {l : List (Option Value)} {x : UInt32} (hX : CxOk X cc nL own rm) (hd : decode cc pc = .ok (.astore 4, 2)) (hL : noLong [o0, o1, o2, o3] 4) (hn : 4 < nL) (h : Sim X nL A e ck sk (pc + 2) (o0 :: o1 :: o2 :: o3 :: some (.float x) :: l) stk M) : Sim X nL A e ck sk pc (o0 :: o1 :: o2 :: o3 :: y :: l) (.float x :: stk) M :=
  s_kstoreG (i := 4) hX hd hn (by simpa [noLong] using hL) h
theorem s_lstore4 {e : Option T} {o0 o1 o2 o3 : Option Value} {y z : Option Value} {l : List (Option Value)} {x : Int64} (hX : CxOk X cc nL own rm) (hd : decode cc pc = .ok (.lstore 4, 2)) (hL : noLong [o0, o1, o2, o3] 4) (hn : 4 + 1 < nL) (h : Sim X nL A e ck sk (pc + 2) (o0 :: o1 :: o2 :: o3 :: some (.long x) :: none :: l) stk M) : Sim X nL A e ck sk pc (o0 :: o1 :: o2 :: o3 :: y :: z :: l) (.long x :: stk) M :=
  s_lstoreG (i := 4) hX hd hn (by simpa [noLong] using hL) h
theorem s_iinc4 {e : Option T} {o0 o1 o2 o3 : Option Value} {l : List (Option Value)} {n : Int} {x v : Int32} (hX : CxOk X cc nL own rm) (hd : decode cc pc = .ok (.iinc 4 n, 3)) (hv : x + Int32.ofInt n = v) (hL : noLong [o0, o1, o2, o3] 4) (hn : 4 < nL) (h : Sim X nL A e ck sk (pc + 3) (o0 :: o1 :: o2 :: o3 :: some (.int v) :: l) stk M) : Sim X nL A e ck sk pc (o0 :: o1 :: o2 :: o3 :: some (.int x) :: l) stk M :=
  s_iincG (i := 4) hX hd rfl hv hn (by simpa [noLong] using hL) h
theorem s_istore5 {e : Option T} {o0 o1 o2 o3 o4 : Option Value} {y : Option Value} {l : List (Option Value)} {x : Int32} (hX : CxOk X cc nL own rm) (hd : decode cc pc = .ok (.istore 5, 2)) (hL : noLong [o0, o1, o2, o3, o4] 5) (hn : 5 < nL) (h : Sim X nL A e ck sk (pc + 2) (o0 :: o1 :: o2 :: o3 :: o4 :: some (.int x) :: l) stk M) : Sim X nL A e ck sk pc (o0 :: o1 :: o2 :: o3 :: o4 :: y :: l) (.int x :: stk) M :=
  s_istoreG (i := 5) hX hd hn (by simpa [noLong] using hL) h
theorem s_astore5 {e : Option T} {o0 o1 o2 o3 o4 : Option Value} {y : Option Value} {l : List (Option Value)} {x : Nat} (hX : CxOk X cc nL own rm) (hd : decode cc pc = .ok (.astore 5, 2)) (hL : noLong [o0, o1, o2, o3, o4] 5) (hn : 5 < nL) (h : Sim X nL A e ck sk (pc + 2) (o0 :: o1 :: o2 :: o3 :: o4 :: some (.ref x) :: l) stk M) : Sim X nL A e ck sk pc (o0 :: o1 :: o2 :: o3 :: o4 :: y :: l) (.ref x :: stk) M :=
  s_astoreG (i := 5) hX hd hn (by simpa [noLong] using hL) h
theorem s_kstore5 {e : Option T} {o0 o1 o2 o3 o4 : Option Value} {y : Option Value} {l : List (Option Value)} {x : UInt32} (hX : CxOk X cc nL own rm) (hd : decode cc pc = .ok (.astore 5, 2)) (hL : noLong [o0, o1, o2, o3, o4] 5) (hn : 5 < nL) (h : Sim X nL A e ck sk (pc + 2) (o0 :: o1 :: o2 :: o3 :: o4 :: some (.float x) :: l) stk M) : Sim X nL A e ck sk pc (o0 :: o1 :: o2 :: o3 :: o4 :: y :: l) (.float x :: stk) M :=
  s_kstoreG (i := 5) hX hd hn (by simpa [noLong] using hL) h
theorem s_lstore5 {e : Option T} {o0 o1 o2 o3 o4 : Option Value} {y z : Option Value} {l : List (Option Value)} {x : Int64} (hX : CxOk X cc nL own rm) (hd : decode cc pc = .ok (.lstore 5, 2)) (hL : noLong [o0, o1, o2, o3, o4] 5) (hn : 5 + 1 < nL) (h : Sim X nL A e ck sk (pc + 2) (o0 :: o1 :: o2 :: o3 :: o4 :: some (.long x) :: none :: l) stk M) : Sim X nL A e ck sk pc (o0 :: o1 :: o2 :: o3 :: o4 :: y :: z :: l) (.long x :: stk) M :=
  s_lstoreG (i := 5) hX hd hn (by simpa [noLong] using hL) h
theorem s_iinc5 {e : Option T} {o0 o1 o2 o3 o4 : Option Value} {l : List (Option Value)} {n : Int} {x v : Int32} (hX : CxOk X cc nL own rm) (hd : decode cc pc = .ok (.iinc 5 n, 3)) (hv : x + Int32.ofInt n = v) (hL : noLong [o0, o1, o2, o3, o4] 5) (hn : 5 < nL) (h : Sim X nL A e ck sk (pc + 3) (o0 :: o1 :: o2 :: o3 :: o4 :: some (.int v) :: l) stk M) : Sim X nL A e ck sk pc (o0 :: o1 :: o2 :: o3 :: o4 :: some (.int x) :: l) stk M :=
  s_iincG (i := 5) hX hd rfl hv hn (by simpa [noLong] using hL) h
theorem s_istore6 {e : Option T} {o0 o1 o2 o3 o4 o5 : Option Value} {y : Option Value} {l : List (Option Value)} {x : Int32} (hX : CxOk X cc nL own rm) (hd : decode cc pc = .ok (.istore 6, 2)) (hL : noLong [o0, o1, o2, o3, o4, o5] 6) (hn : 6 < nL) (h : Sim X nL A e ck sk (pc + 2) (o0 :: o1 :: o2 :: o3 :: o4 :: o5 :: some (.int x) :: l) stk M) : Sim X nL A e ck sk pc (o0 :: o1 :: o2 :: o3 :: o4 :: o5 :: y :: l) (.int x :: stk) M :=
  s_istoreG (i := 6) hX hd hn (by simpa [noLong] using hL) h
theorem s_astore6 {e : Option T} {o0 o1 o2 o3 o4 o5 : Option Value} {y : Option Value} {l : List (Option Value)} {x : Nat} (hX : CxOk X cc nL own rm) (hd : decode cc pc = .ok (.astore 6, 2)) (hL : noLong [o0, o1, o2, o3, o4, o5] 6) (hn : 6 < nL) (h : Sim X nL A e ck sk (pc + 2) (o0 :: o1 :: o2 :: o3 :: o4 :: o5 :: some (.ref x) :: l) stk M) : Sim X nL A e ck sk pc (o0 :: o1 :: o2 :: o3 :: o4 :: o5 :: y :: l) (.ref x :: stk) M :=
  s_astoreG (i := 6) hX hd hn (by simpa [noLong] using hL) h
theorem s_kstore6 {e : Option T} {o0 o1 o2 o3 o4 o5 : Option Value} {y : Option Value} {l : List (Option Value)} {x : UInt32} (hX : CxOk X cc nL own rm) (hd : decode cc pc = .ok (.astore 6, 2)) (hL : noLong [o0, o1, o2, o3, o4, o5] 6) (hn : 6 < nL) (h : Sim X nL A e ck sk (pc + 2) (o0 :: o1 :: o2 :: o3 :: o4 :: o5 :: some (.float x) :: l) stk M) : Sim X nL A e ck sk pc (o0 :: o1 :: o2 :: o3 :: o4 :: o5 :: y :: l) (.float x :: stk) M :=
  s_kstoreG (i := 6) hX hd hn (by simpa [noLong] using hL) h
theorem s_lstore6 {e : Option T} {o0 o1 o2 o3 o4 o5 : Option Value} {y z : Option Value} {l : List (Option Value)} {x : Int64} (hX : CxOk X cc nL own rm) (hd : decode cc pc = .ok (.lstore 6, 2)) (hL : noLong [o0, o1, o2, o3, o4, o5] 6) (hn : 6 + 1 < nL) (h : Sim X nL A e ck sk (pc + 2) (o0 :: o1 :: o2 :: o3 :: o4 :: o5 :: some (.long x) :: none :: l) stk M) : Sim X nL A e ck sk pc (o0 :: o1 :: o2 :: o3 :: o4 :: o5 :: y :: z :: l) (.long x :: stk) M :=
  s_lstoreG (i := 6) hX hd hn (by simpa [noLong] using hL) h
theorem s_iinc6 {e : Option T} {o0 o1 o2 o3 o4 o5 : Option Value} {l : List (Option Value)} {n : Int} {x v : Int32} (hX : CxOk X cc nL own rm) (hd : decode cc pc = .ok (.iinc 6 n, 3)) (hv : x + Int32.ofInt n = v) (hL : noLong [o0, o1, o2, o3, o4, o5] 6) (hn : 6 < nL) (h : Sim X nL A e ck sk (pc + 3) (o0 :: o1 :: o2 :: o3 :: o4 :: o5 :: some (.int v) :: l) stk M) : Sim X nL A e ck sk pc (o0 :: o1 :: o2 :: o3 :: o4 :: o5 :: some (.int x) :: l) stk M :=
  s_iincG (i := 6) hX hd rfl hv hn (by simpa [noLong] using hL) h
theorem s_istore7 {e : Option T} {o0 o1 o2 o3 o4 o5 o6 : Option Value} {y : Option Value} {l : List (Option Value)} {x : Int32} (hX : CxOk X cc nL own rm) (hd : decode cc pc = .ok (.istore 7, 2)) (hL : noLong [o0, o1, o2, o3, o4, o5, o6] 7) (hn : 7 < nL) (h : Sim X nL A e ck sk (pc + 2) (o0 :: o1 :: o2 :: o3 :: o4 :: o5 :: o6 :: some (.int x) :: l) stk M) : Sim X nL A e ck sk pc (o0 :: o1 :: o2 :: o3 :: o4 :: o5 :: o6 :: y :: l) (.int x :: stk) M :=
  s_istoreG (i := 7) hX hd hn (by simpa [noLong] using hL) h
theorem s_astore7 {e : Option T} {o0 o1 o2 o3 o4 o5 o6 : Option Value} {y : Option Value} {l : List (Option Value)} {x : Nat} (hX : CxOk X cc nL own rm) (hd : decode cc pc = .ok (.astore 7, 2)) (hL : noLong [o0, o1, o2, o3, o4, o5, o6] 7) (hn : 7 < nL) (h : Sim X nL A e ck sk (pc + 2) (o0 :: o1 :: o2 :: o3 :: o4 :: o5 :: o6 :: some (.ref x) :: l) stk M) : Sim X nL A e ck sk pc (o0 :: o1 :: o2 :: o3 :: o4 :: o5 :: o6 :: y :: l) (.ref x :: stk) M :=
  s_astoreG (i := 7) hX hd hn (by simpa [noLong] using hL) h
theorem s_kstore7 {e : Option T} {o0 o1 o2 o3 o4 o5 o6 : Option Value} {y : Option Value} {l : List (Option Value)} {x : UInt32} (hX : CxOk X cc nL own rm) (hd : decode cc pc = .ok (.astore 7, 2)) (hL : noLong [o0, o1, o2, o3, o4, o5, o6] 7) (hn : 7 < nL) (h : Sim X nL A e ck sk (pc + 2) (o0 :: o1 :: o2 :: o3 :: o4 :: o5 :: o6 :: some (.float x) :: l) stk M) : Sim X nL A e ck sk pc (o0 :: o1 :: o2 :: o3 :: o4 :: o5 :: o6 :: y :: l) (.float x :: stk) M :=
  s_kstoreG (i := 7) hX hd hn (by simpa [noLong] using hL) h
theorem s_lstore7 {e : Option T} {o0 o1 o2 o3 o4 o5 o6 : Option Value} {y z : Option Value} {l : List (Option Value)} {x : Int64} (hX : CxOk X cc nL own rm) (hd : decode cc pc = .ok (.lstore 7, 2)) (hL : noLong [o0, o1, o2, o3, o4, o5, o6] 7) (hn : 7 + 1 < nL) (h : Sim X nL A e ck sk (pc + 2) (o0 :: o1 :: o2 :: o3 :: o4 :: o5 :: o6 :: some (.long x) :: none :: l) stk M) : Sim X nL A e ck sk pc (o0 :: o1 :: o2 :: o3 :: o4 :: o5 :: o6 :: y :: z :: l) (.long x :: stk) M :=
  s_lstoreG (i := 7) hX hd hn (by simpa [noLong] using hL) h
theorem s_iinc7 {e : Option T} {o0 o1 o2 o3 o4 o5 o6 : Option Value} {l : List (Option Value)} {n : Int} {x v : Int32} (hX : CxOk X cc nL own rm) (hd : decode cc pc = .ok (.iinc 7 n, 3)) (hv : x + Int32.ofInt n = v) (hL : noLong [o0, o1, o2, o3, o4, o5, o6] 7) (hn : 7 < nL) (h : Sim X nL A e ck sk (pc + 3) (o0 :: o1 :: o2 :: o3 :: o4 :: o5 :: o6 :: some (.int v) :: l) stk M) : Sim X nL A e ck sk pc (o0 :: o1 :: o2 :: o3 :: o4 :: o5 :: o6 :: some (.int x) :: l) stk M :=
  s_iincG (i := 7) hX hd rfl hv hn (by simpa [noLong] using hL) h
theorem s_istore8 {e : Option T} {o0 o1 o2 o3 o4 o5 o6 o7 : Option Value} {y : Option Value} {l : List (Option Value)} {x : Int32} (hX : CxOk X cc nL own rm) (hd : decode cc pc = .ok (.istore 8, 2)) (hL : noLong [o0, o1, o2, o3, o4, o5, o6, o7] 8) (hn : 8 < nL) (h : Sim X nL A e ck sk (pc + 2) (o0 :: o1 :: o2 :: o3 :: o4 :: o5 :: o6 :: o7 :: some (.int x) :: l) stk M) : Sim X nL A e ck sk pc (o0 :: o1 :: o2 :: o3 :: o4 :: o5 :: o6 :: o7 :: y :: l) (.int x :: stk) M :=
  s_istoreG (i := 8) hX hd hn (by simpa [noLong] using hL) h
theorem s_astore8 {e : Option T} {o0 o1 o2 o3 o4 o5 o6 o7 : Option Value} {y : Option Value} {l : List (Option Value)} {x : Nat} (hX : CxOk X cc nL own rm) (hd : decode cc pc = .ok (.astore 8, 2)) (hL : noLong [o0, o1, o2, o3, o4, o5, o6, o7] 8) (hn : 8 < nL) (h : Sim X nL A e ck sk (pc + 2) (o0 :: o1 :: o2 :: o3 :: o4 :: o5 :: o6 :: o7 :: some (.ref x) :: l) stk M) : Sim X nL A e ck sk pc (o0 :: o1 :: o2 :: o3 :: o4 :: o5 :: o6 :: o7 :: y :: l) (.ref x :: stk) M :=
  s_astoreG (i := 8) hX hd hn (by simpa [noLong] using hL) h
theorem s_kstore8 {e : Option T} {o0 o1 o2 o3 o4 o5 o6 o7 : Option Value} {y : Option Value} {l : List (Option Value)} {x : UInt32} (hX : CxOk X cc nL own rm) (hd : decode cc pc = .ok (.astore 8, 2)) (hL : noLong [o0, o1, o2, o3, o4, o5, o6, o7] 8) (hn : 8 < nL) (h : Sim X nL A e ck sk (pc + 2) (o0 :: o1 :: o2 :: o3 :: o4 :: o5 :: o6 :: o7 :: some (.float x) :: l) stk M) : Sim X nL A e ck sk pc (o0 :: o1 :: o2 :: o3 :: o4 :: o5 :: o6 :: o7 :: y :: l) (.float x :: stk) M :=
  s_kstoreG (i := 8) hX hd hn (by simpa [noLong] using hL) h
theorem s_lstore8 {e : Option T} {o0 o1 o2 o3 o4 o5 o6 o7 : Option Value} {y z : Option Value} {l : List (Option Value)} {x : Int64} (hX : CxOk X cc nL own rm) (hd : decode cc pc = .ok (.lstore 8, 2)) (hL : noLong [o0, o1, o2, o3, o4, o5, o6, o7] 8) (hn : 8 + 1 < nL) (h : Sim X nL A e ck sk (pc + 2) (o0 :: o1 :: o2 :: o3 :: o4 :: o5 :: o6 :: o7 :: some (.long x) :: none :: l) stk M) : Sim X nL A e ck sk pc (o0 :: o1 :: o2 :: o3 :: o4 :: o5 :: o6 :: o7 :: y :: z :: l) (.long x :: stk) M :=
  s_lstoreG (i := 8) hX hd hn (by simpa [noLong] using hL) h
theorem s_iinc8 {e : Option T} {o0 o1 o2 o3 o4 o5 o6 o7 : Option Value} {l : List (Option Value)} {n : Int} {x v : Int32} (hX : CxOk X cc nL own rm) (hd : decode cc pc = .ok (.iinc 8 n, 3)) (hv : x + Int32.ofInt n = v) (hL : noLong [o0, o1, o2, o3, o4, o5, o6, o7] 8) (hn : 8 < nL) (h : Sim X nL A e ck sk (pc + 3) (o0 :: o1 :: o2 :: o3 :: o4 :: o5 :: o6 :: o7 :: some (.int v) :: l) stk M) : Sim X nL A e ck sk pc (o0 :: o1 :: o2 :: o3 :: o4 :: o5 :: o6 :: o7 :: some (.int x) :: l) stk M :=
  s_iincG (i := 8) hX hd rfl hv hn (by simpa [noLong] using hL) h
theorem s_istore9 {e : Option T} {o0 o1 o2 o3 o4 o5 o6 o7 o8 : Option Value} {y : Option Value} {l : List (Option Value)} {x : Int32} (hX : CxOk X cc nL own rm) (hd : decode cc pc = .ok (.istore 9, 2)) (hL : noLong [o0, o1, o2, o3, o4, o5, o6, o7, o8] 9) (hn : 9 < nL) (h : Sim X nL A e ck sk (pc + 2) (o0 :: o1 :: o2 :: o3 :: o4 :: o5 :: o6 :: o7 :: o8 :: some (.int x) :: l) stk M) : Sim X nL A e ck sk pc (o0 :: o1 :: o2 :: o3 :: o4 :: o5 :: o6 :: o7 :: o8 :: y :: l) (.int x :: stk) M :=
  s_istoreG (i := 9) hX hd hn (by simpa [noLong] using hL) h
theorem s_astore9 {e : Option T} {o0 o1 o2 o3 o4 o5 o6 o7 o8 : Option Value} {y : Option Value} {l : List (Option Value)} {x : Nat} (hX : CxOk X cc nL own rm) (hd : decode cc pc = .ok (.astore 9, 2)) (hL : noLong [o0, o1, o2, o3, o4, o5, o6, o7, o8] 9) (hn : 9 < nL) (h : Sim X nL A e ck sk (pc + 2) (o0 :: o1 :: o2 :: o3 :: o4 :: o5 :: o6 :: o7 :: o8 :: some (.ref x) :: l) stk M) : Sim X nL A e ck sk pc (o0 :: o1 :: o2 :: o3 :: o4 :: o5 :: o6 :: o7 :: o8 :: y :: l) (.ref x :: stk) M :=
  s_astoreG (i := 9) hX hd hn (by simpa [noLong] using hL) h
theorem s_kstore9 {e : Option T} {o0 o1 o2 o3 o4 o5 o6 o7 o8 : Option Value} {y : Option Value} {l : List (Option Value)} {x : UInt32} (hX : CxOk X cc nL own rm) (hd : decode cc pc = .ok (.astore 9, 2)) (hL : noLong [o0, o1, o2, o3, o4, o5, o6, o7, o8] 9) (hn : 9 < nL) (h : Sim X nL A e ck sk (pc + 2) (o0 :: o1 :: o2 :: o3 :: o4 :: o5 :: o6 :: o7 :: o8 :: some (.float x) :: l) stk M) : Sim X nL A e ck sk pc (o0 :: o1 :: o2 :: o3 :: o4 :: o5 :: o6 :: o7 :: o8 :: y :: l) (.float x :: stk) M :=
  s_kstoreG (i := 9) hX hd hn (by simpa [noLong] using hL) h
theorem s_lstore9 {e : Option T} {o0 o1 o2 o3 o4 o5 o6 o7 o8 : Option Value} {y z : Option Value} {l : List (Option Value)} {x : Int64} (hX : CxOk X cc nL own rm) (hd : decode cc pc = .ok (.lstore 9, 2)) (hL : noLong [o0, o1, o2, o3, o4, o5, o6, o7, o8] 9) (hn : 9 + 1 < nL) (h : Sim X nL A e ck sk (pc + 2) (o0 :: o1 :: o2 :: o3 :: o4 :: o5 :: o6 :: o7 :: o8 :: some (.long x) :: none :: l) stk M) : Sim X nL A e ck sk pc (o0 :: o1 :: o2 :: o3 :: o4 :: o5 :: o6 :: o7 :: o8 :: y :: z :: l) (.long x :: stk) M :=
  s_lstoreG (i := 9) hX hd hn (by simpa [noLong] using hL) h
theorem s_iinc9 {e : Option T} {o0 o1 o2 o3 o4 o5 o6 o7 o8 : Option Value} {l : List (Option Value)} {n : Int} {x v : Int32} (hX : CxOk X cc nL own rm) (hd : decode cc pc = .ok (.iinc 9 n, 3)) (hv : x + Int32.ofInt n = v) (hL : noLong [o0, o1, o2, o3, o4, o5, o6, o7, o8] 9) (hn : 9 < nL) (h : Sim X nL A e ck sk (pc + 3) (o0 :: o1 :: o2 :: o3 :: o4 :: o5 :: o6 :: o7 :: o8 :: some (.int v) :: l) stk M) : Sim X nL A e ck sk pc (o0 :: o1 :: o2 :: o3 :: o4 :: o5 :: o6 :: o7 :: o8 :: some (.int x) :: l) stk M :=
  s_iincG (i := 9) hX hd rfl hv hn (by simpa [noLong] using hL) h
theorem s_istore10 {e : Option T} {o0 o1 o2 o3 o4 o5 o6 o7 o8 o9 : Option Value} {y : Option Value} {l : List (Option Value)} {x : Int32} (hX : CxOk X cc nL own rm) (hd : decode cc pc = .ok (.istore 10, 2)) (hL : noLong [o0, o1, o2, o3, o4, o5, o6, o7, o8, o9] 10) (hn : 10 < nL) (h : Sim X nL A e ck sk (pc + 2) (o0 :: o1 :: o2 :: o3 :: o4 :: o5 :: o6 :: o7 :: o8 :: o9 :: some (.int x) :: l) stk M) : Sim X nL A e ck sk pc (o0 :: o1 :: o2 :: o3 :: o4 :: o5 :: o6 :: o7 :: o8 :: o9 :: y :: l) (.int x :: stk) M :=
  s_istoreG (i := 10) hX hd hn (by simpa [noLong] using hL) h
theorem s_astore10 {e : Option T} {o0 o1 o2 o3 o4 o5 o6 o7 o8 o9 : Option Value} {y : Option Value} {l : List (Option Value)} {x : Nat} (hX : CxOk X cc nL own rm) (hd : decode cc pc = .ok (.astore 10, 2)) (hL : noLong [o0, o1, o2, o3, o4, o5, o6, o7, o8, o9] 10) (hn : 10 < nL) (h : Sim X nL A e ck sk (pc + 2) (o0 :: o1 :: o2 :: o3 :: o4 :: o5 :: o6 :: o7 :: o8 :: o9 :: some (.ref x) :: l) stk M) : Sim X nL A e ck sk pc (o0 :: o1 :: o2 :: o3 :: o4 :: o5 :: o6 :: o7 :: o8 :: o9 :: y :: l) (.ref x :: stk) M :=
  s_astoreG (i := 10) hX hd hn (by simpa [noLong] using hL) h
theorem s_kstore10 {e : Option T} {o0 o1 o2 o3 o4 o5 o6 o7 o8 o9 : Option Value} {y : Option Value} {l : List (Option Value)} {x : UInt32} (hX : CxOk X cc nL own rm) (hd : decode cc pc = .ok (.astore 10, 2)) (hL : noLong [o0, o1, o2, o3, o4, o5, o6, o7, o8, o9] 10) (hn : 10 < nL) (h : Sim X nL A e ck sk (pc + 2) (o0 :: o1 :: o2 :: o3 :: o4 :: o5 :: o6 :: o7 :: o8 :: o9 :: some (.float x) :: l) stk M) : Sim X nL A e ck sk pc (o0 :: o1 :: o2 :: o3 :: o4 :: o5 :: o6 :: o7 :: o8 :: o9 :: y :: l) (.float x :: stk) M :=
  s_kstoreG (i := 10) hX hd hn (by simpa [noLong] using hL) h
theorem s_lstore10 {e : Option T} {o0 o1 o2 o3 o4 o5 o6 o7 o8 o9 : Option Value} {y z : Option Value} {l : List (Option Value)} {x : Int64} (hX : CxOk X cc nL own rm) (hd : decode cc pc = .ok (.lstore 10, 2)) (hL : noLong [o0, o1, o2, o3, o4, o5, o6, o7, o8, o9] 10) (hn : 10 + 1 < nL) (h : Sim X nL A e ck sk (pc + 2) (o0 :: o1 :: o2 :: o3 :: o4 :: o5 :: o6 :: o7 :: o8 :: o9 :: some (.long x) :: none :: l) stk M) : Sim X nL A e ck sk pc (o0 :: o1 :: o2 :: o3 :: o4 :: o5 :: o6 :: o7 :: o8 :: o9 :: y :: z :: l) (.long x :: stk) M :=
  s_lstoreG (i := 10) hX hd hn (by simpa [noLong] using hL) h
theorem s_iinc10 {e : Option T} {o0 o1 o2 o3 o4 o5 o6 o7 o8 o9 : Option Value} {l : List (Option Value)} {n : Int} {x v : Int32} (hX : CxOk X cc nL own rm) (hd : decode cc pc = .ok (.iinc 10 n, 3)) (hv : x + Int32.ofInt n = v) (hL : noLong [o0, o1, o2, o3, o4, o5, o6, o7, o8, o9] 10) (hn : 10 < nL) (h : Sim X nL A e ck sk (pc + 3) (o0 :: o1 :: o2 :: o3 :: o4 :: o5 :: o6 :: o7 :: o8 :: o9 :: some (.int v) :: l) stk M) : Sim X nL A e ck sk pc (o0 :: o1 :: o2 :: o3 :: o4 :: o5 :: o6 :: o7 :: o8 :: o9 :: some (.int x) :: l) stk M :=
  s_iincG (i := 10) hX hd rfl hv hn (by simpa [noLong] using hL) h
theorem s_istore11 {e : Option T} {o0 o1 o2 o3 o4 o5 o6 o7 o8 o9 o10 : Option Value} {y : Option Value} {l : List (Option Value)} {x : Int32} (hX : CxOk X cc nL own rm) (hd : decode cc pc = .ok (.istore 11, 2)) (hL : noLong [o0, o1, o2, o3, o4, o5, o6, o7, o8, o9, o10] 11) (hn : 11 < nL) (h : Sim X nL A e ck sk (pc + 2) (o0 :: o1 :: o2 :: o3 :: o4 :: o5 :: o6 :: o7 :: o8 :: o9 :: o10 :: some (.int x) :: l) stk M) : Sim X nL A e ck sk pc (o0 :: o1 :: o2 :: o3 :: o4 :: o5 :: o6 :: o7 :: o8 :: o9 :: o10 :: y :: l) (.int x :: stk) M :=
  s_istoreG (i := 11) hX hd hn (by simpa [noLong] using hL) h
theorem s_astore11 {e : Option T} {o0 o1 o2 o3 o4 o5 o6 o7 o8 o9 o10 : Option Value} {y : Option Value} {l : List (Option Value)} {x : Nat} (hX : CxOk X cc nL own rm) (hd : decode cc pc = .ok (.astore 11, 2)) (hL : noLong [o0, o1, o2, o3, o4, o5, o6, o7, o8, o9, o10] 11) (hn : 11 < nL) (h : Sim X nL A e ck sk (pc + 2) (o0 :: o1 :: o2 :: o3 :: o4 :: o5 :: o6 :: o7 :: o8 :: o9 :: o10 :: some (.ref x) :: l) stk M) : Sim X nL A e ck sk pc (o0 :: o1 :: o2 :: o3 :: o4 :: o5 :: o6 :: o7 :: o8 :: o9 :: o10 :: y :: l) (.ref x :: stk) M :=
  s_astoreG (i := 11) hX hd hn (by simpa [noLong] using hL) h
theorem s_kstore11 {e : Option T} {o0 o1 o2 o3 o4 o5 o6 o7 o8 o9 o10 : Option Value} {y : Option Value} {l : List (Option Value)} {x : UInt32} (hX : CxOk X cc nL own rm) (hd : decode cc pc = .ok (.astore 11, 2)) (hL : noLong [o0, o1, o2, o3, o4, o5, o6, o7, o8, o9, o10] 11) (hn : 11 < nL) (h : Sim X nL A e ck sk (pc + 2) (o0 :: o1 :: o2 :: o3 :: o4 :: o5 :: o6 :: o7 :: o8 :: o9 :: o10 :: some (.float x) :: l) stk M) : Sim X nL A e ck sk pc (o0 :: o1 :: o2 :: o3 :: o4 :: o5 :: o6 :: o7 :: o8 :: o9 :: o10 :: y :: l) (.float x :: stk) M :=
  s_kstoreG (i := 11) hX hd hn (by simpa [noLong] using hL) h
theorem s_lstore11 {e : Option T} {o0 o1 o2 o3 o4 o5 o6 o7 o8 o9 o10 : Option Value} {y z : Option Value} {l : List (Option Value)} {x : Int64} (hX : CxOk X cc nL own rm) (hd : decode cc pc = .ok (.lstore 11, 2)) (hL : noLong [o0, o1, o2, o3, o4, o5, o6, o7, o8, o9, o10] 11) (hn : 11 + 1 < nL) (h : Sim X nL A e ck sk (pc + 2) (o0 :: o1 :: o2 :: o3 :: o4 :: o5 :: o6 :: o7 :: o8 :: o9 :: o10 :: some (.long x) :: none :: l) stk M) : Sim X nL A e ck sk pc (o0 :: o1 :: o2 :: o3 :: o4 :: o5 :: o6 :: o7 :: o8 :: o9 :: o10 :: y :: z :: l) (.long x :: stk) M :=
  s_lstoreG (i := 11) hX hd hn (by simpa [noLong] using hL) h
theorem s_iinc11 {e : Option T} {o0 o1 o2 o3 o4 o5 o6 o7 o8 o9 o10 : Option Value} {l : List (Option Value)} {n : Int} {x v : Int32} (hX : CxOk X cc nL own rm) (hd : decode cc pc = .ok (.iinc 11 n, 3)) (hv : x + Int32.ofInt n = v) (hL : noLong [o0, o1, o2, o3, o4, o5, o6, o7, o8, o9, o10] 11) (hn : 11 < nL) (h : Sim X nL A e ck sk (pc + 3) (o0 :: o1 :: o2 :: o3 :: o4 :: o5 :: o6 :: o7 :: o8 :: o9 :: o10 :: some (.int v) :: l) stk M) : Sim X nL A e ck sk pc (o0 :: o1 :: o2 :: o3 :: o4 :: o5 :: o6 :: o7 :: o8 :: o9 :: o10 :: some (.int x) :: l) stk M :=
  s_iincG (i := 11) hX hd rfl hv hn (by simpa [noLong] using hL) h
theorem s_istore12 {e : Option T} {o0 o1 o2 o3 o4 o5 o6 o7 o8 o9 o10 o11 : Option Value} {y : Option Value} {l : List (Option Value)} {x : Int32} (hX : CxOk X cc nL own rm) (hd : decode cc pc = .ok (.istore 12, 2)) (hL : noLong [o0, o1, o2, o3, o4, o5, o6, o7, o8, o9, o10, o11] 12) (hn : 12 < nL) (h : Sim X nL A e ck sk (pc + 2) (o0 :: o1 :: o2 :: o3 :: o4 :: o5 :: o6 :: o7 :: o8 :: o9 :: o10 :: o11 :: some (.int x) :: l) stk M) : Sim X nL A e ck sk pc (o0 :: o1 :: o2 :: o3 :: o4 :: o5 :: o6 :: o7 :: o8 :: o9 :: o10 :: o11 :: y :: l) (.int x :: stk) M :=
  s_istoreG (i := 12) hX hd hn (by simpa [noLong] using hL) h
theorem s_astore12 {e : Option T} {o0 o1 o2 o3 o4 o5 o6 o7 o8 o9 o10 o11 : Option Value} {y : Option Value} {l : List (Option Value)} {x : Nat} (hX : CxOk X cc nL own rm) (hd : decode cc pc = .ok (.astore 12, 2)) (hL : noLong [o0, o1, o2, o3, o4, o5, o6, o7, o8, o9, o10, o11] 12) (hn : 12 < nL) (h : Sim X nL A e ck sk (pc + 2) (o0 :: o1 :: o2 :: o3 :: o4 :: o5 :: o6 :: o7 :: o8 :: o9 :: o10 :: o11 :: some (.ref x) :: l) stk M) : Sim X nL A e ck sk pc (o0 :: o1 :: o2 :: o3 :: o4 :: o5 :: o6 :: o7 :: o8 :: o9 :: o10 :: o11 :: y :: l) (.ref x :: stk) M :=
  s_astoreG (i := 12) hX hd hn (by simpa [noLong] using hL) h
theorem s_kstore12 {e : Option T} {o0 o1 o2 o3 o4 o5 o6 o7 o8 o9 o10 o11 : Option Value} {y : Option Value} {l : List (Option Value)} {x : UInt32} (hX : CxOk X cc nL own rm) (hd : decode cc pc = .ok (.astore 12, 2)) (hL : noLong [o0, o1, o2, o3, o4, o5, o6, o7, o8, o9, o10, o11] 12) (hn : 12 < nL) (h : Sim X nL A e ck sk (pc + 2) (o0 :: o1 :: o2 :: o3 :: o4 :: o5 :: o6 :: o7 :: o8 :: o9 :: o10 :: o11 :: some (.float x) :: l) stk M) : Sim X nL A e ck sk pc (o0 :: o1 :: o2 :: o3 :: o4 :: o5 :: o6 :: o7 :: o8 :: o9 :: o10 :: o11 :: y :: l) (.float x :: stk) M :=
  s_kstoreG (i := 12) hX hd hn (by simpa [noLong] using hL) h
theorem s_lstore12 {e : Option T} {o0 o1 o2 o3 o4 o5 o6 o7 o8 o9 o10 o11 : Option Value} {y z : Option Value} {l : List (Option Value)} {x : Int64} (hX : CxOk X cc nL own rm) (hd : decode cc pc = .ok (.lstore 12, 2)) (hL : noLong [o0, o1, o2, o3, o4, o5, o6, o7, o8, o9, o10, o11] 12) (hn : 12 + 1 < nL) (h : Sim X nL A e ck sk (pc + 2) (o0 :: o1 :: o2 :: o3 :: o4 :: o5 :: o6 :: o7 :: o8 :: o9 :: o10 :: o11 :: some (.long x) :: none :: l) stk M) : Sim X nL A e ck sk pc (o0 :: o1 :: o2 :: o3 :: o4 :: o5 :: o6 :: o7 :: o8 :: o9 :: o10 :: o11 :: y :: z :: l) (.long x :: stk) M :=
  s_lstoreG (i := 12) hX hd hn (by simpa [noLong] using hL) h
theorem s_iinc12 {e : Option T} {o0 o1 o2 o3 o4 o5 o6 o7 o8 o9 o10 o11 : Option Value} {l : List (Option Value)} {n : Int} {x v : Int32} (hX : CxOk X cc nL own rm) (hd : decode cc pc = .ok (.iinc 12 n, 3)) (hv : x + Int32.ofInt n = v) (hL : noLong [o0, o1, o2, o3, o4, o5, o6, o7, o8, o9, o10, o11] 12) (hn : 12 < nL) (h : Sim X nL A e ck sk (pc + 3) (o0 :: o1 :: o2 :: o3 :: o4 :: o5 :: o6 :: o7 :: o8 :: o9 :: o10 :: o11 :: some (.int v) :: l) stk M) : Sim X nL A e ck sk pc (o0 :: o1 :: o2 :: o3 :: o4 :: o5 :: o6 :: o7 :: o8 :: o9 :: o10 :: o11 :: some (.int x) :: l) stk M :=
  s_iincG (i := 12) hX hd rfl hv hn (by simpa [noLong] using hL) h
theorem s_istore13 {e : Option T} {o0 o1 o2 o3 o4 o5 o6 o7 o8 o9 o10 o11 o12 : Option Value} {y : Option Value} {l : List (Option Value)} {x : Int32} (hX : CxOk X cc nL own rm) (hd : decode cc pc = .ok (.istore 13, 2)) (hL : noLong [o0, o1, o2, o3, o4, o5, o6, o7, o8, o9, o10, o11, o12] 13) (hn : 13 < nL) (h : Sim X nL A e ck sk (pc + 2) (o0 :: o1 :: o2 :: o3 :: o4 :: o5 :: o6 :: o7 :: o8 :: o9 :: o10 :: o11 :: o12 :: some (.int x) :: l) stk M) : Sim X nL A e ck sk pc (o0 :: o1 :: o2 :: o3 :: o4 :: o5 :: o6 :: o7 :: o8 :: o9 :: o10 :: o11 :: o12 :: y :: l) (.int x :: stk) M :=
  s_istoreG (i := 13) hX hd hn (by simpa [noLong] using hL) h
theorem s_astore13 {e : Option T} {o0 o1 o2 o3 o4 o5 o6 o7 o8 o9 o10 o11 o12 : Option Value} {y : Option Value} {l : List (Option Value)} {x : Nat} (hX : CxOk X cc nL own rm) (hd : decode cc pc = .ok (.astore 13, 2)) (hL : noLong [o0, o1, o2, o3, o4, o5, o6, o7, o8, o9, o10, o11, o12] 13) (hn : 13 < nL) (h : Sim X nL A e ck sk (pc + 2) (o0 :: o1 :: o2 :: o3 :: o4 :: o5 :: o6 :: o7 :: o8 :: o9 :: o10 :: o11 :: o12 :: some (.ref x) :: l) stk M) : Sim X nL A e ck sk pc (o0 :: o1 :: o2 :: o3 :: o4 :: o5 :: o6 :: o7 :: o8 :: o9 :: o10 :: o11 :: o12 :: y :: l) (.ref x :: stk) M :=
  s_astoreG (i := 13) hX hd hn (by simpa [noLong] using hL) h
theorem s_kstore13 {e : Option T} {o0 o1 o2 o3 o4 o5 o6 o7 o8 o9 o10 o11 o12 : Option Value} {y : Option Value} {l : List (Option Value)} {x : UInt32} (hX : CxOk X cc nL own rm) (hd : decode cc pc = .ok (.astore 13, 2)) (hL : noLong [o0, o1, o2, o3, o4, o5, o6, o7, o8, o9, o10, o11, o12] 13) (hn : 13 < nL) (h : Sim X nL A e ck sk (pc + 2) (o0 :: o1 :: o2 :: o3 :: o4 :: o5 :: o6 :: o7 :: o8 :: o9 :: o10 :: o11 :: o12 :: some (.float x) :: l) stk M) : Sim X nL A e ck sk pc (o0 :: o1 :: o2 :: o3 :: o4 :: o5 :: o6 :: o7 :: o8 :: o9 :: o10 :: o11 :: o12 :: y :: l) (.float x :: stk) M :=
  s_kstoreG (i := 13) hX hd hn (by simpa [noLong] using hL) h
theorem s_lstore13 {e : Option T} {o0 o1 o2 o3 o4 o5 o6 o7 o8 o9 o10 o11 o12 : Option Value} {y z : Option Value} {l : List (Option Value)} {x : Int64} (hX : CxOk X cc nL own rm) (hd : decode cc pc = .ok (.lstore 13, 2)) (hL : noLong [o0, o1, o2, o3, o4, o5, o6, o7, o8, o9, o10, o11, o12] 13) (hn : 13 + 1 < nL) (h : Sim X nL A e ck sk (pc + 2) (o0 :: o1 :: o2 :: o3 :: o4 :: o5 :: o6 :: o7 :: o8 :: o9 :: o10 :: o11 :: o12 :: some (.long x) :: none :: l) stk M) : Sim X nL A e ck sk pc (o0 :: o1 :: o2 :: o3 :: o4 :: o5 :: o6 :: o7 :: o8 :: o9 :: o10 :: o11 :: o12 :: y :: z :: l) (.long x :: stk) M :=
  s_lstoreG (i := 13) hX hd hn (by simpa [noLong] using hL) h
theorem s_iinc13 {e : Option T} {o0 o1 o2 o3 o4 o5 o6 o7 o8 o9 o10 o11 o12 : Option Value} {l : List (Option Value)} {n : Int} {x v : Int32} (hX : CxOk X cc nL own rm) (hd : decode cc pc = .ok (.iinc 13 n, 3)) (hv : x + Int32.ofInt n = v) (hL : noLong [o0, o1, o2, o3, o4, o5, o6, o7, o8, o9, o10, o11, o12] 13) (hn : 13 < nL) (h : Sim X nL A e ck sk (pc + 3) (o0 :: o1 :: o2 :: o3 :: o4 :: o5 :: o6 :: o7 :: o8 :: o9 :: o10 :: o11 :: o12 :: some (.int v) :: l) stk M) : Sim X nL A e ck sk pc (o0 :: o1 :: o2 :: o3 :: o4 :: o5 :: o6 :: o7 :: o8 :: o9 :: o10 :: o11 :: o12 :: some (.int x) :: l) stk M :=
  s_iincG (i := 13) hX hd rfl hv hn (by simpa [noLong] using hL) h
theorem s_istore14 {e : Option T} {o0 o1 o2 o3 o4 o5 o6 o7 o8 o9 o10 o11 o12 o13 : Option Value} {y : Option Value} {l : List (Option Value)} {x : Int32} (hX : CxOk X cc nL own rm) (hd : decode cc pc = .ok (.istore 14, 2)) (hL : noLong [o0, o1, o2, o3, o4, o5, o6, o7, o8, o9, o10, o11, o12, o13] 14) (hn : 14 < nL) (h : Sim X nL A e ck sk (pc + 2) (o0 :: o1 :: o2 :: o3 :: o4 :: o5 :: o6 :: o7 :: o8 :: o9 :: o10 :: o11 :: o12 :: o13 :: some (.int x) :: l) stk M) : Sim X nL A e ck sk pc (o0 :: o1 :: o2 :: o3 :: o4 :: o5 :: o6 :: o7 :: o8 :: o9 :: o10 :: o11 :: o12 :: o13 :: y :: l) (.int x :: stk) M :=
  s_istoreG (i := 14) hX hd hn (by simpa [noLong] using hL) h
theorem s_astore14 {e : Option T} {o0 o1 o2 o3 o4 o5 o6 o7 o8 o9 o10 o11 o12 o13 : Option Value} {y : Option Value} {l : List (Option Value)} {x : Nat} (hX : CxOk X cc nL own rm) (hd : decode cc pc = .ok (.astore 14, 2)) (hL : noLong [o0, o1, o2, o3, o4, o5, o6, o7, o8, o9, o10, o11, o12, o13] 14) (hn : 14 < nL) (h : Sim X nL A e ck sk (pc + 2) (o0 :: o1 :: o2 :: o3 :: o4 :: o5 :: o6 :: o7 :: o8 :: o9 :: o10 :: o11 :: o12 :: o13 :: some (.ref x) :: l) stk M) : Sim X nL A e ck sk pc (o0 :: o1 :: o2 :: o3 :: o4 :: o5 :: o6 :: o7 :: o8 :: o9 :: o10 :: o11 :: o12 :: o13 :: y :: l) (.ref x :: stk) M :=
  s_astoreG (i := 14) hX hd hn (by simpa [noLong] using hL) h
theorem s_kstore14 {e : Option T} {o0 o1 o2 o3 o4 o5 o6 o7 o8 o9 o10 o11 o12 o13 : Option Value} {y : Option Value} {l : List (Option Value)} {x : UInt32} (hX : CxOk X cc nL own rm) (hd : decode cc pc = .ok (.astore 14, 2)) (hL : noLong [o0, o1, o2, o3, o4, o5, o6, o7, o8, o9, o10, o11, o12, o13] 14) (hn : 14 < nL) (h : Sim X nL A e ck sk (pc + 2) (o0 :: o1 :: o2 :: o3 :: o4 :: o5 :: o6 :: o7 :: o8 :: o9 :: o10 :: o11 :: o12 :: o13 :: some (.float x) :: l) stk M) : Sim X nL A e ck sk pc (o0 :: o1 :: o2 :: o3 :: o4 :: o5 :: o6 :: o7 :: o8 :: o9 :: o10 :: o11 :: o12 :: o13 :: y :: l) (.float x :: stk) M :=
  s_kstoreG (i := 14) hX hd hn (by simpa [noLong] using hL) h
theorem s_lstore14 {e : Option T} {o0 o1 o2 o3 o4 o5 o6 o7 o8 o9 o10 o11 o12 o13 : Option Value} {y z : Option Value} {l : List (Option Value)} {x : Int64} (hX : CxOk X cc nL own rm) (hd : decode cc pc = .ok (.lstore 14, 2)) (hL : noLong [o0, o1, o2, o3, o4, o5, o6, o7, o8, o9, o10, o11, o12, o13] 14) (hn : 14 + 1 < nL) (h : Sim X nL A e ck sk (pc + 2) (o0 :: o1 :: o2 :: o3 :: o4 :: o5 :: o6 :: o7 :: o8 :: o9 :: o10 :: o11 :: o12 :: o13 :: some (.long x) :: none :: l) stk M) : Sim X nL A e ck sk pc (o0 :: o1 :: o2 :: o3 :: o4 :: o5 :: o6 :: o7 :: o8 :: o9 :: o10 :: o11 :: o12 :: o13 :: y :: z :: l) (.long x :: stk) M :=
  s_lstoreG (i := 14) hX hd hn (by simpa [noLong] using hL) h
theorem s_iinc14 {e : Option T} {o0 o1 o2 o3 o4 o5 o6 o7 o8 o9 o10 o11 o12 o13 : Option Value} {l : List (Option Value)} {n : Int} {x v : Int32} (hX : CxOk X cc nL own rm) (hd : decode cc pc = .ok (.iinc 14 n, 3)) (hv : x + Int32.ofInt n = v) (hL : noLong [o0, o1, o2, o3, o4, o5, o6, o7, o8, o9, o10, o11, o12, o13] 14) (hn : 14 < nL) (h : Sim X nL A e ck sk (pc + 3) (o0 :: o1 :: o2 :: o3 :: o4 :: o5 :: o6 :: o7 :: o8 :: o9 :: o10 :: o11 :: o12 :: o13 :: some (.int v) :: l) stk M) : Sim X nL A e ck sk pc (o0 :: o1 :: o2 :: o3 :: o4 :: o5 :: o6 :: o7 :: o8 :: o9 :: o10 :: o11 :: o12 :: o13 :: some (.int x) :: l) stk M :=
  s_iincG (i := 14) hX hd rfl hv hn (by simpa [noLong] using hL) h
theorem s_istore15 {e : Option T} {o0 o1 o2 o3 o4 o5 o6 o7 o8 o9 o10 o11 o12 o13 o14 : Option Value} {y : Option Value} {l : List (Option Value)} {x : Int32} (hX : CxOk X cc nL own rm) (hd : decode cc pc = .ok (.istore 15, 2)) (hL : noLong [o0, o1, o2, o3, o4, o5, o6, o7, o8, o9, o10, o11, o12, o13, o14] 15) (hn : 15 < nL) (h : Sim X nL A e ck sk (pc + 2) (o0 :: o1 :: o2 :: o3 :: o4 :: o5 :: o6 :: o7 :: o8 :: o9 :: o10 :: o11 :: o12 :: o13 :: o14 :: some (.int x) :: l) stk M) : Sim X nL A e ck sk pc (o0 :: o1 :: o2 :: o3 :: o4 :: o5 :: o6 :: o7 :: o8 :: o9 :: o10 :: o11 :: o12 :: o13 :: o14 :: y :: l) (.int x :: stk) M :=
  s_istoreG (i := 15) hX hd hn (by simpa [noLong] using hL) h
theorem s_astore15 {e : Option T} {o0 o1 o2 o3 o4 o5 o6 o7 o8 o9 o10 o11 o12 o13 o14 : Option Value} {y : Option Value} {l : List (Option Value)} {x : Nat} (hX : CxOk X cc nL own rm) (hd : decode cc pc = .ok (.astore 15, 2)) (hL : noLong [o0, o1, o2, o3, o4, o5, o6, o7, o8, o9, o10, o11, o12, o13, o14] 15) (hn : 15 < nL) (h : Sim X nL A e ck sk (pc + 2) (o0 :: o1 :: o2 :: o3 :: o4 :: o5 :: o6 :: o7 :: o8 :: o9 :: o10 :: o11 :: o12 :: o13 :: o14 :: some (.ref x) :: l) stk M) : Sim X nL A e ck sk pc (o0 :: o1 :: o2 :: o3 :: o4 :: o5 :: o6 :: o7 :: o8 :: o9 :: o10 :: o11 :: o12 :: o13 :: o14 :: y :: l) (.ref x :: stk) M :=
  s_astoreG (i := 15) hX hd hn (by simpa [noLong] using hL) h
theorem s_kstore15 {e : Option T} {o0 o1 o2 o3 o4 o5 o6 o7 o8 o9 o10 o11 o12 o13 o14 : Option Value} {y : Option Value} {l : List (Option Value)} {x : UInt32} (hX : CxOk X cc nL own rm) (hd : decode cc pc = .ok (.astore 15, 2)) (hL : noLong [o0, o1, o2, o3, o4, o5, o6, o7, o8, o9, o10, o11, o12, o13, o14] 15) (hn : 15 < nL) (h : Sim X nL A e ck sk (pc + 2) (o0 :: o1 :: o2 :: o3 :: o4 :: o5 :: o6 :: o7 :: o8 :: o9 :: o10 :: o11 :: o12 :: o13 :: o14 :: some (.float x) :: l) stk M) : Sim X nL A e ck sk pc (o0 :: o1 :: o2 :: o3 :: o4 :: o5 :: o6 :: o7 :: o8 :: o9 :: o10 :: o11 :: o12 :: o13 :: o14 :: y :: l) (.float x :: stk) M :=
  s_kstoreG (i := 15) hX hd hn (by simpa [noLong] using hL) h
theorem s_lstore15 {e : Option T} {o0 o1 o2 o3 o4 o5 o6 o7 o8 o9 o10 o11 o12 o13 o14 : Option Value} {y z : Option Value} {l : List (Option Value)} {x : Int64} (hX : CxOk X cc nL own rm) (hd : decode cc pc = .ok (.lstore 15, 2)) (hL : noLong [o0, o1, o2, o3, o4, o5, o6, o7, o8, o9, o10, o11, o12, o13, o14] 15) (hn : 15 + 1 < nL) (h : Sim X nL A e ck sk (pc + 2) (o0 :: o1 :: o2 :: o3 :: o4 :: o5 :: o6 :: o7 :: o8 :: o9 :: o10 :: o11 :: o12 :: o13 :: o14 :: some (.long x) :: none :: l) stk M) : Sim X nL A e ck sk pc (o0 :: o1 :: o2 :: o3 :: o4 :: o5 :: o6 :: o7 :: o8 :: o9 :: o10 :: o11 :: o12 :: o13 :: o14 :: y :: z :: l) (.long x :: stk) M :=
  s_lstoreG (i := 15) hX hd hn (by simpa [noLong] using hL) h
theorem s_iinc15 {e : Option T} {o0 o1 o2 o3 o4 o5 o6 o7 o8 o9 o10 o11 o12 o13 o14 : Option Value} {l : List (Option Value)} {n : Int} {x v : Int32} (hX : CxOk X cc nL own rm) (hd : decode cc pc = .ok (.iinc 15 n, 3)) (hv : x + Int32.ofInt n = v) (hL : noLong [o0, o1, o2, o3, o4, o5, o6, o7, o8, o9, o10, o11, o12, o13, o14] 15) (hn : 15 < nL) (h : Sim X nL A e ck sk (pc + 3) (o0 :: o1 :: o2 :: o3 :: o4 :: o5 :: o6 :: o7 :: o8 :: o9 :: o10 :: o11 :: o12 :: o13 :: o14 :: some (.int v) :: l) stk M) : Sim X nL A e ck sk pc (o0 :: o1 :: o2 :: o3 :: o4 :: o5 :: o6 :: o7 :: o8 :: o9 :: o10 :: o11 :: o12 :: o13 :: o14 :: some (.int x) :: l) stk M :=
  s_iincG (i := 15) hX hd rfl hv hn (by simpa [noLong] using hL) h
theorem s_iadd {e : Option T} {x y : Int32} (hX : CxOk X cc nL own rm) (hd : decode cc pc = .ok (.iadd, 1)) (h : Sim X nL A e ck sk (pc + 1) loc (.int (x + y) :: stk) M) : Sim X nL A e ck sk pc loc (.int y :: .int x :: stk) M :=
  fun t ht hA ad H locs ls hy => lv_iadd hX.1 hX.2.1 hd (h t ht hA ad H locs ls (hy.st ⟨trivial, hy.ok.2.2⟩))
theorem s_isub {e : Option T} {x y : Int32} (hX : CxOk X cc nL own rm) (hd : decode cc pc = .ok (.isub, 1)) (h : Sim X nL A e ck sk (pc + 1) loc (.int (x - y) :: stk) M) : Sim X nL A e ck sk pc loc (.int y :: .int x :: stk) M :=
  fun t ht hA ad H locs ls hy => lv_isub hX.1 hX.2.1 hd (h t ht hA ad H locs ls (hy.st ⟨trivial, hy.ok.2.2⟩))
theorem s_imul {e : Option T} {x y : Int32} (hX : CxOk X cc nL own rm) (hd : decode cc pc = .ok (.imul, 1)) (h : Sim X nL A e ck sk (pc + 1) loc (.int (x * y) :: stk) M) : Sim X nL A e ck sk pc loc (.int y :: .int x :: stk) M :=
  fun t ht hA ad H locs ls hy => lv_imul hX.1 hX.2.1 hd (h t ht hA ad H locs ls (hy.st ⟨trivial, hy.ok.2.2⟩))
theorem s_iand {e : Option T} {x y : Int32} (hX : CxOk X cc nL own rm) (hd : decode cc pc = .ok (.iand, 1)) (h : Sim X nL A e ck sk (pc + 1) loc (.int (x &&& y) :: stk) M) : Sim X nL A e ck sk pc loc (.int y :: .int x :: stk) M :=
  fun t ht hA ad H locs ls hy => lv_iand hX.1 hX.2.1 hd (h t ht hA ad H locs ls (hy.st ⟨trivial, hy.ok.2.2⟩))
theorem s_ior {e : Option T} {x y : Int32} (hX : CxOk X cc nL own rm) (hd : decode cc pc = .ok (.ior, 1)) (h : Sim X nL A e ck sk (pc + 1) loc (.int (x ||| y) :: stk) M) : Sim X nL A e ck sk pc loc (.int y :: .int x :: stk) M :=
  fun t ht hA ad H locs ls hy => lv_ior hX.1 hX.2.1 hd (h t ht hA ad H locs ls (hy.st ⟨trivial, hy.ok.2.2⟩))
theorem s_ixor {e : Option T} {x y : Int32} (hX : CxOk X cc nL own rm) (hd : decode cc pc = .ok (.ixor, 1)) (h : Sim X nL A e ck sk (pc + 1) loc (.int (x ^^^ y) :: stk) M) : Sim X nL A e ck sk pc loc (.int y :: .int x :: stk) M :=
  fun t ht hA ad H locs ls hy => lv_ixor hX.1 hX.2.1 hd (h t ht hA ad H locs ls (hy.st ⟨trivial, hy.ok.2.2⟩))
theorem s_ishl {e : Option T} {x y : Int32} (hX : CxOk X cc nL own rm) (hd : decode cc pc = .ok (.ishl, 1)) (h : Sim X nL A e ck sk (pc + 1) loc (.int (x <<< (y &&& 31)) :: stk) M) : Sim X nL A e ck sk pc loc (.int y :: .int x :: stk) M :=
  fun t ht hA ad H locs ls hy => lv_ishl hX.1 hX.2.1 hd (h t ht hA ad H locs ls (hy.st ⟨trivial, hy.ok.2.2⟩))
theorem s_ishr {e : Option T} {x y : Int32} (hX : CxOk X cc nL own rm) (hd : decode cc pc = .ok (.ishr, 1)) (h : Sim X nL A e ck sk (pc + 1) loc (.int (x >>> (y &&& 31)) :: stk) M) : Sim X nL A e ck sk pc loc (.int y :: .int x :: stk) M :=
  fun t ht hA ad H locs ls hy => lv_ishr hX.1 hX.2.1 hd (h t ht hA ad H locs ls (hy.st ⟨trivial, hy.ok.2.2⟩))
theorem s_ladd {e : Option T} {x y : Int64} (hX : CxOk X cc nL own rm) (hd : decode cc pc = .ok (.ladd, 1)) (h : Sim X nL A e ck sk (pc + 1) loc (.long (x + y) :: stk) M) : Sim X nL A e ck sk pc loc (.long y :: .long x :: stk) M :=
  fun t ht hA ad H locs ls hy => lv_ladd hX.1 hX.2.1 hd (h t ht hA ad H locs ls (hy.st ⟨trivial, hy.ok.2.2⟩))
theorem s_lsub {e : Option T} {x y : Int64} (hX : CxOk X cc nL own rm) (hd : decode cc pc = .ok (.lsub, 1)) (h : Sim X nL A e ck sk (pc + 1) loc (.long (x - y) :: stk) M) : Sim X nL A e ck sk pc loc (.long y :: .long x :: stk) M :=
  fun t ht hA ad H locs ls hy => lv_lsub hX.1 hX.2.1 hd (h t ht hA ad H locs ls (hy.st ⟨trivial, hy.ok.2.2⟩))
theorem s_lmul {e : Option T} {x y : Int64} (hX : CxOk X cc nL own rm) (hd : decode cc pc = .ok (.lmul, 1)) (h : Sim X nL A e ck sk (pc + 1) loc (.long (x * y) :: stk) M) : Sim X nL A e ck sk pc loc (.long y :: .long x :: stk) M :=
  fun t ht hA ad H locs ls hy => lv_lmul hX.1 hX.2.1 hd (h t ht hA ad H locs ls (hy.st ⟨trivial, hy.ok.2.2⟩))
theorem s_land {e : Option T} {x y : Int64} (hX : CxOk X cc nL own rm) (hd : decode cc pc = .ok (.land, 1)) (h : Sim X nL A e ck sk (pc + 1) loc (.long (x &&& y) :: stk) M) : Sim X nL A e ck sk pc loc (.long y :: .long x :: stk) M :=
  fun t ht hA ad H locs ls hy => lv_land hX.1 hX.2.1 hd (h t ht hA ad H locs ls (hy.st ⟨trivial, hy.ok.2.2⟩))
theorem s_lor {e : Option T} {x y : Int64} (hX : CxOk X cc nL own rm) (hd : decode cc pc = .ok (.lor, 1)) (h : Sim X nL A e ck sk (pc + 1) loc (.long (x ||| y) :: stk) M) : Sim X nL A e ck sk pc loc (.long y :: .long x :: stk) M :=
  fun t ht hA ad H locs ls hy => lv_lor hX.1 hX.2.1 hd (h t ht hA ad H locs ls (hy.st ⟨trivial, hy.ok.2.2⟩))
theorem s_lxor {e : Option T} {x y : Int64} (hX : CxOk X cc nL own rm) (hd : decode cc pc = .ok (.lxor, 1)) (h : Sim X nL A e ck sk (pc + 1) loc (.long (x ^^^ y) :: stk) M) : Sim X nL A e ck sk pc loc (.long y :: .long x :: stk) M :=
  fun t ht hA ad H locs ls hy => lv_lxor hX.1 hX.2.1 hd (h t ht hA ad H locs ls (hy.st ⟨trivial, hy.ok.2.2⟩))
theorem s_ineg {e : Option T} {x : Int32} (hX : CxOk X cc nL own rm) (hd : decode cc pc = .ok (.ineg, 1)) (h : Sim X nL A e ck sk (pc + 1) loc (.int (-x) :: stk) M) : Sim X nL A e ck sk pc loc (.int x :: stk) M :=
  fun t ht hA ad H locs ls hy => lv_ineg hX.1 hX.2.1 hd (h t ht hA ad H locs ls (hy.st ⟨trivial, hy.ok.2⟩))
theorem s_lneg {e : Option T} {x : Int64} (hX : CxOk X cc nL own rm) (hd : decode cc pc = .ok (.lneg, 1)) (h : Sim X nL A e ck sk (pc + 1) loc (.long (-x) :: stk) M) : Sim X nL A e ck sk pc loc (.long x :: stk) M :=
  fun t ht hA ad H locs ls hy => lv_lneg hX.1 hX.2.1 hd (h t ht hA ad H locs ls (hy.st ⟨trivial, hy.ok.2⟩))
theorem s_idiv {e : Option T} {x y : Int32} [Decidable (y = 0)] (hX : CxOk X cc nL own rm) (hd : decode cc pc = .ok (.idiv, 1)) (h : Sim X nL A e ck sk (pc + 1) loc (.int (x / y) :: stk) M) : Sim X nL A (if y = 0 then none else e) ck sk pc loc (.int y :: .int x :: stk) M := by
  intro t ht hA ad H locs ls hy
  by_cases hy0 : y = 0
  · rw [if_pos hy0] at ht; cases ht
  · rw [if_neg hy0] at ht
    exact lv_idiv hX.1 hX.2.1 hd hy0 (h t ht hA ad H locs ls (hy.st ⟨trivial, hy.ok.2.2⟩))
theorem s_irem {e : Option T} {x y : Int32} [Decidable (y = 0)] (hX : CxOk X cc nL own rm) (hd : decode cc pc = .ok (.irem, 1)) (h : Sim X nL A e ck sk (pc + 1) loc (.int (x - x / y * y) :: stk) M) : Sim X nL A (if y = 0 then none else e) ck sk pc loc (.int y :: .int x :: stk) M := by
  intro t ht hA ad H locs ls hy
  by_cases hy0 : y = 0
  · rw [if_pos hy0] at ht; cases ht
  · rw [if_neg hy0] at ht
    exact lv_irem hX.1 hX.2.1 hd hy0 (h t ht hA ad H locs ls (hy.st ⟨trivial, hy.ok.2.2⟩))
theorem s_ldiv {e : Option T} {x y : Int64} [Decidable (y = 0)] (hX : CxOk X cc nL own rm) (hd : decode cc pc = .ok (.ldiv, 1)) (h : Sim X nL A e ck sk (pc + 1) loc (.long (x / y) :: stk) M) : Sim X nL A (if y = 0 then none else e) ck sk pc loc (.long y :: .long x :: stk) M := by
  intro t ht hA ad H locs ls hy
  by_cases hy0 : y = 0
  · rw [if_pos hy0] at ht; cases ht
  · rw [if_neg hy0] at ht
    exact lv_ldiv hX.1 hX.2.1 hd hy0 (h t ht hA ad H locs ls (hy.st ⟨trivial, hy.ok.2.2⟩))
theorem s_lrem {e : Option T} {x y : Int64} [Decidable (y = 0)] (hX : CxOk X cc nL own rm) (hd : decode cc pc = .ok (.lrem, 1)) (h : Sim X nL A e ck sk (pc + 1) loc (.long (x - x / y * y) :: stk) M) : Sim X nL A (if y = 0 then none else e) ck sk pc loc (.long y :: .long x :: stk) M := by
  intro t ht hA ad H locs ls hy
  by_cases hy0 : y = 0
  · rw [if_pos hy0] at ht; cases ht
  · rw [if_neg hy0] at ht
    exact lv_lrem hX.1 hX.2.1 hd hy0 (h t ht hA ad H locs ls (hy.st ⟨trivial, hy.ok.2.2⟩))
theorem s_i2l {e : Option T} {x : Int32} (hX : CxOk X cc nL own rm) (hd : decode cc pc = .ok (.i2l, 1)) (h : Sim X nL A e ck sk (pc + 1) loc (.long (x.toInt64) :: stk) M) : Sim X nL A e ck sk pc loc (.int x :: stk) M :=
  fun t ht hA ad H locs ls hy => lv_i2l hX.1 hX.2.1 hd rfl (h t ht hA ad H locs ls (hy.st ⟨trivial, hy.ok.2⟩))
theorem s_l2i {e : Option T} {x : Int64} (hX : CxOk X cc nL own rm) (hd : decode cc pc = .ok (.l2i, 1)) (h : Sim X nL A e ck sk (pc + 1) loc (.int (x.toInt32) :: stk) M) : Sim X nL A e ck sk pc loc (.long x :: stk) M :=
  fun t ht hA ad H locs ls hy => lv_l2i hX.1 hX.2.1 hd rfl (h t ht hA ad H locs ls (hy.st ⟨trivial, hy.ok.2⟩))
theorem s_i2b {e : Option T} {x : Int32} (hX : CxOk X cc nL own rm) (hd : decode cc pc = .ok (.i2b, 1)) (h : Sim X nL A e ck sk (pc + 1) loc (.int (x.toInt8.toInt32) :: stk) M) : Sim X nL A e ck sk pc loc (.int x :: stk) M :=
  fun t ht hA ad H locs ls hy => lv_i2b hX.1 hX.2.1 hd rfl (h t ht hA ad H locs ls (hy.st ⟨trivial, hy.ok.2⟩))
theorem s_i2c {e : Option T} {x : Int32} (hX : CxOk X cc nL own rm) (hd : decode cc pc = .ok (.i2c, 1)) (h : Sim X nL A e ck sk (pc + 1) loc (.int ((x.toUInt32 % 65536).toInt32) :: stk) M) : Sim X nL A e ck sk pc loc (.int x :: stk) M :=
  fun t ht hA ad H locs ls hy => lv_i2c hX.1 hX.2.1 hd rfl (h t ht hA ad H locs ls (hy.st ⟨trivial, hy.ok.2⟩))
theorem s_iushr {e : Option T} {x y : Int32} (hX : CxOk X cc nL own rm) (hd : decode cc pc = .ok (.iushr, 1)) (h : Sim X nL A e ck sk (pc + 1) loc (.int ((x.toUInt32 >>> (y.toUInt32 &&& Int32.toUInt32 31)).toInt32) :: stk) M) : Sim X nL A e ck sk pc loc (.int y :: .int x :: stk) M :=
  fun t ht hA ad H locs ls hy => lv_iushr hX.1 hX.2.1 hd rfl (h t ht hA ad H locs ls (hy.st ⟨trivial, hy.ok.2.2⟩))
theorem s_lshr {e : Option T} {x : Int64} {y : Int32} (hX : CxOk X cc nL own rm) (hd : decode cc pc = .ok (.lshr, 1)) (h : Sim X nL A e ck sk (pc + 1) loc (.long (x >>> (y.toInt64 &&& 63)) :: stk) M) : Sim X nL A e ck sk pc loc (.int y :: .long x :: stk) M :=
  fun t ht hA ad H locs ls hy => lv_lshr hX.1 hX.2.1 hd rfl (h t ht hA ad H locs ls (hy.st ⟨trivial, hy.ok.2.2⟩))
theorem s_lcmp {e : Option T} {x y : Int64} (hX : CxOk X cc nL own rm) (hd : decode cc pc = .ok (.lcmp, 1)) (h : Sim X nL A e ck sk (pc + 1) loc (.int (lg_cmp x y) :: stk) M) : Sim X nL A e ck sk pc loc (.long y :: .long x :: stk) M :=
  fun t ht hA ad H locs ls hy => W.lcmp hX.1 hX.2.1 hd (h t ht hA ad H locs ls (hy.st ⟨trivial, hy.ok.2.2⟩))
theorem s_dup {e : Option T} {v : Value} (hX : CxOk X cc nL own rm) (hd : decode cc pc = .ok (.dup, 1)) (hv : v.category = 1) (h : Sim X nL A e ck sk (pc + 1) loc (v :: v :: stk) M) : Sim X nL A e ck sk pc loc (v :: stk) M :=
  fun t ht hA ad H locs ls hy => lv_dup hX.1 hX.2.1 hd ((cv_cat _ _ v).trans hv) (h t ht hA ad H locs ls (hy.st ⟨hy.ok.1, hy.ok⟩))
theorem s_pop {e : Option T} {v : Value} (hX : CxOk X cc nL own rm) (hd : decode cc pc = .ok (.pop, 1)) (hv : v.category = 1) (h : Sim X nL A e ck sk (pc + 1) loc (stk) M) : Sim X nL A e ck sk pc loc (v :: stk) M :=
  fun t ht hA ad H locs ls hy => lv_pop hX.1 hX.2.1 hd ((cv_cat _ _ v).trans hv) (h t ht hA ad H locs ls (hy.st hy.ok.2))
theorem s_dup2 {e : Option T} {v w : Value} (hX : CxOk X cc nL own rm) (hd : decode cc pc = .ok (.dup2, 1)) (hv : v.category = 1) (hw : w.category = 1) (h : Sim X nL A e ck sk (pc + 1) loc (v :: w :: v :: w :: stk) M) : Sim X nL A e ck sk pc loc (v :: w :: stk) M :=
  fun t ht hA ad H locs ls hy => lv_dup2_11 hX.1 hX.2.1 hd ((cv_cat _ _ v).trans hv) ((cv_cat _ _ w).trans hw) (h t ht hA ad H locs ls (hy.st ⟨hy.ok.1, hy.ok.2.1, hy.ok⟩))
theorem s_dup2l {e : Option T} {v : Value} (hX : CxOk X cc nL own rm) (hd : decode cc pc = .ok (.dup2, 1)) (hv : v.category = 2) (h : Sim X nL A e ck sk (pc + 1) loc (v :: v :: stk) M) : Sim X nL A e ck sk pc loc (v :: stk) M :=
  fun t ht hA ad H locs ls hy => lv_dup2_2 hX.1 hX.2.1 hd ((cv_cat _ _ v).trans hv) (h t ht hA ad H locs ls (hy.st ⟨hy.ok.1, hy.ok⟩))
theorem s_goto {e : Option T} {off : Int} {tgt : Nat} (hX : CxOk X cc nL own rm) (hd : decode cc pc = .ok (.goto off, 3)) (ht0 : (pc : Int) + off = (tgt : Int)) (h : Sim X nL A e ck sk tgt loc stk M) : Sim X nL A e ck sk pc loc stk M :=
  fun t ht hA ad H locs ls hy => lv_goto hX.1 hX.2.1 hd ht0 (h t ht hA ad H locs ls hy)
theorem s_ifeq {a b : Option T} {x : Int32} [Decidable (x = 0)] {off : Int} {tgt : Nat} (hX : CxOk X cc nL own rm) (hd : decode cc pc = .ok (.ifCond .eq off, 3)) (ht0 : (pc : Int) + off = (tgt : Int)) (h1 : Sim X nL A a ck sk tgt loc stk M) (h2 : Sim X nL A b ck sk (pc + 3) loc stk M) : Sim X nL A (if x = 0 then a else b) ck sk pc loc (.int x :: stk) M := by
  intro t ht hA ad H locs ls hy
  refine lv_if_eq hX.1 hX.2.1 hd ht0 (fun hc => ?_) (fun hc => ?_)
  · rw [if_pos hc] at ht; exact h1 t ht hA ad H locs ls (hy.st hy.ok.2)
  · rw [if_neg hc] at ht; exact h2 t ht hA ad H locs ls (hy.st hy.ok.2)
theorem s_iceq {a b : Option T} {x y : Int32} [Decidable (x = y)] {off : Int} {tgt : Nat} (hX : CxOk X cc nL own rm) (hd : decode cc pc = .ok (.if_icmp .eq off, 3)) (ht0 : (pc : Int) + off = (tgt : Int)) (h1 : Sim X nL A a ck sk tgt loc stk M) (h2 : Sim X nL A b ck sk (pc + 3) loc stk M) : Sim X nL A (if x = y then a else b) ck sk pc loc (.int y :: .int x :: stk) M := by
  intro t ht hA ad H locs ls hy
  refine lv_icmp_eq hX.1 hX.2.1 hd ht0 (fun hc => ?_) (fun hc => ?_)
  · rw [if_pos hc] at ht; exact h1 t ht hA ad H locs ls (hy.st hy.ok.2.2)
  · rw [if_neg hc] at ht; exact h2 t ht hA ad H locs ls (hy.st hy.ok.2.2)
theorem s_iflt {a b : Option T} {x : Int32} [Decidable (x < 0)] {off : Int} {tgt : Nat} (hX : CxOk X cc nL own rm) (hd : decode cc pc = .ok (.ifCond .lt off, 3)) (ht0 : (pc : Int) + off = (tgt : Int)) (h1 : Sim X nL A a ck sk tgt loc stk M) (h2 : Sim X nL A b ck sk (pc + 3) loc stk M) : Sim X nL A (if x < 0 then a else b) ck sk pc loc (.int x :: stk) M := by
  intro t ht hA ad H locs ls hy
  refine lv_if_lt hX.1 hX.2.1 hd ht0 (fun hc => ?_) (fun hc => ?_)
  · rw [if_pos hc] at ht; exact h1 t ht hA ad H locs ls (hy.st hy.ok.2)
  · rw [if_neg hc] at ht; exact h2 t ht hA ad H locs ls (hy.st hy.ok.2)
theorem s_iclt {a b : Option T} {x y : Int32} [Decidable (x < y)] {off : Int} {tgt : Nat} (hX : CxOk X cc nL own rm) (hd : decode cc pc = .ok (.if_icmp .lt off, 3)) (ht0 : (pc : Int) + off = (tgt : Int)) (h1 : Sim X nL A a ck sk tgt loc stk M) (h2 : Sim X nL A b ck sk (pc + 3) loc stk M) : Sim X nL A (if x < y then a else b) ck sk pc loc (.int y :: .int x :: stk) M := by
  intro t ht hA ad H locs ls hy
  refine lv_icmp_lt hX.1 hX.2.1 hd ht0 (fun hc => ?_) (fun hc => ?_)
  · rw [if_pos hc] at ht; exact h1 t ht hA ad H locs ls (hy.st hy.ok.2.2)
  · rw [if_neg hc] at ht; exact h2 t ht hA ad H locs ls (hy.st hy.ok.2.2)
theorem s_ifge {a b : Option T} {x : Int32} [Decidable (0 ≤ x)] {off : Int} {tgt : Nat} (hX : CxOk X cc nL own rm) (hd : decode cc pc = .ok (.ifCond .ge off, 3)) (ht0 : (pc : Int) + off = (tgt : Int)) (h1 : Sim X nL A a ck sk tgt loc stk M) (h2 : Sim X nL A b ck sk (pc + 3) loc stk M) : Sim X nL A (if 0 ≤ x then a else b) ck sk pc loc (.int x :: stk) M := by
  intro t ht hA ad H locs ls hy
  refine lv_if_ge hX.1 hX.2.1 hd ht0 (fun hc => ?_) (fun hc => ?_)
  · rw [if_pos hc] at ht; exact h1 t ht hA ad H locs ls (hy.st hy.ok.2)
  · rw [if_neg hc] at ht; exact h2 t ht hA ad H locs ls (hy.st hy.ok.2)
theorem s_icge {a b : Option T} {x y : Int32} [Decidable (y ≤ x)] {off : Int} {tgt : Nat} (hX : CxOk X cc nL own rm) (hd : decode cc pc = .ok (.if_icmp .ge off, 3)) (ht0 : (pc : Int) + off = (tgt : Int)) (h1 : Sim X nL A a ck sk tgt loc stk M) (h2 : Sim X nL A b ck sk (pc + 3) loc stk M) : Sim X nL A (if y ≤ x then a else b) ck sk pc loc (.int y :: .int x :: stk) M := by
  intro t ht hA ad H locs ls hy
  refine lv_icmp_ge hX.1 hX.2.1 hd ht0 (fun hc => ?_) (fun hc => ?_)
  · rw [if_pos hc] at ht; exact h1 t ht hA ad H locs ls (hy.st hy.ok.2.2)
  · rw [if_neg hc] at ht; exact h2 t ht hA ad H locs ls (hy.st hy.ok.2.2)
theorem s_ifgt {a b : Option T} {x : Int32} [Decidable (0 < x)] {off : Int} {tgt : Nat} (hX : CxOk X cc nL own rm) (hd : decode cc pc = .ok (.ifCond .gt off, 3)) (ht0 : (pc : Int) + off = (tgt : Int)) (h1 : Sim X nL A a ck sk tgt loc stk M) (h2 : Sim X nL A b ck sk (pc + 3) loc stk M) : Sim X nL A (if 0 < x then a else b) ck sk pc loc (.int x :: stk) M := by
  intro t ht hA ad H locs ls hy
  refine lv_if_gt hX.1 hX.2.1 hd ht0 (fun hc => ?_) (fun hc => ?_)
  · rw [if_pos hc] at ht; exact h1 t ht hA ad H locs ls (hy.st hy.ok.2)
  · rw [if_neg hc] at ht; exact h2 t ht hA ad H locs ls (hy.st hy.ok.2)
theorem s_icgt {a b : Option T} {x y : Int32} [Decidable (y < x)] {off : Int} {tgt : Nat} (hX : CxOk X cc nL own rm) (hd : decode cc pc = .ok (.if_icmp .gt off, 3)) (ht0 : (pc : Int) + off = (tgt : Int)) (h1 : Sim X nL A a ck sk tgt loc stk M) (h2 : Sim X nL A b ck sk (pc + 3) loc stk M) : Sim X nL A (if y < x then a else b) ck sk pc loc (.int y :: .int x :: stk) M := by
  intro t ht hA ad H locs ls hy
  refine lv_icmp_gt hX.1 hX.2.1 hd ht0 (fun hc => ?_) (fun hc => ?_)
  · rw [if_pos hc] at ht; exact h1 t ht hA ad H locs ls (hy.st hy.ok.2.2)
  · rw [if_neg hc] at ht; exact h2 t ht hA ad H locs ls (hy.st hy.ok.2.2)
theorem s_ifle {a b : Option T} {x : Int32} [Decidable (x ≤ 0)] {off : Int} {tgt : Nat} (hX : CxOk X cc nL own rm) (hd : decode cc pc = .ok (.ifCond .le off, 3)) (ht0 : (pc : Int) + off = (tgt : Int)) (h1 : Sim X nL A a ck sk tgt loc stk M) (h2 : Sim X nL A b ck sk (pc + 3) loc stk M) : Sim X nL A (if x ≤ 0 then a else b) ck sk pc loc (.int x :: stk) M := by
  intro t ht hA ad H locs ls hy
  refine lv_if_le hX.1 hX.2.1 hd ht0 (fun hc => ?_) (fun hc => ?_)
  · rw [if_pos hc] at ht; exact h1 t ht hA ad H locs ls (hy.st hy.ok.2)
  · rw [if_neg hc] at ht; exact h2 t ht hA ad H locs ls (hy.st hy.ok.2)
theorem s_icle {a b : Option T} {x y : Int32} [Decidable (x ≤ y)] {off : Int} {tgt : Nat} (hX : CxOk X cc nL own rm) (hd : decode cc pc = .ok (.if_icmp .le off, 3)) (ht0 : (pc : Int) + off = (tgt : Int)) (h1 : Sim X nL A a ck sk tgt loc stk M) (h2 : Sim X nL A b ck sk (pc + 3) loc stk M) : Sim X nL A (if x ≤ y then a else b) ck sk pc loc (.int y :: .int x :: stk) M := by
  intro t ht hA ad H locs ls hy
  refine lv_icmp_le hX.1 hX.2.1 hd ht0 (fun hc => ?_) (fun hc => ?_)
  · rw [if_pos hc] at ht; exact h1 t ht hA ad H locs ls (hy.st hy.ok.2.2)
  · rw [if_neg hc] at ht; exact h2 t ht hA ad H locs ls (hy.st hy.ok.2.2)
theorem s_ifne {a b : Option T} {x : Int32} [Decidable (x = 0)] {off : Int} {tgt : Nat} (hX : CxOk X cc nL own rm) (hd : decode cc pc = .ok (.ifCond .ne off, 3)) (ht0 : (pc : Int) + off = (tgt : Int)) (h1 : Sim X nL A a ck sk (pc + 3) loc stk M) (h2 : Sim X nL A b ck sk tgt loc stk M) : Sim X nL A (if x = 0 then a else b) ck sk pc loc (.int x :: stk) M := by
  intro t ht hA ad H locs ls hy
  refine lv_if_ne hX.1 hX.2.1 hd ht0 (fun hc => ?_) (fun hc => ?_)
  · rw [if_neg hc] at ht; exact h2 t ht hA ad H locs ls (hy.st hy.ok.2)
  · rw [if_pos hc] at ht; exact h1 t ht hA ad H locs ls (hy.st hy.ok.2)
theorem s_icne {a b : Option T} {x y : Int32} [Decidable (x = y)] {off : Int} {tgt : Nat} (hX : CxOk X cc nL own rm) (hd : decode cc pc = .ok (.if_icmp .ne off, 3)) (ht0 : (pc : Int) + off = (tgt : Int)) (h1 : Sim X nL A a ck sk (pc + 3) loc stk M) (h2 : Sim X nL A b ck sk tgt loc stk M) : Sim X nL A (if x = y then a else b) ck sk pc loc (.int y :: .int x :: stk) M := by
  intro t ht hA ad H locs ls hy
  refine lv_icmp_ne hX.1 hX.2.1 hd ht0 (fun hc => ?_) (fun hc => ?_)
  · rw [if_neg hc] at ht; exact h2 t ht hA ad H locs ls (hy.st hy.ok.2.2)
  · rw [if_pos hc] at ht; exact h1 t ht hA ad H locs ls (hy.st hy.ok.2.2)
theorem s_ifnonnull {a : Option T} {f : Nat → Option T} {v : Value} {off : Int} {tgt : Nat} (hX : CxOk X cc nL own rm) (hd : decode cc pc = .ok (.ifnonnull off, 3)) (ht0 : (pc : Int) + off = (tgt : Int)) (h1 : v = .null → Sim X nL A a ck sk (pc + 3) loc stk M) (h2 : ∀ j, v = .ref j → Sim X nL A (f j) ck sk tgt loc stk M) : Sim X nL A (nzR v a f) ck sk pc loc (v :: stk) M := by
  intro t ht hA ad H locs ls hy
  cases v with
  | null => exact lv_ifnonnullN hX.1 hX.2.1 hd (h1 rfl t ht hA ad H locs ls (hy.st hy.ok.2))
  | ref j => exact lv_ifnonnull hX.1 hX.2.1 hd ht0 (h2 j rfl t ht hA ad H locs ls (hy.st hy.ok.2))
  | _ => cases ht
theorem s_ifnonnullK {a : Option T} {f : Nat → Option T} {v : Value} {off : Int} {tgt : Nat} (hX : CxOk X cc nL own rm) (hd : decode cc pc = .ok (.ifnonnull off, 3)) (ht0 : (pc : Int) + off = (tgt : Int)) (h1 : v = .null → Sim X nL A a ck sk (pc + 3) loc stk M) (h2 : ∀ b : UInt32, b.toNat < 13 → v = .float b → Sim X nL A (f b.toNat) ck sk tgt loc stk M) : Sim X nL A (nzK v a f) ck sk pc loc (v :: stk) M := by
  intro t ht hA ad H locs ls hy
  cases v with
  | null => exact lv_ifnonnullN hX.1 hX.2.1 hd (h1 rfl t ht hA ad H locs ls (hy.st hy.ok.2))
  | float b =>
    have ht1 : (if b.toNat < 13 then f b.toNat else none) = some t := ht
    by_cases hb : b.toNat < 13
    · rw [if_pos hb] at ht1
      exact lv_ifnonnull hX.1 hX.2.1 hd ht0 (h2 b hb rfl t ht1 hA ad H locs ls (hy.st hy.ok.2))
    · rw [if_neg hb] at ht1; cases ht1
  | _ => cases ht
theorem s_ifnull {a : Option T} {f : Nat → Option T} {v : Value} {off : Int} {tgt : Nat} (hX : CxOk X cc nL own rm) (hd : decode cc pc = .ok (.ifnull off, 3)) (ht0 : (pc : Int) + off = (tgt : Int)) (h1 : v = .null → Sim X nL A a ck sk tgt loc stk M) (h2 : ∀ j, v = .ref j → Sim X nL A (f j) ck sk (pc + 3) loc stk M) : Sim X nL A (nzR v a f) ck sk pc loc (v :: stk) M := by
  intro t ht hA ad H locs ls hy
  cases v with
  | null => exact lv_ifnullN hX.1 hX.2.1 hd ht0 (h1 rfl t ht hA ad H locs ls (hy.st hy.ok.2))
  | ref j => exact lv_ifnull hX.1 hX.2.1 hd (h2 j rfl t ht hA ad H locs ls (hy.st hy.ok.2))
  | _ => cases ht
theorem s_asR {f : Nat → Option T} {v : Value} {stk : List Value} (h : ∀ j, v = .ref j → Sim X nL A (f j) ck sk pc loc stk M) : Sim X nL A (asR v f) ck sk pc loc stk M := by
  intro t ht hA
  cases v with
  | ref j => exact h j rfl t ht hA
  | _ => cases ht

theorem s_swC {a b : Option T} {dflt lo hi : Int} {offs : Array Int} {len : Nat} {x v : Int32} [Decidable (x = v)] {off : Int} {tgt : Nat} (j : Int) (hX : CxOk X cc nL own rm) (hd : decode cc pc = .ok (.tableswitch dflt lo hi offs, len)) (hb : x.toInt < lo ∨ j ≤ x.toInt) (hv : v.toInt = j) (hj : lo ≤ j ∧ j ≤ hi) (ho : offs[(j - lo).toNat]? = some off) (ht0 : (pc : Int) + off = (tgt : Int)) (h1 : Sim X nL A a ck sk tgt loc stk M) (h2 : (x.toInt < lo ∨ j + 1 ≤ x.toInt) → Sim X nL A b ck sk pc loc (.int x :: stk) M) : Sim X nL A (if x = v then a else b) ck sk pc loc (.int x :: stk) M := by
  intro t ht hA ad H locs ls hy
  by_cases hc : x = v
  · rw [if_pos hc] at ht
    subst hc
    exact lv_tableIn hX.1 hX.2.1 hd (by omega) (by omega) (by rw [hv]; exact ho) ht0 (h1 t ht hA ad H locs ls (hy.st hy.ok.2))
  · rw [if_neg hc] at ht
    have hne : ¬ x.toInt = j := fun q => hc (Int32.toInt_inj.mp (by rw [q, hv]))
    exact h2 (by omega) t ht hA ad H locs ls hy
theorem s_swD {e : Option T} {dflt lo hi : Int} {offs : Array Int} {len : Nat} {x : Int32} {tgt : Nat} (j : Int) (hX : CxOk X cc nL own rm) (hd : decode cc pc = .ok (.tableswitch dflt lo hi offs, len)) (hb : x.toInt < lo ∨ j ≤ x.toInt) (hj : hi + 1 = j) (ht0 : (pc : Int) + dflt = (tgt : Int)) (h : Sim X nL A e ck sk tgt loc stk M) : Sim X nL A e ck sk pc loc (.int x :: stk) M :=
  fun t ht hA ad H locs ls hy => lv_tableOut hX.1 hX.2.1 hd (by omega) ht0 (h t ht hA ad H locs ls (hy.st hy.ok.2))
theorem sw_0 (x : Int32) (lo : Int) : x.toInt < lo ∨ lo ≤ x.toInt := by omega


def lle : List (Option Value) → List (Option Value) → Prop
  | [], _ => True
  | none :: l, o :: l1 => lle l l1
  | some v :: l, o :: l1 => o = some v ∧ lle l l1
  | _ :: _, [] => False
theorem lle_at : ∀ {l l1 : List (Option Value)}, lle l l1 → ∀ (k : Nat) (v : Value), l[k]? = some (some v) → l1[k]? = some (some v) := by
  intro l
  induction l with
  | nil => intro l1 _ k v h; simp at h
  | cons w l ih =>
    intro l1 hl k v h
    cases l1 with
    | nil => cases w <;> exact hl.elim
    | cons o l1 =>
      cases k with
      | zero =>
        simp at h
        subst h
        exact congrArg some hl.1
      | succ k =>
        rw [List.getElem?_cons_succ] at h ⊢
        cases w with
        | none => exact ih hl k v h
        | some w => exact ih hl.2 k v h
theorem s_forget {e : Option T} {loc1 : List (Option Value)} (hl : lle loc1 loc) (h : Sim X nL A e ck sk pc loc1 stk M) : Sim X nL A e ck sk pc loc stk M :=
  fun t ht hA ad H locs ls hy => h t ht hA ad H locs ls ⟨hy.1, hy.2.1, hy.2.2.1, hy.2.2.2.1, hy.ok, okc_of (fun k v hk => okc_at hy.oc (lle_at hl k v hk)), hy.lr.1, hy.lr.2.1, fun k v hk => hy.lr.2.2 k v (lle_at hl k v hk)⟩
/-- a loop: the head's picture is a function of the loop's state -/
theorem s_loop {σ : Type} {step : σ → Option (σ ⊕ T)} (cL : σ → List (Option Value)) (cM : σ → MemT) (h : ∀ (s : σ) (B : σ ⊕ T → Prop), (∀ s1, B (.inl s1) → WW X nL ck sk pc (cL s1) stk (cM s1)) → (∀ u, B (.inr u) → A u) → Sim X nL B (step s) ck sk pc (cL s) stk (cM s)) :
    ∀ (n : Nat) (s : σ), Sim X nL A (loopF step n s) ck sk pc (cL s) stk (cM s) := by
  intro n
  induction n with
  | zero => intro s t ht; cases ht
  | succ n ih =>
    intro s t ht hA
    cases hs : step s with
    | none => simp [loopF, hs] at ht
    | some z =>
      refine h s (fun z => match z with | .inl s1 => loopF step n s1 = some t | .inr u => u = t) (fun s1 h1 => ih s1 t h1 hA) (fun u hu => by cases hu; exact hA) z hs ?_
      cases z with
      | inl s1 => simpa [loopF, hs] using ht
      | inr u => simpa [loopF, hs] using ht
/-- a loop that makes cells: each turn at most dc cells of ds slots -/
theorem s_loopA {σ : Type} {step : σ → Option (σ ⊕ T)} (cL : σ → List (Option Value)) (cM : σ → MemT) (N dc ds c0 s0 : Nat) (h : ∀ (j : Nat), j < N → ∀ (s : σ) (B : σ ⊕ T → Prop), (∀ s1, B (.inl s1) → WW X nL (c0 + (j + 1) * dc) (s0 + (j + 1) * ds) pc (cL s1) stk (cM s1)) → (∀ u, B (.inr u) → A u) → Sim X nL B (step s) (c0 + j * dc) (s0 + j * ds) pc (cL s) stk (cM s)) :
    ∀ (n : Nat) (s : σ), n ≤ N → Sim X nL A (loopF step n s) (c0 + (N - n) * dc) (s0 + (N - n) * ds) pc (cL s) stk (cM s) := by
  intro n
  induction n with
  | zero => intro s _ t ht; cases ht
  | succ n ih =>
    intro s hn t ht hA
    cases hs : step s with
    | none => simp [loopF, hs] at ht
    | some z =>
      have e1 : N - (n + 1) + 1 = N - n := by omega
      refine h (N - (n + 1)) (by omega) s (fun z => match z with | .inl s1 => loopF step n s1 = some t | .inr u => u = t) (fun s1 h1 => by rw [e1]; exact ih s1 (by omega) t h1 hA) (fun u hu => by cases hu; exact hA) z hs ?_
      cases z with
      | inl s1 => simpa [loopF, hs] using ht
      | inr u => simpa [loopF, hs] using ht
theorem s_loop0A {σ : Type} {step : σ → Option (σ ⊕ T)} {N dc ds c0 s0 : Nat} {s : σ} {cL : σ → List (Option Value)} {cM : σ → MemT} (h : Sim X nL A (loopF step N s) (c0 + (N - N) * dc) (s0 + (N - N) * ds) pc (cL s) stk (cM s)) : Sim X nL A (loopF step N s) c0 s0 pc (cL s) stk (cM s) := by
  simpa using h
theorem s_back {σ : Type} {B : σ ⊕ T → Prop} {cL : σ → List (Option Value)} {cM : σ → MemT} {s1 : σ} (hB : ∀ s1, B (.inl s1) → WW X nL ck sk pc (cL s1) stk (cM s1)) : Sim X nL B (some (.inl s1)) ck sk pc (cL s1) stk (cM s1) := by
  intro t ht hA
  cases ht
  exact hB s1 hA
theorem s_inr {σ : Type} {B : σ ⊕ T → Prop} {u : T} (hB : ∀ u, B (.inr u) → A u) (h : Sim X nL A (some u) ck sk pc loc stk M) : Sim X nL B (some (.inr u)) ck sk pc loc stk M := by
  intro t ht hA
  cases ht
  exact h u rfl (hB u hA)
theorem s_widen {e : Option T} {ck1 sk1 : Nat} (h1 : ck ≤ ck1) (h2 : sk ≤ sk1) (h : Sim X nL A e ck1 sk1 pc loc stk M) : Sim X nL A e ck sk pc loc stk M :=
  fun t ht hA ad H locs ls hy => W.widen h1 h2 (h t ht hA ad H locs ls hy)

end ROWS
