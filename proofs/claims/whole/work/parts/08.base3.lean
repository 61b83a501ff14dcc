/-! ===== BASE 3: rows of the memory, of calls, of ends ===== -/
def isI (c k : Nat) : Bool := decide (c < 9) && decide (k < NC c) && (match tyC c k with | .int => true | .boolean => true | _ => false)
def isII (c k : Nat) : Bool := decide (c < 9) && decide (k < NC c) && (match tyC c k with | .int => true | _ => false)
def isZ (c k : Nat) : Bool := decide (c < 9) && decide (k < NC c) && (match tyC c k with | .boolean => true | _ => false)
def isJ (c k : Nat) : Bool := decide (c < 9) && decide (k < NC c) && (match tyC c k with | .long => true | _ => false)
def isO (c k : Nat) : Bool := decide (c < 9) && decide (k < NC c) && (match tyC c k with | .object _ => true | .array _ => true | _ => false)
theorem is_lt {a b : Nat} {x y : Nat} {q : Bool} (h : (decide (a < b) && decide (x < y) && q) = true) : a < b ∧ x < y ∧ q = true := by
  simp only [Bool.and_eq_true, decide_eq_true_eq] at h
  exact ⟨h.1.1, h.1.2, h.2⟩
theorem fv_i {ad : Nat → Nat} {M : MemT} {c x k : Nat} (h : (match tyC c k with | .int => true | .boolean => true | _ => false) = true) : fval ad M c x k = .int (mI M x k) := by
  unfold fval
  split <;> simp_all
theorem fv_j {ad : Nat → Nat} {M : MemT} {c x k : Nat} (h : (match tyC c k with | .long => true | _ => false) = true) : fval ad M c x k = .long (mJ M x k) := by
  unfold fval
  split <;> simp_all
theorem fv_o {ad : Nat → Nat} {M : MemT} {c x k : Nat} (h : (match tyC c k with | .object _ => true | .array _ => true | _ => false) = true) : fval ad M c x k = va_re ad (mR M x k) := by
  unfold fval
  split <;> simp_all
theorem ty_ii {c k : Nat} (h : (match tyC c k with | .int => true | _ => false) = true) : tyC c k = .int := by
  split at h <;> simp_all
theorem ty_z {c k : Nat} (h : (match tyC c k with | .boolean => true | _ => false) = true) : tyC c k = .boolean := by
  split at h <;> simp_all
theorem ty_j {c k : Nat} (h : (match tyC c k with | .long => true | _ => false) = true) : tyC c k = .long := by
  split at h <;> simp_all
theorem ty_o {c k : Nat} (h : (match tyC c k with | .object _ => true | .array _ => true | _ => false) = true) : (∃ C, tyC c k = .object C) ∨ ∃ t, tyC c k = .array t := by
  split at h
  · next C e => exact Or.inl ⟨C, e⟩
  · next t e => exact Or.inr ⟨t, e⟩
  · cases h
theorem nar_o {c k : Nat} (h : (match tyC c k with | .object _ => true | .array _ => true | _ => false) = true) (a : Nat) : narrow (tyC c k) (.ref a) = .ref a ∧ fits (tyC c k) (.ref a) = true := by
  rcases ty_o h with ⟨C, e⟩ | ⟨t, e⟩ <;> rw [e] <;> exact ⟨rfl, rfl⟩
theorem WH.lt {D : va_G} {ac : Nat → ClassId} {ad : Nat → Nat} {A : Nat → Prop} {M : MemT} {H : Heap} (h : WH D ac ad A M H) {x : Nat} (hk : mK M x ≠ 9) : x < mN M := by
  rcases Nat.lt_or_ge x (mN M) with q | q
  · exact q
  · exact absurd (h.2.2.1 x q) hk
theorem okT_all : ∀ c, c < 9 → ∀ k, k < NC c → (match tyC c k with | .int => true | .boolean => true | .long => true | .object _ => true | .array _ => true | _ => false) = true := by decide +kernel
/-- the entries of the others stay when one object's contents change -/
theorem ent_sI {ac : Nat → ClassId} {ad : Nat → Nat} {M : MemT} {x k y : Nat} {v : Int32} (h : y ≠ x) : ent ac ad (sI M x k v) y = ent ac ad M y := by
  refine ent_same rfl rfl ?_ rfl (fun _ => rfl)
  funext j
  simp [mI, sI, up2, h]
theorem ent_sJ {ac : Nat → ClassId} {ad : Nat → Nat} {M : MemT} {x k y : Nat} {v : Int64} (h : y ≠ x) : ent ac ad (sJ M x k v) y = ent ac ad M y := by
  refine ent_same rfl rfl rfl ?_ (fun _ => rfl)
  funext j
  simp [mJ, sJ, up2, h]
theorem ent_sR {ac : Nat → ClassId} {ad : Nat → Nat} {M : MemT} {x k y : Nat} {v : Option Nat} (h : y ≠ x) : ent ac ad (sR M x k v) y = ent ac ad M y := by
  refine ent_same rfl rfl rfl rfl (fun j => ?_)
  simp [mR, sR, up2, h]
theorem ent_sIr {ac : Nat → ClassId} {ad : Nat → Nat} {M : MemT} {x y : Nat} {g : Nat → Int32} (h : y ≠ x) : ent ac ad (sIr M x g) y = ent ac ad M y := by
  refine ent_same rfl rfl ?_ rfl (fun _ => rfl)
  funext j
  simp [mI, sIr, upr, h]
theorem mR_sR {M : MemT} {x k : Nat} {v : Option Nat} {n : Nat} (h : ∀ x k j, mR M x k = some j → j < n) (hv : ∀ j, v = some j → j < n) : ∀ a b j, mR (sR M x k v) a b = some j → j < n := by
  intro a b j hj
  simp only [mR, sR, up2] at hj
  split at hj
  · exact hv j hj
  · exact h a b j hj
theorem va_RA.inj {U : State} {c1 c2 : ClassId} {ty : FieldType} (h1 : va_RA U c1 ty) (h2 : va_RA U c2 ty) : c1 = c2 := by
  cases ty with
  | object C =>
    obtain ⟨_, _, _, _, _, e1⟩ := h1
    obtain ⟨_, _, _, _, _, e2⟩ := h2
    exact Option.some.inj (e1.symm.trans e2)
  | _ => exact Option.some.inj (h1.symm.trans h2)
def KY (y : MethodName) (bytes : ByteArray) (maxL : Nat) (ret : Option FieldType) (n : Nat) : Prop := Cond.code y bytes maxL ret ∈ gT ∧ Cond.initialized y.cls ∈ gT ∧ (y.cls ≠ "java/lang/invoke/MethodHandle" ∧ y.cls ≠ "java/lang/invoke/VarHandle" ∧ (parseMethodDescriptor y.desc).map (fun d => d.parameters.length) = some n)
def KYV (y : MethodName) (bytes : ByteArray) (maxL : Nat) (ret : Option FieldType) (n : Nat) : Prop := KY y bytes maxL ret n ∧ Cond.instanceMethod y ∈ gT ∧ Cond.selects y.cls y y ∈ gT
def KYS (y : MethodName) (bytes : ByteArray) (maxL : Nat) (ret : Option FieldType) (n : Nat) : Prop := KY y bytes maxL ret n ∧ Cond.static y ∈ gT
def KYI (y : MethodName) (bytes : ByteArray) (maxL : Nat) (n : Nat) : Prop := KY y bytes maxL none n ∧ y.name = "<init>" ∧ Cond.instanceMethod y ∈ gT
def PG (D : va_G) (ac : Nat → ClassId) (kad ad : Nat → Nat) (M : MemT) (sz : Nat) (as : List Value) : Array Value → State → Prop :=
  va_Pc (as.map (cv ad kad)) (fun U => U.heap.size = sz ∧ okl (mN M) as ∧ WH D ac ad (fun _ => True) M U.heap ∧ va_K D vwCl (tysG ac) U ∧ CFt kad (freeA ad (mN M) sz) U U.heap)
def QG {α : Type} (inj : α → Option Value) (D : va_G) (ac : Nat → ClassId) (kad ad : Nat → Nat) (M : MemT) (sz : Nat) (r : α) (M1 : MemT) : Array Value → State → Outcome → State → Prop := fun _ st oc t =>
  (∃ ad1 : Nat → Nat, oc = .returned ((inj r).map (cv ad1 kad)) ∧ mN M ≤ mN M1 ∧ (∀ i, i < mN M → ad1 i = ad i) ∧ okl (mN M1) (inj r).toList ∧ WH D ac ad1 (freeA ad (mN M) sz) M1 t.heap ∧ va_K D vwCl (tysG ac) t) ∧ va_F (freeA ad (mN M) sz) st t
/-- the contract of a method: where the pure term answers, it returns that, and the heap holds that memory -/
def Ct {α : Type} (inj : α → Option Value) (y : MethodName) (cc : ByteArray) (maxL : Nat) (ret : Option FieldType) (rm : Room) (as : List Value) (M : MemT) (o : Option (α × MemT)) : Prop :=
  ∀ (l : Launch) (D : va_G) (ac : Nat → ClassId) (kad ad : Nat → Nat) (sz : Nat) (r : α) (M1 : MemT), o = some (r, M1) →
    Met l y (Cond.code y cc maxL ret :: gT) rm (PG D ac kad ad M sz as) (QG inj D ac kad ad M sz r M1) rm.cells rm.slots (freeA ad (mN M) sz)
/-- a method's locals as it begins -/
def locI : List Value → List (Option Value)
  | [] => []
  | v :: l => if v.category = 2 then some v :: none :: locI l else some v :: locI l
theorem locI_args {ad kad : Nat → Nat} : ∀ {as : List Value} {b k : Nat} {v : Value}, (locI as)[k]? = some (some v) → (b + k, cv ad kad v) ∈ lv_args b (as.map (cv ad kad)) := by
  intro as
  induction as with
  | nil => intro b k v h; simp [locI] at h
  | cons w l ih =>
    intro b k v h
    by_cases hc : w.category = 2
    · simp only [locI, if_pos hc] at h
      simp only [List.map_cons, lv_args, cv_cat, if_pos hc]
      match k, h with
      | 0, h => simp at h; subst h; exact List.mem_cons_self
      | 1, h => simp at h
      | k + 2, h =>
        have h1 := ih (b := b + 2) (k := k) (by simpa using h)
        rw [show b + 2 + k = b + (k + 2) by omega] at h1
        exact List.mem_cons_of_mem _ h1
    · simp only [locI, if_neg hc] at h
      simp only [List.map_cons, lv_args, cv_cat, if_neg hc]
      match k, h with
      | 0, h => simp at h; subst h; exact List.mem_cons_self
      | k + 1, h =>
        have h1 := ih (b := b + 1) (k := k) (by simpa using h)
        rw [show b + 1 + k = b + (k + 1) by omega] at h1
        exact List.mem_cons_of_mem _ h1
theorem okc_locI {n : Nat} : ∀ {as : List Value}, okl n as → okc n (locI as) := by
  intro as
  induction as with
  | nil => exact fun _ => trivial
  | cons w l ih =>
    intro h
    by_cases hc : w.category = 2
    · simp only [locI, if_pos hc]; exact ⟨h.1, ih h.2⟩
    · simp only [locI, if_neg hc]; exact ⟨h.1, ih h.2⟩
theorem okc_rep {n : Nat} : ∀ {l : List (Option Value)} {k : Nat}, okc n l → okc n (l ++ List.replicate k none) := by
  intro l k h
  refine okc_of (fun j v hj => ?_)
  by_cases hl : j < l.length
  · rw [List.getElem?_append_left hl] at hj; exact okc_at h hj
  · rw [List.getElem?_append_right (by omega)] at hj
    simp [List.getElem?_replicate] at hj
theorem lg_len {ad kad : Nat → Nat} : ∀ (l : List Value), (lg_sl (l.map (cv ad kad))).length = (lg_sl l).length := by
  intro l
  induction l with
  | nil => rfl
  | cons v l ih =>
    simp only [List.map_cons, lg_sl, List.flatMap_cons, List.length_append, cv_cat] at ih ⊢
    rw [ih]
    split <;> rfl
theorem Met_ofWF {y : MethodName} {ws ws' : List Cond} {l : Launch} {rm : Room} {Pc : Array Value → State → Prop} {Qc : Array Value → State → Outcome → State → Prop} {mc ms : Nat} {free : Addr → Prop} {cc : ByteArray} {maxL : Nat} {ret : Option FieldType}
    (hy : plainFor y = true) (hw : ws = Cond.code y cc maxL ret :: ws')
    (body : ∀ p e s m args below meth c s₁, BodyLoose p l y (headSpec ws rm) cc maxL ret e s m args below meth c s₁ → c.maxLocals = maxL → Pc args s →
      W p l e (headSpec ws rm).room s m args below meth c s.heap [] 0 0 (MQ below Qc args s mc ms free) (entryFrame m args maxL)) : Met l y ws rm Pc Qc mc ms free := by
  refine MetFree.of_bodySF (code := cc) (maxLocals := maxL) (ret := ret) hy ?_ ?_
  · intro args s m h hn
    obtain ⟨meth, c, h1, h2, h3, h4, h5, h6, -, -⟩ := Cond.code_spec hn (atoms_spec (ws := ws) h _ (by rw [hw]; exact List.mem_cons_self))
    exact ⟨meth, c, h1, h2, h3, h4, h5, h6⟩
  · intro p e s m args below meth c s₁ B hml hP _
    have hh0 : s₁.heap = s.heap := by rw [B.state]; rfl
    obtain ⟨t, a1, o, b1, b2, b3⟩ := body p e s m args below meth c s₁ B hml hP s₁ hh0 (Stand.of_body B)
    exact ⟨t, o, a1, b1, b2, ⟨b3.1, b3.2⟩⟩
theorem ct_intro {α : Type} {inj : α → Option Value} {y : MethodName} {cc : ByteArray} {maxL : Nat} {ret : Option FieldType} {rm : Room} {as : List Value} {M : MemT} {o : Option (α × MemT)} (own : String) (j : Nat) (loc : List (Option Value)) (hown : y.cls = own) (hy : plainFor y = true) (hloc : locI as ++ List.replicate j none = loc) (hlen : (lg_sl as).length ≤ maxL)
    (h : ∀ (X : CxT) (A : α × MemT → Prop), CxOk X cc maxL own rm → ((xmeth X).name = y.name) → RetG X rm ret inj A → Sim X maxL A o 0 0 0 loc [] M) : Ct inj y cc maxL ret rm as M o := by
  subst hown
  intro l D ac kad ad sz r M1 ho
  refine Met_ofWF hy rfl ?_
  intro p e s m args below meth c s1 B hml hv
  obtain ⟨rfl, hsz, hok, hW, hK, hC⟩ := hv
  subst hsz
  have hts := atoms_spec (ws := Cond.code y cc maxL ret :: gT) B.pre
  let X : CxT := (p, l, e, (headSpec (Cond.code y cc maxL ret :: gT) rm).room, s, m, (as.map (cv ad kad)).toArray, below, meth, c, MQ below (QG inj D ac kad ad M s.heap.size r M1) (as.map (cv ad kad)).toArray s rm.cells rm.slots (freeA ad (mN M) s.heap.size), D, ac, kad, ad, mN M)
  have hX : CxOk X cc maxL y.cls rm := ⟨B.exec, B.bytes, hml, findClass_of_methodNamed B.named, fun w hw => hts w (List.mem_cons_of_mem _ hw), hK, rfl, hC⟩
  have hR : RetG X rm ret inj (fun t => t = (r, M1)) := by
    refine ⟨_, _, rfl, B.returns, B.notSynchronized, ?_⟩
    intro r' M' ad1 H locs hA hW1 hS hn had hres
    cases hA
    refine ⟨fun t ht hWm => ⟨⟨ad1, rfl, hn, had, hres, by rw [ht]; exact hW1, va_K.moved hWm.alike hK⟩, hS.F ht⟩, hS.2.2⟩
  have hs := h X (fun t => t = (r, M1)) hX (name_of_methodNamed B.named B.method).1 hR (r, M1) ho rfl
  have hl := lv_entry (as.map (cv ad kad)) (n := maxL) (by
    rw [lg_len]; exact hlen)
  rw [lg_entry_eq]
  refine hs ad s.heap [] _ ⟨⟨hW.1, hW.2.1.weaken (fun k q hk _ => ?_), hW.2.2⟩, va_S.rf, Nat.le_refl _, fun _ _ => rfl, trivial, ?_, hl.1, hl.2.1, fun k v hk => ?_⟩
  · obtain ⟨h1, rfl⟩ := ws_lt hk
    exact Or.inl ⟨k, h1, rfl⟩
  · rw [← hloc]; exact okc_rep (okc_locI hok)
  · rw [← hloc] at hk
    have hlt : k < (locI as).length := by
      rcases Nat.lt_or_ge k (locI as).length with q | q
      · exact q
      · rw [List.getElem?_append_right q] at hk
        simp [List.getElem?_replicate] at hk
    rw [List.getElem?_append_left hlt] at hk
    have h1 := locI_args (ad := ad) (kad := kad) (b := 0) hk
    rw [Nat.zero_add] at h1
    exact hl.2.2 _ h1
section ROWS3
variable {X : CxT} {nL : Nat} {T : Type} {A : T → Prop} {ck sk pc : Nat} {loc : List (Option Value)} {stk : List Value} {M : MemT} {cc : ByteArray} {own : String} {rm : Room}

theorem s_getI {f : Int32 → Option T} {c k x idx : Nat} (hX : CxOk X cc nL own rm) (hd : decode cc pc = .ok (.getfield idx, 3)) (hq : fW own idx c k ∈ gT) (hk : isI c k = true) (h : ∀ v, Sim X nL A (f v) ck sk (pc + 3) loc (.int v :: stk) M) : Sim X nL A ((gI M c x k).bind f) ck sk pc loc (.ref x :: stk) M := by
  intro t ht hA ad H locs ls hy
  obtain ⟨h9, hkN, hty⟩ := is_lt hk
  unfold gI at ht
  by_cases hc : mK M x = c
  · rw [if_pos hc] at ht
    have hx : x < mN M := hy.1.lt (by omega)
    exact va_get (v := .int (mI M x k)) (C := RC c) (T := TC c) (N := NC c) (ci := c) (ref := (TC c k).1) (a := ad x) hX.1 hX.2.1 hX.2.2.2.2.1 (inC c h9) hX.2.2.2.1 hX.2.2.2.2.2.1 hy.1.1 x (fs := (List.range (NC c)).map (fval ad M c x)) (by rw [ws_at _ _ _ hx, ent_o hc h9]) (cl_at c h9) k hkN (hX.2.2.2.2.1 _ hq) (fun _ h => h) (by rw [fval_at hkN, fv_i hty]) hd (h _ t ht hA ad H locs ls (hy.st ⟨trivial, hy.ok.2⟩))
  · rw [if_neg hc] at ht; cases ht
theorem s_getJ {f : Int64 → Option T} {c k x idx : Nat} (hX : CxOk X cc nL own rm) (hd : decode cc pc = .ok (.getfield idx, 3)) (hq : fW own idx c k ∈ gT) (hk : isJ c k = true) (h : ∀ v, Sim X nL A (f v) ck sk (pc + 3) loc (.long v :: stk) M) : Sim X nL A ((gJ M c x k).bind f) ck sk pc loc (.ref x :: stk) M := by
  intro t ht hA ad H locs ls hy
  obtain ⟨h9, hkN, hty⟩ := is_lt hk
  unfold gJ at ht
  by_cases hc : mK M x = c
  · rw [if_pos hc] at ht
    have hx : x < mN M := hy.1.lt (by omega)
    exact va_get (v := .long (mJ M x k)) (C := RC c) (T := TC c) (N := NC c) (ci := c) (ref := (TC c k).1) (a := ad x) hX.1 hX.2.1 hX.2.2.2.2.1 (inC c h9) hX.2.2.2.1 hX.2.2.2.2.2.1 hy.1.1 x (fs := (List.range (NC c)).map (fval ad M c x)) (by rw [ws_at _ _ _ hx, ent_o hc h9]) (cl_at c h9) k hkN (hX.2.2.2.2.1 _ hq) (fun _ h => h) (by rw [fval_at hkN, fv_j hty]) hd (h _ t ht hA ad H locs ls (hy.st ⟨trivial, hy.ok.2⟩))
  · rw [if_neg hc] at ht; cases ht
theorem s_getO {f : Nat → Option T} {c k x idx : Nat} (hX : CxOk X cc nL own rm) (hd : decode cc pc = .ok (.getfield idx, 3)) (hq : fW own idx c k ∈ gT) (hk : isO c k = true) (h : ∀ j, Sim X nL A (f j) ck sk (pc + 3) loc (.ref j :: stk) M) : Sim X nL A ((gO M c x k).bind f) ck sk pc loc (.ref x :: stk) M := by
  intro t ht hA ad H locs ls hy
  obtain ⟨h9, hkN, hty⟩ := is_lt hk
  unfold gO at ht
  by_cases hc : mK M x = c
  · rw [if_pos hc] at ht
    have hx : x < mN M := hy.1.lt (by omega)
    cases hr : mR M x k with
    | none => rw [hr] at ht; cases ht
    | some j =>
      rw [hr] at ht
      exact va_get (v := .ref (ad j)) (C := RC c) (T := TC c) (N := NC c) (ci := c) (ref := (TC c k).1) (a := ad x) hX.1 hX.2.1 hX.2.2.2.2.1 (inC c h9) hX.2.2.2.1 hX.2.2.2.2.2.1 hy.1.1 x (fs := (List.range (NC c)).map (fval ad M c x)) (by rw [ws_at _ _ _ hx, ent_o hc h9]) (cl_at c h9) k hkN (hX.2.2.2.2.1 _ hq) (fun _ h => h) (by rw [fval_at hkN, fv_o hty, hr]; rfl) hd (h _ t ht hA ad H locs ls (hy.st ⟨hy.1.2.2.2 _ _ _ hr, hy.ok.2⟩))
  · rw [if_neg hc] at ht; cases ht
theorem s_getV {f : Value → Option T} {c k x idx : Nat} (hX : CxOk X cc nL own rm) (hd : decode cc pc = .ok (.getfield idx, 3)) (hq : fW own idx c k ∈ gT) (hk : isO c k = true) (h : ∀ j, Sim X nL A (f j) ck sk (pc + 3) loc (j :: stk) M) : Sim X nL A ((gV M c x k).bind f) ck sk pc loc (.ref x :: stk) M := by
  intro t ht hA ad H locs ls hy
  obtain ⟨h9, hkN, hty⟩ := is_lt hk
  unfold gV at ht
  by_cases hc : mK M x = c
  · rw [if_pos hc] at ht
    have hx : x < mN M := hy.1.lt (by omega)
    cases hr : mR M x k with
    | none =>
      rw [hr] at ht
      exact va_get (v := .null) (C := RC c) (T := TC c) (N := NC c) (ci := c) (ref := (TC c k).1) (a := ad x) hX.1 hX.2.1 hX.2.2.2.2.1 (inC c h9) hX.2.2.2.1 hX.2.2.2.2.2.1 hy.1.1 x (fs := (List.range (NC c)).map (fval ad M c x)) (by rw [ws_at _ _ _ hx, ent_o hc h9]) (cl_at c h9) k hkN (hX.2.2.2.2.1 _ hq) (fun _ h => h) (by rw [fval_at hkN, fv_o hty, hr]; rfl) hd (h _ t ht hA ad H locs ls (hy.st ⟨trivial, hy.ok.2⟩))
    | some j =>
      rw [hr] at ht
      exact va_get (v := .ref (ad j)) (C := RC c) (T := TC c) (N := NC c) (ci := c) (ref := (TC c k).1) (a := ad x) hX.1 hX.2.1 hX.2.2.2.2.1 (inC c h9) hX.2.2.2.1 hX.2.2.2.2.2.1 hy.1.1 x (fs := (List.range (NC c)).map (fval ad M c x)) (by rw [ws_at _ _ _ hx, ent_o hc h9]) (cl_at c h9) k hkN (hX.2.2.2.2.1 _ hq) (fun _ h => h) (by rw [fval_at hkN, fv_o hty, hr]; rfl) hd (h _ t ht hA ad H locs ls (hy.st ⟨hy.1.2.2.2 _ _ _ hr, hy.ok.2⟩))
  · rw [if_neg hc] at ht; cases ht

theorem s_putI {f : MemT → Option T} {c k x idx : Nat} {v : Int32} (hX : CxOk X cc nL own rm) (hd : decode cc pc = .ok (.putfield idx, 3)) (hq : fW own idx c k ∈ gT) (hk : isII c k = true) (hf : (TC c k).2.2.2 = false) (h : ∀ M1, Sim X nL A (f M1) ck sk (pc + 3) loc stk M1) : Sim X nL A ((pI M c x k v).bind f) ck sk pc loc (.int v :: .ref x :: stk) M := by
  intro t ht hA ad H locs ls hy
  obtain ⟨h9, hkN, hty⟩ := is_lt hk
  unfold pI at ht
  by_cases hc0 : mK M x = c
  · rw [if_pos hc0] at ht
    have hc : mK M x = c := hc0
    have hx : x < mN M := hy.1.lt (by omega)
    have hfv : fval ad (sI M x k v) c x k = .int v := by rw [fv_i (by rw [ty_ii hty])]; simp [mI, sI, up2, va_re, va_rf]
    have hfo : ∀ j, j ≠ k → fval ad (sI M x k v) c x j = fval ad M c x j := by
      intro j hj
      unfold fval
      split <;> simp [mI, mJ, mR, sI, up2, hj]
    have hws : (wsM (xac X) ad M).set x (ad x, .inr (c, ((List.range (NC c)).map (fval ad M c x)).set k (.int v))) = wsM (xac X) ad (sI M x k v) :=
      ws_set rfl (fun _ => by rw [ent_o (M := sI M x k v) hc h9, fs_set hfv hfo]) (fun y hy9 => ent_sI hy9)
    refine va_put (v := .int v) (ty := tyC c k) (C := RC c) (T := TC c) (N := NC c) (ci := c) (ref := (TC c k).1) (a := ad x) hX.1 hX.2.1 hX.2.2.2.2.1 (inC c h9) (tyC c) (tyC_ok c h9) (nmC c h9) hX.2.2.2.1 hX.2.2.2.2.2.1 hy.1.1 hy.1.2.1 hy.2.1 x (fs := (List.range (NC c)).map (fval ad M c x)) (by rw [ws_at _ _ _ hx, ent_o hc h9]) (cl_at c h9) k hkN (hX.2.2.2.2.1 _ hq) (fun _ h => h) hf (tyC_ok c h9 k hkN) (by rw [ty_ii hty]; rfl) (by rw [ty_ii hty]; rfl) (by simpa using hkN) hd (fun H1 locs1 hP hD hS => ?_)
    rw [hws] at hP hD
    exact h _ t ht hA ad H1 locs1 ls (hy.mem rfl rfl hy.1.2.2.2 hy.ok.2.2 hP hD hS)
  · rw [if_neg hc0] at ht; cases ht
theorem s_putIF {f : MemT → Option T} {c k x idx : Nat} {v : Int32} (hX : CxOk X cc nL own rm) (hd : decode cc pc = .ok (.putfield idx, 3)) (hq : fW own idx c k ∈ gT) (hk : isII c k = true) (hf : (TC c k).2.2.2 = true) (hI : (xmeth X).name = "<init>") (hdc : (TC c k).1 = own) (h : ∀ M1, Sim X nL A (f M1) ck sk (pc + 3) loc stk M1) : Sim X nL A ((pI M c x k v).bind f) ck sk pc loc (.int v :: .ref x :: stk) M := by
  intro t ht hA ad H locs ls hy
  obtain ⟨h9, hkN, hty⟩ := is_lt hk
  unfold pI at ht
  by_cases hc0 : mK M x = c
  · rw [if_pos hc0] at ht
    have hc : mK M x = c := hc0
    have hx : x < mN M := hy.1.lt (by omega)
    have hfv : fval ad (sI M x k v) c x k = .int v := by rw [fv_i (by rw [ty_ii hty])]; simp [mI, sI, up2, va_re, va_rf]
    have hfo : ∀ j, j ≠ k → fval ad (sI M x k v) c x j = fval ad M c x j := by
      intro j hj
      unfold fval
      split <;> simp [mI, mJ, mR, sI, up2, hj]
    have hws : (wsM (xac X) ad M).set x (ad x, .inr (c, ((List.range (NC c)).map (fval ad M c x)).set k (.int v))) = wsM (xac X) ad (sI M x k v) :=
      ws_set rfl (fun _ => by rw [ent_o (M := sI M x k v) hc h9, fs_set hfv hfo]) (fun y hy9 => ent_sI hy9)
    refine va_putF (v := .int v) (ty := tyC c k) (C := RC c) (T := TC c) (N := NC c) (ci := c) (ref := (TC c k).1) (a := ad x) hX.1 hX.2.1 hX.2.2.2.2.1 (inC c h9) (tyC c) (tyC_ok c h9) (nmC c h9) hX.2.2.2.1 hX.2.2.2.2.2.1 hy.1.1 hy.1.2.1 hy.2.1 x (fs := (List.range (NC c)).map (fval ad M c x)) (by rw [ws_at _ _ _ hx, ent_o hc h9]) (cl_at c h9) k hkN (hX.2.2.2.2.1 _ hq) (fun _ h => h) hf hI hdc (tyC_ok c h9 k hkN) (by rw [ty_ii hty]; rfl) (by rw [ty_ii hty]; rfl) (by simpa using hkN) hd (fun H1 locs1 hP hD hS => ?_)
    rw [hws] at hP hD
    exact h _ t ht hA ad H1 locs1 ls (hy.mem rfl rfl hy.1.2.2.2 hy.ok.2.2 hP hD hS)
  · rw [if_neg hc0] at ht; cases ht
theorem s_putZ {f : MemT → Option T} {c k x idx : Nat} {v : Int32} (hX : CxOk X cc nL own rm) (hd : decode cc pc = .ok (.putfield idx, 3)) (hq : fW own idx c k ∈ gT) (hk : isZ c k = true) (hf : (TC c k).2.2.2 = false) (h : ∀ M1, Sim X nL A (f M1) ck sk (pc + 3) loc stk M1) : Sim X nL A ((pZ M c x k v).bind f) ck sk pc loc (.int v :: .ref x :: stk) M := by
  intro t ht hA ad H locs ls hy
  obtain ⟨h9, hkN, hty⟩ := is_lt hk
  unfold pZ at ht
  by_cases hc0 : mK M x = c ∧ (v = 0 ∨ v = 1)
  · rw [if_pos hc0] at ht
    have hc : mK M x = c := hc0.1
    have hx : x < mN M := hy.1.lt (by omega)
    have hfv : fval ad (sI M x k v) c x k = .int v := by rw [fv_i (by rw [ty_z hty])]; simp [mI, sI, up2, va_re, va_rf]
    have hfo : ∀ j, j ≠ k → fval ad (sI M x k v) c x j = fval ad M c x j := by
      intro j hj
      unfold fval
      split <;> simp [mI, mJ, mR, sI, up2, hj]
    have hws : (wsM (xac X) ad M).set x (ad x, .inr (c, ((List.range (NC c)).map (fval ad M c x)).set k (.int v))) = wsM (xac X) ad (sI M x k v) :=
      ws_set rfl (fun _ => by rw [ent_o (M := sI M x k v) hc h9, fs_set hfv hfo]) (fun y hy9 => ent_sI hy9)
    refine va_put (v := .int v) (ty := tyC c k) (C := RC c) (T := TC c) (N := NC c) (ci := c) (ref := (TC c k).1) (a := ad x) hX.1 hX.2.1 hX.2.2.2.2.1 (inC c h9) (tyC c) (tyC_ok c h9) (nmC c h9) hX.2.2.2.1 hX.2.2.2.2.2.1 hy.1.1 hy.1.2.1 hy.2.1 x (fs := (List.range (NC c)).map (fval ad M c x)) (by rw [ws_at _ _ _ hx, ent_o hc h9]) (cl_at c h9) k hkN (hX.2.2.2.2.1 _ hq) (fun _ h => h) hf (tyC_ok c h9 k hkN) (by rw [ty_z hty]; rcases hc0.2 with e | e <;> rw [e] <;> rfl) (by rw [ty_z hty]; rcases hc0.2 with e | e <;> rw [e] <;> rfl) (by simpa using hkN) hd (fun H1 locs1 hP hD hS => ?_)
    rw [hws] at hP hD
    exact h _ t ht hA ad H1 locs1 ls (hy.mem rfl rfl hy.1.2.2.2 hy.ok.2.2 hP hD hS)
  · rw [if_neg hc0] at ht; cases ht
theorem s_putJ {f : MemT → Option T} {c k x idx : Nat} {v : Int64} (hX : CxOk X cc nL own rm) (hd : decode cc pc = .ok (.putfield idx, 3)) (hq : fW own idx c k ∈ gT) (hk : isJ c k = true) (hf : (TC c k).2.2.2 = false) (h : ∀ M1, Sim X nL A (f M1) ck sk (pc + 3) loc stk M1) : Sim X nL A ((pJ M c x k v).bind f) ck sk pc loc (.long v :: .ref x :: stk) M := by
  intro t ht hA ad H locs ls hy
  obtain ⟨h9, hkN, hty⟩ := is_lt hk
  unfold pJ at ht
  by_cases hc0 : mK M x = c
  · rw [if_pos hc0] at ht
    have hc : mK M x = c := hc0
    have hx : x < mN M := hy.1.lt (by omega)
    have hfv : fval ad (sJ M x k v) c x k = .long v := by rw [fv_j hty]; simp [mJ, sJ, up2, va_re, va_rf]
    have hfo : ∀ j, j ≠ k → fval ad (sJ M x k v) c x j = fval ad M c x j := by
      intro j hj
      unfold fval
      split <;> simp [mI, mJ, mR, sJ, up2, hj]
    have hws : (wsM (xac X) ad M).set x (ad x, .inr (c, ((List.range (NC c)).map (fval ad M c x)).set k (.long v))) = wsM (xac X) ad (sJ M x k v) :=
      ws_set rfl (fun _ => by rw [ent_o (M := sJ M x k v) hc h9, fs_set hfv hfo]) (fun y hy9 => ent_sJ hy9)
    refine va_put (v := .long v) (ty := tyC c k) (C := RC c) (T := TC c) (N := NC c) (ci := c) (ref := (TC c k).1) (a := ad x) hX.1 hX.2.1 hX.2.2.2.2.1 (inC c h9) (tyC c) (tyC_ok c h9) (nmC c h9) hX.2.2.2.1 hX.2.2.2.2.2.1 hy.1.1 hy.1.2.1 hy.2.1 x (fs := (List.range (NC c)).map (fval ad M c x)) (by rw [ws_at _ _ _ hx, ent_o hc h9]) (cl_at c h9) k hkN (hX.2.2.2.2.1 _ hq) (fun _ h => h) hf (tyC_ok c h9 k hkN) (by rw [ty_j hty]; rfl) (by rw [ty_j hty]; rfl) (by simpa using hkN) hd (fun H1 locs1 hP hD hS => ?_)
    rw [hws] at hP hD
    exact h _ t ht hA ad H1 locs1 ls (hy.mem rfl rfl hy.1.2.2.2 hy.ok.2.2 hP hD hS)
  · rw [if_neg hc0] at ht; cases ht
theorem s_putO {f : MemT → Option T} {c k x idx : Nat} {v : Nat} (hX : CxOk X cc nL own rm) (hd : decode cc pc = .ok (.putfield idx, 3)) (hq : fW own idx c k ∈ gT) (hk : isO c k = true) (hf : (TC c k).2.2.2 = false) (h : ∀ M1, Sim X nL A (f M1) ck sk (pc + 3) loc stk M1) : Sim X nL A ((pO M c x k v).bind f) ck sk pc loc (.ref v :: .ref x :: stk) M := by
  intro t ht hA ad H locs ls hy
  obtain ⟨h9, hkN, hty⟩ := is_lt hk
  unfold pO at ht
  by_cases hc0 : mK M x = c
  · rw [if_pos hc0] at ht
    have hc : mK M x = c := hc0
    have hx : x < mN M := hy.1.lt (by omega)
    have hfv : fval ad (sR M x k (some v)) c x k = .ref (ad v) := by rw [fv_o hty]; simp [mR, sR, up2, va_re, va_rf]
    have hfo : ∀ j, j ≠ k → fval ad (sR M x k (some v)) c x j = fval ad M c x j := by
      intro j hj
      unfold fval
      split <;> simp [mI, mJ, mR, sR, up2, hj]
    have hws : (wsM (xac X) ad M).set x (ad x, .inr (c, ((List.range (NC c)).map (fval ad M c x)).set k (.ref (ad v)))) = wsM (xac X) ad (sR M x k (some v)) :=
      ws_set rfl (fun _ => by rw [ent_o (M := sR M x k (some v)) hc h9, fs_set hfv hfo]) (fun y hy9 => ent_sR hy9)
    refine va_put (v := .ref (ad v)) (ty := tyC c k) (C := RC c) (T := TC c) (N := NC c) (ci := c) (ref := (TC c k).1) (a := ad x) hX.1 hX.2.1 hX.2.2.2.2.1 (inC c h9) (tyC c) (tyC_ok c h9) (nmC c h9) hX.2.2.2.1 hX.2.2.2.2.2.1 hy.1.1 hy.1.2.1 hy.2.1 x (fs := (List.range (NC c)).map (fval ad M c x)) (by rw [ws_at _ _ _ hx, ent_o hc h9]) (cl_at c h9) k hkN (hX.2.2.2.2.1 _ hq) (fun _ h => h) hf (tyC_ok c h9 k hkN) (nar_o hty _).1 (nar_o hty _).2 (by simpa using hkN) hd (fun H1 locs1 hP hD hS => ?_)
    rw [hws] at hP hD
    exact h _ t ht hA ad H1 locs1 ls (hy.mem rfl rfl (mR_sR hy.1.2.2.2 (fun j hj => by cases hj; exact hy.ok.1)) hy.ok.2.2 hP hD hS)
  · rw [if_neg hc0] at ht; cases ht
theorem s_putOF {f : MemT → Option T} {c k x idx : Nat} {v : Nat} (hX : CxOk X cc nL own rm) (hd : decode cc pc = .ok (.putfield idx, 3)) (hq : fW own idx c k ∈ gT) (hk : isO c k = true) (hf : (TC c k).2.2.2 = true) (hI : (xmeth X).name = "<init>") (hdc : (TC c k).1 = own) (h : ∀ M1, Sim X nL A (f M1) ck sk (pc + 3) loc stk M1) : Sim X nL A ((pO M c x k v).bind f) ck sk pc loc (.ref v :: .ref x :: stk) M := by
  intro t ht hA ad H locs ls hy
  obtain ⟨h9, hkN, hty⟩ := is_lt hk
  unfold pO at ht
  by_cases hc0 : mK M x = c
  · rw [if_pos hc0] at ht
    have hc : mK M x = c := hc0
    have hx : x < mN M := hy.1.lt (by omega)
    have hfv : fval ad (sR M x k (some v)) c x k = .ref (ad v) := by rw [fv_o hty]; simp [mR, sR, up2, va_re, va_rf]
    have hfo : ∀ j, j ≠ k → fval ad (sR M x k (some v)) c x j = fval ad M c x j := by
      intro j hj
      unfold fval
      split <;> simp [mI, mJ, mR, sR, up2, hj]
    have hws : (wsM (xac X) ad M).set x (ad x, .inr (c, ((List.range (NC c)).map (fval ad M c x)).set k (.ref (ad v)))) = wsM (xac X) ad (sR M x k (some v)) :=
      ws_set rfl (fun _ => by rw [ent_o (M := sR M x k (some v)) hc h9, fs_set hfv hfo]) (fun y hy9 => ent_sR hy9)
    refine va_putF (v := .ref (ad v)) (ty := tyC c k) (C := RC c) (T := TC c) (N := NC c) (ci := c) (ref := (TC c k).1) (a := ad x) hX.1 hX.2.1 hX.2.2.2.2.1 (inC c h9) (tyC c) (tyC_ok c h9) (nmC c h9) hX.2.2.2.1 hX.2.2.2.2.2.1 hy.1.1 hy.1.2.1 hy.2.1 x (fs := (List.range (NC c)).map (fval ad M c x)) (by rw [ws_at _ _ _ hx, ent_o hc h9]) (cl_at c h9) k hkN (hX.2.2.2.2.1 _ hq) (fun _ h => h) hf hI hdc (tyC_ok c h9 k hkN) (nar_o hty _).1 (nar_o hty _).2 (by simpa using hkN) hd (fun H1 locs1 hP hD hS => ?_)
    rw [hws] at hP hD
    exact h _ t ht hA ad H1 locs1 ls (hy.mem rfl rfl (mR_sR hy.1.2.2.2 (fun j hj => by cases hj; exact hy.ok.1)) hy.ok.2.2 hP hD hS)
  · rw [if_neg hc0] at ht; cases ht
theorem s_alen {f : Int32 → Option T} {x : Nat} (hX : CxOk X cc nL own rm) (hd : decode cc pc = .ok (.arraylength, 1)) (h : ∀ v, Sim X nL A (f v) ck sk (pc + 1) loc (.int v :: stk) M) : Sim X nL A ((aL M x).bind f) ck sk pc loc (.ref x :: stk) M := by
  intro t ht hA ad H locs ls hy
  unfold aL at ht
  by_cases hc : 10 ≤ mK M x ∧ mK M x < 16
  · rw [if_pos hc] at ht
    have hx : x < mN M := hy.1.lt (by omega)
    have e1 : (arrE ad M x).1 = mL M x := by
      unfold arrE; split
      · rfl
      · split <;> rfl
    exact va_alen (a := ad x) hX.1 hX.2.1 hX.2.2.2.2.2.1 hy.1.1 x (mK M x - 10) (by rw [ws_at _ _ _ hx, ent_a rfl hc.1]) (tys_at _ _ hc.1 hc.2) (v := nI (mL M x)) (by rw [e1]; rfl) hd (h _ t ht hA ad H locs ls (hy.st ⟨trivial, hy.ok.2⟩))
  · rw [if_neg hc] at ht; cases ht
theorem s_iald {f : Int32 → Option T} {x : Nat} {i : Int32} (hX : CxOk X cc nL own rm) (hd : decode cc pc = .ok (.iaload, 1)) (h : ∀ v, Sim X nL A (f v) ck sk (pc + 1) loc (.int v :: stk) M) : Sim X nL A ((aI M 10 x i).bind f) ck sk pc loc (.int i :: .ref x :: stk) M := by
  intro t ht hA ad H locs ls hy
  unfold aI at ht
  by_cases hc : inA M 10 x i
  · rw [if_pos hc] at ht
    have hx : x < mN M := hy.1.lt (by have := hc.1; omega)
    exact va_iald (a := ad x) hX.1 hX.2.1 hX.2.2.2.2.2.1 hy.1.1 x 0 (by rw [ws_at _ _ _ hx, ent_a hc.1 (by decide), arr_i hc.1 (by decide)]) rfl hc.2 hd (h _ t ht hA ad H locs ls (hy.st ⟨trivial, hy.ok.2.2⟩))
  · rw [if_neg hc] at ht; cases ht
theorem s_bald {f : Int32 → Option T} {x : Nat} {i : Int32} (hX : CxOk X cc nL own rm) (hd : decode cc pc = .ok (.baload, 1)) (h : ∀ v, Sim X nL A (f v) ck sk (pc + 1) loc (.int v :: stk) M) : Sim X nL A ((aI M 11 x i).bind f) ck sk pc loc (.int i :: .ref x :: stk) M := by
  intro t ht hA ad H locs ls hy
  unfold aI at ht
  by_cases hc : inA M 11 x i
  · rw [if_pos hc] at ht
    have hx : x < mN M := hy.1.lt (by have := hc.1; omega)
    exact va_bald (a := ad x) hX.1 hX.2.1 hX.2.2.2.2.2.1 hy.1.1 x 1 (by rw [ws_at _ _ _ hx, ent_a hc.1 (by decide), arr_i hc.1 (by decide)]) rfl hc.2 hd (h _ t ht hA ad H locs ls (hy.st ⟨trivial, hy.ok.2.2⟩))
  · rw [if_neg hc] at ht; cases ht
theorem s_zald {f : Int32 → Option T} {x : Nat} {i : Int32} (hX : CxOk X cc nL own rm) (hd : decode cc pc = .ok (.baload, 1)) (h : ∀ v, Sim X nL A (f v) ck sk (pc + 1) loc (.int v :: stk) M) : Sim X nL A ((aI M 12 x i).bind f) ck sk pc loc (.int i :: .ref x :: stk) M := by
  intro t ht hA ad H locs ls hy
  unfold aI at ht
  by_cases hc : inA M 12 x i
  · rw [if_pos hc] at ht
    have hx : x < mN M := hy.1.lt (by have := hc.1; omega)
    exact va_zald (a := ad x) hX.1 hX.2.1 hX.2.2.2.2.2.1 hy.1.1 x 2 (by rw [ws_at _ _ _ hx, ent_a hc.1 (by decide), arr_i hc.1 (by decide)]) rfl hc.2 hd (h _ t ht hA ad H locs ls (hy.st ⟨trivial, hy.ok.2.2⟩))
  · rw [if_neg hc] at ht; cases ht
theorem s_lald {f : Int64 → Option T} {x : Nat} {i : Int32} (hX : CxOk X cc nL own rm) (hd : decode cc pc = .ok (.laload, 1)) (h : ∀ v, Sim X nL A (f v) ck sk (pc + 1) loc (.long v :: stk) M) : Sim X nL A ((aJ M x i).bind f) ck sk pc loc (.int i :: .ref x :: stk) M := by
  intro t ht hA ad H locs ls hy
  unfold aJ at ht
  by_cases hc : inA M 13 x i
  · rw [if_pos hc] at ht
    have hx : x < mN M := hy.1.lt (by have := hc.1; omega)
    exact va_lald (a := ad x) hX.1 hX.2.1 hX.2.2.2.2.2.1 hy.1.1 x 3 (by rw [ws_at _ _ _ hx, ent_a hc.1 (by decide), arr_j hc.1]) rfl hc.2 hd (h _ t ht hA ad H locs ls (hy.st ⟨trivial, hy.ok.2.2⟩))
  · rw [if_neg hc] at ht; cases ht
theorem s_aald14 {f : Nat → Option T} {x : Nat} {i : Int32} (hX : CxOk X cc nL own rm) (hd : decode cc pc = .ok (.aaload, 1)) (h : ∀ j, Sim X nL A (f j) ck sk (pc + 1) loc (.ref j :: stk) M) : Sim X nL A ((aO M 14 x i).bind f) ck sk pc loc (.int i :: .ref x :: stk) M := by
  intro t ht hA ad H locs ls hy
  unfold aO at ht
  by_cases hc : inA M 14 x i
  · rw [if_pos hc] at ht
    have hx : x < mN M := hy.1.lt (by have := hc.1; omega)
    cases hr : mR M x i.toNatClampNeg with
    | none => rw [hr] at ht; cases ht
    | some j =>
      rw [hr] at ht
      refine va_aldq (a := ad x) (C := RX1) hX.1 hX.2.1 hX.2.2.2.2.2.1 hy.1.1 x 4 (by rw [ws_at _ _ _ hx, ent_a hc.1 (by decide), arr_r hc.1 (by decide)]) rfl hc.2 hd ?_
      have h1 := h j t ht hA ad H locs ls (hy.st ⟨hy.1.2.2.2 _ _ _ hr, hy.ok.2.2⟩)
      rw [hr]
      exact h1
  · rw [if_neg hc] at ht; cases ht
theorem s_aaldV14 {f : Value → Option T} {x : Nat} {i : Int32} (hX : CxOk X cc nL own rm) (hd : decode cc pc = .ok (.aaload, 1)) (h : ∀ j, Sim X nL A (f j) ck sk (pc + 1) loc (j :: stk) M) : Sim X nL A ((aV M 14 x i).bind f) ck sk pc loc (.int i :: .ref x :: stk) M := by
  intro t ht hA ad H locs ls hy
  unfold aV at ht
  by_cases hc : inA M 14 x i
  · rw [if_pos hc] at ht
    have hx : x < mN M := hy.1.lt (by have := hc.1; omega)
    refine va_aldq (a := ad x) (C := RX1) hX.1 hX.2.1 hX.2.2.2.2.2.1 hy.1.1 x 4 (by rw [ws_at _ _ _ hx, ent_a hc.1 (by decide), arr_r hc.1 (by decide)]) rfl hc.2 hd ?_
    cases hr : mR M x i.toNatClampNeg with
    | none =>
      rw [hr] at ht
      have h1 := h .null t ht hA ad H locs ls (hy.st ⟨trivial, hy.ok.2.2⟩)
      exact h1
    | some j =>
      rw [hr] at ht
      have h1 := h (.ref j) t ht hA ad H locs ls (hy.st ⟨hy.1.2.2.2 _ _ _ hr, hy.ok.2.2⟩)
      exact h1
  · rw [if_neg hc] at ht; cases ht
theorem s_aald15 {f : Nat → Option T} {x : Nat} {i : Int32} (hX : CxOk X cc nL own rm) (hd : decode cc pc = .ok (.aaload, 1)) (h : ∀ j, Sim X nL A (f j) ck sk (pc + 1) loc (.ref j :: stk) M) : Sim X nL A ((aO M 15 x i).bind f) ck sk pc loc (.int i :: .ref x :: stk) M := by
  intro t ht hA ad H locs ls hy
  unfold aO at ht
  by_cases hc : inA M 15 x i
  · rw [if_pos hc] at ht
    have hx : x < mN M := hy.1.lt (by have := hc.1; omega)
    cases hr : mR M x i.toNatClampNeg with
    | none => rw [hr] at ht; cases ht
    | some j =>
      rw [hr] at ht
      refine va_aldq (a := ad x) (C := RX2) hX.1 hX.2.1 hX.2.2.2.2.2.1 hy.1.1 x 5 (by rw [ws_at _ _ _ hx, ent_a hc.1 (by decide), arr_r hc.1 (by decide)]) rfl hc.2 hd ?_
      have h1 := h j t ht hA ad H locs ls (hy.st ⟨hy.1.2.2.2 _ _ _ hr, hy.ok.2.2⟩)
      rw [hr]
      exact h1
  · rw [if_neg hc] at ht; cases ht
theorem s_aaldV15 {f : Value → Option T} {x : Nat} {i : Int32} (hX : CxOk X cc nL own rm) (hd : decode cc pc = .ok (.aaload, 1)) (h : ∀ j, Sim X nL A (f j) ck sk (pc + 1) loc (j :: stk) M) : Sim X nL A ((aV M 15 x i).bind f) ck sk pc loc (.int i :: .ref x :: stk) M := by
  intro t ht hA ad H locs ls hy
  unfold aV at ht
  by_cases hc : inA M 15 x i
  · rw [if_pos hc] at ht
    have hx : x < mN M := hy.1.lt (by have := hc.1; omega)
    refine va_aldq (a := ad x) (C := RX2) hX.1 hX.2.1 hX.2.2.2.2.2.1 hy.1.1 x 5 (by rw [ws_at _ _ _ hx, ent_a hc.1 (by decide), arr_r hc.1 (by decide)]) rfl hc.2 hd ?_
    cases hr : mR M x i.toNatClampNeg with
    | none =>
      rw [hr] at ht
      have h1 := h .null t ht hA ad H locs ls (hy.st ⟨trivial, hy.ok.2.2⟩)
      exact h1
    | some j =>
      rw [hr] at ht
      have h1 := h (.ref j) t ht hA ad H locs ls (hy.st ⟨hy.1.2.2.2 _ _ _ hr, hy.ok.2.2⟩)
      exact h1
  · rw [if_neg hc] at ht; cases ht
theorem s_iast {f : MemT → Option T} {x : Nat} {i : Int32} {v : Int32} (hX : CxOk X cc nL own rm) (hd : decode cc pc = .ok (.iastore, 1)) (h : ∀ M1, Sim X nL A (f M1) ck sk (pc + 1) loc stk M1) : Sim X nL A ((wI M x i v).bind f) ck sk pc loc (.int v :: .int i :: .ref x :: stk) M := by
  intro t ht hA ad H locs ls hy
  unfold wI at ht
  by_cases hc : inA M 10 x i
  · rw [if_pos hc] at ht
    have hx : x < mN M := hy.1.lt (by have := hc.1; omega)
    have hk1 : mK (sI M x i.toNatClampNeg (v)) x = 10 := hc.1
    refine va_iast (a := ad x) hX.1 hX.2.1 hX.2.2.2.2.2.1 hy.1.1 hy.1.2.1 hy.2.1 x 0 (by rw [ws_at _ _ _ hx, ent_a hc.1 (by decide), arr_i hc.1 (by decide)]) rfl hc.2 hd (fun H1 locs1 hP hD hS => ?_)
    have hws : (wsM (xac X) ad M).set x (ad x, .inl (xac X 10, (mL M x, .inl (upd (mI M x) i.toNatClampNeg v)))) = wsM (xac X) ad (sI M x i.toNatClampNeg (v)) := by
      refine ws_set rfl (fun _ => ?_) (fun y hy9 => ent_sI hy9)
      rw [ent_a hk1 (by decide), arr_i hk1 (by decide)]
      refine congrArg Sum.inl (congrArg (Prod.mk _) (congrArg (Prod.mk _) ?_))
      refine congrArg Sum.inl ?_
      funext j
      by_cases hj : j = i.toNatClampNeg <;> simp [mI, sI, up2, upd, vp_updL, hj, vp_nar_byte] <;> rfl
    rw [hws] at hP hD
    exact h _ t ht hA ad H1 locs1 ls (hy.mem rfl rfl hy.1.2.2.2 hy.ok.2.2.2 hP hD hS)
  · rw [if_neg hc] at ht; cases ht
theorem s_bast {f : MemT → Option T} {x : Nat} {i : Int32} {v : Int32} (hX : CxOk X cc nL own rm) (hd : decode cc pc = .ok (.bastore, 1)) (h : ∀ M1, Sim X nL A (f M1) ck sk (pc + 1) loc stk M1) : Sim X nL A ((wB M x i v).bind f) ck sk pc loc (.int v :: .int i :: .ref x :: stk) M := by
  intro t ht hA ad H locs ls hy
  unfold wB at ht
  by_cases hc : inA M 11 x i
  · rw [if_pos hc] at ht
    have hx : x < mN M := hy.1.lt (by have := hc.1; omega)
    have hk1 : mK (sI M x i.toNatClampNeg (v.toInt8.toInt32)) x = 11 := hc.1
    refine va_bast (a := ad x) hX.1 hX.2.1 hX.2.2.2.2.2.1 hy.1.1 hy.1.2.1 hy.2.1 x 1 (by rw [ws_at _ _ _ hx, ent_a hc.1 (by decide), arr_i hc.1 (by decide)]) rfl hc.2 hd (fun H1 locs1 hP hD hS => ?_)
    have hws : (wsM (xac X) ad M).set x (ad x, .inl (xac X 11, (mL M x, .inl (upd (mI M x) i.toNatClampNeg (vp_nar .byte v))))) = wsM (xac X) ad (sI M x i.toNatClampNeg (v.toInt8.toInt32)) := by
      refine ws_set rfl (fun _ => ?_) (fun y hy9 => ent_sI hy9)
      rw [ent_a hk1 (by decide), arr_i hk1 (by decide)]
      refine congrArg Sum.inl (congrArg (Prod.mk _) (congrArg (Prod.mk _) ?_))
      refine congrArg Sum.inl ?_
      funext j
      by_cases hj : j = i.toNatClampNeg <;> simp [mI, sI, up2, upd, vp_updL, hj, vp_nar_byte] <;> rfl
    rw [hws] at hP hD
    exact h _ t ht hA ad H1 locs1 ls (hy.mem rfl rfl hy.1.2.2.2 hy.ok.2.2.2 hP hD hS)
  · rw [if_neg hc] at ht; cases ht
theorem s_zast {f : MemT → Option T} {x : Nat} {i : Int32} {v : Int32} (hX : CxOk X cc nL own rm) (hd : decode cc pc = .ok (.bastore, 1)) (h : ∀ M1, Sim X nL A (f M1) ck sk (pc + 1) loc stk M1) : Sim X nL A ((wZ M x i v).bind f) ck sk pc loc (.int v :: .int i :: .ref x :: stk) M := by
  intro t ht hA ad H locs ls hy
  unfold wZ at ht
  by_cases hc : inA M 12 x i
  · rw [if_pos hc] at ht
    have hx : x < mN M := hy.1.lt (by have := hc.1; omega)
    have hk1 : mK (sI M x i.toNatClampNeg (v &&& 1)) x = 12 := hc.1
    refine va_zast (a := ad x) hX.1 hX.2.1 hX.2.2.2.2.2.1 hy.1.1 hy.1.2.1 hy.2.1 x 2 (by rw [ws_at _ _ _ hx, ent_a hc.1 (by decide), arr_i hc.1 (by decide)]) rfl hc.2 hd (fun H1 locs1 hP hD hS => ?_)
    have hws : (wsM (xac X) ad M).set x (ad x, .inl (xac X 12, (mL M x, .inl (upd (mI M x) i.toNatClampNeg (vp_nar .boolean v))))) = wsM (xac X) ad (sI M x i.toNatClampNeg (v &&& 1)) := by
      refine ws_set rfl (fun _ => ?_) (fun y hy9 => ent_sI hy9)
      rw [ent_a hk1 (by decide), arr_i hk1 (by decide)]
      refine congrArg Sum.inl (congrArg (Prod.mk _) (congrArg (Prod.mk _) ?_))
      refine congrArg Sum.inl ?_
      funext j
      by_cases hj : j = i.toNatClampNeg <;> simp [mI, sI, up2, upd, vp_updL, hj, vp_nar_byte] <;> rfl
    rw [hws] at hP hD
    exact h _ t ht hA ad H1 locs1 ls (hy.mem rfl rfl hy.1.2.2.2 hy.ok.2.2.2 hP hD hS)
  · rw [if_neg hc] at ht; cases ht
theorem s_last {f : MemT → Option T} {x : Nat} {i : Int32} {v : Int64} (hX : CxOk X cc nL own rm) (hd : decode cc pc = .ok (.lastore, 1)) (h : ∀ M1, Sim X nL A (f M1) ck sk (pc + 1) loc stk M1) : Sim X nL A ((wJ M x i v).bind f) ck sk pc loc (.long v :: .int i :: .ref x :: stk) M := by
  intro t ht hA ad H locs ls hy
  unfold wJ at ht
  by_cases hc : inA M 13 x i
  · rw [if_pos hc] at ht
    have hx : x < mN M := hy.1.lt (by have := hc.1; omega)
    have hk1 : mK (sJ M x i.toNatClampNeg (v)) x = 13 := hc.1
    refine va_last (a := ad x) hX.1 hX.2.1 hX.2.2.2.2.2.1 hy.1.1 hy.1.2.1 hy.2.1 x 3 (by rw [ws_at _ _ _ hx, ent_a hc.1 (by decide), arr_j hc.1]) rfl hc.2 hd (fun H1 locs1 hP hD hS => ?_)
    have hws : (wsM (xac X) ad M).set x (ad x, .inl (xac X 13, (mL M x, .inr (.inl (vp_updL (mJ M x) i.toNatClampNeg v))))) = wsM (xac X) ad (sJ M x i.toNatClampNeg (v)) := by
      refine ws_set rfl (fun _ => ?_) (fun y hy9 => ent_sJ hy9)
      rw [ent_a hk1 (by decide), arr_j hk1]
      refine congrArg Sum.inl (congrArg (Prod.mk _) (congrArg (Prod.mk _) ?_))
      refine congrArg Sum.inr (congrArg Sum.inl ?_)
      funext j
      by_cases hj : j = i.toNatClampNeg <;> simp [mJ, sJ, up2, upd, vp_updL, hj, vp_nar_byte] <;> rfl
    rw [hws] at hP hD
    exact h _ t ht hA ad H1 locs1 ls (hy.mem rfl rfl hy.1.2.2.2 hy.ok.2.2.2 hP hD hS)
  · rw [if_neg hc] at ht; cases ht
theorem s_aast14 {f : MemT → Option T} {x j : Nat} {i : Int32} (hX : CxOk X cc nL own rm) (hd : decode cc pc = .ok (.aastore, 1)) (h : ∀ M1, Sim X nL A (f M1) ck sk (pc + 1) loc stk M1) : Sim X nL A ((wO M 14 0 x i j).bind f) ck sk pc loc (.ref j :: .int i :: .ref x :: stk) M := by
  intro t ht hA ad H locs ls hy
  unfold wO at ht
  by_cases hc : inA M 14 x i ∧ mK M j = 0
  · rw [if_pos hc] at ht
    have hx : x < mN M := hy.1.lt (by have := hc.1.1; omega)
    have hj : j < mN M := hy.1.lt (by have := hc.2; omega)
    have hk1 : mK (sR M x i.toNatClampNeg (some j)) x = 14 := hc.1.1
    refine va_astq (a := ad x) (r := (RC 0, TC 0, NC 0)) (v := ad j) hX.1 hX.2.1 hX.2.2.2.2.2.1 hy.1.1 hy.1.2.1 hy.2.1 x 4 j 0 (by rw [ws_at _ _ _ hx, ent_a hc.1.1 (by decide), arr_r hc.1.1 (by decide)]) rfl (by rw [ws_at _ _ _ hj, ent_o hc.2 (by decide)]) (cl_at 0 (by decide)) hc.1.2 hd (fun H1 locs1 hP hD hS => ?_)
    have hws : (wsM (xac X) ad M).set x (ad x, .inl (xac X 14, (mL M x, .inr (.inr (.inr (.inr (va_up (fun q => (mR M x q).map ad) i.toNatClampNeg (some (ad j))))))))) = wsM (xac X) ad (sR M x i.toNatClampNeg (some j)) := by
      refine ws_set rfl (fun _ => ?_) (fun y hy9 => ent_sR hy9)
      rw [ent_a hk1 (by decide), arr_r hk1 (by decide)]
      refine congrArg Sum.inl (congrArg (Prod.mk _) (congrArg (Prod.mk _) (congrArg Sum.inr (congrArg Sum.inr (congrArg Sum.inr (congrArg Sum.inr ?_))))))
      funext q
      by_cases hq : q = i.toNatClampNeg <;> simp [mR, sR, up2, va_up, hq]
    rw [hws] at hP hD
    exact h _ t ht hA ad H1 locs1 ls (hy.mem rfl rfl (mR_sR hy.1.2.2.2 (fun q hq => by cases hq; exact hj)) hy.ok.2.2.2 hP hD hS)
  · rw [if_neg hc] at ht; cases ht
theorem s_aast15 {f : MemT → Option T} {x j : Nat} {i : Int32} (hX : CxOk X cc nL own rm) (hd : decode cc pc = .ok (.aastore, 1)) (h : ∀ M1, Sim X nL A (f M1) ck sk (pc + 1) loc stk M1) : Sim X nL A ((wO M 15 1 x i j).bind f) ck sk pc loc (.ref j :: .int i :: .ref x :: stk) M := by
  intro t ht hA ad H locs ls hy
  unfold wO at ht
  by_cases hc : inA M 15 x i ∧ mK M j = 1
  · rw [if_pos hc] at ht
    have hx : x < mN M := hy.1.lt (by have := hc.1.1; omega)
    have hj : j < mN M := hy.1.lt (by have := hc.2; omega)
    have hk1 : mK (sR M x i.toNatClampNeg (some j)) x = 15 := hc.1.1
    refine va_astq (a := ad x) (r := (RC 1, TC 1, NC 1)) (v := ad j) hX.1 hX.2.1 hX.2.2.2.2.2.1 hy.1.1 hy.1.2.1 hy.2.1 x 5 j 1 (by rw [ws_at _ _ _ hx, ent_a hc.1.1 (by decide), arr_r hc.1.1 (by decide)]) rfl (by rw [ws_at _ _ _ hj, ent_o hc.2 (by decide)]) (cl_at 1 (by decide)) hc.1.2 hd (fun H1 locs1 hP hD hS => ?_)
    have hws : (wsM (xac X) ad M).set x (ad x, .inl (xac X 15, (mL M x, .inr (.inr (.inr (.inr (va_up (fun q => (mR M x q).map ad) i.toNatClampNeg (some (ad j))))))))) = wsM (xac X) ad (sR M x i.toNatClampNeg (some j)) := by
      refine ws_set rfl (fun _ => ?_) (fun y hy9 => ent_sR hy9)
      rw [ent_a hk1 (by decide), arr_r hk1 (by decide)]
      refine congrArg Sum.inl (congrArg (Prod.mk _) (congrArg (Prod.mk _) (congrArg Sum.inr (congrArg Sum.inr (congrArg Sum.inr (congrArg Sum.inr ?_))))))
      funext q
      by_cases hq : q = i.toNatClampNeg <;> simp [mR, sR, up2, va_up, hq]
    rw [hws] at hP hD
    exact h _ t ht hA ad H1 locs1 ls (hy.mem rfl rfl (mR_sR hy.1.2.2.2 (fun q hq => by cases hq; exact hj)) hy.ok.2.2.2 hP hD hS)
  · rw [if_neg hc] at ht; cases ht
theorem s_acpy {f : MemT → Option T} {x y idx : Nat} {sp dp n : Int32} (hX : CxOk X cc nL own rm) (hd : decode cc pc = .ok (.invokestatic idx, 3)) (hq : Cond.methodLink own idx arraycopyName ∈ gT) (hq1 : Cond.native arraycopyName ∈ gT) (hq2 : Cond.static arraycopyName ∈ gT) (hq3 : Cond.initialized "java/lang/System" ∈ gT) (hfr : 1 ≤ rm.frames) (hlo : (stk.map fun v => v.category).sum + (nativeFrameWords "java/lang/System" "arraycopy" 5 + 11) ≤ rm.locals) (h : ∀ M1, Sim X nL A (f M1) ck sk (pc + 3) loc stk M1) : Sim X nL A ((acpy M x sp y dp n).bind f) ck sk pc loc (.int n :: .int dp :: .ref y :: .int sp :: .ref x :: stk) M := by
  intro t ht hA ad H locs ls hy
  unfold acpy at ht
  by_cases hc : (mK M x = 10 ∧ mK M y = 10) ∧ (¬ sp < 0 ∧ ¬ dp < 0 ∧ ¬ n < 0) ∧ sp.toNatClampNeg + n.toNatClampNeg ≤ mL M x ∧ dp.toNatClampNeg + n.toNatClampNeg ≤ mL M y
  · rw [if_pos hc] at ht
    obtain ⟨⟨k1, k2⟩, ⟨g1, g2, g3⟩, g4, g5⟩ := hc
    have hx : x < mN M := hy.1.lt (by omega)
    have hy1 : y < mN M := hy.1.lt (by omega)
    refine va_copyi (a := ad y) (a0 := ad x) (ty := .int) hX.1 hX.2.1 (hX.2.2.1.trans hy.lr.1.symm) hX.2.2.2.1 (hX.2.2.2.2.1 _ hq) (hX.2.2.2.2.1 _ hq1) (hX.2.2.2.2.1 _ hq2) (hX.2.2.2.2.1 _ hq3) hX.2.2.2.2.2.1 hy.1.1 hy.1.2.1 hy.2.1 x y 0 0 (by rw [ws_at _ _ _ hx, ent_a k1 (by decide), arr_i k1 (by decide)]) (by rw [ws_at _ _ _ hy1, ent_a k2 (by decide), arr_i k2 (by decide)]) rfl rfl rfl g1 g2 g3 g4 g5 (fun _ _ => rfl) (by rw [hX.2.2.2.2.2.2.1]; exact hfr) (by rw [hX.2.2.2.2.2.2.1, cv_sum]; exact hlo) hd (fun H1 locs1 hP hD hS => ?_)
    have hk2 : mK (sIr M y (va_cpy (mI M x) (mI M y) sp.toNatClampNeg dp.toNatClampNeg n.toNatClampNeg)) y = 10 := k2
    have hws : (wsM (xac X) ad M).set y (ad y, .inl (xac X 10, mL M y, .inl (va_cpy (mI M x) (mI M y) sp.toNatClampNeg dp.toNatClampNeg n.toNatClampNeg))) = wsM (xac X) ad (sIr M y (va_cpy (mI M x) (mI M y) sp.toNatClampNeg dp.toNatClampNeg n.toNatClampNeg)) := by
      refine ws_set rfl (fun _ => ?_) (fun z hz => ent_sIr hz)
      rw [ent_a hk2 (by decide), arr_i hk2 (by decide)]
      refine congrArg Sum.inl (congrArg (Prod.mk _) (congrArg (Prod.mk _) (congrArg Sum.inl ?_)))
      funext j
      simp [mI, sIr, upr]
    rw [hws] at hP hD
    exact h _ t ht hA ad H1 locs1 ls (hy.mem rfl rfl hy.1.2.2.2 hy.ok.2.2.2.2.2 hP hD hS)
  · rw [if_neg hc] at ht; cases ht


theorem Hy.grow {M1 : MemT} {stk1 : List Value} {ad : Nat → Nat} {H H1 : Heap} {locs locs1 : List Loc} {ls : Array Slot} {q : Nat} (hy : Hy X nL M loc stk ad H locs ls) (hn : mN M1 = mN M + 1) (hk : ∀ x, mN M1 ≤ x → mK M1 x = 9) (hr : ∀ x k j, mR M1 x k = some j → j < mN M1) (ho : okl (mN M) stk1)
    (hP : va_P (xD X) vwCl (wsM (xac X) (up1 ad (mN M) q) M1) H1) (hD : va_D (A0 X) (wsM (xac X) (up1 ad (mN M) q) M1)) (hS : va_S (A0 X) (xs X).heap H1 locs1) : Hy X nL M1 loc (.ref (mN M) :: stk1) (up1 ad (mN M) q) H1 locs1 ls := by
  have hs : ∀ i, i < mN M → up1 ad (mN M) q i = ad i := fun i hi => by simp [up1, show ¬ i = mN M by omega]
  exact ⟨⟨hP, hD, hk, hr⟩, hS, by rw [hn]; exact Nat.le_succ_of_le hy.2.2.1, fun i hi => by rw [hs i (Nat.lt_of_lt_of_le hi hy.2.2.1)]; exact hy.2.2.2.1 i hi, ⟨by show mN M < mN M1; omega, okl_mono (by omega) ho⟩, okc_mono (by omega) hy.oc, lrel_same hs hy.oc hy.lr⟩
theorem nwM_K {M : MemT} {κ n : Nat} (h : ∀ x, mN M ≤ x → mK M x = 9) : ∀ x, mN (nwM M κ n) ≤ x → mK (nwM M κ n) x = 9 := by
  intro x hx
  have h1 : mN M + 1 ≤ x := hx
  show up1 M.1 M.2.2.1 κ x = 9
  have h2 : ¬ x = M.2.2.1 := by
    show ¬ x = mN M
    omega
  rw [up1, if_neg h2]
  exact h x (by omega)
theorem nwM_R {M : MemT} {κ n : Nat} (h : ∀ x k j, mR M x k = some j → j < mN M) : ∀ x k j, mR (nwM M κ n) x k = some j → j < mN (nwM M κ n) := by
  intro x k j hj
  have hj1 : upr M.2.2.2.1 M.2.2.1 (fun _ => none) x k = some j := hj
  show j < mN M + 1
  unfold upr at hj1
  split at hj1
  · cases hj1
  · exact Nat.lt_succ_of_lt (h x k j hj1)
theorem nwM_ent {ac : Nat → ClassId} {M : MemT} {κ n q : Nat} {ad : Nat → Nat} : ∀ y, y < mN M → (up1 ad (mN M) q y = ad y ∧ ent ac (up1 ad (mN M) q) (nwM M κ n) y = ent ac ad M y) ∨ ∃ k j, mR M y k = some j ∧ mN M ≤ j := by
  intro y hy
  have h2 : ¬ y = M.2.2.1 := by
    show ¬ y = mN M
    omega
  by_cases hr : ∃ k j, mR M y k = some j ∧ mN M ≤ j
  · exact Or.inr hr
  · refine Or.inl ⟨by simp [up1, show ¬ y = mN M by omega], ent_same ?_ ?_ ?_ ?_ (fun k => ?_)⟩
    · show up1 M.1 M.2.2.1 κ y = _
      rw [up1, if_neg h2]; rfl
    · show up1 M.2.1 M.2.2.1 n y = _
      rw [up1, if_neg h2]; rfl
    · show upr M.2.2.2.2.1 M.2.2.1 (fun _ => 0) y = _
      funext j
      rw [upr, if_neg h2]; rfl
    · show upr M.2.2.2.2.2 M.2.2.1 (fun _ => 0) y = _
      funext j
      rw [upr, if_neg h2]; rfl
    · have e : mR (nwM M κ n) y k = mR M y k := by
        show upr M.2.2.2.1 M.2.2.1 (fun _ => none) y k = _
        rw [upr, if_neg h2]; rfl
      rw [e]
      cases hj : mR M y k with
      | none => rfl
      | some j =>
        have : ¬ j = mN M := fun e => hr ⟨k, j, hj, by omega⟩
        simp [up1, this]
theorem nwM_ws {ac : Nat → ClassId} {M : MemT} {κ n q : Nat} {ad : Nat → Nat} {E : va_E} (hR : ∀ x k j, mR M x k = some j → j < mN M) (he : ent ac (up1 ad (mN M) q) (nwM M κ n) (mN M) = E) : wsM ac ad M ++ [(q, E)] = wsM ac (up1 ad (mN M) q) (nwM M κ n) :=
  ws_push rfl (by simp [up1]) he (fun y hy => by
    rcases nwM_ent (ac := ac) (M := M) (κ := κ) (n := n) (q := q) (ad := ad) y hy with h | ⟨k, j, h1, h2⟩
    · exact h
    · have := hR _ _ _ h1; omega)
theorem nwM_at {M : MemT} {κ n : Nat} : mK (nwM M κ n) (mN M) = κ ∧ mL (nwM M κ n) (mN M) = n ∧ mI (nwM M κ n) (mN M) = (fun _ => 0) ∧ mJ (nwM M κ n) (mN M) = (fun _ => 0) ∧ mR (nwM M κ n) (mN M) = (fun _ => none) := by
  refine ⟨?_, ?_, ?_, ?_, ?_⟩
  · show up1 M.1 M.2.2.1 κ M.2.2.1 = κ
    simp [up1]
  · show up1 M.2.1 M.2.2.1 n M.2.2.1 = n
    simp [up1]
  · show upr M.2.2.2.2.1 M.2.2.1 (fun _ => 0) M.2.2.1 = _
    funext j; simp [upr]
  · show upr M.2.2.2.2.2 M.2.2.1 (fun _ => 0) M.2.2.1 = _
    funext j; simp [upr]
  · show upr M.2.2.2.1 M.2.2.1 (fun _ => none) M.2.2.1 = _
    funext j; simp [upr]
theorem fval_new {ad : Nat → Nat} {M : MemT} {c k : Nat} (h9 : c < 9) (hk : k < NC c) : defaultValue (tyC c k) = fval ad (nwM M c 0) c (mN M) k := by
  have h := okT_all c h9 k hk
  obtain ⟨-, -, e1, e2, e3⟩ := nwM_at (M := M) (κ := c) (n := 0)
  unfold fval
  rw [e1, e2, e3]
  split at h <;> simp_all [defaultValue, va_re, va_rf]
theorem s_new {f : Nat → MemT → Option T} {c idx ck1 sk1 : Nat} (hX : CxOk X cc nL own rm) (hd : decode cc pc = .ok (.new idx, 3)) (h9 : c < 9) (hq : Cond.classLink own idx (RC c) ∈ gT) (hq1 : Cond.instantiable (RC c) (NC c) ∈ gT) (hq2 : Cond.initialized (RC c) ∈ gT) (h1 : ck + 1 ≤ rm.cells) (h2 : sk + NC c ≤ rm.slots) (e1 : ck + 1 = ck1) (e2 : sk + NC c = sk1) (h : ∀ q M1, Sim X nL A (f q M1) ck1 sk1 (pc + 3) loc (.ref q :: stk) M1) : Sim X nL A (nwO M c f) ck sk pc loc stk M := by
  intro t ht hA ad H locs ls hy
  subst e1; subst e2
  refine va_new (C := RC c) (T := TC c) (N := NC c) (ci := c) (fs := (List.range (NC c)).map (fval ad (nwM M c 0) c (mN M))) hX.1 hX.2.1 hX.2.2.2.2.1 (inC c h9) (tyC c) (tyC_ok c h9) hX.2.2.2.1 (hX.2.2.2.2.1 _ hq) (hX.2.2.2.2.1 _ hq1) (hX.2.2.2.2.1 _ hq2) hX.2.2.2.2.2.1 hy.1.1 hy.1.2.1 hy.2.1 (fun q hq => Or.inr hq) (cl_at c h9) (fun j hj => by rw [fval_new h9 hj (ad := ad) (M := M)]; simp [vp_V, hj]) (by rw [hX.2.2.2.2.2.2.1]; exact h1) (by rw [hX.2.2.2.2.2.2.1]; exact h2) hd (fun q H1 hP hD hS => ?_)
  have hws : wsM (xac X) ad M ++ [(q, .inr (c, (List.range (NC c)).map (fval ad (nwM M c 0) c (mN M))))] = wsM (xac X) (up1 ad (mN M) q) (nwM M c 0) := by
    refine nwM_ws hy.1.2.2.2 ?_
    rw [ent_o nwM_at.1 h9]
    refine congrArg Sum.inr (congrArg (Prod.mk _) (List.map_congr_left (fun k hk => ?_)))
    have hk := List.mem_range.mp hk
    rw [← fval_new h9 hk, ← fval_new h9 hk]
  rw [hws] at hP hD
  have h3 := h (mN M) (nwM M c 0) t ht hA (up1 ad (mN M) q) H1 locs ls (hy.grow rfl (nwM_K hy.1.2.2.1) (nwM_R hy.1.2.2.2) hy.ok hP hD hS)
  have e3 : (Value.ref (mN M) :: stk).map (cv (up1 ad (mN M) q) (xkad X)) = .ref q :: stk.map (cv ad (xkad X)) := by
    rw [List.map_cons, map_same (ad := ad) (ad1 := up1 ad (mN M) q) (n := mN M) (fun i hi => by simp [up1, show ¬ i = mN M by omega]) hy.ok]
    simp [cv, up1]
  rw [e3] at h3
  exact h3

theorem s_newaI {f : Nat → MemT → Option T} {N ck1 sk1 : Nat} {n : Int32} (hX : CxOk X cc nL own rm) (hd : decode cc pc = .ok (.newarray .int, 2)) (hq : Cond.arrayClass .int ∈ gT) (hn : ¬ n < 0) (hN : n.toNatClampNeg = N) (hb : N * componentBytes .int ≤ 536870912) (h1 : ck + 1 ≤ rm.cells) (h2 : sk + N ≤ rm.slots) (e1 : ck + 1 = ck1) (e2 : sk + N = sk1) (h : ∀ q M1, Sim X nL A (f q M1) ck1 sk1 (pc + 2) loc (.ref q :: stk) M1) : Sim X nL A (nwA M 10 N f) ck sk pc loc (.int n :: stk) M := by
  intro t ht hA ad H locs ls hy
  subst e1; subst e2
  refine va_newa (atype := .int) (a0 := (N, .inl (fun _ => 0))) (ty := .int) hX.1 hX.2.1 (hX.2.2.2.2.1 _ hq) rfl hX.2.2.2.2.2.1 hy.1.1 hy.1.2.1 hy.2.1 (fun q hq => Or.inr hq) (fun _ => rfl) hn hN hb (by rw [hX.2.2.2.2.2.2.1]; exact h1) (by rw [hX.2.2.2.2.2.2.1]; exact h2) hd (fun q cA H1 hK hP hD hS => ?_)
  have hcA : cA = xac X 10 := va_RA.inj (hK.2 6 (cA, .int) rfl).2 (hX.2.2.2.2.2.1.2 0 (xac X 10, .int) rfl).2
  subst hcA
  have hws : wsM (xac X) ad M ++ [(q, .inl (xac X 10, (N, .inl (fun _ => 0))))] = wsM (xac X) (up1 ad (mN M) q) (nwM M 10 N) := by
    refine nwM_ws hy.1.2.2.2 ?_
    rw [ent_a nwM_at.1 (by decide), arr_i nwM_at.1 (by decide), nwM_at.2.1, nwM_at.2.2.1]
  rw [hws] at hP hD
  have h3 := h (mN M) (nwM M 10 N) t ht hA (up1 ad (mN M) q) H1 locs ls (hy.grow rfl (nwM_K hy.1.2.2.1) (nwM_R hy.1.2.2.2) hy.ok.2 hP hD hS)
  have e3 : (Value.ref (mN M) :: stk).map (cv (up1 ad (mN M) q) (xkad X)) = .ref q :: stk.map (cv ad (xkad X)) := by
    rw [List.map_cons, map_same (ad := ad) (ad1 := up1 ad (mN M) q) (n := mN M) (fun i hi => by simp [up1, show ¬ i = mN M by omega]) hy.ok.2]
    simp [cv, up1]
  rw [e3] at h3
  exact h3
theorem s_newaB {f : Nat → MemT → Option T} {N ck1 sk1 : Nat} {n : Int32} (hX : CxOk X cc nL own rm) (hd : decode cc pc = .ok (.newarray .byte, 2)) (hq : Cond.arrayClass .byte ∈ gT) (hn : ¬ n < 0) (hN : n.toNatClampNeg = N) (hb : N * componentBytes .byte ≤ 536870912) (h1 : ck + 1 ≤ rm.cells) (h2 : sk + N ≤ rm.slots) (e1 : ck + 1 = ck1) (e2 : sk + N = sk1) (h : ∀ q M1, Sim X nL A (f q M1) ck1 sk1 (pc + 2) loc (.ref q :: stk) M1) : Sim X nL A (nwA M 11 N f) ck sk pc loc (.int n :: stk) M := by
  intro t ht hA ad H locs ls hy
  subst e1; subst e2
  refine va_newa (atype := .byte) (a0 := (N, .inl (fun _ => 0))) (ty := .byte) hX.1 hX.2.1 (hX.2.2.2.2.1 _ hq) rfl hX.2.2.2.2.2.1 hy.1.1 hy.1.2.1 hy.2.1 (fun q hq => Or.inr hq) (fun _ => rfl) hn hN hb (by rw [hX.2.2.2.2.2.2.1]; exact h1) (by rw [hX.2.2.2.2.2.2.1]; exact h2) hd (fun q cA H1 hK hP hD hS => ?_)
  have hcA : cA = xac X 11 := va_RA.inj (hK.2 6 (cA, .byte) rfl).2 (hX.2.2.2.2.2.1.2 1 (xac X 11, .byte) rfl).2
  subst hcA
  have hws : wsM (xac X) ad M ++ [(q, .inl (xac X 11, (N, .inl (fun _ => 0))))] = wsM (xac X) (up1 ad (mN M) q) (nwM M 11 N) := by
    refine nwM_ws hy.1.2.2.2 ?_
    rw [ent_a nwM_at.1 (by decide), arr_i nwM_at.1 (by decide), nwM_at.2.1, nwM_at.2.2.1]
  rw [hws] at hP hD
  have h3 := h (mN M) (nwM M 11 N) t ht hA (up1 ad (mN M) q) H1 locs ls (hy.grow rfl (nwM_K hy.1.2.2.1) (nwM_R hy.1.2.2.2) hy.ok.2 hP hD hS)
  have e3 : (Value.ref (mN M) :: stk).map (cv (up1 ad (mN M) q) (xkad X)) = .ref q :: stk.map (cv ad (xkad X)) := by
    rw [List.map_cons, map_same (ad := ad) (ad1 := up1 ad (mN M) q) (n := mN M) (fun i hi => by simp [up1, show ¬ i = mN M by omega]) hy.ok.2]
    simp [cv, up1]
  rw [e3] at h3
  exact h3
theorem s_newaZ {f : Nat → MemT → Option T} {N ck1 sk1 : Nat} {n : Int32} (hX : CxOk X cc nL own rm) (hd : decode cc pc = .ok (.newarray .boolean, 2)) (hq : Cond.arrayClass .boolean ∈ gT) (hn : ¬ n < 0) (hN : n.toNatClampNeg = N) (hb : N * componentBytes .boolean ≤ 536870912) (h1 : ck + 1 ≤ rm.cells) (h2 : sk + N ≤ rm.slots) (e1 : ck + 1 = ck1) (e2 : sk + N = sk1) (h : ∀ q M1, Sim X nL A (f q M1) ck1 sk1 (pc + 2) loc (.ref q :: stk) M1) : Sim X nL A (nwA M 12 N f) ck sk pc loc (.int n :: stk) M := by
  intro t ht hA ad H locs ls hy
  subst e1; subst e2
  refine va_newa (atype := .boolean) (a0 := (N, .inl (fun _ => 0))) (ty := .boolean) hX.1 hX.2.1 (hX.2.2.2.2.1 _ hq) rfl hX.2.2.2.2.2.1 hy.1.1 hy.1.2.1 hy.2.1 (fun q hq => Or.inr hq) (fun _ => rfl) hn hN hb (by rw [hX.2.2.2.2.2.2.1]; exact h1) (by rw [hX.2.2.2.2.2.2.1]; exact h2) hd (fun q cA H1 hK hP hD hS => ?_)
  have hcA : cA = xac X 12 := va_RA.inj (hK.2 6 (cA, .boolean) rfl).2 (hX.2.2.2.2.2.1.2 2 (xac X 12, .boolean) rfl).2
  subst hcA
  have hws : wsM (xac X) ad M ++ [(q, .inl (xac X 12, (N, .inl (fun _ => 0))))] = wsM (xac X) (up1 ad (mN M) q) (nwM M 12 N) := by
    refine nwM_ws hy.1.2.2.2 ?_
    rw [ent_a nwM_at.1 (by decide), arr_i nwM_at.1 (by decide), nwM_at.2.1, nwM_at.2.2.1]
  rw [hws] at hP hD
  have h3 := h (mN M) (nwM M 12 N) t ht hA (up1 ad (mN M) q) H1 locs ls (hy.grow rfl (nwM_K hy.1.2.2.1) (nwM_R hy.1.2.2.2) hy.ok.2 hP hD hS)
  have e3 : (Value.ref (mN M) :: stk).map (cv (up1 ad (mN M) q) (xkad X)) = .ref q :: stk.map (cv ad (xkad X)) := by
    rw [List.map_cons, map_same (ad := ad) (ad1 := up1 ad (mN M) q) (n := mN M) (fun i hi => by simp [up1, show ¬ i = mN M by omega]) hy.ok.2]
    simp [cv, up1]
  rw [e3] at h3
  exact h3
theorem s_newaJ {f : Nat → MemT → Option T} {N ck1 sk1 : Nat} {n : Int32} (hX : CxOk X cc nL own rm) (hd : decode cc pc = .ok (.newarray .long, 2)) (hq : Cond.arrayClass .long ∈ gT) (hn : ¬ n < 0) (hN : n.toNatClampNeg = N) (hb : N * componentBytes .long ≤ 536870912) (h1 : ck + 1 ≤ rm.cells) (h2 : sk + N ≤ rm.slots) (e1 : ck + 1 = ck1) (e2 : sk + N = sk1) (h : ∀ q M1, Sim X nL A (f q M1) ck1 sk1 (pc + 2) loc (.ref q :: stk) M1) : Sim X nL A (nwA M 13 N f) ck sk pc loc (.int n :: stk) M := by
  intro t ht hA ad H locs ls hy
  subst e1; subst e2
  refine va_newa (atype := .long) (a0 := (N, .inr (.inl (fun _ => 0)))) (ty := .long) hX.1 hX.2.1 (hX.2.2.2.2.1 _ hq) rfl hX.2.2.2.2.2.1 hy.1.1 hy.1.2.1 hy.2.1 (fun q hq => Or.inr hq) (fun _ => rfl) hn hN hb (by rw [hX.2.2.2.2.2.2.1]; exact h1) (by rw [hX.2.2.2.2.2.2.1]; exact h2) hd (fun q cA H1 hK hP hD hS => ?_)
  have hcA : cA = xac X 13 := va_RA.inj (hK.2 6 (cA, .long) rfl).2 (hX.2.2.2.2.2.1.2 3 (xac X 13, .long) rfl).2
  subst hcA
  have hws : wsM (xac X) ad M ++ [(q, .inl (xac X 13, (N, .inr (.inl (fun _ => 0)))))] = wsM (xac X) (up1 ad (mN M) q) (nwM M 13 N) := by
    refine nwM_ws hy.1.2.2.2 ?_
    rw [ent_a nwM_at.1 (by decide), arr_j nwM_at.1, nwM_at.2.1, nwM_at.2.2.2.1]
  rw [hws] at hP hD
  have h3 := h (mN M) (nwM M 13 N) t ht hA (up1 ad (mN M) q) H1 locs ls (hy.grow rfl (nwM_K hy.1.2.2.1) (nwM_R hy.1.2.2.2) hy.ok.2 hP hD hS)
  have e3 : (Value.ref (mN M) :: stk).map (cv (up1 ad (mN M) q) (xkad X)) = .ref q :: stk.map (cv ad (xkad X)) := by
    rw [List.map_cons, map_same (ad := ad) (ad1 := up1 ad (mN M) q) (n := mN M) (fun i hi => by simp [up1, show ¬ i = mN M by omega]) hy.ok.2]
    simp [cv, up1]
  rw [e3] at h3
  exact h3
theorem s_newa14 {f : Nat → MemT → Option T} {N ck1 sk1 idx : Nat} {n : Int32} (hX : CxOk X cc nL own rm) (hd : decode cc pc = .ok (.anewarray idx, 3)) (hq : Cond.classLink own idx RX1 ∈ gT) (hn : ¬ n < 0) (hN : n.toNatClampNeg = N) (hb : N * 4 ≤ 536870912) (h1 : ck + 1 ≤ rm.cells) (h2 : sk + N ≤ rm.slots) (e1 : ck + 1 = ck1) (e2 : sk + N = sk1) (h : ∀ q M1, Sim X nL A (f q M1) ck1 sk1 (pc + 3) loc (.ref q :: stk) M1) : Sim X nL A (nwA M 14 N f) ck sk pc loc (.int n :: stk) M := by
  intro t ht hA ad H locs ls hy
  subst e1; subst e2
  obtain ⟨-, -, -, -, -, -, -, -, -, -, -, -, ao1, ao2, -⟩ := hX.2.2.2.2.2.2.2
  refine va_newq (C := RX1) hX.1 hX.2.1 hX.2.2.2.1 (hX.2.2.2.2.1 _ hq) ao1 hX.2.2.2.2.2.1 hy.1.1 hy.1.2.1 hy.2.1 (fun q hq => Or.inr hq) hn hN hb (by rw [hX.2.2.2.2.2.2.1]; exact h1) (by rw [hX.2.2.2.2.2.2.1]; exact h2) hd (fun q cA H1 hK hP hD hS => ?_)
  have hcA : cA = xac X 14 := va_RA.inj (hK.2 6 (cA, .object RX1) rfl).2 (hX.2.2.2.2.2.1.2 4 (xac X 14, .object RX1) rfl).2
  subst hcA
  have hws : wsM (xac X) ad M ++ [(q, .inl (xac X 14, N, .inr (.inr (.inr (.inr (fun _ => none))))))] = wsM (xac X) (up1 ad (mN M) q) (nwM M 14 N) := by
    refine nwM_ws hy.1.2.2.2 ?_
    rw [ent_a nwM_at.1 (by decide), arr_r nwM_at.1 (by decide), nwM_at.2.1, nwM_at.2.2.2.2]
    rfl
  rw [hws] at hP hD
  have h3 := h (mN M) (nwM M 14 N) t ht hA (up1 ad (mN M) q) H1 locs ls (hy.grow rfl (nwM_K hy.1.2.2.1) (nwM_R hy.1.2.2.2) hy.ok.2 hP hD hS)
  have e3 : (Value.ref (mN M) :: stk).map (cv (up1 ad (mN M) q) (xkad X)) = .ref q :: stk.map (cv ad (xkad X)) := by
    rw [List.map_cons, map_same (ad := ad) (ad1 := up1 ad (mN M) q) (n := mN M) (fun i hi => by simp [up1, show ¬ i = mN M by omega]) hy.ok.2]
    simp [cv, up1]
  rw [e3] at h3
  exact h3
theorem s_newa15 {f : Nat → MemT → Option T} {N ck1 sk1 idx : Nat} {n : Int32} (hX : CxOk X cc nL own rm) (hd : decode cc pc = .ok (.anewarray idx, 3)) (hq : Cond.classLink own idx RX2 ∈ gT) (hn : ¬ n < 0) (hN : n.toNatClampNeg = N) (hb : N * 4 ≤ 536870912) (h1 : ck + 1 ≤ rm.cells) (h2 : sk + N ≤ rm.slots) (e1 : ck + 1 = ck1) (e2 : sk + N = sk1) (h : ∀ q M1, Sim X nL A (f q M1) ck1 sk1 (pc + 3) loc (.ref q :: stk) M1) : Sim X nL A (nwA M 15 N f) ck sk pc loc (.int n :: stk) M := by
  intro t ht hA ad H locs ls hy
  subst e1; subst e2
  obtain ⟨-, -, -, -, -, -, -, -, -, -, -, -, ao1, ao2, -⟩ := hX.2.2.2.2.2.2.2
  refine va_newq (C := RX2) hX.1 hX.2.1 hX.2.2.2.1 (hX.2.2.2.2.1 _ hq) ao2 hX.2.2.2.2.2.1 hy.1.1 hy.1.2.1 hy.2.1 (fun q hq => Or.inr hq) hn hN hb (by rw [hX.2.2.2.2.2.2.1]; exact h1) (by rw [hX.2.2.2.2.2.2.1]; exact h2) hd (fun q cA H1 hK hP hD hS => ?_)
  have hcA : cA = xac X 15 := va_RA.inj (hK.2 6 (cA, .object RX2) rfl).2 (hX.2.2.2.2.2.1.2 5 (xac X 15, .object RX2) rfl).2
  subst hcA
  have hws : wsM (xac X) ad M ++ [(q, .inl (xac X 15, N, .inr (.inr (.inr (.inr (fun _ => none))))))] = wsM (xac X) (up1 ad (mN M) q) (nwM M 15 N) := by
    refine nwM_ws hy.1.2.2.2 ?_
    rw [ent_a nwM_at.1 (by decide), arr_r nwM_at.1 (by decide), nwM_at.2.1, nwM_at.2.2.2.2]
    rfl
  rw [hws] at hP hD
  have h3 := h (mN M) (nwM M 15 N) t ht hA (up1 ad (mN M) q) H1 locs ls (hy.grow rfl (nwM_K hy.1.2.2.1) (nwM_R hy.1.2.2.2) hy.ok.2 hP hD hS)
  have e3 : (Value.ref (mN M) :: stk).map (cv (up1 ad (mN M) q) (xkad X)) = .ref q :: stk.map (cv ad (xkad X)) := by
    rw [List.map_cons, map_same (ad := ad) (ad1 := up1 ad (mN M) q) (n := mN M) (fun i hi => by simp [up1, show ¬ i = mN M by omega]) hy.ok.2]
    simp [cv, up1]
  rw [e3] at h3
  exact h3
theorem s_objInit {e : Option T} {x idx : Nat} (hX : CxOk X cc nL own rm) (hd : decode cc pc = .ok (.invokespecial idx, 3)) (hq : Cond.methodLink own idx objectInit ∈ gT) (hq1 : Cond.instanceMethod objectInit ∈ gT) (hq2 : Cond.code objectInit ⟨#[0xb1]⟩ 1 none ∈ gT) (hfr : 1 ≤ rm.frames) (hlo : (stk.map fun v => v.category).sum + 12 ≤ rm.locals) (h : Sim X nL A e ck sk (pc + 3) loc stk M) : Sim X nL A e ck sk pc loc (.ref x :: stk) M :=
  fun t ht hA ad H locs ls hy => W.objInit hX.1 hX.2.1 hX.2.2.2.1 (hX.2.2.2.2.1 _ hq) (hX.2.2.2.2.1 _ hq1) (hX.2.2.2.2.1 _ hq2) rfl (hy.lr.1.trans hX.2.2.1.symm) rfl hd (by rw [hX.2.2.2.2.2.2.1]; exact hfr) (by rw [hX.2.2.2.2.2.2.1, cv_sum]; show 2 * 0 + _ + 12 ≤ _; omega) (h t ht hA ad H locs ls (hy.st hy.ok.2))

theorem s_mmin {e : Option T} {v w : Int32} {idx : Nat} (hX : CxOk X cc nL own rm) (hd : decode cc pc = .ok (.invokestatic idx, 3)) (hq : Cond.methodLink own idx Lib.Math.min.name ∈ gT) (hq1 : Cond.static Lib.Math.min.name ∈ gT) (hq2 : Cond.initialized "java/lang/Math" ∈ gT) (hq3 : Cond.code Lib.Math.min.name Lib.Math.min.code 2 (some .int) ∈ gT) (hfr : 1 ≤ rm.frames) (hlo : (stk.map fun v => v.category).sum + 13 ≤ rm.locals) (hc : ck ≤ rm.cells) (hs : sk ≤ rm.slots) (h : Sim X nL A e ck sk (pc + 3) loc (.int (if w < v then w else v) :: stk) M) : Sim X nL A e ck sk pc loc (.int w :: .int v :: stk) M :=
  fun t ht hA ad H locs ls hy => va_mmin hX.1 hX.2.1 (hX.2.2.1.trans hy.lr.1.symm) hX.2.2.2.1 (hX.2.2.2.2.1 _ hq) (hX.2.2.2.2.1 _ hq1) (hX.2.2.2.2.1 _ hq2) (hX.2.2.2.2.1 _ hq3) (by rw [hX.2.2.2.2.2.2.1]; exact hfr) (by rw [hX.2.2.2.2.2.2.1, cv_sum]; exact hlo) (by rw [hX.2.2.2.2.2.2.1]; exact hc) (by rw [hX.2.2.2.2.2.2.1]; exact hs) hd (h t ht hA ad H locs ls (hy.st ⟨trivial, hy.ok.2.2⟩))

theorem s_mmax {e : Option T} {v w : Int32} {idx : Nat} (hX : CxOk X cc nL own rm) (hd : decode cc pc = .ok (.invokestatic idx, 3)) (hq : Cond.methodLink own idx Lib.Math.max.name ∈ gT) (hq1 : Cond.static Lib.Math.max.name ∈ gT) (hq2 : Cond.initialized "java/lang/Math" ∈ gT) (hq3 : Cond.code Lib.Math.max.name Lib.Math.max.code 2 (some .int) ∈ gT) (hfr : 1 ≤ rm.frames) (hlo : (stk.map fun v => v.category).sum + 13 ≤ rm.locals) (hc : ck ≤ rm.cells) (hs : sk ≤ rm.slots) (h : Sim X nL A e ck sk (pc + 3) loc (.int (if v < w then w else v) :: stk) M) : Sim X nL A e ck sk pc loc (.int w :: .int v :: stk) M :=
  fun t ht hA ad H locs ls hy => va_mmax hX.1 hX.2.1 (hX.2.2.1.trans hy.lr.1.symm) hX.2.2.2.1 (hX.2.2.2.2.1 _ hq) (hX.2.2.2.2.1 _ hq1) (hX.2.2.2.2.1 _ hq2) (hX.2.2.2.2.1 _ hq3) (by rw [hX.2.2.2.2.2.2.1]; exact hfr) (by rw [hX.2.2.2.2.2.2.1, cv_sum]; exact hlo) (by rw [hX.2.2.2.2.2.2.1]; exact hc) (by rw [hX.2.2.2.2.2.2.1]; exact hs) hd (h t ht hA ad H locs ls (hy.st ⟨trivial, hy.ok.2.2⟩))

theorem s_mabs {e : Option T} {v : Int32} {idx : Nat} (hX : CxOk X cc nL own rm) (hd : decode cc pc = .ok (.invokestatic idx, 3)) (hq : Cond.methodLink own idx Lib.Math.abs.name ∈ gT) (hq1 : Cond.static Lib.Math.abs.name ∈ gT) (hq2 : Cond.initialized "java/lang/Math" ∈ gT) (hq3 : Cond.code Lib.Math.abs.name Lib.Math.abs.code 1 (some .int) ∈ gT) (hfr : 1 ≤ rm.frames) (hlo : (stk.map fun v => v.category).sum + 13 ≤ rm.locals) (hc : ck ≤ rm.cells) (hs : sk ≤ rm.slots) (h : Sim X nL A e ck sk (pc + 3) loc (.int (if 0 ≤ v then v else 0 - v) :: stk) M) : Sim X nL A e ck sk pc loc (.int v :: stk) M :=
  fun t ht hA ad H locs ls hy => va_mabs hX.1 hX.2.1 (hX.2.2.1.trans hy.lr.1.symm) hX.2.2.2.1 (hX.2.2.2.2.1 _ hq) (hX.2.2.2.2.1 _ hq1) (hX.2.2.2.2.1 _ hq2) (hX.2.2.2.2.1 _ hq3) (by rw [hX.2.2.2.2.2.2.1]; exact hfr) (by rw [hX.2.2.2.2.2.2.1, cv_sum]; exact hlo) (by rw [hX.2.2.2.2.2.2.1]; exact hc) (by rw [hX.2.2.2.2.2.2.1]; exact hs) hd (h t ht hA ad H locs ls (hy.st ⟨trivial, hy.ok.2⟩))

theorem s_iret {v : Int32} {A : Int32 × MemT → Prop} (hX : CxOk X cc nL own rm) (hR : RetG X rm (some .int) iI A) (hd : decode cc pc = .ok (.ireturn, 1)) (h1 : ck ≤ rm.cells) (h2 : sk ≤ rm.slots) : Sim X nL A (some (v, M)) ck sk pc loc [.int v] M := by
  intro t ht hA ad H locs ls hy
  cases ht
  obtain ⟨Qc, free, hQ, hr, hlk, hk⟩ := hR
  obtain ⟨g1, g2⟩ := hk v M ad H locs hA hy.1 hy.2.1 hy.2.2.1 hy.2.2.2.1 ⟨trivial, trivial⟩
  refine W.widen (k := rm.cells) (n := rm.slots) h1 h2 ?_
  rw [hQ]
  exact W.zret hX.1 hX.2.1 hr rfl g1 g2 hd hlk
theorem s_zret {v : Int32} {A : Int32 × MemT → Prop} (hX : CxOk X cc nL own rm) (hR : RetG X rm (some .boolean) iI A) (hd : decode cc pc = .ok (.ireturn, 1)) (h1 : ck ≤ rm.cells) (h2 : sk ≤ rm.slots) : Sim X nL A (rz v M) ck sk pc loc [.int v] M := by
  intro t ht hA ad H locs ls hy
  unfold rz at ht
  by_cases hv : v = 0 ∨ v = 1
  · rw [if_pos hv] at ht
    cases ht
    obtain ⟨Qc, free, hQ, hr, hlk, hk⟩ := hR
    obtain ⟨g1, g2⟩ := hk v M ad H locs hA hy.1 hy.2.1 hy.2.2.1 hy.2.2.2.1 ⟨trivial, trivial⟩
    refine W.widen (k := rm.cells) (n := rm.slots) h1 h2 ?_
    rw [hQ]
    exact W.zret hX.1 hX.2.1 hr (by rcases hv with e | e <;> rw [e] <;> rfl) g1 g2 hd hlk
  · rw [if_neg hv] at ht; cases ht
theorem s_lret {v : Int64} {A : Int64 × MemT → Prop} (hX : CxOk X cc nL own rm) (hR : RetG X rm (some .long) iJ A) (hd : decode cc pc = .ok (.lreturn, 1)) (h1 : ck ≤ rm.cells) (h2 : sk ≤ rm.slots) : Sim X nL A (some (v, M)) ck sk pc loc [.long v] M := by
  intro t ht hA ad H locs ls hy
  cases ht
  obtain ⟨Qc, free, hQ, hr, hlk, hk⟩ := hR
  obtain ⟨g1, g2⟩ := hk v M ad H locs hA hy.1 hy.2.1 hy.2.2.1 hy.2.2.2.1 ⟨trivial, trivial⟩
  refine W.widen (k := rm.cells) (n := rm.slots) h1 h2 ?_
  rw [hQ]
  exact W.lret hX.1 hX.2.1 hr g1 g2 hd hlk
theorem s_vret {A : Unit × MemT → Prop} (hX : CxOk X cc nL own rm) (hR : RetG X rm none iU A) (hd : decode cc pc = .ok (.return_, 1)) (h1 : ck ≤ rm.cells) (h2 : sk ≤ rm.slots) : Sim X nL A (some ((), M)) ck sk pc loc [] M := by
  intro t ht hA ad H locs ls hy
  cases ht
  obtain ⟨Qc, free, hQ, hr, hlk, hk⟩ := hR
  obtain ⟨g1, g2⟩ := hk () M ad H locs hA hy.1 hy.2.1 hy.2.2.1 hy.2.2.2.1 trivial
  refine W.widen (k := rm.cells) (n := rm.slots) h1 h2 ?_
  rw [hQ]
  exact W.vret hX.1 hX.2.1 hr g1 g2 hd hlk
theorem s_aret {v : Value} {C : String} {A : Value × MemT → Prop} (hX : CxOk X cc nL own rm) (hR : RetG X rm (some (.object C)) iV A) (hd : decode cc pc = .ok (.areturn, 1)) (hv : (v = .null ∨ ∃ k, v = .float k) ∨ ∃ j, v = .ref j) (h1 : ck ≤ rm.cells) (h2 : sk ≤ rm.slots) : Sim X nL A (some (v, M)) ck sk pc loc [v] M := by
  intro t ht hA ad H locs ls hy
  cases ht
  obtain ⟨Qc, free, hQ, hr, hlk, hk⟩ := hR
  obtain ⟨g1, g2⟩ := hk v M ad H locs hA hy.1 hy.2.1 hy.2.2.1 hy.2.2.2.1 ⟨hy.ok.1, trivial⟩
  refine W.widen (k := rm.cells) (n := rm.slots) h1 h2 ?_
  rw [hQ]
  refine W.aret hX.1 hX.2.1 hr (Or.inl ⟨_, rfl⟩) ?_ g1 g2 hd hlk
  rcases hv with (e | ⟨k, e⟩) | ⟨j, e⟩
  · subst e; exact Or.inl rfl
  · subst e; exact Or.inr ⟨_, rfl⟩
  · subst e; exact Or.inr ⟨_, rfl⟩

theorem call_pre {as st0 : List Value} {ad : Nat → Nat} {H : Heap} {locs : List Loc} {ls : Array Slot} (hX : CxOk X cc nL own rm) (hy : Hy X nL M loc st0 ad H locs ls) (ho : okl (mN M) as) : FrameBlind (PG (xD X) (xac X) (xkad X) ad M H.size as) ∧ ∀ U : State, U.heap = H → (xs X).WarmedH U.vm → PG (xD X) (xac X) (xkad X) ad M H.size as (as.map (cv ad (xkad X))).toArray U := by
  refine ⟨fun a U g mk q => ?_, fun U hU hW => ?_⟩
  · obtain ⟨q1, q2, q3, q4, q5, q6⟩ := q
    exact ⟨q1, q2, q3, q4, va_K.moved (u := U) (U := U.calling g mk a) (Vm.Alike.refl U.vm) q5, CFt.blind (U := U) (U1 := U.calling g mk a) rfl q6⟩
  · refine ⟨rfl, by rw [hU], ho, ⟨by rw [hU]; exact hy.1.1, hy.1.2.1.weaken (fun _ _ _ _ => trivial), hy.1.2.2⟩, va_K.moved hW.alike hX.2.2.2.2.2.1, ?_⟩
    rw [hU]
    exact hX.2.2.2.2.2.2.2.go hy.2.1 hW hy.fr
theorem call_post {α : Type} {inj : α → Option Value} {r : α} {M1 : MemT} {a : Array Value} {st0 : List Value} {ad : Nat → Nat} {H : Heap} {locs : List Loc} {ls : Array Slot} {mc ms : Nat} {vst : List Value} (hy : Hy X nL M loc st0 ad H locs ls) (hst : okl (mN M) stk)
    (hr : va_Run (xp X) (xl X) (xe X) (xR X) (xs X) (xm X) (xargs X) (xbelow X) (xmeth X) (xc X) H locs ck sk mc ms (F0 (xm X) pc ls vst) (stk.map (cv ad (xkad X))) (QG inj (xD X) (xac X) (xkad X) ad M H.size r M1 a) (freeA ad (mN M) H.size))
    (h : WW X nL (ck + mc) (sk + ms) (pc + 3) loc ((inj r).toList ++ stk) M1) : W (xp X) (xl X) (xe X) (xR X) (xs X) (xm X) (xargs X) (xbelow X) (xmeth X) (xc X) H locs ck sk (xQ X) (F0 (xm X) pc ls vst) := by
  intro T hT XX
  obtain ⟨v, st₀, t, T', Lx, h0, X', hL, e1, e2, ⟨⟨ad1, hv, hn, had, hres, hWH, hKt⟩, hz, hk⟩, st⟩ := hr T hT XX
  have hv1 : v = (inj r).map (cv ad1 (xkad X)) := Outcome.returned.inj hv
  subst hv1
  rw [h0] at hz hk
  have hfr := hy.fr
  have hS1 : va_S (A0 X) (xs X).heap T'.heap (locs ++ Lx) := ⟨Nat.le_trans hy.2.1.1 (by rw [e1]; exact hz), fun q h1 h2 => by
      rw [e1, hk q (Nat.lt_of_lt_of_le h1 hy.2.1.1) (fun z => h2 (hfr q z))]
      exact hy.2.1.2.1 q h1 h2, fun q hq => by
      rcases List.mem_append.mp hq with h | h
      · exact hy.2.1.2.2 q h
      · exact hfr _ (hL q h)⟩
  have hy1 : Hy X nL M1 loc ((inj r).toList ++ stk) ad1 T'.heap (locs ++ Lx) ls :=
    ⟨⟨by rw [e1]; exact hWH.1, hWH.2.1.weaken (fun _ q _ hq => hfr _ hq), hWH.2.2⟩, hS1, Nat.le_trans hy.2.2.1 hn, fun i hi => by rw [had i (Nat.lt_of_lt_of_le hi hy.2.2.1)]; exact hy.2.2.2.1 i hi, okl_app.mpr ⟨hres, okl_mono hn hst⟩, okc_mono hn hy.oc, lrel_same had hy.oc hy.lr⟩
  obtain ⟨t2, a1, b1⟩ := h ad1 T'.heap (locs ++ Lx) ls hy1 T' rfl X'
  refine ⟨t2, st t2 ?_, b1⟩
  have es : ((inj r).map (cv ad1 (xkad X))).toList ++ stk.map (cv ad (xkad X)) = ((inj r).toList ++ stk).map (cv ad1 (xkad X)) := by
    rw [List.map_append, map_same had hst]
    cases inj r <;> rfl
  rw [es]
  exact a1
theorem rev_map (as : List Value) (x : Nat) (ad kad : Nat → Nat) : (as.reverse ++ Value.ref x :: stk).map (cv ad kad) = (as.map (cv ad kad)).reverse ++ .ref (ad x) :: stk.map (cv ad kad) := by
  simp [cv]
theorem okl_split {as : List Value} {x n : Nat} (h : okl n (as.reverse ++ .ref x :: stk)) : okl n (.ref x :: as) ∧ okl n stk := by
  obtain ⟨h1, h2, h3⟩ := okl_app.mp h
  exact ⟨⟨h2, okl_rev.mp h1⟩, h3⟩
abbrev Room.fit (rmY rm : Room) (maxL : Nat) : Prop := rmY.frames + 1 ≤ rm.frames ∧ 8 + (maxL + 11) + rmY.locals ≤ rm.locals

theorem s_callV {α : Type} {inj : α → Option Value} {o : Option (α × MemT)} {f : α → MemT → Option T} {as st0 : List Value} {y : MethodName} {bytes : ByteArray} {maxL n idx ck1 sk1 : Nat} {rmY : Room} {ret : Option FieldType} {x ci : Nat} (hX : CxOk X cc nL own rm) (hd : decode cc pc = .ok (.invokevirtual idx, 3)) (hk : KYV y bytes maxL ret n) (hq : Cond.methodLink own idx y ∈ gT) (hC : Ct inj y bytes maxL ret rmY (.ref x :: as) M o) (hci : ci < 9) (hcls : y.cls = RC ci) (hn : as.length = n) (hst : as.reverse ++ .ref x :: stk = st0) (hR : Room.fit rmY rm maxL) (hf : ck + rmY.cells ≤ rm.cells ∧ sk + rmY.slots ≤ rm.slots) (hcat : (stk.map fun v => v.category).sum ≤ 8) (e1 : ck + rmY.cells = ck1) (e2 : sk + rmY.slots = sk1) (h : ∀ r M1, Sim X nL A (f r M1) ck1 sk1 (pc + 3) loc ((inj r).toList ++ stk) M1) : Sim X nL A (chk M ci x (bd o f)) ck sk pc loc st0 M := by
  intro t ht hA ad H locs ls hy
  subst e1; subst e2; subst hst
  unfold chk at ht
  by_cases hc : mK M x = ci
  · rw [if_pos hc] at ht
    cases ho : o with
    | none => rw [ho] at ht; cases ht
    | some q =>
      obtain ⟨r, M1⟩ := q
      rw [ho] at ht
      obtain ⟨⟨k1, k2, k3⟩, k4, k5⟩ := hk
      have hx : x < mN M := hy.1.lt (by omega)
      obtain ⟨ho1, ho2⟩ := okl_split hy.ok
      obtain ⟨p1, p2⟩ := call_pre hX hy ho1
      rw [rev_map]
      refine call_post (inj := inj) hy ho2 (va_runV (C := y.cls) (ws := Cond.code y bytes maxL ret :: gT) (rm := rmY) (As := as.map (cv ad (xkad X))) ⟨hX.1, hX.2.1, hX.2.2.1, hX.2.2.2.1, hX.2.2.2.2.1⟩ (hC _ _ _ _ _ _ r M1 ho) ⟨callB_of n hX.2.2.2.2.1 (gT_call k1) rfl rfl rfl (hX.2.2.2.2.1 _ k2) (hX.2.2.2.2.1 _ hq) k3 (by rw [hX.2.2.2.2.2.2.1]; exact hR), hX.2.2.2.2.1 _ k4, hX.2.2.2.2.1 _ k5⟩ ⟨p1, ?_, p2⟩ rfl (by rw [List.length_map]; exact hn) hy.lr.1 rfl (lv_room (by rw [cv_sum]; exact hcat)) hd (by rw [hX.2.2.2.2.2.2.1]; exact hf)) (h r M1 t ht hA)
      rw [hcls]
      exact va_recv hX.2.2.2.2.2.1 hy.1.1 (cl_at ci hci) (by rw [ws_at _ _ _ hx, ent_o hc hci])
  · rw [if_neg hc] at ht; cases ht
theorem s_callI {α : Type} {inj : α → Option Value} {o : Option (α × MemT)} {f : α → MemT → Option T} {as st0 : List Value} {y : MethodName} {bytes : ByteArray} {maxL n idx ck1 sk1 : Nat} {rmY : Room} {x : Nat} (hX : CxOk X cc nL own rm) (hd : decode cc pc = .ok (.invokespecial idx, 3)) (hk : KYI y bytes maxL n) (hq : Cond.methodLink own idx y ∈ gT) (hC : Ct inj y bytes maxL none rmY (.ref x :: as) M o) (hn : as.length = n) (hst : as.reverse ++ .ref x :: stk = st0) (hR : Room.fit rmY rm maxL) (hf : ck + rmY.cells ≤ rm.cells ∧ sk + rmY.slots ≤ rm.slots) (hcat : (stk.map fun v => v.category).sum ≤ 8) (e1 : ck + rmY.cells = ck1) (e2 : sk + rmY.slots = sk1) (h : ∀ r M1, Sim X nL A (f r M1) ck1 sk1 (pc + 3) loc ((inj r).toList ++ stk) M1) : Sim X nL A (bd o f) ck sk pc loc st0 M := by
  intro t ht hA ad H locs ls hy
  subst e1; subst e2; subst hst
  cases ho : o with
  | none => rw [ho] at ht; cases ht
  | some q =>
    obtain ⟨r, M1⟩ := q
    rw [ho] at ht
    obtain ⟨⟨k1, k2, k3⟩, k4, k5⟩ := hk
    obtain ⟨ho1, ho2⟩ := okl_split hy.ok
    obtain ⟨p1, p2⟩ := call_pre hX hy ho1
    rw [rev_map]
    exact call_post (inj := inj) hy ho2 (va_runI (ws := Cond.code y bytes maxL none :: gT) (rm := rmY) (As := as.map (cv ad (xkad X))) ⟨hX.1, hX.2.1, hX.2.2.1, hX.2.2.2.1, hX.2.2.2.2.1⟩ (hC _ _ _ _ _ _ r M1 ho) ⟨callB_of n hX.2.2.2.2.1 (gT_call k1) rfl rfl rfl (hX.2.2.2.2.1 _ k2) (hX.2.2.2.2.1 _ hq) k3 (by rw [hX.2.2.2.2.2.2.1]; exact hR), k4, hX.2.2.2.2.1 _ k5⟩ ⟨p1, p2⟩ rfl (by rw [List.length_map]; exact hn) hy.lr.1 rfl (lv_room (by rw [cv_sum]; exact hcat)) hd (by rw [hX.2.2.2.2.2.2.1]; exact hf)) (h r M1 t ht hA)
theorem nst_at {w : Cond} (hX : CxOk X cc nL own rm) (hw : w ∈ nestW) : va_Nw w (xs X) := by
  obtain ⟨-, -, -, -, -, -, -, -, -, -, -, h, -⟩ := hX.2.2.2.2.2.2.2
  exact h w hw
theorem s_callIN {α : Type} {inj : α → Option Value} {o : Option (α × MemT)} {f : α → MemT → Option T} {as st0 : List Value} {y : MethodName} {bytes : ByteArray} {maxL n idx ck1 sk1 : Nat} {rmY : Room} {x : Nat} {host : String} (hX : CxOk X cc nL own rm) (hd : decode cc pc = .ok (.invokespecial idx, 3)) (hk : KYI y bytes maxL n) (hq : Cond.methodLinkNest own idx y host ∈ nestW) (hC : Ct inj y bytes maxL none rmY (.ref x :: as) M o) (hn : as.length = n) (hst : as.reverse ++ .ref x :: stk = st0) (hR : Room.fit rmY rm maxL) (hf : ck + rmY.cells ≤ rm.cells ∧ sk + rmY.slots ≤ rm.slots) (hcat : (stk.map fun v => v.category).sum ≤ 8) (e1 : ck + rmY.cells = ck1) (e2 : sk + rmY.slots = sk1) (h : ∀ r M1, Sim X nL A (f r M1) ck1 sk1 (pc + 3) loc ((inj r).toList ++ stk) M1) : Sim X nL A (bd o f) ck sk pc loc st0 M := by
  intro t ht hA ad H locs ls hy
  subst e1; subst e2; subst hst
  cases ho : o with
  | none => rw [ho] at ht; cases ht
  | some q =>
    obtain ⟨r, M1⟩ := q
    rw [ho] at ht
    obtain ⟨⟨k1, k2, k3⟩, k4, k5⟩ := hk
    obtain ⟨ho1, ho2⟩ := okl_split hy.ok
    obtain ⟨p1, p2⟩ := call_pre hX hy ho1
    rw [rev_map]
    exact call_post (inj := inj) hy ho2 (va_runIN (ws := Cond.code y bytes maxL none :: gT) (rm := rmY) (As := as.map (cv ad (xkad X))) ⟨hX.1, hX.2.1, hX.2.2.1, hX.2.2.2.1, hX.2.2.2.2.1⟩ (hC _ _ _ _ _ _ r M1 ho) ⟨va_cnB n hX.2.2.2.2.1 (gT_call k1) rfl rfl rfl (nst_at hX hq) (hX.2.2.2.2.1 _ k2) k3 (by rw [hX.2.2.2.2.2.2.1]; exact hR), k4, hX.2.2.2.2.1 _ k5⟩ ⟨p1, p2⟩ rfl (by rw [List.length_map]; exact hn) hy.lr.1 rfl (lv_room (by rw [cv_sum]; exact hcat)) hd (by rw [hX.2.2.2.2.2.2.1]; exact hf)) (h r M1 t ht hA)
theorem s_callS {α : Type} {inj : α → Option Value} {o : Option (α × MemT)} {f : α → MemT → Option T} {as st0 : List Value} {y : MethodName} {bytes : ByteArray} {maxL n idx ck1 sk1 : Nat} {rmY : Room} {ret : Option FieldType} (hX : CxOk X cc nL own rm) (hd : decode cc pc = .ok (.invokestatic idx, 3)) (hk : KYS y bytes maxL ret n) (hq : Cond.methodLink own idx y ∈ gT) (hC : Ct inj y bytes maxL ret rmY as M o) (hn : as.length = n) (hst : as.reverse ++ stk = st0) (hR : Room.fit rmY rm maxL) (hf : ck + rmY.cells ≤ rm.cells ∧ sk + rmY.slots ≤ rm.slots) (hcat : (stk.map fun v => v.category).sum ≤ 8) (e1 : ck + rmY.cells = ck1) (e2 : sk + rmY.slots = sk1) (h : ∀ r M1, Sim X nL A (f r M1) ck1 sk1 (pc + 3) loc ((inj r).toList ++ stk) M1) : Sim X nL A (bd o f) ck sk pc loc st0 M := by
  intro t ht hA ad H locs ls hy
  subst e1; subst e2; subst hst
  cases ho : o with
  | none => rw [ho] at ht; cases ht
  | some q =>
    obtain ⟨r, M1⟩ := q
    rw [ho] at ht
    obtain ⟨⟨k1, k2, k3⟩, k4⟩ := hk
    obtain ⟨ho1, ho2⟩ := okl_app.mp hy.ok
    obtain ⟨p1, p2⟩ := call_pre hX hy (okl_rev.mp ho1)
    rw [List.map_append, List.map_reverse]
    exact call_post (inj := inj) hy ho2 (va_runS (ws := Cond.code y bytes maxL ret :: gT) (rm := rmY) (As := as.map (cv ad (xkad X))) ⟨hX.1, hX.2.1, hX.2.2.1, hX.2.2.2.1, hX.2.2.2.2.1⟩ (hC _ _ _ _ _ _ r M1 ho) ⟨callB_of n hX.2.2.2.2.1 (gT_call k1) rfl rfl rfl (hX.2.2.2.2.1 _ k2) (hX.2.2.2.2.1 _ hq) k3 (by rw [hX.2.2.2.2.2.2.1]; exact hR), hX.2.2.2.2.1 _ k4⟩ ⟨p1, p2⟩ rfl (by rw [List.length_map]; exact hn) hy.lr.1 rfl (lv_room (by rw [cv_sum]; exact hcat)) hd (by rw [hX.2.2.2.2.2.2.1]; exact hf)) (h r M1 t ht hA)
theorem s_callSN {α : Type} {inj : α → Option Value} {o : Option (α × MemT)} {f : α → MemT → Option T} {as st0 : List Value} {y : MethodName} {bytes : ByteArray} {maxL n idx ck1 sk1 : Nat} {rmY : Room} {ret : Option FieldType} {host : String} (hX : CxOk X cc nL own rm) (hd : decode cc pc = .ok (.invokestatic idx, 3)) (hk : KYS y bytes maxL ret n) (hq : Cond.methodLinkNest own idx y host ∈ nestW) (hC : Ct inj y bytes maxL ret rmY as M o) (hn : as.length = n) (hst : as.reverse ++ stk = st0) (hR : Room.fit rmY rm maxL) (hf : ck + rmY.cells ≤ rm.cells ∧ sk + rmY.slots ≤ rm.slots) (hcat : (stk.map fun v => v.category).sum ≤ 8) (e1 : ck + rmY.cells = ck1) (e2 : sk + rmY.slots = sk1) (h : ∀ r M1, Sim X nL A (f r M1) ck1 sk1 (pc + 3) loc ((inj r).toList ++ stk) M1) : Sim X nL A (bd o f) ck sk pc loc st0 M := by
  intro t ht hA ad H locs ls hy
  subst e1; subst e2; subst hst
  cases ho : o with
  | none => rw [ho] at ht; cases ht
  | some q =>
    obtain ⟨r, M1⟩ := q
    rw [ho] at ht
    obtain ⟨⟨k1, k2, k3⟩, k4⟩ := hk
    obtain ⟨ho1, ho2⟩ := okl_app.mp hy.ok
    obtain ⟨p1, p2⟩ := call_pre hX hy (okl_rev.mp ho1)
    rw [List.map_append, List.map_reverse]
    exact call_post (inj := inj) hy ho2 (va_runSN (ws := Cond.code y bytes maxL ret :: gT) (rm := rmY) (As := as.map (cv ad (xkad X))) ⟨hX.1, hX.2.1, hX.2.2.1, hX.2.2.2.1, hX.2.2.2.2.1⟩ (hC _ _ _ _ _ _ r M1 ho) ⟨va_cnB n hX.2.2.2.2.1 (gT_call k1) rfl rfl rfl (nst_at hX hq) (hX.2.2.2.2.1 _ k2) k3 (by rw [hX.2.2.2.2.2.2.1]; exact hR), hX.2.2.2.2.1 _ k4, trivial⟩ ⟨p1, p2⟩ rfl (by rw [List.length_map]; exact hn) hy.lr.1 rfl (lv_room (by rw [cv_sum]; exact hcat)) hd (by rw [hX.2.2.2.2.2.2.1]; exact hf)) (h r M1 t ht hA)
end ROWS3

