/-! ===== BASE 4: joins, loops that leave at one place, calls by what they answer ===== -/
abbrev iR : Nat → Option Value := fun j => some (.ref j)
/-- a constant or null -/
def kv : Option Nat → Value
  | none => .null
  | some k => .float (UInt32.ofNat k)
abbrev iK : Option Nat → Option Value := fun r => some (kv r)
def mtK {T : Type} (r : Option Nat) (a : Option T) (f : Nat → Option T) : Option T := match r with
  | none => a
  | some k => f k
def jp {σ T : Type} (f : σ → Option T) (e : (σ → Option T) → Option T) : Option T := e f
section ROWS4
variable {X : CxT} {nL : Nat} {T : Type} {A : T → Prop} {ck sk pc : Nat} {loc : List (Option Value)} {stk : List Value} {M : MemT} {cc : ByteArray} {own : String} {rm : Room}
theorem s_jp {σ : Type} {f : σ → Option T} {e : (σ → Option T) → Option T} (cL : σ → List (Option Value)) (cS : σ → List Value) (cM : σ → MemT) (ck1 sk1 pc1 : Nat) (h1 : ∀ s, Sim X nL A (f s) ck1 sk1 pc1 (cL s) (cS s) (cM s)) (h2 : ∀ K : σ → Option T, (∀ s, Sim X nL A (K s) ck1 sk1 pc1 (cL s) (cS s) (cM s)) → Sim X nL A (e K) ck sk pc loc stk M) : Sim X nL A (jp f e) ck sk pc loc stk M :=
  h2 f h1
theorem s_loopE {σ : Type} {step : σ → Option (σ ⊕ σ)} {f : σ → Option T} (cL : σ → List (Option Value)) (cM : σ → MemT) (pc1 : Nat) (cE : σ → List (Option Value)) (h : ∀ (s : σ) (B : σ ⊕ σ → Prop), (∀ s1, B (.inl s1) → WW X nL ck sk pc (cL s1) stk (cM s1)) → (∀ s1, B (.inr s1) → WW X nL ck sk pc1 (cE s1) stk (cM s1)) → Sim X nL B (step s) ck sk pc (cL s) stk (cM s)) (h2 : ∀ s, Sim X nL A (f s) ck sk pc1 (cE s) stk (cM s)) (n : Nat) (s : σ) : Sim X nL A ((loopF step n s).bind f) ck sk pc (cL s) stk (cM s) := by
  intro t ht hA
  cases hs : loopF step n s with
  | none => rw [hs] at ht; cases ht
  | some s1 =>
    rw [hs] at ht
    exact s_loop (A := fun z => f z = some t) cL cM (fun s B h3 h4 => h s B h3 (fun z hz => h2 z t (h4 z hz) hA)) n s s1 hs ht
theorem s_exit {σ : Type} {B : σ ⊕ σ → Prop} {cL : σ → List (Option Value)} {cM : σ → MemT} {s1 : σ} (hB : ∀ s1, B (.inr s1) → WW X nL ck sk pc (cL s1) stk (cM s1)) : Sim X nL B (some (.inr s1)) ck sk pc (cL s1) stk (cM s1) := by
  intro t ht hA
  cases ht
  exact hB s1 hA
theorem s_pc {e : Option T} {pc1 : Nat} (h : pc = pc1) (k : Sim X nL A e ck sk pc1 loc stk M) : Sim X nL A e ck sk pc loc stk M := h ▸ k

theorem s_callVi {o : Option (Int32 × MemT)} {f : Int32 → MemT → Option T} {as st0 : List Value} {y : MethodName} {bytes : ByteArray} {maxL n idx ck1 sk1 : Nat} {rmY : Room} {ret : Option FieldType} {x ci : Nat} (hX : CxOk X cc nL own rm) (hd : decode cc pc = .ok (.invokevirtual idx, 3)) (hk : KYV y bytes maxL ret n) (hq : Cond.methodLink own idx y ∈ gT) (hC : Ct iI y bytes maxL ret rmY (.ref x :: as) M o) (hci : ci < 9) (hcls : y.cls = RC ci) (hn : as.length = n) (hst : as.reverse ++ .ref x :: stk = st0) (hR : Room.fit rmY rm maxL) (hf : ck + rmY.cells ≤ rm.cells ∧ sk + rmY.slots ≤ rm.slots) (hcat : (stk.map fun v => v.category).sum ≤ 8) (e1 : ck + rmY.cells = ck1) (e2 : sk + rmY.slots = sk1) (h : ∀ r M1, Sim X nL A (f r M1) ck1 sk1 (pc + 3) loc (.int r :: stk) M1) : Sim X nL A (chk M ci x (bd o f)) ck sk pc loc st0 M :=
  s_callV hX hd hk hq hC hci hcls hn hst hR hf hcat e1 e2 h
theorem s_callSi {o : Option (Int32 × MemT)} {f : Int32 → MemT → Option T} {as st0 : List Value} {y : MethodName} {bytes : ByteArray} {maxL n idx ck1 sk1 : Nat} {rmY : Room} {ret : Option FieldType} (hX : CxOk X cc nL own rm) (hd : decode cc pc = .ok (.invokestatic idx, 3)) (hk : KYS y bytes maxL ret n) (hq : Cond.methodLink own idx y ∈ gT) (hC : Ct iI y bytes maxL ret rmY as M o) (hn : as.length = n) (hst : as.reverse ++ stk = st0) (hR : Room.fit rmY rm maxL) (hf : ck + rmY.cells ≤ rm.cells ∧ sk + rmY.slots ≤ rm.slots) (hcat : (stk.map fun v => v.category).sum ≤ 8) (e1 : ck + rmY.cells = ck1) (e2 : sk + rmY.slots = sk1) (h : ∀ r M1, Sim X nL A (f r M1) ck1 sk1 (pc + 3) loc (.int r :: stk) M1) : Sim X nL A (bd o f) ck sk pc loc st0 M :=
  s_callS hX hd hk hq hC hn hst hR hf hcat e1 e2 h
theorem s_callSNi {o : Option (Int32 × MemT)} {f : Int32 → MemT → Option T} {as st0 : List Value} {y : MethodName} {bytes : ByteArray} {maxL n idx ck1 sk1 : Nat} {rmY : Room} {ret : Option FieldType} {host : String} (hX : CxOk X cc nL own rm) (hd : decode cc pc = .ok (.invokestatic idx, 3)) (hk : KYS y bytes maxL ret n) (hq : Cond.methodLinkNest own idx y host ∈ nestW) (hC : Ct iI y bytes maxL ret rmY as M o) (hn : as.length = n) (hst : as.reverse ++ stk = st0) (hR : Room.fit rmY rm maxL) (hf : ck + rmY.cells ≤ rm.cells ∧ sk + rmY.slots ≤ rm.slots) (hcat : (stk.map fun v => v.category).sum ≤ 8) (e1 : ck + rmY.cells = ck1) (e2 : sk + rmY.slots = sk1) (h : ∀ r M1, Sim X nL A (f r M1) ck1 sk1 (pc + 3) loc (.int r :: stk) M1) : Sim X nL A (bd o f) ck sk pc loc st0 M :=
  s_callSN hX hd hk hq hC hn hst hR hf hcat e1 e2 h
theorem s_callVj {o : Option (Int64 × MemT)} {f : Int64 → MemT → Option T} {as st0 : List Value} {y : MethodName} {bytes : ByteArray} {maxL n idx ck1 sk1 : Nat} {rmY : Room} {ret : Option FieldType} {x ci : Nat} (hX : CxOk X cc nL own rm) (hd : decode cc pc = .ok (.invokevirtual idx, 3)) (hk : KYV y bytes maxL ret n) (hq : Cond.methodLink own idx y ∈ gT) (hC : Ct iJ y bytes maxL ret rmY (.ref x :: as) M o) (hci : ci < 9) (hcls : y.cls = RC ci) (hn : as.length = n) (hst : as.reverse ++ .ref x :: stk = st0) (hR : Room.fit rmY rm maxL) (hf : ck + rmY.cells ≤ rm.cells ∧ sk + rmY.slots ≤ rm.slots) (hcat : (stk.map fun v => v.category).sum ≤ 8) (e1 : ck + rmY.cells = ck1) (e2 : sk + rmY.slots = sk1) (h : ∀ r M1, Sim X nL A (f r M1) ck1 sk1 (pc + 3) loc (.long r :: stk) M1) : Sim X nL A (chk M ci x (bd o f)) ck sk pc loc st0 M :=
  s_callV hX hd hk hq hC hci hcls hn hst hR hf hcat e1 e2 h
theorem s_callSj {o : Option (Int64 × MemT)} {f : Int64 → MemT → Option T} {as st0 : List Value} {y : MethodName} {bytes : ByteArray} {maxL n idx ck1 sk1 : Nat} {rmY : Room} {ret : Option FieldType} (hX : CxOk X cc nL own rm) (hd : decode cc pc = .ok (.invokestatic idx, 3)) (hk : KYS y bytes maxL ret n) (hq : Cond.methodLink own idx y ∈ gT) (hC : Ct iJ y bytes maxL ret rmY as M o) (hn : as.length = n) (hst : as.reverse ++ stk = st0) (hR : Room.fit rmY rm maxL) (hf : ck + rmY.cells ≤ rm.cells ∧ sk + rmY.slots ≤ rm.slots) (hcat : (stk.map fun v => v.category).sum ≤ 8) (e1 : ck + rmY.cells = ck1) (e2 : sk + rmY.slots = sk1) (h : ∀ r M1, Sim X nL A (f r M1) ck1 sk1 (pc + 3) loc (.long r :: stk) M1) : Sim X nL A (bd o f) ck sk pc loc st0 M :=
  s_callS hX hd hk hq hC hn hst hR hf hcat e1 e2 h
theorem s_callSNj {o : Option (Int64 × MemT)} {f : Int64 → MemT → Option T} {as st0 : List Value} {y : MethodName} {bytes : ByteArray} {maxL n idx ck1 sk1 : Nat} {rmY : Room} {ret : Option FieldType} {host : String} (hX : CxOk X cc nL own rm) (hd : decode cc pc = .ok (.invokestatic idx, 3)) (hk : KYS y bytes maxL ret n) (hq : Cond.methodLinkNest own idx y host ∈ nestW) (hC : Ct iJ y bytes maxL ret rmY as M o) (hn : as.length = n) (hst : as.reverse ++ stk = st0) (hR : Room.fit rmY rm maxL) (hf : ck + rmY.cells ≤ rm.cells ∧ sk + rmY.slots ≤ rm.slots) (hcat : (stk.map fun v => v.category).sum ≤ 8) (e1 : ck + rmY.cells = ck1) (e2 : sk + rmY.slots = sk1) (h : ∀ r M1, Sim X nL A (f r M1) ck1 sk1 (pc + 3) loc (.long r :: stk) M1) : Sim X nL A (bd o f) ck sk pc loc st0 M :=
  s_callSN hX hd hk hq hC hn hst hR hf hcat e1 e2 h
theorem s_callVu {o : Option (Unit × MemT)} {f : Unit → MemT → Option T} {as st0 : List Value} {y : MethodName} {bytes : ByteArray} {maxL n idx ck1 sk1 : Nat} {rmY : Room} {ret : Option FieldType} {x ci : Nat} (hX : CxOk X cc nL own rm) (hd : decode cc pc = .ok (.invokevirtual idx, 3)) (hk : KYV y bytes maxL ret n) (hq : Cond.methodLink own idx y ∈ gT) (hC : Ct iU y bytes maxL ret rmY (.ref x :: as) M o) (hci : ci < 9) (hcls : y.cls = RC ci) (hn : as.length = n) (hst : as.reverse ++ .ref x :: stk = st0) (hR : Room.fit rmY rm maxL) (hf : ck + rmY.cells ≤ rm.cells ∧ sk + rmY.slots ≤ rm.slots) (hcat : (stk.map fun v => v.category).sum ≤ 8) (e1 : ck + rmY.cells = ck1) (e2 : sk + rmY.slots = sk1) (h : ∀ r M1, Sim X nL A (f r M1) ck1 sk1 (pc + 3) loc (stk) M1) : Sim X nL A (chk M ci x (bd o f)) ck sk pc loc st0 M :=
  s_callV hX hd hk hq hC hci hcls hn hst hR hf hcat e1 e2 h
theorem s_callSu {o : Option (Unit × MemT)} {f : Unit → MemT → Option T} {as st0 : List Value} {y : MethodName} {bytes : ByteArray} {maxL n idx ck1 sk1 : Nat} {rmY : Room} {ret : Option FieldType} (hX : CxOk X cc nL own rm) (hd : decode cc pc = .ok (.invokestatic idx, 3)) (hk : KYS y bytes maxL ret n) (hq : Cond.methodLink own idx y ∈ gT) (hC : Ct iU y bytes maxL ret rmY as M o) (hn : as.length = n) (hst : as.reverse ++ stk = st0) (hR : Room.fit rmY rm maxL) (hf : ck + rmY.cells ≤ rm.cells ∧ sk + rmY.slots ≤ rm.slots) (hcat : (stk.map fun v => v.category).sum ≤ 8) (e1 : ck + rmY.cells = ck1) (e2 : sk + rmY.slots = sk1) (h : ∀ r M1, Sim X nL A (f r M1) ck1 sk1 (pc + 3) loc (stk) M1) : Sim X nL A (bd o f) ck sk pc loc st0 M :=
  s_callS hX hd hk hq hC hn hst hR hf hcat e1 e2 h
theorem s_callSNu {o : Option (Unit × MemT)} {f : Unit → MemT → Option T} {as st0 : List Value} {y : MethodName} {bytes : ByteArray} {maxL n idx ck1 sk1 : Nat} {rmY : Room} {ret : Option FieldType} {host : String} (hX : CxOk X cc nL own rm) (hd : decode cc pc = .ok (.invokestatic idx, 3)) (hk : KYS y bytes maxL ret n) (hq : Cond.methodLinkNest own idx y host ∈ nestW) (hC : Ct iU y bytes maxL ret rmY as M o) (hn : as.length = n) (hst : as.reverse ++ stk = st0) (hR : Room.fit rmY rm maxL) (hf : ck + rmY.cells ≤ rm.cells ∧ sk + rmY.slots ≤ rm.slots) (hcat : (stk.map fun v => v.category).sum ≤ 8) (e1 : ck + rmY.cells = ck1) (e2 : sk + rmY.slots = sk1) (h : ∀ r M1, Sim X nL A (f r M1) ck1 sk1 (pc + 3) loc (stk) M1) : Sim X nL A (bd o f) ck sk pc loc st0 M :=
  s_callSN hX hd hk hq hC hn hst hR hf hcat e1 e2 h
theorem s_callIu {o : Option (Unit × MemT)} {f : Unit → MemT → Option T} {as st0 : List Value} {y : MethodName} {bytes : ByteArray} {maxL n idx ck1 sk1 : Nat} {rmY : Room} {x : Nat} (hX : CxOk X cc nL own rm) (hd : decode cc pc = .ok (.invokespecial idx, 3)) (hk : KYI y bytes maxL n) (hq : Cond.methodLink own idx y ∈ gT) (hC : Ct iU y bytes maxL none rmY (.ref x :: as) M o) (hn : as.length = n) (hst : as.reverse ++ .ref x :: stk = st0) (hR : Room.fit rmY rm maxL) (hf : ck + rmY.cells ≤ rm.cells ∧ sk + rmY.slots ≤ rm.slots) (hcat : (stk.map fun v => v.category).sum ≤ 8) (e1 : ck + rmY.cells = ck1) (e2 : sk + rmY.slots = sk1) (h : ∀ r M1, Sim X nL A (f r M1) ck1 sk1 (pc + 3) loc (stk) M1) : Sim X nL A (bd o f) ck sk pc loc st0 M :=
  s_callI hX hd hk hq hC hn hst hR hf hcat e1 e2 h
theorem s_callINu {o : Option (Unit × MemT)} {f : Unit → MemT → Option T} {as st0 : List Value} {y : MethodName} {bytes : ByteArray} {maxL n idx ck1 sk1 : Nat} {rmY : Room} {x : Nat} {host : String} (hX : CxOk X cc nL own rm) (hd : decode cc pc = .ok (.invokespecial idx, 3)) (hk : KYI y bytes maxL n) (hq : Cond.methodLinkNest own idx y host ∈ nestW) (hC : Ct iU y bytes maxL none rmY (.ref x :: as) M o) (hn : as.length = n) (hst : as.reverse ++ .ref x :: stk = st0) (hR : Room.fit rmY rm maxL) (hf : ck + rmY.cells ≤ rm.cells ∧ sk + rmY.slots ≤ rm.slots) (hcat : (stk.map fun v => v.category).sum ≤ 8) (e1 : ck + rmY.cells = ck1) (e2 : sk + rmY.slots = sk1) (h : ∀ r M1, Sim X nL A (f r M1) ck1 sk1 (pc + 3) loc (stk) M1) : Sim X nL A (bd o f) ck sk pc loc st0 M :=
  s_callIN hX hd hk hq hC hn hst hR hf hcat e1 e2 h
theorem s_callVr {o : Option (Nat × MemT)} {f : Nat → MemT → Option T} {as st0 : List Value} {y : MethodName} {bytes : ByteArray} {maxL n idx ck1 sk1 : Nat} {rmY : Room} {ret : Option FieldType} {x ci : Nat} (hX : CxOk X cc nL own rm) (hd : decode cc pc = .ok (.invokevirtual idx, 3)) (hk : KYV y bytes maxL ret n) (hq : Cond.methodLink own idx y ∈ gT) (hC : Ct iR y bytes maxL ret rmY (.ref x :: as) M o) (hci : ci < 9) (hcls : y.cls = RC ci) (hn : as.length = n) (hst : as.reverse ++ .ref x :: stk = st0) (hR : Room.fit rmY rm maxL) (hf : ck + rmY.cells ≤ rm.cells ∧ sk + rmY.slots ≤ rm.slots) (hcat : (stk.map fun v => v.category).sum ≤ 8) (e1 : ck + rmY.cells = ck1) (e2 : sk + rmY.slots = sk1) (h : ∀ r M1, Sim X nL A (f r M1) ck1 sk1 (pc + 3) loc (.ref r :: stk) M1) : Sim X nL A (chk M ci x (bd o f)) ck sk pc loc st0 M :=
  s_callV hX hd hk hq hC hci hcls hn hst hR hf hcat e1 e2 h
theorem s_callSr {o : Option (Nat × MemT)} {f : Nat → MemT → Option T} {as st0 : List Value} {y : MethodName} {bytes : ByteArray} {maxL n idx ck1 sk1 : Nat} {rmY : Room} {ret : Option FieldType} (hX : CxOk X cc nL own rm) (hd : decode cc pc = .ok (.invokestatic idx, 3)) (hk : KYS y bytes maxL ret n) (hq : Cond.methodLink own idx y ∈ gT) (hC : Ct iR y bytes maxL ret rmY as M o) (hn : as.length = n) (hst : as.reverse ++ stk = st0) (hR : Room.fit rmY rm maxL) (hf : ck + rmY.cells ≤ rm.cells ∧ sk + rmY.slots ≤ rm.slots) (hcat : (stk.map fun v => v.category).sum ≤ 8) (e1 : ck + rmY.cells = ck1) (e2 : sk + rmY.slots = sk1) (h : ∀ r M1, Sim X nL A (f r M1) ck1 sk1 (pc + 3) loc (.ref r :: stk) M1) : Sim X nL A (bd o f) ck sk pc loc st0 M :=
  s_callS hX hd hk hq hC hn hst hR hf hcat e1 e2 h
theorem s_callSNr {o : Option (Nat × MemT)} {f : Nat → MemT → Option T} {as st0 : List Value} {y : MethodName} {bytes : ByteArray} {maxL n idx ck1 sk1 : Nat} {rmY : Room} {ret : Option FieldType} {host : String} (hX : CxOk X cc nL own rm) (hd : decode cc pc = .ok (.invokestatic idx, 3)) (hk : KYS y bytes maxL ret n) (hq : Cond.methodLinkNest own idx y host ∈ nestW) (hC : Ct iR y bytes maxL ret rmY as M o) (hn : as.length = n) (hst : as.reverse ++ stk = st0) (hR : Room.fit rmY rm maxL) (hf : ck + rmY.cells ≤ rm.cells ∧ sk + rmY.slots ≤ rm.slots) (hcat : (stk.map fun v => v.category).sum ≤ 8) (e1 : ck + rmY.cells = ck1) (e2 : sk + rmY.slots = sk1) (h : ∀ r M1, Sim X nL A (f r M1) ck1 sk1 (pc + 3) loc (.ref r :: stk) M1) : Sim X nL A (bd o f) ck sk pc loc st0 M :=
  s_callSN hX hd hk hq hC hn hst hR hf hcat e1 e2 h
theorem s_callVk {o : Option (Option Nat × MemT)} {f : Option Nat → MemT → Option T} {as st0 : List Value} {y : MethodName} {bytes : ByteArray} {maxL n idx ck1 sk1 : Nat} {rmY : Room} {ret : Option FieldType} {x ci : Nat} (hX : CxOk X cc nL own rm) (hd : decode cc pc = .ok (.invokevirtual idx, 3)) (hk : KYV y bytes maxL ret n) (hq : Cond.methodLink own idx y ∈ gT) (hC : Ct iK y bytes maxL ret rmY (.ref x :: as) M o) (hci : ci < 9) (hcls : y.cls = RC ci) (hn : as.length = n) (hst : as.reverse ++ .ref x :: stk = st0) (hR : Room.fit rmY rm maxL) (hf : ck + rmY.cells ≤ rm.cells ∧ sk + rmY.slots ≤ rm.slots) (hcat : (stk.map fun v => v.category).sum ≤ 8) (e1 : ck + rmY.cells = ck1) (e2 : sk + rmY.slots = sk1) (h : ∀ r M1, Sim X nL A (f r M1) ck1 sk1 (pc + 3) loc (kv r :: stk) M1) : Sim X nL A (chk M ci x (bd o f)) ck sk pc loc st0 M :=
  s_callV hX hd hk hq hC hci hcls hn hst hR hf hcat e1 e2 h
theorem s_callSk {o : Option (Option Nat × MemT)} {f : Option Nat → MemT → Option T} {as st0 : List Value} {y : MethodName} {bytes : ByteArray} {maxL n idx ck1 sk1 : Nat} {rmY : Room} {ret : Option FieldType} (hX : CxOk X cc nL own rm) (hd : decode cc pc = .ok (.invokestatic idx, 3)) (hk : KYS y bytes maxL ret n) (hq : Cond.methodLink own idx y ∈ gT) (hC : Ct iK y bytes maxL ret rmY as M o) (hn : as.length = n) (hst : as.reverse ++ stk = st0) (hR : Room.fit rmY rm maxL) (hf : ck + rmY.cells ≤ rm.cells ∧ sk + rmY.slots ≤ rm.slots) (hcat : (stk.map fun v => v.category).sum ≤ 8) (e1 : ck + rmY.cells = ck1) (e2 : sk + rmY.slots = sk1) (h : ∀ r M1, Sim X nL A (f r M1) ck1 sk1 (pc + 3) loc (kv r :: stk) M1) : Sim X nL A (bd o f) ck sk pc loc st0 M :=
  s_callS hX hd hk hq hC hn hst hR hf hcat e1 e2 h
theorem s_callSNk {o : Option (Option Nat × MemT)} {f : Option Nat → MemT → Option T} {as st0 : List Value} {y : MethodName} {bytes : ByteArray} {maxL n idx ck1 sk1 : Nat} {rmY : Room} {ret : Option FieldType} {host : String} (hX : CxOk X cc nL own rm) (hd : decode cc pc = .ok (.invokestatic idx, 3)) (hk : KYS y bytes maxL ret n) (hq : Cond.methodLinkNest own idx y host ∈ nestW) (hC : Ct iK y bytes maxL ret rmY as M o) (hn : as.length = n) (hst : as.reverse ++ stk = st0) (hR : Room.fit rmY rm maxL) (hf : ck + rmY.cells ≤ rm.cells ∧ sk + rmY.slots ≤ rm.slots) (hcat : (stk.map fun v => v.category).sum ≤ 8) (e1 : ck + rmY.cells = ck1) (e2 : sk + rmY.slots = sk1) (h : ∀ r M1, Sim X nL A (f r M1) ck1 sk1 (pc + 3) loc (kv r :: stk) M1) : Sim X nL A (bd o f) ck sk pc loc st0 M :=
  s_callSN hX hd hk hq hC hn hst hR hf hcat e1 e2 h
theorem s_aretR {v : Nat} {C : String} {A : Nat × MemT → Prop} (hX : CxOk X cc nL own rm) (hR : RetG X rm (some (.object C)) iR A) (hd : decode cc pc = .ok (.areturn, 1)) (h1 : ck ≤ rm.cells) (h2 : sk ≤ rm.slots) : Sim X nL A (some (v, M)) ck sk pc loc [.ref v] M := by
  intro t ht hA ad H locs ls hy
  cases ht
  obtain ⟨Qc, free, hQ, hr, hlk, hk⟩ := hR
  obtain ⟨g1, g2⟩ := hk v M ad H locs hA hy.1 hy.2.1 hy.2.2.1 hy.2.2.2.1 ⟨hy.ok.1, trivial⟩
  refine W.widen (k := rm.cells) (n := rm.slots) h1 h2 ?_
  rw [hQ]
  exact W.aret hX.1 hX.2.1 hr (Or.inl ⟨_, rfl⟩) (Or.inr ⟨_, rfl⟩) g1 g2 hd hlk
theorem kv_or (r : Option Nat) (ad kad : Nat → Nat) : cv ad kad (kv r) = .null ∨ ∃ a, cv ad kad (kv r) = .ref a := by
  cases r with
  | none => exact Or.inl rfl
  | some k => exact Or.inr ⟨_, rfl⟩
theorem kv_ok (r : Option Nat) (n : Nat) : okv n (kv r) := by
  cases r <;> trivial
theorem kv_nat {k : Nat} (h : k < 4294967296) : (UInt32.ofNat k).toNat = k := by
  rw [UInt32.toNat_ofNat_of_lt']; exact h
theorem s_aretK {v : Option Nat} {C : String} {A : Option Nat × MemT → Prop} (hX : CxOk X cc nL own rm) (hR : RetG X rm (some (.object C)) iK A) (hd : decode cc pc = .ok (.areturn, 1)) (h1 : ck ≤ rm.cells) (h2 : sk ≤ rm.slots) : Sim X nL A (some (v, M)) ck sk pc loc [kv v] M := by
  intro t ht hA ad H locs ls hy
  cases ht
  obtain ⟨Qc, free, hQ, hr, hlk, hk⟩ := hR
  obtain ⟨g1, g2⟩ := hk v M ad H locs hA hy.1 hy.2.1 hy.2.2.1 hy.2.2.2.1 ⟨kv_ok v _, trivial⟩
  refine W.widen (k := rm.cells) (n := rm.slots) h1 h2 ?_
  rw [hQ]
  exact W.aret hX.1 hX.2.1 hr (Or.inl ⟨_, rfl⟩) (kv_or v _ _) g1 g2 hd hlk
theorem s_aretK0 {C : String} {A : Option Nat × MemT → Prop} (hX : CxOk X cc nL own rm) (hR : RetG X rm (some (.object C)) iK A) (hd : decode cc pc = .ok (.areturn, 1)) (h1 : ck ≤ rm.cells) (h2 : sk ≤ rm.slots) : Sim X nL A (some (none, M)) ck sk pc loc [.null] M := s_aretK (v := none) hX hR hd h1 h2
theorem s_kloadK {e : Option T} {i : Nat} {r : Option Nat} (hX : CxOk X cc nL own rm) (hd : decode cc pc = .ok (.aload i, 2)) (hl : loc[i]? = some (some (kv r))) (h : Sim X nL A e ck sk (pc + 2) loc (kv r :: stk) M) : Sim X nL A e ck sk pc loc stk M := by
  intro t ht hA ad H locs ls hy
  have h1 := h t ht hA ad H locs ls (hy.st ⟨kv_ok r _, hy.ok⟩)
  have h2 := hy.lr.2.2 _ _ hl
  cases r with
  | none => exact lv_aloadN hX.1 hX.2.1 hd h2 h1
  | some k => exact lv_aload hX.1 hX.2.1 hd h2 h1
theorem s_kloadK_n {e : Option T} {k : Fin 4} {r : Option Nat} (hX : CxOk X cc nL own rm) (hd : decode cc pc = .ok (.aload_n k, 1)) (hl : loc[(k : Nat)]? = some (some (kv r))) (h : Sim X nL A e ck sk (pc + 1) loc (kv r :: stk) M) : Sim X nL A e ck sk pc loc stk M := by
  intro t ht hA ad H locs ls hy
  have h1 := h t ht hA ad H locs ls (hy.st ⟨kv_ok r _, hy.ok⟩)
  have h2 := hy.lr.2.2 _ _ hl
  cases r with
  | none => exact lv_aload_nN hX.1 hX.2.1 hd rfl h2 h1
  | some k => exact lv_aload_n hX.1 hX.2.1 hd rfl h2 h1
theorem s_kstK_n {e : Option T} {k : Fin 4} {i : Nat} {r : Option Nat} (hX : CxOk X cc nL own rm) (hd : decode cc pc = .ok (.astore_n k, 1)) (hi : (k : Nat) = i) (hn : i < nL) (hL : noLong loc i) (h : Sim X nL A e ck sk (pc + 1) (loc.set i (some (kv r))) stk M) : Sim X nL A e ck sk pc loc (kv r :: stk) M := by
  intro t ht hA ad H locs ls hy
  have h1 : ∀ ls1, lv_has ls1 nL ((i, cv ad (xkad X) (kv r)) :: (prs ad (xkad X) 0 loc).filter (fun q => !(q.1 == i) && !(q.1 + 1 == i && q.2.category == 2))) → W (xp X) (xl X) (xe X) (xR X) (xs X) (xm X) (xargs X) (xbelow X) (xmeth X) (xc X) H locs ck sk (xQ X) (F0 (xm X) (pc + 1) ls1 (stk.map (cv ad (xkad X)))) :=
    fun ls1 hl1 => h t ht hA ad H locs ls1 ⟨hy.1, hy.2.1, hy.2.2.1, hy.2.2.2.1, hy.ok.2, okc_set hy.oc (fun v hv => by cases hv; exact kv_ok r _), lrel_st1 hL hl1⟩
  cases r with
  | none => exact lv_astore_nN (lv := prs ad (xkad X) 0 loc) hX.1 hX.2.1 hd hi hy.lr.has hn rfl h1
  | some k => exact lv_astore_n (lv := prs ad (xkad X) 0 loc) hX.1 hX.2.1 hd hi hy.lr.has hn rfl h1
theorem s_kstK {e : Option T} {i : Nat} {r : Option Nat} (hX : CxOk X cc nL own rm) (hd : decode cc pc = .ok (.astore i, 2)) (hn : i < nL) (hL : noLong loc i) (h : Sim X nL A e ck sk (pc + 2) (loc.set i (some (kv r))) stk M) : Sim X nL A e ck sk pc loc (kv r :: stk) M := by
  intro t ht hA ad H locs ls hy
  have h1 : ∀ ls1, lv_has ls1 nL ((i, cv ad (xkad X) (kv r)) :: (prs ad (xkad X) 0 loc).filter (fun q => !(q.1 == i) && !(q.1 + 1 == i && q.2.category == 2))) → W (xp X) (xl X) (xe X) (xR X) (xs X) (xm X) (xargs X) (xbelow X) (xmeth X) (xc X) H locs ck sk (xQ X) (F0 (xm X) (pc + 2) ls1 (stk.map (cv ad (xkad X)))) :=
    fun ls1 hl1 => h t ht hA ad H locs ls1 ⟨hy.1, hy.2.1, hy.2.2.1, hy.2.2.2.1, hy.ok.2, okc_set hy.oc (fun v hv => by cases hv; exact kv_ok r _), lrel_st1 hL hl1⟩
  cases r with
  | none => exact lv_astoreN (lv := prs ad (xkad X) 0 loc) hX.1 hX.2.1 hd hy.lr.has hn rfl h1
  | some k => exact lv_astore (lv := prs ad (xkad X) 0 loc) hX.1 hX.2.1 hd hy.lr.has hn rfl h1
theorem s_ifnnK {a : Option T} {f : Nat → Option T} {r : Option Nat} {off : Int} {tgt : Nat} (hX : CxOk X cc nL own rm) (hd : decode cc pc = .ok (.ifnonnull off, 3)) (ht0 : (pc : Int) + off = (tgt : Int)) (h1 : r = none → Sim X nL A a ck sk (pc + 3) loc stk M) (h2 : ∀ k, r = some k → Sim X nL A (f k) ck sk tgt loc stk M) : Sim X nL A (mtK r a f) ck sk pc loc (kv r :: stk) M := by
  intro t ht hA ad H locs ls hy
  cases r with
  | none => exact lv_ifnonnullN hX.1 hX.2.1 hd (h1 rfl t ht hA ad H locs ls (hy.st hy.ok.2))
  | some k => exact lv_ifnonnull hX.1 hX.2.1 hd ht0 (h2 k rfl t ht hA ad H locs ls (hy.st hy.ok.2))
theorem s_ifnK {a : Option T} {f : Nat → Option T} {r : Option Nat} {off : Int} {tgt : Nat} (hX : CxOk X cc nL own rm) (hd : decode cc pc = .ok (.ifnull off, 3)) (ht0 : (pc : Int) + off = (tgt : Int)) (h1 : r = none → Sim X nL A a ck sk tgt loc stk M) (h2 : ∀ k, r = some k → Sim X nL A (f k) ck sk (pc + 3) loc stk M) : Sim X nL A (mtK r a f) ck sk pc loc (kv r :: stk) M := by
  intro t ht hA ad H locs ls hy
  cases r with
  | none => exact lv_ifnullN hX.1 hX.2.1 hd ht0 (h1 rfl t ht hA ad H locs ls (hy.st hy.ok.2))
  | some k => exact lv_ifnull hX.1 hX.2.1 hd (h2 k rfl t ht hA ad H locs ls (hy.st hy.ok.2))
/-- which constant it is -/
def eqK {T : Type} (r : Option Nat) (k : Nat) (a b : Option T) : Option T := match r with
  | none => b
  | some j => if j < 13 then (if j = k then a else b) else none
theorem s_acneK {a b : Option T} {r : Option Nat} {k : Nat} {off : Int} {tgt : Nat} (hX : CxOk X cc nL own rm) (hk13 : k < 13) (hd : decode cc pc = .ok (.if_acmp .ne off, 3)) (ht0 : (pc : Int) + off = (tgt : Int)) (h1 : Sim X nL A a ck sk (pc + 3) loc stk M) (h2 : Sim X nL A b ck sk tgt loc stk M) : Sim X nL A (eqK r k a b) ck sk pc loc (kv (some k) :: kv r :: stk) M := by
  intro t ht hA ad H locs ls hy
  have hinj := (hX.2.2.2.2.2.2.2).1.2
  have hyk := hy.st (stk1 := stk) hy.ok.2.2
  cases r with
  | none =>
    have ht1 : b = some t := ht
    exact lv_acmp_ne (rx := none) (ry := some (xkad X (UInt32.ofNat k).toNat)) hX.1 hX.2.1 hd ht0 (fun _ => h2 t ht1 hA ad H locs ls hyk) (fun e => by cases e)
  | some j =>
    have ht1 : (if j < 13 then (if j = k then a else b) else none) = some t := ht
    by_cases hj : j < 13
    · rw [if_pos hj] at ht1
      refine lv_acmp_ne (rx := some (xkad X (UInt32.ofNat j).toNat)) (ry := some (xkad X (UInt32.ofNat k).toNat)) hX.1 hX.2.1 hd ht0 (fun e => ?_) (fun e => ?_)
      · have hne : ¬ j = k := fun q => e (by rw [q])
        rw [if_neg hne] at ht1
        exact h2 t ht1 hA ad H locs ls hyk
      · have e1 := Option.some.inj e
        rw [kv_nat (by omega), kv_nat (by omega)] at e1
        have hjk : j = k := hinj j k hj hk13 e1
        rw [if_pos hjk] at ht1
        exact h1 t ht1 hA ad H locs ls hyk
    · rw [if_neg hj] at ht1; cases ht1
/-- getstatic of a constant -/
theorem s_gsK {e : Option T} {C n d : String} {k idx : Nat} (hX : CxOk X cc nL own rm) (hd : decode cc pc = .ok (.getstatic idx, 3)) (hZ : va_Z C n d (.ref (xkad X k)) (A0 X) (xs X) (xs X).heap) (hk : k < 4294967296) (hq : Cond.fieldLink own idx C n d ∈ gT) (h : Sim X nL A e ck sk (pc + 3) loc (kv (some k) :: stk) M) : Sim X nL A e ck sk pc loc stk M := by
  intro t ht hA ad H locs ls hy
  have h1 := h t ht hA ad H locs ls (hy.st ⟨trivial, hy.ok⟩)
  refine va_gets (ref := C) hX.1 hX.2.1 hZ hy.2.1 hX.2.2.2.1 (hX.2.2.2.2.1 _ hq) (fun _ h => h) hd ?_
  have e1 : (kv (some k) :: stk).map (cv ad (xkad X)) = .ref (xkad X k) :: stk.map (cv ad (xkad X)) := by
    show Value.ref (xkad X (UInt32.ofNat k).toNat) :: _ = _
    rw [kv_nat hk]
  rw [e1] at h1
  exact h1
theorem look2 {x : Int32} {o0 o1 d : Int} : Op.lookupswitch.offset [(0, o0), (1, o1)] d x.toInt = if x = 0 then o0 else if x = 1 then o1 else d := by
  by_cases h0 : x = 0
  · rw [if_pos h0, h0]; rfl
  · rw [if_neg h0, lv_osw (a := 0) (k := 0) h0 (by decide)]
    by_cases h1 : x = 1
    · rw [if_pos h1, h1]; rfl
    · rw [if_neg h1, lv_osw (a := 1) (k := 1) h1 (by decide)]; rfl
theorem s_look2 {a b d : Option T} {x : Int32} {dflt o0 o1 : Int} {len t0 t1 t2 : Nat} (hX : CxOk X cc nL own rm) (hd : decode cc pc = .ok (.lookupswitch dflt #[(0, o0), (1, o1)], len)) (e0 : (pc : Int) + o0 = (t0 : Int)) (e1 : (pc : Int) + o1 = (t1 : Int)) (e2 : (pc : Int) + dflt = (t2 : Int)) (h0 : Sim X nL A a ck sk t0 loc stk M) (h1 : Sim X nL A b ck sk t1 loc stk M) (h2 : Sim X nL A d ck sk t2 loc stk M) : Sim X nL A (if x = 0 then a else if x = 1 then b else d) ck sk pc loc (.int x :: stk) M := by
  intro t ht hA ad H locs ls hy
  by_cases c0 : x = 0
  · rw [if_pos c0] at ht
    exact lv_lookup hX.1 hX.2.1 hd (by simp) (by rw [look2, if_pos c0]) e0 (h0 t ht hA ad H locs ls (hy.st hy.ok.2))
  · rw [if_neg c0] at ht
    by_cases c1 : x = 1
    · rw [if_pos c1] at ht
      exact lv_lookup hX.1 hX.2.1 hd (by simp) (by rw [look2, if_neg c0, if_pos c1]) e1 (h1 t ht hA ad H locs ls (hy.st hy.ok.2))
    · rw [if_neg c1] at ht
      exact lv_lookup hX.1 hX.2.1 hd (by simp) (by rw [look2, if_neg c0, if_neg c1]) e2 (h2 t ht hA ad H locs ls (hy.st hy.ok.2))
end ROWS4

