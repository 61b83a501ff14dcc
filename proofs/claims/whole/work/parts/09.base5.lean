/-! ===== BASE 5: constants, texts, the enum ===== -/
theorem CxOk.cf {X : CxT} {cc : ByteArray} {nL : Nat} {own : String} {rm : Room} (hX : CxOk X cc nL own rm) : CFt (xkad X) (A0 X) (xs X) (xs X).heap := hX.2.2.2.2.2.2.2
def wCh (e j : Nat) : Int32 := (wByt.getD e []).getD j 0
def rC (v : Int32) (M : MemT) : Option (Int32 × MemT) := if v.toUInt32.toUInt16.toUInt32.toInt32 = v then some (v, M) else none
def rB (v : Int32) (M : MemT) : Option (Int32 × MemT) := if v.toInt8.toInt32 = v then some (v, M) else none
theorem q_same : Cond.sameMethod "ExemptDesk$Word" "java/lang/Enum" "ordinal" "()I" ∈ gT := qT 662 (by decide +kernel) (by decide +kernel)
theorem kv_cat (r : Option Nat) : (kv r).category = 1 := by cases r <;> rfl
section ROWS5
variable {X : CxT} {nL : Nat} {T : Type} {A : T → Prop} {ck sk pc : Nat} {loc : List (Option Value)} {stk : List Value} {M : MemT} {cc : ByteArray} {own : String} {rm : Room}
theorem s_none : Sim X nL A none ck sk pc loc stk M := by
  intro t ht; cases ht
theorem kv_map {k : Nat} (hk : k < 4294967296) {ad kad : Nat → Nat} : (kv (some k) :: stk).map (cv ad kad) = .ref (kad k) :: stk.map (cv ad kad) := by
  show Value.ref (kad (UInt32.ofNat k).toNat) :: _ = _
  rw [kv_nat hk]


/-- getstatic of a constant int -/
theorem s_gsI {e : Option T} {C n d : String} {v : Int32} {idx : Nat} (hX : CxOk X cc nL own rm) (hd : decode cc pc = .ok (.getstatic idx, 3)) (hZ : va_Z C n d (.int v) (A0 X) (xs X) (xs X).heap) (hq : Cond.fieldLink own idx C n d ∈ gT) (h : Sim X nL A e ck sk (pc + 3) loc (.int v :: stk) M) : Sim X nL A e ck sk pc loc stk M :=
  fun t ht hA ad H locs ls hy => va_gets (ref := C) hX.1 hX.2.1 hZ hy.2.1 hX.2.2.2.1 (hX.2.2.2.2.1 _ hq) (fun _ h => h) hd (h t ht hA ad H locs ls (hy.st ⟨trivial, hy.ok⟩))
theorem s_gsZ {e : Option T} {idx : Nat} (hX : CxOk X cc nL own rm) (hd : decode cc pc = .ok (.getstatic idx, 3)) (hq : Cond.fieldLink own idx RJ3 "SIOOBE_FORMATTER" "Ljava/util/function/BiFunction;" ∈ gT) (h : ∀ r, Sim X nL A e ck sk (pc + 3) loc (kv r :: stk) M) : Sim X nL A e ck sk pc loc stk M := by
  intro t ht hA ad H locs ls hy
  obtain ⟨-, -, -, -, -, -, -, -, hz, -⟩ := hX.cf
  rcases hz with hz | hz
  · exact va_gets (ref := RJ3) hX.1 hX.2.1 hz hy.2.1 hX.2.2.2.1 (hX.2.2.2.2.1 _ hq) (fun _ h => h) hd (h none t ht hA ad H locs ls (hy.st ⟨trivial, hy.ok⟩))
  · have h1 := h (some 99) t ht hA ad H locs ls (hy.st ⟨trivial, hy.ok⟩)
    rw [kv_map (by decide)] at h1
    exact va_gets (ref := RJ3) hX.1 hX.2.1 hz hy.2.1 hX.2.2.2.1 (hX.2.2.2.2.1 _ hq) (fun _ h => h) hd h1
/-- length of ALL -/
theorem s_kalen {e : Option T} (hX : CxOk X cc nL own rm) (hd : decode cc pc = .ok (.arraylength, 1)) (h : Sim X nL A e ck sk (pc + 1) loc (.int 13 :: stk) M) : Sim X nL A e ck sk pc loc (kv (some 13) :: stk) M := by
  intro t ht hA ad H locs ls hy
  obtain ⟨-, -, -, h4, -⟩ := hX.cf
  rw [kv_map (by decide)]
  exact va_tlen hX.1 hX.2.1 h4 hy.2.1 (v := 13) rfl hd (h t ht hA ad H locs ls (hy.st ⟨trivial, hy.ok.2⟩))
theorem s_kaald {e : Option T} {i : Int32} (hX : CxOk X cc nL own rm) (hd : decode cc pc = .ok (.aaload, 1)) (h : Sim X nL A e ck sk (pc + 1) loc (kv (some i.toNatClampNeg) :: stk) M) : Sim X nL A (if i < 0 ∨ 13 ≤ i.toNatClampNeg then none else e) ck sk pc loc (.int i :: kv (some 13) :: stk) M := by
  intro t ht hA ad H locs ls hy
  obtain ⟨-, -, -, h4, -⟩ := hX.cf
  by_cases hc : i < 0 ∨ 13 ≤ i.toNatClampNeg
  · rw [if_pos hc] at ht; cases ht
  · rw [if_neg hc] at ht
    have h1 := h t ht hA ad H locs ls (hy.st ⟨trivial, hy.ok.2.2⟩)
    rw [kv_map (by omega)] at h1
    have e1 : (Value.int i :: kv (some 13) :: stk).map (cv ad (xkad X)) = .int i :: .ref (xkad X 13) :: stk.map (cv ad (xkad X)) := by
      rw [List.map_cons, kv_map (by decide)]; rfl
    rw [e1]
    exact vb_tq hX.1 hX.2.1 h4 hy.2.1 hc (v := .ref (xkad X i.toNatClampNeg)) rfl hd h1
/-- a field of a constant that holds a constant -/
theorem s_kgf {e : Option T} {C n d : String} {a b idx : Nat} (hX : CxOk X cc nL own rm) (hd : decode cc pc = .ok (.getfield idx, 3)) (ha : a < 4294967296) (hb : b < 4294967296) (hE : va_OF C n d (.ref (xkad X b)) (xkad X a) (A0 X) (xs X) (xs X).heap) (hq : Cond.fieldLink own idx C n d ∈ gT) (h : Sim X nL A e ck sk (pc + 3) loc (kv (some b) :: stk) M) : Sim X nL A e ck sk pc loc (kv (some a) :: stk) M := by
  intro t ht hA ad H locs ls hy
  have h1 := h t ht hA ad H locs ls (hy.st ⟨trivial, hy.ok.2⟩)
  rw [kv_map hb] at h1
  rw [kv_map ha]
  exact vk_getf (ref := C) hX.1 hX.2.1 hE hy.2.1 hX.2.2.2.1 (hX.2.2.2.2.1 _ hq) (fun _ h => h) hd h1
theorem s_kgfI {e : Option T} {C n d : String} {a idx : Nat} {v : Int32} (hX : CxOk X cc nL own rm) (hd : decode cc pc = .ok (.getfield idx, 3)) (ha : a < 4294967296) (hE : va_OF C n d (.int v) (xkad X a) (A0 X) (xs X) (xs X).heap) (hq : Cond.fieldLink own idx C n d ∈ gT) (h : Sim X nL A e ck sk (pc + 3) loc (.int v :: stk) M) : Sim X nL A e ck sk pc loc (kv (some a) :: stk) M := by
  intro t ht hA ad H locs ls hy
  have h1 := h t ht hA ad H locs ls (hy.st ⟨trivial, hy.ok.2⟩)
  rw [kv_map ha]
  exact vk_getf (ref := C) hX.1 hX.2.1 hE hy.2.1 hX.2.2.2.1 (hX.2.2.2.2.1 _ hq) (fun _ h => h) hd h1
theorem s_kletters {e : Option T} {k idx : Nat} (hX : CxOk X cc nL own rm) (hd : decode cc pc = .ok (.getfield idx, 3)) (hq : Cond.fieldLink own idx RX8 "letters" "Ljava/lang/String;" ∈ gT) (h : Sim X nL A e ck sk (pc + 3) loc (kv (some (20 + k)) :: stk) M) : Sim X nL A (if k < 13 then e else none) ck sk pc loc (kv (some k) :: stk) M := by
  by_cases hk : k < 13
  · rw [if_pos hk]
    exact s_kgf hX hd (by omega) (by omega) (hX.cf.2.1 k hk) hq h
  · rw [if_neg hk]; exact s_none
theorem s_kvalue {e : Option T} {k idx : Nat} (hX : CxOk X cc nL own rm) (hd : decode cc pc = .ok (.getfield idx, 3)) (hq : Cond.fieldLink own idx RJ0 "value" "[B" ∈ gT) (h : Sim X nL A e ck sk (pc + 3) loc (kv (some (40 + k)) :: stk) M) : Sim X nL A (if k < 13 then e else none) ck sk pc loc (kv (some (20 + k)) :: stk) M := by
  by_cases hk : k < 13
  · rw [if_pos hk]
    obtain ⟨-, -, -, -, -, -, h7, -⟩ := hX.cf
    exact s_kgf hX hd (by omega) (by omega) (h7.1 k hk).2.2.1 hq h
  · rw [if_neg hk]; exact s_none
theorem s_kcoder {e : Option T} {k idx : Nat} (hX : CxOk X cc nL own rm) (hd : decode cc pc = .ok (.getfield idx, 3)) (hq : Cond.fieldLink own idx RJ0 "coder" "B" ∈ gT) (h : Sim X nL A e ck sk (pc + 3) loc (.int 0 :: stk) M) : Sim X nL A (if k < 13 then e else none) ck sk pc loc (kv (some (20 + k)) :: stk) M := by
  by_cases hk : k < 13
  · rw [if_pos hk]
    obtain ⟨-, -, -, -, -, -, h7, -⟩ := hX.cf
    exact s_kgfI hX hd (by omega) (h7.1 k hk).2.1 hq h
  · rw [if_neg hk]; exact s_none
theorem s_kblen {e : Option T} {k : Nat} (hX : CxOk X cc nL own rm) (hd : decode cc pc = .ok (.arraylength, 1)) (h : Sim X nL A e ck sk (pc + 1) loc (.int (nI (wLen.getD k 0)) :: stk) M) : Sim X nL A (if k < 13 then e else none) ck sk pc loc (kv (some (40 + k)) :: stk) M := by
  by_cases hk : k < 13
  · rw [if_pos hk]
    obtain ⟨-, -, -, -, -, -, h7, -⟩ := hX.cf
    intro t ht hA ad H locs ls hy
    rw [kv_map (by omega)]
    exact va_tlen hX.1 hX.2.1 (h7.1 k hk).2.2.2 hy.2.1 (v := nI (wLen.getD k 0)) rfl hd (h t ht hA ad H locs ls (hy.st ⟨trivial, hy.ok.2⟩))
  · rw [if_neg hk]; exact s_none
theorem s_kbald {e : Option T} {k : Nat} {i : Int32} (hX : CxOk X cc nL own rm) (hd : decode cc pc = .ok (.baload, 1)) (h : Sim X nL A e ck sk (pc + 1) loc (.int (wCh k i.toNatClampNeg) :: stk) M) : Sim X nL A (if k < 13 ∧ ¬ (i < 0 ∨ wLen.getD k 0 ≤ i.toNatClampNeg) then e else none) ck sk pc loc (.int i :: kv (some (40 + k)) :: stk) M := by
  by_cases hk : k < 13 ∧ ¬ (i < 0 ∨ wLen.getD k 0 ≤ i.toNatClampNeg)
  · rw [if_pos hk]
    obtain ⟨-, -, -, -, -, -, h7, -⟩ := hX.cf
    intro t ht hA ad H locs ls hy
    have e1 : (Value.int i :: kv (some (40 + k)) :: stk).map (cv ad (xkad X)) = .int i :: .ref (xkad X (40 + k)) :: stk.map (cv ad (xkad X)) := by
      rw [List.map_cons, kv_map (by omega)]; rfl
    rw [e1]
    exact va_tb hX.1 hX.2.1 (h7.1 k hk.1).2.2.2 hy.2.1 hk.2 (v := .int (wCh k i.toNatClampNeg)) rfl hd (h t ht hA ad H locs ls (hy.st ⟨trivial, hy.ok.2.2⟩))
  · rw [if_neg hk]; exact s_none
theorem s_cret {v : Int32} {A : Int32 × MemT → Prop} (hX : CxOk X cc nL own rm) (hR : RetG X rm (some .char) iI A) (hd : decode cc pc = .ok (.ireturn, 1)) (h1 : ck ≤ rm.cells) (h2 : sk ≤ rm.slots) : Sim X nL A (rC v M) ck sk pc loc [.int v] M := by
  intro t ht hA ad H locs ls hy
  unfold rC at ht
  by_cases hv : v.toUInt32.toUInt16.toUInt32.toInt32 = v
  · rw [if_pos hv] at ht
    cases ht
    obtain ⟨Qc, free, hQ, hr, hlk, hk⟩ := hR
    obtain ⟨g1, g2⟩ := hk v M ad H locs hA hy.1 hy.2.1 hy.2.2.1 hy.2.2.2.1 ⟨trivial, trivial⟩
    refine W.widen (k := rm.cells) (n := rm.slots) h1 h2 ?_
    rw [hQ]
    exact W.zret hX.1 hX.2.1 hr (congrArg Value.int hv) g1 g2 hd hlk
  · rw [if_neg hv] at ht; cases ht
theorem s_bret {v : Int32} {A : Int32 × MemT → Prop} (hX : CxOk X cc nL own rm) (hR : RetG X rm (some .byte) iI A) (hd : decode cc pc = .ok (.ireturn, 1)) (h1 : ck ≤ rm.cells) (h2 : sk ≤ rm.slots) : Sim X nL A (rB v M) ck sk pc loc [.int v] M := by
  intro t ht hA ad H locs ls hy
  unfold rB at ht
  by_cases hv : v.toInt8.toInt32 = v
  · rw [if_pos hv] at ht
    cases ht
    obtain ⟨Qc, free, hQ, hr, hlk, hk⟩ := hR
    obtain ⟨g1, g2⟩ := hk v M ad H locs hA hy.1 hy.2.1 hy.2.2.1 hy.2.2.2.1 ⟨trivial, trivial⟩
    refine W.widen (k := rm.cells) (n := rm.slots) h1 h2 ?_
    rw [hQ]
    exact W.zret hX.1 hX.2.1 hr (congrArg Value.int hv) g1 g2 hd hlk
  · rw [if_neg hv] at ht; cases ht
/-- a call on a text -/
theorem s_callK {o : Option (Int32 × MemT)} {f : Int32 → MemT → Option T} {as st0 : List Value} {y : MethodName} {bytes : ByteArray} {maxL n idx ck1 sk1 k : Nat} {rmY : Room} {ret : Option FieldType} (hX : CxOk X cc nL own rm) (hd : decode cc pc = .ok (.invokevirtual idx, 3)) (hk : KYV y bytes maxL ret n) (hq : Cond.methodLink own idx y ∈ gT) (hC : Ct iI y bytes maxL ret rmY (kv (some (20 + k)) :: as) M o) (hcls : y.cls = "java/lang/String") (hn : as.length = n) (hst : as.reverse ++ kv (some (20 + k)) :: stk = st0) (hR : Room.fit rmY rm maxL) (hf : ck + rmY.cells ≤ rm.cells ∧ sk + rmY.slots ≤ rm.slots) (hcat : (stk.map fun v => v.category).sum ≤ 8) (e1 : ck + rmY.cells = ck1) (e2 : sk + rmY.slots = sk1) (h : ∀ r M1, Sim X nL A (f r M1) ck1 sk1 (pc + 3) loc (.int r :: stk) M1) : Sim X nL A (if k < 13 then bd o f else none) ck sk pc loc st0 M := by
  by_cases hk13 : k < 13
  · rw [if_pos hk13]
    obtain ⟨-, -, -, -, -, -, h7, -⟩ := hX.cf
    intro t ht hA ad H locs ls hy
    subst e1; subst e2; subst hst
    cases ho : o with
    | none => rw [ho] at ht; cases ht
    | some q =>
      obtain ⟨r, M1⟩ := q
      rw [ho] at ht
      obtain ⟨⟨k1, k2, k3⟩, k4, k5⟩ := hk
      obtain ⟨ho1, -, ho2⟩ := okl_app.mp hy.ok
      obtain ⟨p1, p2⟩ := call_pre hX hy (as := kv (some (20 + k)) :: as) ⟨trivial, okl_rev.mp ho1⟩
      have em : (as.reverse ++ kv (some (20 + k)) :: stk).map (cv ad (xkad X)) = (as.map (cv ad (xkad X))).reverse ++ .ref (xkad X (20 + k)) :: stk.map (cv ad (xkad X)) := by
        rw [List.map_append, kv_map (by omega), List.map_reverse]
      rw [em]
      have ea : (kv (some (20 + k)) :: as).map (cv ad (xkad X)) = .ref (xkad X (20 + k)) :: as.map (cv ad (xkad X)) := kv_map (by omega)
      rw [ea] at p2
      refine call_post (inj := iI) hy ho2 (va_runV (C := y.cls) (ws := Cond.code y bytes maxL ret :: gT) (rm := rmY) (As := as.map (cv ad (xkad X))) ⟨hX.1, hX.2.1, hX.2.2.1, hX.2.2.2.1, hX.2.2.2.2.1⟩ (hC _ _ _ _ _ _ r M1 ho) ⟨callB_of n hX.2.2.2.2.1 (gT_call k1) rfl rfl rfl (hX.2.2.2.2.1 _ k2) (hX.2.2.2.2.1 _ hq) k3 (by rw [hX.2.2.2.2.2.2.1]; exact hR), hX.2.2.2.2.1 _ k4, hX.2.2.2.2.1 _ k5⟩ ⟨p1, ?_, p2⟩ rfl (by rw [List.length_map]; exact hn) hy.lr.1 rfl (lv_room (by rw [cv_sum]; exact hcat)) hd (by rw [hX.2.2.2.2.2.2.1]; exact hf)) (h r M1 t ht hA)
      rw [hcls]
      exact vk_recv (adK := fun i => xkad X (20 + i)) (i := k) h7 hk13 hy.2.1
  · rw [if_neg hk13]; exact s_none
abbrev rm_ordinal : Room := { frames := 0, cells := 0, slots := 0, locals := 0 }
theorem c_ordinal (M0 : MemT) (k : Nat) (hk : k < 13) : Ct iI yJx29ce0_ordinal_8abf5 cJx29ce0_ordinal_8abf5 1 (some .int) rm_ordinal [kv (some k)] M0 (some (nI k, M0)) := by
  refine ct_intro RJx29ce0 0 [some (kv (some k))] rfl (by decide +kernel) rfl (Nat.le_of_ble_eq_true rfl) (fun X A hX hnm hR => ?_)
  refine s_kloadK_n (r := some k) hX dJx29ce0_ordinal_8abf5_0 rfl ?_
  refine s_kgfI (v := nI k) hX dJx29ce0_ordinal_8abf5_1 (by omega) ?_ q_1863 ?_
  · have h1 := (hX.cf.1.1 k hk).2.2 _ (List.mem_singleton.mpr rfl)
    have e : ∀ k, k < 13 → ([0, 1, 2, 3, 4, 5, 6, 7, 8, 9, 10, 11, 12] : List Int32).getD k 0 = nI k := by decide
    rw [← e k hk]
    exact h1
  · exact s_iret hX hR dJx29ce0_ordinal_8abf5_4 (Nat.le_of_ble_eq_true rfl) (Nat.le_of_ble_eq_true rfl)
theorem s_swm {e : Option T} {k i1 i2 : Nat} {f : Fin 4} (hX : CxOk X cc nL own rm) (hd1 : decode cc pc = .ok (.getstatic i1, 3)) (hd2 : decode cc (pc + 3) = .ok (.aload_n f, 1)) (hd3 : decode cc (pc + 4) = .ok (.invokevirtual i2, 3)) (hd4 : decode cc (pc + 7) = .ok (.iaload, 1)) (hl : loc[(f : Nat)]? = some (some (kv (some k)))) (hq1 : Cond.fieldLink own i1 RX0 "$SwitchMap$ExemptDesk$Word" "[I" ∈ gT) (hq2 : Cond.methodLink own i2 ⟨"ExemptDesk$Word", "ordinal", "()I"⟩ ∈ gT) (hfr : 1 ≤ rm.frames) (hlo : 40 ≤ rm.locals) (hc : ck ≤ rm.cells) (hs : sk ≤ rm.slots) (hcat : (stk.map fun v => v.category).sum + 1 ≤ 8) (h : Sim X nL A e ck sk (pc + 8) loc (.int (wSm k) :: stk) M) : Sim X nL A (if k < 13 then e else none) ck sk pc loc stk M := by
  by_cases hk : k < 13
  · rw [if_pos hk]
    obtain ⟨h1, -, -, -, h5, h6, -⟩ := hX.cf
    refine s_gsK (k := 14) hX hd1 h5 (by decide) hq1 ?_
    refine s_kloadK_n (r := some k) hX hd2 hl ?_
    intro t ht hA ad H locs ls hy
    obtain ⟨p1, p2⟩ := call_pre hX hy (as := [kv (some k)]) ⟨trivial, trivial⟩
    have ea : ([kv (some k)] : List Value).map (cv ad (xkad X)) = [.ref (xkad X k)] := kv_map (stk := []) (by omega)
    rw [ea] at p2
    have em : (kv (some k) :: kv (some 14) :: stk).map (cv ad (xkad X)) = .ref (xkad X k) :: (kv (some 14) :: stk).map (cv ad (xkad X)) := kv_map (by omega)
    rw [em]
    refine call_post (inj := iI) (stk := kv (some 14) :: stk) hy ⟨trivial, hy.ok.2.2⟩ (va_runU (x := ⟨"ExemptDesk$Word", "ordinal", "()I"⟩) (y := yJx29ce0_ordinal_8abf5) (C := RX8) (owner := "java/lang/Enum") (n := 0) (ws := Cond.code yJx29ce0_ordinal_8abf5 cJx29ce0_ordinal_8abf5 1 (some .int) :: gT) (rm := rm_ordinal) (As := []) ⟨hX.1, hX.2.1, hX.2.2.1, hX.2.2.2.1, hX.2.2.2.2.1⟩ (c_ordinal M k hk _ _ _ _ _ _ (nI k) M rfl) (va_cwU 0 hX.2.2.2.2.1 ?_ rfl rfl rfl rfl ⟨by decide +kernel, by decide +kernel, by decide +kernel⟩ (by rw [hX.2.2.2.2.2.2.1]; exact ⟨hfr, by show 8 + (1 + 11) + 0 ≤ _; omega⟩)) ⟨p1, va_recvE h1 hk hy.2.1, p2⟩ rfl rfl hy.lr.1 rfl (lv_room (by rw [cv_sum, List.map_cons, List.sum_cons]; show 1 + _ ≤ 8; omega)) hd3 (by rw [hX.2.2.2.2.2.2.1]; exact ⟨hc, hs⟩)) ?_
    · intro w hw
      simp only [va_wsU, List.mem_append, List.mem_cons, List.not_mem_nil, or_false] at hw
      rcases hw with (rfl | rfl | rfl | rfl | rfl) | rfl | hw
      · exact ⟨hq2, gT_good hq2⟩
      · exact ⟨q_same, gT_good q_same⟩
      · exact ⟨q_555, gT_good q_555⟩
      · exact ⟨q_556, gT_good q_556⟩
      · exact ⟨q_11, gT_good q_11⟩
      · exact ⟨q_557, gT_good q_557⟩
      · exact ⟨hw, gT_good hw⟩
    · intro ad1 H1 locs1 ls1 hy1
      have e1 : (Value.int (nI k) :: kv (some 14) :: stk).map (cv ad1 (xkad X)) = .int (nI k) :: .ref (xkad X 14) :: stk.map (cv ad1 (xkad X)) := by
        rw [List.map_cons, kv_map (by decide)]; rfl
      show W _ _ _ _ _ _ _ _ _ _ _ _ _ _ _ (F0 _ _ _ ((Value.int (nI k) :: kv (some 14) :: stk).map (cv ad1 (xkad X))))
      rw [e1]
      exact va_ti hX.1 hX.2.1 h6 hy1.2.1 (i := nI k) (vp_in_nI hk (by decide)) (v := .int (wSm k)) (by rw [nI_clamp (by omega)]) hd4 (h t ht hA ad1 H1 locs1 ls1 (hy1.st ⟨trivial, hy1.ok.2.2⟩))
  · rw [if_neg hk]; exact s_none
end ROWS5

