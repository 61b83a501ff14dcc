/-! ===== BASE 7: the law's rows; the method that catches ===== -/
def bdT {T : Type} (e : Option ((Nat × Int32) × MemT)) (f : Nat → Int32 → MemT → Option T) : Option T := match e with
  | none => none
  | some ((k, v), M) => f k v M
def g_L_trader (n : Nat) (M0 : MemT) (x : Nat) (p0 p1 : Int32) (out : Nat) : Option (Int32 × MemT) :=
  chk M0 7 x (bdT (g_X9_trader n M0 x p0 p1) (fun k v M1 => if k = 0 then (wJ M1 out 0 v.toInt64).bind (fun M2 => some (0, M2)) else if k = 1 then some (1, M1) else if k = 2 then some (2, M1) else none))
abbrev hhT : List (Nat × Nat × Nat × Nat) := [(0, 10, 13, 13), (0, 10, 17, 15)]
abbrev cwT : Cond := .codeWith yL_trader cL_trader 5 (some .int) hhT
theorem q_cwT : cwT ∈ gT := qT 1272 (by decide +kernel) (by decide +kernel)
def CtW (rm : Room) (as : List Value) (M : MemT) (o : Option (Int32 × MemT)) : Prop :=
  ∀ (l : Launch) (D : va_G) (ac : Nat → ClassId) (kad ad : Nat → Nat) (sz : Nat) (r : Int32) (M1 : MemT), l.stackTraces = false → o = some (r, M1) →
    Met l yL_trader (cwT :: gT) rm (PG D ac kad ad M sz as) (QG iI D ac kad ad M sz r M1) rm.cells rm.slots (freeA ad (mN M) sz)
theorem ctW_intro {rm : Room} {as : List Value} {M : MemT} {o : Option (Int32 × MemT)} (j : Nat) (loc : List (Option Value)) (hloc : locI as ++ List.replicate j none = loc) (hlen : (lg_sl as).length ≤ 5)
    (h : ∀ (X : CxT) (A : Int32 × MemT → Prop), CxOk X cL_trader 5 RL rm → (xl X).stackTraces = false → (xc X).exceptionTable.toList = tableOf hhT → RetG X rm (some .int) iI A → Sim X 5 A o 0 0 0 loc [] M) : CtW rm as M o := by
  intro l D ac kad ad sz r M1 hl0 ho
  refine va_MetW (by decide) rfl ?_
  intro p e s m args below meth c s1 B hml hv
  obtain ⟨rfl, hsz, hok, hW, hK, hC⟩ := hv
  subst hsz
  have hts := atoms_spec (ws := cwT :: gT) B.pre
  have htab := vx_table (x := yL_trader) B (hts _ List.mem_cons_self)
  let X : CxT := (p, l, e, (headSpec (cwT :: gT) rm).room, s, m, (as.map (cv ad kad)).toArray, below, meth, c, MQ below (QG iI D ac kad ad M s.heap.size r M1) (as.map (cv ad kad)).toArray s rm.cells rm.slots (freeA ad (mN M) s.heap.size), D, ac, kad, ad, mN M)
  have hX : CxOk X cL_trader 5 RL rm := ⟨B.exec, B.bytes, hml, findClass_of_methodNamed B.named, fun w hw => hts w (List.mem_cons_of_mem _ hw), hK, rfl, hC⟩
  have hR : RetG X rm (some .int) iI (fun t => t = (r, M1)) := by
    refine ⟨_, _, rfl, B.returns, B.notSynchronized, ?_⟩
    intro r' M' ad1 H locs hA hW1 hS hn had hres
    cases hA
    refine ⟨fun t ht hWm => ⟨⟨ad1, rfl, hn, had, hres, by rw [ht]; exact hW1, va_K.moved hWm.alike hK⟩, hS.F ht⟩, hS.2.2⟩
  have hs := h X (fun t => t = (r, M1)) hX hl0 htab hR (r, M1) ho rfl
  have hl := lv_entry (as.map (cv ad kad)) (n := 5) (by
    rw [lg_len]; exact hlen)
  rw [lg_entry_eq]
  refine hs ad s.heap [] _ ⟨⟨hW.1, hW.2.1.weaken (fun k q hk _ => ?_), hW.2.2⟩, va_S.rf, Nat.le_refl _, fun _ _ => rfl, trivial, ?_, hl.1, hl.2.1, fun k v hk => ?_⟩
  · obtain ⟨h1, rfl⟩ := ws_lt hk
    exact Or.inl ⟨k, h1, rfl⟩
  · rw [← hloc]; exact okc_rep (okc_locI hok)
  · rw [← hloc] at hk
    have hlt : k < (locI as).length := by
      rcases Nat.lt_or_ge k (locI as).length with q | q
      · exact q
      · rw [List.getElem?_append_right q] at hk
        simp [List.getElem?_replicate] at hk
    rw [List.getElem?_append_left hlt] at hk
    have h1 := locI_args (ad := ad) (kad := kad) (b := 0) hk
    rw [Nat.zero_add] at h1
    exact hl.2.2 _ h1
def Scr (X : CxT) (L : Nat) (sc : Nat → Int32) : Prop := va_X (xkad X 70) L sc (xs X) (xs X).heap ∧ xkad X 70 < (xs X).heap.size ∧ ¬ A0 X (xkad X 70)
def RetL (X : CxT) (A : Int32 × MemT → Prop) : Prop :=
  (∀ t, A t → t.1 = 1) ∧ ∀ (pc : Nat) (H : Heap) (ls : Array Slot) (locs : List Loc), (∀ q ∈ locs, A0 X q.base) → decode cL_law pc = .ok (.ireturn, 1) → W (xp X) (xl X) (xe X) (xR X) (xs X) (xm X) (xargs X) (xbelow X) (xmeth X) (xc X) H locs 601024 7293034 (xQ X) (F0 (xm X) pc ls [.int 1])
section ROWS8
variable {X : CxT} {nL : Nat} {T : Type} {A : T → Prop} {ck sk pc : Nat} {loc : List (Option Value)} {stk : List Value} {M : MemT} {cc : ByteArray} {own : String} {rm : Room}
theorem s_slen {e : Option T} {L : Nat} {sc : Nat → Int32} (hX : CxOk X cc nL own rm) (hS : Scr X L sc) (hd : decode cc pc = .ok (.arraylength, 1)) (h : Sim X nL A e ck sk (pc + 1) loc (.int (nI L) :: stk) M) : Sim X nL A e ck sk pc loc (kv (some 70) :: stk) M := by
  intro t ht hA ad H locs ls hy
  rw [kv_map (by decide)]
  exact va_slen hX.1 hX.2.1 hS.1 hS.2.1 hS.2.2 hy.2.1 hd (h t ht hA ad H locs ls (hy.st ⟨trivial, hy.ok.2⟩))
theorem s_sld {e : Option T} {L : Nat} {sc : Nat → Int32} {i : Int32} (hX : CxOk X cc nL own rm) (hS : Scr X L sc) (hd : decode cc pc = .ok (.iaload, 1)) (h : Sim X nL A e ck sk (pc + 1) loc (.int (sc i.toNatClampNeg) :: stk) M) : Sim X nL A (if i < 0 ∨ L ≤ i.toNatClampNeg then none else e) ck sk pc loc (.int i :: kv (some 70) :: stk) M := by
  intro t ht hA ad H locs ls hy
  by_cases hc : i < 0 ∨ L ≤ i.toNatClampNeg
  · rw [if_pos hc] at ht; cases ht
  · rw [if_neg hc] at ht
    have e1 : (Value.int i :: kv (some 70) :: stk).map (cv ad (xkad X)) = .int i :: .ref (xkad X 70) :: stk.map (cv ad (xkad X)) := by
      rw [List.map_cons, kv_map (by decide)]; rfl
    rw [e1]
    exact va_sld hX.1 hX.2.1 hS.1 hS.2.1 hS.2.2 hy.2.1 hc hd (h t ht hA ad H locs ls (hy.st ⟨trivial, hy.ok.2.2⟩))
theorem s_lawret {v : Int32} {A : Int32 × MemT → Prop} (hX : CxOk X cL_law nL own rm) (hR : RetL X A) (hd : decode cL_law pc = .ok (.ireturn, 1)) (h1 : ck ≤ 601024) (h2 : sk ≤ 7293034) : Sim X nL A (some (v, M)) ck sk pc loc [.int v] M := by
  intro t ht hA ad H locs ls hy
  cases ht
  have hv : v = 1 := hR.1 _ hA
  subst hv
  exact W.widen h1 h2 (hR.2 pc H ls locs hy.2.1.2.2 hd)
/-- a caught exception laid into a local that nothing reads -/
theorem w_drop {i : Nat} {q : Nat} {ad : Nat → Nat} {H : Heap} {locs : List Loc} {ls : Array Slot} (hX : CxOk X cc nL own rm) (hy : Hy X nL M loc [] ad H locs ls) (hd : decode cc pc = .ok (.astore i, 2)) (hn : i < nL) (hi : i < loc.length) (hL : noLong loc i) (h : WW X nL ck sk (pc + 2) (loc.set i none) [] M) : W (xp X) (xl X) (xe X) (xR X) (xs X) (xm X) (xargs X) (xbelow X) (xmeth X) (xc X) H locs ck sk (xQ X) (F0 (xm X) pc ls [.ref q]) := by
  let ad1 : Nat → Nat := fun j => if j = mN M then q else ad j
  have had : ∀ j, j < mN M → ad1 j = ad j := fun j hj => if_neg (by omega)
  have hl1 : lrel ad1 (xkad X) loc ls nL := lrel_same had hy.oc hy.lr
  have hq : ad1 (mN M) = q := if_pos rfl
  have h1 : ∀ ls1, lv_has ls1 nL ((i, cv ad1 (xkad X) (.ref (mN M))) :: (prs ad1 (xkad X) 0 loc).filter (fun q => !(q.1 == i) && !(q.1 + 1 == i && q.2.category == 2))) → W (xp X) (xl X) (xe X) (xR X) (xs X) (xm X) (xargs X) (xbelow X) (xmeth X) (xc X) H locs ck sk (xQ X) (F0 (xm X) (pc + 2) ls1 []) := by
    intro ls1 hls
    have h2 := lrel_st1 hL hls
    have h3 : ∀ (k : Nat) (v : Value), (loc.set i none)[k]? = some (some v) → k ≠ i ∧ loc[k]? = some (some v) := by
      intro k v hk
      by_cases hki : k = i
      · subst hki
        rw [List.getElem?_set_self hi] at hk; cases hk
      · rw [List.getElem?_set_ne (Ne.symm hki)] at hk
        exact ⟨hki, hk⟩
    have hoc : okc (mN M) (loc.set i none) := okc_of (fun k v hk => okc_at hy.oc (h3 k v hk).2)
    refine h ad H locs ls1 ⟨hy.1, hy.2.1, hy.2.2.1, hy.2.2.2.1, trivial, hoc, ?_⟩
    have h4 : lrel ad1 (xkad X) (loc.set i none) ls1 nL := ⟨h2.1, h2.2.1, fun k v hk => h2.2.2 k v (by
      obtain ⟨e1, e2⟩ := h3 k v hk
      rw [List.getElem?_set_ne (Ne.symm e1)]; exact e2)⟩
    exact lrel_same (fun j hj => (had j hj).symm) hoc h4
  have e : (Value.ref q) = .ref (ad1 (mN M)) := by rw [hq]
  rw [e]
  exact lv_astore (lv := prs ad1 (xkad X) 0 loc) hX.1 hX.2.1 hd hl1.has hn rfl h1
/-- a call of the method that throws, its answer or its exception -/
theorem s_callVT {o : Option ((Nat × Int32) × MemT)} {f : Nat → Int32 → MemT → Option T} {as st0 : List Value} {y : MethodName} {bytes : ByteArray} {maxL n idx : Nat} {rmY : Room} {x ci : Nat} (hX : CxOk X cc nL own rm) (hl : (xl X).stackTraces = false) (hd : decode cc pc = .ok (.invokevirtual idx, 3)) (hk : KYV y bytes maxL (some .int) n) (hq : Cond.methodLink own idx y ∈ gT) (hC : CtT y bytes maxL rmY (.ref x :: as) M o) (hci : ci < 9) (hcls : y.cls = RC ci) (hn : as.length = n) (hst : as.reverse ++ .ref x :: stk = st0) (hR : Room.fit rmY rm maxL) (hf : ck + rmY.cells ≤ rm.cells ∧ sk + rmY.slots ≤ rm.slots) (hcat : (stk.map fun v => v.category).sum ≤ 8)
    (h : ∀ v M1, Sim X nL A (f 0 v M1) (ck + rmY.cells) (sk + rmY.slots) (pc + 3) loc (.int v :: stk) M1)
    (hx : ∀ (k : Nat) (v : Int32) (M1 : MemT) (t : T), (k = 1 ∨ k = 2) → f k v M1 = some t → A t → ∀ (ad : Nat → Nat) (H : Heap) (locs : List Loc) (ls : Array Slot) (ce : Cell) (q : Nat), Hy X nL M1 loc stk ad H locs ls → H[q]? = some ce → ce.vm = .none → (xs X).vm.findClass (EX k) = some ce.cls → vx_W (xp X) (xl X) (xe X) (xR X) (xs X) (xm X) (xargs X) (xbelow X) (xmeth X) (xc X) H locs (ck + rmY.cells) (sk + rmY.slots) (xQ X) (F0 (xm X) pc ls (stk.map (cv ad (xkad X)))) q) : Sim X nL A (chk M ci x (bdT o f)) ck sk pc loc st0 M := by
  intro t ht hA ad H locs ls hy
  subst hst
  unfold chk at ht
  by_cases hc : mK M x = ci
  · rw [if_pos hc] at ht
    cases ho : o with
    | none => rw [ho] at ht; cases ht
    | some q =>
      obtain ⟨⟨k, v⟩, M1⟩ := q
      rw [ho] at ht
      have ht1 : f k v M1 = some t := ht
      obtain ⟨⟨k1, k2, k3⟩, k4, k5⟩ := hk
      have hxl : x < mN M := hy.1.lt (by omega)
      obtain ⟨ho1, ho2⟩ := okl_split hy.ok
      obtain ⟨p1, p2⟩ := call_pre hX hy ho1
      rw [rev_map]
      have hrecv : ∃ cell : Cell, H[ad x]? = some cell ∧ cell.vm.isStatics = false ∧ (xs X).vm.findClass y.cls = some cell.cls := by
        rw [hcls]
        exact va_recv hX.2.2.2.2.2.1 hy.1.1 (cl_at ci hci) (by rw [ws_at _ _ _ hxl, ent_o hc hci])
      have hr := vx_runV (R := xR X) (rest := stk.map (cv ad (xkad X))) (g := F0 (xm X) pc ls ((as.map (cv ad (xkad X))).reverse ++ .ref (ad x) :: stk.map (cv ad (xkad X)))) (locs := locs) (cells := ck) (slots := sk) (e := xe X) (below := xbelow X) (meth := xmeth X) (C := y.cls) (ws := Cond.code y bytes maxL (some .int) :: gT) (rm := rmY) (As := as.map (cv ad (xkad X))) ⟨hX.1, hX.2.1, hX.2.2.1, hX.2.2.2.1, hX.2.2.2.2.1⟩ (hC _ _ _ _ _ _ k v M1 hl ho) ⟨callB_of n hX.2.2.2.2.1 (gT_call k1) rfl rfl rfl (hX.2.2.2.2.1 _ k2) (hX.2.2.2.2.1 _ hq) k3 (by rw [hX.2.2.2.2.2.2.1]; exact hR), hX.2.2.2.2.1 _ k4, hX.2.2.2.2.1 _ k5⟩ ⟨p1, hrecv, p2⟩ rfl (by rw [List.length_map]; exact hn) hy.lr.1 rfl (lv_room (by rw [cv_sum]; exact hcat)) hd (by rw [hX.2.2.2.2.2.2.1]; exact hf)
      intro T0 hT XX
      have hfr := hy.fr
      rcases hr T0 hT XX with ⟨w, st₀, u, T', Lx, h0, X', hL, e1, e2, ⟨hk0, ⟨ad1, hv, hnn, had, hres, hWH, hKt⟩, hz, hkk⟩, st⟩ | ⟨q, st₀, u, T', Lx, E, ce, h0, X', hL, e1, e2, ⟨rfl, hk12, ⟨ad1, hnn, had, hWH, hKt⟩, hz, hkk⟩, hce, hcv, hcl, st⟩
      · subst hk0
        have hv1 : w = (iI v).map (cv ad1 (xkad X)) := Outcome.returned.inj hv
        subst hv1
        rw [h0] at hz hkk
        have hS1 : va_S (A0 X) (xs X).heap T'.heap (locs ++ Lx) := ⟨Nat.le_trans hy.2.1.1 (by rw [e1]; exact hz), fun q h1 h2 => by
            rw [e1, hkk q (Nat.lt_of_lt_of_le h1 hy.2.1.1) (fun z => h2 (hfr q z))]
            exact hy.2.1.2.1 q h1 h2, fun q hq => by
            rcases List.mem_append.mp hq with h | h
            · exact hy.2.1.2.2 q h
            · exact hfr _ (hL q h)⟩
        have hy1 : Hy X nL M1 loc (.int v :: stk) ad1 T'.heap (locs ++ Lx) ls :=
          ⟨⟨by rw [e1]; exact hWH.1, hWH.2.1.weaken (fun _ q _ hq => hfr _ hq), hWH.2.2⟩, hS1, Nat.le_trans hy.2.2.1 hnn, fun i hi => by rw [had i (Nat.lt_of_lt_of_le hi hy.2.2.1)]; exact hy.2.2.2.1 i hi, ⟨trivial, okl_mono hnn ho2⟩, okc_mono hnn hy.oc, lrel_same had hy.oc hy.lr⟩
        obtain ⟨t2, a1, b1⟩ := h v M1 t ht1 hA ad1 T'.heap (locs ++ Lx) ls hy1 T' rfl X'
        refine ⟨t2, st t2 ?_, b1⟩
        rw [show (Value.int v :: stk).map (cv ad1 (xkad X)) = .int v :: stk.map (cv ad (xkad X)) by rw [List.map_cons, map_same had ho2]; rfl] at a1
        exact a1
      · rw [h0] at hz hkk
        have hS1 : va_S (A0 X) (xs X).heap T'.heap (locs ++ Lx) := ⟨Nat.le_trans hy.2.1.1 (by rw [e1]; exact hz), fun q h1 h2 => by
            rw [e1, hkk q (Nat.lt_of_lt_of_le h1 hy.2.1.1) (fun z => h2 (hfr q z))]
            exact hy.2.1.2.1 q h1 h2, fun q hq => by
            rcases List.mem_append.mp hq with h | h
            · exact hy.2.1.2.2 q h
            · exact hfr _ (hL q h)⟩
        have hy1 : Hy X nL M1 loc stk ad1 T'.heap (locs ++ Lx) ls :=
          ⟨⟨by rw [e1]; exact hWH.1, hWH.2.1.weaken (fun _ q _ hq => hfr _ hq), hWH.2.2⟩, hS1, Nat.le_trans hy.2.2.1 hnn, fun i hi => by rw [had i (Nat.lt_of_lt_of_le hi hy.2.2.1)]; exact hy.2.2.2.1 i hi, okl_mono hnn ho2, okc_mono hnn hy.oc, lrel_same had hy.oc hy.lr⟩
        obtain ⟨t2, a1, b1⟩ := hx k v M1 t hk12 ht1 hA ad1 T'.heap (locs ++ Lx) ls ce q hy1 (by rw [e1]; exact hce) hcv hcl T' rfl X'
        refine ⟨t2, st.trans ?_, b1⟩
        rw [map_same had ho2] at a1
        exact a1
  · rw [if_neg hc] at ht; cases ht
end ROWS8
abbrev rm_L_trader : Room := { frames := 7, cells := 1, slots := 6, locals := 104 }
set_option maxHeartbeats 4000000 in
theorem c_L_trader (n : Nat) (M0 : MemT) (x : Nat) (p0 p1 : Int32) (out : Nat) : CtW rm_L_trader [.ref x, .int p0, .int p1, .ref out] M0 (g_L_trader n M0 x p0 p1 out) := by
  unfold g_L_trader
  refine ctW_intro 1 [some (.ref x), some (.int p0), some (.int p1), some (.ref out), none] rfl (Nat.le_of_ble_eq_true rfl) (fun X A hX hl htab hR => ?_)
  refine s_aload_n hX dL_trader_0 rfl ?_
  refine s_iconst (v := 0) hX dL_trader_1 kc_0 ?_
  refine s_aload_n hX dL_trader_2 rfl ?_
  refine s_iload_n hX dL_trader_3 rfl ?_
  refine s_iload_n hX dL_trader_4 rfl ?_
  refine s_callVT (ci := 7) (as := [.int p0, .int p1]) (stk := [.int 0, .ref out]) hX hl dL_trader_5 k_X9_trader q_1166 (c_X9_trader n M0 x p0 p1) (by decide) rfl rfl rfl ⟨Nat.le_of_ble_eq_true rfl, Nat.le_of_ble_eq_true rfl⟩ ⟨Nat.le_of_ble_eq_true rfl, Nat.le_of_ble_eq_true rfl⟩ (Nat.le_of_ble_eq_true rfl) (fun v M1 => ?_) (fun k v M1 t hk ht hA ad H locs ls ce q hy hce hcv hcl => ?_)
  · rw [if_pos rfl]
    refine s_i2l hX dL_trader_8 ?_
    refine s_last hX dL_trader_9 (fun M2 => ?_)
    refine s_goto (tgt := 21) hX dL_trader_10 rfl ?_
    refine s_iconst (v := 0) hX dL_trader_21 kc_0 ?_
    exact s_iret hX hR dL_trader_22 (Nat.le_of_ble_eq_true rfl) (Nat.le_of_ble_eq_true rfl)
  · obtain ⟨-, -, -, -, -, -, -, -, -, -, -, -, -, -, hext, hnc, -⟩ := hX.cf
    have hy0 : Hy X 5 M1 [some (.ref x), some (.int p0), some (.int p1), some (.ref out), none] [] ad H locs ls := hy.st trivial
    rcases hk with rfl | rfl
    · rw [if_neg (by decide), if_pos rfl] at ht
      refine vx_catch (name := "java/lang/IndexOutOfBoundsException") (E := EX 1) hX.2.2.2.1 [] ⟨0, 10, 13, 13⟩ [⟨0, 10, 17, 15⟩] (by rw [htab]; rfl) (fun z hz => nomatch hz) (by decide) (by decide) (hX.2.2.2.2.1 _ q_1164) (va_tabs (ext_ok _ (by decide +kernel)) rfl (hext _ (by decide +kernel))) hce hcv hcl ?_
      refine w_drop (i := 4) hX hy0 dL_trader_13 (by decide) (by simp) (by first | exact trivial | exact rfl) ?_
      have h1 : Sim X 5 A (some ((1 : Int32), M1)) (0 + 1) (0 + 6) 15 [some (.ref x), some (.int p0), some (.int p1), some (.ref out), none] [] M1 := by
        refine s_iconst (v := 1) hX dL_trader_15 kc_1 ?_
        exact s_iret hX hR dL_trader_16 (Nat.le_of_ble_eq_true rfl) (Nat.le_of_ble_eq_true rfl)
      exact h1 t ht hA
    · rw [if_neg (by decide), if_neg (by decide), if_pos rfl] at ht
      refine vx_catch (name := "java/util/NoSuchElementException") (E := EX 2) hX.2.2.2.1 [⟨0, 10, 13, 13⟩] ⟨0, 10, 17, 15⟩ [] (by rw [htab]; rfl) (fun z hz => ?_) (by decide) (by decide) (hX.2.2.2.2.1 _ q_1165) (va_tabs (ext_ok _ (by decide +kernel)) rfl (hext _ (by decide +kernel))) hce hcv hcl ?_
      · rw [List.mem_singleton.mp hz]
        exact Or.inr ⟨by decide, _, hX.2.2.2.2.1 _ q_1164, hnc⟩
      · refine w_drop (i := 4) hX hy0 dL_trader_17 (by decide) (by simp) (by first | exact trivial | exact rfl) ?_
        have h1 : Sim X 5 A (some ((2 : Int32), M1)) (0 + 1) (0 + 6) 19 [some (.ref x), some (.int p0), some (.int p1), some (.ref out), none] [] M1 := by
          refine s_iconst (v := 2) hX dL_trader_19 kc_2 ?_
          exact s_iret hX hR dL_trader_20 (Nat.le_of_ble_eq_true rfl) (Nat.le_of_ble_eq_true rfl)
        exact h1 t ht hA
section ROWS9
variable {X : CxT} {nL : Nat} {T : Type} {A : T → Prop} {ck sk pc : Nat} {loc : List (Option Value)} {stk : List Value} {M : MemT} {cc : ByteArray} {own : String} {rm : Room}
theorem s_callSW {o : Option (Int32 × MemT)} {f : Int32 → MemT → Option T} {as st0 : List Value} {idx ck1 sk1 : Nat} (hX : CxOk X cc nL own rm) (hl : (xl X).stackTraces = false) (hd : decode cc pc = .ok (.invokestatic idx, 3)) (hq : Cond.methodLink own idx yL_trader ∈ gT) (hC : CtW rm_L_trader as M o) (hn : as.length = 4) (hst : as.reverse ++ stk = st0) (hR : Room.fit rm_L_trader rm 5) (hf : ck + rm_L_trader.cells ≤ rm.cells ∧ sk + rm_L_trader.slots ≤ rm.slots) (hcat : (stk.map fun v => v.category).sum ≤ 8) (e1 : ck + rm_L_trader.cells = ck1) (e2 : sk + rm_L_trader.slots = sk1) (h : ∀ r M1, Sim X nL A (f r M1) ck1 sk1 (pc + 3) loc (.int r :: stk) M1) : Sim X nL A (bd o f) ck sk pc loc st0 M := by
  intro t ht hA ad H locs ls hy
  subst e1; subst e2; subst hst
  cases ho : o with
  | none => rw [ho] at ht; cases ht
  | some q =>
    obtain ⟨r, M1⟩ := q
    rw [ho] at ht
    obtain ⟨ho1, ho2⟩ := okl_app.mp hy.ok
    obtain ⟨p1, p2⟩ := call_pre hX hy (okl_rev.mp ho1)
    rw [List.map_append, List.map_reverse]
    have hgi : GoodIn gT (va_wsS own idx yL_trader (cwT :: gT)) := fun w hw => by
      simp only [va_wsS, List.mem_append, List.mem_cons, List.not_mem_nil, or_false] at hw
      rcases hw with (rfl | rfl | rfl) | rfl | hw
      · exact ⟨hq, gT_good hq⟩
      · exact ⟨q_1162, gT_good q_1162⟩
      · exact ⟨q_0, gT_good q_0⟩
      · exact ⟨q_cwT, gT_good q_cwT⟩
      · exact ⟨hw, gT_good hw⟩
    exact call_post (inj := iI) hy ho2 (vx_runSW (ws := cwT :: gT) (rm := rm_L_trader) (As := as.map (cv ad (xkad X))) ⟨hX.1, hX.2.1, hX.2.2.1, hX.2.2.2.1, hX.2.2.2.2.1⟩ (hC _ _ _ _ _ _ r M1 hl ho) (vx_cwSW 4 hX.2.2.2.2.1 hgi rfl rfl rfl ⟨by decide +kernel, by decide +kernel, by decide +kernel⟩ (by rw [hX.2.2.2.2.2.2.1]; exact hR)) ⟨p1, p2⟩ rfl (by rw [List.length_map]; exact hn) hy.lr.1 rfl (lv_room (by rw [cv_sum]; exact hcat)) hd (by rw [hX.2.2.2.2.2.2.1]; exact hf)) (h r M1 t ht hA)
end ROWS9
abbrev lawL (x m out : Nat) (s : MemT × Int32) : List (Option Value) := [some (kv (some 70)), some (.ref x), some (.ref m), some (.ref out), some (.int s.2), none, none]
abbrev lawM (s : MemT × Int32) : MemT := s.1
