/-! ===== BASE 6: the method that throws ===== -/
def EX : Nat → String
  | 1 => "java/lang/IndexOutOfBoundsException"
  | _ => "java/util/NoSuchElementException"
abbrev NMS : List String := ["java/lang/RuntimeException", "java/lang/Exception"]
def QT (D : va_G) (ac : Nat → ClassId) (kad ad : Nat → Nat) (M : MemT) (sz k : Nat) (v : Int32) (M1 : MemT) : Array Value → State → Outcome → State → Prop := fun a st o t => k = 0 ∧ QG iI D ac kad ad M sz v M1 a st o t
def XG (D : va_G) (ac : Nat → ClassId) (ad : Nat → Nat) (M : MemT) (sz k : Nat) (M1 : MemT) : String → State → State → Prop := fun E st t =>
  E = EX k ∧ (k = 1 ∨ k = 2) ∧ (∃ ad1 : Nat → Nat, mN M ≤ mN M1 ∧ (∀ i, i < mN M → ad1 i = ad i) ∧ WH D ac ad1 (freeA ad (mN M) sz) M1 t.heap ∧ va_K D vwCl (tysG ac) t) ∧ va_F (freeA ad (mN M) sz) st t
def CtT (y : MethodName) (cc : ByteArray) (maxL : Nat) (rm : Room) (as : List Value) (M : MemT) (o : Option ((Nat × Int32) × MemT)) : Prop :=
  ∀ (l : Launch) (D : va_G) (ac : Nat → ClassId) (kad ad : Nat → Nat) (sz k : Nat) (v : Int32) (M1 : MemT), l.stackTraces = false → o = some ((k, v), M1) →
    vx_Met l y (Cond.code y cc maxL (some .int) :: gT) rm (PG D ac kad ad M sz as) (QT D ac kad ad M sz k v M1) (XG D ac ad M sz k M1) rm.cells rm.slots (freeA ad (mN M) sz)
def RetT (X : CxT) (rm : Room) (A : (Nat × Int32) × MemT → Prop) : Prop :=
  (xl X).stackTraces = false ∧ (∀ x ∈ (xc X).exceptionTable.toList, False) ∧ ∃ (Qc : Array Value → State → Outcome → State → Prop) (XC : String → State → State → Prop) (free : Addr → Prop), xQ X = vx_MQ (xbelow X) Qc XC (xargs X) (xs X) rm.cells rm.slots free ∧ (xmeth X).sig.returnType = some .int ∧ (xmeth X).locks = false ∧
    ∀ (k : Nat) (v : Int32) (M : MemT) (ad : Nat → Nat) (H : Heap) (locs : List Loc), A ((k, v), M) → WH (xD X) (xac X) ad (A0 X) M H → va_S (A0 X) (xs X).heap H locs → xn0 X ≤ mN M → (∀ i, i < xn0 X → ad i = xad0 X i) →
      (k = 0 → ∀ t : State, t.heap = H → (xs X).WarmedH t.vm → Qc (xargs X) (xs X) (.returned (some (.int v))) t) ∧
      ((k = 1 ∨ k = 2) → ∀ t : State, (xs X).vm.Alike t.vm → H.size ≤ t.heap.size → (∀ q : Nat, q < H.size → t.heap[q]? = H[q]?) → XC (EX k) (xs X) t) ∧ ∀ q ∈ locs, free q.base
theorem WH.kept {D : va_G} {ac : Nat → ClassId} {ad : Nat → Nat} {A : Nat → Prop} {M : MemT} {H H1 : Heap} (h : WH D ac ad A M H) (hk : ∀ q : Nat, q < H.size → H1[q]? = H[q]?) : WH D ac ad A M H1 :=
  ⟨h.1.kept (fun _ _ e => hk _ (vx_lt h.1 e)), h.2⟩
theorem va_S.grow {A : Nat → Prop} {H0 H H1 : Heap} {locs : List Loc} (h : va_S A H0 H locs) (hz : H.size ≤ H1.size) (hk : ∀ q : Nat, q < H.size → H1[q]? = H[q]?) : va_S A H0 H1 locs :=
  ⟨Nat.le_trans h.1 hz, fun q h1 h2 => by rw [hk q (Nat.lt_of_lt_of_le h1 h.1)]; exact h.2.1 q h1 h2, h.2.2⟩
theorem ctT_intro {y : MethodName} {cc : ByteArray} {maxL : Nat} {rm : Room} {as : List Value} {M : MemT} {o : Option ((Nat × Int32) × MemT)} (own : String) (j : Nat) (loc : List (Option Value)) (hown : y.cls = own) (hy : plainName y.cls = true) (hloc : locI as ++ List.replicate j none = loc) (hlen : (lg_sl as).length ≤ maxL)
    (h : ∀ (X : CxT) (A : (Nat × Int32) × MemT → Prop), CxOk X cc maxL own rm → RetT X rm A → Sim X maxL A o 0 0 0 loc [] M) : CtT y cc maxL rm as M o := by
  subst hown
  intro l D ac kad ad sz k v M1 hl0 ho
  refine vx_ofW hy rfl ?_
  intro p e s m args below meth c s1 B hml htab hv
  obtain ⟨rfl, hsz, hok, hW, hK, hC⟩ := hv
  subst hsz
  have hts := atoms_spec (ws := Cond.code y cc maxL (some .int) :: gT) B.pre
  let X : CxT := (p, l, e, (headSpec (Cond.code y cc maxL (some .int) :: gT) rm).room, s, m, (as.map (cv ad kad)).toArray, below, meth, c, vx_MQ below (QT D ac kad ad M s.heap.size k v M1) (XG D ac ad M s.heap.size k M1) (as.map (cv ad kad)).toArray s rm.cells rm.slots (freeA ad (mN M) s.heap.size), D, ac, kad, ad, mN M)
  have hX : CxOk X cc maxL y.cls rm := ⟨B.exec, B.bytes, hml, findClass_of_methodNamed B.named, fun w hw => hts w (List.mem_cons_of_mem _ hw), hK, rfl, hC⟩
  have hR : RetT X rm (fun t => t = ((k, v), M1)) := by
    refine ⟨hl0, htab, _, _, _, rfl, B.returns, B.notSynchronized, ?_⟩
    intro k' v' M' ad1 H locs hA hW1 hS hn had
    cases hA
    refine ⟨fun hk t ht hWm => ⟨hk, ⟨ad1, rfl, hn, had, ⟨trivial, trivial⟩, by rw [ht]; exact hW1, va_K.moved hWm.alike hK⟩, hS.F ht⟩, fun hk t hal hz hkeep => ⟨rfl, hk, ⟨ad1, hn, had, hW1.kept hkeep, va_K.moved hal hK⟩, (hS.grow hz hkeep).F rfl⟩, hS.2.2⟩
  have hs := h X (fun t => t = ((k, v), M1)) hX hR ((k, v), M1) ho rfl
  have hl := lv_entry (as.map (cv ad kad)) (n := maxL) (by
    rw [lg_len]; exact hlen)
  rw [lg_entry_eq]
  refine hs ad s.heap [] _ ⟨⟨hW.1, hW.2.1.weaken (fun k q hk _ => ?_), hW.2.2⟩, va_S.rf, Nat.le_refl _, fun _ _ => rfl, trivial, ?_, hl.1, hl.2.1, fun k v hk => ?_⟩
  · obtain ⟨h1, rfl⟩ := ws_lt hk
    exact Or.inl ⟨k, h1, rfl⟩
  · rw [← hloc]; exact okc_rep (okc_locI hok)
  · rw [← hloc] at hk
    have hlt : k < (locI as).length := by
      rcases Nat.lt_or_ge k (locI as).length with q | q
      · exact q
      · rw [List.getElem?_append_right q] at hk
        simp [List.getElem?_replicate] at hk
    rw [List.getElem?_append_left hlt] at hk
    have h1 := locI_args (ad := ad) (kad := kad) (b := 0) hk
    rw [Nat.zero_add] at h1
    exact hl.2.2 _ h1
theorem at1_ok : ∀ w ∈ Cond.classLink RX9 84 "java/lang/IndexOutOfBoundsException" :: Cond.initialized "java/lang/IndexOutOfBoundsException" :: vx_atS RX9 88 "java/lang/IndexOutOfBoundsException" NMS, vx_ot w = true := by decide +kernel
def RB : ByteArray := ⟨#[0x2a, 0x2b, 0xb7, 0x00, 0x0d, 0xb1]⟩
theorem at2_ok : ∀ w ∈ Cond.classLink RX9 116 "java/util/NoSuchElementException" :: Cond.initialized "java/util/NoSuchElementException" :: vx_atSX RX9 120 "java/util/NoSuchElementException" 13 RB NMS, vx_ot w = true := by decide +kernel
theorem mem_of_all {L B : List Cond} (h : L.all (fun w => decide (w ∈ B)) = true) : ∀ w ∈ L, w ∈ B := fun w hw => of_decide_eq_true (List.all_eq_true.mp h w hw)
theorem at1_g : ∀ w ∈ (vx_atS RX9 88 "java/lang/IndexOutOfBoundsException" NMS).filter goodWord, w ∈ gT := mem_of_all (by decide +kernel)
theorem at2_g : ∀ w ∈ (vx_atSX RX9 120 "java/util/NoSuchElementException" 13 RB NMS).filter goodWord, w ∈ gT := mem_of_all (by decide +kernel)
theorem at1_b : ∀ w ∈ (vx_atS RX9 88 "java/lang/IndexOutOfBoundsException" NMS).filter (fun w => !goodWord w), w ∈ extW := mem_of_all (by decide +kernel)
theorem at2_b : ∀ w ∈ (vx_atSX RX9 120 "java/util/NoSuchElementException" 13 RB NMS).filter (fun w => !goodWord w), w ∈ extW := mem_of_all (by decide +kernel)
section ROWS6
variable {X : CxT} {nL : Nat} {T : Type} {A : T → Prop} {ck sk pc : Nat} {loc : List (Option Value)} {stk : List Value} {M : MemT} {cc : ByteArray} {own : String} {rm : Room}
theorem s_tret {v : Int32} {A : (Nat × Int32) × MemT → Prop} (hX : CxOk X cc nL own rm) (hR : RetT X rm A) (hd : decode cc pc = .ok (.ireturn, 1)) (h1 : ck ≤ rm.cells) (h2 : sk ≤ rm.slots) : Sim X nL A (some ((0, v), M)) ck sk pc loc [.int v] M := by
  intro t ht hA ad H locs ls hy
  cases ht
  obtain ⟨-, -, Qc, XC, free, hQ, hr, hlk, hk⟩ := hR
  obtain ⟨g1, -, g2⟩ := hk 0 v M ad H locs hA hy.1 hy.2.1 hy.2.2.1 hy.2.2.2.1
  refine W.widen (k := rm.cells) (n := rm.slots) h1 h2 ?_
  rw [hQ]
  exact vx_ret (W.zret hX.1 hX.2.1 hr rfl (g1 rfl) g2 hd hlk)
theorem s_thr {k kk ik is ic : Nat} {cls text : String} {A : (Nat × Int32) × MemT → Prop} (hX : CxOk X cc nL own rm) (hR : RetT X rm A) (hk0 : k = 1 ∨ k = 2) (hE : EX k = cls) (hcls : Bundle.fit cls = true) (hq1 : Cond.classLink own ik cls ∈ gT) (hq2 : Cond.initialized cls ∈ gT) (hstr : vk_R own is text (xkad X kk) (xs X))
    (hg : ∀ w ∈ (vx_atS own ic cls NMS).filter goodWord, w ∈ gT) (hb : ∀ w ∈ (vx_atS own ic cls NMS).filter (fun w => !goodWord w), w ∈ extW) (hgood : ∀ w ∈ Cond.classLink own ik cls :: Cond.initialized cls :: vx_atS own ic cls NMS, vx_ot w = true)
    (d0 : decode cc pc = .ok (.new ik, 3)) (d3 : decode cc (pc + 3) = .ok (.dup, 1)) (d4 : decode cc (pc + 4) = .ok (.ldc is, 2)) (d6 : decode cc (pc + 6) = .ok (.invokespecial ic, 3)) (d9 : decode cc (pc + 9) = .ok (.athrow, 1))
    (hfr : 6 ≤ rm.frames) (hlo : 82 ≤ rm.locals) (h1 : ck + 1 ≤ rm.cells) (h2 : sk + 6 ≤ rm.slots) : Sim X nL A (some ((k, 0), M)) ck sk pc loc [] M := by
  intro t ht hA ad H locs ls hy
  cases ht
  obtain ⟨hl0, htab, Qc, XC, free, hQ, hr, hlk, hk⟩ := hR
  obtain ⟨-, g1, g2⟩ := hk k 0 M ad H locs hA hy.1 hy.2.1 hy.2.2.1 hy.2.2.2.1
  obtain ⟨-, -, -, -, -, -, -, -, -, -, -, -, -, -, hext, -, hU, hN⟩ := hX.cf
  have hRm : xR X = rm := hX.2.2.2.2.2.2.1
  rw [hQ]
  refine vx_throwS (names := NMS) (sa := xkad X kk) (A := A0 X) hX.1 hX.2.1 hl0 hX.2.2.2.1 hcls (by decide) (hX.2.2.2.2.1 _ hq1) (hX.2.2.2.2.1 _ hq2) hstr (vx_hat (fun w hw => hX.2.2.2.2.1 _ (hg w hw)) hb (fun w hw => va_tabs (ext_ok w hw) rfl (hext w hw))) hgood hU hN hy.2.1 (hy.lr.1.trans hX.2.2.1.symm) d0 d3 d4 d6 d9 (fun x hx => (htab x hx).elim) ?_ ?_ ?_ ?_ hlk (fun t hal hz hkeep => hE ▸ g1 hk0 t hal hz hkeep) g2 h1 h2
  · rw [hRm]; show 2 + 3 < _; omega
  · rw [hRm]; show 0 + (13 * (2 + 1) + 43) ≤ _; omega
  · rw [hRm]; exact h1
  · rw [hRm]; exact h2
theorem s_thrX {k kk ik is ic ix : Nat} {rx : ByteArray} {cls text : String} {A : (Nat × Int32) × MemT → Prop} (x0 : decode rx 0 = .ok (.aload_n 0, 1)) (x1 : decode rx 1 = .ok (.aload_n 1, 1)) (x2 : decode rx 2 = .ok (.invokespecial ix, 3)) (x5 : decode rx 5 = .ok (.return_, 1)) (hX : CxOk X cc nL own rm) (hR : RetT X rm A) (hk0 : k = 1 ∨ k = 2) (hE : EX k = cls) (hcls : Bundle.fit cls = true) (hq1 : Cond.classLink own ik cls ∈ gT) (hq2 : Cond.initialized cls ∈ gT) (hstr : vk_R own is text (xkad X kk) (xs X))
    (hg : ∀ w ∈ (vx_atSX own ic cls ix rx NMS).filter goodWord, w ∈ gT) (hb : ∀ w ∈ (vx_atSX own ic cls ix rx NMS).filter (fun w => !goodWord w), w ∈ extW) (hgood : ∀ w ∈ Cond.classLink own ik cls :: Cond.initialized cls :: vx_atSX own ic cls ix rx NMS, vx_ot w = true)
    (d0 : decode cc pc = .ok (.new ik, 3)) (d3 : decode cc (pc + 3) = .ok (.dup, 1)) (d4 : decode cc (pc + 4) = .ok (.ldc is, 2)) (d6 : decode cc (pc + 6) = .ok (.invokespecial ic, 3)) (d9 : decode cc (pc + 9) = .ok (.athrow, 1))
    (hfr : 6 ≤ rm.frames) (hlo : 82 ≤ rm.locals) (h1 : ck + 1 ≤ rm.cells) (h2 : sk + 6 ≤ rm.slots) : Sim X nL A (some ((k, 0), M)) ck sk pc loc [] M := by
  intro t ht hA ad H locs ls hy
  cases ht
  obtain ⟨hl0, htab, Qc, XC, free, hQ, hr, hlk, hk⟩ := hR
  obtain ⟨-, g1, g2⟩ := hk k 0 M ad H locs hA hy.1 hy.2.1 hy.2.2.1 hy.2.2.2.1
  obtain ⟨-, -, -, -, -, -, -, -, -, -, -, -, -, -, hext, -, hU, hN⟩ := hX.cf
  have hRm : xR X = rm := hX.2.2.2.2.2.2.1
  rw [hQ]
  refine vx_throwSX (names := NMS) (sa := xkad X kk) (A := A0 X) hX.1 hX.2.1 hl0 x0 x1 x2 x5 hX.2.2.2.1 hcls (by decide) (hX.2.2.2.2.1 _ hq1) (hX.2.2.2.2.1 _ hq2) hstr (vx_hat (fun w hw => hX.2.2.2.2.1 _ (hg w hw)) hb (fun w hw => va_tabs (ext_ok w hw) rfl (hext w hw))) hgood hU hN hy.2.1 (hy.lr.1.trans hX.2.2.1.symm) d0 d3 d4 d6 d9 (fun x hx => (htab x hx).elim) ?_ ?_ ?_ ?_ hlk (fun t hal hz hkeep => hE ▸ g1 hk0 t hal hz hkeep) g2 h1 h2
  · rw [hRm]; show 2 + 3 < _; omega
  · rw [hRm]; show 0 + (13 * (2 + 1) + 43) ≤ _; omega
  · rw [hRm]; exact h1
  · rw [hRm]; exact h2
end ROWS6
section ROWS7
variable {X : CxT} {nL : Nat} {ck sk pc : Nat} {loc : List (Option Value)} {M : MemT} {cc : ByteArray} {rm : Room} {A : (Nat × Int32) × MemT → Prop}
theorem s_thr1 (hX : CxOk X cc nL RX9 rm) (hR : RetT X rm A) (d0 : decode cc pc = .ok (.new 84, 3)) (d3 : decode cc (pc + 3) = .ok (.dup, 1)) (d4 : decode cc (pc + 4) = .ok (.ldc 86, 2)) (d6 : decode cc (pc + 6) = .ok (.invokespecial 88, 3)) (d9 : decode cc (pc + 9) = .ok (.athrow, 1))
    (hfr : 6 ≤ rm.frames) (hlo : 82 ≤ rm.locals) (h1 : ck + 1 ≤ rm.cells) (h2 : sk + 6 ≤ rm.slots) : Sim X nL A (some ((1, 0), M)) ck sk pc loc [] M := by
  obtain ⟨-, -, -, -, -, -, -, -, -, h10, h11, -⟩ := hX.cf
  exact s_thr (kk := 60) hX hR (by decide) rfl (by decide) q_1170 q_22 h10 at1_g at1_b at1_ok d0 d3 d4 d6 d9 hfr hlo h1 h2
theorem s_thr2 (hX : CxOk X cc nL RX9 rm) (hR : RetT X rm A) (d0 : decode cc pc = .ok (.new 116, 3)) (d3 : decode cc (pc + 3) = .ok (.dup, 1)) (d4 : decode cc (pc + 4) = .ok (.ldc 118, 2)) (d6 : decode cc (pc + 6) = .ok (.invokespecial 120, 3)) (d9 : decode cc (pc + 9) = .ok (.athrow, 1))
    (hfr : 6 ≤ rm.frames) (hlo : 82 ≤ rm.locals) (h1 : ck + 1 ≤ rm.cells) (h2 : sk + 6 ≤ rm.slots) : Sim X nL A (some ((2, 0), M)) ck sk pc loc [] M := by
  obtain ⟨-, -, -, -, -, -, -, -, -, h10, h11, -⟩ := hX.cf
  exact s_thrX (ix := 13) (rx := RB) (kk := 61) (by decide +kernel) (by decide +kernel) (by decide +kernel) (by decide +kernel) hX hR (by decide) rfl (by decide) q_1240 q_23 h11 at2_g at2_b at2_ok d0 d3 d4 d6 d9 hfr hlo h1 h2
end ROWS7
def g_X9_trader (n : Nat) (M0 : MemT) (a0 : Nat) (a1 : Int32) (a2 : Int32) : Option ((Nat × Int32) × MemT) :=
  chk M0 7 a0 (bd (g_X9_isTrader n M0 a0 a1) (fun r1 M2 => (if r1 = 0 then some ((1, 0), M2) else (if a2 = 0 then (gO M2 7 a0 4).bind (fun j4 => (gO M2 2 j4 0).bind (fun j5 => (gO M2 6 j5 2).bind (fun j6 => (aI M2 10 j6 a1).bind (fun v7 => some ((0, v7), M2))))) else (if a2 = 1 then (gO M2 7 a0 4).bind (fun j9 => (gO M2 2 j9 0).bind (fun j10 => (gO M2 6 j10 3).bind (fun j11 => (aI M2 10 j11 a1).bind (fun v12 => some ((0, v12), M2))))) else (if a2 = 2 then (gO M2 7 a0 4).bind (fun j14 => (gO M2 2 j14 1).bind (fun j15 => (gO M2 1 j15 3).bind (fun j16 => (aI M2 10 j16 a1).bind (fun v17 => some ((0, v17), M2))))) else (if a2 = 3 then (gO M2 7 a0 4).bind (fun j19 => (gO M2 2 j19 1).bind (fun j20 => (gO M2 1 j20 4).bind (fun j21 => (aI M2 10 j21 a1).bind (fun v22 => some ((0, v22), M2))))) else (if a2 = 4 then (gO M2 7 a0 4).bind (fun j24 => (gO M2 2 j24 0).bind (fun j25 => (gO M2 6 j25 4).bind (fun j26 => (aI M2 10 j26 a1).bind (fun v27 => some ((0, v27), M2))))) else (if a2 = 5 then (gO M2 7 a0 4).bind (fun j29 => (gO M2 2 j29 1).bind (fun j30 => chk M2 1 j30 (bd (g_X2_openAssetsOf n M2 j30 a1) (fun r31 M32 => some ((0, r31), M32))))) else some ((2, 0), M2))))))))))
abbrev rm_X9_trader : Room := { frames := 6, cells := 1, slots := 6, locals := 82 }
theorem k_X9_trader : KYV yX9_trader cX9_trader 3 (some .int) 2 := ⟨⟨q_1169, q_1, by decide +kernel, by decide +kernel, by decide +kernel⟩, q_1167, q_1168⟩
set_option maxHeartbeats 4000000 in
set_option maxRecDepth 100000 in
theorem c_X9_trader (n : Nat) (M0 : MemT) (a0 : Nat) (a1 : Int32) (a2 : Int32) : CtT yX9_trader cX9_trader 3 rm_X9_trader [.ref a0, .int a1, .int a2] M0 (g_X9_trader n M0 a0 a1 a2) := by
  unfold g_X9_trader
  refine ctT_intro RX9 0 [some (.ref a0), some (.int a1), some (.int a2)] rfl (by decide) rfl (Nat.le_of_ble_eq_true rfl) (fun X A hX hR => ?_)
  refine s_aload_n hX dX9_trader_0 rfl ?_
  refine s_iload_n hX dX9_trader_1 rfl ?_
  refine s_callVi (ck1 := 0) (sk1 := 0) (ci := 7) hX dX9_trader_2 k_X9_isTrader q_720 (c_X9_isTrader n M0 a0 a1) (by decide) rfl rfl rfl ⟨Nat.le_of_ble_eq_true rfl, Nat.le_of_ble_eq_true rfl⟩ ⟨(Nat.le_of_ble_eq_true rfl), (Nat.le_of_ble_eq_true rfl)⟩ (Nat.le_of_ble_eq_true rfl) rfl rfl (fun r1 M2 => ?_)
  refine s_ifne (tgt := 18) hX dX9_trader_5 rfl ?_ ?_
  · exact s_thr1 hX hR dX9_trader_8 dX9_trader_11 dX9_trader_12 dX9_trader_14 dX9_trader_17 (Nat.le_of_ble_eq_true rfl) (Nat.le_of_ble_eq_true rfl) (Nat.le_of_ble_eq_true rfl) (Nat.le_of_ble_eq_true rfl)
  · refine s_iload_n hX dX9_trader_18 rfl ?_
    have b3 := sw_0 a2 0
    refine s_swC (tgt := 56) (v := 0) 0 hX dX9_trader_19 b3 (by decide) ⟨by decide, by decide⟩ rfl rfl ?_ (fun b8 => ?_)
    · refine s_aload_n hX dX9_trader_56 rfl ?_
      refine s_getO hX dX9_trader_57 q_424 rfl (fun j4 => ?_)
      refine s_getO hX dX9_trader_60 q_390 rfl (fun j5 => ?_)
      refine s_getO hX dX9_trader_63 q_108 rfl (fun j6 => ?_)
      refine s_iload_n hX dX9_trader_66 rfl ?_
      refine s_iald hX dX9_trader_67 (fun v7 => ?_)
      exact s_tret hX hR dX9_trader_68 (Nat.le_of_ble_eq_true rfl) (Nat.le_of_ble_eq_true rfl)
    refine s_swC (tgt := 69) (v := 1) 1 hX dX9_trader_19 b8 (by decide) ⟨by decide, by decide⟩ rfl rfl ?_ (fun b13 => ?_)
    · refine s_aload_n hX dX9_trader_69 rfl ?_
      refine s_getO hX dX9_trader_70 q_424 rfl (fun j9 => ?_)
      refine s_getO hX dX9_trader_73 q_390 rfl (fun j10 => ?_)
      refine s_getO hX dX9_trader_76 q_110 rfl (fun j11 => ?_)
      refine s_iload_n hX dX9_trader_79 rfl ?_
      refine s_iald hX dX9_trader_80 (fun v12 => ?_)
      exact s_tret hX hR dX9_trader_81 (Nat.le_of_ble_eq_true rfl) (Nat.le_of_ble_eq_true rfl)
    refine s_swC (tgt := 82) (v := 2) 2 hX dX9_trader_19 b13 (by decide) ⟨by decide, by decide⟩ rfl rfl ?_ (fun b18 => ?_)
    · refine s_aload_n hX dX9_trader_82 rfl ?_
      refine s_getO hX dX9_trader_83 q_424 rfl (fun j14 => ?_)
      refine s_getO hX dX9_trader_86 q_392 rfl (fun j15 => ?_)
      refine s_getO hX dX9_trader_89 q_311 rfl (fun j16 => ?_)
      refine s_iload_n hX dX9_trader_92 rfl ?_
      refine s_iald hX dX9_trader_93 (fun v17 => ?_)
      exact s_tret hX hR dX9_trader_94 (Nat.le_of_ble_eq_true rfl) (Nat.le_of_ble_eq_true rfl)
    refine s_swC (tgt := 95) (v := 3) 3 hX dX9_trader_19 b18 (by decide) ⟨by decide, by decide⟩ rfl rfl ?_ (fun b23 => ?_)
    · refine s_aload_n hX dX9_trader_95 rfl ?_
      refine s_getO hX dX9_trader_96 q_424 rfl (fun j19 => ?_)
      refine s_getO hX dX9_trader_99 q_392 rfl (fun j20 => ?_)
      refine s_getO hX dX9_trader_102 q_314 rfl (fun j21 => ?_)
      refine s_iload_n hX dX9_trader_105 rfl ?_
      refine s_iald hX dX9_trader_106 (fun v22 => ?_)
      exact s_tret hX hR dX9_trader_107 (Nat.le_of_ble_eq_true rfl) (Nat.le_of_ble_eq_true rfl)
    refine s_swC (tgt := 108) (v := 4) 4 hX dX9_trader_19 b23 (by decide) ⟨by decide, by decide⟩ rfl rfl ?_ (fun b28 => ?_)
    · refine s_aload_n hX dX9_trader_108 rfl ?_
      refine s_getO hX dX9_trader_109 q_424 rfl (fun j24 => ?_)
      refine s_getO hX dX9_trader_112 q_390 rfl (fun j25 => ?_)
      refine s_getO hX dX9_trader_115 q_113 rfl (fun j26 => ?_)
      refine s_iload_n hX dX9_trader_118 rfl ?_
      refine s_iald hX dX9_trader_119 (fun v27 => ?_)
      exact s_tret hX hR dX9_trader_120 (Nat.le_of_ble_eq_true rfl) (Nat.le_of_ble_eq_true rfl)
    refine s_swC (tgt := 121) (v := 5) 5 hX dX9_trader_19 b28 (by decide) ⟨by decide, by decide⟩ rfl rfl ?_ (fun b33 => ?_)
    · refine s_aload_n hX dX9_trader_121 rfl ?_
      refine s_getO hX dX9_trader_122 q_424 rfl (fun j29 => ?_)
      refine s_getO hX dX9_trader_125 q_392 rfl (fun j30 => ?_)
      refine s_iload_n hX dX9_trader_128 rfl ?_
      refine s_callVi (ck1 := 0) (sk1 := 0) (ci := 1) hX dX9_trader_129 k_X2_openAssetsOf q_1236 (c_X2_openAssetsOf n M2 j30 a1) (by decide) rfl rfl rfl ⟨Nat.le_of_ble_eq_true rfl, Nat.le_of_ble_eq_true rfl⟩ ⟨(Nat.le_of_ble_eq_true rfl), (Nat.le_of_ble_eq_true rfl)⟩ (Nat.le_of_ble_eq_true rfl) rfl rfl (fun r31 M32 => ?_)
      exact s_tret hX hR dX9_trader_132 (Nat.le_of_ble_eq_true rfl) (Nat.le_of_ble_eq_true rfl)
    refine s_swD (tgt := 133) 6 hX dX9_trader_19 b33 rfl rfl ?_
    exact s_thr2 hX hR dX9_trader_133 dX9_trader_136 dX9_trader_137 dX9_trader_139 dX9_trader_142 (Nat.le_of_ble_eq_true rfl) (Nat.le_of_ble_eq_true rfl) (Nat.le_of_ble_eq_true rfl) (Nat.le_of_ble_eq_true rfl)
