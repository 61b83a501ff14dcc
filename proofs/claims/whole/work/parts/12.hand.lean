abbrev rm_X8_at : Room := { frames := 4, cells := 0, slots := 0, locals := 120 }
theorem k_X8_at : KYS yX8_at cX8_at 9 (some (.object "ExemptDesk$Word")) 3 := sorry
theorem c_X8_at (n : Nat) (M0 : MemT) (a0 : Nat) (a1 a2 : Int32) : Ct iK yX8_at cX8_at 9 (some (.object "ExemptDesk$Word")) rm_X8_at [.ref a0, .int a1, .int a2] M0 (g_X8_at n M0 a0 a1 a2) := by
  intro l D ac kad ad sz r M1 ho; cases ho
section SWM
variable {X : CxT} {nL : Nat} {T : Type} {A : T → Prop} {ck sk pc : Nat} {loc : List (Option Value)} {stk : List Value} {M : MemT} {cc : ByteArray} {own : String} {rm : Room}
theorem s_swm {e : Option T} {k i1 i2 : Nat} {f : Fin 4} (hX : CxOk X cc nL own rm) (hd1 : decode cc pc = .ok (.getstatic i1, 3)) (hd2 : decode cc (pc + 3) = .ok (.aload_n f, 1)) (hd3 : decode cc (pc + 4) = .ok (.invokevirtual i2, 3)) (hd4 : decode cc (pc + 7) = .ok (.iaload, 1)) (hl : loc[(f : Nat)]? = some (some (kv (some k)))) (hq1 : Cond.fieldLink own i1 RX0 "$SwitchMap$ExemptDesk$Word" "[I" ∈ gT) (hq2 : Cond.methodLink own i2 ⟨"ExemptDesk$Word", "ordinal", "()I"⟩ ∈ gT) (hfr : 1 ≤ rm.frames) (hlo : 40 ≤ rm.locals) (hc : ck ≤ rm.cells) (hs : sk ≤ rm.slots) (h : Sim X nL A e ck sk (pc + 8) loc (.int (wSm k) :: stk) M) : Sim X nL A (if k < 13 then e else none) ck sk pc loc stk M := sorry
end SWM
