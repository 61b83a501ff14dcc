theorem z_1864 : (Jvm.Cond.laysStatic "ExemptDesk$Word" "TRADER" "LExemptDesk$Word;") ∈ lw_tbl := List.mem_of_getElem? (i := 1973) (by decide +kernel)
theorem z_1865 : (Jvm.Cond.laysStatic "ExemptDesk$Word" "HEAD" "LExemptDesk$Word;") ∈ lw_tbl := List.mem_of_getElem? (i := 1974) (by decide +kernel)
theorem z_1866 : (Jvm.Cond.laysStatic "ExemptDesk$Word" "START" "LExemptDesk$Word;") ∈ lw_tbl := List.mem_of_getElem? (i := 1975) (by decide +kernel)
theorem z_1867 : (Jvm.Cond.laysStatic "ExemptDesk$Word" "ROUND" "LExemptDesk$Word;") ∈ lw_tbl := List.mem_of_getElem? (i := 1976) (by decide +kernel)
theorem z_1868 : (Jvm.Cond.laysStatic "ExemptDesk$Word" "STEP" "LExemptDesk$Word;") ∈ lw_tbl := List.mem_of_getElem? (i := 1977) (by decide +kernel)
theorem z_1869 : (Jvm.Cond.laysStatic "ExemptDesk$Word" "LIMIT" "LExemptDesk$Word;") ∈ lw_tbl := List.mem_of_getElem? (i := 1978) (by decide +kernel)
theorem z_1870 : (Jvm.Cond.laysStatic "ExemptDesk$Word" "SEED" "LExemptDesk$Word;") ∈ lw_tbl := List.mem_of_getElem? (i := 1979) (by decide +kernel)
theorem z_1871 : (Jvm.Cond.laysStatic "ExemptDesk$Word" "SALE" "LExemptDesk$Word;") ∈ lw_tbl := List.mem_of_getElem? (i := 1980) (by decide +kernel)
theorem z_1872 : (Jvm.Cond.laysStatic "ExemptDesk$Word" "BUY" "LExemptDesk$Word;") ∈ lw_tbl := List.mem_of_getElem? (i := 1981) (by decide +kernel)
theorem z_1873 : (Jvm.Cond.laysStatic "ExemptDesk$Word" "ASSET" "LExemptDesk$Word;") ∈ lw_tbl := List.mem_of_getElem? (i := 1982) (by decide +kernel)
theorem z_606 : (Jvm.Cond.laysStatic "ExemptDesk$Word" "DOWNWARDS" "LExemptDesk$Word;") ∈ lw_tbl := List.mem_of_getElem? (i := 715) (by decide +kernel)
theorem z_608 : (Jvm.Cond.laysStatic "ExemptDesk$Word" "UPWARDS" "LExemptDesk$Word;") ∈ lw_tbl := List.mem_of_getElem? (i := 717) (by decide +kernel)
theorem z_610 : (Jvm.Cond.laysStatic "ExemptDesk$Word" "NEAREST" "LExemptDesk$Word;") ∈ lw_tbl := List.mem_of_getElem? (i := 719) (by decide +kernel)
theorem z_12 : (Jvm.Cond.initialized "ExemptDesk$Word") ∈ lw_tbl := List.mem_of_getElem? (i := 121) (by decide +kernel)
theorem z_497 : (Jvm.Cond.laysStatic "ExemptDesk$Word" "ALL" "[LExemptDesk$Word;") ∈ lw_tbl := List.mem_of_getElem? (i := 606) (by decide +kernel)
theorem z_551 : (Jvm.Cond.laysStatic "ExemptDesk$1" "$SwitchMap$ExemptDesk$Word" "[I") ∈ lw_tbl := List.mem_of_getElem? (i := 660) (by decide +kernel)
theorem z_17 : (Jvm.Cond.initialized "ExemptDesk$1") ∈ lw_tbl := List.mem_of_getElem? (i := 126) (by decide +kernel)
theorem z_507 : (Jvm.Cond.laysStatic "java/lang/String" "COMPACT_STRINGS" "Z") ∈ lw_tbl := List.mem_of_getElem? (i := 616) (by decide +kernel)
theorem z_13 : (Jvm.Cond.initialized "java/lang/String") ∈ lw_tbl := List.mem_of_getElem? (i := 122) (by decide +kernel)
theorem z_523 : (Jvm.Cond.laysStatic "jdk/internal/util/Preconditions" "SIOOBE_FORMATTER" "Ljava/util/function/BiFunction;") ∈ lw_tbl := List.mem_of_getElem? (i := 632) (by decide +kernel)
theorem z_15 : (Jvm.Cond.initialized "jdk/internal/util/Preconditions") ∈ lw_tbl := List.mem_of_getElem? (i := 124) (by decide +kernel)
theorem z_1197 : (Jvm.Cond.laysStatic "java/lang/Throwable" "UNASSIGNED_STACK" "[Ljava/lang/StackTraceElement;") ∈ lw_tbl := List.mem_of_getElem? (i := 1306) (by decide +kernel)
theorem z_1199 : (Jvm.Cond.laysStatic "java/lang/Throwable" "SUPPRESSED_SENTINEL" "Ljava/util/List;") ∈ lw_tbl := List.mem_of_getElem? (i := 1308) (by decide +kernel)
theorem z_19 : (Jvm.Cond.initialized "java/lang/Throwable") ∈ lw_tbl := List.mem_of_getElem? (i := 128) (by decide +kernel)
theorem z_202 : (Jvm.Cond.arrayOver (Jvm.ClassFile.FieldType.object "ExemptDesk$Asset")) ∈ lw_tbl := List.mem_of_getElem? (i := 311) (by decide +kernel)
theorem z_408 : (Jvm.Cond.arrayOver (Jvm.ClassFile.FieldType.object "ExemptDesk$Books")) ∈ lw_tbl := List.mem_of_getElem? (i := 517) (by decide +kernel)
theorem z_1210 : (Jvm.Cond.stringRef "ExemptDesk" (86 : Nat) "no such trader") ∈ lw_tbl := List.mem_of_getElem? (i := 1319) (by decide +kernel)
theorem z_1249 : (Jvm.Cond.stringRef "ExemptDesk" (118 : Nat) "no such what") ∈ lw_tbl := List.mem_of_getElem? (i := 1358) (by decide +kernel)
theorem z_186 : (Jvm.Cond.arrayClass Jvm.ClassFile.FieldType.int) ∈ lw_tbl := List.mem_of_getElem? (i := 295) (by decide +kernel)
theorem z_93 : (Jvm.Cond.arrayClass Jvm.ClassFile.FieldType.byte) ∈ lw_tbl := List.mem_of_getElem? (i := 202) (by decide +kernel)
theorem z_94 : (Jvm.Cond.arrayClass Jvm.ClassFile.FieldType.boolean) ∈ lw_tbl := List.mem_of_getElem? (i := 203) (by decide +kernel)
theorem z_388 : (Jvm.Cond.arrayClass Jvm.ClassFile.FieldType.long) ∈ lw_tbl := List.mem_of_getElem? (i := 497) (by decide +kernel)
theorem z_35 : (Jvm.Cond.methodLinkNest "ExemptDesk" (15 : Nat) ({ cls := "ExemptDesk$Reader", name := "<init>", desc := "()V" } : Jvm.MethodName) "ExemptDesk") ∈ lw_tbl := List.mem_of_getElem? (i := 144) (by decide +kernel)
theorem z_97 : (Jvm.Cond.methodLinkNest "ExemptDesk" (22 : Nat) ({ cls := "ExemptDesk$Rules", name := "<init>", desc := "()V" } : Jvm.MethodName) "ExemptDesk") ∈ lw_tbl := List.mem_of_getElem? (i := 206) (by decide +kernel)
theorem z_189 : (Jvm.Cond.methodLinkNest "ExemptDesk" (29 : Nat) ({ cls := "ExemptDesk$Clerk", name := "<init>", desc := "()V" } : Jvm.MethodName) "ExemptDesk") ∈ lw_tbl := List.mem_of_getElem? (i := 298) (by decide +kernel)
theorem z_194 : (Jvm.Cond.methodLinkNest "ExemptDesk$Clerk" (11 : Nat) ({ cls := "ExemptDesk$Rules", name := "<init>", desc := "()V" } : Jvm.MethodName) "ExemptDesk") ∈ lw_tbl := List.mem_of_getElem? (i := 303) (by decide +kernel)
theorem z_204 : (Jvm.Cond.methodLinkNest "ExemptDesk$Books" (42 : Nat) ({ cls := "ExemptDesk$Asset", name := "<init>", desc := "()V" } : Jvm.MethodName) "ExemptDesk") ∈ lw_tbl := List.mem_of_getElem? (i := 313) (by decide +kernel)
theorem z_351 : (Jvm.Cond.methodLinkNest "ExemptDesk$Clerk" (27 : Nat) ({ cls := "ExemptDesk$Reckoning", name := "<init>", desc := "()V" } : Jvm.MethodName) "ExemptDesk") ∈ lw_tbl := List.mem_of_getElem? (i := 460) (by decide +kernel)
theorem z_403 : (Jvm.Cond.methodLinkNest "ExemptDesk" (39 : Nat) ({ cls := "ExemptDesk$Past", name := "<init>", desc := "()V" } : Jvm.MethodName) "ExemptDesk") ∈ lw_tbl := List.mem_of_getElem? (i := 512) (by decide +kernel)
theorem z_582 : (Jvm.Cond.methodLinkNest "ExemptDesk$Reader" (225 : Nat) ({ cls := "ExemptDesk", name := "isIn", desc := "(III)Z" } : Jvm.MethodName) "ExemptDesk") ∈ lw_tbl := List.mem_of_getElem? (i := 691) (by decide +kernel)
theorem z_652 : (Jvm.Cond.methodLinkNest "ExemptDesk$Reader" (218 : Nat) ({ cls := "ExemptDesk", name := "isIntervals", desc := "(I)Z" } : Jvm.MethodName) "ExemptDesk") ∈ lw_tbl := List.mem_of_getElem? (i := 761) (by decide +kernel)
theorem z_670 : (Jvm.Cond.methodLinkNest "ExemptDesk$Clerk" (40 : Nat) ({ cls := "ExemptDesk", name := "copyRow", desc := "([I[I)V" } : Jvm.MethodName) "ExemptDesk") ∈ lw_tbl := List.mem_of_getElem? (i := 779) (by decide +kernel)
theorem z_734 : (Jvm.Cond.methodLinkNest "ExemptDesk$Books" (57 : Nat) ({ cls := "ExemptDesk", name := "copyRow", desc := "([I[I)V" } : Jvm.MethodName) "ExemptDesk") ∈ lw_tbl := List.mem_of_getElem? (i := 843) (by decide +kernel)
theorem z_739 : (Jvm.Cond.methodLinkNest "ExemptDesk$Asset" (71 : Nat) ({ cls := "ExemptDesk", name := "copyRow", desc := "([I[I)V" } : Jvm.MethodName) "ExemptDesk") ∈ lw_tbl := List.mem_of_getElem? (i := 848) (by decide +kernel)
theorem z_829 : (Jvm.Cond.methodLinkNest "ExemptDesk$Reckoning" (35 : Nat) ({ cls := "ExemptDesk", name := "cut", desc := "(JJI)J" } : Jvm.MethodName) "ExemptDesk") ∈ lw_tbl := List.mem_of_getElem? (i := 938) (by decide +kernel)
theorem z_894 : (Jvm.Cond.methodLinkNest "ExemptDesk$Clerk" (258 : Nat) ({ cls := "ExemptDesk", name := "cut", desc := "(JJI)J" } : Jvm.MethodName) "ExemptDesk") ∈ lw_tbl := List.mem_of_getElem? (i := 1003) (by decide +kernel)
theorem z_1172 : (Jvm.Cond.castable "java/lang/IndexOutOfBoundsException" "java/lang/IndexOutOfBoundsException") ∈ lw_tbl := List.mem_of_getElem? (i := 1281) (by decide +kernel)
theorem z_1242 : (Jvm.Cond.castable "java/util/NoSuchElementException" "java/util/NoSuchElementException") ∈ lw_tbl := List.mem_of_getElem? (i := 1351) (by decide +kernel)
theorem z_1174 : (Jvm.Cond.declares ({ cls := "java/lang/RuntimeException", name := "<init>", desc := "(Ljava/lang/String;)V" } : Jvm.MethodName)) ∈ lw_tbl := List.mem_of_getElem? (i := 1283) (by decide +kernel)
theorem z_1176 : (Jvm.Cond.declares ({ cls := "java/lang/Exception", name := "<init>", desc := "(Ljava/lang/String;)V" } : Jvm.MethodName)) ∈ lw_tbl := List.mem_of_getElem? (i := 1285) (by decide +kernel)
theorem z_1178 : (Jvm.Cond.declares ({ cls := "java/lang/Throwable", name := "<init>", desc := "(Ljava/lang/String;)V" } : Jvm.MethodName)) ∈ lw_tbl := List.mem_of_getElem? (i := 1287) (by decide +kernel)
theorem z_203 : (Jvm.Cond.instantiable "ExemptDesk$Asset" (19 : Nat)) ∈ lw_tbl := List.mem_of_getElem? (i := 312) (by decide +kernel)
theorem z_196 : (Jvm.Cond.instantiable "ExemptDesk$Books" (12 : Nat)) ∈ lw_tbl := List.mem_of_getElem? (i := 305) (by decide +kernel)
theorem z_188 : (Jvm.Cond.instantiable "ExemptDesk$Clerk" (3 : Nat)) ∈ lw_tbl := List.mem_of_getElem? (i := 297) (by decide +kernel)
theorem z_402 : (Jvm.Cond.instantiable "ExemptDesk$Past" (3 : Nat)) ∈ lw_tbl := List.mem_of_getElem? (i := 511) (by decide +kernel)
theorem z_34 : (Jvm.Cond.instantiable "ExemptDesk$Reader" (17 : Nat)) ∈ lw_tbl := List.mem_of_getElem? (i := 143) (by decide +kernel)
theorem z_350 : (Jvm.Cond.instantiable "ExemptDesk$Reckoning" (7 : Nat)) ∈ lw_tbl := List.mem_of_getElem? (i := 459) (by decide +kernel)
theorem z_96 : (Jvm.Cond.instantiable "ExemptDesk$Rules" (16 : Nat)) ∈ lw_tbl := List.mem_of_getElem? (i := 205) (by decide +kernel)
theorem z_26 : (Jvm.Cond.instantiable "ExemptDesk" (9 : Nat)) ∈ lw_tbl := List.mem_of_getElem? (i := 135) (by decide +kernel)
theorem z_1257 : (Jvm.Cond.instantiable "ExemptDeskModel" (29 : Nat)) ∈ lw_tbl := List.mem_of_getElem? (i := 1366) (by decide +kernel)
theorem arr_prim {args : Array Value} {s : State} {ty : FieldType} (hp : ty = .int ∨ ty = .byte ∨ ty = .boolean ∨ ty = .long) (h : (Cond.arrayClass ty).before args s = true) : ∃ cA : ClassId, ArrOfT s cA ty ∧ va_RA s cA ty := by
  obtain ⟨c, k, comp, h1, h2, h3⟩ := Cond.arrayClass_spec h
  refine ⟨c, fun n z => ⟨fun k h => (by cases h), k, h2, comp, h3⟩, ?_⟩
  rcases hp with rfl | rfl | rfl | rfl <;> exact h1
theorem arr_obj {args : Array Value} {s : State} {C : String} (h : (Cond.arrayOver (.object C)).before args s = true) : ∃ cA : ClassId, ArrOfT s cA (.object C) ∧ va_RA s cA (.object C) := by
  obtain ⟨comp, c, k, h1, h2, h3, h4, h5⟩ := Cond.arrayOver_spec h
  exact ⟨c, fun n z => ⟨fun k h => (by cases h), k, h3, comp, h4⟩, k, comp, h3, h4, h1, h5⟩
theorem kn_at {args : Array Value} {s : State} (hts : ∀ w ∈ lw_tbl, w.before args s = true) : ∀ c, c < 9 → ∃ (cC : ClassId) (iS : Nat → Nat), u_Kn s (RC c) (TC c) (NC c) cC iS
  | 0, _ => u_known (ws := lw_tbl) hts (fun w hw => gT_in (inC 0 (by decide) w hw)) (hts _ z_203)
  | 1, _ => u_known (ws := lw_tbl) hts (fun w hw => gT_in (inC 1 (by decide) w hw)) (hts _ z_196)
  | 2, _ => u_known (ws := lw_tbl) hts (fun w hw => gT_in (inC 2 (by decide) w hw)) (hts _ z_188)
  | 3, _ => u_known (ws := lw_tbl) hts (fun w hw => gT_in (inC 3 (by decide) w hw)) (hts _ z_402)
  | 4, _ => u_known (ws := lw_tbl) hts (fun w hw => gT_in (inC 4 (by decide) w hw)) (hts _ z_34)
  | 5, _ => u_known (ws := lw_tbl) hts (fun w hw => gT_in (inC 5 (by decide) w hw)) (hts _ z_350)
  | 6, _ => u_known (ws := lw_tbl) hts (fun w hw => gT_in (inC 6 (by decide) w hw)) (hts _ z_96)
  | 7, _ => u_known (ws := lw_tbl) hts (fun w hw => gT_in (inC 7 (by decide) w hw)) (hts _ z_26)
  | 8, _ => u_known (ws := lw_tbl) hts (fun w hw => gT_in (inC 8 (by decide) w hw)) (hts _ z_1257)
  | n + 9, h => absurd h (by omega)
theorem va_K_start {args : Array Value} {s : State} (hts : ∀ w ∈ lw_tbl, w.before args s = true) : ∃ (D : va_G) (ac : Nat → ClassId), va_K D vwCl (tysG ac) s := by
  obtain ⟨a10, i1, i2⟩ := arr_prim (Or.inl rfl) (hts _ z_186)
  obtain ⟨a11, j1, j2⟩ := arr_prim (Or.inr (Or.inl rfl)) (hts _ z_93)
  obtain ⟨a12, k1, k2⟩ := arr_prim (Or.inr (Or.inr (Or.inl rfl))) (hts _ z_94)
  obtain ⟨a13, l1, l2⟩ := arr_prim (Or.inr (Or.inr (Or.inr rfl))) (hts _ z_388)
  obtain ⟨a14, m1, m2⟩ := arr_obj (hts _ z_202)
  obtain ⟨a15, n1, n2⟩ := arr_obj (hts _ z_408)
  have hk := kn_at hts
  let dC : Nat → ClassId := fun c => if h : c < 9 then (hk c h).choose else 0
  let dI : Nat → Nat → Nat := fun c => if h : c < 9 then (hk c h).choose_spec.choose else fun _ => 0
  have hD : ∀ c, c < 9 → u_Kn s (RC c) (TC c) (NC c) (dC c) (dI c) := by
    intro c h
    have e1 : dC c = (hk c h).choose := dif_pos h
    have e2 : dI c = (hk c h).choose_spec.choose := dif_pos h
    rw [e1, e2]
    exact (hk c h).choose_spec.choose_spec
  let ac : Nat → ClassId := fun k => if k = 10 then a10 else if k = 11 then a11 else if k = 12 then a12 else if k = 13 then a13 else if k = 14 then a14 else a15
  refine ⟨(dC, dI), ac, ?_, ?_⟩
  · intro c q hq
    have h9 : c < 9 := (List.getElem?_eq_some_iff.mp hq).1
    rw [cl_at c h9] at hq
    cases hq
    exact hD c h9
  · intro k q hq
    have h6 : k < 6 := (List.getElem?_eq_some_iff.mp hq).1
    match k, h6, hq with
    | 0, _, hq => cases hq; exact ⟨i1, i2⟩
    | 1, _, hq => cases hq; exact ⟨j1, j2⟩
    | 2, _, hq => cases hq; exact ⟨k1, k2⟩
    | 3, _, hq => cases hq; exact ⟨l1, l2⟩
    | 4, _, hq => cases hq; exact ⟨m1, m2⟩
    | 5, _, hq => cases hq; exact ⟨n1, n2⟩
    | n + 6, h6, _ => omega
def wIx : List Nat := [80, 86, 89, 92, 95, 98, 101, 104, 107, 110, 113, 116, 119]
theorem lays_at {args : Array Value} {s : State} (hts : ∀ w ∈ lw_tbl, w.before args s = true) : ∀ i, i < 13 → (Cond.laysStatic RX8 (wNm.getD i "") "LExemptDesk$Word;").before args s = true
  | 0, _ => hts _ z_1864
  | 1, _ => hts _ z_1865
  | 2, _ => hts _ z_1866
  | 3, _ => hts _ z_1867
  | 4, _ => hts _ z_1868
  | 5, _ => hts _ z_1869
  | 6, _ => hts _ z_1870
  | 7, _ => hts _ z_1871
  | 8, _ => hts _ z_1872
  | 9, _ => hts _ z_1873
  | 10, _ => hts _ z_606
  | 11, _ => hts _ z_608
  | 12, _ => hts _ z_610
  | n + 13, h => absurd h (by omega)
theorem nest_tbl : ∀ w ∈ nestW, w ∈ lw_tbl := List.forall_mem_cons.mpr ⟨z_35, List.forall_mem_cons.mpr ⟨z_97, List.forall_mem_cons.mpr ⟨z_189, List.forall_mem_cons.mpr ⟨z_194, List.forall_mem_cons.mpr ⟨z_204, List.forall_mem_cons.mpr ⟨z_351, List.forall_mem_cons.mpr ⟨z_403, List.forall_mem_cons.mpr ⟨z_582, List.forall_mem_cons.mpr ⟨z_652, List.forall_mem_cons.mpr ⟨z_670, List.forall_mem_cons.mpr ⟨z_734, List.forall_mem_cons.mpr ⟨z_739, List.forall_mem_cons.mpr ⟨z_829, List.forall_mem_cons.mpr ⟨z_894, fun _ h => absurd h List.not_mem_nil⟩⟩⟩⟩⟩⟩⟩⟩⟩⟩⟩⟩⟩⟩
theorem ext_tbl : ∀ w ∈ extW, w ∈ lw_tbl := List.forall_mem_cons.mpr ⟨z_1172, List.forall_mem_cons.mpr ⟨z_1242, List.forall_mem_cons.mpr ⟨z_1174, List.forall_mem_cons.mpr ⟨z_1176, List.forall_mem_cons.mpr ⟨z_1178, fun _ h => absurd h List.not_mem_nil⟩⟩⟩⟩⟩
def pw1 : List Nat := [57, 63, 70, 78, 87, 97, 108, 120, 133, 147, 43, 46, 50]
def pw2 : List Nat := [58, 64, 71, 79, 88, 98, 109, 121, 134, 148, 44, 47, 51]
def pv1 : List Nat := [276, 291, 305, 321, 338, 355, 374, 393, 413, 433, 245, 255, 264]
def pv2 : List Nat := [277, 292, 306, 322, 339, 356, 375, 394, 414, 434, 246, 256, 265]
def pv3 : List Nat := [278, 293, 307, 323, 340, 357, 376, 395, 415, 435, 247, 257, 266]
def pv4 : List Nat := [279, 294, 308, 324, 341, 358, 377, 396, 416, 436, 248, 258, 267]
def pu1 : List Nat := [59, 65, 72, 80, 89, 99, 110, 122, 135, 149, 45, 48, 52]
def pa1 : List Nat := [9, 10, 11, 12, 13, 14, 15, 16, 17, 18, 19, 20, 21]
def pm1 : List Nat := [30, 31, 32, 33, 34, 35, 36, 37, 38, 39, 40, 41, 42]
def pv5 : List (List Nat) := [[280, 281, 282, 283, 284, 285], [295, 296, 297, 298], [309, 310, 311, 312, 313], [325, 326, 327, 328, 329], [342, 343, 344, 345], [359, 360, 361, 362, 363], [378, 379, 380, 381], [397, 398, 399, 400], [417, 418, 419], [437, 438, 439, 440, 441], [249, 250, 251, 252], [259, 260], [268, 269, 270, 271]]
abbrev tW (i : Nat) : Term := .static RX8 (wNm.getD i "") "LExemptDesk$Word;"
abbrev tX (i : Nat) : Term := .string RX8 (wIx.getD i 0)
abbrev tALL : Term := .static RX8 "ALL" "[LExemptDesk$Word;"
abbrev tSM : Term := .static RX0 "$SwitchMap$ExemptDesk$Word" "[I"
abbrev tV (i : Nat) : Term := .field (tX i) "java/lang/String" "value" "[B"
theorem npW_0 : ∀ j, j < 13 → 0 ≠ j → (Cond.not (.eq (tW 0) (tW j))) ∈ flatC (Jvm.Cond.and given_1 narrow_1) ∨ (Cond.not (.eq (tW j) (tW 0))) ∈ flatC (Jvm.Cond.and given_1 narrow_1)
  | 0, _, h => absurd rfl h
  | 1, _, _ => Or.inl (List.mem_of_getElem? (i := 69) (by decide +kernel))
  | 2, _, _ => Or.inl (List.mem_of_getElem? (i := 76) (by decide +kernel))
  | 3, _, _ => Or.inl (List.mem_of_getElem? (i := 84) (by decide +kernel))
  | 4, _, _ => Or.inl (List.mem_of_getElem? (i := 93) (by decide +kernel))
  | 5, _, _ => Or.inl (List.mem_of_getElem? (i := 103) (by decide +kernel))
  | 6, _, _ => Or.inl (List.mem_of_getElem? (i := 114) (by decide +kernel))
  | 7, _, _ => Or.inl (List.mem_of_getElem? (i := 126) (by decide +kernel))
  | 8, _, _ => Or.inl (List.mem_of_getElem? (i := 139) (by decide +kernel))
  | 9, _, _ => Or.inl (List.mem_of_getElem? (i := 153) (by decide +kernel))
  | 10, _, _ => Or.inr (List.mem_of_getElem? (i := 60) (by decide +kernel))
  | 11, _, _ => Or.inr (List.mem_of_getElem? (i := 61) (by decide +kernel))
  | 12, _, _ => Or.inr (List.mem_of_getElem? (i := 62) (by decide +kernel))
  | n + 13, h, _ => absurd h (by omega)
theorem npW_1 : ∀ j, j < 13 → 1 ≠ j → (Cond.not (.eq (tW 1) (tW j))) ∈ flatC (Jvm.Cond.and given_1 narrow_1) ∨ (Cond.not (.eq (tW j) (tW 1))) ∈ flatC (Jvm.Cond.and given_1 narrow_1)
  | 0, _, _ => Or.inr (List.mem_of_getElem? (i := 69) (by decide +kernel))
  | 1, _, h => absurd rfl h
  | 2, _, _ => Or.inl (List.mem_of_getElem? (i := 77) (by decide +kernel))
  | 3, _, _ => Or.inl (List.mem_of_getElem? (i := 85) (by decide +kernel))
  | 4, _, _ => Or.inl (List.mem_of_getElem? (i := 94) (by decide +kernel))
  | 5, _, _ => Or.inl (List.mem_of_getElem? (i := 104) (by decide +kernel))
  | 6, _, _ => Or.inl (List.mem_of_getElem? (i := 115) (by decide +kernel))
  | 7, _, _ => Or.inl (List.mem_of_getElem? (i := 127) (by decide +kernel))
  | 8, _, _ => Or.inl (List.mem_of_getElem? (i := 140) (by decide +kernel))
  | 9, _, _ => Or.inl (List.mem_of_getElem? (i := 154) (by decide +kernel))
  | 10, _, _ => Or.inr (List.mem_of_getElem? (i := 66) (by decide +kernel))
  | 11, _, _ => Or.inr (List.mem_of_getElem? (i := 67) (by decide +kernel))
  | 12, _, _ => Or.inr (List.mem_of_getElem? (i := 68) (by decide +kernel))
  | n + 13, h, _ => absurd h (by omega)
theorem npW_2 : ∀ j, j < 13 → 2 ≠ j → (Cond.not (.eq (tW 2) (tW j))) ∈ flatC (Jvm.Cond.and given_1 narrow_1) ∨ (Cond.not (.eq (tW j) (tW 2))) ∈ flatC (Jvm.Cond.and given_1 narrow_1)
  | 0, _, _ => Or.inr (List.mem_of_getElem? (i := 76) (by decide +kernel))
  | 1, _, _ => Or.inr (List.mem_of_getElem? (i := 77) (by decide +kernel))
  | 2, _, h => absurd rfl h
  | 3, _, _ => Or.inl (List.mem_of_getElem? (i := 86) (by decide +kernel))
  | 4, _, _ => Or.inl (List.mem_of_getElem? (i := 95) (by decide +kernel))
  | 5, _, _ => Or.inl (List.mem_of_getElem? (i := 105) (by decide +kernel))
  | 6, _, _ => Or.inl (List.mem_of_getElem? (i := 116) (by decide +kernel))
  | 7, _, _ => Or.inl (List.mem_of_getElem? (i := 128) (by decide +kernel))
  | 8, _, _ => Or.inl (List.mem_of_getElem? (i := 141) (by decide +kernel))
  | 9, _, _ => Or.inl (List.mem_of_getElem? (i := 155) (by decide +kernel))
  | 10, _, _ => Or.inr (List.mem_of_getElem? (i := 73) (by decide +kernel))
  | 11, _, _ => Or.inr (List.mem_of_getElem? (i := 74) (by decide +kernel))
  | 12, _, _ => Or.inr (List.mem_of_getElem? (i := 75) (by decide +kernel))
  | n + 13, h, _ => absurd h (by omega)
theorem npW_3 : ∀ j, j < 13 → 3 ≠ j → (Cond.not (.eq (tW 3) (tW j))) ∈ flatC (Jvm.Cond.and given_1 narrow_1) ∨ (Cond.not (.eq (tW j) (tW 3))) ∈ flatC (Jvm.Cond.and given_1 narrow_1)
  | 0, _, _ => Or.inr (List.mem_of_getElem? (i := 84) (by decide +kernel))
  | 1, _, _ => Or.inr (List.mem_of_getElem? (i := 85) (by decide +kernel))
  | 2, _, _ => Or.inr (List.mem_of_getElem? (i := 86) (by decide +kernel))
  | 3, _, h => absurd rfl h
  | 4, _, _ => Or.inl (List.mem_of_getElem? (i := 96) (by decide +kernel))
  | 5, _, _ => Or.inl (List.mem_of_getElem? (i := 106) (by decide +kernel))
  | 6, _, _ => Or.inl (List.mem_of_getElem? (i := 117) (by decide +kernel))
  | 7, _, _ => Or.inl (List.mem_of_getElem? (i := 129) (by decide +kernel))
  | 8, _, _ => Or.inl (List.mem_of_getElem? (i := 142) (by decide +kernel))
  | 9, _, _ => Or.inl (List.mem_of_getElem? (i := 156) (by decide +kernel))
  | 10, _, _ => Or.inr (List.mem_of_getElem? (i := 81) (by decide +kernel))
  | 11, _, _ => Or.inr (List.mem_of_getElem? (i := 82) (by decide +kernel))
  | 12, _, _ => Or.inr (List.mem_of_getElem? (i := 83) (by decide +kernel))
  | n + 13, h, _ => absurd h (by omega)
theorem npW_4 : ∀ j, j < 13 → 4 ≠ j → (Cond.not (.eq (tW 4) (tW j))) ∈ flatC (Jvm.Cond.and given_1 narrow_1) ∨ (Cond.not (.eq (tW j) (tW 4))) ∈ flatC (Jvm.Cond.and given_1 narrow_1)
  | 0, _, _ => Or.inr (List.mem_of_getElem? (i := 93) (by decide +kernel))
  | 1, _, _ => Or.inr (List.mem_of_getElem? (i := 94) (by decide +kernel))
  | 2, _, _ => Or.inr (List.mem_of_getElem? (i := 95) (by decide +kernel))
  | 3, _, _ => Or.inr (List.mem_of_getElem? (i := 96) (by decide +kernel))
  | 4, _, h => absurd rfl h
  | 5, _, _ => Or.inl (List.mem_of_getElem? (i := 107) (by decide +kernel))
  | 6, _, _ => Or.inl (List.mem_of_getElem? (i := 118) (by decide +kernel))
  | 7, _, _ => Or.inl (List.mem_of_getElem? (i := 130) (by decide +kernel))
  | 8, _, _ => Or.inl (List.mem_of_getElem? (i := 143) (by decide +kernel))
  | 9, _, _ => Or.inl (List.mem_of_getElem? (i := 157) (by decide +kernel))
  | 10, _, _ => Or.inr (List.mem_of_getElem? (i := 90) (by decide +kernel))
  | 11, _, _ => Or.inr (List.mem_of_getElem? (i := 91) (by decide +kernel))
  | 12, _, _ => Or.inr (List.mem_of_getElem? (i := 92) (by decide +kernel))
  | n + 13, h, _ => absurd h (by omega)
theorem npW_5 : ∀ j, j < 13 → 5 ≠ j → (Cond.not (.eq (tW 5) (tW j))) ∈ flatC (Jvm.Cond.and given_1 narrow_1) ∨ (Cond.not (.eq (tW j) (tW 5))) ∈ flatC (Jvm.Cond.and given_1 narrow_1)
  | 0, _, _ => Or.inr (List.mem_of_getElem? (i := 103) (by decide +kernel))
  | 1, _, _ => Or.inr (List.mem_of_getElem? (i := 104) (by decide +kernel))
  | 2, _, _ => Or.inr (List.mem_of_getElem? (i := 105) (by decide +kernel))
  | 3, _, _ => Or.inr (List.mem_of_getElem? (i := 106) (by decide +kernel))
  | 4, _, _ => Or.inr (List.mem_of_getElem? (i := 107) (by decide +kernel))
  | 5, _, h => absurd rfl h
  | 6, _, _ => Or.inl (List.mem_of_getElem? (i := 119) (by decide +kernel))
  | 7, _, _ => Or.inl (List.mem_of_getElem? (i := 131) (by decide +kernel))
  | 8, _, _ => Or.inl (List.mem_of_getElem? (i := 144) (by decide +kernel))
  | 9, _, _ => Or.inl (List.mem_of_getElem? (i := 158) (by decide +kernel))
  | 10, _, _ => Or.inr (List.mem_of_getElem? (i := 100) (by decide +kernel))
  | 11, _, _ => Or.inr (List.mem_of_getElem? (i := 101) (by decide +kernel))
  | 12, _, _ => Or.inr (List.mem_of_getElem? (i := 102) (by decide +kernel))
  | n + 13, h, _ => absurd h (by omega)
theorem npW_6 : ∀ j, j < 13 → 6 ≠ j → (Cond.not (.eq (tW 6) (tW j))) ∈ flatC (Jvm.Cond.and given_1 narrow_1) ∨ (Cond.not (.eq (tW j) (tW 6))) ∈ flatC (Jvm.Cond.and given_1 narrow_1)
  | 0, _, _ => Or.inr (List.mem_of_getElem? (i := 114) (by decide +kernel))
  | 1, _, _ => Or.inr (List.mem_of_getElem? (i := 115) (by decide +kernel))
  | 2, _, _ => Or.inr (List.mem_of_getElem? (i := 116) (by decide +kernel))
  | 3, _, _ => Or.inr (List.mem_of_getElem? (i := 117) (by decide +kernel))
  | 4, _, _ => Or.inr (List.mem_of_getElem? (i := 118) (by decide +kernel))
  | 5, _, _ => Or.inr (List.mem_of_getElem? (i := 119) (by decide +kernel))
  | 6, _, h => absurd rfl h
  | 7, _, _ => Or.inl (List.mem_of_getElem? (i := 132) (by decide +kernel))
  | 8, _, _ => Or.inl (List.mem_of_getElem? (i := 145) (by decide +kernel))
  | 9, _, _ => Or.inl (List.mem_of_getElem? (i := 159) (by decide +kernel))
  | 10, _, _ => Or.inr (List.mem_of_getElem? (i := 111) (by decide +kernel))
  | 11, _, _ => Or.inr (List.mem_of_getElem? (i := 112) (by decide +kernel))
  | 12, _, _ => Or.inr (List.mem_of_getElem? (i := 113) (by decide +kernel))
  | n + 13, h, _ => absurd h (by omega)
theorem npW_7 : ∀ j, j < 13 → 7 ≠ j → (Cond.not (.eq (tW 7) (tW j))) ∈ flatC (Jvm.Cond.and given_1 narrow_1) ∨ (Cond.not (.eq (tW j) (tW 7))) ∈ flatC (Jvm.Cond.and given_1 narrow_1)
  | 0, _, _ => Or.inr (List.mem_of_getElem? (i := 126) (by decide +kernel))
  | 1, _, _ => Or.inr (List.mem_of_getElem? (i := 127) (by decide +kernel))
  | 2, _, _ => Or.inr (List.mem_of_getElem? (i := 128) (by decide +kernel))
  | 3, _, _ => Or.inr (List.mem_of_getElem? (i := 129) (by decide +kernel))
  | 4, _, _ => Or.inr (List.mem_of_getElem? (i := 130) (by decide +kernel))
  | 5, _, _ => Or.inr (List.mem_of_getElem? (i := 131) (by decide +kernel))
  | 6, _, _ => Or.inr (List.mem_of_getElem? (i := 132) (by decide +kernel))
  | 7, _, h => absurd rfl h
  | 8, _, _ => Or.inl (List.mem_of_getElem? (i := 146) (by decide +kernel))
  | 9, _, _ => Or.inl (List.mem_of_getElem? (i := 160) (by decide +kernel))
  | 10, _, _ => Or.inr (List.mem_of_getElem? (i := 123) (by decide +kernel))
  | 11, _, _ => Or.inr (List.mem_of_getElem? (i := 124) (by decide +kernel))
  | 12, _, _ => Or.inr (List.mem_of_getElem? (i := 125) (by decide +kernel))
  | n + 13, h, _ => absurd h (by omega)
theorem npW_8 : ∀ j, j < 13 → 8 ≠ j → (Cond.not (.eq (tW 8) (tW j))) ∈ flatC (Jvm.Cond.and given_1 narrow_1) ∨ (Cond.not (.eq (tW j) (tW 8))) ∈ flatC (Jvm.Cond.and given_1 narrow_1)
  | 0, _, _ => Or.inr (List.mem_of_getElem? (i := 139) (by decide +kernel))
  | 1, _, _ => Or.inr (List.mem_of_getElem? (i := 140) (by decide +kernel))
  | 2, _, _ => Or.inr (List.mem_of_getElem? (i := 141) (by decide +kernel))
  | 3, _, _ => Or.inr (List.mem_of_getElem? (i := 142) (by decide +kernel))
  | 4, _, _ => Or.inr (List.mem_of_getElem? (i := 143) (by decide +kernel))
  | 5, _, _ => Or.inr (List.mem_of_getElem? (i := 144) (by decide +kernel))
  | 6, _, _ => Or.inr (List.mem_of_getElem? (i := 145) (by decide +kernel))
  | 7, _, _ => Or.inr (List.mem_of_getElem? (i := 146) (by decide +kernel))
  | 8, _, h => absurd rfl h
  | 9, _, _ => Or.inl (List.mem_of_getElem? (i := 161) (by decide +kernel))
  | 10, _, _ => Or.inr (List.mem_of_getElem? (i := 136) (by decide +kernel))
  | 11, _, _ => Or.inr (List.mem_of_getElem? (i := 137) (by decide +kernel))
  | 12, _, _ => Or.inr (List.mem_of_getElem? (i := 138) (by decide +kernel))
  | n + 13, h, _ => absurd h (by omega)
theorem npW_9 : ∀ j, j < 13 → 9 ≠ j → (Cond.not (.eq (tW 9) (tW j))) ∈ flatC (Jvm.Cond.and given_1 narrow_1) ∨ (Cond.not (.eq (tW j) (tW 9))) ∈ flatC (Jvm.Cond.and given_1 narrow_1)
  | 0, _, _ => Or.inr (List.mem_of_getElem? (i := 153) (by decide +kernel))
  | 1, _, _ => Or.inr (List.mem_of_getElem? (i := 154) (by decide +kernel))
  | 2, _, _ => Or.inr (List.mem_of_getElem? (i := 155) (by decide +kernel))
  | 3, _, _ => Or.inr (List.mem_of_getElem? (i := 156) (by decide +kernel))
  | 4, _, _ => Or.inr (List.mem_of_getElem? (i := 157) (by decide +kernel))
  | 5, _, _ => Or.inr (List.mem_of_getElem? (i := 158) (by decide +kernel))
  | 6, _, _ => Or.inr (List.mem_of_getElem? (i := 159) (by decide +kernel))
  | 7, _, _ => Or.inr (List.mem_of_getElem? (i := 160) (by decide +kernel))
  | 8, _, _ => Or.inr (List.mem_of_getElem? (i := 161) (by decide +kernel))
  | 9, _, h => absurd rfl h
  | 10, _, _ => Or.inr (List.mem_of_getElem? (i := 150) (by decide +kernel))
  | 11, _, _ => Or.inr (List.mem_of_getElem? (i := 151) (by decide +kernel))
  | 12, _, _ => Or.inr (List.mem_of_getElem? (i := 152) (by decide +kernel))
  | n + 13, h, _ => absurd h (by omega)
theorem npW_10 : ∀ j, j < 13 → 10 ≠ j → (Cond.not (.eq (tW 10) (tW j))) ∈ flatC (Jvm.Cond.and given_1 narrow_1) ∨ (Cond.not (.eq (tW j) (tW 10))) ∈ flatC (Jvm.Cond.and given_1 narrow_1)
  | 0, _, _ => Or.inl (List.mem_of_getElem? (i := 60) (by decide +kernel))
  | 1, _, _ => Or.inl (List.mem_of_getElem? (i := 66) (by decide +kernel))
  | 2, _, _ => Or.inl (List.mem_of_getElem? (i := 73) (by decide +kernel))
  | 3, _, _ => Or.inl (List.mem_of_getElem? (i := 81) (by decide +kernel))
  | 4, _, _ => Or.inl (List.mem_of_getElem? (i := 90) (by decide +kernel))
  | 5, _, _ => Or.inl (List.mem_of_getElem? (i := 100) (by decide +kernel))
  | 6, _, _ => Or.inl (List.mem_of_getElem? (i := 111) (by decide +kernel))
  | 7, _, _ => Or.inl (List.mem_of_getElem? (i := 123) (by decide +kernel))
  | 8, _, _ => Or.inl (List.mem_of_getElem? (i := 136) (by decide +kernel))
  | 9, _, _ => Or.inl (List.mem_of_getElem? (i := 150) (by decide +kernel))
  | 10, _, h => absurd rfl h
  | 11, _, _ => Or.inl (List.mem_of_getElem? (i := 49) (by decide +kernel))
  | 12, _, _ => Or.inl (List.mem_of_getElem? (i := 53) (by decide +kernel))
  | n + 13, h, _ => absurd h (by omega)
theorem npW_11 : ∀ j, j < 13 → 11 ≠ j → (Cond.not (.eq (tW 11) (tW j))) ∈ flatC (Jvm.Cond.and given_1 narrow_1) ∨ (Cond.not (.eq (tW j) (tW 11))) ∈ flatC (Jvm.Cond.and given_1 narrow_1)
  | 0, _, _ => Or.inl (List.mem_of_getElem? (i := 61) (by decide +kernel))
  | 1, _, _ => Or.inl (List.mem_of_getElem? (i := 67) (by decide +kernel))
  | 2, _, _ => Or.inl (List.mem_of_getElem? (i := 74) (by decide +kernel))
  | 3, _, _ => Or.inl (List.mem_of_getElem? (i := 82) (by decide +kernel))
  | 4, _, _ => Or.inl (List.mem_of_getElem? (i := 91) (by decide +kernel))
  | 5, _, _ => Or.inl (List.mem_of_getElem? (i := 101) (by decide +kernel))
  | 6, _, _ => Or.inl (List.mem_of_getElem? (i := 112) (by decide +kernel))
  | 7, _, _ => Or.inl (List.mem_of_getElem? (i := 124) (by decide +kernel))
  | 8, _, _ => Or.inl (List.mem_of_getElem? (i := 137) (by decide +kernel))
  | 9, _, _ => Or.inl (List.mem_of_getElem? (i := 151) (by decide +kernel))
  | 10, _, _ => Or.inr (List.mem_of_getElem? (i := 49) (by decide +kernel))
  | 11, _, h => absurd rfl h
  | 12, _, _ => Or.inl (List.mem_of_getElem? (i := 54) (by decide +kernel))
  | n + 13, h, _ => absurd h (by omega)
theorem npW_12 : ∀ j, j < 13 → 12 ≠ j → (Cond.not (.eq (tW 12) (tW j))) ∈ flatC (Jvm.Cond.and given_1 narrow_1) ∨ (Cond.not (.eq (tW j) (tW 12))) ∈ flatC (Jvm.Cond.and given_1 narrow_1)
  | 0, _, _ => Or.inl (List.mem_of_getElem? (i := 62) (by decide +kernel))
  | 1, _, _ => Or.inl (List.mem_of_getElem? (i := 68) (by decide +kernel))
  | 2, _, _ => Or.inl (List.mem_of_getElem? (i := 75) (by decide +kernel))
  | 3, _, _ => Or.inl (List.mem_of_getElem? (i := 83) (by decide +kernel))
  | 4, _, _ => Or.inl (List.mem_of_getElem? (i := 92) (by decide +kernel))
  | 5, _, _ => Or.inl (List.mem_of_getElem? (i := 102) (by decide +kernel))
  | 6, _, _ => Or.inl (List.mem_of_getElem? (i := 113) (by decide +kernel))
  | 7, _, _ => Or.inl (List.mem_of_getElem? (i := 125) (by decide +kernel))
  | 8, _, _ => Or.inl (List.mem_of_getElem? (i := 138) (by decide +kernel))
  | 9, _, _ => Or.inl (List.mem_of_getElem? (i := 152) (by decide +kernel))
  | 10, _, _ => Or.inr (List.mem_of_getElem? (i := 53) (by decide +kernel))
  | 11, _, _ => Or.inr (List.mem_of_getElem? (i := 54) (by decide +kernel))
  | 12, _, h => absurd rfl h
  | n + 13, h, _ => absurd h (by omega)
theorem npW : ∀ i, i < 13 → ∀ j, j < 13 → i ≠ j → (Cond.not (.eq (tW i) (tW j))) ∈ flatC (Jvm.Cond.and given_1 narrow_1) ∨ (Cond.not (.eq (tW j) (tW i))) ∈ flatC (Jvm.Cond.and given_1 narrow_1)
  | 0, _ => npW_0
  | 1, _ => npW_1
  | 2, _ => npW_2
  | 3, _ => npW_3
  | 4, _ => npW_4
  | 5, _ => npW_5
  | 6, _ => npW_6
  | 7, _ => npW_7
  | 8, _ => npW_8
  | 9, _ => npW_9
  | 10, _ => npW_10
  | 11, _ => npW_11
  | 12, _ => npW_12
  | n + 13, h => absurd h (by omega)
theorem npX_0 : ∀ j, j < 13 → 0 ≠ j → (Cond.not (.eq (tX 0) (tX j))) ∈ flatC (Jvm.Cond.and given_1 narrow_1) ∨ (Cond.not (.eq (tX j) (tX 0))) ∈ flatC (Jvm.Cond.and given_1 narrow_1)
  | 0, _, h => absurd rfl h
  | 1, _, _ => Or.inl (List.mem_of_getElem? (i := 304) (by decide +kernel))
  | 2, _, _ => Or.inl (List.mem_of_getElem? (i := 319) (by decide +kernel))
  | 3, _, _ => Or.inl (List.mem_of_getElem? (i := 335) (by decide +kernel))
  | 4, _, _ => Or.inl (List.mem_of_getElem? (i := 351) (by decide +kernel))
  | 5, _, _ => Or.inl (List.mem_of_getElem? (i := 369) (by decide +kernel))
  | 6, _, _ => Or.inl (List.mem_of_getElem? (i := 387) (by decide +kernel))
  | 7, _, _ => Or.inl (List.mem_of_getElem? (i := 406) (by decide +kernel))
  | 8, _, _ => Or.inl (List.mem_of_getElem? (i := 425) (by decide +kernel))
  | 9, _, _ => Or.inl (List.mem_of_getElem? (i := 447) (by decide +kernel))
  | 10, _, _ => Or.inr (List.mem_of_getElem? (i := 288) (by decide +kernel))
  | 11, _, _ => Or.inr (List.mem_of_getElem? (i := 289) (by decide +kernel))
  | 12, _, _ => Or.inr (List.mem_of_getElem? (i := 290) (by decide +kernel))
  | n + 13, h, _ => absurd h (by omega)
theorem npX_1 : ∀ j, j < 13 → 1 ≠ j → (Cond.not (.eq (tX 1) (tX j))) ∈ flatC (Jvm.Cond.and given_1 narrow_1) ∨ (Cond.not (.eq (tX j) (tX 1))) ∈ flatC (Jvm.Cond.and given_1 narrow_1)
  | 0, _, _ => Or.inr (List.mem_of_getElem? (i := 304) (by decide +kernel))
  | 1, _, h => absurd rfl h
  | 2, _, _ => Or.inl (List.mem_of_getElem? (i := 320) (by decide +kernel))
  | 3, _, _ => Or.inl (List.mem_of_getElem? (i := 336) (by decide +kernel))
  | 4, _, _ => Or.inl (List.mem_of_getElem? (i := 352) (by decide +kernel))
  | 5, _, _ => Or.inl (List.mem_of_getElem? (i := 370) (by decide +kernel))
  | 6, _, _ => Or.inl (List.mem_of_getElem? (i := 388) (by decide +kernel))
  | 7, _, _ => Or.inl (List.mem_of_getElem? (i := 407) (by decide +kernel))
  | 8, _, _ => Or.inl (List.mem_of_getElem? (i := 426) (by decide +kernel))
  | 9, _, _ => Or.inl (List.mem_of_getElem? (i := 448) (by decide +kernel))
  | 10, _, _ => Or.inr (List.mem_of_getElem? (i := 301) (by decide +kernel))
  | 11, _, _ => Or.inr (List.mem_of_getElem? (i := 302) (by decide +kernel))
  | 12, _, _ => Or.inr (List.mem_of_getElem? (i := 303) (by decide +kernel))
  | n + 13, h, _ => absurd h (by omega)
theorem npX_2 : ∀ j, j < 13 → 2 ≠ j → (Cond.not (.eq (tX 2) (tX j))) ∈ flatC (Jvm.Cond.and given_1 narrow_1) ∨ (Cond.not (.eq (tX j) (tX 2))) ∈ flatC (Jvm.Cond.and given_1 narrow_1)
  | 0, _, _ => Or.inr (List.mem_of_getElem? (i := 319) (by decide +kernel))
  | 1, _, _ => Or.inr (List.mem_of_getElem? (i := 320) (by decide +kernel))
  | 2, _, h => absurd rfl h
  | 3, _, _ => Or.inl (List.mem_of_getElem? (i := 337) (by decide +kernel))
  | 4, _, _ => Or.inl (List.mem_of_getElem? (i := 353) (by decide +kernel))
  | 5, _, _ => Or.inl (List.mem_of_getElem? (i := 371) (by decide +kernel))
  | 6, _, _ => Or.inl (List.mem_of_getElem? (i := 389) (by decide +kernel))
  | 7, _, _ => Or.inl (List.mem_of_getElem? (i := 408) (by decide +kernel))
  | 8, _, _ => Or.inl (List.mem_of_getElem? (i := 427) (by decide +kernel))
  | 9, _, _ => Or.inl (List.mem_of_getElem? (i := 449) (by decide +kernel))
  | 10, _, _ => Or.inr (List.mem_of_getElem? (i := 316) (by decide +kernel))
  | 11, _, _ => Or.inr (List.mem_of_getElem? (i := 317) (by decide +kernel))
  | 12, _, _ => Or.inr (List.mem_of_getElem? (i := 318) (by decide +kernel))
  | n + 13, h, _ => absurd h (by omega)
theorem npX_3 : ∀ j, j < 13 → 3 ≠ j → (Cond.not (.eq (tX 3) (tX j))) ∈ flatC (Jvm.Cond.and given_1 narrow_1) ∨ (Cond.not (.eq (tX j) (tX 3))) ∈ flatC (Jvm.Cond.and given_1 narrow_1)
  | 0, _, _ => Or.inr (List.mem_of_getElem? (i := 335) (by decide +kernel))
  | 1, _, _ => Or.inr (List.mem_of_getElem? (i := 336) (by decide +kernel))
  | 2, _, _ => Or.inr (List.mem_of_getElem? (i := 337) (by decide +kernel))
  | 3, _, h => absurd rfl h
  | 4, _, _ => Or.inl (List.mem_of_getElem? (i := 354) (by decide +kernel))
  | 5, _, _ => Or.inl (List.mem_of_getElem? (i := 372) (by decide +kernel))
  | 6, _, _ => Or.inl (List.mem_of_getElem? (i := 390) (by decide +kernel))
  | 7, _, _ => Or.inl (List.mem_of_getElem? (i := 409) (by decide +kernel))
  | 8, _, _ => Or.inl (List.mem_of_getElem? (i := 428) (by decide +kernel))
  | 9, _, _ => Or.inl (List.mem_of_getElem? (i := 450) (by decide +kernel))
  | 10, _, _ => Or.inr (List.mem_of_getElem? (i := 332) (by decide +kernel))
  | 11, _, _ => Or.inr (List.mem_of_getElem? (i := 333) (by decide +kernel))
  | 12, _, _ => Or.inr (List.mem_of_getElem? (i := 334) (by decide +kernel))
  | n + 13, h, _ => absurd h (by omega)
theorem npX_4 : ∀ j, j < 13 → 4 ≠ j → (Cond.not (.eq (tX 4) (tX j))) ∈ flatC (Jvm.Cond.and given_1 narrow_1) ∨ (Cond.not (.eq (tX j) (tX 4))) ∈ flatC (Jvm.Cond.and given_1 narrow_1)
  | 0, _, _ => Or.inr (List.mem_of_getElem? (i := 351) (by decide +kernel))
  | 1, _, _ => Or.inr (List.mem_of_getElem? (i := 352) (by decide +kernel))
  | 2, _, _ => Or.inr (List.mem_of_getElem? (i := 353) (by decide +kernel))
  | 3, _, _ => Or.inr (List.mem_of_getElem? (i := 354) (by decide +kernel))
  | 4, _, h => absurd rfl h
  | 5, _, _ => Or.inl (List.mem_of_getElem? (i := 373) (by decide +kernel))
  | 6, _, _ => Or.inl (List.mem_of_getElem? (i := 391) (by decide +kernel))
  | 7, _, _ => Or.inl (List.mem_of_getElem? (i := 410) (by decide +kernel))
  | 8, _, _ => Or.inl (List.mem_of_getElem? (i := 429) (by decide +kernel))
  | 9, _, _ => Or.inl (List.mem_of_getElem? (i := 451) (by decide +kernel))
  | 10, _, _ => Or.inr (List.mem_of_getElem? (i := 348) (by decide +kernel))
  | 11, _, _ => Or.inr (List.mem_of_getElem? (i := 349) (by decide +kernel))
  | 12, _, _ => Or.inr (List.mem_of_getElem? (i := 350) (by decide +kernel))
  | n + 13, h, _ => absurd h (by omega)
theorem npX_5 : ∀ j, j < 13 → 5 ≠ j → (Cond.not (.eq (tX 5) (tX j))) ∈ flatC (Jvm.Cond.and given_1 narrow_1) ∨ (Cond.not (.eq (tX j) (tX 5))) ∈ flatC (Jvm.Cond.and given_1 narrow_1)
  | 0, _, _ => Or.inr (List.mem_of_getElem? (i := 369) (by decide +kernel))
  | 1, _, _ => Or.inr (List.mem_of_getElem? (i := 370) (by decide +kernel))
  | 2, _, _ => Or.inr (List.mem_of_getElem? (i := 371) (by decide +kernel))
  | 3, _, _ => Or.inr (List.mem_of_getElem? (i := 372) (by decide +kernel))
  | 4, _, _ => Or.inr (List.mem_of_getElem? (i := 373) (by decide +kernel))
  | 5, _, h => absurd rfl h
  | 6, _, _ => Or.inl (List.mem_of_getElem? (i := 392) (by decide +kernel))
  | 7, _, _ => Or.inl (List.mem_of_getElem? (i := 411) (by decide +kernel))
  | 8, _, _ => Or.inl (List.mem_of_getElem? (i := 430) (by decide +kernel))
  | 9, _, _ => Or.inl (List.mem_of_getElem? (i := 452) (by decide +kernel))
  | 10, _, _ => Or.inr (List.mem_of_getElem? (i := 366) (by decide +kernel))
  | 11, _, _ => Or.inr (List.mem_of_getElem? (i := 367) (by decide +kernel))
  | 12, _, _ => Or.inr (List.mem_of_getElem? (i := 368) (by decide +kernel))
  | n + 13, h, _ => absurd h (by omega)
theorem npX_6 : ∀ j, j < 13 → 6 ≠ j → (Cond.not (.eq (tX 6) (tX j))) ∈ flatC (Jvm.Cond.and given_1 narrow_1) ∨ (Cond.not (.eq (tX j) (tX 6))) ∈ flatC (Jvm.Cond.and given_1 narrow_1)
  | 0, _, _ => Or.inr (List.mem_of_getElem? (i := 387) (by decide +kernel))
  | 1, _, _ => Or.inr (List.mem_of_getElem? (i := 388) (by decide +kernel))
  | 2, _, _ => Or.inr (List.mem_of_getElem? (i := 389) (by decide +kernel))
  | 3, _, _ => Or.inr (List.mem_of_getElem? (i := 390) (by decide +kernel))
  | 4, _, _ => Or.inr (List.mem_of_getElem? (i := 391) (by decide +kernel))
  | 5, _, _ => Or.inr (List.mem_of_getElem? (i := 392) (by decide +kernel))
  | 6, _, h => absurd rfl h
  | 7, _, _ => Or.inl (List.mem_of_getElem? (i := 412) (by decide +kernel))
  | 8, _, _ => Or.inl (List.mem_of_getElem? (i := 431) (by decide +kernel))
  | 9, _, _ => Or.inl (List.mem_of_getElem? (i := 453) (by decide +kernel))
  | 10, _, _ => Or.inr (List.mem_of_getElem? (i := 384) (by decide +kernel))
  | 11, _, _ => Or.inr (List.mem_of_getElem? (i := 385) (by decide +kernel))
  | 12, _, _ => Or.inr (List.mem_of_getElem? (i := 386) (by decide +kernel))
  | n + 13, h, _ => absurd h (by omega)
theorem npX_7 : ∀ j, j < 13 → 7 ≠ j → (Cond.not (.eq (tX 7) (tX j))) ∈ flatC (Jvm.Cond.and given_1 narrow_1) ∨ (Cond.not (.eq (tX j) (tX 7))) ∈ flatC (Jvm.Cond.and given_1 narrow_1)
  | 0, _, _ => Or.inr (List.mem_of_getElem? (i := 406) (by decide +kernel))
  | 1, _, _ => Or.inr (List.mem_of_getElem? (i := 407) (by decide +kernel))
  | 2, _, _ => Or.inr (List.mem_of_getElem? (i := 408) (by decide +kernel))
  | 3, _, _ => Or.inr (List.mem_of_getElem? (i := 409) (by decide +kernel))
  | 4, _, _ => Or.inr (List.mem_of_getElem? (i := 410) (by decide +kernel))
  | 5, _, _ => Or.inr (List.mem_of_getElem? (i := 411) (by decide +kernel))
  | 6, _, _ => Or.inr (List.mem_of_getElem? (i := 412) (by decide +kernel))
  | 7, _, h => absurd rfl h
  | 8, _, _ => Or.inl (List.mem_of_getElem? (i := 432) (by decide +kernel))
  | 9, _, _ => Or.inl (List.mem_of_getElem? (i := 454) (by decide +kernel))
  | 10, _, _ => Or.inr (List.mem_of_getElem? (i := 403) (by decide +kernel))
  | 11, _, _ => Or.inr (List.mem_of_getElem? (i := 404) (by decide +kernel))
  | 12, _, _ => Or.inr (List.mem_of_getElem? (i := 405) (by decide +kernel))
  | n + 13, h, _ => absurd h (by omega)
theorem npX_8 : ∀ j, j < 13 → 8 ≠ j → (Cond.not (.eq (tX 8) (tX j))) ∈ flatC (Jvm.Cond.and given_1 narrow_1) ∨ (Cond.not (.eq (tX j) (tX 8))) ∈ flatC (Jvm.Cond.and given_1 narrow_1)
  | 0, _, _ => Or.inr (List.mem_of_getElem? (i := 425) (by decide +kernel))
  | 1, _, _ => Or.inr (List.mem_of_getElem? (i := 426) (by decide +kernel))
  | 2, _, _ => Or.inr (List.mem_of_getElem? (i := 427) (by decide +kernel))
  | 3, _, _ => Or.inr (List.mem_of_getElem? (i := 428) (by decide +kernel))
  | 4, _, _ => Or.inr (List.mem_of_getElem? (i := 429) (by decide +kernel))
  | 5, _, _ => Or.inr (List.mem_of_getElem? (i := 430) (by decide +kernel))
  | 6, _, _ => Or.inr (List.mem_of_getElem? (i := 431) (by decide +kernel))
  | 7, _, _ => Or.inr (List.mem_of_getElem? (i := 432) (by decide +kernel))
  | 8, _, h => absurd rfl h
  | 9, _, _ => Or.inl (List.mem_of_getElem? (i := 455) (by decide +kernel))
  | 10, _, _ => Or.inr (List.mem_of_getElem? (i := 422) (by decide +kernel))
  | 11, _, _ => Or.inr (List.mem_of_getElem? (i := 423) (by decide +kernel))
  | 12, _, _ => Or.inr (List.mem_of_getElem? (i := 424) (by decide +kernel))
  | n + 13, h, _ => absurd h (by omega)
theorem npX_9 : ∀ j, j < 13 → 9 ≠ j → (Cond.not (.eq (tX 9) (tX j))) ∈ flatC (Jvm.Cond.and given_1 narrow_1) ∨ (Cond.not (.eq (tX j) (tX 9))) ∈ flatC (Jvm.Cond.and given_1 narrow_1)
  | 0, _, _ => Or.inr (List.mem_of_getElem? (i := 447) (by decide +kernel))
  | 1, _, _ => Or.inr (List.mem_of_getElem? (i := 448) (by decide +kernel))
  | 2, _, _ => Or.inr (List.mem_of_getElem? (i := 449) (by decide +kernel))
  | 3, _, _ => Or.inr (List.mem_of_getElem? (i := 450) (by decide +kernel))
  | 4, _, _ => Or.inr (List.mem_of_getElem? (i := 451) (by decide +kernel))
  | 5, _, _ => Or.inr (List.mem_of_getElem? (i := 452) (by decide +kernel))
  | 6, _, _ => Or.inr (List.mem_of_getElem? (i := 453) (by decide +kernel))
  | 7, _, _ => Or.inr (List.mem_of_getElem? (i := 454) (by decide +kernel))
  | 8, _, _ => Or.inr (List.mem_of_getElem? (i := 455) (by decide +kernel))
  | 9, _, h => absurd rfl h
  | 10, _, _ => Or.inr (List.mem_of_getElem? (i := 444) (by decide +kernel))
  | 11, _, _ => Or.inr (List.mem_of_getElem? (i := 445) (by decide +kernel))
  | 12, _, _ => Or.inr (List.mem_of_getElem? (i := 446) (by decide +kernel))
  | n + 13, h, _ => absurd h (by omega)
theorem npX_10 : ∀ j, j < 13 → 10 ≠ j → (Cond.not (.eq (tX 10) (tX j))) ∈ flatC (Jvm.Cond.and given_1 narrow_1) ∨ (Cond.not (.eq (tX j) (tX 10))) ∈ flatC (Jvm.Cond.and given_1 narrow_1)
  | 0, _, _ => Or.inl (List.mem_of_getElem? (i := 288) (by decide +kernel))
  | 1, _, _ => Or.inl (List.mem_of_getElem? (i := 301) (by decide +kernel))
  | 2, _, _ => Or.inl (List.mem_of_getElem? (i := 316) (by decide +kernel))
  | 3, _, _ => Or.inl (List.mem_of_getElem? (i := 332) (by decide +kernel))
  | 4, _, _ => Or.inl (List.mem_of_getElem? (i := 348) (by decide +kernel))
  | 5, _, _ => Or.inl (List.mem_of_getElem? (i := 366) (by decide +kernel))
  | 6, _, _ => Or.inl (List.mem_of_getElem? (i := 384) (by decide +kernel))
  | 7, _, _ => Or.inl (List.mem_of_getElem? (i := 403) (by decide +kernel))
  | 8, _, _ => Or.inl (List.mem_of_getElem? (i := 422) (by decide +kernel))
  | 9, _, _ => Or.inl (List.mem_of_getElem? (i := 444) (by decide +kernel))
  | 10, _, h => absurd rfl h
  | 11, _, _ => Or.inl (List.mem_of_getElem? (i := 263) (by decide +kernel))
  | 12, _, _ => Or.inl (List.mem_of_getElem? (i := 274) (by decide +kernel))
  | n + 13, h, _ => absurd h (by omega)
theorem npX_11 : ∀ j, j < 13 → 11 ≠ j → (Cond.not (.eq (tX 11) (tX j))) ∈ flatC (Jvm.Cond.and given_1 narrow_1) ∨ (Cond.not (.eq (tX j) (tX 11))) ∈ flatC (Jvm.Cond.and given_1 narrow_1)
  | 0, _, _ => Or.inl (List.mem_of_getElem? (i := 289) (by decide +kernel))
  | 1, _, _ => Or.inl (List.mem_of_getElem? (i := 302) (by decide +kernel))
  | 2, _, _ => Or.inl (List.mem_of_getElem? (i := 317) (by decide +kernel))
  | 3, _, _ => Or.inl (List.mem_of_getElem? (i := 333) (by decide +kernel))
  | 4, _, _ => Or.inl (List.mem_of_getElem? (i := 349) (by decide +kernel))
  | 5, _, _ => Or.inl (List.mem_of_getElem? (i := 367) (by decide +kernel))
  | 6, _, _ => Or.inl (List.mem_of_getElem? (i := 385) (by decide +kernel))
  | 7, _, _ => Or.inl (List.mem_of_getElem? (i := 404) (by decide +kernel))
  | 8, _, _ => Or.inl (List.mem_of_getElem? (i := 423) (by decide +kernel))
  | 9, _, _ => Or.inl (List.mem_of_getElem? (i := 445) (by decide +kernel))
  | 10, _, _ => Or.inr (List.mem_of_getElem? (i := 263) (by decide +kernel))
  | 11, _, h => absurd rfl h
  | 12, _, _ => Or.inl (List.mem_of_getElem? (i := 275) (by decide +kernel))
  | n + 13, h, _ => absurd h (by omega)
theorem npX_12 : ∀ j, j < 13 → 12 ≠ j → (Cond.not (.eq (tX 12) (tX j))) ∈ flatC (Jvm.Cond.and given_1 narrow_1) ∨ (Cond.not (.eq (tX j) (tX 12))) ∈ flatC (Jvm.Cond.and given_1 narrow_1)
  | 0, _, _ => Or.inl (List.mem_of_getElem? (i := 290) (by decide +kernel))
  | 1, _, _ => Or.inl (List.mem_of_getElem? (i := 303) (by decide +kernel))
  | 2, _, _ => Or.inl (List.mem_of_getElem? (i := 318) (by decide +kernel))
  | 3, _, _ => Or.inl (List.mem_of_getElem? (i := 334) (by decide +kernel))
  | 4, _, _ => Or.inl (List.mem_of_getElem? (i := 350) (by decide +kernel))
  | 5, _, _ => Or.inl (List.mem_of_getElem? (i := 368) (by decide +kernel))
  | 6, _, _ => Or.inl (List.mem_of_getElem? (i := 386) (by decide +kernel))
  | 7, _, _ => Or.inl (List.mem_of_getElem? (i := 405) (by decide +kernel))
  | 8, _, _ => Or.inl (List.mem_of_getElem? (i := 424) (by decide +kernel))
  | 9, _, _ => Or.inl (List.mem_of_getElem? (i := 446) (by decide +kernel))
  | 10, _, _ => Or.inr (List.mem_of_getElem? (i := 274) (by decide +kernel))
  | 11, _, _ => Or.inr (List.mem_of_getElem? (i := 275) (by decide +kernel))
  | 12, _, h => absurd rfl h
  | n + 13, h, _ => absurd h (by omega)
theorem npX : ∀ i, i < 13 → ∀ j, j < 13 → i ≠ j → (Cond.not (.eq (tX i) (tX j))) ∈ flatC (Jvm.Cond.and given_1 narrow_1) ∨ (Cond.not (.eq (tX j) (tX i))) ∈ flatC (Jvm.Cond.and given_1 narrow_1)
  | 0, _ => npX_0
  | 1, _ => npX_1
  | 2, _ => npX_2
  | 3, _ => npX_3
  | 4, _ => npX_4
  | 5, _ => npX_5
  | 6, _ => npX_6
  | 7, _ => npX_7
  | 8, _ => npX_8
  | 9, _ => npX_9
  | 10, _ => npX_10
  | 11, _ => npX_11
  | 12, _ => npX_12
  | n + 13, h => absurd h (by omega)
set_option maxHeartbeats 4000000 in
set_option maxRecDepth 100000 in
theorem law_start {p : Program} {s : State} {m : MethodId} {meth : Method} {c : Code} {b L : Nat} {xs : Nat → Int32} (C0 : lw_At p s m meth c b L xs) : ∃ kad : Nat → Nat, kad 70 = b ∧ CFt kad (freeA (fun _ => 0) 0 s.heap.size) s s.heap := by
  obtain ⟨hx, hb, hr, hml, hown, hts, hX, hbl, hlocks, hgv⟩ := C0
  have hA : ∀ a : Nat, a < s.heap.size → ¬ freeA (fun _ => 0) 0 s.heap.size a := by
    rintro a ha (⟨i, hi, -⟩ | h)
    · exact absurd hi (Nat.not_lt_zero i)
    · exact absurd h (Nat.not_le.mpr ha)
  have hs := flat_of_before _ hgv
  have w1 : ∀ i, i < 13 → (Cond.exactly (tW i) RX8).before #[.ref b] s = true := fun i hi => hs _ (List.mem_of_getElem? (i := pw1.getD i 0) (by revert i; decide +kernel))
  have w2 : ∀ i, i < 13 → (Cond.eq (.field (tW i) "java/lang/Enum" "ordinal" "I") (.int (([0, 1, 2, 3, 4, 5, 6, 7, 8, 9, 10, 11, 12] : List Int32).getD i 0))).before #[.ref b] s = true := fun i hi => hs _ (List.mem_of_getElem? (i := pw2.getD i 0) (by revert i; decide +kernel))
  have w3 : ∀ i j, i < 13 → j < 13 → i ≠ j → (Cond.not (.eq (tW i) (tW j))).before #[.ref b] s = true ∨ (Cond.not (.eq (tW j) (tW i))).before #[.ref b] s = true := by
    intro i j hi hj hne
    have h := npW i hi j hj hne
    exact h.elim (fun h => Or.inl (hs _ h)) (fun h => Or.inr (hs _ h))
  obtain ⟨adE, hE, hev⟩ := va_Enof2 (E := RX8) (d := "LExemptDesk$Word;") (nm := wNm) (F := wOrd) (lays_at hts) (hts _ z_12) w1 (fun q hq i hi => by rw [List.mem_singleton.mp hq]; exact w2 i hi) (fun i j hi hj hne => w3 i j hi hj hne) hA
  have v1 : ∀ i, i < 13 → (Cond.exactly (tX i) "java/lang/String").before #[.ref b] s = true := fun i hi => hs _ (List.mem_of_getElem? (i := pv1.getD i 0) (by revert i; decide +kernel))
  have v2 : ∀ i, i < 13 → (Cond.eq (.field (tX i) "java/lang/String" "coder" "B") (.int 0)).before #[.ref b] s = true := fun i hi => hs _ (List.mem_of_getElem? (i := pv2.getD i 0) (by revert i; decide +kernel))
  have v3 : ∀ i, i < 13 → (Cond.arrayOf (tV i) .byte).before #[.ref b] s = true := fun i hi => hs _ (List.mem_of_getElem? (i := pv3.getD i 0) (by revert i; decide +kernel))
  have v4 : ∀ i, i < 13 → (Cond.eq (.length (tV i)) (.int (Int32.ofNat (wLen.getD i 0)))).before #[.ref b] s = true := fun i hi => hs _ (List.mem_of_getElem? (i := pv4.getD i 0) (by revert i; decide +kernel))
  have v5 : ∀ i, i < 13 → ∀ j, j < wLen.getD i 0 → (Cond.eq (.elem (tV i) (.int (Int32.ofNat j))) (.int ((wByt.getD i []).getD j 0))).before #[.ref b] s = true := fun i hi j hj => hs _ (List.mem_of_getElem? (i := (pv5.getD i []).getD j 0) (by revert j; revert i; decide +kernel))
  have v6 : ∀ i j, i < 13 → j < 13 → i ≠ j → (Cond.not (.eq (tX i) (tX j))).before #[.ref b] s = true ∨ (Cond.not (.eq (tX j) (tX i))).before #[.ref b] s = true := by
    intro i j hi hj hne
    have h := npX i hi j hj hne
    exact h.elim (fun h => Or.inl (hs _ h)) (fun h => Or.inr (hs _ h))
  obtain ⟨adK, adV, hS, hevS⟩ := vk_Sof (N := 13) (tm := tX) (len := wLen) (byt := wByt) (by decide) v1 v2 v3 v4 v5 v6 hA
  have u1 : ∀ i, i < 13 → (Cond.eq (.field (tW i) RX8 "letters" "Ljava/lang/String;") (tX i)).before #[.ref b] s = true := fun i hi => hs _ (List.mem_of_getElem? (i := pu1.getD i 0) (by revert i; decide +kernel))
  have hF := va_Efof (N := 13) (E := RX8) (d0 := "LExemptDesk$Word;") (o := RX8) (n := "letters") (d := "Ljava/lang/String;") (nm := wNm) (tm := tX) hev u1 hevS hA
  have a1 : ∀ j, j < 13 → (Cond.eq (.elem tALL (.int (Int32.ofNat j))) (tW j)).before #[.ref b] s = true := fun i hi => hs _ (List.mem_of_getElem? (i := pa1.getD i 0) (by revert i; decide +kernel))
  obtain ⟨tA, eA, hTA⟩ := va_Tof (tm := tALL) (ty := .object RX8) (N := 13) (f := fun j => .ref (adE j)) (by decide) (hs _ (by decide +kernel)) (va_eqv (hs (Cond.eq (.length tALL) (.int 13)) (by decide +kernel)) rfl) (fun j hj => va_eqv (a1 j hj) (hev j hj)) hA
  have m1 : ∀ j, j < 13 → (Cond.eq (.elem tSM (.int (Int32.ofNat j))) (.int (wSm j))).before #[.ref b] s = true := fun i hi => hs _ (List.mem_of_getElem? (i := pm1.getD i 0) (by revert i; decide +kernel))
  obtain ⟨tS, eS, hTS⟩ := va_Tof (tm := tSM) (ty := .int) (N := 13) (f := fun j => .int (wSm j)) (by decide) (hs _ (by decide +kernel)) (va_eqv (hs (Cond.eq (.length tSM) (.int 13)) (by decide +kernel)) rfl) (fun j hj => va_eqv (m1 j hj) rfl) hA
  obtain ⟨g60, -, -, -, e60, -⟩ := Cond.exactly_spec (hs (Cond.exactly (.string RX9 86) "java/lang/String") (by decide +kernel))
  obtain ⟨g61, -, -, -, e61, -⟩ := Cond.exactly_spec (hs (Cond.exactly (.string RX9 118) "java/lang/String") (by decide +kernel))
  have hZA := va_Zref (hts _ z_497) (hts _ z_12) eA hA
  have hZS := va_Zref (hts _ z_551) (hts _ z_17) eS hA
  have hZC := va_Zof (hts _ z_507) (hts _ z_13) (va_eqv (hs (Cond.eq (.static RJ0 "COMPACT_STRINGS" "Z") (.int 1)) (by decide +kernel)) rfl) hA
  have hZI := va_Zqof (hts _ z_523) (hts _ z_15) (hs (Cond.isRef (.static RJ3 "SIOOBE_FORMATTER" "Ljava/util/function/BiFunction;")) (by decide +kernel)) hA
  obtain ⟨t99, h99⟩ : ∃ t : Nat, va_Z RJ3 "SIOOBE_FORMATTER" "Ljava/util/function/BiFunction;" .null (freeA (fun _ => 0) 0 s.heap.size) s s.heap ∨ va_Z RJ3 "SIOOBE_FORMATTER" "Ljava/util/function/BiFunction;" (.ref t) (freeA (fun _ => 0) 0 s.heap.size) s s.heap := by
    rcases hZI with h | ⟨t, h⟩
    · exact ⟨0, Or.inl h⟩
    · exact ⟨t, Or.inr h⟩
  let kad : Nat → Nat := fun k => if k < 13 then adE k else if k = 13 then tA else if k = 14 then tS else if 20 ≤ k ∧ k < 33 then adK (k - 20) else if 40 ≤ k ∧ k < 53 then adV (k - 40) else if k = 60 then g60 else if k = 61 then g61 else if k = 70 then b else t99
  have k0 : ∀ i, i < 13 → kad i = adE i := fun i hi => if_pos hi
  have k20 : ∀ i, i < 13 → kad (20 + i) = adK i := fun i hi => by
    show (if 20 + i < 13 then adE (20 + i) else if 20 + i = 13 then tA else if 20 + i = 14 then tS else if 20 ≤ 20 + i ∧ 20 + i < 33 then adK (20 + i - 20) else _) = _
    rw [if_neg (by omega), if_neg (by omega), if_neg (by omega), if_pos (by omega), Nat.add_sub_cancel_left]
  have k40 : ∀ i, i < 13 → kad (40 + i) = adV i := fun i hi => by
    show (if 40 + i < 13 then adE (40 + i) else if 40 + i = 13 then tA else if 40 + i = 14 then tS else if 20 ≤ 40 + i ∧ 40 + i < 33 then adK (40 + i - 20) else if 40 ≤ 40 + i ∧ 40 + i < 53 then adV (40 + i - 40) else _) = _
    rw [if_neg (by omega), if_neg (by omega), if_neg (by omega), if_neg (by omega), if_pos (by omega), Nat.add_sub_cancel_left]
  refine ⟨kad, rfl, ⟨fun i hi => ?_, fun i j hi hj he => ?_⟩, fun i hi => ?_, hZA, ?_, hZS, hTS, ⟨fun i hi => ?_, fun i j hi hj he => ?_⟩, hZC, h99, vk_R.of (hts _ z_1210) e60, vk_R.of (hts _ z_1249) e61, fun w hw => va_tabs (nest_ok w hw) rfl (hts w (nest_tbl w hw)), va_AO.of (hts _ z_202), va_AO.of (hts _ z_408), fun w hw => va_tabs (ext_ok w hw) rfl (hts w (ext_tbl w hw)), va_Nc.of (hs (Cond.not (.castable "java/util/NoSuchElementException" "java/lang/IndexOutOfBoundsException")) (by decide +kernel)), vx_Zqof (hts _ z_1197) (hts _ z_19) (hs _ (by decide +kernel)) hA, vx_Zqof (hts _ z_1199) (hts _ z_19) (hs _ (by decide +kernel)) hA⟩
  · rw [k0 i hi]; exact hE.1 i hi
  · rw [k0 i hi, k0 j hj] at he; exact hE.2 i j hi hj he
  · show va_OF _ _ _ (.ref (kad (20 + i))) (kad i) _ _ _
    rw [k20 i hi, k0 i hi]; exact hF i hi
  · obtain ⟨cell, q1, q2, q3, q4, q5, q6, q7⟩ := hTA
    exact ⟨cell, q1, q2, q3, q4, q5, fun j hj => by rw [q6 j hj]; show some (Value.ref (adE j)) = some (Value.ref (kad j)); rw [k0 j hj], q7⟩
  · show va_O _ (kad (20 + i)) _ _ _ ∧ va_OF _ _ _ _ (kad (20 + i)) _ _ _ ∧ va_OF _ _ _ (.ref (kad (40 + i))) (kad (20 + i)) _ _ _ ∧ va_T _ (kad (40 + i)) _ _ _ _ _
    rw [k20 i hi, k40 i hi]; exact hS.1 i hi
  · have he2 : kad (20 + i) = kad (20 + j) := he
    rw [k20 i hi, k20 j hj] at he2; exact hS.2 i j hi hj he2
/-- the law's start: where the pure law answers 1, the machine comes to its end with true -/
theorem law_by {p : Program} {e : Env} {s : State} {m : MethodId} {below : List Frame} {meth : Method} {c : Code} (l : Launch) (hflags : l.flags = flags0) {b L : Nat} {xs : Nat → Int32} (C0 : lw_At p s m meth c b L xs) (M0 M1 : MemT) (hM0 : mN M0 = 0 ∧ (∀ x, mK M0 x = 9) ∧ ∀ x k, mR M0 x k = none) (n : Nat) (hp : g_L_law n L xs M0 = some (1, M1)) : W p l e room_1 s m #[Value.ref b] below meth c s.heap [] 0 0 (lw_Z below #[Value.ref b] s) (entryFrame m ([Value.ref b] : List Value).toArray 7) := by
  obtain ⟨kad, hk70, hcf⟩ := law_start C0
  obtain ⟨hx, hb, hr, hml, hown, hts, hX0, hbl, hlocks, hgv⟩ := C0
  obtain ⟨D, ac, hK⟩ := va_K_start hts
  let X : CxT := (p, l, e, room_1, s, m, #[.ref b], below, meth, c, lw_Z below #[Value.ref b] s, D, ac, kad, (fun _ => 0), 0)
  have hX : CxOk X cL_law 7 RL room_1 := ⟨hx, hb, hml, hown, fun w hw => hts w (gT_in hw), hK, rfl, hcf⟩
  have hl0 : l.stackTraces = false := by unfold Launch.stackTraces; rw [hflags]; decide
  have hR : RetL X (fun t => t = (1, M1)) := by
    refine ⟨fun t ht => by rw [ht], fun pc H ls locs hlocs hd => ?_⟩
    refine va_forget (fun q hq => ?_) (lw_ret hx hb hr hlocks hd)
    rcases hlocs q hq with ⟨i, hi, -⟩ | h
    · exact absurd hi (Nat.not_lt_zero i)
    · exact h
  have hS : Scr X L xs := by
    refine ⟨by show va_X (kad 70) _ _ _ _; rw [hk70]; exact hX0, by show kad 70 < _; rw [hk70]; exact hbl, ?_⟩
    show ¬ freeA _ 0 s.heap.size (kad 70)
    rw [hk70]
    rintro (⟨i, hi, -⟩ | h)
    · exact absurd hi (Nat.not_lt_zero i)
    · exact absurd h (Nat.not_le.mpr hbl)
  have hs := t_L_law (A := fun t => t = (1, M1)) n L xs M0 hX hl0 hR hS (1, M1) hp rfl
  have hl := lv_entry ([.ref b]) (n := 7) (Nat.le_of_ble_eq_true rfl)
  rw [lg_entry_eq]
  refine hs (fun _ => 0) s.heap [] _ ⟨⟨fun k q hq => ?_, ⟨fun i j p q h => ?_, fun k q hq => ?_⟩, fun x _ => hM0.2.1 x, fun x k j hj => by rw [hM0.2.2] at hj; cases hj⟩, va_S.rf, Nat.zero_le _, fun _ _ => rfl, trivial, ?_, hl.1, hl.2.1, fun k v hk => ?_⟩
  · obtain ⟨h, -⟩ := ws_lt hq; omega
  · obtain ⟨h, -⟩ := ws_lt h; omega
  · obtain ⟨h, -⟩ := ws_lt hq; omega
  · exact ⟨trivial, trivial⟩
  · match k, hk with
    | 0, hk =>
      cases hk
      rw [show cv (fun _ => 0) (xkad X) (kv (some 70)) = .ref b by show Value.ref (kad (UInt32.ofNat 70).toNat) = _; rw [kv_nat (by decide), hk70]]
      exact hl.2.2 (0, .ref b) List.mem_cons_self
    | 1, hk | 2, hk | 3, hk | 4, hk | 5, hk | 6, hk => simp at hk
    | n + 7, hk => simp at hk
