/-! ===== PURE 78: the reference takes a token ===== -/
def nMf (u : Nat → Int) (s : Nat) : Nat → Int
  | 0 => 0
  | j + 1 => if nMf u s j ≤ 99999 then 10 * nMf u s j + u (s + j) - 48 else nMf u s j
def wdM (u : Nat → Int) (len p : Nat) : Option Nat := fnd (mtM u (tkS u len p) (tkE u len p)) 0 13
def tkKM (u : Nat → Int) (len p : Nat) : Int := if tkS u len p = len then 0 else if isLt (u (tkS u len p)) then (match wdM u len p with | some _ => 1 | none => if tkE u len p - tkS u len p ≤ 6 then 2 else 5) else if isDg (u (tkS u len p)) then 3 else if u (tkS u len p) = 59 then 4 else 5
def tkWM (u : Nat → Int) (len p : Nat) (old : Int32) : Int32 := if tkS u len p = len then old else if isLt (u (tkS u len p)) then (match wdM u len p with | some k => zi (k : Int) | none => if tkE u len p - tkS u len p ≤ 6 then pkXf u (tkS u len p) (tkE u len p - tkS u len p) else -1) else if isDg (u (tkS u len p)) then zi (nMf u (tkS u len p) (tkE u len p - tkS u len p)) else old
def YX (M : MemT) (g : Nat → Int32) (A : Nat → Nat → Int32) : MemT := (M.1, M.2.1, M.2.2.1, M.2.2.2.1, fun x k => if x = 139 then g k else if 142 ≤ x ∧ x ≤ 146 then A (x - 142) k else M.2.2.2.2.1 x k, M.2.2.2.2.2)
def YT (M : MemT) (u : Nat → Int) : Prop := (∀ k : Nat, k < 700 → mI M 140 k = zi (u k) ∧ 0 ≤ u k ∧ u k < 256) ∧ (∀ k : Nat, k < 68 → mI M 141 k = zi (WD k)) ∧ mL M 141 = 68
def mkR (g : Nat → Int32) (e k w a : Int32) : Nat → Int32 := fun j => if j = 7 then e else if j = 8 then k else if j = 9 then w else if j = 10 then a else g j
def pkMf (u : Nat → Int) (s e : Nat) : Nat → Int32
  | 0 => 0
  | j + 1 => (pkMf u s e j <<< (5 &&& 31)) ||| (if s + j < e then zi (u (s + j)) - 96 else 0)
theorem shl_c (x : Int32) : (x <<< (5 : Int32)) <<< (5 : Int32) = x <<< (10 : Int32) ∧ (x <<< (10 : Int32)) <<< (5 : Int32) = x <<< (15 : Int32) ∧ (x <<< (15 : Int32)) <<< (5 : Int32) = x <<< (20 : Int32) ∧ (x <<< (20 : Int32)) <<< (5 : Int32) = x <<< (25 : Int32) := by
  refine ⟨?_, ?_, ?_, ?_⟩ <;> rw [← Int32.toBitVec_inj]
  · show ((x.toBitVec <<< 5) <<< 5) = x.toBitVec <<< 10
    rw [← BitVec.shiftLeft_add]
  · show ((x.toBitVec <<< 10) <<< 5) = x.toBitVec <<< 15
    rw [← BitVec.shiftLeft_add]
  · show ((x.toBitVec <<< 15) <<< 5) = x.toBitVec <<< 20
    rw [← BitVec.shiftLeft_add]
  · show ((x.toBitVec <<< 20) <<< 5) = x.toBitVec <<< 25
    rw [← BitVec.shiftLeft_add]
theorem or_0 (x : Int32) : x ||| 0 = x ∧ 0 ||| x = x := by
  constructor
  · rw [← Int32.toBitVec_inj]
    exact BitVec.or_zero
  · rw [← Int32.toBitVec_inj]
    exact BitVec.zero_or
theorem shl_z : ((0 : Int32) <<< (5 : Int32)) = 0 := by decide
theorem pkX_eq (u : Nat → Int) (s l : Nat) (h1 : 1 ≤ l) (h6 : l ≤ 6) : pkXf u s l = pkMf u s (s + l) 6 := by
  have c : ∀ j, zi (u (s + j)) - 97 + 1 = zi (u (s + j)) - 96 := fun j => by
    show zi _ - zi 97 + zi 1 = zi _ - zi 96
    rw [zi_sub, zi_sub, zi_add]
    exact congrArg zi (by omega)
  have e5 : ((5 : Int32) &&& 31) = 5 := by decide
  have k0 : (zi (25 - 5 * ((0 : Nat) : Int)) &&& 31) = (25 : Int32) := by decide
  have k1 : (zi (25 - 5 * ((1 : Nat) : Int)) &&& 31) = (20 : Int32) := by decide
  have k2 : (zi (25 - 5 * ((2 : Nat) : Int)) &&& 31) = (15 : Int32) := by decide
  have k3 : (zi (25 - 5 * ((3 : Nat) : Int)) &&& 31) = (10 : Int32) := by decide
  have k4 : (zi (25 - 5 * ((4 : Nat) : Int)) &&& 31) = (5 : Int32) := by decide
  have k5 : (zi (25 - 5 * ((5 : Nat) : Int)) &&& 31) = (0 : Int32) := by decide
  have z0 : ∀ x : Int32, x <<< (0 : Int32) = x := fun x => Int32.shiftLeft_zero
  have hM : ∀ e, pkMf u s e 6 = (((((((0 : Int32) <<< (5 &&& 31)) ||| (if s + 0 < e then zi (u (s + 0)) - 96 else 0)) <<< (5 &&& 31) ||| (if s + 1 < e then zi (u (s + 1)) - 96 else 0)) <<< (5 &&& 31) ||| (if s + 2 < e then zi (u (s + 2)) - 96 else 0)) <<< (5 &&& 31) ||| (if s + 3 < e then zi (u (s + 3)) - 96 else 0)) <<< (5 &&& 31) ||| (if s + 4 < e then zi (u (s + 4)) - 96 else 0)) <<< (5 &&& 31) ||| (if s + 5 < e then zi (u (s + 5)) - 96 else 0) := fun e => rfl
  have hX : ∀ l, pkXf u s (l + 1) = pkXf u s l ||| (if l < 6 then (zi (u (s + l)) - 97 + 1) <<< (zi (25 - 5 * (l : Int)) &&& 31) else 0) := fun l => rfl
  have hX0 : pkXf u s 0 = 0 := rfl
  rw [hM]
  rcases (show l = 1 ∨ l = 2 ∨ l = 3 ∨ l = 4 ∨ l = 5 ∨ l = 6 by omega) with q | q | q | q | q | q <;> subst q
  · rw [show (1 : Nat) = 0 + 1 from rfl, hX]
    simp only [hX0, e5, k0, c, shl_z, or_0, Nat.reduceLT, if_true]
    rw [if_pos (by omega), if_neg (by omega), if_neg (by omega), if_neg (by omega), if_neg (by omega), if_neg (by omega)]
    simp only [or_0, (shl_c _).1, (shl_c _).2.1, (shl_c _).2.2.1, (shl_c _).2.2.2]
  · rw [show (2 : Nat) = 1 + 1 from rfl, hX, show (1 : Nat) = 0 + 1 from rfl, hX]
    simp only [hX0, e5, k0, k1, c, shl_z, or_0, Nat.reduceLT, Nat.reduceAdd, if_true]
    rw [if_pos (by omega), if_pos (by omega), if_neg (by omega), if_neg (by omega), if_neg (by omega), if_neg (by omega)]
    simp only [or_0, Int32.shiftLeft_or, (shl_c _).1, (shl_c _).2.1, (shl_c _).2.2.1, (shl_c _).2.2.2]
  · rw [show (3 : Nat) = 2 + 1 from rfl, hX, show (2 : Nat) = 1 + 1 from rfl, hX, show (1 : Nat) = 0 + 1 from rfl, hX]
    simp only [hX0, e5, k0, k1, k2, c, shl_z, or_0, Nat.reduceLT, Nat.reduceAdd, if_true]
    rw [if_pos (by omega), if_pos (by omega), if_pos (by omega), if_neg (by omega), if_neg (by omega), if_neg (by omega)]
    simp only [or_0, Int32.shiftLeft_or, (shl_c _).1, (shl_c _).2.1, (shl_c _).2.2.1, (shl_c _).2.2.2]
  · rw [show (4 : Nat) = 3 + 1 from rfl, hX, show (3 : Nat) = 2 + 1 from rfl, hX, show (2 : Nat) = 1 + 1 from rfl, hX, show (1 : Nat) = 0 + 1 from rfl, hX]
    simp only [hX0, e5, k0, k1, k2, k3, c, shl_z, or_0, Nat.reduceLT, Nat.reduceAdd, if_true]
    rw [if_pos (by omega), if_pos (by omega), if_pos (by omega), if_pos (by omega), if_neg (by omega), if_neg (by omega)]
    simp only [or_0, Int32.shiftLeft_or, (shl_c _).1, (shl_c _).2.1, (shl_c _).2.2.1, (shl_c _).2.2.2]
  · rw [show (5 : Nat) = 4 + 1 from rfl, hX, show (4 : Nat) = 3 + 1 from rfl, hX, show (3 : Nat) = 2 + 1 from rfl, hX, show (2 : Nat) = 1 + 1 from rfl, hX, show (1 : Nat) = 0 + 1 from rfl, hX]
    simp only [hX0, e5, k0, k1, k2, k3, k4, c, shl_z, or_0, Nat.reduceLT, Nat.reduceAdd, if_true]
    rw [if_pos (by omega), if_pos (by omega), if_pos (by omega), if_pos (by omega), if_pos (by omega), if_neg (by omega)]
    simp only [or_0, Int32.shiftLeft_or, (shl_c _).1, (shl_c _).2.1, (shl_c _).2.2.1, (shl_c _).2.2.2]
  · rw [show (6 : Nat) = 5 + 1 from rfl, hX, show (5 : Nat) = 4 + 1 from rfl, hX, show (4 : Nat) = 3 + 1 from rfl, hX, show (3 : Nat) = 2 + 1 from rfl, hX, show (2 : Nat) = 1 + 1 from rfl, hX, show (1 : Nat) = 0 + 1 from rfl, hX]
    simp only [hX0, e5, k0, k1, k2, k3, k4, k5, z0, c, shl_z, or_0, Nat.reduceLT, Nat.reduceAdd, if_true]
    rw [if_pos (by omega), if_pos (by omega), if_pos (by omega), if_pos (by omega), if_pos (by omega), if_pos (by omega)]
    simp only [or_0, Int32.shiftLeft_or, (shl_c _).1, (shl_c _).2.1, (shl_c _).2.2.1, (shl_c _).2.2.2]

def ywStep (n a b : Nat) : MemT × Int32 × Int32 → Option ((MemT × Int32 × Int32) ⊕ (Int32 × MemT)) := (fun (s_1 : MemT × Int32 × Int32) => (fun (M1 : MemT) (v2 : Int32) (v3 : Int32) => (gO M1 8 139 3).bind (fun j5 => (aL M1 j5).bind (fun v6 => (if v6 ≤ v3 then some (.inr (((-1), M1))) else (loopF (fun (s : MemT × Int32) => (fun (M7 : MemT) (v8 : Int32) => (gO M7 8 139 3).bind (fun j10 => (aI M7 10 j10 (v3 + v8)).bind (fun v11 => (if v11 = 32 then some (.inr (M7, v8)) else some (.inl (M7, v8 + 1)))))) s.1 s.2) n (M1, 0)).bind (fun (s_1 : MemT × Int32) => (fun (M12 : MemT) (v13 : Int32) => jp (fun (s_1 : MemT × Int32) => (fun (M15 : MemT) (v16 : Int32) => (loopF (fun (s_1 : MemT × Int32 × Int32) => (fun (M17 : MemT) (v18 : Int32) (v19 : Int32) => (if v13 ≤ v19 then some (.inr (M17, v18, v19)) else (if v18 = 0 then some (.inr (M17, v18, v19)) else (gO M17 8 139 3).bind (fun j21 => (aI M17 10 j21 (v3 + v19)).bind (fun v22 => (gO M17 8 139 0).bind (fun j23 => (aI M17 10 j23 (zi (a : Int) + v19)).bind (fun v24 => (if v22 = v24 then some (.inl (M17, 1, v19 + 1)) else some (.inl (M17, 0, v19 + 1)))))))))) s_1.1 s_1.2.1 s_1.2.2) n (M15, v16, 0)).bind (fun (s_1 : MemT × Int32 × Int32) => (fun (M25 : MemT) (v26 : Int32) (v27 : Int32) => (if v26 = 0 then some (.inl (M25, v2 + 1, v3 + (v13 + 1))) else some (.inr ((v2, M25))))) s_1.1 s_1.2.1 s_1.2.2)) s_1.1 s_1.2) (fun K14 => (if v13 = (zi (b : Int) - zi (a : Int)) then K14 (M12, 1) else K14 (M12, 0)))) s_1.1 s_1.2))))) s_1.1 s_1.2.1 s_1.2.2)
section M23
variable {M : MemT} {g : Nat → Int32} {A : Nat → Nat → Int32} {u : Nat → Int} {n len p : Nat} {e k w a v : Int32}
theorem mk_0 : mkR g (g 7) (g 8) (g 9) (g 10) = g := by
  funext j
  unfold mkR
  by_cases c7 : j = 7
  · rw [if_pos c7, c7]
  · rw [if_neg c7]
    by_cases c8 : j = 8
    · rw [if_pos c8, c8]
    · rw [if_neg c8]
      by_cases c9 : j = 9
      · rw [if_pos c9, c9]
      · rw [if_neg c9]
        by_cases c10 : j = 10
        · rw [if_pos c10, c10]
        · rw [if_neg c10]
theorem mk_u7 : up1 (mkR g e k w a) 7 v = mkR g v k w a := by
  funext j
  unfold mkR up1
  by_cases c : j = 7 <;> simp [c]
theorem mk_u8 : up1 (mkR g e k w a) 8 v = mkR g e v w a := by
  funext j
  unfold mkR up1
  by_cases c : j = 8 <;> simp [c]
theorem mk_u9 : up1 (mkR g e k w a) 9 v = mkR g e k v a := by
  funext j
  unfold mkR up1
  by_cases c : j = 9 <;> simp [c]
theorem mk_u10 : up1 (mkR g e k w a) 10 v = mkR g e k w v := by
  funext j
  unfold mkR up1
  by_cases c : j = 10 <;> simp [c]
theorem mk_uo {i : Nat} (h : i < 7 ∨ 10 < i) : up1 (mkR g e k w a) i v = mkR (up1 g i v) e k w a := by
  funext j
  unfold mkR up1
  by_cases c : j = i
  · subst c
    simp [show ¬ j = 7 by omega, show ¬ j = 8 by omega, show ¬ j = 9 by omega, show ¬ j = 10 by omega]
  · simp [c]
theorem mk_7 : mkR g e k w a 7 = e := rfl
theorem mk_8 : mkR g e k w a 8 = k := rfl
theorem mk_9 : mkR g e k w a 9 = w := rfl
theorem mk_10 : mkR g e k w a 10 = a := rfl
theorem mk_o {i : Nat} (h : i < 7 ∨ 10 < i) : mkR g e k w a i = g i := by
  unfold mkR
  rw [if_neg (by omega), if_neg (by omega), if_neg (by omega), if_neg (by omega)]
theorem y_gI (hS : MShape M) {j : Nat} : gI (YX M g A) 8 139 j = some (g j) := i_gI (M := YX M g A) hS.1
theorem y_set {j : Nat} : sI (YX M g A) 139 j v = YX M (up1 g j v) A := by
  unfold YX sI
  refine Prod.ext rfl (Prod.ext rfl (Prod.ext rfl (Prod.ext rfl (Prod.ext ?_ rfl))))
  funext x i
  show (if x = 139 ∧ i = j then v else if x = 139 then g i else if 142 ≤ x ∧ x ≤ 146 then A (x - 142) i else M.2.2.2.2.1 x i) = (if x = 139 then (if i = j then v else g i) else if 142 ≤ x ∧ x ≤ 146 then A (x - 142) i else M.2.2.2.2.1 x i)
  by_cases c : x = 139
  · subst c
    by_cases d : i = j <;> simp [d]
  · simp [c]
theorem y_pI (hS : MShape M) {j : Nat} : pI (YX M g A) 8 139 j v = some (YX M (up1 g j v) A) := by rw [i_pI (M := YX M g A) hS.1, y_set]
theorem y_k {β : Type} {x : Option β} (hS : MShape M) : chk (YX M g A) 8 139 x = x := i_chk hS.1
theorem y_o0 (hS : MShape M) : gO (YX M g A) 8 139 0 = some 140 := i_gO hS.1 hS.2.1.1
theorem y_o3 (hS : MShape M) : gO (YX M g A) 8 139 3 = some 141 := i_gO hS.1 hS.2.1.2.1
theorem y_tp (hS : MShape M) (hu : YT M u) {i : Nat} (hi : i < 700) : aI (YX M g A) 10 140 (zi (i : Int)) = some (zi (u i)) := by
  rw [i_aI (M := YX M g A) (N := 700) hS.2.2.1.1 (by show (mL M 140 : Int) = 700; rw [hS.2.2.2.1]; rfl) (by omega) (by omega) (by omega), Int.toNat_natCast]
  refine congrArg some (Eq.trans ?_ (hu.1 i hi).1)
  show (if 140 = 139 then g i else if 142 ≤ 140 ∧ 140 ≤ 146 then A (140 - 142) i else mI M 140 i) = _
  rw [if_neg (by omega), if_neg (by omega)]
theorem y_wd (hS : MShape M) (hu : YT M u) {i : Nat} (hi : i < 68) : aI (YX M g A) 10 141 (zi (i : Int)) = some (zi (WD i)) := by
  rw [i_aI (M := YX M g A) (N := 68) hS.2.2.1.2.1 (by show (mL M 141 : Int) = 68; rw [hu.2.2]; rfl) (by omega) (by omega) (by omega), Int.toNat_natCast]
  refine congrArg some (Eq.trans ?_ (hu.2.1 i hi))
  show (if 141 = 139 then g i else if 142 ≤ 141 ∧ 141 ≤ 146 then A (141 - 142) i else mI M 141 i) = _
  rw [if_neg (by omega), if_neg (by omega)]
theorem y_sm (hS : MShape M) (hu : YT M u) (h6 : g 6 = zi (len : Int)) (hl : len ≤ 700) {i : Nat} (hi : i ≤ len) : g_X10_isSmall n (YX M g A) 139 (zi (i : Int)) = some (if i < len ∧ isLt (u i) = true then zi 1 else zi 0, YX M g A) := by
  unfold g_X10_isSmall
  rw [y_gI hS, i_sb, h6]
  by_cases c : i < len
  · have hb := (hu.1 i (by omega)).2
    have e1 : (zi (u i) < (97 : Int32)) = (u i < 97) := zi_lt (b := 97) (by omega) (by omega) (by omega) (by omega)
    have e2 : ((122 : Int32) < zi (u i)) = (122 < u i) := zi_lt (a := 122) (by omega) (by omega) (by omega) (by omega)
    rw [if_neg (by rw [zi_le (by omega) (by omega) (by omega) (by omega)]; omega), y_o0 hS, i_sb, y_tp hS hu (by omega), i_sb]
    by_cases d1 : u i < 97
    · rw [if_pos (by rw [e1]; exact d1), if_neg (fun q => by have := of_decide_eq_true q.2; omega)]; exact rz_0
    · rw [if_neg (by rw [e1]; exact d1), i_sb, y_tp hS hu (by omega), i_sb]
      by_cases d2 : 122 < u i
      · rw [if_pos (by rw [e2]; exact d2), if_neg (fun q => by have := of_decide_eq_true q.2; omega)]; exact rz_0
      · rw [if_neg (by rw [e2]; exact d2), if_pos ⟨c, decide_eq_true (by omega)⟩]; exact rz_1
  · rw [if_pos (by rw [zi_le (by omega) (by omega) (by omega) (by omega)]; omega), if_neg (fun q => c q.1)]; exact rz_0
theorem y_dg (hS : MShape M) (hu : YT M u) (h6 : g 6 = zi (len : Int)) (hl : len ≤ 700) {i : Nat} (hi : i ≤ len) : g_X10_isDigit n (YX M g A) 139 (zi (i : Int)) = some (if i < len ∧ isDg (u i) = true then zi 1 else zi 0, YX M g A) := by
  unfold g_X10_isDigit
  rw [y_gI hS, i_sb, h6]
  by_cases c : i < len
  · have hb := (hu.1 i (by omega)).2
    have e1 : (zi (u i) < (48 : Int32)) = (u i < 48) := zi_lt (b := 48) (by omega) (by omega) (by omega) (by omega)
    have e2 : ((57 : Int32) < zi (u i)) = (57 < u i) := zi_lt (a := 57) (by omega) (by omega) (by omega) (by omega)
    rw [if_neg (by rw [zi_le (by omega) (by omega) (by omega) (by omega)]; omega), y_o0 hS, i_sb, y_tp hS hu (by omega), i_sb]
    by_cases d1 : u i < 48
    · rw [if_pos (by rw [e1]; exact d1), if_neg (fun q => by have := of_decide_eq_true q.2; omega)]; exact rz_0
    · rw [if_neg (by rw [e1]; exact d1), i_sb, y_tp hS hu (by omega), i_sb]
      by_cases d2 : 57 < u i
      · rw [if_pos (by rw [e2]; exact d2), if_neg (fun q => by have := of_decide_eq_true q.2; omega)]; exact rz_0
      · rw [if_neg (by rw [e2]; exact d2), if_pos ⟨c, decide_eq_true (by omega)⟩]; exact rz_1
  · rw [if_pos (by rw [zi_le (by omega) (by omega) (by omega) (by omega)]; omega), if_neg (fun q => c q.1)]; exact rz_0
theorem y_pk (hS : MShape M) (hu : YT M u) {s t : Nat} (ht : t ≤ 700) (hst : s < t) (hn : 10 < n) : g_X10_packed n (YX M g A) 139 (zi (s : Int)) (zi (t : Int)) = some (pkMf u s t 6, YX M g A) := by
  have key := loop_k (step := fun (s_1 : MemT × Int32 × Int32) => (fun (M1 : MemT) (v2 : Int32) (v3 : Int32) => (if (zi (s : Int) + 6) ≤ v3 then some (.inr (M1, v2, v3)) else (if zi (t : Int) ≤ v3 then some (.inl (M1, (v2 <<< (5 &&& 31)) ||| 0, v3 + 1)) else (gO M1 8 139 0).bind (fun j5 => (aI M1 10 j5 v3).bind (fun v6 => (some (.inl (M1, (v2 <<< (5 &&& 31)) ||| (v6 - 96), v3 + 1)) : Option ((MemT × Int32 × Int32) ⊕ (MemT × Int32 × Int32)))))))) s_1.1 s_1.2.1 s_1.2.2) (fun i : Nat => (YX M g A, pkMf u s t i, zi ((s + i : Nat) : Int))) (YX M g A, pkMf u s t 6, zi ((s + 6 : Nat) : Int)) 6 (fun i hi => ?_) ?_ n (by omega)
  · unfold g_X10_packed
    dsimp only at key
    rw [show (YX M g A, (0 : Int32), zi (s : Int)) = (YX M g A, pkMf u s t 0, zi ((s + 0 : Nat) : Int)) from rfl, key, i_sb]
  · dsimp only
    have e6 : (zi (s : Int) + 6 ≤ zi ((s + i : Nat) : Int)) = False := by
      show (zi (s : Int) + zi 6 ≤ _) = False
      rw [zi_add, zi_le (by omega) (by omega) (by omega) (by omega)]
      exact eq_false (by omega)
    rw [if_neg (by rw [e6]; exact fun q => q), show zi ((s + i : Nat) : Int) + 1 = zi ((s + (i + 1) : Nat) : Int) from zi_add _ 1]
    by_cases c : s + i < t
    · rw [if_neg (by rw [zi_le (by omega) (by omega) (by omega) (by omega)]; omega), y_o0 hS, i_sb, y_tp hS hu (by omega), i_sb]
      show _ = some (Sum.inl (YX M g A, (pkMf u s t i <<< (5 &&& 31)) ||| (if s + i < t then zi (u (s + i)) - 96 else 0), _))
      rw [if_pos c]
    · rw [if_pos (by rw [zi_le (by omega) (by omega) (by omega) (by omega)]; omega)]
      show _ = some (Sum.inl (YX M g A, (pkMf u s t i <<< (5 &&& 31)) ||| (if s + i < t then zi (u (s + i)) - 96 else 0), _))
      rw [if_neg c]
  · dsimp only
    rw [if_pos (by show zi (s : Int) + zi 6 ≤ zi ((s + 6 : Nat) : Int); rw [zi_add]; exact Int32.le_refl _)]
theorem y_word (hS : MShape M) (hu : YT M u) {s t : Nat} (hst : s ≤ t) (ht : t ≤ 700) (hn : 20 < n) : g_X10_wordAt n (YX M g A) 139 (zi (s : Int)) (zi (t : Int)) = some (match fnd (mtM u s t) 0 13 with | some k => zi (k : Int) | none => -1, YX M g A) := by
  have gL : aL (YX M g A) 141 = some (zi 68) := i_aLg (M := YX M g A) (N := 68) (show 10 ≤ mK M 141 ∧ mK M 141 < 16 by rw [hS.2.2.1.2.1]; omega) hu.2.2
  have len1 : ∀ k, k < 13 → loopF (fun (s : MemT × Int32) => (fun (M7 : MemT) (v8 : Int32) => (gO M7 8 139 3).bind (fun j10 => (aI M7 10 j10 (zi (wOff k : Int) + v8)).bind (fun v11 => (if v11 = 32 then (some (.inr (M7, v8)) : Option ((MemT × Int32) ⊕ (MemT × Int32))) else some (.inl (M7, v8 + 1)))))) s.1 s.2) n (YX M g A, 0) = some (YX M g A, zi (wLnM k : Int)) := fun k hk => by
    obtain ⟨h1, h2, h3, h4⟩ := wD_v k hk
    have h7 := (wLn_7 k hk).2.1
    refine loop_k (fun i : Nat => (YX M g A, zi (i : Int))) _ (wLnM k) (fun i hi => ?_) ?_ n (by omega)
    · obtain ⟨q1, q2, q3⟩ := h4 i hi
      dsimp only
      rw [y_o3 hS, i_sb, zi_add, show ((wOff k : Int) + (i : Int)) = ((wOff k + i : Nat) : Int) by omega, y_wd hS hu (by omega), i_sb, if_neg (by show ¬ (zi (WD (wOff k + i)) = zi 32); rw [zi_eq (by omega) (by omega) (by omega) (by omega)]; exact q1), show zi (i : Int) + 1 = zi ((i + 1 : Nat) : Int) from zi_add (i : Int) 1]
    · dsimp only
      rw [y_o3 hS, i_sb, zi_add, show ((wOff k : Int) + (wLnM k : Int)) = ((wOff k + wLnM k : Nat) : Int) by omega, y_wd hS hu (by omega), i_sb, h3, if_pos (show zi 32 = (32 : Int32) from rfl)]
  have inner : ∀ k, k < 13 → wLnM k = t - s → ∃ v i, loopF (fun (s_1 : MemT × Int32 × Int32) => (fun (M17 : MemT) (v18 : Int32) (v19 : Int32) => (if zi (wLnM k : Int) ≤ v19 then some (.inr (M17, v18, v19)) else (if v18 = 0 then some (.inr (M17, v18, v19)) else (gO M17 8 139 3).bind (fun j21 => (aI M17 10 j21 (zi (wOff k : Int) + v19)).bind (fun v22 => (gO M17 8 139 0).bind (fun j23 => (aI M17 10 j23 (zi (s : Int) + v19)).bind (fun v24 => (if v22 = v24 then (some (.inl (M17, 1, v19 + 1)) : Option ((MemT × Int32 × Int32) ⊕ (MemT × Int32 × Int32))) else some (.inl (M17, 0, v19 + 1)))))))))) s_1.1 s_1.2.1 s_1.2.2) n (YX M g A, 1, 0) = some (YX M g A, v, i) ∧ v = (if eqW (fun j => WD (wOff k + j)) u s (wLnM k) then 1 else 0) := fun k hk hL => by
    obtain ⟨h1, h2, h3, h4⟩ := wD_v k hk
    have h7 := (wLn_7 k hk).2.1
    have cl := cmp_loop (step := fun (s_1 : MemT × Int32 × Int32) => (fun (M17 : MemT) (v18 : Int32) (v19 : Int32) => (if zi (wLnM k : Int) ≤ v19 then some (.inr (M17, v18, v19)) else (if v18 = 0 then some (.inr (M17, v18, v19)) else (gO M17 8 139 3).bind (fun j21 => (aI M17 10 j21 (zi (wOff k : Int) + v19)).bind (fun v22 => (gO M17 8 139 0).bind (fun j23 => (aI M17 10 j23 (zi (s : Int) + v19)).bind (fun v24 => (if v22 = v24 then (some (.inl (M17, 1, v19 + 1)) : Option ((MemT × Int32 × Int32) ⊕ (MemT × Int32 × Int32))) else some (.inl (M17, 0, v19 + 1)))))))))) s_1.1 s_1.2.1 s_1.2.2) (fun i : Nat => (YX M g A, (1 : Int32), zi (i : Int))) (fun i : Nat => (YX M g A, (0 : Int32), zi (i : Int))) (fun j => WD (wOff k + j)) u s (wLnM k) (YX M g A, (1 : Int32), zi (wLnM k : Int)) (fun i : Nat => (YX M g A, (0 : Int32), zi (i : Int))) (fun i hi c => ?_) (fun i hi c => ?_) (fun i hi => ?_) ?_ (n := n) (by omega)
    · obtain ⟨tt, g1, g2⟩ := cl
      rcases g2 with ⟨q1, q2⟩ | ⟨q1, i, q2⟩
      · exact ⟨1, _, by rw [← q2]; exact g1, by rw [if_pos q1]⟩
      · exact ⟨0, _, by rw [← q2]; exact g1, by rw [if_neg (by rw [q1]; decide)]⟩
    · have hub := (hu.1 (s + i) (by omega)).2
      have hw := (h4 i hi).2
      dsimp only
      rw [if_neg (by rw [zi_le (by omega) (by omega) (by omega) (by omega)]; omega), if_neg (by decide), y_o3 hS, i_sb, zi_add, show ((wOff k : Int) + (i : Int)) = ((wOff k + i : Nat) : Int) by omega, y_wd hS hu (by omega), i_sb, y_o0 hS, i_sb, zi_add, show ((s : Int) + (i : Int)) = ((s + i : Nat) : Int) by omega, y_tp hS hu (by omega), i_sb, if_pos (congrArg zi c), show zi (i : Int) + 1 = zi ((i + 1 : Nat) : Int) from zi_add (i : Int) 1]
    · have hub := (hu.1 (s + i) (by omega)).2
      have hw := (h4 i hi).2
      dsimp only
      rw [if_neg (by rw [zi_le (by omega) (by omega) (by omega) (by omega)]; omega), if_neg (by decide), y_o3 hS, i_sb, zi_add, show ((wOff k : Int) + (i : Int)) = ((wOff k + i : Nat) : Int) by omega, y_wd hS hu (by omega), i_sb, y_o0 hS, i_sb, zi_add, show ((s : Int) + (i : Int)) = ((s + i : Nat) : Int) by omega, y_tp hS hu (by omega), i_sb, if_neg (by rw [zi_eq (by omega) (by omega) (by omega) (by omega)]; exact c), show zi (i : Int) + 1 = zi ((i + 1 : Nat) : Int) from zi_add (i : Int) 1]
    · dsimp only
      by_cases d : i = wLnM k
      · rw [if_pos (by rw [d]; exact Int32.le_refl _)]
      · rw [if_neg (by rw [zi_le (by omega) (by omega) (by omega) (by omega)]; omega), if_pos rfl]
    · dsimp only
      rw [if_pos (Int32.le_refl _)]
  have outer : ∀ k : Nat, k < 13 → ywStep n s t (YX M g A, zi (k : Int), zi (wOff k : Int)) = if mtM u s t k then some (.inr (zi (k : Int), YX M g A)) else some (.inl (YX M g A, zi ((k + 1 : Nat) : Int), zi (wOff (k + 1) : Int))) := fun k hk => by
    obtain ⟨h1, h2, h3, h4⟩ := wD_v k hk
    have h7 := (wLn_7 k hk).2.1
    have l1 := len1 k hk
    dsimp only at l1
    unfold ywStep
    dsimp only
    rw [y_o3 hS, i_sb, gL, i_sb, if_neg (by rw [zi_le (by omega) (by omega) (by omega) (by omega)]; omega), l1, i_sb]
    dsimp only
    rw [i_jp, zi_sub]
    have ek : zi (k : Int) + 1 = zi ((k + 1 : Nat) : Int) := zi_add (k : Int) 1
    have eo : zi (wOff k : Int) + (zi (wLnM k : Int) + 1) = zi (wOff (k + 1) : Int) := by
      show zi (wOff k : Int) + (zi (wLnM k : Int) + zi 1) = _
      rw [zi_add, zi_add, h1]
      exact congrArg zi (by omega)
    by_cases hL : wLnM k = t - s
    · obtain ⟨v, i, g1, g2⟩ := inner k hk hL
      dsimp only at g1
      rw [if_pos (show zi (wLnM k : Int) = zi ((t : Int) - (s : Int)) from congrArg zi (by omega))]
      dsimp only
      rw [g1, i_sb]
      dsimp only
      unfold mtM
      rw [decide_eq_true hL, Bool.true_and]
      by_cases c : eqW (fun j => WD (wOff k + j)) u s (wLnM k) = true
      · rw [if_pos c] at g2 ⊢
        rw [if_neg (by rw [g2]; decide)]
      · rw [if_neg c] at g2 ⊢
        rw [if_pos g2, ek, eo]
    · rw [if_neg (by rw [zi_eq (by omega) (by omega) (by omega) (by omega)]; omega)]
      dsimp only
      rw [loop1 (t := (YX M g A, (0 : Int32), (0 : Int32))) (by dsimp only; rw [if_neg (by show ¬ (zi (wLnM k : Int) ≤ zi 0); rw [zi_le (by omega) (by omega) (by omega) (by omega)]; have := (wLn_7 k hk).2.2.2; omega), if_pos rfl]) (by omega), i_sb]
      dsimp only
      rw [if_pos rfl, ek, eo]
      unfold mtM
      rw [decide_eq_false hL, Bool.false_and]
      rfl
  have key := loop_find (step := ywStep n s t) (fun i : Nat => (YX M g A, zi (i : Int), zi (wOff i : Int))) (fun i => (zi (i : Int), YX M g A)) (-1, YX M g A) 13 (mtM u s t) (fun i hi c => (outer i hi).trans (by rw [if_neg (by rw [c]; decide)])) (fun i hi c => (outer i hi).trans (by rw [if_pos c])) ?_ n (by omega)
  · refine Eq.trans key ?_
    cases fnd (mtM u s t) 0 13 with
    | none => rfl
    | some k => rfl
  · unfold ywStep
    dsimp only
    rw [y_o3 hS, i_sb, gL, i_sb, if_pos (by show zi 68 ≤ zi ((68 : Nat) : Int); exact Int32.le_refl _)]
end M23
