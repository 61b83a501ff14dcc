/-! ===== PURE 96: the reference: a text's end: the bank laid anew ===== -/
def ktTail (n : Nat) (M20 : MemT) : Option (Unit × MemT) := (loopF (fun (s : MemT × Int32) => (fun (M21 : MemT) (v22 : Int32) => (if 2468 ≤ v22 then some (.inr (M21, v22)) else chk M21 8 139 (bd (g_X10_lay n M21 139 v22 0) (fun r24 M25 => some (.inl (M25, v22 + 1)))))) s.1 s.2) n (M20, 0)).bind (fun (s : MemT × Int32) => (fun (M26 : MemT) (v27 : Int32) => (loopF (fun (s : MemT × Int32) => (fun (M28 : MemT) (v29 : Int32) => (gI M28 8 139 11).bind (fun v31 => (if v31 ≤ v29 then some (.inr (M28, v29)) else chk M28 8 139 (bd (g_X10_told1 n M28 139 v29 4) (fun r32 M33 => chk M33 8 139 (bd (g_X10_lay n M33 139 (1281 + (2 * v29)) r32) (fun r34 M35 => chk M35 8 139 (bd (g_X10_told1 n M35 139 v29 5) (fun r36 M37 => chk M37 8 139 (bd (g_X10_lay n M37 139 ((1281 + (2 * v29)) + 1) r36) (fun r38 M39 => some (.inl (M39, v29 + 1))))))))))))) s.1 s.2) n (M26, 0)).bind (fun (s : MemT × Int32) => (fun (M40 : MemT) (v41 : Int32) => chk M40 8 139 (bd (g_X10_comesNow n M40 139) (fun r42 M43 => some ((), M43)))) s.1 s.2)) s.1 s.2)
def zeB (B : Int → Int) (i : Nat) : Int → Int := fun k => if 0 ≤ k ∧ k < i then 0 else B k
def hdL (B tr : Int → Int) : Nat → Int → Int
  | 0 => B
  | i + 1 => upZ (upZ (hdL B tr i) (1281 + 2 * (i : Int)) (tr (8 * (i : Int) + 4))) (1281 + 2 * (i : Int) + 1) (tr (8 * (i : Int) + 5))
def cpA (A : Nat → Nat → Int32) (o N i : Nat) : Nat → Nat → Int32 := fun x k => if x = o ∧ k < i then A o (N + k) else A x k
section M41
variable {M : MemT} {g : Nat → Int32} {A : Nat → Nat → Int32} {n : Nat} {nt : Int} {T tr sl bu as B S : Int → Int} {ho ha : Int} {sm : Int32}
theorem WC_cg {B' : Int → Int} (h : ∀ k : Int, 0 ≤ k → k < 2468 → B k = B' k) : WC M 0 B S ho ha sm = WC M 0 B' S ho ha sm := by
  unfold WC
  refine Prod.ext rfl (Prod.ext rfl (Prod.ext rfl (Prod.ext rfl (Prod.ext ?_ rfl))))
  funext x k
  show (if x = 147 then (if 2468 * 0 ≤ (k : Int) ∧ (k : Int) < 2468 * 0 + 2468 then zi (B ((k : Int) - 2468 * 0)) else mI M 147 k) else if x = 139 ∧ k = 27 then sm else mI M x k) = (if x = 147 then (if 2468 * 0 ≤ (k : Int) ∧ (k : Int) < 2468 * 0 + 2468 then zi (B' ((k : Int) - 2468 * 0)) else mI M 147 k) else if x = 139 ∧ k = 27 then sm else mI M x k)
  by_cases c : 2468 * 0 ≤ (k : Int) ∧ (k : Int) < 2468 * 0 + 2468
  · rw [if_pos c, if_pos c, h _ (by omega) (by omega)]
  · rw [if_neg c, if_neg c]
theorem hdL_v (hnt : 0 ≤ nt ∧ nt ≤ 4) : ∀ i : Nat, (i : Int) ≤ nt → ∀ k : Int, 0 ≤ k → k < 2468 → hdL (zeB B 2468) tr i k = hdB (i : Int) tr k := by
  intro i
  induction i with
  | zero =>
    intro _ k k0 k1
    show zeB B 2468 k = _
    unfold zeB hdB
    rw [if_pos (by omega), if_neg (by omega)]
  | succ i ih =>
    intro hi k k0 k1
    have ih' := ih (by omega) k k0 k1
    show upZ (upZ (hdL (zeB B 2468) tr i) (1281 + 2 * (i : Int)) (tr (8 * (i : Int) + 4))) (1281 + 2 * (i : Int) + 1) (tr (8 * (i : Int) + 5)) k = _
    by_cases c1 : k = 1281 + 2 * (i : Int) + 1
    · rw [c1, upZ_self, show 1281 + 2 * (i : Int) + 1 = 1282 + 2 * (i : Int) by omega, hdB_a (by omega) (by omega)]
    · rw [upZ_ne c1]
      by_cases c2 : k = 1281 + 2 * (i : Int)
      · rw [c2, upZ_self, hdB_o (by omega) (by omega)]
      · rw [upZ_ne c2, ih']
        unfold hdB
        by_cases c3 : 1281 ≤ k ∧ k < 1281 + 2 * (i : Int)
        · rw [if_pos c3, if_pos (show 1281 ≤ k ∧ k < 1281 + 2 * ((i + 1 : Nat) : Int) by omega)]
        · rw [if_neg c3, if_neg (show ¬ (1281 ≤ k ∧ k < 1281 + 2 * ((i + 1 : Nat) : Int)) by omega)]
theorem m_tail (h : MOk M 0 nt T tr sl bu as) (hnt : 0 ≤ nt ∧ nt ≤ 4) (hr : RowsOk T sl bu as) (hn : 3000 < n) : ktTail n (WC M 0 B S ho ha sm) = some ((), WC M 0 (comZ T sl bu as (hdB nt tr)) S ho ha sm) := by
  have k8 : mK M 139 = 8 := h.1.1
  have kk : ∀ B', mK (WC M 0 B' S ho ha sm) 139 = 8 := fun _ => k8
  have i11 : ∀ B', mI (WC M 0 B' S ho ha sm) 139 11 = zi nt := fun B' => h.2.2.2.1
  have z1 := loop_k (step := fun (s : MemT × Int32) => (fun (M21 : MemT) (v22 : Int32) => (if 2468 ≤ v22 then some (.inr (M21, v22)) else chk M21 8 139 (bd (g_X10_lay n M21 139 v22 0) (fun r24 M25 => (some (.inl (M25, v22 + 1)) : Option ((MemT × Int32) ⊕ (MemT × Int32))))))) s.1 s.2) (fun i : Nat => (WC M 0 (zeB B i) S ho ha sm, zi (i : Int))) (WC M 0 (zeB B 2468) S ho ha sm, zi ((2468 : Nat) : Int)) 2468 (fun i hi => ?_) ?_ n (by omega)
  · have z2 := loop_k (step := fun (s : MemT × Int32) => (fun (M28 : MemT) (v29 : Int32) => (gI M28 8 139 11).bind (fun v31 => (if v31 ≤ v29 then some (.inr (M28, v29)) else chk M28 8 139 (bd (g_X10_told1 n M28 139 v29 4) (fun r32 M33 => chk M33 8 139 (bd (g_X10_lay n M33 139 (1281 + (2 * v29)) r32) (fun r34 M35 => chk M35 8 139 (bd (g_X10_told1 n M35 139 v29 5) (fun r36 M37 => chk M37 8 139 (bd (g_X10_lay n M37 139 ((1281 + (2 * v29)) + 1) r36) (fun r38 M39 => (some (.inl (M39, v29 + 1)) : Option ((MemT × Int32) ⊕ (MemT × Int32)))))))))))))) s.1 s.2) (fun i : Nat => (WC M 0 (hdL (zeB B 2468) tr i) S ho ha sm, zi (i : Int))) (WC M 0 (hdL (zeB B 2468) tr nt.toNat) S ho ha sm, zi (nt.toNat : Int)) nt.toNat (fun i hi => ?_) ?_ n (by omega)
    · have e0 : zeB B 0 = B := funext fun k => if_neg (by omega)
      have e1 : WC M 0 (hdL (zeB B 2468) tr nt.toNat) S ho ha sm = WC M 0 (hdB nt tr) S ho ha sm := WC_cg (fun k k0 k1 => by rw [hdL_v hnt nt.toNat (by omega) k k0 k1, Int.toNat_of_nonneg hnt.1])
      dsimp only at z1 z2
      rw [e0] at z1
      unfold ktTail
      rw [show loopF _ n (WC M 0 B S ho ha sm, (0 : Int32)) = some (WC M 0 (zeB B 2468) S ho ha sm, zi ((2468 : Nat) : Int)) from z1, i_sb]
      dsimp only
      rw [show loopF _ n (WC M 0 (zeB B 2468) S ho ha sm, (0 : Int32)) = some (WC M 0 (hdL (zeB B 2468) tr nt.toNat) S ho ha sm, zi (nt.toNat : Int)) from z2, i_sb, e1]
      dsimp only
      rw [i_chk (kk _), m_comesNow h hr (by omega) (by rw [hdB_0 hnt.2 (by omega)]; omega) (by unfold BN; rw [hdB_0 hnt.2 (by omega)]; omega), i_bd]
    · dsimp only
      have hle : (zi nt ≤ zi (i : Int)) = (nt ≤ (i : Int)) := zi_le (by omega) (by omega) (by omega) (by omega)
      have ea : (1281 : Int32) + 2 * zi (i : Int) = zi (1281 + 2 * (i : Int)) := by
        show zi 1281 + zi 2 * zi (i : Int) = _
        rw [zi_mul, zi_add]
      have t4 : ∀ B', g_X10_told1 n (WC M 0 B' S ho ha sm) 139 (zi (i : Int)) 4 = some (zi (tr (8 * (i : Int) + 4)), WC M 0 B' S ho ha sm) := fun B' => m_told1 h (w := 4) (by omega) (by omega) (by omega) (by omega)
      have t5 : ∀ B', g_X10_told1 n (WC M 0 B' S ho ha sm) 139 (zi (i : Int)) 5 = some (zi (tr (8 * (i : Int) + 5)), WC M 0 B' S ho ha sm) := fun B' => m_told1 h (w := 5) (by omega) (by omega) (by omega) (by omega)
      rw [i_gI (kk _), i_sb, i11, if_neg (by rw [hle]; omega), i_chk (kk _), t4, i_bd, i_chk (kk _), ea, m_lay h (by omega) (by omega), i_bd, i_chk (kk _), t5, i_bd, i_chk (kk _), show zi (1281 + 2 * (i : Int)) + 1 = zi (1281 + 2 * (i : Int) + 1) from zi_add _ 1, m_lay h (by omega) (by omega), i_bd, show zi (i : Int) + 1 = zi ((i + 1 : Nat) : Int) from zi_add (i : Int) 1]
      rfl
    · dsimp only
      rw [i_gI (kk _), i_sb, i11, if_pos (by rw [Int.toNat_of_nonneg hnt.1]; exact Int32.le_refl _)]
  · dsimp only
    have es : upZ (zeB B i) (i : Int) 0 = zeB B (i + 1) := by
      funext k
      show (if k = (i : Int) then 0 else if 0 ≤ k ∧ k < (i : Int) then 0 else B k) = (if 0 ≤ k ∧ k < ((i + 1 : Nat) : Int) then 0 else B k)
      by_cases c1 : k = (i : Int)
      · rw [if_pos c1, if_pos (by omega)]
      · rw [if_neg c1]
        by_cases c2 : 0 ≤ k ∧ k < (i : Int)
        · rw [if_pos c2, if_pos (by omega)]
        · rw [if_neg c2, if_neg (by omega)]
    have hle : ((2468 : Int32) ≤ zi (i : Int)) = ((2468 : Int) ≤ (i : Int)) := zi_le (a := 2468) (by omega) (by omega) (by omega) (by omega)
    rw [if_neg (by rw [hle]; omega), i_chk (kk _), show g_X10_lay n (WC M 0 (zeB B i) S ho ha sm) 139 (zi (i : Int)) 0 = some ((), WC M 0 (upZ (zeB B i) (i : Int) 0) S ho ha sm) from m_lay h (k := (i : Int)) (v := 0) (by omega) (by omega), i_bd, es, show zi (i : Int) + 1 = zi ((i + 1 : Nat) : Int) from zi_add (i : Int) 1]
  · dsimp only
    rw [if_pos (show (2468 : Int32) ≤ zi ((2468 : Nat) : Int) by decide)]
theorem y_cp (hS : MShape M) {o N : Nat} (ho : o < 5) (hk : mK M (142 + o) = 10) (hl : mL M (142 + o) = 2 * N) (hN : N ≤ 48) (hn : 100 < n) : g_X10_copies n (YX M g A) (142 + o) (zi (N : Int)) = some ((), YX M g (cpA A o N N)) := by
  have e0 : cpA A o N 0 = A := funext fun x => funext fun k => if_neg (by omega)
  have es : ∀ i : Nat, i < N → up2 (cpA A o N i) o i (A o (N + i)) = cpA A o N (i + 1) := fun i hi => by
    funext x k
    show (if x = o ∧ k = i then A o (N + i) else if x = o ∧ k < i then A o (N + k) else A x k) = (if x = o ∧ k < i + 1 then A o (N + k) else A x k)
    by_cases c1 : x = o ∧ k = i
    · rw [if_pos c1, if_pos (by omega), c1.2]
    · rw [if_neg c1]
      by_cases c2 : x = o ∧ k < i
      · rw [if_pos c2, if_pos (by omega)]
      · rw [if_neg c2, if_neg (by omega)]
  have key := loop_k (step := fun (s : MemT × Int32) => (fun (M1 : MemT) (v2 : Int32) => (if zi (N : Int) ≤ v2 then some (.inr (M1, v2)) else (aI M1 10 (142 + o) (zi (N : Int) + v2)).bind (fun v4 => (wI M1 (142 + o) v2 v4).bind (fun M5 => (some (.inl (M5, v2 + 1)) : Option ((MemT × Int32) ⊕ (MemT × Int32))))))) s.1 s.2) (fun i : Nat => (YX M g (cpA A o N i), zi (i : Int))) (YX M g (cpA A o N N), zi (N : Int)) N (fun i hi => ?_) ?_ n (by omega)
  · unfold g_X10_copies
    dsimp only at key
    rw [e0] at key
    rw [show loopF _ n (YX M g A, (0 : Int32)) = some (YX M g (cpA A o N N), zi (N : Int)) from key, i_sb]
  · dsimp only
    have ev : cpA A o N i o (N + i) = A o (N + i) := if_neg (by omega)
    rw [if_neg (by rw [zi_le (by omega) (by omega) (by omega) (by omega)]; omega), zi_add, y_a (N := 2 * N) hS ho hk hl (by omega) (by omega) (by omega), i_sb, show ((N : Int) + (i : Int)).toNat = N + i by omega, ev, y_w (N := 2 * N) hS ho hk hl (by omega) (by omega) (by omega), i_sb, Int.toNat_natCast, es i hi, show zi (i : Int) + 1 = zi ((i + 1 : Nat) : Int) from zi_add (i : Int) 1]
  · dsimp only
    rw [if_pos (Int32.le_refl _)]
end M41
