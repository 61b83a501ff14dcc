/-! ===== PURE 2: the reference: its memory as values; reading, writing, arithmetic ===== -/
def MShape (M : MemT) : Prop :=
  mK M 139 = 8 ∧ (mR M 139 0 = some 140 ∧ mR M 139 3 = some 141 ∧ mR M 139 13 = some 142 ∧ mR M 139 14 = some 143 ∧ mR M 139 15 = some 144 ∧ mR M 139 16 = some 145 ∧ mR M 139 17 = some 146 ∧ mR M 139 20 = some 147 ∧ mR M 139 24 = some 148) ∧
  (mK M 140 = 10 ∧ mK M 141 = 10 ∧ mK M 142 = 10 ∧ mK M 143 = 10 ∧ mK M 144 = 10 ∧ mK M 145 = 10 ∧ mK M 146 = 10 ∧ mK M 147 = 10 ∧ mK M 148 = 13) ∧
  (mL M 140 = 700 ∧ mL M 142 = 64 ∧ mL M 143 = 96 ∧ mL M 144 = 96 ∧ mL M 145 = 40 ∧ mL M 146 = 14 ∧ mL M 147 = 56764 ∧ mL M 148 = 5)
def rowI (M : MemT) (x : Nat) (N : Int) (f : Int → Int) : Prop := ∀ k : Int, 0 ≤ k → k < N → mI M x k.toNat = zi (f k)
/-- shape, bank, what a text told -/
def MOk (M : MemT) (bk nt : Int) (T tr sl bu as : Int → Int) : Prop :=
  MShape M ∧ mI M 139 21 = zi bk ∧ (0 ≤ bk ∧ bk < 23) ∧ mI M 139 11 = zi nt ∧ rowI M 146 14 T ∧ rowI M 142 64 tr ∧ rowI M 143 96 sl ∧ rowI M 144 96 bu ∧ rowI M 145 40 as
/-- the memory with one bank and the scratch laid -/
def WC (M : MemT) (bk : Int) (B S : Int → Int) (ho ha : Int) (sm : Int32) : MemT :=
  (M.1, M.2.1, M.2.2.1, M.2.2.2.1,
   fun x k => if x = 147 then (if 2468 * bk ≤ (k : Int) ∧ (k : Int) < 2468 * bk + 2468 then zi (B ((k : Int) - 2468 * bk)) else mI M 147 k) else if x = 139 ∧ k = 27 then sm else mI M x k,
   fun x k => if x = 148 then zj (S (k : Int)) else if x = 139 ∧ k = 25 then zj ho else if x = 139 ∧ k = 26 then zj ha else mJ M x k)
def upZ (B : Int → Int) (j v : Int) : Int → Int := fun i => if i = j then v else B i
section MODEL
variable {M : MemT} {bk nt : Int} {T tr sl bu as B S : Int → Int} {ho ha : Int} {sm : Int32} {n : Nat}
theorem w_K : mK (WC M bk B S ho ha sm) = mK M := rfl
theorem w_L : mL (WC M bk B S ho ha sm) = mL M := rfl
theorem w_N : mN (WC M bk B S ho ha sm) = mN M := rfl
theorem w_R : mR (WC M bk B S ho ha sm) = mR M := rfl
theorem w_I {x k : Nat} (h1 : x ≠ 147) (h2 : ¬ (x = 139 ∧ k = 27)) : mI (WC M bk B S ho ha sm) x k = mI M x k := by
  show (if x = 147 then _ else if x = 139 ∧ k = 27 then sm else mI M x k) = _
  rw [if_neg h1, if_neg h2]
theorem w_Jsum {k : Nat} : mJ (WC M bk B S ho ha sm) 148 k = zj (S k) := rfl
theorem w_Jho : mJ (WC M bk B S ho ha sm) 139 25 = zj ho := rfl
theorem w_Jha : mJ (WC M bk B S ho ha sm) 139 26 = zj ha := rfl
theorem w_sm : mI (WC M bk B S ho ha sm) 139 27 = sm := rfl
theorem w_B {k : Int} (h0 : 0 ≤ k) (h1 : k < 2468) (hb : 0 ≤ bk) : mI (WC M bk B S ho ha sm) 147 (2468 * bk + k).toNat = zi (B k) := by
  show (if 2468 * bk ≤ (((2468 * bk + k).toNat : Nat) : Int) ∧ (((2468 * bk + k).toNat : Nat) : Int) < 2468 * bk + 2468 then zi (B ((((2468 * bk + k).toNat : Nat) : Int) - 2468 * bk)) else _) = _
  rw [Int.toNat_of_nonneg (by omega), if_pos (by omega)]
  congr 2; omega
theorem w_setB {k v : Int} (h0 : 0 ≤ k) (h1 : k < 2468) (hb : 0 ≤ bk) : sI (WC M bk B S ho ha sm) 147 (2468 * bk + k).toNat (zi v) = WC M bk (upZ B k v) S ho ha sm := by
  unfold sI WC
  refine Prod.ext rfl (Prod.ext rfl (Prod.ext rfl (Prod.ext rfl (Prod.ext ?_ rfl))))
  funext x j
  show (if x = 147 ∧ j = (2468 * bk + k).toNat then zi v else _) = _
  by_cases hx : x = 147
  · subst hx
    simp only [true_and, if_true]
    by_cases hj : j = (2468 * bk + k).toNat
    · rw [if_pos hj, if_pos (by omega)]
      unfold upZ
      rw [if_pos (by omega)]
    · rw [if_neg hj]
      by_cases hr : 2468 * bk ≤ (j : Int) ∧ (j : Int) < 2468 * bk + 2468
      · rw [if_pos hr, if_pos hr]
        unfold upZ
        rw [if_neg (by omega)]
      · rw [if_neg hr, if_neg hr]
  · simp only [hx, false_and, if_false]
theorem w_setS {k v : Int} (h0 : 0 ≤ k) : sJ (WC M bk B S ho ha sm) 148 k.toNat (zj v) = WC M bk B (upZ S k v) ho ha sm := by
  unfold sJ WC
  refine Prod.ext rfl (Prod.ext rfl (Prod.ext rfl (Prod.ext rfl (Prod.ext rfl ?_))))
  funext x j
  show (if x = 148 ∧ j = k.toNat then zj v else _) = _
  by_cases hx : x = 148
  · subst hx
    simp only [true_and, if_true]
    unfold upZ
    by_cases hj : j = k.toNat
    · rw [if_pos hj, if_pos (by omega)]
    · rw [if_neg hj, if_neg (by omega)]
  · simp only [hx, false_and, if_false]
theorem w_setho {v : Int} : sJ (WC M bk B S ho ha sm) 139 25 (zj v) = WC M bk B S v ha sm := by
  unfold sJ WC
  refine Prod.ext rfl (Prod.ext rfl (Prod.ext rfl (Prod.ext rfl (Prod.ext rfl ?_))))
  funext x j
  show (if x = 139 ∧ j = 25 then zj v else _) = _
  by_cases hx : x = 139 ∧ j = 25
  · obtain ⟨rfl, rfl⟩ := hx; rfl
  · simp only [hx, if_false]
theorem w_setha {v : Int} : sJ (WC M bk B S ho ha sm) 139 26 (zj v) = WC M bk B S ho v sm := by
  unfold sJ WC
  refine Prod.ext rfl (Prod.ext rfl (Prod.ext rfl (Prod.ext rfl (Prod.ext rfl ?_))))
  funext x j
  show (if x = 139 ∧ j = 26 then zj v else _) = _
  by_cases hx : x = 139 ∧ j = 26
  · obtain ⟨rfl, rfl⟩ := hx; rfl
  · simp only [hx, if_false]
theorem w_setsm {v : Int32} : sI (WC M bk B S ho ha sm) 139 27 v = WC M bk B S ho ha v := by
  unfold sI WC
  refine Prod.ext rfl (Prod.ext rfl (Prod.ext rfl (Prod.ext rfl (Prod.ext ?_ rfl))))
  funext x j
  show (if x = 139 ∧ j = 27 then v else _) = _
  by_cases hx : x = 139 ∧ j = 27
  · obtain ⟨rfl, rfl⟩ := hx; rfl
  · simp only [hx, if_false]
theorem i_aI {M : MemT} {κ x : Nat} {k N : Int} (hk : mK M x = κ) (hl : (mL M x : Int) = N) (h0 : 0 ≤ k) (h1 : k < N) (h2 : N ≤ 2147483647) : aI M κ x (zi k) = some (mI M x k.toNat) := by
  unfold aI inA
  have e0 : ¬ (zi k < 0 ∨ mL M x ≤ (zi k).toNatClampNeg) := by
    show ¬ (zi k < zi 0 ∨ _)
    rw [zi_lt (by omega) (by omega) (by omega) (by omega), zi_tn (by omega) h0]
    omega
  rw [if_pos ⟨hk, e0⟩, zi_tn (by omega) h0]
theorem i_aJ {M : MemT} {x : Nat} {k N : Int} (hk : mK M x = 13) (hl : (mL M x : Int) = N) (h0 : 0 ≤ k) (h1 : k < N) (h2 : N ≤ 2147483647) : aJ M x (zi k) = some (mJ M x k.toNat) := by
  unfold aJ inA
  have e0 : ¬ (zi k < 0 ∨ mL M x ≤ (zi k).toNatClampNeg) := by
    show ¬ (zi k < zi 0 ∨ _)
    rw [zi_lt (by omega) (by omega) (by omega) (by omega), zi_tn (by omega) h0]
    omega
  rw [if_pos ⟨hk, e0⟩, zi_tn (by omega) h0]
theorem i_wI {M : MemT} {x : Nat} {k N : Int} {v : Int32} (hk : mK M x = 10) (hl : (mL M x : Int) = N) (h0 : 0 ≤ k) (h1 : k < N) (h2 : N ≤ 2147483647) : wI M x (zi k) v = some (sI M x k.toNat v) := by
  unfold wI inA
  have e0 : ¬ (zi k < 0 ∨ mL M x ≤ (zi k).toNatClampNeg) := by
    show ¬ (zi k < zi 0 ∨ _)
    rw [zi_lt (by omega) (by omega) (by omega) (by omega), zi_tn (by omega) h0]
    omega
  rw [if_pos ⟨hk, e0⟩, zi_tn (by omega) h0]
theorem i_wJ {M : MemT} {x : Nat} {k N : Int} {v : Int64} (hk : mK M x = 13) (hl : (mL M x : Int) = N) (h0 : 0 ≤ k) (h1 : k < N) (h2 : N ≤ 2147483647) : wJ M x (zi k) v = some (sJ M x k.toNat v) := by
  unfold wJ inA
  have e0 : ¬ (zi k < 0 ∨ mL M x ≤ (zi k).toNatClampNeg) := by
    show ¬ (zi k < zi 0 ∨ _)
    rw [zi_lt (by omega) (by omega) (by omega) (by omega), zi_tn (by omega) h0]
    omega
  rw [if_pos ⟨hk, e0⟩, zi_tn (by omega) h0]
theorem i_gI {M : MemT} {c x k : Nat} (hk : mK M x = c) : gI M c x k = some (mI M x k) := if_pos hk
theorem i_gJ {M : MemT} {c x k : Nat} (hk : mK M x = c) : gJ M c x k = some (mJ M x k) := if_pos hk
theorem i_gO {M : MemT} {c x k j : Nat} (hk : mK M x = c) (hr : mR M x k = some j) : gO M c x k = some j := (if_pos hk).trans hr
theorem i_pJ {M : MemT} {c x k : Nat} {v : Int64} (hk : mK M x = c) : pJ M c x k v = some (sJ M x k v) := if_pos hk
theorem i_pI {M : MemT} {c x k : Nat} {v : Int32} (hk : mK M x = c) : pI M c x k v = some (sI M x k v) := if_pos hk
theorem i_pZ {M : MemT} {c x k : Nat} {v : Int32} (hk : mK M x = c) (hv : v = 0 ∨ v = 1) : pZ M c x k v = some (sI M x k v) := if_pos ⟨hk, hv⟩
theorem i_chk {β : Type} {M : MemT} {c x : Nat} {e : Option β} (hk : mK M x = c) : chk M c x e = e := if_pos hk
theorem i_bd {α β : Type} {a : α} {M : MemT} {f : α → MemT → Option β} : bd (some (a, M)) f = f a M := rfl
theorem i_sb {α β : Type} {a : α} {f : α → Option β} : (some a).bind f = f a := rfl
theorem i_jp {σ T : Type} (f : σ → Option T) (e : (σ → Option T) → Option T) : jp f e = e f := rfl
/-! what the reference's words are -/
theorem m_all (h : MOk M bk nt T tr sl bu as) : gO (WC M bk B S ho ha sm) 8 139 20 = some 147 := i_gO h.1.1 h.1.2.1.2.2.2.2.2.2.2.1
theorem m_sum (h : MOk M bk nt T tr sl bu as) : gO (WC M bk B S ho ha sm) 8 139 24 = some 148 := i_gO h.1.1 h.1.2.1.2.2.2.2.2.2.2.2
theorem m_tr (h : MOk M bk nt T tr sl bu as) : gO (WC M bk B S ho ha sm) 8 139 13 = some 142 := i_gO h.1.1 h.1.2.1.2.2.1
theorem m_told (h : MOk M bk nt T tr sl bu as) : gO (WC M bk B S ho ha sm) 8 139 17 = some 146 := i_gO h.1.1 h.1.2.1.2.2.2.2.2.2.1
theorem m_bank (h : MOk M bk nt T tr sl bu as) : gI (WC M bk B S ho ha sm) 8 139 21 = some (zi bk) := by
  rw [i_gI (M := WC M bk B S ho ha sm) h.1.1, w_I (by decide) (by decide), h.2.1]
theorem m_chk {β : Type} {e : Option β} (h : MOk M bk nt T tr sl bu as) : chk (WC M bk B S ho ha sm) 8 139 e = e := i_chk h.1.1
theorem m_of (h : MOk M bk nt T tr sl bu as) {k : Int} (h0 : 0 ≤ k) (h1 : k < 2468) : g_X10_of n (WC M bk B S ho ha sm) 139 (zi k) = some (zi (B k), WC M bk B S ho ha sm) := by
  obtain ⟨hS, hb, ⟨hb0, hb1⟩, -⟩ := id h
  unfold g_X10_of
  rw [m_all h, i_sb, m_bank h, i_sb]
  show (aI _ 10 147 (zi 2468 * zi bk + zi k)).bind _ = _
  rw [zi_mul, zi_add, i_aI (M := WC M bk B S ho ha sm) (N := 56764) hS.2.2.1.2.2.2.2.2.2.2.1 (by rw [w_L, hS.2.2.2.2.2.2.2.2.2.1]; rfl) (by omega) (by omega) (by omega), i_sb, w_B h0 h1 hb0]
theorem m_lay (h : MOk M bk nt T tr sl bu as) {k v : Int} (h0 : 0 ≤ k) (h1 : k < 2468) : g_X10_lay n (WC M bk B S ho ha sm) 139 (zi k) (zi v) = some ((), WC M bk (upZ B k v) S ho ha sm) := by
  obtain ⟨hS, hb, ⟨hb0, hb1⟩, -⟩ := id h
  unfold g_X10_lay
  rw [m_all h, i_sb, m_bank h, i_sb]
  show (wI _ 147 (zi 2468 * zi bk + zi k) _).bind _ = _
  rw [zi_mul, zi_add, i_wI (M := WC M bk B S ho ha sm) (N := 56764) hS.2.2.1.2.2.2.2.2.2.2.1 (by rw [w_L, hS.2.2.2.2.2.2.2.2.2.1]; rfl) (by omega) (by omega) (by omega), i_sb, w_setB h0 h1 hb0]
theorem m_add (h : MOk M bk nt T tr sl bu as) {k v : Int} (h0 : 0 ≤ k) (h1 : k < 2468) : g_X10_add n (WC M bk B S ho ha sm) 139 (zi k) (zi v) = some ((), WC M bk (upZ B k (B k + v)) S ho ha sm) := by
  unfold g_X10_add
  rw [m_chk h, m_of h h0 h1, i_bd, m_chk h, zi_add, m_lay h h0 h1, i_bd]
theorem m_at (h : MOk M bk nt T tr sl bu as) {a k : Int} (h0 : 0 ≤ a) (h1 : a < 8) (h2 : 0 ≤ k) (h3 : k < 48) : g_X10_at n (WC M bk B S ho ha sm) 139 (zi a) (zi k) = some (zi (B (2084 + 48 * a + k)), WC M bk B S ho ha sm) := by
  unfold g_X10_at
  show chk _ 8 139 (bd (g_X10_of n _ 139 (zi 2084 + zi 48 * zi a + zi k)) _) = _
  rw [zi_mul, zi_add, zi_add, m_chk h, m_of h (by omega) (by omega), i_bd]
theorem m_put (h : MOk M bk nt T tr sl bu as) {a k v : Int} (h0 : 0 ≤ a) (h1 : a < 8) (h2 : 0 ≤ k) (h3 : k < 48) : g_X10_put n (WC M bk B S ho ha sm) 139 (zi a) (zi k) (zi v) = some ((), WC M bk (upZ B (2084 + 48 * a + k) v) S ho ha sm) := by
  unfold g_X10_put
  show chk _ 8 139 (bd (g_X10_lay n _ 139 (zi 2084 + zi 48 * zi a + zi k) _) _) = _
  rw [zi_mul, zi_add, zi_add, m_chk h, m_lay h (by omega) (by omega), i_bd]
theorem m_told1 (h : MOk M bk nt T tr sl bu as) {t w : Int} (h0 : 0 ≤ t) (h1 : t < 4) (h2 : 0 ≤ w) (h3 : w < 8) : g_X10_told1 n (WC M bk B S ho ha sm) 139 (zi t) (zi w) = some (zi (tr (8 * t + w)), WC M bk B S ho ha sm) := by
  obtain ⟨hS, -, -, -, -, hr, -⟩ := id h
  unfold g_X10_told1
  rw [m_tr h, i_sb]
  show (aI _ 10 142 (zi 8 * zi t + zi w)).bind _ = _
  rw [zi_mul, zi_add, i_aI (M := WC M bk B S ho ha sm) (N := 64) hS.2.2.1.2.2.1 (by rw [w_L, hS.2.2.2.2.1]; rfl) (by omega) (by omega) (by omega), i_sb, w_I (by decide) (by simp), hr _ (by omega) (by omega)]
theorem m_T (h : MOk M bk nt T tr sl bu as) {w : Int} (h2 : 0 ≤ w) (h3 : w < 14) : aI (WC M bk B S ho ha sm) 10 146 (zi w) = some (zi (T w)) := by
  obtain ⟨hS, -, -, -, hr, -⟩ := id h
  rw [i_aI (M := WC M bk B S ho ha sm) (N := 14) hS.2.2.1.2.2.2.2.2.2.1 (by rw [w_L, hS.2.2.2.2.2.2.2.2.1]; rfl) (by omega) (by omega) (by omega), w_I (by decide) (by simp), hr _ (by omega) (by omega)]
theorem m_sumAt {M : MemT} {m : Nat} {t q w : Int} : g_X10_sumAt n M m (zi t) (zi q) (zi w) = some (zi (1 + 320 * t + 5 * q + w), M) := by
  unfold g_X10_sumAt
  show some (zi 1 + zi 320 * zi t + zi 5 * zi q + zi w, M) = _
  rw [zi_mul, zi_mul, zi_add, zi_add, zi_add]
theorem m_S (h : MOk M bk nt T tr sl bu as) {w : Int} (h2 : 0 ≤ w) (h3 : w < 5) : aJ (WC M bk B S ho ha sm) 148 (zi w) = some (zj (S w)) := by
  obtain ⟨hS, -⟩ := id h
  rw [i_aJ (M := WC M bk B S ho ha sm) (N := 5) hS.2.2.1.2.2.2.2.2.2.2.2 (by rw [w_L, hS.2.2.2.2.2.2.2.2.2.2]; rfl) (by omega) (by omega) (by omega), w_Jsum, Int.toNat_of_nonneg h2]
theorem m_wS (h : MOk M bk nt T tr sl bu as) {w v : Int} (h2 : 0 ≤ w) (h3 : w < 5) : wJ (WC M bk B S ho ha sm) 148 (zi w) (zj v) = some (WC M bk B (upZ S w v) ho ha sm) := by
  obtain ⟨hS, -⟩ := id h
  rw [i_wJ (M := WC M bk B S ho ha sm) (N := 5) hS.2.2.1.2.2.2.2.2.2.2.2 (by rw [w_L, hS.2.2.2.2.2.2.2.2.2.2]; rfl) (by omega) (by omega) (by omega), w_setS h2]
end MODEL
