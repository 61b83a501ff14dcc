/-! ===== PURE 3: the reference's arithmetic ===== -/
def S0 : Int → Int := fun _ => 0
/-- the first k of the five sums laid to 0 -/
def zS (S : Int → Int) (k : Nat) : Int → Int := fun i => if 0 ≤ i ∧ i < k then 0 else S i
/-- .. the first k of the five with the sums of a quarter added -/
def aS (B S : Int → Int) (t q : Int) (k : Nat) : Int → Int := fun i => if 0 ≤ i ∧ i < k then S i + B (1 + 320 * t + 5 * q + i) else S i
def r31 (x : Int) : Prop := -2147483648 ≤ x ∧ x ≤ 2147483647
section MARITH
variable {M : MemT} {bk nt : Int} {T tr sl bu as B S : Int → Int} {ho ha : Int} {sm : Int32} {n : Nat}
theorem upZ_self {B : Int → Int} {j v : Int} : upZ B j v j = v := if_pos rfl
theorem upZ_ne {B : Int → Int} {i j v : Int} (h : i ≠ j) : upZ B j v i = B i := if_neg h
theorem m_layNone (h : MOk M bk nt T tr sl bu as) (hn : 5 < n) : g_X10_layNone n (WC M bk B S ho ha sm) 139 = some ((), WC M bk B (zS S 5) 0 0 sm) := by
  unfold g_X10_layNone
  have hl := loop_k (step := fun (s : MemT × Int32) => (fun (M1 : MemT) (v2 : Int32) => (if 5 ≤ v2 then (some (.inr (M1, v2)) : Option ((MemT × Int32) ⊕ (MemT × Int32))) else (gO M1 8 139 24).bind (fun j4 => (wJ M1 j4 v2 0).bind (fun M5 => some (.inl (M5, v2 + 1)))))) s.1 s.2)
    (fun i => (WC M bk B (zS S i) ho ha sm, zi i)) (WC M bk B (zS S 5) ho ha sm, zi 5) 5 (fun i hi => ?_) ?_ n hn
  · have e0 : (WC M bk B S ho ha sm, (0 : Int32)) = (WC M bk B (zS S 0) ho ha sm, zi ((0 : Nat) : Int)) := by
      have : zS S 0 = S := by funext i; unfold zS; rw [if_neg (by omega)]
      rw [this]; rfl
    rw [e0, hl, i_sb]
    dsimp only
    rw [i_pJ (M := WC M bk B (zS S 5) ho ha sm) h.1.1, i_sb]
    show (pJ (sJ _ 139 25 (zj 0)) 8 139 26 (zj 0)).bind _ = _
    rw [w_setho, i_pJ (M := WC M bk B (zS S 5) 0 ha sm) h.1.1, i_sb, w_setha]
  · dsimp only
    have e1 : ¬ ((5 : Int32) ≤ zi i) := by
      show ¬ (zi 5 ≤ zi i)
      rw [zi_le (by omega) (by omega) (by omega) (by omega)]; omega
    rw [if_neg e1, m_sum h, i_sb]
    show (wJ _ 148 (zi i) (zj 0)).bind _ = _
    rw [m_wS h (by omega) (by omega), i_sb]
    have e2 : upZ (zS S i) i 0 = zS S (i + 1) := by
      funext j
      unfold upZ zS
      by_cases hj : j = (i : Int)
      · rw [if_pos hj, if_pos (by omega)]
      · rw [if_neg hj]
        by_cases hr : 0 ≤ j ∧ j < (i : Int)
        · rw [if_pos hr, if_pos (by omega)]
        · rw [if_neg hr, if_neg (by omega)]
    rw [e2]
    show some (Sum.inl (_, zi i + zi 1)) = _
    rw [zi_add]; rfl
  · dsimp only
    rw [if_pos (by show zi 5 ≤ zi ((5 : Nat) : Int); exact Int32.le_refl _)]; rfl
theorem m_addQuarter (h : MOk M bk nt T tr sl bu as) (hn : 5 < n) {t q : Int} (h0 : 0 ≤ t) (h1 : t < 4) (h2 : 0 ≤ q) (h3 : q < 64) (hB : ∀ w : Int, 0 ≤ w → w < 5 → r31 (B (1 + 320 * t + 5 * q + w))) : g_X10_addQuarter n (WC M bk B S ho ha sm) 139 (zi t) (zi q) = some ((), WC M bk B (aS B S t q 5) ho ha sm) := by
  unfold g_X10_addQuarter
  rw [show (WC M bk B S ho ha sm, (0 : Int32)) = (WC M bk B (aS B S t q 0) ho ha sm, zi ((0 : Nat) : Int)) by
    have : aS B S t q 0 = S := by funext i; unfold aS; rw [if_neg (by omega)]
    rw [this]; rfl]
  rw [loop_k (fun i => (WC M bk B (aS B S t q i) ho ha sm, zi i)) (WC M bk B (aS B S t q 5) ho ha sm, zi 5) 5 (fun i hi => ?_) ?_ n hn]
  · rw [i_sb]
  · dsimp only
    rw [if_pos (by show zi 5 ≤ zi ((5 : Nat) : Int); exact Int32.le_refl _)]; rfl
  · dsimp only
    have e1 : ¬ ((5 : Int32) ≤ zi i) := by
      show ¬ (zi 5 ≤ zi i)
      rw [zi_le (by omega) (by omega) (by omega) (by omega)]; omega
    rw [if_neg e1, m_sum h, i_sb, m_S h (by omega) (by omega), i_sb, m_chk h, m_sumAt, i_bd, m_chk h, m_of h (by omega) (by omega), i_bd]
    obtain ⟨hB1, hB2⟩ := hB i (by omega) (by omega)
    rw [zi_64 hB1 hB2, zj_add, m_wS h (by omega) (by omega), i_sb]
    have e2 : upZ (aS B S t q i) i (aS B S t q i i + B (1 + 320 * t + 5 * q + i)) = aS B S t q (i + 1) := by
      funext j
      unfold upZ aS
      by_cases hj : j = (i : Int)
      · subst hj
        rw [if_pos rfl, if_neg (by omega), if_pos (by omega)]
      · rw [if_neg hj]
        by_cases hr : 0 ≤ j ∧ j < (i : Int)
        · rw [if_pos hr, if_pos (by omega)]
        · rw [if_neg hr, if_neg (by omega)]
    rw [e2]
    show some (Sum.inl (_, zi i + zi 1)) = _
    rw [zi_add]; rfl
/-- what is looked at: sums, heads -/
theorem m_addHeads (h : MOk M bk nt T tr sl bu as) {t : Int} (h0 : 0 ≤ t) (h1 : t < 4) (hB : r31 (B (1281 + 2 * t)) ∧ r31 (B (1282 + 2 * t))) : g_X10_addHeads n (WC M bk B S ho ha sm) 139 (zi t) = some ((), WC M bk B S (ho + B (1281 + 2 * t)) (ha + B (1282 + 2 * t)) sm) := by
  obtain ⟨⟨a1, a2⟩, a3, a4⟩ := hB
  unfold g_X10_addHeads
  rw [i_gJ (M := WC M bk B S ho ha sm) h.1.1, i_sb, m_chk h]
  show bd (g_X10_of n _ 139 (zi 1281 + zi 2 * zi t)) _ = _
  rw [zi_mul, zi_add, m_of h (by omega) (by omega), i_bd, w_Jho, zi_64 a1 a2, zj_add, i_pJ (M := WC M bk B S ho ha sm) h.1.1, i_sb, w_setho, i_gJ (M := WC M bk B S _ ha sm) h.1.1, i_sb, m_chk h]
  show bd (g_X10_of n _ 139 (zi 1281 + zi 2 * zi t + zi 1)) _ = _
  rw [zi_mul, zi_add, zi_add, m_of h (by omega) (by omega), i_bd, w_Jha, show (1281 + 2 * t + 1 : Int) = 1282 + 2 * t by omega, zi_64 a3 a4, zj_add, i_pJ (M := WC M bk B S _ ha sm) h.1.1, i_sb, w_setha]
end MARITH
