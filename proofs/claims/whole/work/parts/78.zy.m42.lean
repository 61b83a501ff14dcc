/-! ===== PURE 97: what a text told, kept ===== -/
def kpA (A : Nat → Nat → Int32) : Nat → Nat → Int32 := cpA (cpA (cpA (cpA (cpA A 0 32 32) 1 48 48) 2 48 48) 3 20 20) 4 7 7
def kpg (g : Nat → Int32) : Nat → Int32 := up1 (up1 (up1 (up1 g 11 (g 12)) 21 0) 22 0) 23 0
def ovF (N : Int) (f : Int → Int) (x : Nat → Int32) : Int → Int := fun k => if 0 ≤ k ∧ k < N then f k else (x k.toNat).toInt
section M42
variable {M : MemT} {g g0 : Nat → Int32} {A A0 : Nat → Nat → Int32} {Z R : Nat → Nat → Int32} {n len k : Nat} {nt U : Int} {T tr sl bu as T' tr' sl' bu' as' B : Int → Int} {s : PSt}
theorem ovF_in {N j : Int} {f : Int → Int} {x : Nat → Int32} (h : 0 ≤ j ∧ j < N) : ovF N f x j = f j := if_pos h
theorem ovF_row {N j : Int} {f : Int → Int} {x : Nat → Int32} (h : 0 ≤ j → j < N → x j.toNat = zi (f j)) (h0 : 0 ≤ j) : x j.toNat = zi (ovF N f x j) := by
  unfold ovF
  by_cases c : 0 ≤ j ∧ j < N
  · rw [if_pos c]; exact h c.1 c.2
  · rw [if_neg c, zi_int]
theorem kpA_0 : kpA A 0 k = if k < 32 then A 0 (32 + k) else A 0 k := by simp [kpA, cpA]
theorem kpA_1 : kpA A 1 k = if k < 48 then A 1 (48 + k) else A 1 k := by simp [kpA, cpA]
theorem kpA_2 : kpA A 2 k = if k < 48 then A 2 (48 + k) else A 2 k := by simp [kpA, cpA]
theorem kpA_3 : kpA A 3 k = if k < 20 then A 3 (20 + k) else A 3 k := by simp [kpA, cpA]
theorem kpA_4 : kpA A 4 k = if k < 7 then A 4 (7 + k) else A 4 k := by simp [kpA, cpA]
theorem y_keep0 (hS : MShape M) (hn : 3000 < n) : g_X10_keepText n (YX M g A) 139 = ktTail n (YX M (kpg g) (kpA A)) := by
  have z : ∀ {g' : Nat → Int32} {A' : Nat → Nat → Int32} {j : Nat}, pI (YX M g' A') 8 139 j 0 = some (YX M (up1 g' j 0) A') := y_pI hS
  have z23 : ∀ {g' : Nat → Int32} {A' : Nat → Nat → Int32}, pZ (YX M g' A') 8 139 23 0 = some (YX M (up1 g' 23 0) A') := fun {g' A'} => by rw [i_pZ (M := YX M g' A') hS.1 (Or.inl rfl), y_set]
  have c0 : ∀ {g' : Nat → Int32} {A' : Nat → Nat → Int32}, g_X10_copies n (YX M g' A') 142 32 = some ((), YX M g' (cpA A' 0 32 32)) := fun {g' A'} => y_cp (o := 0) (N := 32) hS (by omega) hS.2.2.1.2.2.1 hS.2.2.2.2.1 (by omega) (by omega)
  have c1 : ∀ {g' : Nat → Int32} {A' : Nat → Nat → Int32}, g_X10_copies n (YX M g' A') 143 48 = some ((), YX M g' (cpA A' 1 48 48)) := fun {g' A'} => y_cp (o := 1) (N := 48) hS (by omega) hS.2.2.1.2.2.2.1 hS.2.2.2.2.2.1 (by omega) (by omega)
  have c2 : ∀ {g' : Nat → Int32} {A' : Nat → Nat → Int32}, g_X10_copies n (YX M g' A') 144 48 = some ((), YX M g' (cpA A' 2 48 48)) := fun {g' A'} => y_cp (o := 2) (N := 48) hS (by omega) hS.2.2.1.2.2.2.2.1 hS.2.2.2.2.2.2.1 (by omega) (by omega)
  have c3 : ∀ {g' : Nat → Int32} {A' : Nat → Nat → Int32}, g_X10_copies n (YX M g' A') 145 20 = some ((), YX M g' (cpA A' 3 20 20)) := fun {g' A'} => y_cp (o := 3) (N := 20) hS (by omega) hS.2.2.1.2.2.2.2.2.1 hS.2.2.2.2.2.2.2.1 (by omega) (by omega)
  have c4 : ∀ {g' : Nat → Int32} {A' : Nat → Nat → Int32}, g_X10_copies n (YX M g' A') 146 7 = some ((), YX M g' (cpA A' 4 7 7)) := fun {g' A'} => y_cp (o := 4) (N := 7) hS (by omega) hS.2.2.1.2.2.2.2.2.2.1 hS.2.2.2.2.2.2.2.2.1 (by omega) (by omega)
  unfold g_X10_keepText
  rw [y_gI hS, i_sb, y_pI hS, i_sb, y_o13 hS, i_sb, c0, i_bd, y_o14 hS, i_sb, c1, i_bd, y_o15 hS, i_sb, c2, i_bd, y_o16 hS, i_sb, c3, i_bd, y_o17 hS, i_sb, c4, i_bd, z, i_sb, z, i_sb, z23, i_sb]
  rfl
theorem told3_cg (h : told3 T) (eT : ∀ j : Int, 0 ≤ j → j < 7 → T' j = T j) : told3 T' := by
  unfold told3
  rw [eT 0 (by omega) (by omega), eT 1 (by omega) (by omega), eT 2 (by omega) (by omega)]
  exact h
theorem RowsOk_cg (h : RowsOk T sl bu as) (eT : ∀ j : Int, 0 ≤ j → j < 7 → T' j = T j) (eS : ∀ k : Int, 0 ≤ k → k < 4 * T 4 → sl' k = sl k) (eB : ∀ k : Int, 0 ≤ k → k < 4 * T 5 → bu' k = bu k) (eA : ∀ k : Int, 0 ≤ k → k < 5 * T 6 → as' k = as k) : RowsOk T' sl' bu' as' := by
  obtain ⟨a, b, c, d, e, f⟩ := h
  have e4 := eT 4 (by omega) (by omega)
  have e5 := eT 5 (by omega) (by omega)
  have e6 := eT 6 (by omega) (by omega)
  refine ⟨by rw [e4]; exact a, by rw [e5]; exact b, by rw [e6]; exact c, fun k k0 k1 => ?_, fun k k0 k1 => ?_, fun k k0 k1 => ?_⟩
  · rw [e4] at k1
    rw [eS (4 * k) (by omega) (by omega), eS (4 * k + 1) (by omega) (by omega), eS (4 * k + 2) (by omega) (by omega), eS (4 * k + 3) (by omega) (by omega)]
    exact d k k0 k1
  · rw [e5] at k1
    rw [eB (4 * k) (by omega) (by omega), eB (4 * k + 1) (by omega) (by omega), eB (4 * k + 2) (by omega) (by omega), eB (4 * k + 3) (by omega) (by omega)]
    exact e k k0 k1
  · rw [e6] at k1
    rw [eA (5 * k) (by omega) (by omega), eA (5 * k + 1) (by omega) (by omega), eA (5 * k + 2) (by omega) (by omega), eA (5 * k + 3) (by omega) (by omega), eA (5 * k + 4) (by omega) (by omega)]
    exact f k k0 k1
theorem RowsNt_cg (h : RowsNt T as nt) (eT : ∀ j : Int, 0 ≤ j → j < 7 → T' j = T j) (eA : ∀ k : Int, 0 ≤ k → k < 5 * T 6 → as' k = as k) : RowsNt T' as' nt := by
  intro k k0 k1
  rw [eT 6 (by omega) (by omega)] at k1
  rw [eA (5 * k) (by omega) (by omega)]
  exact h k k0 k1
theorem RZ_cg (h : RZ Z nt T tr sl bu as) (eT : ∀ j : Int, 0 ≤ j → j < 7 → T' j = T j) (eR : ∀ k : Int, 0 ≤ k → k < 8 * nt → tr' k = tr k) (eS : ∀ k : Int, 0 ≤ k → k < 4 * T 4 → sl' k = sl k) (eB : ∀ k : Int, 0 ≤ k → k < 4 * T 5 → bu' k = bu k) (eA : ∀ k : Int, 0 ≤ k → k < 5 * T 6 → as' k = as k) : RZ Z nt T' tr' sl' bu' as' := by
  obtain ⟨h1, h2, ⟨cs, c0, c1, c2⟩, h4⟩ := h
  have e4 := eT 4 (by omega) (by omega)
  have e5 := eT 5 (by omega) (by omega)
  have e6 := eT 6 (by omega) (by omega)
  refine ⟨?_, fun t t0 t1 => ?_, ⟨cs, c0, ?_, fun i hi => ?_⟩, fun k k0 k1 => ?_⟩
  · rw [eT 0 (by omega) (by omega), eT 1 (by omega) (by omega), eT 2 (by omega) (by omega), eT 3 (by omega) (by omega), e4, e5, e6]
    exact h1
  · rw [eR (8 * t) (by omega) (by omega), eR (8 * t + 1) (by omega) (by omega), eR (8 * t + 2) (by omega) (by omega), eR (8 * t + 6) (by omega) (by omega), eR (8 * t + 7) (by omega) (by omega), eR (8 * t + 4) (by omega) (by omega), eR (8 * t + 5) (by omega) (by omega)]
    exact h2 t t0 t1
  · rw [e4, e5]; exact c1
  · rw [e4, e5] at hi
    obtain ⟨⟨p1, p2, p3, p4⟩, qq⟩ := c2 i hi
    rw [e4, e5]
    refine ⟨⟨p1, p2, p3, p4⟩, ?_⟩
    rcases qq with ⟨q1, q2, q3⟩ | ⟨q1, q2, q3⟩
    · left
      rw [eS (4 * cs i) (by omega) (by omega), eS (4 * cs i + 1) (by omega) (by omega), eS (4 * cs i + 2) (by omega) (by omega), eS (4 * cs i + 3) (by omega) (by omega)]
      exact ⟨q1, q2, q3⟩
    · right
      rw [eB (4 * (i - cs i)) (by omega) (by omega), eB (4 * (i - cs i) + 1) (by omega) (by omega), eB (4 * (i - cs i) + 2) (by omega) (by omega), eB (4 * (i - cs i) + 3) (by omega) (by omega)]
      exact ⟨q1, q2, q3⟩
  · rw [e6] at k1
    rw [eA k k0 k1]
    exact h4 k k0 k1
theorem RBk_cg (h : RBk T B nt R) (eT : ∀ j : Int, 0 ≤ j → j < 7 → T' j = T j) : RBk T' B nt R := by
  have e : ∀ a b, fstZ T' B a b = fstZ T B a b := fun a b => by unfold fstZ; rw [eT 0 (by omega) (by omega), eT 1 (by omega) (by omega)]
  refine ⟨h.1, h.2.1, fun a ha => ?_⟩
  have h1 := h.2.2 a ha
  unfold RA at h1 ⊢
  simp only [e]
  exact h1
theorem BI_cg (h : BI T nt U B) (eT : ∀ j : Int, 0 ≤ j → j < 7 → T' j = T j) : BI T' nt U B := by
  obtain ⟨a, b, c, d, e, f, g1, h1, h2, h3⟩ := h
  exact ⟨a, b, c, d, e, f, fun i i0 i1 => by rw [eT 1 (by omega) (by omega)]; exact g1 i i0 i1, h1, h2, h3⟩
/-- the bank of a text is in the invariant -/
theorem BI_hd (hr : RowsOk T sl bu as) (hNt : RowsNt T as nt) (hT : told3 T) (hnt : 0 ≤ nt ∧ nt ≤ 4) (htr : ∀ t : Int, 0 ≤ t → t < nt → trW tr t) (hU : 2000000 ≤ U) : BI T nt U (comZ T sl bu as (hdB nt tr)) := by
  have z : ∀ k : Int, (k < 1281 ∨ 1289 ≤ k) → hdB nt tr k = 0 := fun k hk => hdB_0 hnt.2 hk
  have z0 := z 0 (by omega)
  have z65 := z 1865 (by omega)
  have hN : BN (hdB nt tr) := by unfold BN; rw [z0]; omega
  have cb := fun (i : Int) (hi : i < 2084) (h5 : i ≠ 1865) => comZ_b (T := T) (sl := sl) (bu := bu) (as := as) (B := hdB nt tr) (i := i) hr (by rw [z65]; omega) hN hi h5
  have cfar : ∀ i : Int, i < 2084 → i ≠ 1865 → (i < 1 ∨ 1281 ≤ i) → comZ T sl bu as (hdB nt tr) i = hdB nt tr i := fun i hi h5 h1 => (cb i hi h5).2.2 (fun t w t0 t1 w0 w1 => by rw [z0]; unfold sumI; omega)
  have cA := comZ_A (T := T) (sl := sl) (bu := bu) (as := as) (nt := nt) (B := hdB nt tr) hr hNt hnt.2 (by rw [z65]; omega) hN (fun a a0 a1 => by rw [z65] at a1; omega)
  have c0 : comZ T sl bu as (hdB nt tr) 0 = 0 := (cfar 0 (by omega) (by omega) (by omega)).trans z0
  have cz : ∀ i : Int, i < 2084 → i ≠ 1865 → 1289 ≤ i → comZ T sl bu as (hdB nt tr) i = 0 := fun i h1 h2 h3 => (cfar i h1 h2 (by omega)).trans (z i (by omega))
  have hs : ∀ i : Int, 1 ≤ i → i < 1281 → 0 ≤ comZ T sl bu as (hdB nt tr) i ∧ comZ T sl bu as (hdB nt tr) i ≤ 1400000 := fun i i0 i1 => by
    have h := cb i (by omega) (by omega)
    rw [z i (by omega)] at h
    omega
  refine ⟨⟨fun k k0 k1 => ?_, fun t t0 t1 => ?_⟩, ?_, fun i i0 i1 => ?_, fun t q w t0 t1 q0 q1 w0 w1 => ?_, ⟨?_, ?_⟩, ?_, fun i i0 i1 => ?_, fun i i0 i1 => ?_, cA.1, cA.2⟩
  · have h := hs k k0 k1
    omega
  · rw [cfar _ (by omega) (by omega) (by omega), cfar _ (by omega) (by omega) (by omega)]
    by_cases c : t < nt
    · have h := htr t t0 c
      rw [hdB_o t0 c, hdB_a t0 c]
      exact h.2.2.2.1
    · have e1 : hdB nt tr (1281 + 2 * t) = 0 := if_neg (by omega)
      have e2 : hdB nt tr (1282 + 2 * t) = 0 := if_neg (by omega)
      rw [e1, e2]
      omega
  · unfold BN
    rw [c0]
    omega
  · have h := hs i i0 i1
    omega
  · rw [c0] at q0
    have h := (cb (sumI t q w) (by unfold sumI; omega) (by unfold sumI; omega)).2.2 (fun t' w' t0' t1' w0' w1' => by rw [z0]; unfold sumI; omega)
    rw [h, z _ (by unfold sumI; omega)]
  · rw [cz 1867 (by omega) (by omega) (by omega), cz 1866 (by omega) (by omega) (by omega)]
    rfl
  · rw [cz 1866 (by omega) (by omega) (by omega)]
    omega
  · rw [cz 1866 (by omega) (by omega) (by omega), c0]
    omega
  · rw [cz i (by omega) (by omega) (by omega)]
    have := hT.2.1
    omega
  · rw [cz i (by omega) (by omega) (by omega)]
    omega
end M42
