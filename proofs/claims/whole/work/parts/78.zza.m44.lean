/-! ===== PURE 99: the component's text that is right ===== -/
section M44
variable {M : MemT} {r s q : Nat} {f hd : Nat → Int32} {Z : Nat → Nat → Int32} {u : Nat → Int} {n len : Nat} {nt : Int} {T tr sl bu as T' tr' sl' bu' as' B : Int → Int}
theorem slZ_cg {N qq : Int} (e : ∀ k : Int, 0 ≤ k → k < 4 * N → sl' k = sl k) : ∀ k : Nat, (k : Int) ≤ N → slZ sl' qq B k = slZ sl qq B k := by
  intro k
  induction k with
  | zero => intro _; rfl
  | succ k ih =>
    intro hk
    show (if sl' (4 * (k : Int) + 1) = qq then addZ (slZ sl' qq B k) (sumI (sl' (4 * (k : Int))) qq (sl' (4 * (k : Int) + 2))) (sl' (4 * (k : Int) + 3)) else slZ sl' qq B k) = (if sl (4 * (k : Int) + 1) = qq then addZ (slZ sl qq B k) (sumI (sl (4 * (k : Int))) qq (sl (4 * (k : Int) + 2))) (sl (4 * (k : Int) + 3)) else slZ sl qq B k)
    rw [ih (by omega), e (4 * (k : Int)) (by omega) (by omega), e (4 * (k : Int) + 1) (by omega) (by omega), e (4 * (k : Int) + 2) (by omega) (by omega), e (4 * (k : Int) + 3) (by omega) (by omega)]
theorem buZ_cg {N qq : Int} (e : ∀ k : Int, 0 ≤ k → k < 4 * N → bu' k = bu k) : ∀ k : Nat, (k : Int) ≤ N → buZ bu' qq B k = buZ bu qq B k := by
  intro k
  induction k with
  | zero => intro _; rfl
  | succ k ih =>
    intro hk
    show (if bu' (4 * (k : Int) + 1) = qq then addZ (buZ bu' qq B k) (sumI (bu' (4 * (k : Int))) qq (2 + bu' (4 * (k : Int) + 2))) (bu' (4 * (k : Int) + 3)) else buZ bu' qq B k) = (if bu (4 * (k : Int) + 1) = qq then addZ (buZ bu qq B k) (sumI (bu (4 * (k : Int))) qq (2 + bu (4 * (k : Int) + 2))) (bu (4 * (k : Int) + 3)) else buZ bu qq B k)
    rw [ih (by omega), e (4 * (k : Int)) (by omega) (by omega), e (4 * (k : Int) + 1) (by omega) (by omega), e (4 * (k : Int) + 2) (by omega) (by omega), e (4 * (k : Int) + 3) (by omega) (by omega)]
theorem asZ_cg {N qq : Int} (e : ∀ k : Int, 0 ≤ k → k < 5 * N → as' k = as k) : ∀ k : Nat, (k : Int) ≤ N → asZ as' qq B k = asZ as qq B k := by
  intro k
  induction k with
  | zero => intro _; rfl
  | succ k ih =>
    intro hk
    show (if as' (5 * (k : Int) + 1) = qq ∧ asZ as' qq B k 1865 < 8 then acqZ (asZ as' qq B k) (as' (5 * (k : Int))) (as' (5 * (k : Int) + 2)) (as' (5 * (k : Int) + 3)) (as' (5 * (k : Int) + 4)) else asZ as' qq B k) = (if as (5 * (k : Int) + 1) = qq ∧ asZ as qq B k 1865 < 8 then acqZ (asZ as qq B k) (as (5 * (k : Int))) (as (5 * (k : Int) + 2)) (as (5 * (k : Int) + 3)) (as (5 * (k : Int) + 4)) else asZ as qq B k)
    rw [ih (by omega), e (5 * (k : Int)) (by omega) (by omega), e (5 * (k : Int) + 1) (by omega) (by omega), e (5 * (k : Int) + 2) (by omega) (by omega), e (5 * (k : Int) + 3) (by omega) (by omega), e (5 * (k : Int) + 4) (by omega) (by omega)]
theorem comZ_cg (hr : RowsOk T sl bu as) (eT : ∀ j : Int, 0 ≤ j → j < 7 → T' j = T j) (eS : ∀ k : Int, 0 ≤ k → k < 4 * T 4 → sl' k = sl k) (eB : ∀ k : Int, 0 ≤ k → k < 4 * T 5 → bu' k = bu k) (eA : ∀ k : Int, 0 ≤ k → k < 5 * T 6 → as' k = as k) : comZ T' sl' bu' as' B = comZ T sl bu as B := by
  have r4 := hr.1
  have r5 := hr.2.1
  have r6 := hr.2.2.1
  unfold comZ
  rw [eT 4 (by omega) (by omega), eT 5 (by omega) (by omega), eT 6 (by omega) (by omega), slZ_cg eS (T 4).toNat (by omega), buZ_cg eB (T 5).toNat (by omega), asZ_cg eA (T 6).toNat (by omega)]
theorem hdB_cg (eR : ∀ k : Int, 0 ≤ k → k < 8 * nt → tr' k = tr k) : hdB nt tr' = hdB nt tr := by
  funext k
  unfold hdB
  by_cases c : 1281 ≤ k ∧ k < 1281 + 2 * nt
  · rw [if_pos c, if_pos c, eR _ (by omega) (by omega), eR _ (by omega) (by omega)]
  · rw [if_neg c, if_neg c]
def txM (M : MemT) (r s : Nat) (f hd : Nat → Int32) (Z : Nat → Nat → Int32) : MemT := sR (PX (MXf (sI M 0 1 0) s) s f hd Z) 0 3 (some r)
def txE (M : MemT) (r s : Nat) (f hd : Nat → Int32) (Z R1 : Nat → Nat → Int32) (F : Nat → Int32) (S : Int → Int) : MemT := sI (sI (WX (sR (txM M r s f hd Z) 13 0 (some s)) 13 R1 F S) 137 0 0) 0 8 0
theorem txM_S {y : Nat} (h0 : y ≠ 0) (h2 : y ≠ 2) : SE M (txM M r s f hd Z) y := by
  refine SE_t (M1 := PX (MXf (sI M 0 1 0) s) s f hd Z) ?_ (sR_SE h0)
  have h := MXf_S (M := sI M 0 1 0) (s := s) h2
  exact ⟨h.1, h.2.1, h.2.2⟩
theorem txM_C (tS : TSh M r s q) : CSh (sR (txM M r s f hd Z) 13 0 (some s)) 13 s := by
  obtain ⟨-, -, -, ⟨⟨c1, c2, c3, c4⟩, ⟨c5, c6, c7, c8⟩, hB, hRr, hd'⟩, hR, -, hrs, -⟩ := tS
  have fr : ∀ y, y ≠ 0 → y ≠ 2 → y ≠ 13 → SE M (sR (txM M r s f hd Z) 13 0 (some s)) y := fun y y0 y2 y3 => SE_t (txM_S y0 y2) (sR_SE y3)
  have f73 := fr 73 (by omega) (by omega) (by omega)
  have f74 := fr 74 (by omega) (by omega) (by omega)
  exact ⟨⟨c1, rfl, c3, c4⟩, ⟨f73.1.trans c5, (f73.2.2 _).trans c6, f74.1.trans c7, f74.2.1.trans c8⟩, BSh_f hB (fun y h1 h2 => fr y (by omega) (by omega) (by omega)), RSh_f hR (fun y h1 h2 => fr y (by omega) (by omega) (by omega)), by omega⟩
theorem x_txO (tS : TSh M r s q) (h137 : mR M 0 6 = some 137 ∧ mK M 137 = 3) {tl : Int} (h1 : mI M 0 1 = zi tl) (htl : (len : Int) ≤ tl ∧ tl ≤ 700) (hx : XT M u) (hn : 2000 < n) {s' : PSt} {c : Nat} (ht : txR u len 701 0 st0 0 = .inr (s', c)) : ∃ f hd Z R1 F S, g_X9_text n M 0 (zi (len : Int)) = some (zi (c : Int), txE M r s f hd Z R1 F S) ∧ c ≤ 700 ∧ RXs f hd Z s' ∧ ROk s' ∧ RBk s'.2.1 (comZ s'.2.1 s'.2.2.2.1 s'.2.2.2.2.1 s'.2.2.2.2.2.1 (hdB s'.1 s'.2.2.1)) s'.1 R1 := by
  have k7 := tS.1.1
  have tS1 : TSh (sI M 0 1 0) r s q := TSh_f tS (fun y _ _ => ⟨rfl, rfl, fun _ => rfl⟩)
  have hx1 : XT (sI M 0 1 0) u := fun k hk => ⟨(sI_ne (by omega)).trans (hx k hk).1, (hx k hk).2⟩
  have e0 : (zi (len : Int) < (0 : Int32)) = ((len : Int) < 0) := zi_lt (b := 0) (by omega) (by omega) (by omega) (by omega)
  have e1 : (zi (len : Int) ≤ zi tl) = ((len : Int) ≤ tl) := zi_le (by omega) (by omega) (by omega) (by omega)
  have key := x_rd (n := n) tS1 hx1 (len := len) (by omega) (by omega)
  rw [ht] at key
  rcases key with ⟨c', pl', f, hd, Z, q1, -⟩ | ⟨g', c', f, hd, Z, q1, q2, q3, q4, q5⟩
  · exact absurd q1 (by simp)
  · have hc := Sum.inr.inj q1
    have hc1 : s' = g' := congrArg Prod.fst hc
    have hc2 : c = c' := congrArg Prod.snd hc
    subst hc1 hc2
    have hC := txM_C (f := f) (hd := hd) (Z := Z) tS
    have hs4 : s = 4 ∨ s = 14 := by have := tS.2.2.2.2.2.2.1; omega
    have hU : RU (txM M r s f hd Z) s s'.1 s'.2.1 s'.2.2.1 s'.2.2.2.1 s'.2.2.2.2.1 s'.2.2.2.2.2.1 := RZ_RU q4.1 (fun o ho => funext fun k => by
      show (if s + o = 2 then f k else if s + o = 3 then hd k else if s ≤ s + o ∧ s + o < s + 9 then Z (s + o - s) k else mI (sI M 0 1 0) (s + o) k) = Z o k
      rw [if_neg (by omega), if_neg (by omega), if_pos (by omega), Nat.add_sub_cancel_left])
    obtain ⟨R1, g1, g2⟩ := c_open (n := n) (R := rows (txM M r s f hd Z) 23) (F := mI (txM M r s f hd Z) 73) (S := fun j => (mJ (txM M r s f hd Z) 74 j.toNat).toInt) hC hU q5.2.2.2.2.1 q5.1.2 hn
    rw [show WX (txM M r s f hd Z) 13 (rows (txM M r s f hd Z) 23) (mI (txM M r s f hd Z) 73) (fun j => (mJ (txM M r s f hd Z) 74 j.toNat).toInt) = txM M r s f hd Z from WX_self (c := 13)] at g1
    refine ⟨f, hd, Z, R1, mI (txM M r s f hd Z) 73, fun j => (mJ (txM M r s f hd Z) 74 j.toNat).toInt, ?_, q2, q4, q5, g2⟩
    have em : ¬ (zi (c : Int) = (-1 : Int32)) := by
      show ¬ (zi (c : Int) = zi (-1))
      rw [zi_eq (by omega) (by omega) (by omega) (by omega)]
      omega
    have k7' : mK (PX (MXf (sI M 0 1 0) s) s f hd Z) 0 = 7 := k7
    have o3 : gO (PX (MXf (sI M 0 1 0) s) s f hd Z) 7 0 3 = some s := i_gO k7 (by
      show mR (MXf (sI M 0 1 0) s) 0 3 = some s
      exact ((MXf_S (M := sI M 0 1 0) (s := s) (y := 0) (by omega)).2.2 3).trans tS.1.2.2.2.1)
    have o4 : gO (PX (MXf (sI M 0 1 0) s) s f hd Z) 7 0 4 = some 13 := i_gO k7 (((MXf_S (M := sI M 0 1 0) (s := s) (y := 0) (by omega)).2.2 4).trans tS.1.2.2.2.2.1)
    have o13 : gO (PX (MXf (sI M 0 1 0) s) s f hd Z) 2 13 0 = some r := i_gO tS.2.2.2.1.1.1 (((MXf_S (M := sI M 0 1 0) (s := s) (y := 13) (by omega)).2.2 0).trans tS.2.2.2.1.1.2.1)
    have o4' : gO (txM M r s f hd Z) 7 0 4 = some 13 := i_gO k7 (((MXf_S (M := sI M 0 1 0) (s := s) (y := 0) (by omega)).2.2 4).trans tS.1.2.2.2.2.1)
    have kw : ∀ R', mK (WX (sR (txM M r s f hd Z) 13 0 (some s)) 13 R' (mI (txM M r s f hd Z) 73) (fun j => (mJ (txM M r s f hd Z) 74 j.toNat).toInt)) 0 = 7 := fun _ => k7
    have kp : mK (WX (sR (txM M r s f hd Z) 13 0 (some s)) 13 R1 (mI (txM M r s f hd Z) 73) (fun j => (mJ (txM M r s f hd Z) 74 j.toNat).toInt)) 137 = 3 := h137.2
    have o6 : gO (WX (sR (txM M r s f hd Z) 13 0 (some s)) 13 R1 (mI (txM M r s f hd Z) 73) (fun j => (mJ (txM M r s f hd Z) 74 j.toNat).toInt)) 7 0 6 = some 137 := i_gO k7 (((MXf_S (M := sI M 0 1 0) (s := s) (y := 0) (by omega)).2.2 6).trans h137.1)
    unfold g_X9_text
    rw [if_neg (by rw [e0]; omega), i_gI k7, i_sb, h1, if_pos (by rw [e1]; exact htl.1), i_pI k7, i_sb, i_gO (M := sI M 0 1 0) k7 tS.1.2.2.1, i_sb, i_gO (M := sI M 0 1 0) k7 tS.1.2.1, i_sb, i_gO (M := sI M 0 1 0) k7 tS.1.2.2.2.1, i_sb, i_chk (M := sI M 0 1 0) tS.2.2.1.1, q3, i_bd, if_neg em, o3, i_sb, o4, i_sb, o13, i_sb, i_pO k7', i_sb, show sR (PX (MXf (sI M 0 1 0) s) s f hd Z) 0 3 (some r) = txM M r s f hd Z from rfl, o4', i_sb, i_chk (M := txM M r s f hd Z) (show mK (txM M r s f hd Z) 13 = 2 from tS.2.2.2.1.1.1), g1, i_bd, o6, i_sb, i_chk kp]
    unfold g_X4_clear
    rw [i_pI kp, i_sb, i_bd, i_pZ (M := sI (WX (sR (txM M r s f hd Z) 13 0 (some s)) 13 R1 (mI (txM M r s f hd Z) 73) (fun j => (mJ (txM M r s f hd Z) 74 j.toNat).toInt)) 137 0 0) (show mK _ 0 = 7 from k7) (Or.inl rfl), i_sb]
    rfl
end M44
