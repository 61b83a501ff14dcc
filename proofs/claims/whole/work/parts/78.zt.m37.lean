/-! ===== PURE 92: the reference's lines: traders; one line ===== -/
def zAr (A : Nat → Nat → Int32) (nt : Int) : Nat → Nat → Nat → Int32
  | 0 => A
  | i + 1 => up2 (zAr A nt i) 0 (32 + 8 * nt + (i : Int)).toNat (zi 0)
section M37
variable {M : MemT} {g g0 g' : Nat → Int32} {A A0 : Nat → Nat → Int32} {u : Nat → Int} {n len p S0 : Nat} {e k w a v c d : Int32} {s : PSt}
theorem RYs_nt {j x : Int} (h : RYs g0 A0 len g A s) (hn : 0 ≤ s.1 ∧ s.1 < 4) (hj : 0 ≤ j ∧ j < 8) (hv : (j = 1 → 0 ≤ x ∧ x ≤ 2) ∧ (j = 2 → 0 ≤ x ∧ x ≤ 1) ∧ (j = 6 → 0 ≤ x ∧ x ≤ 1) ∧ (j = 7 → 0 ≤ x ∧ x ≤ 1000)) : RYs g0 A0 len g (up2 A 0 (32 + 8 * s.1 + j).toNat (zi x)) s :=
  ⟨⟨h.1.1, AFr_w h.1.2.1 (by omega), TRAf_w h.1.2.2 hn hj hv⟩, h.2.1, fun i q1 q2 => (up2_ne (by omega)).trans (h.2.2.1 i q1 q2), fun t i q1 q2 q3 q4 => (up2_ne (by omega)).trans (h.2.2.2.1 t i q1 q2 q3 q4), fun i q1 q2 => (up2_ne (by omega)).trans (h.2.2.2.2.1 i q1 q2), fun i q1 q2 => (up2_ne (by omega)).trans (h.2.2.2.2.2.1 i q1 q2), fun i q1 q2 => (up2_ne (by omega)).trans (h.2.2.2.2.2.2 i q1 q2)⟩
theorem zAr_R (h : RYs g0 A0 len g A s) (hn : 0 ≤ s.1 ∧ s.1 < 4) : ∀ i, i ≤ 8 → RYs g0 A0 len g (zAr A s.1 i) s := by
  intro i
  induction i with
  | zero => intro _; exact h
  | succ i ih =>
    intro hi
    exact RYs_nt (j := (i : Int)) (x := 0) (ih (by omega)) hn (by omega) (by omega)
theorem zAr_0 (hn : 0 ≤ s.1 ∧ s.1 < 4) : ∀ (i j : Nat), j < i → zAr A s.1 i 0 (32 + 8 * s.1 + (j : Int)).toNat = zi 0 := by
  intro i
  induction i with
  | zero => intro j hj; omega
  | succ i ih =>
    intro j hj
    by_cases c : j = i
    · rw [c]
      exact if_pos ⟨rfl, rfl⟩
    · exact (up2_ne (by omega)).trans (ih j (by omega))
theorem RYs_add {nm : Int32} {m b : Int} (h : RYs g0 A0 len g A s) (hn : 0 ≤ s.1 ∧ s.1 < 4) (hA : ∀ j : Int, 0 ≤ j → j < 8 → A 0 (32 + 8 * s.1 + j).toNat = zi (if j = 0 then nm.toInt else if j = 1 then m else if j = 2 then b else 0)) : RYs g0 A0 len (up1 g 12 (zi (s.1 + 1))) A (addTr s nm m b) := by
  refine ⟨⟨gFr_t h.1.1 (gFr_u (by omega)), h.1.2⟩, ⟨up1_at, (up1_ne (by omega)).trans h.2.1.2.1, (up1_ne (by omega)).trans h.2.1.2.2.1, (up1_ne (by omega)).trans h.2.1.2.2.2.1, (up1_ne (by omega)).trans h.2.1.2.2.2.2⟩, h.2.2.1, fun t j q1 q2 q3 q4 => ?_, h.2.2.2.2.1, h.2.2.2.2.2.1, h.2.2.2.2.2.2⟩
  have q2' : t < s.1 + 1 := q2
  rw [tr_at q3 q4]
  by_cases c : t = s.1
  · rw [if_pos c, c]
    exact hA j q3 q4
  · rw [if_neg c]
    exact h.2.2.2.1 t j q1 (by omega) q3 q4
theorem zi_ti (x : Int32) : zi x.toInt = x := Int32.ofInt_toInt x
theorem y_zero (hS : MShape M) (hn : 1000 < n) (h0 : 0 ≤ s.1 ∧ s.1 < 4) : loopF (fun (s_1 : MemT × Int32) => (fun (M16 : MemT) (v17 : Int32) => (if 8 ≤ v17 then some (.inr (M16, v17)) else (gO M16 8 139 13).bind (fun j19 => (wI M16 j19 ((32 + (8 * zi s.1)) + v17) 0).bind (fun M20 => (some (.inl (M20, v17 + 1)) : Option ((MemT × Int32) ⊕ (MemT × Int32))))))) s_1.1 s_1.2) n (YX M g A, 0) = some (YX M g (zAr A s.1 8), 8) := by
  have key := loop_find (step := fun (s_1 : MemT × Int32) => (fun (M16 : MemT) (v17 : Int32) => (if 8 ≤ v17 then some (.inr (M16, v17)) else (gO M16 8 139 13).bind (fun j19 => (wI M16 j19 ((32 + (8 * zi s.1)) + v17) 0).bind (fun M20 => (some (.inl (M20, v17 + 1)) : Option ((MemT × Int32) ⊕ (MemT × Int32))))))) s_1.1 s_1.2) (fun i : Nat => (YX M g (zAr A s.1 i), zi (i : Int))) (fun i => (YX M g A, 0)) (YX M g (zAr A s.1 8), 8) 8 (fun _ => false) (fun i hi _ => ?_) (fun i hi c => absurd c (by simp)) ?_ n (by omega)
  · exact key
  · dsimp only
    rw [if_neg (show ¬ ((8 : Int32) ≤ zi (i : Int)) by (show ¬ (zi 8 ≤ zi (i : Int))); rw [zi_le (by omega) (by omega) (by omega) (by omega)]; omega), y_o13 hS, i_sb, ix8, y_w0 hS (by omega) (by omega), i_sb, show zi (i : Int) + 1 = zi ((i + 1 : Nat) : Int) from zi_add (i : Int) 1]
    rfl
  · dsimp only
    rw [if_pos (show ((8 : Int32) ≤ zi ((8 : Nat) : Int)) by decide)]
    rfl
theorem y_lnTr (hS : MShape M) (hu : YT M u) (hl : len ≤ 700) (hpl : p ≤ len) (hn : 1000 < n) (hR : RYs g0 A0 len g A s) (hg : ROk s) : LYo M g0 A0 u len (lnTr s u len S0 p) (g_X10_traderLine n (YX M (mkR g (zi (p : Int)) k w (zi (S0 : Int))) A) 139) := by
  have hnt := hg.1
  have h6 := hR.2.1.2.2.1
  obtain ⟨e1, e2⟩ := tkE_r (u := u) hpl
  obtain ⟨k1, k2, -⟩ := kind_w (u := u) hpl
  have hKr := tkKM_r (u := u) (len := len) (p := p)
  have e2' : (zi (tkKM u len p) = (2 : Int32)) = (tkKM u len p = 2) := zi_eq (b := 2) (by omega) (by omega) (by omega) (by omega)
  have e4' : (zi s.1 = (4 : Int32)) = (s.1 = 4) := zi_eq (b := 4) (by omega) (by omega) (by omega) (by omega)
  have h12 : mkR g (zi (p : Int)) k w (zi (S0 : Int)) 12 = zi s.1 := (mk_o (by omega)).trans hR.2.1.1
  have h12' : AHf u len g p w 12 = zi s.1 := (mk_o (by omega)).trans hR.2.1.1
  unfold lnTr g_X10_traderLine
  rw [y_gI hS, i_sb, h12]
  by_cases c : 4 ≤ s.1
  · rw [if_pos c, if_pos (by rw [e4']; omega), y_k hS, y_wrong hS, i_bd]
    exact Or.inl ⟨2, S0, _, A, rfl, rz_0, rfl, rfl, gFr_t hR.1.1 gFr_v, hR.1.2⟩
  · rw [if_neg c, if_neg (show ¬ (zi s.1 = (4 : Int32)) by rw [e4']; omega), y_k hS, y_tokM hS hu h6 hl hpl hn, i_bd, y_gI hS, i_sb, show AHf u len g p w 8 = zi (tkKM u len p) from rfl]
    by_cases c2 : tkKM u len p = 2
    · have hN : nameR u len p = .inr (tkV u len p, tkE u len p, tkS u len p) := by unfold nameR; rw [if_pos (k1.mp c2)]
      rw [hN, pb_r, if_pos (by rw [e2']; exact c2), y_gI hS, i_sb, show AHf u len g p w 9 = tkWM u len p w from rfl, k2 c2 w, y_gI hS, i_sb, h12', y_k hS, y_nmd hS hR hg hn, i_bd]
      dsimp only
      cases hf : fnd (nmq s.2.2.1 (tkV u len p)) 0 s.1.toNat with
      | some t =>
        have ht := (fnd_lt hf).2.1
        dsimp only
        rw [if_neg (show ¬ (zi (t : Int) < (0 : Int32)) by (show ¬ (zi (t : Int) < zi 0)); rw [zi_lt (by omega) (by omega) (by omega) (by omega)]; omega), y_k hS, y_wrong hS, i_bd]
        exact Or.inl ⟨3, tkS u len p, _, A, rfl, rz_0, rfl, rfl, gFr_t hR.1.1 gFr_w, hR.1.2⟩
      | none =>
        have h04 : 0 ≤ s.1 ∧ s.1 < 4 := by omega
        have hz := zAr_R hR h04 8 (by omega)
        have hz0 := fun j hj => zAr_0 (A := A) h04 8 j hj
        dsimp only
        rw [if_pos (show (zi (-1) < (0 : Int32)) by decide), y_gI hS, i_sb, h12', y_zero hS hn h04]
        generalize zAr A s.1 8 = A1 at *
        dsimp only [Option.bind_some]
        have hR1 : RYs g0 A0 len g (up2 A1 0 (32 + 8 * s.1).toNat (tkV u len p)) s := by
          have h := RYs_nt (j := 0) (x := (tkV u len p).toInt) hz h04 (by omega) (by omega)
          rw [Int.add_zero, zi_ti] at h
          exact h
        rw [y_o13 hS, i_sb, y_gI hS, i_sb, show AHf u len g p w 9 = tkWM u len p w from rfl, k2 c2 w, show (32 : Int32) + 8 * zi s.1 = zi (32 + 8 * s.1) by (show zi 32 + zi 8 * zi s.1 = _); rw [zi_mul, zi_add], y_w0 hS (by omega) (by omega), i_sb, y_k hS, y_tokA hS hu h6 hl hpl hn, i_bd, y_k hS]
        have v0 : up2 A1 0 (32 + 8 * s.1).toNat (tkV u len p) 0 (32 + 8 * s.1).toNat = tkV u len p := if_pos ⟨rfl, rfl⟩
        have vr : ∀ j : Nat, 1 ≤ j → j < 8 → up2 A1 0 (32 + 8 * s.1).toNat (tkV u len p) 0 (32 + 8 * s.1 + (j : Int)).toNat = zi 0 := fun j j1 j2 => (up2_ne (by omega)).trans (hz0 j j2)
        generalize up2 A1 0 (32 + 8 * s.1).toNat (tkV u len p) = A2 at *
        generalize hp1 : tkE u len p = p1 at *
        obtain ⟨e3, e4⟩ := tkE_r (u := u) e2
        rcases y_num (g := g) (w := tkWM u len p w) (A := A2) (lo := 0) (hi := 2) hS hu h6 hl e2 hn (by omega) (by omega) with ⟨c', g', r3, r4, r5, r6, r7⟩ | ⟨r3, r4, w', r5⟩
        · rw [r3, show g_X10_number n _ 139 0 2 = _ from r4, i_bd, if_pos (show zi 0 = (0 : Int32) from rfl)]
          exact Or.inl ⟨c', _, g', A2, rfl, rz_0, r5, r6, gFr_t hR1.1.1 r7, hR1.1.2⟩
        · have hR2 := RYs_nt (j := 1) (x := numV u len p1) (RYs_19 (v := zi (numV u len p1)) hR1) h04 (by omega) (by omega)
          have h62 := hR2.2.1.2.2.1
          rw [r3, pb_r, show g_X10_number n _ 139 0 2 = _ from r5, i_bd, if_neg (show ¬ (zi 1 = (0 : Int32)) by decide), y_o13 hS, i_sb, y_gI hS, i_sb, show AHf u len (up1 g 19 (zi (numV u len p1))) (tkE u len p1) w' 19 = zi (numV u len p1) from rfl, show zi (32 + 8 * s.1) + 1 = zi (32 + 8 * s.1 + 1) from zi_add (32 + 8 * s.1) 1, y_w0 hS (by omega) (by omega), i_sb, y_k hS]
          dsimp only
          have v1 : up2 A2 0 (32 + 8 * s.1 + 1).toNat (zi (numV u len p1)) 0 (32 + 8 * s.1).toNat = tkV u len p := (up2_ne (by omega)).trans v0
          have v2 : up2 A2 0 (32 + 8 * s.1 + 1).toNat (zi (numV u len p1)) 0 (32 + 8 * s.1 + 1).toNat = zi (numV u len p1) := if_pos ⟨rfl, rfl⟩
          have vs : ∀ j : Nat, 2 ≤ j → j < 8 → up2 A2 0 (32 + 8 * s.1 + 1).toNat (zi (numV u len p1)) 0 (32 + 8 * s.1 + (j : Int)).toNat = zi 0 := fun j j1 j2 => (up2_ne (by omega)).trans (vr j (by omega) j2)
          generalize up2 A2 0 (32 + 8 * s.1 + 1).toNat (zi (numV u len p1)) = A3 at *
          generalize hp2 : tkE u len p1 = p2 at *
          generalize hgg : up1 g 19 (zi (numV u len p1)) = gg at *
          obtain ⟨e5, e6⟩ := tkE_r (u := u) e4
          rcases y_num (g := gg) (w := w') (A := A3) (lo := 0) (hi := 1) hS hu h62 hl e4 hn (by omega) (by omega) with ⟨c', g', t3, t4, t5, t6, t7⟩ | ⟨t3, t4, w2, t5⟩
          · rw [t3, show g_X10_number n _ 139 0 1 = _ from t4, i_bd, if_pos (show zi 0 = (0 : Int32) from rfl)]
            exact Or.inl ⟨c', _, g', A3, rfl, rz_0, t5, t6, gFr_t hR2.1.1 t7, hR2.1.2⟩
          · have hR3 := RYs_nt (j := 2) (x := numV u len p2) (RYs_19 (v := zi (numV u len p2)) hR2) h04 (by omega) (by omega)
            have z1 : up2 A3 0 (32 + 8 * s.1 + 2).toNat (zi (numV u len p2)) 0 (32 + 8 * s.1).toNat = tkV u len p := (up2_ne (by omega)).trans v1
            have z2 : up2 A3 0 (32 + 8 * s.1 + 2).toNat (zi (numV u len p2)) 0 (32 + 8 * s.1 + 1).toNat = zi (numV u len p1) := (up2_ne (by omega)).trans v2
            have z3 : up2 A3 0 (32 + 8 * s.1 + 2).toNat (zi (numV u len p2)) 0 (32 + 8 * s.1 + 2).toNat = zi (numV u len p2) := if_pos ⟨rfl, rfl⟩
            have zs : ∀ j : Nat, 3 ≤ j → j < 8 → up2 A3 0 (32 + 8 * s.1 + 2).toNat (zi (numV u len p2)) 0 (32 + 8 * s.1 + (j : Int)).toNat = zi 0 := fun j j1 j2 => (up2_ne (by omega)).trans (vs j (by omega) j2)
            have h123 : AHf u len (up1 gg 19 (zi (numV u len p2))) (tkE u len p2) w2 12 = zi s.1 := (mk_o (by omega)).trans hR3.2.1.1
            rw [t3, pb_r, show g_X10_number n _ 139 0 1 = _ from t5, i_bd, if_neg (show ¬ (zi 1 = (0 : Int32)) by decide), y_o13 hS, i_sb, y_gI hS, i_sb, show AHf u len (up1 gg 19 (zi (numV u len p2))) (tkE u len p2) w2 19 = zi (numV u len p2) from rfl, show zi (32 + 8 * s.1) + 2 = zi (32 + 8 * s.1 + 2) from zi_add (32 + 8 * s.1) 2, y_w0 hS (by omega) (by omega), i_sb, y_gI hS, i_sb, h123, y_pI hS, i_sb, show zi s.1 + 1 = zi (s.1 + 1) from zi_add s.1 1]
            generalize up2 A3 0 (32 + 8 * s.1 + 2).toNat (zi (numV u len p2)) = A4 at *
            unfold AHf
            rw [mk_uo (by omega)]
            refine Or.inr ⟨_, _, _, A4, w2, rfl, e6, rz_1, RYs_add (nm := tkV u len p) (m := numV u len p1) (b := numV u len p2) hR3 h04 (fun j j1 j2 => ?_)⟩
            rcases (show j = 0 ∨ j = 1 ∨ j = 2 ∨ j = ((3 : Nat) : Int) ∨ j = ((4 : Nat) : Int) ∨ j = ((5 : Nat) : Int) ∨ j = ((6 : Nat) : Int) ∨ j = ((7 : Nat) : Int) by omega) with q | q | q | q | q | q | q | q <;> subst q
            · rw [Int.add_zero, if_pos rfl, zi_ti]; exact z1
            · exact z2
            · exact z3
            · exact zs 3 (by omega) (by omega)
            · exact zs 4 (by omega) (by omega)
            · exact zs 5 (by omega) (by omega)
            · exact zs 6 (by omega) (by omega)
            · exact zs 7 (by omega) (by omega)
    · have hN : nameR u len p = .inl (1, tkS u len p) := by unfold nameR; rw [if_neg (fun q => c2 (k1.mpr q))]
      rw [hN, pb_l, if_neg (by rw [e2']; exact c2), y_k hS, y_wrong hS, i_bd]
      exact Or.inl ⟨1, tkS u len p, _, A, rfl, rz_0, rfl, rfl, gFr_t hR.1.1 gFr_w, hR.1.2⟩
end M37
