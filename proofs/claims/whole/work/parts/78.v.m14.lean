/-! ===== PURE 69: undo, keep, back ===== -/
theorem WC_selfb {M : MemT} {B : Int → Int} {b : Int} (b0 : 0 ≤ b) (h : BkI M b B) : ∃ S ho ha sm, WC M b B S ho ha sm = M := by
  refine ⟨fun j => (mJ M 148 j.toNat).toInt, (mJ M 139 25).toInt, (mJ M 139 26).toInt, mI M 139 27, ?_⟩
  unfold WC
  refine Prod.ext rfl (Prod.ext rfl (Prod.ext rfl (Prod.ext rfl (Prod.ext ?_ ?_))))
  · funext x k
    show (if x = 147 then (if 2468 * b ≤ (k : Int) ∧ (k : Int) < 2468 * b + 2468 then zi (B ((k : Int) - 2468 * b)) else mI M 147 k) else if x = 139 ∧ k = 27 then mI M 139 27 else mI M x k) = mI M x k
    by_cases hx : x = 147
    · rw [if_pos hx, hx]
      by_cases c : 2468 * b ≤ (k : Int) ∧ (k : Int) < 2468 * b + 2468
      · rw [if_pos c, ← h _ (by omega) (by omega)]
        exact congrArg (mI M 147) (by omega)
      · rw [if_neg c]
    · rw [if_neg hx]
      by_cases c : x = 139 ∧ k = 27
      · rw [if_pos c, c.1, c.2]
      · rw [if_neg c]
  · funext x k
    show (if x = 148 then zj (mJ M 148 ((k : Int)).toNat).toInt else if x = 139 ∧ k = 25 then zj (mJ M 139 25).toInt else if x = 139 ∧ k = 26 then zj (mJ M 139 26).toInt else mJ M x k) = mJ M x k
    by_cases h1 : x = 148
    · rw [if_pos h1, zj_int, h1, Int.toNat_natCast]
    · rw [if_neg h1]
      by_cases h2 : x = 139 ∧ k = 25
      · rw [if_pos h2, zj_int, h2.1, h2.2]
      · rw [if_neg h2]
        by_cases h3 : x = 139 ∧ k = 26
        · rw [if_pos h3, zj_int, h3.1, h3.2]
        · rw [if_neg h3]
theorem bk_of {M : MemT} {n : Nat} {nt bk : Int} {T tr sl bu as B : Int → Int} (hO : MOk M bk nt T tr sl bu as) (hb : BkI M bk B) {k : Int} (k0 : 0 ≤ k) (k1 : k < 2468) : g_X10_of n M 139 (zi k) = some (zi (B k), M) := by
  obtain ⟨S0, ho0, ha0, sm0, eM⟩ := WC_selfb hO.2.2.1.1 hb
  have := m_of (n := n) (B := B) (S := S0) (ho := ho0) (ha := ha0) (sm := sm0) hO k0 k1
  rw [eM] at this
  exact this
section M14
variable {M M1 : MemT} {r s q : Nat} {P : Nat → Nat} {old cnt tl kp nt U : Int} {T tr sl bu as B Bi : Int → Int} {Bs : Nat → Int → Int} {n : Nat}
theorem sI_SE {x k y : Nat} {v : Int32} : SE M (sI M x k v) y := ⟨rfl, rfl, fun _ => rfl⟩
theorem WR_SE {b y : Nat} {Q : Nat → Nat → Int32} : SE M (WR M b Q) y := ⟨rfl, rfl, fun _ => rfl⟩
theorem LB_SE {b N : Int} {f : Int → Int32} {y : Nat} : SE M (LB M b N f) y := ⟨rfl, rfl, fun _ => rfl⟩
theorem sI_I {x k y j : Nat} {v : Int32} : mI (sI M x k v) y j = if y = x ∧ j = k then v else mI M y j := rfl
theorem sI_at {x k : Nat} {v : Int32} : mI (sI M x k v) x k = v := if_pos ⟨rfl, rfl⟩
theorem LB_ne {b N : Int} {f : Int → Int32} {x k : Nat} (h : ¬ (x = 147 ∧ 2468 * b ≤ (k : Int) ∧ (k : Int) < 2468 * b + N)) : mI (LB M b N f) x k = mI M x k := if_neg h
theorem LB_gI {b N : Int} {f : Int → Int32} {k : Nat} (h : mK M 139 = 8) : gI (LB M b N f) 8 139 k = some (mI (LB M b N f) 139 k) := i_gI (M := LB M b N f) h
theorem LB_pI {b N : Int} {f : Int → Int32} {k : Nat} {v : Int32} (h : mK M 139 = 8) : pI (LB M b N f) 8 139 k v = some (sI (LB M b N f) 139 k v) := i_pI (M := LB M b N f) h
theorem LB_pZ {b N : Int} {f : Int → Int32} {k : Nat} (h : mK M 139 = 8) : pZ (LB M b N f) 8 139 k 1 = some (sI (LB M b N f) 139 k 1) := i_pZ (M := LB M b N f) h (Or.inr rfl)
theorem WR_I {b y k : Nat} {Q : Nat → Nat → Int32} : mI (WR M b Q) y k = if b ≤ y ∧ y < b + 50 then Q (y - b) k else mI M y k := rfl
/-- the component writes nothing that the reference reads: the reference after it -/
theorem TOP_b0 (h : TOP M r s q P old cnt tl kp nt T tr sl bu as B Bi Bs U) {M2 : MemT} {B2 : Int → Int} {cnt2 : Int} (hS : ∀ y, SE M M2 y) (hN : mN M2 = mN M) (hc : 0 ≤ cnt2 ∧ cnt2 ≤ cnt) (hR : RBk T B2 nt (rows M2 23)) (hB : BI T nt U B2) (hb : BkI M2 0 B2) (h1 : mI M2 137 0 = zi cnt2 ∧ mI M2 139 22 = zi cnt2) (e : ∀ y k, ¬ scr y k → ¬ (23 ≤ y ∧ y < 73) → ¬ (y = 137 ∧ k = 0) → ¬ (y = 139 ∧ k = 22) → ¬ (y = 147 ∧ k < 2468) → mI M2 y k = mI M y k) : TOP M2 r s q P old cnt2 tl kp nt T tr sl bu as B2 Bi Bs U := by
  obtain ⟨tS, hP, hD, hU, hR0, hB0, hM, hb0, hI, hu, hi⟩ := h
  have h150 := hP.2.2.2.1
  have hrs := tS.2.2.2.2.2.2.1
  have hr1 := hI.2.1
  refine ⟨TSh_f tS (fun y _ _ => hS y), PGe_f hP (by omega) (fun y _ => hS y), hD, RU_f hU (fun y g1 g2 => funext fun k => e y k (by unfold scr; omega) (by omega) (by omega) (by omega) (by omega)), hR, hB, MOk_f hM (fun y _ _ => hS y) (fun y k g1 g2 g3 => e y k (by unfold scr; omega) (by omega) (by omega) (by omega) (by omega)), hb, ?_, fun i hi' => ?_, fun hk => ?_⟩
  · obtain ⟨⟨a1, a2, a3⟩, -, ⟨b1, b2⟩, ⟨c1, c2, c3⟩, ⟨k1, k2, k3⟩, ht, hw⟩ := hI
    have g : ∀ y k, y < 147 → (y < 23 ∨ 137 ≤ y) → (y ≠ 139 ∨ k = 1 ∨ k = 4 ∨ k = 5 ∨ k = 11 ∨ k = 21 ∨ k = 23) → ¬ (y = 137 ∧ k = 0) → mI M2 y k = mI M y k := fun y k q1 q2 q3 q4 => e y k (by unfold scr; omega) (by omega) q4 (by omega) (by omega)
    refine ⟨⟨h1.1, (g _ _ (by omega) (by omega) (by omega) (by omega)).trans a2, h1.2⟩, ⟨hr1.1, hc.1, by omega⟩, ⟨?_, ?_⟩, ⟨(g _ _ (by omega) (by omega) (by omega) (by omega)).trans c1, (g _ _ (by omega) (by omega) (by omega) (by omega)).trans c2, c3⟩, ⟨(g _ _ (by omega) (by omega) (by omega) (by omega)).trans k1, (g _ _ (by omega) (by omega) (by omega) (by omega)).trans k2, k3⟩, fun k hk => ?_, ⟨fun k hk => (g _ _ (by omega) (by omega) (by omega) (by omega)).trans (hw.1 k hk), TR2_f hw.2 (fun k => g _ _ (by omega) (by omega) (by omega) (by omega))⟩⟩
    · rw [g 2 0 (by omega) (by omega) (by omega) (by omega), g 139 4 (by omega) (by omega) (by omega) (by omega), b1]
    · rw [g 2 1 (by omega) (by omega) (by omega) (by omega), g 139 5 (by omega) (by omega) (by omega) (by omega), b2]
    · rw [g 1 k (by omega) (by omega) (by omega) (by omega), g 140 k (by omega) (by omega) (by omega) (by omega)]
      exact ht k hk
  · obtain ⟨g1, g2, g3, g4⟩ := hu i (by omega)
    have hp := (hP.2.2.2.2.1 _ (by omega) g1).1
    refine ⟨g1, RBk_c g2 (fun o ho => funext fun k => e _ k (by unfold scr; omega) (by omega) (by omega) (by omega) (by omega)) (BI_8 g4).2, fun j j0 j1 => (e 147 _ (by unfold scr; omega) (by omega) (by omega) (by omega) (by omega)).trans (g3 j j0 j1), g4⟩
  · obtain ⟨g1, g2, g3, g4⟩ := hi hk
    have hp := (hP.2.2.2.2.1 _ (by omega) g1).1
    refine ⟨g1, RBk_c g2 (fun o ho => funext fun k => e _ k (by unfold scr; omega) (by omega) (by omega) (by omega) (by omega)) (BI_8 g4).2, fun j j0 j1 => (e 147 _ (by unfold scr; omega) (by omega) (by omega) (by omega) (by omega)).trans (g3 j j0 j1), g4⟩
/-- the component's books are laid back from a page, the reference's bank from a bank -/
theorem TOP_back (h : TOP M r s q P old cnt tl kp nt T tr sl bu as B Bi Bs U) {p : Nat} {Bx : Int → Int} {b cnt2 : Int} (hp : p ≤ 20) (hz : P p ≠ 0) (hR : RBk T Bx nt (rows M (P p))) (hB : BI T nt U Bx) (hb : BkI M b Bx) (hb2 : 2 ≤ b ∧ b < 23) (hc : 0 ≤ cnt2 ∧ cnt2 ≤ cnt) (hn : 3000 < n) : ∃ Q, g_X2_copyFrom n M 23 (P p) = some ((), WR M 23 Q) ∧ RBk T Bx nt Q ∧ (∀ M1, M1 = sI (sI (sI (WR M 23 Q) 137 0 (zi cnt2)) 139 2 0) 139 22 (zi cnt2) → g_X10_copyBank n M1 139 (zi b) 0 = some ((), LB M1 0 2468 (fun j => mI M1 147 (2468 * b + j).toNat)) ∧ TOP (LB M1 0 2468 (fun j => mI M1 147 (2468 * b + j).toNat)) r s q P old cnt2 tl kp nt T tr sl bu as Bx Bi Bs U) := by
  obtain ⟨g1, g2, g3⟩ := h.2.1.2.2.2.2.1 p hp hz
  refine ⟨cpAZ (rows M (P p)) (rows M 23) (Bx 1865).toNat, copyS h.1.2.2.2.1.2.2.1 g3 (by omega) (fun o _ => rfl) hR hB (by omega), RB_cpB hR hB h.2.2.1.1.2, fun M1 e1 => ?_⟩
  generalize hQ : cpAZ (rows M (P p)) (rows M 23) (Bx 1865).toNat = Q at e1
  have hRQ : RBk T Bx nt Q := by rw [← hQ]; exact RB_cpB hR hB h.2.2.1.1.2
  have hS1 : ∀ y, SE M M1 y := fun y => by rw [e1]; exact ⟨rfl, rfl, fun _ => rfl⟩
  have hMS : MShape M1 := MShape_f h.2.2.2.2.2.2.1.1 (fun y _ _ => hS1 y)
  have i1 : ∀ y k, ¬ (23 ≤ y ∧ y < 73) → ¬ (y = 137 ∧ k = 0) → ¬ (y = 139 ∧ (k = 2 ∨ k = 22)) → mI M1 y k = mI M y k := fun y k q1 q2 q3 => by
    rw [e1, sI_ne (by omega), sI_ne (by omega), sI_ne (by omega), xr_out (by omega)]
  refine ⟨?_, TOP_b0 h (fun y => SE_t (hS1 y) LB_SE) (by rw [e1]; rfl) hc ?_ hB (fun j j0 j1 => ?_) ⟨?_, ?_⟩ (fun y k q1 q2 q3 q4 q5 => ?_)⟩
  · have cb := r_copyBank (M := M1) (n := n) (a := b) (b := 0) hMS hn (by omega) (by omega) (by omega) (by omega) (by omega)
    exact cb
  · refine RBk_c hRQ (fun o ho => funext fun k => ?_) (BI_8 hB).2
    show mI (LB M1 0 2468 _) (23 + o) k = _
    rw [LB_ne (by omega), e1, sI_ne (by omega), sI_ne (by omega), sI_ne (by omega), WR_I, if_pos (by omega)]
    exact congrArg (fun z => Q z k) (by omega)
  · rw [LB_I, if_pos (by omega), i1 _ _ (by omega) (by omega) (by omega), ← hb j j0 j1]
    exact congrArg (mI M 147) (by omega)
  · rw [LB_ne (by omega), e1, sI_ne (by omega), sI_ne (by omega), sI_at]
  · rw [LB_ne (by omega), e1, sI_at]
  · unfold scr at q1
    rw [LB_ne (by omega)]
    exact i1 y k q2 q3 (by omega)
theorem r_undo (h : TOP M r s q P old cnt tl kp nt T tr sl bu as B Bi Bs U) (hU2 : U ≤ 99000000) (hn : 100000010 < n) : RunsTo (fun M => g_X9_undo n M 0) (fun M => g_X10_undo n M 139) M (U + 100000) := by
  obtain ⟨tS, hP, hD, hU, hR0, hB0, hM, hb0, hI, hu, hi⟩ := id h
  obtain ⟨⟨a1, a2, a3⟩, ⟨o0, c0⟩, -⟩ := id hI
  have k7 := tS.1.1
  have o6 : ∀ M1 : MemT, (∀ y, SE M M1 y) → gO M1 7 0 6 = some 137 := fun M1 hS => i_gO ((hS 0).1.trans k7) (((hS 0).2.2 6).trans hP.1.2.1)
  have o4 : gO M 7 0 4 = some 13 := i_gO k7 tS.1.2.2.2.2.1
  have o1 : gO M 2 13 1 = some 23 := i_gO tS.2.2.2.1.1.1 tS.2.2.2.1.1.2.2.1
  have k3 := hP.2.1.1
  have k8 : mK M 139 = 8 := hM.1.1
  have ez : (zi cnt = (0 : Int32)) = (cnt = 0) := zi_eq (b := 0) (by omega) (by omega) (by omega) (by omega)
  by_cases c : cnt = 0
  · refine ⟨zi (-1), M, sI M 139 2 0, ?_, k8, ?_, TOP_E (TOP_U (U := U) (?_ : TOP _ r s q P old cnt tl kp nt T tr sl bu as B Bi Bs U) hU2)⟩
    · show g_X9_undo n M 0 = _
      unfold g_X9_undo g_X4_bringBack
      rw [o6 M (fun _ => SE_r), i_sb, o4, i_sb, o1, i_sb, i_chk k3, i_gI k3, i_sb, a1, if_pos (by rw [ez]; exact c)]
      rfl
    · show g_X10_undo n M 139 = _
      unfold g_X10_undo
      rw [i_pI k8, i_sb, i_gI (M := sI M 139 2 0) k8, i_sb, sI_ne (by omega), a3, if_pos (by rw [ez]; exact c)]
      rfl
    · exact TOP_f h (Nat.le_refl _) (fun _ _ => sI_SE) (fun y k _ hs => by unfold scr at hs; rw [sI_ne (by omega)])
  · obtain ⟨g1, g2, g3, g4⟩ := hu (cnt - 1).toNat (by omega)
    rw [show (((cnt - 1).toNat : Nat) : Int) = cnt - 1 by omega] at g1 g2 g3
    obtain ⟨Q, cp, hRQ, hT⟩ := TOP_back (n := n) (p := ((old + (cnt - 1)) % 20).toNat) (b := 3 + (cnt - 1)) (cnt2 := cnt - 1) h (by omega) g1 g2 g4 g3 (by omega) (by omega) (by omega)
    obtain ⟨t1, t2⟩ := hT _ rfl
    have hpg := hP.2.2.1 ((old + (cnt - 1)) % 20).toNat (by omega)
    unfold pgR at hpg
    rw [if_neg g1] at hpg
    have et : zi old + zi cnt - 1 - (zi old + zi cnt - 1) / 20 * 20 = zi ((old + (cnt - 1)) % 20) := by
      rw [zi_add]
      show zi (old + cnt) - zi 1 - (zi (old + cnt) - zi 1) / zi 20 * zi 20 = _
      rw [zi_sub, zi_rem (by omega) (by omega) (by omega) (by omega)]
      exact congrArg (fun z => zi (z % 20)) (by omega)
    have hl : (mL M 138 : Int) = 20 := by rw [hP.2.1.2.2.2]; rfl
    refine ⟨zi (cnt - 1), sI (WR M 23 Q) 137 0 (zi (cnt - 1)), _, ?_, k8, ?_, TOP_E (TOP_U t2 hU2)⟩
    · show g_X9_undo n M 0 = _
      unfold g_X9_undo g_X4_bringBack
      have o2 : gO M 3 137 2 = some 138 := i_gO k3 hP.2.1.2.1
      rw [o6 M (fun _ => SE_r), i_sb, o4, i_sb, o1, i_sb, i_chk k3, i_gI k3, i_sb, a1, if_neg (by rw [ez]; exact c), i_gI k3, i_sb, i_sb, a2, if_neg (by decide), o2, i_sb, et, i_aV hP.2.1.2.2.1 hl (by omega) (by omega) (by omega), i_sb, hpg, nzR_s, i_sb, i_aO hP.2.1.2.2.1 hl (by omega) (by omega) (by omega) hpg, i_sb, i_chk tS.2.2.2.1.2.2.1.1, cp, i_bd, i_gI (M := WR M 23 Q) k3, i_sb, xr_out (by omega), a1, i_pI (M := WR M 23 Q) k3, i_sb, show zi cnt - 1 = zi (cnt - 1) from zi_sub cnt 1]
      show bd (some ((1 : Int32), sI (WR M 23 Q) 137 0 (zi (cnt - 1)))) _ = _
      rw [i_bd, if_neg (by decide), o6 (sI (WR M 23 Q) 137 0 (zi (cnt - 1))) (fun y => ⟨rfl, rfl, fun _ => rfl⟩), i_sb, i_gI (M := sI (WR M 23 Q) 137 0 (zi (cnt - 1))) k3, i_sb, sI_at]
    · show g_X10_undo n _ 139 = _
      unfold g_X10_undo
      have e22 : mI (sI (sI (WR M 23 Q) 137 0 (zi (cnt - 1))) 139 2 0) 139 22 = zi cnt := by
        rw [sI_ne (by omega), sI_ne (by omega), xr_out (by omega), a3]
      have e22b : mI (sI (sI (sI (WR M 23 Q) 137 0 (zi (cnt - 1))) 139 2 0) 139 22 (zi (cnt - 1))) 139 22 = zi (cnt - 1) := sI_at
      rw [i_pI (M := sI (WR M 23 Q) 137 0 (zi (cnt - 1))) k8, i_sb, i_gI (M := sI (sI (WR M 23 Q) 137 0 (zi (cnt - 1))) 139 2 0) k8, i_sb, e22, if_neg (by rw [ez]; exact c), i_sb, show zi cnt - 1 = zi (cnt - 1) from zi_sub cnt 1, i_pI (M := sI (sI (WR M 23 Q) 137 0 (zi (cnt - 1))) 139 2 0) k8, i_sb, i_gI (M := sI (sI (sI (WR M 23 Q) 137 0 (zi (cnt - 1))) 139 2 0) 139 22 (zi (cnt - 1))) k8, i_sb, e22b, i_chk (M := sI (sI (sI (WR M 23 Q) 137 0 (zi (cnt - 1))) 139 2 0) 139 22 (zi (cnt - 1))) k8, show (3 : Int32) + zi (cnt - 1) = zi (3 + (cnt - 1)) from zi_add 3 _, t1, i_bd, LB_gI (M := sI (sI (sI (WR M 23 Q) 137 0 (zi (cnt - 1))) 139 2 0) 139 22 (zi (cnt - 1))) k8, i_sb, LB_ne (by omega), e22b]
theorem r_back (h : TOP M r s q P old cnt tl kp nt T tr sl bu as B Bi Bs U) (hU2 : U ≤ 99000000) (hn : 100000010 < n) : RunsTo (fun M => g_X9_back n M 0) (fun M => g_X10_back n M 139) M (U + 100000) := by
  obtain ⟨tS, hP, hD, hU, hR0, hB0, hM, hb0, hI, hu, hi⟩ := id h
  obtain ⟨⟨a1, a2, a3⟩, ⟨o0, c0⟩, -, -, ⟨p1, p2, p3⟩, -⟩ := id hI
  have k7 := tS.1.1
  have k3 := hP.2.1.1
  have k8 : mK M 139 = 8 := hM.1.1
  have ez : (zi kp = (0 : Int32)) = (kp = 0) := zi_eq (b := 0) (by omega) (by omega) (by omega) (by omega)
  by_cases c : kp = 0
  · refine ⟨zi (-1), M, sI M 139 2 0, ?_, k8, ?_, TOP_E (TOP_U (U := U) (?_ : TOP _ r s q P old cnt tl kp nt T tr sl bu as B Bi Bs U) hU2)⟩
    · show g_X9_back n M 0 = _
      unfold g_X9_back
      rw [i_gI k7, i_sb, p1, if_pos (by rw [ez]; exact c)]
      rfl
    · show g_X10_back n M 139 = _
      unfold g_X10_back
      rw [i_pI k8, i_sb, i_gI (M := sI M 139 2 0) k8, i_sb, sI_ne (by omega), p2, if_pos (by rw [ez]; exact c)]
      rfl
    · exact TOP_f h (Nat.le_refl _) (fun _ _ => sI_SE) (fun y k _ hs => by unfold scr at hs; rw [sI_ne (by omega)])
  · obtain ⟨g1, g2, g3, g4⟩ := hi (by omega)
    obtain ⟨Q, cp, hRQ, hT⟩ := TOP_back (n := n) (p := 20) (b := 2) (cnt2 := 0) h (by omega) g1 g2 g4 g3 (by omega) (by omega) (by omega)
    have hpg := hP.1.2.2
    unfold pgR at hpg
    rw [if_neg g1] at hpg
    have hn0 : RM Bi Q := hRQ.1
    obtain ⟨t1, t2⟩ := hT _ rfl
    have e0 : Q 0 0 = zi (Bi 0) := hn0.1.1
    have em : sI (LB (sI (sI (WR M 23 Q) 137 0 (zi 0)) 139 2 0) 0 2468 (fun j => mI (sI (sI (WR M 23 Q) 137 0 (zi 0)) 139 2 0) 147 (2468 * 2 + j).toNat)) 139 22 (zi 0) = LB (sI (sI (sI (WR M 23 Q) 137 0 (zi 0)) 139 2 0) 139 22 (zi 0)) 0 2468 (fun j => mI (sI (sI (sI (WR M 23 Q) 137 0 (zi 0)) 139 2 0) 139 22 (zi 0)) 147 (2468 * 2 + j).toNat) := by
      unfold LB
      refine Prod.ext rfl (Prod.ext rfl (Prod.ext rfl (Prod.ext rfl (Prod.ext ?_ rfl))))
      funext y k
      show (if y = 139 ∧ k = 22 then zi 0 else if y = 147 ∧ 2468 * (0 : Int) ≤ (k : Int) ∧ (k : Int) < 2468 * (0 : Int) + 2468 then mI (sI (sI (WR M 23 Q) 137 0 (zi 0)) 139 2 0) 147 (2468 * 2 + ((k : Int) - 2468 * 0)).toNat else mI (sI (sI (WR M 23 Q) 137 0 (zi 0)) 139 2 0) y k) = (if y = 147 ∧ 2468 * (0 : Int) ≤ (k : Int) ∧ (k : Int) < 2468 * (0 : Int) + 2468 then (if (147 : Nat) = 139 ∧ (2468 * 2 + ((k : Int) - 2468 * 0)).toNat = 22 then zi 0 else mI (sI (sI (WR M 23 Q) 137 0 (zi 0)) 139 2 0) 147 (2468 * 2 + ((k : Int) - 2468 * 0)).toNat) else (if y = 139 ∧ k = 22 then zi 0 else mI (sI (sI (WR M 23 Q) 137 0 (zi 0)) 139 2 0) y k))
      by_cases q1 : y = 147 ∧ 2468 * (0 : Int) ≤ (k : Int) ∧ (k : Int) < 2468 * (0 : Int) + 2468
      · rw [if_neg (by omega), if_pos q1, if_pos q1, if_neg (by omega)]
      · rw [if_neg q1, if_neg q1]
    rw [← em] at t2
    refine ⟨zi (Bi 0), sI (WR M 23 Q) 137 0 (zi 0), _, ?_, k8, ?_, TOP_E (TOP_U t2 hU2)⟩
    · show g_X9_back n M 0 = _
      unfold g_X9_back g_X4_clear
      have o4 : ∀ M1 : MemT, (∀ y, SE M M1 y) → gO M1 7 0 4 = some 13 := fun M1 hS => i_gO ((hS 0).1.trans k7) (((hS 0).2.2 4).trans tS.1.2.2.2.2.1)
      have o1 : ∀ M1 : MemT, (∀ y, SE M M1 y) → gO M1 2 13 1 = some 23 := fun M1 hS => i_gO ((hS 13).1.trans tS.2.2.2.1.1.1) (((hS 13).2.2 1).trans tS.2.2.2.1.1.2.2.1)
      have o7 : gO M 7 0 7 = some (P 20) := i_gO k7 hpg
      rw [i_gI k7, i_sb, p1, if_neg (by rw [ez]; exact c), i_gV k7, i_sb, hpg]
      show (gO M 7 0 4).bind _ = _
      rw [o4 M (fun _ => SE_r), i_sb, o1 M (fun _ => SE_r), i_sb, o7, i_sb, i_chk tS.2.2.2.1.2.2.1.1, cp, i_bd, i_gO (M := WR M 23 Q) k7 hP.1.2.1, i_sb, i_chk (M := WR M 23 Q) k3, i_pI (M := WR M 23 Q) k3, i_sb, i_bd, o4 (sI (WR M 23 Q) 137 0 0) (fun y => ⟨rfl, rfl, fun _ => rfl⟩), i_sb, o1 (sI (WR M 23 Q) 137 0 0) (fun y => ⟨rfl, rfl, fun _ => rfl⟩), i_sb, i_gI (M := sI (WR M 23 Q) 137 0 0) tS.2.2.2.1.2.2.1.1, i_sb, sI_ne (by omega), WR_I, if_pos (by omega)]
      show some (Q 0 0, _) = _
      rw [e0]
      rfl
    · show g_X10_back n _ 139 = _
      unfold g_X10_back
      have cb : g_X10_copyBank n (sI (sI (WR M 23 Q) 137 0 (zi 0)) 139 2 0) 139 2 0 = _ := r_copyBank (M := sI (sI (WR M 23 Q) 137 0 (zi 0)) 139 2 0) (a := 2) (b := 0) hM.1 (by omega) (by omega) (by omega) (by omega) (by omega) (by omega)
      have hO2 := (t2.2.2.2.2.2.2.1)
      have hb2 := t2.2.2.2.2.2.2.2.1
      rw [i_pI (M := sI (WR M 23 Q) 137 0 (zi 0)) k8, i_sb, i_gI (M := sI (sI (WR M 23 Q) 137 0 (zi 0)) 139 2 0) k8, i_sb, sI_ne (by omega), sI_ne (by omega), xr_out (by omega), p2, if_neg (by rw [ez]; exact c), i_chk (M := sI (sI (WR M 23 Q) 137 0 (zi 0)) 139 2 0) k8, cb, i_bd, LB_pI (M := sI (sI (WR M 23 Q) 137 0 (zi 0)) 139 2 0) k8, i_sb]
      have g0 : g_X10_of n (sI (LB (sI (sI (WR M 23 Q) 137 0 (zi 0)) 139 2 0) 0 2468 (fun j => mI (sI (sI (WR M 23 Q) 137 0 (zi 0)) 139 2 0) 147 (2468 * 2 + j).toNat)) 139 22 0) 139 0 = _ := bk_of (n := n) (k := 0) hO2 hb2 (by omega) (by omega)
      rw [i_chk (M := sI _ 139 22 0) hO2.1.1, g0, i_bd]
end M14
