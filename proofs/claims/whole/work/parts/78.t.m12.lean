/-! ===== PURE 67: a call that changes: both sides one after the other ===== -/
theorem sI_ne {M : MemT} {x k y j : Nat} {v : Int32} (h : y ≠ x ∨ j ≠ k) : mI (sI M x k v) y j = mI M y j := if_neg (fun q => by omega)
theorem shM_SE {M : MemT} {y : Nat} : ∀ k, SE M (shM M k) y := by
  intro k
  induction k with
  | zero => exact SE_r
  | succ k ih => exact ih
theorem MU_W {M W : MemT} {u : Int} {y : Nat} {f : Int → Int32} (h : SE M W y) : SE M (if u = 20 then sI (LB (sI W 139 22 (zi 19)) 22 2468 f) 139 22 (zi 20) else sI (LB M (3 + u) 2468 f) 139 22 (zi (u + 1))) y := by
  by_cases c : u = 20
  · rw [if_pos c]
    exact h
  · rw [if_neg c]
    exact ⟨rfl, rfl, fun _ => rfl⟩
theorem MU_SE {M : MemT} {B : Int → Int} {u : Int} {y : Nat} : SE M (MU M u B) y := by
  unfold MU
  exact MU_W (shM_SE 19)
theorem shM_N {M : MemT} : ∀ k, mN (shM M k) = mN M := by
  intro k
  induction k with
  | zero => rfl
  | succ k ih => exact ih
theorem MU_NW {M W : MemT} {u : Int} {f : Int → Int32} (h : mN W = mN M) : mN (if u = 20 then sI (LB (sI W 139 22 (zi 19)) 22 2468 f) 139 22 (zi 20) else sI (LB M (3 + u) 2468 f) 139 22 (zi (u + 1))) = mN M := by
  by_cases c : u = 20
  · rw [if_pos c]
    exact h
  · rw [if_neg c]
    rfl
theorem MU_N {M : MemT} {B : Int → Int} {u : Int} : mN (MU M u B) = mN M := by
  unfold MU
  exact MU_NW (shM_N 19)
section M12
variable {M Mx M1 : MemT} {r s q : Nat} {P P' : Nat → Nat} {old cnt tl kp nt U : Int} {T tr sl bu as B B1 Bi : Int → Int} {Bs : Nat → Int → Int} {n : Nat} {R1 : Nat → Nat → Int32} {F1 : Nat → Int32} {S1 S2 : Int → Int} {ho ha : Int} {sm : Int32}
/-- what the component's add leaves -/
def AddO (M Mx : MemT) (P P' : Nat → Nat) (T B : Int → Int) (nt old cnt : Int) : Prop :=
  PGe Mx P' ∧ (P' ((old + cnt) % 20).toNat ≠ 0 ∧ RBk T B nt (rows Mx (P' ((old + cnt) % 20).toNat))) ∧ (∀ j, j ≤ 20 → j ≠ ((old + cnt) % 20).toNat → P' j = P j ∧ (P j ≠ 0 → ∀ o, o < 50 → rows Mx (P j) o = rows M (P j) o)) ∧ (mI Mx 137 0 = zi (if cnt = 20 then 20 else cnt + 1) ∧ mI Mx 137 1 = zi (if cnt = 20 then (old + 1) % 20 else old)) ∧ (mN M ≤ mN Mx ∧ (∀ y, y < mN M → y ≠ 138 → SE M Mx y) ∧ ∀ y k, y < 150 → y ≠ 137 → mI Mx y k = mI M y k)
theorem add_X (h : TOP M r s q P old cnt tl kp nt T tr sl bu as B Bi Bs U) (hA : AddO M Mx P P' T B nt old cnt) : XQr Mx 13 r (rows M 23) nt T tr sl bu as B U := by
  obtain ⟨hS, hP, ⟨d1, d2, d3, d4, d5, d6⟩, hU, hR, hB, hM, hb, hI, hu, hi⟩ := h
  obtain ⟨p1, p2, p3, p4, p5, p6, p7⟩ := hA
  have h150 := hP.2.2.2.1
  have hrs := hS.2.2.2.2.2.2.1
  have f0 := p6 0 (by omega) (by omega)
  exact ⟨⟨f0.1.trans hS.1.1, (f0.2.2 _).trans hS.1.2.2.2.2.1, by omega⟩, ⟨CSh_f hS.2.2.2.1 (fun y h1 h2 => p6 y (by omega) (by omega)) (fun y h1 h2 => p6 y (by omega) (by omega)), RU_f hU (fun y h1 h2 => funext fun k => p7 y k (by omega) (by omega)), hR, d1, d2, d3, hB.1, hB.2.1, AN2_r hB.2.1 hB.2.2.2.2.2.2.1⟩, d4, hB, d6⟩
theorem add_M (h : TOP M r s q P old cnt tl kp nt T tr sl bu as B Bi Bs U) (hA : AddO M Mx P P' T B nt old cnt) : MQr (WX Mx 13 R1 F1 S1) nt T tr sl bu as B U ∧ BkI (WX Mx 13 R1 F1 S1) 0 B ∧ mI (WX Mx 13 R1 F1 S1) 139 22 = zi cnt := by
  obtain ⟨hS, hP, ⟨d1, d2, d3, d4, d5, d6⟩, hU, hR, hB, hM, hb, hI, hu, hi⟩ := h
  obtain ⟨p1, p2, p3, p4, p5, p6, p7⟩ := hA
  have h150 := hP.2.2.2.1
  have e : ∀ y k, 139 ≤ y → y < 150 → mI (WX Mx 13 R1 F1 S1) y k = mI M y k := fun y k h1 h2 => by
    rw [WX_I, if_neg (by omega), if_neg (by omega)]
    exact p7 y k (by omega) (by omega)
  exact ⟨⟨MOk_f hM (fun y h1 h2 => p6 y (by omega) (by omega)) (fun y k h1 h2 _ => e y k (by omega) (by omega)), d1, d2, d3, d4, hB, d6⟩, BkI_f hb (fun k => e 147 k (by omega) (by omega)), (e 139 22 (by omega) (by omega)).trans hI.1.2.2⟩
theorem TOP_ch (h : TOP M r s q P old cnt tl kp nt T tr sl bu as B Bi Bs U) (hA : AddO M Mx P P' T B nt old cnt) (hU2 : U ≤ 99000000) (hR1 : RBk T B1 nt R1) (hB1 : BI T nt (U + 100000) B1) (e1 : M1 = WX Mx 13 R1 F1 S1) : TOP (WC (MU (sI M1 139 2 0) cnt B) 0 B1 S2 ho ha sm) r s q P' (if cnt = 20 then (old + 1) % 20 else old) (if cnt = 20 then 20 else cnt + 1) tl kp nt T tr sl bu as B1 Bi (fun i => if (i : Int) + 1 = (if cnt = 20 then 20 else cnt + 1) then B else if cnt = 20 then Bs (i + 1) else Bs i) (U + 100000) := by
  have hM1 := (add_M (R1 := R1) (F1 := F1) (S1 := S1) h hA).1
  rw [← e1] at hM1
  obtain ⟨hS, hP, ⟨d1, d2, d3, d4, d5, d6⟩, hU, hR, hB, hM, hb, hI, hu, hi⟩ := h
  obtain ⟨p1, p2, p3, p4, p5, p6, p7⟩ := hA
  have h150 := hP.2.2.2.1
  have hrs := hS.2.2.2.2.2.2.1
  have hr1 := hI.2.1
  have u0 : 0 ≤ cnt := hr1.2.1
  have sX : ∀ y, SE Mx (WC (MU (sI M1 139 2 0) cnt B) 0 B1 S2 ho ha sm) y := fun y => by
    have := MU_SE (M := sI M1 139 2 0) (B := B) (u := cnt) (y := y)
    rw [e1] at this ⊢
    exact this
  have sM : ∀ y, y < mN M → y ≠ 138 → SE M (WC (MU (sI M1 139 2 0) cnt B) 0 B1 S2 ho ha sm) y := fun y h1 h2 => SE_t (p6 y h1 h2) (sX y)
  have i1 : ∀ y k, (y < 23 ∨ 74 ≤ y) → mI M1 y k = mI Mx y k := fun y k hy => by rw [e1, WX_I, if_neg (by omega), if_neg (by omega)]
  have i2 : ∀ y (k : Nat), (y ≠ 147 ∨ (k : Int) < 2468 * 3) → (y ≠ 139 ∨ (k ≠ 22 ∧ k ≠ 2)) → mI (MU (sI M1 139 2 0) cnt B) y k = mI M1 y k := fun y k h1 h2 => (MU_o u0 h1 (by omega)).trans (sI_ne (by omega))
  have i3 : ∀ y k, y ≠ 147 → (y ≠ 139 ∨ (k ≠ 22 ∧ k ≠ 2 ∧ k ≠ 27)) → mI (WC (MU (sI M1 139 2 0) cnt B) 0 B1 S2 ho ha sm) y k = mI M1 y k := fun y k h1 h2 => by
    show (if y = 147 then _ else if y = 139 ∧ k = 27 then sm else mI (MU (sI M1 139 2 0) cnt B) y k) = _
    rw [if_neg h1, if_neg (by omega)]
    exact i2 y k (Or.inl h1) (by omega)
  have i4 : ∀ k : Int, 2468 ≤ k → mI (WC (MU (sI M1 139 2 0) cnt B) 0 B1 S2 ho ha sm) 147 k.toNat = mI (MU (sI M1 139 2 0) cnt B) 147 k.toNat := fun k hk => by
    rw [w_all, if_neg (by omega)]
  have i5 : ∀ y k, y < 147 → y ≠ 137 → (y < 23 ∨ 74 ≤ y) → (y ≠ 139 ∨ (k ≠ 22 ∧ k ≠ 2 ∧ k ≠ 27)) → mI (WC (MU (sI M1 139 2 0) cnt B) 0 B1 S2 ho ha sm) y k = mI M y k := fun y k h1 h2 h3 h4 => ((i3 y k (by omega) h4).trans (i1 y k h3)).trans (p7 y k (by omega) h2)
  have i6 : ∀ b, 150 ≤ b → rows (WC (MU (sI M1 139 2 0) cnt B) 0 B1 S2 ho ha sm) b = rows Mx b := fun b hb => by
    funext o k
    exact (i3 _ k (by omega) (by omega)).trans (i1 _ k (by omega))
  have i7 : ∀ k, mI (sI M1 139 2 0) 147 k = mI M 147 k := fun k => ((sI_ne (M := M1) (by omega)).trans (i1 147 k (by omega))).trans (p7 147 k (by omega) (by omega))
  have hat : ((old + cnt) % 20).toNat ≤ 20 := by omega
  refine ⟨TSh_f hS (fun y h1 h2 => sM y (by omega) h2), PGe_f p1 (by show mN Mx ≤ mN (MU (sI M1 139 2 0) cnt B); rw [MU_N, e1]; exact Nat.le_refl _) (fun y _ => sX y), ⟨d1, d2, d3, d4, d5, by omega⟩, RU_f hU (fun y h1 h2 => funext fun k => i5 y k (by omega) (by omega) (by omega) (by omega)), RBk_c hR1 (fun o ho => ?_) (BI_8 hB1).2, hB1, ?_, fun j j0 j1 => ?_, ?_, fun i hi' => ?_, fun hk => ?_⟩
  · funext k
    refine (i3 _ k (by omega) (by omega)).trans ?_
    rw [e1, WX_I, if_pos (by omega)]
    exact congrArg (fun z => R1 z k) (by omega)
  · refine MOk_f (MU_Ok u0 (mok_thr (v := 0) hM1.1)) (fun y _ _ => ⟨rfl, rfl, fun _ => rfl⟩) (fun y k h1 h2 h3 => ?_)
    show (if y = 147 then _ else if y = 139 ∧ k = 27 then sm else mI (MU (sI M1 139 2 0) cnt B) y k) = _
    rw [if_neg (by omega), if_neg (by omega)]
  · rw [w_all, if_pos (by omega)]
    exact congrArg zi (congrArg B1 (by omega))
  · obtain ⟨⟨a1, a2, a3⟩, -, ⟨b1, b2⟩, ⟨c1, c2, c3⟩, ⟨k1, k2, k3⟩, ht, hw⟩ := hI
    refine ⟨⟨((i3 137 0 (by omega) (by omega)).trans (i1 137 0 (by omega))).trans p4.1, ((i3 137 1 (by omega) (by omega)).trans (i1 137 1 (by omega))).trans p4.2, ?_⟩, ⟨?_, ?_⟩, ⟨?_, ?_⟩, ⟨(i5 _ _ (by omega) (by omega) (by omega) (by omega)).trans c1, (i5 _ _ (by omega) (by omega) (by omega) (by omega)).trans c2, c3⟩, ⟨(i5 _ _ (by omega) (by omega) (by omega) (by omega)).trans k1, (i5 _ _ (by omega) (by omega) (by omega) (by omega)).trans k2, k3⟩, fun k hk => ?_, ⟨fun k hk => (i5 _ _ (by omega) (by omega) (by omega) (by omega)).trans (hw.1 k hk), TR2_f hw.2 (fun k => i5 _ _ (by omega) (by omega) (by omega) (by omega))⟩⟩
    · rw [w_I (by decide) (by omega)]
      exact MU_u
    · split <;> omega
    · split <;> omega
    · rw [i5 2 0 (by omega) (by omega) (by omega) (by omega), i5 139 4 (by omega) (by omega) (by omega) (by omega), b1]
    · rw [i5 2 1 (by omega) (by omega) (by omega) (by omega), i5 139 5 (by omega) (by omega) (by omega) (by omega), b2]
    · rw [i5 1 k (by omega) (by omega) (by omega) (by omega), i5 140 k (by omega) (by omega) (by omega) (by omega)]
      exact ht k hk
  · have hb2 : BkI (WC (MU (sI M1 139 2 0) cnt B) 0 B1 S2 ho ha sm) (3 + i) (if (i : Int) + 1 = (if cnt = 20 then 20 else cnt + 1) then B else if cnt = 20 then Bs (i + 1) else Bs i) := by
      intro j j0 j1
      rw [i4 _ (by omega), MU_b u0 hr1.2.2 j0 j1 hi']
      by_cases c1 : (i : Int) + 1 = (if cnt = 20 then 20 else cnt + 1)
      · rw [if_pos c1, if_pos c1]
      · rw [if_neg c1, if_neg c1]
        by_cases c2 : cnt = 20
        · rw [if_pos c2] at c1 hi'
          rw [if_pos c2, if_pos c2, i7, ← (hu (i + 1) (by omega)).2.2.1 j j0 j1]
          exact congrArg (mI M 147) (by omega)
        · rw [if_neg c2] at c1 hi'
          rw [if_neg c2, if_neg c2, i7, ← (hu i (by omega)).2.2.1 j j0 j1]
    dsimp only
    by_cases c1 : (i : Int) + 1 = (if cnt = 20 then 20 else cnt + 1)
    · rw [if_pos c1] at hb2 ⊢
      have ei : ((if cnt = 20 then (old + 1) % 20 else old) + (i : Int)) % 20 = (old + cnt) % 20 := by
        by_cases c2 : cnt = 20
        · rw [if_pos c2] at c1 ⊢; omega
        · rw [if_neg c2] at c1 ⊢; omega
      rw [ei]
      refine ⟨p2.1, ?_, hb2, BI_le hB (by omega)⟩
      rw [i6 _ (p1.2.2.2.2.1 _ hat p2.1).1]
      exact p2.2
    · rw [if_neg c1] at hb2 ⊢
      by_cases c2 : cnt = 20
      · rw [if_pos c2] at c1 hi' hb2 ⊢
        rw [if_pos c2]
        have ei : ((old + 1) % 20 + (i : Int)) % 20 = (old + ((i + 1 : Nat) : Int)) % 20 := by omega
        obtain ⟨g1, g2, g3, g4⟩ := hu (i + 1) (by omega)
        have hj := p3 ((old + ((i + 1 : Nat) : Int)) % 20).toNat (by omega) (by omega)
        rw [ei, hj.1]
        refine ⟨g1, RBk_c g2 (fun o ho => ?_) (BI_8 g4).2, hb2, BI_le g4 (by omega)⟩
        rw [i6 _ (hP.2.2.2.2.1 _ (by omega) g1).1]
        exact hj.2 g1 o ho
      · rw [if_neg c2] at c1 hi' hb2 ⊢
        rw [if_neg c2]
        obtain ⟨g1, g2, g3, g4⟩ := hu i (by omega)
        have hj := p3 ((old + (i : Int)) % 20).toNat (by omega) (by omega)
        rw [hj.1]
        refine ⟨g1, RBk_c g2 (fun o ho => ?_) (BI_8 g4).2, hb2, BI_le g4 (by omega)⟩
        rw [i6 _ (hP.2.2.2.2.1 _ (by omega) g1).1]
        exact hj.2 g1 o ho
  · obtain ⟨g1, g2, g3, g4⟩ := hi hk
    have hj := p3 20 (by omega) (by omega)
    rw [hj.1]
    refine ⟨g1, RBk_c g2 (fun o ho => ?_) (BI_8 g4).2, fun j j0 j1 => ?_, BI_le g4 (by omega)⟩
    · rw [i6 _ (hP.2.2.2.2.1 _ (by omega) g1).1]
      exact hj.2 g1 o ho
    · rw [i4 _ (by omega), MU_o u0 (by omega) (by omega), i7]
      exact g3 j j0 j1
theorem P_run {gx gm : MemT → Option (Int32 × MemT)} (h : TOP M r s q P old cnt tl kp nt T tr sl bu as B Bi Bs U) (hn : 3000 < n) (hU2 : U ≤ 99000000) (hp : ∀ Mx M' Mu F S S' ho ha sm, XQr M 13 r (rows M 23) nt T tr sl bu as B U → MQr M' nt T tr sl bu as B U → XQr Mx 13 r (rows M 23) nt T tr sl bu as B U → MQr Mu nt T tr sl bu as B U → UN n M Mx M' Mu 13 (rows M 23) B → MP (gx (WX M 13 (rows M 23) F S)) (gm (WC M' 0 B S' ho ha sm)) M Mx (sI M' 139 2 0) Mu 13 (rows M 23) T B nt U) : RunsTo gx gm M (U + 100000) := by
  have hX := TOP_X h
  have hMq := TOP_M h
  have eX : WX M 13 (rows M 23) (mI M 73) (fun j => (mJ M 74 j.toNat).toInt) = M := WX_self (c := 13)
  obtain ⟨Mx, P', hadd, hA⟩ := x_add (n := n) h.2.1 hX.2.1.1.2.2.1 h.2.2.2.2.1 h.2.2.2.2.2.1 h.2.2.1.1.2 (by omega) h.2.2.2.2.2.2.2.2.1.1.2.1 h.2.2.2.2.2.2.2.2.1.1.1 h.2.2.2.2.2.2.2.2.1.2.1.1 h.2.2.2.2.2.2.2.2.1.2.1.2
  have hA : AddO M Mx P P' T B nt old cnt := hA
  have hXx := add_X h hA
  have hun : ∀ M', MQr M' nt T tr sl bu as B U → mI M' 139 22 = zi cnt → MQr (MU (sI M' 139 2 0) cnt B) nt T tr sl bu as B U ∧ UN n M Mx M' (MU (sI M' 139 2 0) cnt B) 13 (rows M 23) B := fun M' hq hc => by
    have hr := h.2.2.2.2.2.2.2.2.1.2.1.2
    have ho := mok_thr (v := 0) hq.1
    refine ⟨⟨MU_Ok hr.1 ho, hq.2⟩, 137, h.2.1.1.2.1, h.2.1.2.1.1, hadd, fun S ho' ha' sm' => m_canUndo ho hn hr.1 hr.2 ((sI_ne (by omega)).trans hc)⟩
  have app : ∀ M', MQr M' nt T tr sl bu as B U → BkI M' 0 B → mI M' 139 22 = zi cnt → MP (gx M) (gm M') M Mx (sI M' 139 2 0) (MU (sI M' 139 2 0) cnt B) 13 (rows M 23) T B nt U := fun M' hq hb hc => by
    obtain ⟨S0, ho0, ha0, sm0, eM⟩ := WC_self hb
    obtain ⟨q1, q2⟩ := hun M' hq hc
    have := hp Mx M' _ (mI M 73) (fun j => (mJ M 74 j.toNat).toInt) S0 ho0 ha0 sm0 hX hq hXx q1 q2
    rw [eX, eM] at this
    exact this
  have fin : ∀ v M1, gx M = some (v, M1) → MQr M1 nt T tr sl bu as B U → BkI M1 0 B → mI M1 139 22 = zi cnt → RunsTo gx gm M (U + 100000) := fun v M1 g hq hb hc => by
    rcases app M1 hq hb hc with ⟨v', F1, S1, S2, ho2, ha2, sm2, g1, g2⟩ | ⟨v', R1, B1, F1, S1, S2, ho2, ha2, sm2, g1, g2, g3, g4⟩
    · rw [g] at g1
      have ev : v = v' := congrArg Prod.fst (Option.some.inj g1)
      have eM1 : M1 = WX M 13 (rows M 23) F1 S1 := congrArg Prod.snd (Option.some.inj g1)
      have h1 : TOP M1 r s q P old cnt tl kp nt T tr sl bu as B Bi Bs U := by
        rw [eM1]
        exact TOP_f h (Nat.le_refl _) (fun _ _ => ⟨rfl, rfl, fun _ => rfl⟩) (fun y k _ hs => WX_scr hs)
      have h2 : TOP (WC (sI M1 139 2 0) 0 B S2 ho2 ha2 sm2) r s q P old cnt tl kp nt T tr sl bu as B Bi Bs U := TOP_f h1 (Nat.le_refl _) (fun _ _ => ⟨rfl, rfl, fun _ => rfl⟩) (fun y k _ hs => WC_scr hb hs)
      exact ⟨v, M1, _, g, hq.1.1.1, by rw [ev]; exact g2, TOP_E (TOP_U h2 hU2)⟩
    · rw [g] at g1
      have ev : v = v' := congrArg Prod.fst (Option.some.inj g1)
      have eM1 : M1 = WX Mx 13 R1 F1 S1 := congrArg Prod.snd (Option.some.inj g1)
      exact ⟨v, M1, _, g, hq.1.1.1, by rw [ev]; exact g2, TOP_E (TOP_ch h hA hU2 g3 g4 eM1)⟩
  rcases app M hMq h.2.2.2.2.2.2.2.1 h.2.2.2.2.2.2.2.2.1.1.2.2 with ⟨v, F1, S1, S2, ho2, ha2, sm2, g1, g2⟩ | ⟨v, R1, B1, F1, S1, S2, ho2, ha2, sm2, g1, g2, g3, g4⟩
  · have h1 : TOP (WX M 13 (rows M 23) F1 S1) r s q P old cnt tl kp nt T tr sl bu as B Bi Bs U := TOP_f h (Nat.le_refl _) (fun _ _ => ⟨rfl, rfl, fun _ => rfl⟩) (fun y k _ hs => WX_scr hs)
    exact fin v _ g1 (TOP_M h1) h1.2.2.2.2.2.2.2.1 h1.2.2.2.2.2.2.2.2.1.1.2.2
  · obtain ⟨a1, a2, a3⟩ := add_M (R1 := R1) (F1 := F1) (S1 := S1) h hA
    exact fin v _ g1 a1 a2 a3
end M12
