/-! ===== PURE 100: text: both sides ===== -/
section M45
variable {M : MemT} {r s q : Nat} {P : Nat → Nat} {old cnt tl kp nt U : Int} {T tr sl bu as B Bi : Int → Int} {Bs : Nat → Int → Int} {n len : Nat} {u : Nat → Int} {f hd F : Nat → Int32} {Z R1 : Nat → Nat → Int32} {S : Int → Int}
theorem r_txF (h : TOP M r s q P old cnt tl kp nt T tr sl bu as B Bi Bs U) (hU2 : U ≤ 99000000) (hn : 100000010 < n) (hl : (len : Int) ≤ tl) (hx : XT M u) (hy : ∀ k : Nat, k < 700 → mI M 140 k = zi (u k)) {c : Int} {pl : Nat} (ht : txR u len 701 0 st0 0 = .inl (c, pl)) : RunsTo (fun M => g_X9_text n M 0 (zi (len : Int))) (fun M => g_X10_text n M 139 (zi (len : Int))) M (U + 100000) := by
  obtain ⟨tS, hP, hD, hU, hR0, hB0, hM, hb0, hI, hu, hi⟩ := id h
  have hrs := tS.2.2.2.2.2.2.1
  obtain ⟨-, -, -, ⟨c1, c2, c3, c4⟩, -, -, hw, hTR⟩ := id hI
  obtain ⟨f, hd, Z, gx, f0, f1⟩ := x_txF (n := n) (len := len) tS c1 ⟨hl, c4⟩ hx (by omega) ht
  have S1 : ∀ y, y ≠ 2 → SE M (PX (MXf (sI M 0 1 0) s) s f hd Z) y := fun y hy2 => ⟨(MXf_S (M := sI M 0 1 0) (s := s) hy2).1, (MXf_S (M := sI M 0 1 0) (s := s) hy2).2.1, (MXf_S (M := sI M 0 1 0) (s := s) hy2).2.2⟩
  have i1 : ∀ y k, mI (PX (MXf (sI M 0 1 0) s) s f hd Z) y k = if y = 2 then f k else if y = 3 then hd k else if s ≤ y ∧ y < s + 9 then Z (y - s) k else if y = 0 ∧ k = 1 then 0 else mI M y k := fun y k => rfl
  have n2 : mK (PX (MXf (sI M 0 1 0) s) s f hd Z) 2 = 4 ∧ mR (PX (MXf (sI M 0 1 0) s) s f hd Z) 2 12 = some 3 := ⟨tS.2.2.1.1, tS.2.2.1.2.1⟩
  have nN : mN (PX (MXf (sI M 0 1 0) s) s f hd Z) = mN M := rfl
  generalize PX (MXf (sI M 0 1 0) s) s f hd Z = M1 at *
  have lo : ∀ y k, 100 ≤ y → mI M1 y k = mI M y k := fun y k hk => by rw [i1, if_neg (by omega), if_neg (by omega), if_neg (by omega), if_neg (by omega)]
  have hS1 : MShape M1 := MShape_f hM.1 (fun y _ _ => S1 y (by omega))
  have hYT : YT M1 u := ⟨fun k hk => ⟨(lo 140 k (by omega)).trans (hy k hk), (hx k hk).2⟩, fun k hk => (lo 141 k (by omega)).trans (hw k hk), (S1 141 (by omega)).2.1.trans tS.2.2.2.2.2.2.2.2.2⟩
  obtain ⟨fs, hds, Zs, -, fs3, -, hXs⟩ := x_bgn (n := n) (len := len) tS (by omega)
  have hT1 : TRAf (fun o => mI M1 (142 + o)) := TR2_f (M1 := M1) hTR (fun k => lo 142 k (by omega))
  have key := y_txt (n := n) (g := mI M1 139) (A := fun o => mI M1 (142 + o)) (len := len) (tl := tl) hS1 hYT (MXf_P tS) (show XT (MXf M s) u from hx) hT1 ((lo 139 1 (by omega)).trans c2) ⟨hl, c4⟩ fs3 hXs (by omega)
  rw [ht, YX_self] at key
  rcases key with ⟨c', pl', g', A', q1, q2, q3, q4, q5, q6, q7⟩ | ⟨g', c', f, hd, Z, e, q1, -⟩
  · have hc := Sum.inl.inj q1
    have hc1 : c = c' := congrArg Prod.fst hc
    have hc2 : pl = pl' := congrArg Prod.snd hc
    subst hc1 hc2
    have i2 : ∀ y k, mI (YX M1 g' A') y k = if y = 139 then g' k else if 142 ≤ y ∧ y ≤ 146 then A' (y - 142) k else mI M1 y k := fun y k => rfl
    have gk : ∀ k, ¬ (k = 4 ∨ k = 5 ∨ k = 7 ∨ k = 8 ∨ k = 9 ∨ k = 10 ∨ k = 12 ∨ k = 18 ∨ k = 19) → k ≠ 1 → k ≠ 2 → k ≠ 6 → g' k = mI M 139 k := fun k k1 k2 k3 k4 => by
      rw [q5 k k1]
      unfold gSt
      rw [up1_ne (by omega), up1_ne (by omega), up1_ne (by omega), up1_ne (by omega), up1_ne (by omega), up1_ne (by omega)]
      exact lo 139 k (by omega)
    have eA : ∀ o k, o < 5 → mI (YX M1 g' A') (142 + o) k = A' o k := fun o k ho => by rw [i2, if_neg (by omega), if_pos (by omega), Nat.add_sub_cancel_left]
    have hTop : TopE (YX M1 g' A') U := by
      refine TOP_txF h (fun y hy2 => S1 y hy2) n2 nN (fun y k g1 g2 g3 g4 g5 g6 g7 => ?_) ⟨fun k hk => ?_, fun k hk => ?_, fun k hk => ?_, fun k hk => ?_, fun k hk => ?_⟩ (fun t ht' => ?_) ⟨?_, ?_⟩ ⟨?_, ?_⟩
      · rw [i2]
        by_cases c9 : y = 139
        · subst c9
          unfold scr at g1
          rw [if_pos rfl]
          exact gk k (by omega) (by omega) (by omega) (by omega)
        · rw [if_neg c9, if_neg g7, i1, if_neg g2, if_neg g3, if_neg g4, if_neg g5]
      · exact (eA 0 k (by omega)).trans ((q6.1 k hk).trans (lo _ _ (by omega)))
      · exact (eA 1 k (by omega)).trans ((q6.2.1 k hk).trans (lo _ _ (by omega)))
      · exact (eA 2 k (by omega)).trans ((q6.2.2.1 k hk).trans (lo _ _ (by omega)))
      · exact (eA 3 k (by omega)).trans ((q6.2.2.2.1 k hk).trans (lo _ _ (by omega)))
      · exact (eA 4 k (by omega)).trans ((q6.2.2.2.2 k hk).trans (lo _ _ (by omega)))
      · exact q7 t ht'
      · rw [i2, if_neg (by omega), if_neg (by omega), i1, if_pos rfl, i2, if_pos rfl, f0, q3]
      · rw [i2, if_neg (by omega), if_neg (by omega), i1, if_pos rfl, i2, if_pos rfl, f1, q4]
      · rw [i2, if_neg (by omega), if_neg (by omega), i1, if_neg (by omega), if_neg (by omega), if_neg (by omega), if_pos ⟨rfl, rfl⟩]
        rfl
      · rw [i2, if_pos rfl, q5 1 (by omega)]
        rfl
    obtain ⟨r', s2, qq, P', o', cn, tl', kp', nt', T1, t1, s1, b1, a1, B1, Bi1, Bs1, hTT⟩ := hTop
    exact ⟨_, M1, _, gx, (S1 139 (by omega)).1.trans hM.1.1, q2, TOP_E (TOP_U hTT hU2)⟩
  · exact absurd q1 (by simp)
theorem PGe_0 {M1 : MemT} {P : Nat → Nat} (hP : PGe M P) (hN : mN M ≤ mN M1) (h0 : mK M1 0 = 7 ∧ mR M1 0 6 = mR M 0 6 ∧ mR M1 0 7 = mR M 0 7) (h : ∀ y, y ≠ 0 → y ≠ 2 → y ≠ 13 → SE M M1 y) : PGe M1 P := by
  obtain ⟨⟨a1, a2, a3⟩, ⟨b1, b2, b3, b4⟩, c1, d1, e1, f1⟩ := hP
  have s137 := h 137 (by omega) (by omega) (by omega)
  have s138 := h 138 (by omega) (by omega) (by omega)
  exact ⟨⟨h0.1, h0.2.1.trans a2, h0.2.2.trans a3⟩, ⟨s137.1.trans b1, (s137.2.2 _).trans b2, s138.1.trans b3, s138.2.1.trans b4⟩, fun i hi => (s138.2.2 i).trans (c1 i hi), by omega, fun i hi hz => ⟨(e1 i hi hz).1, by have := (e1 i hi hz).2.1; omega, BSh_f (e1 i hi hz).2.2 (fun y h1 h2 => h y (by have := (e1 i hi hz).1; omega) (by have := (e1 i hi hz).1; omega) (by have := (e1 i hi hz).1; omega))⟩, f1⟩
end M45
