/-! ===== PURE 65: pages: copies of the books ===== -/
def rows (M : MemT) (b : Nat) : Nat → Nat → Int32 := fun o k => mI M (b + o) k
theorem WR_rows {M : MemT} {b : Nat} : WR M b (rows M b) = M := WR_self
theorem RA_c {T B : Int → Int} {R R1 : Nat → Nat → Int32} {a : Nat} (h : RA T B R a) (e : ∀ o, 10 + 5 * a ≤ o → o < 15 + 5 * a → R1 o = R o) : RA T B R1 a := by
  unfold RA at h ⊢
  rw [e (10 + 5 * a) (by omega) (by omega), e (10 + 5 * a + 1) (by omega) (by omega), e (10 + 5 * a + 2) (by omega) (by omega), e (10 + 5 * a + 3) (by omega) (by omega), e (10 + 5 * a + 4) (by omega) (by omega)]
  exact h
theorem RBk_c {T B : Int → Int} {nt : Int} {R R1 : Nat → Nat → Int32} (h : RBk T B nt R) (e : ∀ o, o < 50 → R1 o = R o) (h8 : B 1865 ≤ 8) : RBk T B nt R1 := by
  obtain ⟨hM, hH, hA⟩ := h
  refine ⟨?_, ?_, fun a ha => RA_c (hA a ha) (fun o h1 h2 => e o (by omega))⟩
  · unfold RM at hM ⊢
    rw [e 0 (by omega), e 4 (by omega), e 5 (by omega), e 6 (by omega), e 7 (by omega), e 8 (by omega), e 9 (by omega)]
    exact hM
  · unfold RH at hH ⊢
    rw [e 1 (by omega), e 2 (by omega)]
    exact hH
theorem i_aV {M : MemT} {κ x : Nat} {k N : Int} (hk : mK M x = κ) (hl : (mL M x : Int) = N) (h0 : 0 ≤ k) (h1 : k < N) (h2 : N ≤ 2147483647) : aV M κ x (zi k) = some (ovl (mR M x k.toNat)) := by
  unfold aV inA
  have e0 : ¬ (zi k < 0 ∨ mL M x ≤ (zi k).toNatClampNeg) := by
    show ¬ (zi k < zi 0 ∨ _)
    rw [zi_lt (by omega) (by omega) (by omega) (by omega), zi_tn (by omega) h0]
    omega
  rw [if_pos ⟨hk, e0⟩, zi_tn (by omega) h0]
theorem i_aO {M : MemT} {κ x j : Nat} {k N : Int} (hk : mK M x = κ) (hl : (mL M x : Int) = N) (h0 : 0 ≤ k) (h1 : k < N) (h2 : N ≤ 2147483647) (hr : mR M x k.toNat = some j) : aO M κ x (zi k) = some j := by
  unfold aO inA
  have e0 : ¬ (zi k < 0 ∨ mL M x ≤ (zi k).toNatClampNeg) := by
    show ¬ (zi k < zi 0 ∨ _)
    rw [zi_lt (by omega) (by omega) (by omega) (by omega), zi_tn (by omega) h0]
    omega
  rw [if_pos ⟨hk, e0⟩, zi_tn (by omega) h0, hr]
theorem nzR_n {β : Type} {a : Option β} {f : Nat → Option β} : nzR (ovl none) a f = a := rfl
theorem nzR_s {β : Type} {a : Option β} {f : Nat → Option β} {j : Nat} : nzR (ovl (some j)) a f = f j := rfl
theorem i_gV {M : MemT} {c x k : Nat} (hk : mK M x = c) : gV M c x k = some (ovl (mR M x k)) := if_pos hk
theorem i_pO {M : MemT} {c x k j : Nat} (hk : mK M x = c) : pO M c x k j = some (sR M x k (some j)) := if_pos hk
section M10
variable {M : MemT} {R : Nat → Nat → Int32} {F : Nat → Int32} {S : Int → Int} {n : Nat} {T B : Int → Int} {nt U : Int}
theorem BI_AO (hB : BI T nt U B) {a : Int} (h0 : 0 ≤ a) (h1 : a < B 1865) : AO B a := (hB.2.2.2.2.2.2.2.2.2 a h0 h1).1
theorem BI_8 (hB : BI T nt U B) : 0 ≤ B 1865 ∧ B 1865 ≤ 8 := hB.2.2.2.2.2.2.2.2.1
theorem BI_hz (h : RBk T B nt R) (hB : BI T nt U B) (a : Nat) (ha : (a : Int) < B 1865) : (R (10 + 5 * a) 8 = 0 ∨ R (10 + 5 * a) 8 = 1) ∧ (R (10 + 5 * a) 12 = 0 ∨ R (10 + 5 * a) 12 = 1) := by
  have hA := BI_AO hB (a := (a : Int)) (by omega) ha
  have h9 := hA.2.2.2.2.2.2.2.2.2.1
  have h11 := hA.2.2.2.2.2.2.2.2.2.2.1
  have hr := (h.2.2 a ha).2.1
  rw [hr.2.2.1, hr.2.2.2.2.2.2.1]
  refine ⟨?_, ?_⟩
  · rcases h9 with q | q <;> rw [q]
    · exact Or.inl rfl
    · exact Or.inr rfl
  · rcases h11 with q | q <;> rw [q]
    · exact Or.inl rfl
    · exact Or.inr rfl
theorem copyS {b s : Nat} (hb : BSh M b) (hs : BSh M s) (hd : s + 50 ≤ b ∨ b + 50 ≤ s) {Q : Nat → Nat → Int32} (hQ : ∀ o, o < 50 → Q o = mI M (s + o)) (hR : RBk T B nt Q) (hB : BI T nt U B) (hn : 10 < n) : g_X2_copyFrom n M b s = some ((), WR M b (cpAZ Q (rows M b) (B 1865).toNat)) := by
  have g := x_bcopy (R := rows M b) hb hs hd Q hQ hn (BI_8 hB) hR.1.1.2.1 (BI_hz hR hB)
  rw [WR_rows] at g
  exact g
theorem RB_cpB {Q : Nat → Nat → Int32} (hR : RBk T B nt Q) (hB : BI T nt U B) (hnt : nt ≤ 4) : RBk T B nt (cpAZ Q R (B 1865).toNat) :=
  RB_cp hR hnt (KE_K hB.2.2.2.2.1).2.1 (BI_8 hB).2 (fun a ha => (BI_AO hB (by omega) ha).2.2.2.2.2.2.2.2.2.2.2.2.2)
def pgR (P : Nat → Nat) (i : Nat) : Option Nat := if P i = 0 then none else some (P i)
def PGe (M : MemT) (P : Nat → Nat) : Prop :=
  (mK M 0 = 7 ∧ mR M 0 6 = some 137 ∧ mR M 0 7 = pgR P 20) ∧ (mK M 137 = 3 ∧ mR M 137 2 = some 138 ∧ mK M 138 = 15 ∧ mL M 138 = 20) ∧ (∀ i, i < 20 → mR M 138 i = pgR P i) ∧ 150 ≤ mN M ∧ (∀ i, i ≤ 20 → P i ≠ 0 → 150 ≤ P i ∧ P i + 50 ≤ mN M ∧ BSh M (P i)) ∧ (∀ i j, i ≤ 20 → j ≤ 20 → i ≠ j → P i ≠ 0 → P j ≠ 0 → P i + 50 ≤ P j ∨ P j + 50 ≤ P i)
def upP (P : Nat → Nat) (i b : Nat) : Nat → Nat := fun j => if j = i then b else P j
theorem sR_SE {x k y : Nat} {v : Option Nat} (h : y ≠ x) : SE M (sR M x k v) y := ⟨rfl, rfl, fun j => if_neg (by omega)⟩
/-- a field gets a new Books -/
theorem PGe_newW {W : MemT} {P : Nat → Nat} {i x k : Nat} (hNW : mN W = mN M + 50) (np_S : ∀ {y : Nat}, y < mN M → SE M W y) (np_B : BSh W (mN M)) (hP : PGe M P) (hi : i ≤ 20) (hz : P i = 0) (hx : (i < 20 ∧ x = 138 ∧ k = i) ∨ (i = 20 ∧ x = 0 ∧ k = 7)) : PGe (sR (W) x k (some (mN M))) (upP P i (mN M)) := by
  obtain ⟨⟨a1, a2, a3⟩, ⟨b1, b2, b3, b4⟩, c1, d1, e1, f1⟩ := hP
  have hx2 : x < 150 := by omega
  have s0 := np_S (y := 0) (by omega)
  have s137 := np_S (y := 137) (by omega)
  have s138 := np_S (y := 138) (by omega)
  have hN : mN (sR (W) x k (some (mN M))) = mN M + 50 := hNW
  have eP : ∀ j, j ≠ i → upP P i (mN M) j = P j := fun j hj => if_neg hj
  have ePi : upP P i (mN M) i = mN M := if_pos rfl
  have pe : ∀ j, j ≠ i → pgR (upP P i (mN M)) j = pgR P j := fun j hj => by unfold pgR; rw [eP j hj]
  have pi : pgR (upP P i (mN M)) i = some (mN M) := by unfold pgR; rw [ePi, if_neg (by omega)]
  refine ⟨⟨s0.1.trans a1, ?_, ?_⟩, ⟨s137.1.trans b1, ?_, s138.1.trans b3, s138.2.1.trans b4⟩, fun j hj => ?_, by omega, fun j hj hjz => ?_, fun j1 j2 h1 h2 h3 h4 h5 => ?_⟩
  · show (if 0 = x ∧ 6 = k then _ else _) = _
    rw [if_neg (by omega)]; exact (s0.2.2 _).trans a2
  · show (if 0 = x ∧ 7 = k then _ else _) = _
    by_cases c : i = 20
    · rw [if_pos (by omega), ← c, pi]
    · rw [if_neg (by omega), pe 20 (by omega)]; exact (s0.2.2 _).trans a3
  · show (if 137 = x ∧ 2 = k then _ else _) = _
    rw [if_neg (by omega)]; exact (s137.2.2 _).trans b2
  · show (if 138 = x ∧ j = k then _ else _) = _
    by_cases c : j = i
    · subst c
      rw [if_pos (by omega), pi]
    · rw [if_neg (by omega), pe j c]; exact (s138.2.2 _).trans (c1 j hj)
  · by_cases c : j = i
    · subst c
      rw [ePi, hN]
      exact ⟨d1, Nat.le_refl _, BSh_f np_B (fun y h1 h2 => sR_SE (by omega))⟩
    · rw [eP j c] at hjz ⊢
      obtain ⟨g1, g2, g3⟩ := e1 j hj hjz
      exact ⟨g1, by omega, BSh_f g3 (fun y h1 h2 => SE_t (np_S (by omega)) (sR_SE (by omega)))⟩
  · by_cases c1 : j1 = i
    · rw [c1, ePi, eP j2 (by omega)]
      rw [eP j2 (by omega)] at h5
      have := (e1 j2 h2 h5).2.1
      omega
    · rw [eP j1 c1] at h4 ⊢
      have := (e1 j1 h1 h4).2.1
      by_cases c2 : j2 = i
      · rw [c2, ePi]; omega
      · rw [eP j2 c2] at h5 ⊢
        exact f1 j1 j2 h1 h2 h3 h4 h5
theorem PGe_new {P : Nat → Nat} {i x k : Nat} (hP : PGe M P) (hi : i ≤ 20) (hz : P i = 0) (hx : (i < 20 ∧ x = 138 ∧ k = i) ∨ (i = 20 ∧ x = 0 ∧ k = 7)) : PGe (sR (npM M) x k (some (mN M))) (upP P i (mN M)) := PGe_newW np_N np_S np_B hP hi hz hx
/-- what does not speak of ints -/
theorem PGe_f {M1 : MemT} {P : Nat → Nat} (hP : PGe M P) (hN : mN M ≤ mN M1) (h : ∀ y, y = 0 ∨ y = 137 ∨ y = 138 ∨ (150 ≤ y ∧ y < mN M) → SE M M1 y) : PGe M1 P := by
  obtain ⟨⟨a1, a2, a3⟩, ⟨b1, b2, b3, b4⟩, c1, d1, e1, f1⟩ := hP
  have s0 := h 0 (by omega)
  have s137 := h 137 (by omega)
  have s138 := h 138 (by omega)
  refine ⟨⟨s0.1.trans a1, (s0.2.2 _).trans a2, (s0.2.2 _).trans a3⟩, ⟨s137.1.trans b1, (s137.2.2 _).trans b2, s138.1.trans b3, s138.2.1.trans b4⟩, fun j hj => (s138.2.2 _).trans (c1 j hj), by omega, fun j hj hjz => ?_, f1⟩
  obtain ⟨g1, g2, g3⟩ := e1 j hj hjz
  exact ⟨g1, by omega, BSh_f g3 (fun y h1 h2 => h y (by omega))⟩
theorem PGe_I {P : Nat → Nat} {x k : Nat} {v : Int32} (hP : PGe M P) : PGe (sI M x k v) P := PGe_f hP (Nat.le_refl _) (fun _ _ => ⟨rfl, rfl, fun _ => rfl⟩)
theorem PGe_WR {P : Nat → Nat} {b : Nat} {Q : Nat → Nat → Int32} (hP : PGe M P) : PGe (WR M b Q) P := PGe_f hP (Nat.le_refl _) (fun _ _ => ⟨rfl, rfl, fun _ => rfl⟩)
theorem x_add2 {P : Nat → Nat} {t : Int} (hP : PGe M P) (h23 : BSh M 23) (t0 : 0 ≤ t) (t1 : t < 20) (hz : P t.toNat ≠ 0) (hR : RBk T B nt R) (hB : BI T nt U B) (hn : 10 < n) {old cnt : Int} (ho : mI M 137 1 = zi old) (hc : mI M 137 0 = zi cnt) (o0 : 0 ≤ old ∧ old < 20) (c0 : 0 ≤ cnt ∧ cnt ≤ 20) : (fun (M6 : MemT)  => (gO M6 3 137 2).bind (fun j7 => (aO M6 15 j7 (zi t)).bind (fun j8 => chk M6 1 j8 (bd (g_X2_copyFrom n M6 j8 23) (fun r9 M10 => (gI M10 3 137 0).bind (fun v11 => (if 20 ≤ v11 then (gI M10 3 137 1).bind (fun v14 => (if (20 : Int32) = 0 then none else (pI M10 3 137 1 ((v14 + 1) - (v14 + 1) / 20 * 20)).bind (fun M15 => some ((), M15)))) else (gI M10 3 137 0).bind (fun v12 => (pI M10 3 137 0 (v12 + 1)).bind (fun M13 => some ((), M13)))))))))) (WX M 13 R F S) = some ((), WX (sI (WR M (P t.toNat) (cpAZ R (rows M (P t.toNat)) (B 1865).toNat)) 137 (if cnt = 20 then 1 else 0) (zi (if cnt = 20 then (old + 1) % 20 else cnt + 1))) 13 R F S) := by
  obtain ⟨⟨a1, a2, a3⟩, ⟨b1, b2, b3, b4⟩, c1, d1, e1, f1⟩ := hP
  obtain ⟨g1, g2, g3⟩ := e1 t.toNat (by omega) hz
  generalize hb : P t.toNat = b at g1 g2 g3 hz ⊢
  have er : mR (WX M 13 R F S) 138 t.toNat = some b := by
    refine (c1 t.toNat (by omega)).trans ?_
    unfold pgR
    rw [hb, if_neg hz]
  have cp : g_X2_copyFrom n (WX M 13 R F S) b 23 = some ((), WR (WX M 13 R F S) b (cpAZ R (rows (WX M 13 R F S) b) (B 1865).toNat)) := copyS (M := WX M 13 R F S) (b := b) (s := 23) g3 h23 (by omega) (fun o ho => by
    funext k
    rw [WX_I, if_pos (by omega)]
    exact congrArg (fun z => R z k) (by omega)) hR hB hn
  have erw : rows (WX M 13 R F S) b = rows M b := by
    funext o k
    unfold rows
    rw [WX_I, if_neg (by omega), if_neg (by omega)]
  rw [erw, WR_WX (by omega)] at cp
  have i0 : ∀ k, mI (WX (WR M b (cpAZ R (rows M b) (B 1865).toNat)) 13 R F S) 137 k = mI M 137 k := fun k => by
    rw [WX_I, if_neg (by omega), if_neg (by omega), xr_out (by omega)]
  dsimp only
  rw [i_gO (M := WX M 13 R F S) b1 b2, i_sb, i_aO (M := WX M 13 R F S) b3 (by show (mL M 138 : Int) = 20; rw [b4]; rfl) t0 t1 (by omega) er, i_sb, i_chk (M := WX M 13 R F S) g3.1, cp, i_bd, i_gI (M := WX (WR M b (cpAZ R (rows M b) (B 1865).toNat)) 13 R F S) b1, i_sb, i0, hc]
  have e20 : ((20 : Int32) ≤ zi cnt) = (20 ≤ cnt) := zi_le (a := 20) (by omega) (by omega) (by omega) (by omega)
  by_cases c : cnt = 20
  · rw [if_pos (by rw [e20]; omega), if_pos c, if_pos c, i_gI (M := WX (WR M b (cpAZ R (rows M b) (B 1865).toNat)) 13 R F S) b1, i_sb, i0, ho, if_neg (by decide), i_pI (M := WX (WR M b (cpAZ R (rows M b) (B 1865).toNat)) 13 R F S) b1, i_sb, sI_WX (by omega)]
    show some ((), WX (sI _ 137 1 (zi old + zi 1 - (zi old + zi 1) / zi 20 * zi 20)) 13 R F S) = _
    rw [zi_add, zi_rem (by omega) (by omega) (by omega) (by omega)]
  · rw [if_neg (by rw [e20]; omega), if_neg c, if_neg c, i_sb, i_pI (M := WX (WR M b (cpAZ R (rows M b) (B 1865).toNat)) 13 R F S) b1, i_sb, sI_WX (by omega), show zi cnt + 1 = zi (cnt + 1) from zi_add cnt 1]
theorem x_add {P : Nat → Nat} (hP : PGe M P) (h23 : BSh M 23) (hR : RBk T B nt R) (hB : BI T nt U B) (hnt : nt ≤ 4) (hn : 10 < n) {old cnt : Int} (ho : mI M 137 1 = zi old) (hc : mI M 137 0 = zi cnt) (o0 : 0 ≤ old ∧ old < 20) (c0 : 0 ≤ cnt ∧ cnt ≤ 20) : ∃ Mx P', (∀ F S, g_X4_add n (WX M 13 R F S) 137 23 = some ((), WX Mx 13 R F S)) ∧ PGe Mx P' ∧ (P' ((old + cnt) % 20).toNat ≠ 0 ∧ RBk T B nt (rows Mx (P' ((old + cnt) % 20).toNat))) ∧ (∀ j, j ≤ 20 → j ≠ ((old + cnt) % 20).toNat → P' j = P j ∧ (P j ≠ 0 → ∀ o, o < 50 → rows Mx (P j) o = rows M (P j) o)) ∧ (mI Mx 137 0 = zi (if cnt = 20 then 20 else cnt + 1) ∧ mI Mx 137 1 = zi (if cnt = 20 then (old + 1) % 20 else old)) ∧ (mN M ≤ mN Mx ∧ (∀ y, y < mN M → y ≠ 138 → SE M Mx y) ∧ ∀ y k, y < 150 → y ≠ 137 → mI Mx y k = mI M y k) := by
  have ht : 0 ≤ (old + cnt) % 20 ∧ (old + cnt) % 20 < 20 := by omega
  generalize ht2 : (old + cnt) % 20 = t at ht
  have hN := hP.2.2.2.1
  have step : ∀ (M1 : MemT) (P1 : Nat → Nat), PGe M1 P1 → P1 t.toNat ≠ 0 → BSh M1 23 → mI M1 137 1 = zi old → mI M1 137 0 = zi cnt → (∀ j, j ≠ t.toNat → P1 j = P j) → (∀ j, j ≤ 20 → j ≠ t.toNat → P j ≠ 0 → ∀ o k, o < 50 → mI M1 (P j + o) k = mI M (P j + o) k) → (mN M ≤ mN M1 ∧ (∀ y, y < mN M → y ≠ 138 → SE M M1 y) ∧ ∀ y k, y < 150 → y ≠ 137 → mI M1 y k = mI M y k) → PGe (sI (WR M1 (P1 t.toNat) (cpAZ R (rows M1 (P1 t.toNat)) (B 1865).toNat)) 137 (if cnt = 20 then 1 else 0) (zi (if cnt = 20 then (old + 1) % 20 else cnt + 1))) P1 ∧ (P1 t.toNat ≠ 0 ∧ RBk T B nt (rows (sI (WR M1 (P1 t.toNat) (cpAZ R (rows M1 (P1 t.toNat)) (B 1865).toNat)) 137 (if cnt = 20 then 1 else 0) (zi (if cnt = 20 then (old + 1) % 20 else cnt + 1))) (P1 t.toNat))) ∧ (∀ j, j ≤ 20 → j ≠ t.toNat → P1 j = P j ∧ (P j ≠ 0 → ∀ o, o < 50 → rows (sI (WR M1 (P1 t.toNat) (cpAZ R (rows M1 (P1 t.toNat)) (B 1865).toNat)) 137 (if cnt = 20 then 1 else 0) (zi (if cnt = 20 then (old + 1) % 20 else cnt + 1))) (P j) o = rows M (P j) o)) ∧ (mI (sI (WR M1 (P1 t.toNat) (cpAZ R (rows M1 (P1 t.toNat)) (B 1865).toNat)) 137 (if cnt = 20 then 1 else 0) (zi (if cnt = 20 then (old + 1) % 20 else cnt + 1))) 137 0 = zi (if cnt = 20 then 20 else cnt + 1) ∧ mI (sI (WR M1 (P1 t.toNat) (cpAZ R (rows M1 (P1 t.toNat)) (B 1865).toNat)) 137 (if cnt = 20 then 1 else 0) (zi (if cnt = 20 then (old + 1) % 20 else cnt + 1))) 137 1 = zi (if cnt = 20 then (old + 1) % 20 else old)) ∧ (mN M ≤ mN (sI (WR M1 (P1 t.toNat) (cpAZ R (rows M1 (P1 t.toNat)) (B 1865).toNat)) 137 (if cnt = 20 then 1 else 0) (zi (if cnt = 20 then (old + 1) % 20 else cnt + 1))) ∧ (∀ y, y < mN M → y ≠ 138 → SE M (sI (WR M1 (P1 t.toNat) (cpAZ R (rows M1 (P1 t.toNat)) (B 1865).toNat)) 137 (if cnt = 20 then 1 else 0) (zi (if cnt = 20 then (old + 1) % 20 else cnt + 1))) y) ∧ ∀ y k, y < 150 → y ≠ 137 → mI (sI (WR M1 (P1 t.toNat) (cpAZ R (rows M1 (P1 t.toNat)) (B 1865).toNat)) 137 (if cnt = 20 then 1 else 0) (zi (if cnt = 20 then (old + 1) % 20 else cnt + 1))) y k = mI M y k) := by
    intro M1 P1 hP1 hz1 h231 ho1 hc1 hPj hI1 hfr
    obtain ⟨g1, g2, g3⟩ := hP1.2.2.2.2.1 t.toNat (by omega) hz1
    have hdj := fun j (hj : j ≤ 20) (hjt : j ≠ t.toNat) (hjz : P j ≠ 0) => hP1.2.2.2.2.2 j t.toNat hj (by omega) hjt (by rw [hPj j hjt]; exact hjz) hz1
    have hpj := fun j (hj : j ≤ 20) (hjt : j ≠ t.toNat) (hjz : P j ≠ 0) => hP.2.2.2.2.1 j hj hjz
    have ePj := hPj
    generalize hb : P1 t.toNat = b at g1 g2 g3 hz1 hdj ⊢
    generalize hQ : cpAZ R (rows M1 b) (B 1865).toNat = Q
    have hRQ : RBk T B nt Q := by rw [← hQ]; exact RB_cpB hR hB hnt
    generalize hf : (if cnt = 20 then 1 else 0 : Nat) = f
    generalize hv : zi (if cnt = 20 then (old + 1) % 20 else cnt + 1) = v
    have eI : ∀ y k, y ≠ 137 → ¬ (b ≤ y ∧ y < b + 50) → mI (sI (WR M1 b Q) 137 f v) y k = mI M1 y k := fun y k hy hb => (if_neg (fun q => hy q.1)).trans (xr_out hb)
    refine ⟨PGe_I (PGe_WR hP1), ⟨hz1, RBk_c hRQ (fun o ho => ?_) (BI_8 hB).2⟩, fun j hj hjt => ⟨hPj j hjt, fun hjz => ?_⟩, ⟨?_, ?_⟩, ⟨hfr.1, fun y hy h8 => ?_, fun y k hy h7 => ?_⟩⟩
    · funext k
      show (if b + o = 137 ∧ k = f then v else mI (WR M1 b Q) (b + o) k) = _
      rw [if_neg (by omega)]
      exact xr_at ho
    · have q1 := hdj j hj hjt hjz
      have q2 := hpj j hj hjt hjz
      rw [hPj j hjt] at q1
      intro o co
      funext k
      exact (eI _ _ (by omega) (by omega)).trans (hI1 j hj hjt hjz o k co)
    · show (if 137 = 137 ∧ 0 = f then v else mI (WR M1 b Q) 137 0) = _
      by_cases c : cnt = 20
      · rw [if_pos c] at hf
        rw [if_neg (by omega), xr_out (by omega), hc1, if_pos c, c]
      · rw [if_neg c] at hf hv
        rw [if_pos (by omega), if_neg c, ← hv]
    · show (if 137 = 137 ∧ 1 = f then v else mI (WR M1 b Q) 137 1) = _
      by_cases c : cnt = 20
      · rw [if_pos c] at hf hv
        rw [if_pos (by omega), if_pos c, ← hv]
      · rw [if_neg c] at hf
        rw [if_neg (by omega), xr_out (by omega), ho1, if_neg c]
    · exact SE_t (hfr.2.1 y hy h8) ⟨rfl, rfl, fun _ => rfl⟩
    · exact (eI y k h7 (by omega)).trans (hfr.2.2 y k hy h7)
  have hd : ∀ F S, g_X4_add n (WX M 13 R F S) 137 23 = jp (fun (s : MemT) => (fun (M6 : MemT)  => (gO M6 3 137 2).bind (fun j7 => (aO M6 15 j7 (zi t)).bind (fun j8 => chk M6 1 j8 (bd (g_X2_copyFrom n M6 j8 23) (fun r9 M10 => (gI M10 3 137 0).bind (fun v11 => (if 20 ≤ v11 then (gI M10 3 137 1).bind (fun v14 => (if (20 : Int32) = 0 then none else (pI M10 3 137 1 ((v14 + 1) - (v14 + 1) / 20 * 20)).bind (fun M15 => some ((), M15)))) else (gI M10 3 137 0).bind (fun v12 => (pI M10 3 137 0 (v12 + 1)).bind (fun M13 => some ((), M13)))))))))) s) (fun K5 => nzR (ovl (mR M 138 t.toNat)) (nwO (WX M 13 R F S) 1 (fun j17 M18 => bd (g_X2_init n M18 j17) (fun r19 M20 => (wO M20 15 1 138 (zi t) j17).bind (fun M21 => K5 M21)))) (fun j22 => K5 (WX M 13 R F S))) := fun F S => by
    obtain ⟨⟨a1, a2, a3⟩, ⟨b1, b2, b3, b4⟩, c1, d1, e1, f1⟩ := hP
    have i0 : ∀ k, mI (WX M 13 R F S) 137 k = mI M 137 k := fun k => by rw [WX_I, if_neg (by omega), if_neg (by omega)]
    have eO : gO (WX M 13 R F S) 3 137 2 = some 138 := i_gO b1 b2
    unfold g_X4_add
    rw [i_gI (M := WX M 13 R F S) b1, i_sb, i_gI (M := WX M 13 R F S) b1, i_sb, i0, i0, ho, hc, if_neg (by decide), eO, i_sb]
    have et : zi old + zi cnt - (zi old + zi cnt) / 20 * 20 = zi t := by
      rw [zi_add]
      exact (zi_rem (m := 20) (by omega) (by omega) (by omega) (by omega)).trans (by rw [ht2])
    rw [et, i_aV (M := WX M 13 R F S) b3 (by show (mL M 138 : Int) = 20; rw [b4]; rfl) (by omega) (by omega) (by omega), i_sb]
    rfl
  by_cases hz : P t.toNat = 0
  · have hPn := PGe_new (i := t.toNat) (x := 138) (k := t.toNat) hP (by omega) hz (Or.inl ⟨by omega, rfl, rfl⟩)
    have hI : ∀ y k, y < mN M → mI (sR (npM M) 138 t.toNat (some (mN M))) y k = mI M y k := fun y k hy => np_I hy
    have h23n : BSh (sR (npM M) 138 t.toNat (some (mN M))) 23 := BSh_f h23 (fun y h1 h2 => SE_t (np_S (by omega)) (sR_SE (by omega)))
    have hzn : upP P t.toNat (mN M) t.toNat ≠ 0 := by unfold upP; rw [if_pos rfl]; omega
    refine ⟨_, _, fun F S => ?_, step (sR (npM M) 138 t.toNat (some (mN M))) (upP P t.toNat (mN M)) hPn hzn h23n ((hI _ _ (by omega)).trans ho) ((hI _ _ (by omega)).trans hc) (fun j hj => if_neg hj) (fun j hj hjt hjz o k ho => hI _ _ (by have := hP.2.2.2.2.1 j hj hjz; omega)) ⟨by show mN M ≤ mN (npM M); rw [np_N]; omega, fun y hy h8 => SE_t (np_S hy) (sR_SE h8), fun y k hy h7 => hI y k (by omega)⟩⟩
    rw [hd, i_jp, hP.2.2.1 t.toNat (by omega)]
    unfold pgR
    rw [if_pos hz, nzR_n]
    unfold nwO
    rw [WX_N]
    dsimp only
    have hi := np_init (n := n) (M := WX M 13 R F S)
    rw [WX_N] at hi
    rw [hi, i_bd, np_WX (by omega), i_wO (M := WX (npM M) 13 R F S) (κ := 15) (N := 20) ((np_S (by omega)).1.trans hP.2.1.2.2.1) np_B.1 (by show (mL (npM M) 138 : Int) = 20; rw [(np_S (by omega)).2.1, hP.2.1.2.2.2]; rfl) (by omega) (by omega) (by omega), i_sb, sR_WX]
    exact x_add2 hPn h23n (by omega) (by omega) hzn hR hB hn ((hI _ _ (by omega)).trans ho) ((hI _ _ (by omega)).trans hc) o0 c0
  · refine ⟨_, _, fun F S => ?_, step M P hP hz h23 ho hc (fun _ _ => rfl) (fun _ _ _ _ _ _ _ => rfl) ⟨Nat.le_refl _, fun _ _ _ => SE_r, fun _ _ _ _ => rfl⟩⟩
    rw [hd, i_jp, hP.2.2.1 t.toNat (by omega)]
    unfold pgR
    rw [if_neg hz, nzR_s]
    exact x_add2 hP h23 (by omega) (by omega) hz hR hB hn ho hc o0 c0
end M10
