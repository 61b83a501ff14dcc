/-! ===== PURE 28: an asset comes into the component's books ===== -/
def begR (R : Nat → Nat → Int32) (o : Nat) (t u x s q : Int) : Nat → Nat → Int32 := up2 (up2 (up2 (up2 (up2 (up2 (up2 (up2 (up2 (up2 (up2 (up2 (up2 (up2 (up2 R o 0 (zi t)) o 1 (zi t)) o 2 (zi u)) o 3 (zi x)) o 4 (zi s)) o 5 (zi q)) o 6 (zi (-2))) o 7 (zi (-1))) o 8 (zi 0)) o 9 (zi 0)) o 10 (zi 0)) o 11 (zi 0)) o 12 (zi 0)) o 13 (zi 0)) o 14 (zi 0)
def Q47 (B : Int → Int) : Prop := ∀ a : Int, 0 ≤ a → a < B 1865 → AtZ B a 47 ≤ 10
theorem begR_o {R : Nat → Nat → Int32} {o y k : Nat} {t u x s q : Int} (h : y ≠ o) : begR R o t u x s q y k = R y k := by
  unfold begR
  rw [up2_o h, up2_o h, up2_o h, up2_o h, up2_o h, up2_o h, up2_o h, up2_o h, up2_o h, up2_o h, up2_o h, up2_o h, up2_o h, up2_o h, up2_o h]
theorem begR_0 {R : Nat → Nat → Int32} {o : Nat} {t u x s q : Int} : begR R o t u x s q o 0 = zi t := by
  unfold begR
  rw [up2_k (by omega), up2_k (by omega), up2_k (by omega), up2_k (by omega), up2_k (by omega), up2_k (by omega), up2_k (by omega), up2_k (by omega), up2_k (by omega), up2_k (by omega), up2_k (by omega), up2_k (by omega), up2_k (by omega), up2_k (by omega), up2_at]
theorem begR_1 {R : Nat → Nat → Int32} {o : Nat} {t u x s q : Int} : begR R o t u x s q o 1 = zi t := by
  unfold begR
  rw [up2_k (by omega), up2_k (by omega), up2_k (by omega), up2_k (by omega), up2_k (by omega), up2_k (by omega), up2_k (by omega), up2_k (by omega), up2_k (by omega), up2_k (by omega), up2_k (by omega), up2_k (by omega), up2_k (by omega), up2_at]
theorem begR_2 {R : Nat → Nat → Int32} {o : Nat} {t u x s q : Int} : begR R o t u x s q o 2 = zi u := by
  unfold begR
  rw [up2_k (by omega), up2_k (by omega), up2_k (by omega), up2_k (by omega), up2_k (by omega), up2_k (by omega), up2_k (by omega), up2_k (by omega), up2_k (by omega), up2_k (by omega), up2_k (by omega), up2_k (by omega), up2_at]
theorem begR_3 {R : Nat → Nat → Int32} {o : Nat} {t u x s q : Int} : begR R o t u x s q o 3 = zi x := by
  unfold begR
  rw [up2_k (by omega), up2_k (by omega), up2_k (by omega), up2_k (by omega), up2_k (by omega), up2_k (by omega), up2_k (by omega), up2_k (by omega), up2_k (by omega), up2_k (by omega), up2_k (by omega), up2_at]
theorem begR_4 {R : Nat → Nat → Int32} {o : Nat} {t u x s q : Int} : begR R o t u x s q o 4 = zi s := by
  unfold begR
  rw [up2_k (by omega), up2_k (by omega), up2_k (by omega), up2_k (by omega), up2_k (by omega), up2_k (by omega), up2_k (by omega), up2_k (by omega), up2_k (by omega), up2_k (by omega), up2_at]
theorem begR_5 {R : Nat → Nat → Int32} {o : Nat} {t u x s q : Int} : begR R o t u x s q o 5 = zi q := by
  unfold begR
  rw [up2_k (by omega), up2_k (by omega), up2_k (by omega), up2_k (by omega), up2_k (by omega), up2_k (by omega), up2_k (by omega), up2_k (by omega), up2_k (by omega), up2_at]
theorem begR_6 {R : Nat → Nat → Int32} {o : Nat} {t u x s q : Int} : begR R o t u x s q o 6 = zi (-2) := by
  unfold begR
  rw [up2_k (by omega), up2_k (by omega), up2_k (by omega), up2_k (by omega), up2_k (by omega), up2_k (by omega), up2_k (by omega), up2_k (by omega), up2_at]
theorem begR_7 {R : Nat → Nat → Int32} {o : Nat} {t u x s q : Int} : begR R o t u x s q o 7 = zi (-1) := by
  unfold begR
  rw [up2_k (by omega), up2_k (by omega), up2_k (by omega), up2_k (by omega), up2_k (by omega), up2_k (by omega), up2_k (by omega), up2_at]
theorem begR_8 {R : Nat → Nat → Int32} {o : Nat} {t u x s q : Int} : begR R o t u x s q o 8 = zi 0 := by
  unfold begR
  rw [up2_k (by omega), up2_k (by omega), up2_k (by omega), up2_k (by omega), up2_k (by omega), up2_k (by omega), up2_at]
theorem begR_9 {R : Nat → Nat → Int32} {o : Nat} {t u x s q : Int} : begR R o t u x s q o 9 = zi 0 := by
  unfold begR
  rw [up2_k (by omega), up2_k (by omega), up2_k (by omega), up2_k (by omega), up2_k (by omega), up2_at]
theorem begR_10 {R : Nat → Nat → Int32} {o : Nat} {t u x s q : Int} : begR R o t u x s q o 10 = zi 0 := by
  unfold begR
  rw [up2_k (by omega), up2_k (by omega), up2_k (by omega), up2_k (by omega), up2_at]
theorem begR_11 {R : Nat → Nat → Int32} {o : Nat} {t u x s q : Int} : begR R o t u x s q o 11 = zi 0 := by
  unfold begR
  rw [up2_k (by omega), up2_k (by omega), up2_k (by omega), up2_at]
theorem begR_12 {R : Nat → Nat → Int32} {o : Nat} {t u x s q : Int} : begR R o t u x s q o 12 = zi 0 := by
  unfold begR
  rw [up2_k (by omega), up2_k (by omega), up2_at]
theorem begR_13 {R : Nat → Nat → Int32} {o : Nat} {t u x s q : Int} : begR R o t u x s q o 13 = zi 0 := by
  unfold begR
  rw [up2_k (by omega), up2_at]
theorem begR_14 {R : Nat → Nat → Int32} {o : Nat} {t u x s q : Int} : begR R o t u x s q o 14 = zi 0 := by
  unfold begR
  rw [up2_at]
theorem newZ_hi {B : Int → Int} {t u x s i : Int} (h8 : 0 ≤ B 1865) (h : ¬ (2084 + 48 * B 1865 ≤ i ∧ i < 2084 + 48 * B 1865 + 48)) : newZ B t u x s i = B i := by
  unfold newZ
  rw [upZ_ne (by omega), upZ_ne (by omega), upZ_ne (by omega), upZ_ne (by omega), upZ_ne (by omega), upZ_ne (by omega)]
  exact if_neg (by omega)
theorem newZ_at {B : Int → Int} {t u x s j : Int} (h8 : 0 ≤ B 1865) (h0 : 0 ≤ j) (h1 : j < 48) : AtZ (newZ B t u x s) (B 1865) j = if j = 5 then B 0 else if j = 4 then s else if j = 3 then x else if j = 2 then u else if j = 1 then t else if j = 0 then t else 0 := by
  unfold newZ
  rw [AtZ_up, AtZ_up, AtZ_up, AtZ_up, AtZ_up, AtZ_up]
  have : AtZ (clrZ B (B 1865) 48) (B 1865) j = 0 := by
    unfold AtZ clrZ
    exact if_pos (by omega)
  rw [this]
theorem acqZ_at {B : Int → Int} {t u x s a j : Int} (h8 : 0 ≤ B 1865) (hN : BN B) (t0 : 0 ≤ t) (t1 : t < 4) (u0 : 0 ≤ u) (u1 : u ≤ 2) (ha : 0 ≤ a) (h0 : 0 ≤ j) (h1 : j < 48) : AtZ (acqZ B t u x s) a j = if a = B 1865 then (if j = 5 then B 0 else if j = 4 then s else if j = 3 then x else if j = 2 then u else if j = 1 then t else if j = 0 then t else 0) else AtZ B a j := by
  obtain ⟨n1, n2⟩ := hN
  have e : AtZ (acqZ B t u x s) a j = AtZ (newZ B t u x s) a j := by
    unfold acqZ AtZ
    rw [upZ_ne (by omega)]
    exact upZ_ne (by unfold sumI; omega)
  rw [e]
  by_cases c : a = B 1865
  · rw [if_pos c, c, newZ_at h8 h0 h1]
  · rw [if_neg c]
    exact newZ_hi h8 (by omega)
theorem acqZ_lo {B : Int → Int} {t u x s i : Int} (h8 : 0 ≤ B 1865) (hN : BN B) (t0 : 0 ≤ t) (t1 : t < 4) (u0 : 0 ≤ u) (u1 : u ≤ 2) (hi : i < 2084) (h5 : i ≠ 1865) (hs : i ≠ sumI t (B 0) (2 + u)) : acqZ B t u x s i = B i := by
  unfold acqZ
  rw [upZ_ne h5]
  exact (upZ_ne hs).trans (newZ_hi h8 (by omega))
theorem RM_eq {B B1 : Int → Int} {R R1 : Nat → Nat → Int32} (h : RM B R) (hb : ∀ i : Int, i < 2084 → B1 i = B i) (hK : B 1867 ≤ 40) (hr : ∀ o, o < 10 → R1 o = R o) : RM B1 R1 := by
  obtain ⟨⟨a0, a1, a2⟩, s4, s5, s6, s7, s8, s9⟩ := h
  unfold RM
  rw [hr 0 (by omega), hr 4 (by omega), hr 5 (by omega), hr 6 (by omega), hr 7 (by omega), hr 8 (by omega), hr 9 (by omega), hb 0 (by omega), hb 1865 (by omega), hb 1866 (by omega), hb 1867 (by omega)]
  exact ⟨⟨a0, a1, a2⟩, fun k k0 k1 => by rw [hb _ (by omega)]; exact s4 k k0 k1, fun k k0 k1 => by rw [hb _ (by omega)]; exact s5 k k0 k1, fun k k0 k1 => by rw [hb _ (by omega)]; exact s6 k k0 k1, fun k k0 k1 => by rw [hb _ (by omega)]; exact s7 k k0 k1, fun k k0 k1 => by rw [hb _ (by omega)]; exact s8 k k0 k1, fun k w k0 k1 w0 w1 => by rw [hb _ (by omega)]; exact s9 k w k0 k1 w0 w1⟩
theorem RM_cnt {B : Int → Int} {R : Nat → Nat → Int32} {v : Int} (h : RM B R) (hK : B 1867 ≤ 40) : RM (upZ B 1865 v) (up2 R 0 1 (zi v)) := by
  obtain ⟨⟨a0, a1, a2⟩, s4, s5, s6, s7, s8, s9⟩ := h
  have e : ∀ i : Int, i ≠ 1865 → upZ B 1865 v i = B i := fun i hi => upZ_ne hi
  have r : ∀ o k, o ≠ 0 → up2 R 0 1 (zi v) o k = R o k := fun o k ho => up2_o ho
  refine ⟨⟨?_, ?_, ?_⟩, fun k k0 k1 => ?_, fun k k0 k1 => ?_, fun k k0 k1 => ?_, fun k k0 k1 => ?_, fun k k0 k1 => ?_, fun k w k0 k1 w0 w1 => ?_⟩
  · rw [up2_k (by omega), e _ (by omega), a0]
  · rw [up2_at, upZ_self]
  · rw [up2_k (by omega), e _ (by omega), a2]
  · rw [r _ _ (by omega), e _ (by omega), s4 k k0 k1]
  · rw [r _ _ (by omega), e _ (by omega), s5 k k0 k1]
  · rw [r _ _ (by omega), e _ (by omega), s6 k k0 k1]
  · rw [r _ _ (by omega), e _ (by omega), s7 k k0 k1]
  · rw [r _ _ (by omega), e _ (by omega), s8 k k0 k1]
  · rw [e _ (by omega)] at k1
    rw [r _ _ (by omega), e _ (by omega), e _ (by omega), s9 k w k0 k1 w0 w1]
theorem RM_now {B : Int → Int} {R : Nat → Nat → Int32} {v : Int} (h : RM B R) (hK : B 1867 ≤ 40) : RM (upZ B 0 v) (up2 R 0 0 (zi v)) := by
  obtain ⟨⟨a0, a1, a2⟩, s4, s5, s6, s7, s8, s9⟩ := h
  have e : ∀ i : Int, i ≠ 0 → upZ B 0 v i = B i := fun i hi => upZ_ne hi
  have r : ∀ o k, o ≠ 0 → up2 R 0 0 (zi v) o k = R o k := fun o k ho => up2_o ho
  refine ⟨⟨?_, ?_, ?_⟩, fun k k0 k1 => ?_, fun k k0 k1 => ?_, fun k k0 k1 => ?_, fun k k0 k1 => ?_, fun k k0 k1 => ?_, fun k w k0 k1 w0 w1 => ?_⟩
  · rw [up2_at, upZ_self]
  · rw [up2_k (by omega), e _ (by omega), a1]
  · rw [up2_k (by omega), e _ (by omega), a2]
  · rw [r _ _ (by omega), e _ (by omega), s4 k k0 k1]
  · rw [r _ _ (by omega), e _ (by omega), s5 k k0 k1]
  · rw [r _ _ (by omega), e _ (by omega), s6 k k0 k1]
  · rw [r _ _ (by omega), e _ (by omega), s7 k k0 k1]
  · rw [r _ _ (by omega), e _ (by omega), s8 k k0 k1]
  · rw [e _ (by omega)] at k1
    rw [r _ _ (by omega), e _ (by omega), e _ (by omega), s9 k w k0 k1 w0 w1]
section XACQ
variable {M : MemT} {b : Nat} {R : Nat → Nat → Int32} {n : Nat} {T B : Int → Int} {nt : Int}
theorem x_begin (h : BSh M b) {a : Nat} (ha : a < 8) {t u x s q : Int} : g_X1_begin n (WR M b R) (b + 10 + 5 * a) (zi t) (zi u) (zi x) (zi s) (zi q) = some ((), WR M b (begR R (10 + 5 * a) t u x s q)) := by
  unfold g_X1_begin
  rw [x_pA h ha, i_sb, x_pA h ha, i_sb, x_pA h ha, i_sb, x_pA h ha, i_sb, x_pA h ha, i_sb, x_pA h ha, i_sb, x_pA h ha, i_sb, x_pA h ha, i_sb, x_zA h ha (Or.inl rfl), i_sb, x_pA h ha, i_sb, x_pA h ha, i_sb, x_pA h ha, i_sb, x_zA h ha (Or.inl rfl), i_sb, x_pA h ha, i_sb, x_pA h ha, i_sb]
  rfl
theorem x_addAsset (h : BSh M b) (hR : RBk T B nt R) (hnt : nt ≤ 4) (hN : BN B) (hK : B 1867 ≤ 40) (h8 : 0 ≤ B 1865 ∧ B 1865 < 8) (hQ : Q47 B) {t u x s : Int} (t0 : 0 ≤ t) (t1 : t < 4) (u0 : 0 ≤ u) (u1 : u ≤ 2) : ∃ R1, g_X2_addAsset n (WR M b R) b (zi t) (zi u) (zi x) (zi s) = some (zi (B 1865), WR M b R1) ∧ RBk T (acqZ B t u x s) nt R1 := by
  obtain ⟨hM, hH, hA⟩ := hR
  obtain ⟨n1, n2⟩ := id hN
  obtain ⟨ac, hac⟩ : ∃ ac : Nat, B 1865 = ac := ⟨(B 1865).toNat, by omega⟩
  have ha : ac < 8 := by omega
  have hM1 : RM (newZ B t u x s) (begR R (10 + 5 * ac) t u x s (B 0)) := RM_eq hM (fun i hi => newZ_hi h8.1 (by omega)) hK (fun o ho => by funext k; exact begR_o (by omega))
  have hnK : newZ B t u x s 1867 = B 1867 := newZ_hi h8.1 (by omega)
  obtain ⟨R2, g2, m2, o2⟩ := x_addToSum (n := n) h hM1 (by rw [hnK]; exact hK) (t := t) (q := B 0) (w := 2 + u) (v := x) t0 t1 n1 n2 (by omega) (by omega)
  have r0 : ∀ k, R2 0 k = R 0 k := fun k => by
    rw [o2 0 (by omega)]; exact begR_o (by omega)
  refine ⟨up2 R2 0 1 (zi (B 1865 + 1)), ?_, ?_, ?_, ?_⟩
  · unfold g_X2_addAsset
    have e1 : gI (WR M b R) 1 b 1 = some (zi ac) := by rw [x_gB h, hM.1.2.1, hac]
    have l8 : zi (ac : Int) < 8 := by
      show zi _ < zi 8
      rw [zi_lt (by omega) (by omega) (by omega) (by omega)]; omega
    have b0 : begR R (10 + 5 * ac) t u x s (B 0) 0 0 = zi (B 0) := (begR_o (by omega)).trans hM.1.1
    have e2 : (2 : Int32) + zi u = zi (2 + u) := zi_add 2 u
    have e3 : zi (ac : Int) + 1 = zi (B 1865 + 1) := by rw [hac]; exact zi_add _ 1
    rw [e1, i_sb, if_pos l8, x_o5 h, i_sb, i_sb, x_oA h ha, i_sb, x_gB h, i_sb, hM.1.1, x_kA h ha, x_begin h ha, i_bd, x_gB h, i_sb, b0, x_kB h, e2, g2, i_bd, x_gB h, i_sb, r0, hM.1.2.1, hac, ← hac, show zi (B 1865) + 1 = zi (B 1865 + 1) from zi_add _ 1, x_pB h, i_sb, x_gB h, i_sb, up2_at]
    show some (zi (B 1865 + 1) - zi 1, _) = _
    rw [zi_sub, Int.add_sub_cancel]
  · exact RM_cnt m2 (by rw [show addZ (newZ B t u x s) (sumI t (B 0) (2 + u)) x 1867 = newZ B t u x s 1867 from upZ_ne (by unfold sumI; omega), hnK]; exact hK)
  · intro i i0 i1
    have e := hH i i0 i1
    rw [acqZ_lo h8.1 hN t0 t1 u0 u1 (by omega) (by omega) (by unfold sumI; omega), acqZ_lo h8.1 hN t0 t1 u0 u1 (by omega) (by omega) (by unfold sumI; omega), up2_o (by omega), up2_o (by omega), o2 1 (by omega), o2 2 (by omega), begR_o (by omega), begR_o (by omega)]
    exact e
  · intro a a1
    have hlen : acqZ B t u x s 1865 = B 1865 + 1 := acqZ_1865
    rw [hlen] at a1
    have hz : acqZ B t u x s 0 = B 0 := acqZ_0 h8.1 hN t0 u0
    by_cases c : a = ac
    · subst c
      have f : ∀ k, up2 R2 0 1 (zi (B 1865 + 1)) (10 + 5 * a) k = begR R (10 + 5 * a) t u x s (B 0) (10 + 5 * a) k := fun k => by
        rw [up2_o (by omega), o2 _ (by omega)]
      have at' : ∀ j : Int, 0 ≤ j → j < 48 → AtZ (acqZ B t u x s) a j = if j = 5 then B 0 else if j = 4 then s else if j = 3 then x else if j = 2 then u else if j = 1 then t else if j = 0 then t else 0 := fun j j0 j1 => by
        rw [acqZ_at h8.1 hN t0 t1 u0 u1 (by omega) j0 j1, if_pos hac.symm]
      have a47 : AtZ (acqZ B t u x s) a 47 = 0 := (at' 47 (by omega) (by omega)).trans (by simp)
      have a7 : AtZ (acqZ B t u x s) a 7 = 0 := (at' 7 (by omega) (by omega)).trans (by simp)
      have a11 : AtZ (acqZ B t u x s) a 11 = 0 := (at' 11 (by omega) (by omega)).trans (by simp)
      have a9 : AtZ (acqZ B t u x s) a 9 = 0 := (at' 9 (by omega) (by omega)).trans (by simp)
      have a6 : AtZ (acqZ B t u x s) a 6 = 0 := (at' 6 (by omega) (by omega)).trans (by simp)
      have a10 : AtZ (acqZ B t u x s) a 10 = 0 := (at' 10 (by omega) (by omega)).trans (by simp)
      have b0 : AtZ (acqZ B t u x s) a 0 = t := (at' 0 (by omega) (by omega)).trans (by simp)
      have b1 : AtZ (acqZ B t u x s) a 1 = t := (at' 1 (by omega) (by omega)).trans (by simp)
      have b2 : AtZ (acqZ B t u x s) a 2 = u := (at' 2 (by omega) (by omega)).trans (by simp)
      have b3 : AtZ (acqZ B t u x s) a 3 = x := (at' 3 (by omega) (by omega)).trans (by simp)
      have b4 : AtZ (acqZ B t u x s) a 4 = s := (at' 4 (by omega) (by omega)).trans (by simp)
      have b5 : AtZ (acqZ B t u x s) a 5 = B 0 := (at' 5 (by omega) (by omega)).trans (by simp)
      unfold RA
      rw [a47, a7, a11, a9, a6, a10, b0, b1, b2, b3, b4, b5, f, f, f, f, f, f, f, f, f, f, f, f, f, f, f, begR_0, begR_1, begR_2, begR_3, begR_4, begR_5, begR_6, begR_8, begR_9, begR_11, begR_12, begR_14]
      exact ⟨⟨rfl, rfl, rfl, rfl, rfl, rfl⟩, ⟨rfl, fun q => absurd rfl q, rfl, rfl, fun q => absurd q (by omega), rfl, rfl, fun q => absurd q (by omega), rfl⟩, fun q => absurd q (by omega), fun i i0 i1 => absurd i1 (by omega)⟩
    · refine RA_eq (hA a (by omega)) (fun j j0 j1 => ?_) (hQ a (by omega) (by omega)) (by rw [hz]) (fun o o0 o1 => ?_)
      · rw [acqZ_at h8.1 hN t0 t1 u0 u1 (by omega) j0 j1, if_neg (by omega)]
      · funext k
        rw [up2_o (by omega), o2 _ (by omega)]
        exact begR_o (by omega)
theorem Q47_acq {t u x s : Int} (h8 : 0 ≤ B 1865) (hN : BN B) (hQ : Q47 B) (t0 : 0 ≤ t) (t1 : t < 4) (u0 : 0 ≤ u) (u1 : u ≤ 2) : Q47 (acqZ B t u x s) := by
  intro a a0 a1
  rw [acqZ_1865] at a1
  rw [acqZ_at h8 hN t0 t1 u0 u1 a0 (by omega) (by omega)]
  by_cases c : a = B 1865
  · rw [if_pos c]; simp
  · rw [if_neg c]; exact hQ a a0 (by omega)
end XACQ
