/-! ===== PURE 55: what a call changes: the invariant and the rows kept ===== -/
section M0
variable {T tr sl bu as B B1 : Int → Int} {nt U V : Int}
theorem BI_le (h : BI T nt U B) (hv : U ≤ V) : BI T nt V B := by
  obtain ⟨hB, hN, hUB, hFZ, hKE, hE, hAN, hBK, hA8, hX⟩ := h
  exact ⟨hB, hN, fun i i0 i1 => Int.le_trans (hUB i i0 i1) hv, hFZ, hKE, hE, hAN, fun i i0 i1 => ⟨(hBK i i0 i1).1, by have := (hBK i i0 i1).2; omega⟩, hA8, hX⟩
theorem BI_add (h : BI T nt U B) (hU : 0 ≤ U ∧ U ≤ 100000000) {t q w x : Int} (t0 : 0 ≤ t) (t1 : t < 4) (q0 : 0 ≤ q) (q1 : q ≤ B 0) (w0 : 0 ≤ w) (w1 : w < 5) (x0 : 0 ≤ x ∧ x ≤ 100000) : BI T nt (U + 100000) (addZ B (sumI t q w) x) := by
  obtain ⟨hB, hN, hUB, hFZ, hKE, hE, hAN, hBK, hA8, hX⟩ := h
  obtain ⟨n1, n2⟩ := id hN
  have hp : 1 ≤ sumI t q w ∧ sumI t q w < 1281 := by unfold sumI; omega
  have e : ∀ i : Int, i ≠ sumI t q w → addZ B (sumI t q w) x i = B i := fun i hi => addZ_ne hi
  have at_ : ∀ i : Int, addZ B (sumI t q w) x i = if i = sumI t q w then B i + x else B i := fun i => addZ_at
  refine ⟨⟨fun k k0 k1 => ?_, fun k k0 k1 => ?_⟩, ?_, fun k k0 k1 => ?_, fun t' q' w' a0 a1 b0 b1 c0 c1 => ?_, KE_up hKE (by omega) (by omega), ?_, fun k k0 k1 => ?_, fun k k0 k1 => ?_, ?_, fun a a0 a1 => ?_⟩
  · have h1 := hB.1 k k0 k1
    have h2 := hUB k k0 k1
    rw [at_]
    split <;> omega
  · rw [e _ (by omega), e _ (by omega)]
    exact hB.2 k k0 k1
  · unfold BN
    rw [e 0 (by omega)]
    exact hN
  · have h2 := hUB k k0 k1
    rw [at_]
    split <;> omega
  · rw [e 0 (by omega)] at b0
    rw [e _ (by unfold sumI; omega)]
    exact hFZ t' q' w' a0 a1 b0 b1 c0 c1
  · rw [e 1866 (by omega), e 0 (by omega)]
    exact hE
  · rw [e _ (by omega)]
    exact hAN k k0 k1
  · have := hBK k k0 k1
    rw [e _ (by omega)]
    omega
  · rw [e 1865 (by omega)]
    exact hA8
  · rw [e 1865 (by omega)] at a1
    exact AX_eq (hX a a0 a1) (e 0 (by omega)) (fun j j0 j1 => e _ (by omega))
theorem BI_head (h : BI T nt U B) {t o a : Int} (t0 : 0 ≤ t) (t1 : t < 4) (o0 : 0 ≤ o) (o1 : o ≤ a) (a1 : a ≤ 999) : BI T nt U (upZ (upZ B (1281 + 2 * t) o) (1282 + 2 * t) a) := by
  obtain ⟨hB, hN, hUB, hFZ, hKE, hE, hAN, hBK, hA8, hX⟩ := h
  obtain ⟨n1, n2⟩ := id hN
  have e : ∀ i : Int, i ≠ 1281 + 2 * t → i ≠ 1282 + 2 * t → upZ (upZ B (1281 + 2 * t) o) (1282 + 2 * t) a i = B i := fun i h1 h2 => (upZ_ne h2).trans (upZ_ne h1)
  refine ⟨⟨fun k k0 k1 => ?_, fun k k0 k1 => ?_⟩, ?_, fun k k0 k1 => ?_, fun t' q' w' a0 a1 b0 b1 c0 c1 => ?_, KE_up (KE_up hKE (by omega) (by omega)) (by omega) (by omega), ?_, fun k k0 k1 => ?_, fun k k0 k1 => ?_, ?_, fun y y0 y1 => ?_⟩
  · rw [e _ (by omega) (by omega)]
    exact hB.1 k k0 k1
  · by_cases c : k = t
    · subst c
      rw [upZ_ne (show (1281 + 2 * k : Int) ≠ 1282 + 2 * k by omega), upZ_self, upZ_self]
      omega
    · rw [e _ (by omega) (by omega), e _ (by omega) (by omega)]
      exact hB.2 k k0 k1
  · unfold BN
    rw [e 0 (by omega) (by omega)]
    exact hN
  · rw [e _ (by omega) (by omega)]
    exact hUB k k0 k1
  · rw [e 0 (by omega) (by omega)] at b0
    rw [e _ (by unfold sumI; omega) (by unfold sumI; omega)]
    exact hFZ t' q' w' a0 a1 b0 b1 c0 c1
  · rw [e 1866 (by omega) (by omega), e 0 (by omega) (by omega)]
    exact hE
  · rw [e _ (by omega) (by omega)]
    exact hAN k k0 k1
  · rw [e _ (by omega) (by omega)]
    exact hBK k k0 k1
  · rw [e 1865 (by omega) (by omega)]
    exact hA8
  · rw [e 1865 (by omega) (by omega)] at y1
    exact AX_eq (hX y y0 y1) (e 0 (by omega) (by omega)) (fun j j0 j1 => e _ (by omega) (by omega))
/-- only one asset's row changes -/
theorem BI_row (h : BI T nt U B) {a : Int} (a0 : 0 ≤ a) (hb : ∀ i : Int, ¬ (2084 + 48 * a ≤ i ∧ i < 2084 + 48 * a + 48) → B1 i = B i) (hA : AX B1 nt a) : BI T nt U B1 := by
  obtain ⟨hB, hN, hUB, hFZ, hKE, hE, hAN, hBK, hA8, hX⟩ := h
  refine ⟨⟨fun k k0 k1 => ?_, fun k k0 k1 => ?_⟩, ?_, fun k k0 k1 => ?_, fun t' q' w' a0 a1 b0 b1 c0 c1 => ?_, ?_, ?_, fun k k0 k1 => ?_, fun k k0 k1 => ?_, ?_, fun y y0 y1 => ?_⟩
  · rw [hb _ (by omega)]
    exact hB.1 k k0 k1
  · rw [hb _ (by omega), hb _ (by omega)]
    exact hB.2 k k0 k1
  · unfold BN
    rw [hb 0 (by omega)]
    exact hN
  · rw [hb _ (by omega)]
    exact hUB k k0 k1
  · rw [hb 0 (by omega)] at b0
    rw [hb _ (by unfold sumI; omega)]
    exact hFZ t' q' w' a0 a1 b0 b1 c0 c1
  · unfold KE
    rw [hb _ (by omega), hb _ (by omega)]
    exact hKE
  · rw [hb 1866 (by omega), hb 0 (by omega)]
    exact hE
  · rw [hb _ (by omega)]
    exact hAN k k0 k1
  · rw [hb _ (by omega)]
    exact hBK k k0 k1
  · rw [hb 1865 (by omega)]
    exact hA8
  · rw [hb 1865 (by omega)] at y1
    by_cases c : y = a
    · rw [c]
      exact hA
    · exact AX_eq (hX y y0 y1) (hb 0 (by omega)) (fun j j0 j1 => hb _ (by omega))
theorem AX_set {a k v : Int} (h : AX B nt a) (h0 : 0 ≤ a) (hk : k = 2 ∨ k = 7 ∨ k = 8) (hv : okV (B 0) k v) : AX (upZ B (2084 + 48 * a + k) v) nt a := by
  obtain ⟨hA, h00, h1, h9, h27, h4, h5⟩ := h
  have hz : upZ B (2084 + 48 * a + k) v 0 = B 0 := upZ_ne (by omega)
  have hy : yearZ (upZ B (2084 + 48 * a + k) v) = yearZ B := congrArg (· / 4) hz
  have e : ∀ j : Int, j ≠ k → AtZ (upZ B (2084 + 48 * a + k) v) a j = AtZ B a j := fun j hj => by rw [AtZ_up, if_neg hj]
  unfold AX
  rw [hy, e 0 (by omega), e 1 (by omega), e 9 (by omega), e 47 (by omega), e 5 (by omega), e 4 (by omega), e 27 (by omega)]
  refine ⟨AO_set hA h0 (by omega) hv, h00, h1, h9, h27, h4, fun i i0 i1 => ?_⟩
  have := hA.2.2.2.2.2.2.2.2.2.2.2.2
  rw [e _ (by omega)]
  exact h5 i i0 i1
theorem AX_set1 {a v : Int} (h : AX B nt a) (h0 : 0 ≤ a) (hv : 0 ≤ v ∧ v < nt) (hnt : nt ≤ 4) : AX (upZ B (2084 + 48 * a + 1) v) nt a := by
  obtain ⟨hA, h00, h1, h9, h27, h4, h5⟩ := h
  have hz : upZ B (2084 + 48 * a + 1) v 0 = B 0 := upZ_ne (by omega)
  have hy : yearZ (upZ B (2084 + 48 * a + 1) v) = yearZ B := congrArg (· / 4) hz
  have e : ∀ j : Int, j ≠ 1 → AtZ (upZ B (2084 + 48 * a + 1) v) a j = AtZ B a j := fun j hj => by rw [AtZ_up, if_neg hj]
  have e1 : AtZ (upZ B (2084 + 48 * a + 1) v) a 1 = v := by rw [AtZ_up, if_pos rfl]
  unfold AX
  rw [hy, e 0 (by omega), e1, e 9 (by omega), e 47 (by omega), e 5 (by omega), e 4 (by omega), e 27 (by omega)]
  refine ⟨AO_set hA h0 (by omega) (by unfold okV; omega), h00, hv.2, h9, h27, h4, fun i i0 i1 => ?_⟩
  have := hA.2.2.2.2.2.2.2.2.2.2.2.2
  rw [e _ (by omega)]
  exact h5 i i0 i1
theorem BI_acq (h : BI T nt U B) (hU : 0 ≤ U ∧ U ≤ 100000000) (hnt : nt ≤ 4) {t u x s : Int} (t0 : 0 ≤ t) (t1 : t < nt) (u0 : 0 ≤ u) (u1 : u ≤ 2) (x0 : 1 ≤ x ∧ x ≤ 99999) (s0 : s = 5 ∨ s = 10) (h8 : B 1865 < 8) : BI T nt (U + 100000) (acqZ B t u x s) := by
  obtain ⟨hB, hN, hUB, hFZ, hKE, hE, hAN, hBK, hA8, hX⟩ := h
  obtain ⟨n1, n2⟩ := id hN
  have b : ∀ i : Int, i < 2084 → i ≠ 1865 → acqZ B t u x s i = if i = sumI t (B 0) (2 + u) then B i + x else B i := fun i i0 i1 => acqZ_b hA8.1 hN t0 (by omega) u0 u1 i0 i1
  have hp : 1 ≤ sumI t (B 0) (2 + u) ∧ sumI t (B 0) (2 + u) < 1281 := by unfold sumI; omega
  have e : ∀ i : Int, i < 2084 → i ≠ 1865 → i ≠ sumI t (B 0) (2 + u) → acqZ B t u x s i = B i := fun i i0 i1 i2 => by rw [b i i0 i1, if_neg i2]
  have e65 : acqZ B t u x s 1865 = B 1865 + 1 := upZ_self
  have hz : acqZ B t u x s 0 = B 0 := e 0 (by omega) (by omega) (by omega)
  refine ⟨⟨fun k k0 k1 => ?_, fun k k0 k1 => ?_⟩, ?_, fun k k0 k1 => ?_, fun t' q' w' a0 a1 b0 b1 c0 c1 => ?_, ?_, ?_, fun k k0 k1 => ?_, fun k k0 k1 => ?_, ?_, fun a a0 a1 => ?_⟩
  · have h1 := hB.1 k k0 k1
    have h2 := hUB k k0 k1
    rw [b _ (by omega) (by omega)]
    split <;> omega
  · rw [e _ (by omega) (by omega) (by omega), e _ (by omega) (by omega) (by omega)]
    exact hB.2 k k0 k1
  · unfold BN
    rw [hz]
    exact hN
  · have h2 := hUB k k0 k1
    rw [b _ (by omega) (by omega)]
    split <;> omega
  · rw [hz] at b0
    rw [e _ (by unfold sumI; omega) (by unfold sumI; omega) (by unfold sumI; omega)]
    exact hFZ t' q' w' a0 a1 b0 b1 c0 c1
  · unfold KE
    rw [e 1867 (by omega) (by omega) (by omega), e 1866 (by omega) (by omega) (by omega)]
    exact hKE
  · rw [e 1866 (by omega) (by omega) (by omega), hz]
    exact hE
  · rw [e _ (by omega) (by omega) (by omega)]
    exact hAN k k0 k1
  · have := hBK k k0 k1
    rw [e _ (by omega) (by omega) (by omega)]
    omega
  · rw [e65]
    omega
  · rw [e65] at a1
    by_cases c : a = B 1865
    · rw [c]
      exact AX_new hA8.1 hN hnt t0 t1 u0 u1 x0 s0
    · refine AX_eq (hX a a0 (by omega)) hz (fun j j0 j1 => ?_)
      rw [acqZ_at hA8.1 hN t0 (by omega) u0 u1 a0 j0 j1, if_neg c]
end M0
section M1
variable {M M' : MemT} {c r : Nat} {R R1 : Nat → Nat → Int32} {F : Nat → Int32} {S S' : Int → Int} {n : Nat} {T tr sl bu as B B1 : Int → Int} {nt U V ho ha : Int} {sm : Int32}
theorem xq_new (hx : XQr M c r R nt T tr sl bu as B U) (hR : RBk T B1 nt R1) (hB : BI T nt V B1) (hV : 2000000 ≤ V ∧ V ≤ 100000000) : XQr M c r R1 nt T tr sl bu as B1 V := by
  obtain ⟨h0, ⟨h1, h2, -, h4, h5, h6, -, -, -⟩, h10, -, -⟩ := hx
  exact ⟨h0, ⟨h1, h2, hR, h4, h5, h6, hB.1, hB.2.1, AN2_r hB.2.1 hB.2.2.2.2.2.2.1⟩, h10, hB, hV⟩
theorem mq_new (hm : MQr M' nt T tr sl bu as B U) (hB : BI T nt V B1) (hV : 2000000 ≤ V ∧ V ≤ 100000000) : MQr M' nt T tr sl bu as B1 V := by
  obtain ⟨h0, h1, h2, h3, h4, -, -⟩ := hm
  exact ⟨h0, h1, h2, h3, h4, hB, hV⟩
theorem bi_Q47 (h : BI T nt U B) : Q47 B := fun a a0 a1 => (h.2.2.2.2.2.2.2.2.2 a a0 a1).1.2.2.2.2.2.2.2.2.2.2.2.2.2
theorem c_add (hx : XQr M c r R nt T tr sl bu as B U) {t q w v : Int} (t0 : 0 ≤ t) (t1 : t < 4) (q0 : 0 ≤ q) (q1 : q < 64) (w0 : 0 ≤ w) (w1 : w < 5) : ∃ R1, g_X2_addToSum n (WX M c R F S) (c + 10) (zi t) (zi q) (zi w) (zi v) = some (zi (B (sumI t q w) + v), WX M c R1 F S) ∧ RBk T (addZ B (sumI t q w) v) nt R1 := by
  have hB := hx.2.2.2.1
  have hK := KE_K hB.2.2.2.2.1
  obtain ⟨R1, g, m, o⟩ := x_addToSum (M := WF M (c + 60) F S) (n := n) (v := v) (wx_B (F := F) (S := S) (xq_C hx)) (xq_R hx) (by omega) t0 t1 q0 q1 w0 w1
  have hp : 1 ≤ sumI t q w ∧ sumI t q w < 1281 := by unfold sumI; omega
  exact ⟨R1, g, RBk_main hx.2.1.2.2.1 m hx.2.1.2.2.2.1.2 (fun i hi => addZ_ne (by omega)) (fun o' ho => o o' (by omega)) (bi_Q47 hB)⟩
theorem c_acq (hx : XQr M c r R nt T tr sl bu as B U) (h8 : B 1865 < 8) {t u x s : Int} (t0 : 0 ≤ t) (t1 : t < 4) (u0 : 0 ≤ u) (u1 : u ≤ 2) : ∃ R1, g_X2_addAsset n (WX M c R F S) (c + 10) (zi t) (zi u) (zi x) (zi s) = some (zi (B 1865), WX M c R1 F S) ∧ RBk T (acqZ B t u x s) nt R1 := by
  have hB := hx.2.2.2.1
  have hK := KE_K hB.2.2.2.2.1
  exact x_addAsset (M := WF M (c + 60) F S) (n := n) (x := x) (s := s) (wx_B (F := F) (S := S) (xq_C hx)) hx.2.1.2.2.1 hx.2.1.2.2.2.1.2 hB.2.1 (by omega) ⟨hB.2.2.2.2.2.2.2.2.1.1, h8⟩ (bi_Q47 hB) t0 t1 u0 u1
theorem RM_head (h : RM B R) (hK : B 1867 ≤ 40) (hb : ∀ i : Int, ¬ (1281 ≤ i ∧ i < 1289) → i < 2084 → B1 i = B i) (hr : ∀ o, o ≠ 1 → o ≠ 2 → o < 10 → R1 o = R o) : RM B1 R1 := by
  obtain ⟨⟨a0, a1, a2⟩, s4, s5, s6, s7, s8, s9⟩ := h
  unfold RM
  rw [hr 0 (by omega) (by omega) (by omega), hr 4 (by omega) (by omega) (by omega), hr 5 (by omega) (by omega) (by omega), hr 6 (by omega) (by omega) (by omega), hr 7 (by omega) (by omega) (by omega), hr 8 (by omega) (by omega) (by omega), hr 9 (by omega) (by omega) (by omega), hb 0 (by omega) (by omega), hb 1865 (by omega) (by omega), hb 1866 (by omega) (by omega), hb 1867 (by omega) (by omega)]
  exact ⟨⟨a0, a1, a2⟩, fun k k0 k1 => by rw [hb _ (by omega) (by omega)]; exact s4 k k0 k1, fun k k0 k1 => by rw [hb _ (by omega) (by omega)]; exact s5 k k0 k1, fun k k0 k1 => by rw [hb _ (by omega) (by omega)]; exact s6 k k0 k1, fun k k0 k1 => by rw [hb _ (by omega) (by omega)]; exact s7 k k0 k1, fun k k0 k1 => by rw [hb _ (by omega) (by omega)]; exact s8 k k0 k1, fun k w k0 k1 w0 w1 => by rw [hb _ (by omega) (by omega)]; exact s9 k w k0 k1 w0 w1⟩
theorem RBk_head (h : RBk T B nt R) (hB : BI T nt U B) {t o a : Int} (t0 : 0 ≤ t) (t1 : t < 4) : RBk T (upZ (upZ B (1281 + 2 * t) o) (1282 + 2 * t) a) nt (up2 (up2 R 1 t.toNat (zi o)) 2 t.toNat (zi a)) := by
  have hK := KE_K hB.2.2.2.2.1
  have e : ∀ i : Int, i ≠ 1281 + 2 * t → i ≠ 1282 + 2 * t → upZ (upZ B (1281 + 2 * t) o) (1282 + 2 * t) a i = B i := fun i h1 h2 => (upZ_ne h2).trans (upZ_ne h1)
  have er : ∀ x, x ≠ 1 → x ≠ 2 → up2 (up2 R 1 t.toNat (zi o)) 2 t.toNat (zi a) x = R x := fun x h1 h2 => funext fun k => (up2_o h2).trans (up2_o h1)
  refine ⟨RM_head h.1 (by omega) (fun i i0 i1 => e i (by omega) (by omega)) (fun o o1 o2 _ => er o o1 o2), fun k k0 k1 => ?_, fun k k1 => ?_⟩
  · by_cases q : k = t
    · subst q
      rw [up2_o (by omega), up2_at, up2_at, upZ_ne (show (1281 + 2 * k : Int) ≠ 1282 + 2 * k by omega), upZ_self, upZ_self]
      exact ⟨rfl, rfl⟩
    · rw [up2_o (by omega), up2_k (by omega), up2_k (by omega), up2_o (by omega), e _ (by omega) (by omega), e _ (by omega) (by omega)]
      exact h.2.1 k k0 k1
  · rw [e 1865 (by omega) (by omega)] at k1
    exact RA_eq (h.2.2 k k1) (fun j j0 j1 => e _ (by omega) (by omega)) (bi_Q47 hB k (by omega) k1) (by rw [e 0 (by omega) (by omega)]) (fun o o0 o1 => er o (by omega) (by omega))
/-- one asset's row -/
theorem RBk_row (h : RBk T B nt R) (hB : BI T nt U B) (hnt : nt ≤ 4) {a : Nat} (hb : ∀ i : Int, ¬ (2084 + 48 * (a : Int) ≤ i ∧ i < 2084 + 48 * (a : Int) + 48) → B1 i = B i) (hr : ∀ o, o ≠ 10 + 5 * a → R1 o = R o) (hA : RA T B1 R1 a) : RBk T B1 nt R1 := by
  have hK := KE_K hB.2.2.2.2.1
  refine ⟨RM_eq h.1 (fun i hi => hb i (by omega)) (by omega) (fun o ho => hr o (by omega)), fun k k0 k1 => ?_, fun k k1 => ?_⟩
  · rw [hr 1 (by omega), hr 2 (by omega), hb _ (by omega), hb _ (by omega)]
    exact h.2.1 k k0 k1
  · rw [hb 1865 (by omega)] at k1
    by_cases q : k = a
    · rw [q]; exact hA
    · exact RA_eq (h.2.2 k k1) (fun j j0 j1 => hb _ (by omega)) (bi_Q47 hB k (by omega) k1) (by rw [hb 0 (by omega)]) (fun o o0 o1 => hr o (by omega))
theorem RA_set {a : Nat} (h : RA T B R a) (h47 : AtZ B a 47 ≤ 10) {k : Nat} (hk : k = 1 ∨ k = 2) {v : Int} : RA T (upZ B (2084 + 48 * (a : Int) + k) v) (up2 R (10 + 5 * a) k (zi v)) a := by
  have e : ∀ j : Int, j ≠ k → AtZ (upZ B (2084 + 48 * (a : Int) + k) v) a j = AtZ B a j := fun j hj => by rw [AtZ_up, if_neg hj]
  have ek : AtZ (upZ B (2084 + 48 * (a : Int) + k) v) a k = v := by rw [AtZ_up, if_pos rfl]
  have hz : upZ B (2084 + 48 * (a : Int) + k) v 0 = B 0 := upZ_ne (by omega)
  have hf : ∀ x : Int, fstZ T (upZ B (2084 + 48 * (a : Int) + k) v) a x = fstZ T B a x := fun x => by
    unfold fstZ
    rw [e 3 (by omega)]
  unfold RA at h ⊢
  have r : ∀ j, j ≠ k → up2 R (10 + 5 * a) k (zi v) (10 + 5 * a) j = R (10 + 5 * a) j := fun j hj => up2_k hj
  have ro : ∀ o j, o ≠ 10 + 5 * a → up2 R (10 + 5 * a) k (zi v) o j = R o j := fun o j ho => up2_o ho
  rw [hz, hf, r 0 (by omega), r 3 (by omega), r 4 (by omega), r 5 (by omega), r 6 (by omega), r 7 (by omega), r 8 (by omega), r 9 (by omega), r 10 (by omega), r 11 (by omega), r 12 (by omega), r 13 (by omega), r 14 (by omega), e 0 (by omega), e 3 (by omega), e 4 (by omega), e 5 (by omega), e 6 (by omega), e 7 (by omega), e 8 (by omega), e 9 (by omega), e 10 (by omega), e 11 (by omega), e 12 (by omega), e 47 (by omega)]
  refine ⟨⟨h.1.1, ?_, ?_, h.1.2.2.2⟩, h.2.1, fun q j j0 j1 => ?_, fun i i0 i1 => ?_⟩
  · rcases hk with rfl | rfl
    · rw [up2_at]; exact congrArg zi ek.symm
    · rw [r 1 (by omega), e 1 (by omega)]; exact h.1.2.1
  · rcases hk with rfl | rfl
    · rw [r 2 (by omega), e 2 (by omega)]; exact h.1.2.2.1
    · rw [up2_at]; exact congrArg zi ek.symm
  · rw [ro _ _ (by omega), e _ (by omega)]
    exact h.2.2.1 q j j0 j1
  · rw [ro _ _ (by omega), ro _ _ (by omega), ro _ _ (by omega), e _ (by omega), e _ (by omega), e _ (by omega)]
    exact h.2.2.2 i i0 i1
theorem RA_sell {a : Nat} (h : RA T B R a) (h47 : AtZ B a 47 ≤ 10) {w v : Int} (hw : 0 ≤ w) : RA T (upZ (upZ B (2084 + 48 * (a : Int) + 7) (w + 1)) (2084 + 48 * (a : Int) + 8) v) (up2 (up2 R (10 + 5 * a) 6 (zi w)) (10 + 5 * a) 7 (zi v)) a := by
  have e : ∀ j : Int, j ≠ 7 → j ≠ 8 → AtZ (upZ (upZ B (2084 + 48 * (a : Int) + 7) (w + 1)) (2084 + 48 * (a : Int) + 8) v) a j = AtZ B a j := fun j h1 h2 => by rw [AtZ_up, if_neg h2, AtZ_up, if_neg h1]
  have e7 : AtZ (upZ (upZ B (2084 + 48 * (a : Int) + 7) (w + 1)) (2084 + 48 * (a : Int) + 8) v) a 7 = w + 1 := by rw [AtZ_up, if_neg (by omega), AtZ_up, if_pos rfl]
  have e8 : AtZ (upZ (upZ B (2084 + 48 * (a : Int) + 7) (w + 1)) (2084 + 48 * (a : Int) + 8) v) a 8 = v := by rw [AtZ_up, if_pos rfl]
  have hz : upZ (upZ B (2084 + 48 * (a : Int) + 7) (w + 1)) (2084 + 48 * (a : Int) + 8) v 0 = B 0 := (upZ_ne (by omega)).trans (upZ_ne (by omega))
  have hf : ∀ x : Int, fstZ T (upZ (upZ B (2084 + 48 * (a : Int) + 7) (w + 1)) (2084 + 48 * (a : Int) + 8) v) a x = fstZ T B a x := fun x => by
    unfold fstZ
    rw [e 3 (by omega) (by omega)]
  unfold RA at h ⊢
  have r : ∀ j, j ≠ 6 → j ≠ 7 → up2 (up2 R (10 + 5 * a) 6 (zi w)) (10 + 5 * a) 7 (zi v) (10 + 5 * a) j = R (10 + 5 * a) j := fun j h1 h2 => (up2_k h2).trans (up2_k h1)
  have ro : ∀ o j, o ≠ 10 + 5 * a → up2 (up2 R (10 + 5 * a) 6 (zi w)) (10 + 5 * a) 7 (zi v) o j = R o j := fun o j ho => (up2_o ho).trans (up2_o ho)
  rw [hz, hf, r 0 (by omega) (by omega), r 1 (by omega) (by omega), r 2 (by omega) (by omega), r 3 (by omega) (by omega), r 4 (by omega) (by omega), r 5 (by omega) (by omega), r 8 (by omega) (by omega), r 9 (by omega) (by omega), r 10 (by omega) (by omega), r 11 (by omega) (by omega), r 12 (by omega) (by omega), r 13 (by omega) (by omega), r 14 (by omega) (by omega), e 0 (by omega) (by omega), e 1 (by omega) (by omega), e 2 (by omega) (by omega), e 3 (by omega) (by omega), e 4 (by omega) (by omega), e 5 (by omega) (by omega), e 6 (by omega) (by omega), e7, e8, e 9 (by omega) (by omega), e 10 (by omega) (by omega), e 11 (by omega) (by omega), e 12 (by omega) (by omega), e 47 (by omega) (by omega), up2_at, up2_k (show (6 : Nat) ≠ 7 by omega), up2_at, if_neg (by omega), show w + 1 - 1 = w by omega]
  refine ⟨h.1, ⟨rfl, fun _ => rfl, h.2.1.2.2⟩, fun q j j0 j1 => ?_, fun i i0 i1 => ?_⟩
  · rw [ro _ _ (by omega), e _ (by omega) (by omega)]
    exact h.2.2.1 q j j0 j1
  · rw [ro _ _ (by omega), ro _ _ (by omega), ro _ _ (by omega), e _ (by omega) (by omega), e _ (by omega) (by omega), e _ (by omega) (by omega)]
    exact h.2.2.2 i i0 i1
end M1
