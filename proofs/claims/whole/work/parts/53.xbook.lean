/-! ===== PURE 23: the component's books: reading, writing a place ===== -/
theorem RM_sum {B : Int → Int} {R : Nat → Nat → Int32} {p v : Int} (h : RM B R) (h0 : 0 ≤ p) (h1 : p < 1280) (hK : B 1867 ≤ 40) : RM (upZ B (1 + p) v) (up2 R 4 p.toNat (zi v)) := by
  obtain ⟨⟨a0, a1, a2⟩, s4, s5, s6, s7, s8, s9⟩ := h
  refine ⟨⟨?_, ?_, ?_⟩, fun k k0 k1 => ?_, fun k k0 k1 => ?_, fun k k0 k1 => ?_, fun k k0 k1 => ?_, fun k k0 k1 => ?_, fun k w k0 k1 w0 w1 => ?_⟩
  · rw [up2_o (by omega), upZ_ne (by omega), a0]
  · rw [up2_o (by omega), upZ_ne (by omega), a1]
  · rw [up2_o (by omega), upZ_ne (by omega), a2]
  · by_cases c : k = p
    · subst c
      rw [up2_at, upZ_self]
    · rw [up2_k (by omega), upZ_ne (by omega), s4 k k0 k1]
  · rw [up2_o (by omega), upZ_ne (by omega), s5 k k0 k1]
  · rw [up2_o (by omega), upZ_ne (by omega), s6 k k0 k1]
  · rw [up2_o (by omega), upZ_ne (by omega), s7 k k0 k1]
  · rw [up2_o (by omega), upZ_ne (by omega), s8 k k0 k1]
  · rw [upZ_ne (by omega)] at k1
    rw [up2_o (by omega), upZ_ne (by omega), upZ_ne (by omega), s9 k w k0 k1 w0 w1]
theorem RM_prov {B : Int → Int} {R : Nat → Nat → Int32} {p v : Int} (h : RM B R) (h0 : 0 ≤ p) (h1 : p < 256) (hK : B 1867 ≤ 40) : RM (upZ B (1289 + p) v) (up2 R 5 p.toNat (zi v)) := by
  obtain ⟨⟨a0, a1, a2⟩, s4, s5, s6, s7, s8, s9⟩ := h
  refine ⟨⟨?_, ?_, ?_⟩, fun k k0 k1 => ?_, fun k k0 k1 => ?_, fun k k0 k1 => ?_, fun k k0 k1 => ?_, fun k k0 k1 => ?_, fun k w k0 k1 w0 w1 => ?_⟩
  · rw [up2_o (by omega), upZ_ne (by omega), a0]
  · rw [up2_o (by omega), upZ_ne (by omega), a1]
  · rw [up2_o (by omega), upZ_ne (by omega), a2]
  · rw [up2_o (by omega), upZ_ne (by omega), s4 k k0 k1]
  · by_cases c : k = p
    · subst c
      rw [up2_at, upZ_self]
    · rw [up2_k (by omega), upZ_ne (by omega), s5 k k0 k1]
  · rw [up2_o (by omega), upZ_ne (by omega), s6 k k0 k1]
  · rw [up2_o (by omega), upZ_ne (by omega), s7 k k0 k1]
  · rw [up2_o (by omega), upZ_ne (by omega), s8 k k0 k1]
  · rw [upZ_ne (by omega)] at k1
    rw [up2_o (by omega), upZ_ne (by omega), upZ_ne (by omega), s9 k w k0 k1 w0 w1]
theorem RM_ann {B : Int → Int} {R : Nat → Nat → Int32} {p v : Int} (h : RM B R) (h0 : 0 ≤ p) (h1 : p < 64) (hK : B 1867 ≤ 40) : RM (upZ B (1801 + p) v) (up2 R 6 p.toNat (zi v)) := by
  obtain ⟨⟨a0, a1, a2⟩, s4, s5, s6, s7, s8, s9⟩ := h
  refine ⟨⟨?_, ?_, ?_⟩, fun k k0 k1 => ?_, fun k k0 k1 => ?_, fun k k0 k1 => ?_, fun k k0 k1 => ?_, fun k k0 k1 => ?_, fun k w k0 k1 w0 w1 => ?_⟩
  · rw [up2_o (by omega), upZ_ne (by omega), a0]
  · rw [up2_o (by omega), upZ_ne (by omega), a1]
  · rw [up2_o (by omega), upZ_ne (by omega), a2]
  · rw [up2_o (by omega), upZ_ne (by omega), s4 k k0 k1]
  · rw [up2_o (by omega), upZ_ne (by omega), s5 k k0 k1]
  · by_cases c : k = p
    · subst c
      rw [up2_at, upZ_self]
    · rw [up2_k (by omega), upZ_ne (by omega), s6 k k0 k1]
  · rw [up2_o (by omega), upZ_ne (by omega), s7 k k0 k1]
  · rw [up2_o (by omega), upZ_ne (by omega), s8 k k0 k1]
  · rw [upZ_ne (by omega)] at k1
    rw [up2_o (by omega), upZ_ne (by omega), upZ_ne (by omega), s9 k w k0 k1 w0 w1]
theorem RM_rec {B : Int → Int} {R : Nat → Nat → Int32} {p v : Int} (h : RM B R) (h0 : 0 ≤ p) (h1 : p < 256) (hK : B 1867 ≤ 40) : RM (upZ B (1545 + p) v) (up2 R 7 p.toNat (zi v)) := by
  obtain ⟨⟨a0, a1, a2⟩, s4, s5, s6, s7, s8, s9⟩ := h
  refine ⟨⟨?_, ?_, ?_⟩, fun k k0 k1 => ?_, fun k k0 k1 => ?_, fun k k0 k1 => ?_, fun k k0 k1 => ?_, fun k k0 k1 => ?_, fun k w k0 k1 w0 w1 => ?_⟩
  · rw [up2_o (by omega), upZ_ne (by omega), a0]
  · rw [up2_o (by omega), upZ_ne (by omega), a1]
  · rw [up2_o (by omega), upZ_ne (by omega), a2]
  · rw [up2_o (by omega), upZ_ne (by omega), s4 k k0 k1]
  · rw [up2_o (by omega), upZ_ne (by omega), s5 k k0 k1]
  · rw [up2_o (by omega), upZ_ne (by omega), s6 k k0 k1]
  · by_cases c : k = p
    · subst c
      rw [up2_at, upZ_self]
    · rw [up2_k (by omega), upZ_ne (by omega), s7 k k0 k1]
  · rw [up2_o (by omega), upZ_ne (by omega), s8 k k0 k1]
  · rw [upZ_ne (by omega)] at k1
    rw [up2_o (by omega), upZ_ne (by omega), upZ_ne (by omega), s9 k w k0 k1 w0 w1]
theorem RM_tot {B : Int → Int} {R : Nat → Nat → Int32} {p v : Int} (h : RM B R) (h0 : 0 ≤ p) (h1 : p < 16) (hK : B 1867 ≤ 40) : RM (upZ B (2068 + p) v) (up2 R 8 p.toNat (zi v)) := by
  obtain ⟨⟨a0, a1, a2⟩, s4, s5, s6, s7, s8, s9⟩ := h
  refine ⟨⟨?_, ?_, ?_⟩, fun k k0 k1 => ?_, fun k k0 k1 => ?_, fun k k0 k1 => ?_, fun k k0 k1 => ?_, fun k k0 k1 => ?_, fun k w k0 k1 w0 w1 => ?_⟩
  · rw [up2_o (by omega), upZ_ne (by omega), a0]
  · rw [up2_o (by omega), upZ_ne (by omega), a1]
  · rw [up2_o (by omega), upZ_ne (by omega), a2]
  · rw [up2_o (by omega), upZ_ne (by omega), s4 k k0 k1]
  · rw [up2_o (by omega), upZ_ne (by omega), s5 k k0 k1]
  · rw [up2_o (by omega), upZ_ne (by omega), s6 k k0 k1]
  · rw [up2_o (by omega), upZ_ne (by omega), s7 k k0 k1]
  · by_cases c : k = p
    · subst c
      rw [up2_at, upZ_self]
    · rw [up2_k (by omega), upZ_ne (by omega), s8 k k0 k1]
  · rw [upZ_ne (by omega)] at k1
    rw [up2_o (by omega), upZ_ne (by omega), upZ_ne (by omega), s9 k w k0 k1 w0 w1]
theorem RA_eq {T B B1 : Int → Int} {R R1 : Nat → Nat → Int32} {a : Nat} (h : RA T B R a) (hb : ∀ j : Int, 0 ≤ j → j < 48 → AtZ B1 a j = AtZ B a j) (h47 : AtZ B a 47 ≤ 10) (hz : B1 0 % 4 = B 0 % 4) (hr : ∀ o, 10 + 5 * a ≤ o → o < 15 + 5 * a → R1 o = R o) : RA T B1 R1 a := by
  have hf : ∀ x : Int, fstZ T B1 a x = fstZ T B a x := fun x => by
    unfold fstZ
    rw [hb 3 (by omega) (by omega)]
  unfold RA at h ⊢
  rw [hr (10 + 5 * a) (by omega) (by omega), hr (10 + 5 * a + 1) (by omega) (by omega), hr (10 + 5 * a + 2) (by omega) (by omega), hr (10 + 5 * a + 3) (by omega) (by omega), hr (10 + 5 * a + 4) (by omega) (by omega), hz, hb 0 (by omega) (by omega), hb 1 (by omega) (by omega), hb 2 (by omega) (by omega), hb 3 (by omega) (by omega), hb 4 (by omega) (by omega), hb 5 (by omega) (by omega), hb 6 (by omega) (by omega), hb 7 (by omega) (by omega), hb 8 (by omega) (by omega), hb 9 (by omega) (by omega), hb 10 (by omega) (by omega), hb 11 (by omega) (by omega), hb 12 (by omega) (by omega), hb 47 (by omega) (by omega), hf]
  refine ⟨h.1, h.2.1, fun q j j0 j1 => ?_, fun i i0 i1 => ?_⟩
  · rw [hb (13 + j) (by omega) (by omega)]
    exact h.2.2.1 q j j0 j1
  · rw [hb (17 + i) (by omega) (by omega), hb (27 + i) (by omega) (by omega), hb (37 + i) (by omega) (by omega)]
    exact h.2.2.2 i i0 i1
section XB1
variable {M : MemT} {b : Nat} {R : Nat → Nat → Int32} {n : Nat} {T B : Int → Int} {nt : Int}
theorem x_sumOf (h : BSh M b) (hR : RM B R) {t q w : Int} (t0 : 0 ≤ t) (t1 : t < 4) (q0 : 0 ≤ q) (q1 : q < 64) (w0 : 0 ≤ w) (w1 : w < 5) : g_X2_sumOf n (WR M b R) b (zi t) (zi q) (zi w) = some (zi (B (1 + 320 * t + 5 * q + w)), WR M b R) := by
  unfold g_X2_sumOf
  simp (disch := omega) only [zl_0, zl_1, zl_2, zl_3, zl_4, zl_5, zl_10, zl_16, zl_40, zl_64, zi_add, zi_mul, x_o6 h, x_a6 h, i_sb, hR.2.1]
  rw [show (1 + ((t * 64 + q) * 5 + w) : Int) = 1 + 320 * t + 5 * q + w by omega]
theorem x_addToSum (h : BSh M b) (hR : RM B R) (hK : B 1867 ≤ 40) {t q w v : Int} (t0 : 0 ≤ t) (t1 : t < 4) (q0 : 0 ≤ q) (q1 : q < 64) (w0 : 0 ≤ w) (w1 : w < 5) : ∃ R1, g_X2_addToSum n (WR M b R) b (zi t) (zi q) (zi w) (zi v) = some (zi (B (sumI t q w) + v), WR M b R1) ∧ RM (addZ B (sumI t q w) v) R1 ∧ ∀ o, o ≠ 4 → R1 o = R o := by
  have e : (1 + ((t * 64 + q) * 5 + w) : Int) = sumI t q w := by unfold sumI; omega
  refine ⟨up2 R 4 ((t * 64 + q) * 5 + w).toNat (zi (B (sumI t q w) + v)), ?_, ?_, fun o ho => ?_⟩
  · unfold g_X2_addToSum
    simp (disch := omega) only [zl_0, zl_1, zl_2, zl_3, zl_4, zl_5, zl_10, zl_16, zl_40, zl_64, zi_add, zi_mul, x_o6 h, x_a6 h, x_w6 h, i_sb, hR.2.1, e, up2_at]
  · unfold addZ
    rw [← e]
    exact RM_sum hR (by omega) (by omega) hK
  · funext k
    exact up2_o ho
theorem x_recoveredIn (h : BSh M b) (hR : RM B R) {t q : Int} (t0 : 0 ≤ t) (t1 : t < 4) (q0 : 0 ≤ q) (q1 : q < 64) : g_X2_recoveredIn n (WR M b R) b (zi t) (zi q) = some (zi (B (1545 + 64 * t + q)), WR M b R) := by
  unfold g_X2_recoveredIn
  simp (disch := omega) only [zl_0, zl_1, zl_2, zl_3, zl_4, zl_5, zl_10, zl_16, zl_40, zl_64, zi_add, zi_mul, x_o9 h, x_a9 h, i_sb, hR.2.2.2.2.1]
  rw [show (1545 + (t * 64 + q) : Int) = 1545 + 64 * t + q by omega]
theorem x_keptProvisional (h : BSh M b) (hR : RM B R) {t q : Int} (t0 : 0 ≤ t) (t1 : t < 4) (q0 : 0 ≤ q) (q1 : q < 64) : g_X2_keptProvisional n (WR M b R) b (zi t) (zi q) = some (zi (B (1289 + 64 * t + q)), WR M b R) := by
  unfold g_X2_keptProvisional
  simp (disch := omega) only [zl_0, zl_1, zl_2, zl_3, zl_4, zl_5, zl_10, zl_16, zl_40, zl_64, zi_add, zi_mul, x_o7 h, x_a7 h, i_sb, hR.2.2.1]
  rw [show (1289 + (t * 64 + q) : Int) = 1289 + 64 * t + q by omega]
theorem x_keptAnnual (h : BSh M b) (hR : RM B R) {t y : Int} (t0 : 0 ≤ t) (t1 : t < 4) (q0 : 0 ≤ y) (q1 : y < 16) : g_X2_keptAnnual n (WR M b R) b (zi t) (zi y) = some (zi (B (1801 + 16 * t + y)), WR M b R) := by
  unfold g_X2_keptAnnual
  simp (disch := omega) only [zl_0, zl_1, zl_2, zl_3, zl_4, zl_5, zl_10, zl_16, zl_40, zl_64, zi_add, zi_mul, x_o8 h, x_a8 h, i_sb, hR.2.2.2.1]
  rw [show (1801 + (t * 16 + y) : Int) = 1801 + 16 * t + y by omega]
theorem x_totalOf (h : BSh M b) (hR : RM B R) {t y : Int} (t0 : 0 ≤ t) (t1 : t < 4) (q0 : 0 ≤ y) (q1 : y < 4) : g_X2_totalOf n (WR M b R) b (zi t) (zi y) = some (zi (B (2068 + 4 * t + y)), WR M b R) := by
  unfold g_X2_totalOf
  simp (disch := omega) only [zl_0, zl_1, zl_2, zl_3, zl_4, zl_5, zl_10, zl_16, zl_40, zl_64, zi_add, zi_mul, x_o10 h, x_a10 h, i_sb, hR.2.2.2.2.2.1]
  rw [show (2068 + (t * 4 + y) : Int) = 2068 + 4 * t + y by omega]
theorem x_recYear (h : BSh M b) (hR : RM B R) (hn : 5 < n) {t y : Int} (t0 : 0 ≤ t) (t1 : t < 4) (y0 : 0 ≤ y) (y1 : y < 16) : g_X2_recoveredInYear n (WR M b R) b (zi t) (zi y) = some (zi (bkIn B t y), WR M b R) := by
  unfold g_X2_recoveredInYear
  rw [show (WR M b R, (0 : Int32), (0 : Int32)) = (fun i : Nat => (WR M b R, zi (bkAcc B t y i), zi (i : Int))) 0 from rfl]
  rw [loop_k (fun i : Nat => (WR M b R, zi (bkAcc B t y i), zi (i : Int))) (WR M b R, zi (bkAcc B t y 4), zi 4) 4 (fun i hi => ?_) ?_ n (by omega), i_sb]
  · rfl
  · dsimp only
    rw [if_pos (by show zi 4 ≤ zi ((4 : Nat) : Int); exact Int32.le_refl _)]; rfl
  · dsimp only
    rw [if_neg (by show ¬ (zi 4 ≤ zi (i : Int)); rw [zi_le (by omega) (by omega) (by omega) (by omega)]; omega)]
    simp (disch := omega) only [zl_0, zl_1, zl_2, zl_3, zl_4, zl_5, zl_10, zl_16, zl_40, zl_64, zi_add, zi_mul, x_o9 h, x_a9 h, i_sb, hR.2.2.2.2.1]
    rw [show (1545 + (t * 64 + y * 4 + (i : Int))) = 1545 + 64 * t + (4 * y + i) by omega]
    rfl
theorem x_keepProv (h : BSh M b) (hR : RM B R) (hN : BN B) (hK : B 1867 ≤ 40) {t f v : Int} (t0 : 0 ≤ t) (t1 : t < 4) : ∃ R1, g_X2_keepProvisional n (WR M b R) b (zi t) (zi f) (zi v) = some ((), WR M b R1) ∧ RM (upZ (upZ B (1289 + 64 * t + B 0) f) (1545 + 64 * t + B 0) v) R1 ∧ ∀ o, o ≠ 5 → o ≠ 7 → R1 o = R o := by
  obtain ⟨n1, n2⟩ := id hN
  refine ⟨up2 (up2 R 5 (t * 64 + B 0).toNat (zi f)) 7 (t * 64 + B 0).toNat (zi v), ?_, ?_, fun o h5 h7 => ?_⟩
  · have e2 : up2 R 5 (t * 64 + B 0).toNat (zi f) 0 0 = R 0 0 := up2_o (by omega)
    unfold g_X2_keepProvisional
    simp (disch := omega) only [zl_0, zl_1, zl_2, zl_3, zl_4, zl_5, zl_10, zl_16, zl_40, zl_64, zi_add, zi_mul, x_o7 h, x_w7 h, x_o9 h, x_w9 h, x_gB h, i_sb, e2, hR.1.1]
  · rw [show 1289 + 64 * t + B 0 = 1289 + (t * 64 + B 0) by omega, show 1545 + 64 * t + B 0 = 1545 + (t * 64 + B 0) by omega]
    exact RM_rec (RM_prov hR (by omega) (by omega) hK) (by omega) (by omega) (by rw [upZ_ne (by omega)]; exact hK)
  · funext k
    rw [up2_o h7, up2_o h5]
theorem x_keepAnn (h : BSh M b) (hR : RM B R) (hK : B 1867 ≤ 40) {t y f : Int} (t0 : 0 ≤ t) (t1 : t < 4) (y0 : 0 ≤ y) (y1 : y < 16) : ∃ R1, g_X2_keepAnnual n (WR M b R) b (zi t) (zi y) (zi f) = some ((), WR M b R1) ∧ RM (upZ B (1801 + 16 * t + y) f) R1 ∧ ∀ o, o ≠ 6 → R1 o = R o := by
  refine ⟨up2 R 6 (t * 16 + y).toNat (zi f), ?_, ?_, fun o h5 => ?_⟩
  · unfold g_X2_keepAnnual
    simp (disch := omega) only [zl_0, zl_1, zl_2, zl_3, zl_4, zl_5, zl_10, zl_16, zl_40, zl_64, zi_add, zi_mul, x_o8 h, x_w8 h, i_sb]
  · rw [show 1801 + 16 * t + y = 1801 + (t * 16 + y) by omega]
    exact RM_ann hR (by omega) (by omega) hK
  · funext k
    exact up2_o h5
theorem zi_rem {e m : Int} (h0 : 0 ≤ e) (h1 : e ≤ 2147483647) (m0 : 0 < m) (m1 : m ≤ 2147483647) : zi e - zi e / zi m * zi m = zi (e % m) := by
  rw [zi_div h0 h1 m0 m1, zi_mul, zi_sub, Int.emod_def, Int.mul_comm]
theorem x_enter (h : BSh M b) (hR : RM B R) (hN : BN B) (hK : 0 ≤ B 1867 ∧ B 1867 ≤ 40) (hE : 0 ≤ B 1866 ∧ B 1866 ≤ 1000000) {t so v a : Int} (t0 : 0 ≤ t) (t1 : t < 4) (s0 : 0 ≤ so) (s1 : so < 4) : ∃ R1, g_X2_enter n (WR M b R) b (zi t) (zi so) (zi v) (zi a) = some ((), WR M b R1) ∧ RM (bookZ B t so v a) R1 ∧ ∀ o, o ≠ 0 → o ≠ 8 → o ≠ 9 → R1 o = R o := by
  obtain ⟨n1, n2⟩ := id hN
  obtain ⟨⟨a0, a1, a2⟩, s4, s5, s6, s7, s8, s9⟩ := id hR
  have hm : 0 ≤ B 1866 % 40 ∧ B 1866 % 40 < 40 := by omega
  generalize hE5 : B 1866 % 40 = e at hm
  have er : zi (B 1866) - zi (B 1866) / zi 40 * zi 40 = zi e := by rw [← hE5]; exact zi_rem (by omega) (by omega) (by omega) (by omega)
  refine ⟨up2 (up2 (up2 (up2 (up2 (up2 (up2 R 9 (e * 5).toNat (zi (B 0))) 9 (e * 5 + 1).toNat (zi t)) 9 (e * 5 + 2).toNat (zi so)) 9 (e * 5 + 3).toNat (zi v)) 9 (e * 5 + 4).toNat (zi a)) 0 2 (zi (B 1866 + 1))) 8 (t * 4 + so).toNat (zi (B (2068 + (t * 4 + so)) + v)), ?_, ?_, fun o h0 h8 h9 => ?_⟩
  · unfold g_X2_enter
    have r0 : ∀ R9 k v, up2 R9 9 k v 0 = R9 0 := fun R9 k v => by funext j; exact up2_o (by omega)
    have r8 : ∀ R9 k v, up2 R9 9 k v 8 = R9 8 := fun R9 k v => by funext j; exact up2_o (by omega)
    have r08 : ∀ R9 k v, up2 R9 0 k v 8 = R9 8 := fun R9 k v => by funext j; exact up2_o (by omega)
    have hz : ((40 : Int32) = 0) = False := eq_false (by decide)
    simp only [hz, if_false]
    simp (disch := omega) only [zl_0, zl_1, zl_2, zl_3, zl_4, zl_5, zl_10, zl_16, zl_40, zl_64, x_gB h, hR.1.2.2, er, zi_add, zi_mul, x_o11 h, x_w11 h, i_sb, hR.1.1, r0, r8, r08, x_pB h, x_o10 h, x_a10 h, x_w10 h, s8]
  · have hmny : (if 40 ≤ B 1867 then 39 else B 1867) ≤ 39 ∧ 0 ≤ (if 40 ≤ B 1867 then 39 else B 1867) ∧ (if 40 ≤ B 1867 then 39 else B 1867) ≤ B 1867 := by split <;> omega
    have hb : ∀ i : Int, bookZ B t so v a i = if i = 2068 + 4 * t + so then B i + v else if i = 1866 then B 1866 + 1 else if i = 1867 then (if 40 ≤ B 1867 then 39 else B 1867) + 1 else if i = 1868 then B 0 else if i = 1869 then t else if i = 1870 then so else if i = 1871 then v else if i = 1872 then a else if 1873 ≤ i ∧ i < 1873 + 5 * (if 40 ≤ B 1867 then 39 else B 1867) then B (i - 5) else B i := fun i => rfl
    generalize (if 40 ≤ B 1867 then 39 else B 1867) = many at hmny hb
    have hlo : ∀ i : Int, i < 1866 → bookZ B t so v a i = B i := fun i hi => book_lo t0 s0 hi
    refine ⟨⟨?_, ?_, ?_⟩, fun k k0 k1 => ?_, fun k k0 k1 => ?_, fun k k0 k1 => ?_, fun k k0 k1 => ?_, fun k k0 k1 => ?_, fun k w k0 k1 w0 w1 => ?_⟩
    · rw [up2_o (by omega), up2_k (by omega), up2_o (by omega), up2_o (by omega), up2_o (by omega), up2_o (by omega), up2_o (by omega), a0, hlo _ (by omega)]
    · rw [up2_o (by omega), up2_k (by omega), up2_o (by omega), up2_o (by omega), up2_o (by omega), up2_o (by omega), up2_o (by omega), a1, hlo _ (by omega)]
    · rw [up2_o (by omega), up2_at, hb, if_neg (by omega), if_pos rfl]
    · rw [up2_o (by omega), up2_o (by omega), up2_o (by omega), up2_o (by omega), up2_o (by omega), up2_o (by omega), up2_o (by omega), s4 k k0 k1, hlo _ (by omega)]
    · rw [up2_o (by omega), up2_o (by omega), up2_o (by omega), up2_o (by omega), up2_o (by omega), up2_o (by omega), up2_o (by omega), s5 k k0 k1, hlo _ (by omega)]
    · rw [up2_o (by omega), up2_o (by omega), up2_o (by omega), up2_o (by omega), up2_o (by omega), up2_o (by omega), up2_o (by omega), s6 k k0 k1, hlo _ (by omega)]
    · rw [up2_o (by omega), up2_o (by omega), up2_o (by omega), up2_o (by omega), up2_o (by omega), up2_o (by omega), up2_o (by omega), s7 k k0 k1, hlo _ (by omega)]
    · by_cases c : k = t * 4 + so
      · subst c
        rw [up2_at, hb, if_pos (by omega)]
      · rw [up2_k (by omega), up2_o (by omega), up2_o (by omega), up2_o (by omega), up2_o (by omega), up2_o (by omega), up2_o (by omega), s8 k k0 k1, hb, if_neg (by omega), if_neg (by omega), if_neg (by omega), if_neg (by omega), if_neg (by omega), if_neg (by omega), if_neg (by omega), if_neg (by omega), if_neg (by omega)]
    · have k2 : k < many + 1 := by
        rw [hb 1867, if_neg (by omega), if_neg (by omega), if_pos rfl] at k1; exact k1
      have hE1 : bookZ B t so v a 1866 = B 1866 + 1 := by rw [hb 1866, if_neg (by omega), if_pos rfl]
      rw [hE1, up2_o (by omega), up2_o (by omega)]
      by_cases c : k = 0
      · subst c
        rw [show (B 1866 + 1 - 1 - 0) % 40 = e by omega, show (1868 + 5 * (0 : Int) + w) = 1868 + w by omega]
        by_cases w4 : w = 4
        · subst w4
          rw [up2_at, hb, if_neg (by omega), if_neg (by omega), if_neg (by omega), if_neg (by omega), if_neg (by omega), if_neg (by omega), if_neg (by omega), if_pos (by omega)]
        · rw [up2_k (by omega)]
          by_cases w3 : w = 3
          · subst w3
            rw [up2_at, hb, if_neg (by omega), if_neg (by omega), if_neg (by omega), if_neg (by omega), if_neg (by omega), if_neg (by omega), if_pos (by omega)]
          · rw [up2_k (by omega)]
            by_cases w2 : w = 2
            · subst w2
              rw [up2_at, hb, if_neg (by omega), if_neg (by omega), if_neg (by omega), if_neg (by omega), if_neg (by omega), if_pos (by omega)]
            · rw [up2_k (by omega)]
              by_cases w1' : w = 1
              · subst w1'
                rw [up2_at, hb, if_neg (by omega), if_neg (by omega), if_neg (by omega), if_neg (by omega), if_pos (by omega)]
              · have w0' : w = 0 := by omega
                subst w0'
                rw [up2_k (by omega), show (e * 5 + 0).toNat = (e * 5).toNat by omega, up2_at, hb, if_neg (by omega), if_neg (by omega), if_neg (by omega), if_pos (by omega)]
      · have hne : (B 1866 + 1 - 1 - k) % 40 ≠ e := by omega
        rw [up2_k (by omega), up2_k (by omega), up2_k (by omega), up2_k (by omega), up2_k (by omega)]
        have := s9 (k - 1) w (by omega) (by omega) w0 w1
        rw [show B 1866 - 1 - (k - 1) = B 1866 + 1 - 1 - k by omega] at this
        rw [this, hb, if_neg (by omega), if_neg (by omega), if_neg (by omega), if_neg (by omega), if_neg (by omega), if_neg (by omega), if_neg (by omega), if_neg (by omega), if_pos (by omega), show 1868 + 5 * (k - 1) + w = 1868 + 5 * k + w - 5 by omega]
  · funext k
    rw [up2_o h8, up2_o h0, up2_o h9, up2_o h9, up2_o h9, up2_o h9, up2_o h9]
theorem x_entryPart (h : BSh M b) (hR : RM B R) (hK : B 1867 ≤ 40 ∧ B 1867 ≤ B 1866) (hE : B 1866 ≤ 1000000) {k w : Int} (k0 : 0 ≤ k) (k1 : k < B 1867) (w0 : 0 ≤ w) (w1 : w < 5) : g_X2_entryPart n (WR M b R) b (zi k) (zi w) = some (zi (B (1868 + 5 * k + w)), WR M b R) := by
  have hm : 0 ≤ (B 1866 - 1 - k) % 40 ∧ (B 1866 - 1 - k) % 40 < 40 := by omega
  have er : zi (B 1866 - 1 - k) - zi (B 1866 - 1 - k) / zi 40 * zi 40 = zi ((B 1866 - 1 - k) % 40) := zi_rem (by omega) (by omega) (by omega) (by omega)
  have hz : ((40 : Int32) = 0) = False := eq_false (by decide)
  unfold g_X2_entryPart
  simp only [hz, if_false]
  simp (disch := omega) only [zl_0, zl_1, zl_2, zl_3, zl_4, zl_5, zl_10, zl_16, zl_40, zl_64, x_o11 h, i_sb, x_gB h, hR.1.2.2, zi_sub, er, zi_add, zi_mul, x_a11 h, hR.2.2.2.2.2.2]
end XB1
