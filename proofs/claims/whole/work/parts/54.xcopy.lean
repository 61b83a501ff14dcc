/-! ===== PURE 24: the component's books copied ===== -/
def ucp (R : Nat → Nat → Int32) (f : Nat → Int32) (o N : Nat) : Nat → Nat → Int32 := fun x k => if x = o ∧ k < N then f k else R x k
def acpF (F : Nat → Int32) (R : Nat → Nat → Int32) (o : Nat) : Nat → Nat → Nat → Int32
  | 0 => R
  | j + 1 => up2 (acpF F R o j) o j (F j)
/-- an asset's rows taken from the rows S (o: its first offset) -/
def acpZ (S R : Nat → Nat → Int32) (o : Nat) : Nat → Nat → Int32 := ucp (ucp (ucp (ucp (acpF (S o) R o 15) (S (o + 1)) (o + 1) 4) (S (o + 2)) (o + 2) 10) (S (o + 3)) (o + 3) 10) (S (o + 4)) (o + 4) 10
def bcpZ (S R : Nat → Nat → Int32) : Nat → Nat → Int32 := ucp (ucp (ucp (ucp (ucp (ucp (ucp (ucp (up2 (up2 (up2 R 0 0 (S 0 0)) 0 1 (S 0 1)) 0 2 (S 0 2)) (S 1) 1 4) (S 2) 2 4) (S 4) 4 1280) (S 5) 5 256) (S 6) 6 64) (S 7) 7 256) (S 8) 8 16) (S 9) 9 200
def cpAZ (S R : Nat → Nat → Int32) : Nat → Nat → Nat → Int32
  | 0 => bcpZ S R
  | k + 1 => acpZ S (cpAZ S R k) (10 + 5 * k)
theorem ucp_in {R : Nat → Nat → Int32} {f : Nat → Int32} {o N k : Nat} (h : k < N) : ucp R f o N o k = f k := if_pos ⟨rfl, h⟩
theorem ucp_o {R : Nat → Nat → Int32} {f : Nat → Int32} {o N x k : Nat} (h : x ≠ o) : ucp R f o N x k = R x k := if_neg (fun q => h q.1)
theorem acpF_in {F : Nat → Int32} {R : Nat → Nat → Int32} {o k : Nat} : ∀ j, k < j → acpF F R o j o k = F k
  | 0, h => absurd h (by omega)
  | j + 1, h => by
    show up2 (acpF F R o j) o j (F j) o k = _
    by_cases c : k = j
    · subst c; exact up2_at
    · rw [up2_k c]; exact acpF_in j (by omega)
theorem acpF_o {F : Nat → Int32} {R : Nat → Nat → Int32} {o x k : Nat} (h : x ≠ o) : ∀ j, acpF F R o j x k = R x k
  | 0 => rfl
  | j + 1 => (up2_o h).trans (acpF_o h j)
theorem acpZ_o {S R : Nat → Nat → Int32} {o x k : Nat} (h : x < o ∨ o + 5 ≤ x) : acpZ S R o x k = R x k := by
  unfold acpZ
  rw [ucp_o (by omega), ucp_o (by omega), ucp_o (by omega), ucp_o (by omega), acpF_o (by omega)]
theorem acpZ_0 {S R : Nat → Nat → Int32} {o k : Nat} (h : k < 15) : acpZ S R o o k = S o k := by
  unfold acpZ
  rw [ucp_o (by omega), ucp_o (by omega), ucp_o (by omega), ucp_o (by omega), acpF_in 15 h]
theorem acpZ_1 {S R : Nat → Nat → Int32} {o k : Nat} (h : k < 4) : acpZ S R o (o + 1) k = S (o + 1) k := by
  unfold acpZ
  rw [ucp_o (by omega), ucp_o (by omega), ucp_o (by omega), ucp_in h]
theorem acpZ_2 {S R : Nat → Nat → Int32} {o k : Nat} (h : k < 10) : acpZ S R o (o + 2) k = S (o + 2) k := by
  unfold acpZ
  rw [ucp_o (by omega), ucp_o (by omega), ucp_in h]
theorem acpZ_3 {S R : Nat → Nat → Int32} {o k : Nat} (h : k < 10) : acpZ S R o (o + 3) k = S (o + 3) k := by
  unfold acpZ
  rw [ucp_o (by omega), ucp_in h]
theorem acpZ_4 {S R : Nat → Nat → Int32} {o k : Nat} (h : k < 10) : acpZ S R o (o + 4) k = S (o + 4) k := by
  unfold acpZ
  rw [ucp_in h]
theorem cpAZ_lo {S R : Nat → Nat → Int32} {x k : Nat} (h : x < 10) : ∀ c, cpAZ S R c x k = bcpZ S R x k
  | 0 => rfl
  | c + 1 => (acpZ_o (by omega)).trans (cpAZ_lo h c)
theorem cpAZ_as {S R : Nat → Nat → Int32} {a : Nat} : ∀ c, a < c → (∀ k, k < 15 → cpAZ S R c (10 + 5 * a) k = S (10 + 5 * a) k) ∧ (∀ k, k < 4 → cpAZ S R c (10 + 5 * a + 1) k = S (10 + 5 * a + 1) k) ∧ (∀ k, k < 10 → cpAZ S R c (10 + 5 * a + 2) k = S (10 + 5 * a + 2) k ∧ cpAZ S R c (10 + 5 * a + 3) k = S (10 + 5 * a + 3) k ∧ cpAZ S R c (10 + 5 * a + 4) k = S (10 + 5 * a + 4) k)
  | 0, h => absurd h (by omega)
  | c + 1, h => by
    by_cases e : a = c
    · subst e
      exact ⟨fun k hk => acpZ_0 hk, fun k hk => acpZ_1 hk, fun k hk => ⟨acpZ_2 hk, acpZ_3 hk, acpZ_4 hk⟩⟩
    · obtain ⟨i1, i2, i3⟩ := cpAZ_as (S := S) (R := R) c (show a < c by omega)
      exact ⟨fun k hk => (acpZ_o (by omega)).trans (i1 k hk), fun k hk => (acpZ_o (by omega)).trans (i2 k hk), fun k hk => ⟨(acpZ_o (by omega)).trans (i3 k hk).1, (acpZ_o (by omega)).trans (i3 k hk).2.1, (acpZ_o (by omega)).trans (i3 k hk).2.2⟩⟩
theorem bcpZ_0 {S R : Nat → Nat → Int32} {k : Nat} (h : k < 3) : bcpZ S R 0 k = S 0 k := by
  unfold bcpZ
  rw [ucp_o (by omega), ucp_o (by omega), ucp_o (by omega), ucp_o (by omega), ucp_o (by omega), ucp_o (by omega), ucp_o (by omega), ucp_o (by omega)]
  by_cases c2 : k = 2
  · subst c2; exact up2_at
  · rw [up2_k c2]
    by_cases c1 : k = 1
    · subst c1; exact up2_at
    · rw [up2_k c1]
      have c0 : k = 0 := by omega
      subst c0; exact up2_at
theorem bcpZ_1 {S R : Nat → Nat → Int32} {k : Nat} (h : k < 4) : bcpZ S R 1 k = S 1 k := by
  unfold bcpZ
  rw [ucp_o (by omega), ucp_o (by omega), ucp_o (by omega), ucp_o (by omega), ucp_o (by omega), ucp_o (by omega), ucp_o (by omega), ucp_in h]
theorem bcpZ_2 {S R : Nat → Nat → Int32} {k : Nat} (h : k < 4) : bcpZ S R 2 k = S 2 k := by
  unfold bcpZ
  rw [ucp_o (by omega), ucp_o (by omega), ucp_o (by omega), ucp_o (by omega), ucp_o (by omega), ucp_o (by omega), ucp_in h]
theorem bcpZ_4 {S R : Nat → Nat → Int32} {k : Nat} (h : k < 1280) : bcpZ S R 4 k = S 4 k := by
  unfold bcpZ
  rw [ucp_o (by omega), ucp_o (by omega), ucp_o (by omega), ucp_o (by omega), ucp_o (by omega), ucp_in h]
theorem bcpZ_5 {S R : Nat → Nat → Int32} {k : Nat} (h : k < 256) : bcpZ S R 5 k = S 5 k := by
  unfold bcpZ
  rw [ucp_o (by omega), ucp_o (by omega), ucp_o (by omega), ucp_o (by omega), ucp_in h]
theorem bcpZ_6 {S R : Nat → Nat → Int32} {k : Nat} (h : k < 64) : bcpZ S R 6 k = S 6 k := by
  unfold bcpZ
  rw [ucp_o (by omega), ucp_o (by omega), ucp_o (by omega), ucp_in h]
theorem bcpZ_7 {S R : Nat → Nat → Int32} {k : Nat} (h : k < 256) : bcpZ S R 7 k = S 7 k := by
  unfold bcpZ
  rw [ucp_o (by omega), ucp_o (by omega), ucp_in h]
theorem bcpZ_8 {S R : Nat → Nat → Int32} {k : Nat} (h : k < 16) : bcpZ S R 8 k = S 8 k := by
  unfold bcpZ
  rw [ucp_o (by omega), ucp_in h]
theorem bcpZ_9 {S R : Nat → Nat → Int32} {k : Nat} (h : k < 200) : bcpZ S R 9 k = S 9 k := by
  unfold bcpZ
  rw [ucp_in h]
theorem RB_cp {T B : Int → Int} {nt : Int} {S R : Nat → Nat → Int32} (h : RBk T B nt S) (hnt : nt ≤ 4) (hK : B 1867 ≤ 40) (h8 : B 1865 ≤ 8) (hA : ∀ a : Nat, (a : Int) < B 1865 → AtZ B a 47 ≤ 10) : RBk T B nt (cpAZ S R (B 1865).toNat) := by
  obtain ⟨⟨⟨a0, a1, a2⟩, s4, s5, s6, s7, s8, s9⟩, hh, ha⟩ := h
  refine ⟨⟨⟨?_, ?_, ?_⟩, fun k k0 k1 => ?_, fun k k0 k1 => ?_, fun k k0 k1 => ?_, fun k k0 k1 => ?_, fun k k0 k1 => ?_, fun k w k0 k1 w0 w1 => ?_⟩, fun t t0 t1 => ?_, fun a a1 => ?_⟩
  · rw [cpAZ_lo (by omega), bcpZ_0 (by omega), a0]
  · rw [cpAZ_lo (by omega), bcpZ_0 (by omega), a1]
  · rw [cpAZ_lo (by omega), bcpZ_0 (by omega), a2]
  · rw [cpAZ_lo (by omega), bcpZ_4 (by omega), s4 k k0 k1]
  · rw [cpAZ_lo (by omega), bcpZ_5 (by omega), s5 k k0 k1]
  · rw [cpAZ_lo (by omega), bcpZ_6 (by omega), s6 k k0 k1]
  · rw [cpAZ_lo (by omega), bcpZ_7 (by omega), s7 k k0 k1]
  · rw [cpAZ_lo (by omega), bcpZ_8 (by omega), s8 k k0 k1]
  · have hm : 0 ≤ (B 1866 - 1 - k) % 40 ∧ (B 1866 - 1 - k) % 40 < 40 := by omega
    rw [cpAZ_lo (by omega), bcpZ_9 (by omega), s9 k w k0 k1 w0 w1]
  · rw [cpAZ_lo (by omega), cpAZ_lo (by omega), bcpZ_1 (by omega), bcpZ_2 (by omega)]
    exact hh t t0 t1
  · obtain ⟨e0, e1, e2⟩ := cpAZ_as (S := S) (R := R) (a := a) (B 1865).toNat (by omega)
    have h1 := ha a a1
    have h47 := hA a a1
    unfold RA at h1 ⊢
    rw [e0 0 (by omega), e0 1 (by omega), e0 2 (by omega), e0 3 (by omega), e0 4 (by omega), e0 5 (by omega), e0 6 (by omega), e0 7 (by omega), e0 8 (by omega), e0 9 (by omega), e0 10 (by omega), e0 11 (by omega), e0 12 (by omega), e0 13 (by omega), e0 14 (by omega)]
    refine ⟨h1.1, h1.2.1, fun q j j0 j1 => ?_, fun i i0 i1 => ?_⟩
    · rw [e1 _ (by omega)]; exact h1.2.2.1 q j j0 j1
    · rw [(e2 i.toNat (by omega)).1, (e2 i.toNat (by omega)).2.1, (e2 i.toNat (by omega)).2.2]
      exact h1.2.2.2 i i0 i1
section XCOPY
variable {M : MemT} {b : Nat} {R : Nat → Nat → Int32} {n : Nat}
theorem xr_setr {o : Nat} {g : Nat → Int32} (h : o < 50) : sIr (WR M b R) (b + o) g = WR M b (upr R o g) := by
  unfold sIr WR
  refine Prod.ext rfl (Prod.ext rfl (Prod.ext rfl (Prod.ext rfl (Prod.ext ?_ rfl))))
  funext x j
  show (if x = b + o then g j else if b ≤ x ∧ x < b + 50 then R (x - b) j else M.2.2.2.2.1 x j) = if b ≤ x ∧ x < b + 50 then (if x - b = o then g j else R (x - b) j) else M.2.2.2.2.1 x j
  by_cases hx : b ≤ x ∧ x < b + 50
  · rw [if_pos hx, if_pos hx]
    by_cases hj : x = b + o
    · rw [if_pos hj, if_pos (by omega)]
    · rw [if_neg hj, if_neg (by omega)]
  · rw [if_neg hx, if_neg hx, if_neg (by omega)]
theorem i_aL {M : MemT} {x N : Nat} (hk : mK M x = 10) (hl : mL M x = N) : aL M x = some (zi N) := by
  unfold aL
  rw [if_pos (by omega), hl, zi_nI]
theorem x_copyRow {j o N : Nat} {f : Nat → Int32} (ho : o < 50) (hk : mK M (b + o) = 10) (hl : mL M (b + o) = N) (hk1 : mK M j = 10) (hl1 : mL M j = N) (hN : N ≤ 2000) (hj : ¬ (b ≤ j ∧ j < b + 50)) (hf : mI M j = f) : g_X9_copyRow n (WR M b R) j (b + o) = some ((), WR M b (ucp R f o N)) := by
  unfold g_X9_copyRow
  rw [i_aL (M := WR M b R) hk1 hl1, i_sb, i_aL (M := WR M b R) hk hl, i_sb, ite_self]
  unfold acpy
  have h0 : ¬ ((0 : Int32) < 0) := by decide
  have hn : ¬ (zi (N : Int) < 0) := by
    show ¬ (zi _ < zi 0)
    rw [zi_lt (by omega) (by omega) (by omega) (by omega)]; omega
  have ht : (zi (N : Int)).toNatClampNeg = N := by rw [zi_tn (by omega) (by omega), Int.toNat_natCast]
  have hz : (0 : Int32).toNatClampNeg = 0 := by decide
  rw [hz, ht, if_pos ⟨⟨hk1, hk⟩, ⟨h0, h0, hn⟩, by rw [xr_L, hl1]; omega, by rw [xr_L, hl]; omega⟩, i_sb, xr_setr ho]
  congr 3
  funext x k
  unfold upr ucp va_cpy
  by_cases hx : x = o
  · subst hx
    rw [if_pos rfl, xr_out hj, hf]
    by_cases hc : k < N
    · rw [if_pos (by omega), if_pos ⟨rfl, hc⟩]
      congr 1; omega
    · rw [if_neg (by omega), if_neg (fun q => hc q.2), xr_at ho]
  · rw [if_neg hx, if_neg (fun q => hx q.1)]
theorem x_gy {c y k : Nat} (hk : mK M y = c) (hy : ¬ (b ≤ y ∧ y < b + 50)) : gI (WR M b R) c y k = some (mI M y k) := by
  rw [i_gI (M := WR M b R) hk, xr_out hy]
theorem x_acopy (h : BSh M b) {a y : Nat} (ha : a < 8) (hy : ASh M y) (hd : y + 5 ≤ b ∨ b + 50 ≤ y) (hz8 : mI M y 8 = 0 ∨ mI M y 8 = 1) (hz12 : mI M y 12 = 0 ∨ mI M y 12 = 1) (S : Nat → Nat → Int32) (hS : ∀ i, i < 5 → S (10 + 5 * a + i) = mI M (y + i)) : g_X1_copyFrom n (WR M b R) (b + 10 + 5 * a) y = some ((), WR M b (acpZ S R (10 + 5 * a))) := by
  have hy0 := hy.1
  have hyo : ¬ (b ≤ y ∧ y < b + 50) := by omega
  have hA := (h.2.2.2.2.2 a ha).2
  have e0 : S (10 + 5 * a) = mI M y := hS 0 (by omega)
  have cr : ∀ (i N : Nat) (R : Nat → Nat → Int32), 1 ≤ i → i < 5 → mK M (b + 10 + 5 * a + i) = 10 → mL M (b + 10 + 5 * a + i) = N → mK M (y + i) = 10 → mL M (y + i) = N → N ≤ 2000 → g_X9_copyRow n (WR M b R) (y + i) (b + 10 + 5 * a + i) = some ((), WR M b (ucp R (S (10 + 5 * a + i)) (10 + 5 * a + i) N)) := fun i N R i0 i1 k1 l1 k2 l2 hN => by
    have e : b + 10 + 5 * a + i = b + (10 + 5 * a + i) := by omega
    rw [e] at k1 l1 ⊢
    exact x_copyRow (by omega) k1 l1 k2 l2 hN (by omega) (hS i i1).symm
  have o15 : ∀ R, gO (WR M b R) 0 y 15 = some (y + 1) := fun R => i_gO hy0 hy.2.1.1
  have o16 : ∀ R, gO (WR M b R) 0 y 16 = some (y + 2) := fun R => i_gO hy0 hy.2.1.2.1
  have o17 : ∀ R, gO (WR M b R) 0 y 17 = some (y + 3) := fun R => i_gO hy0 hy.2.1.2.2.1
  have o18 : ∀ R, gO (WR M b R) 0 y 18 = some (y + 4) := fun R => i_gO hy0 hy.2.1.2.2.2
  have c1 := fun R => cr 1 4 R (by omega) (by omega) hA.2.2.1.1 hA.2.2.2.1 hy.2.2.1.1 hy.2.2.2.1 (by omega)
  have c2 := fun R => cr 2 10 R (by omega) (by omega) hA.2.2.1.2.1 hA.2.2.2.2.1 hy.2.2.1.2.1 hy.2.2.2.2.1 (by omega)
  have c3 := fun R => cr 3 10 R (by omega) (by omega) hA.2.2.1.2.2.1 hA.2.2.2.2.2.1 hy.2.2.1.2.2.1 hy.2.2.2.2.2.1 (by omega)
  have c4 := fun R => cr 4 10 R (by omega) (by omega) hA.2.2.1.2.2.2 hA.2.2.2.2.2.2 hy.2.2.1.2.2.2 hy.2.2.2.2.2.2 (by omega)
  unfold g_X1_copyFrom
  rw [x_gy hy0 hyo, i_sb, x_pA h ha, i_sb, x_gy hy0 hyo, i_sb, x_pA h ha, i_sb, x_gy hy0 hyo, i_sb, x_pA h ha, i_sb, x_gy hy0 hyo, i_sb, x_pA h ha, i_sb, x_gy hy0 hyo, i_sb, x_pA h ha, i_sb, x_gy hy0 hyo, i_sb, x_pA h ha, i_sb, x_gy hy0 hyo, i_sb, x_pA h ha, i_sb, x_gy hy0 hyo, i_sb, x_pA h ha, i_sb, x_gy hy0 hyo, i_sb, x_zA h ha hz8, i_sb, x_gy hy0 hyo, i_sb, x_pA h ha, i_sb, x_gy hy0 hyo, i_sb, x_pA h ha, i_sb, x_gy hy0 hyo, i_sb, x_pA h ha, i_sb, x_gy hy0 hyo, i_sb, x_zA h ha hz12, i_sb, x_gy hy0 hyo, i_sb, x_pA h ha, i_sb, x_gy hy0 hyo, i_sb, x_pA h ha, i_sb, o15, i_sb, x_oA15 h ha, i_sb, c1, i_bd, o16, i_sb, x_oA16 h ha, i_sb, c2, i_bd, o17, i_sb, x_oA17 h ha, i_sb, c3, i_bd, o18, i_sb, x_oA18 h ha, i_sb, c4, i_bd]
  unfold acpZ
  rw [e0]
  rfl
theorem x_bcopy (h : BSh M b) {s : Nat} (hs : BSh M s) (hd : s + 50 ≤ b ∨ b + 50 ≤ s) (S : Nat → Nat → Int32) (hS : ∀ o, o < 50 → S o = mI M (s + o)) {cnt : Int} (hn : 10 < n) (hc : 0 ≤ cnt ∧ cnt ≤ 8) (h1 : S 0 1 = zi cnt) (hz : ∀ a : Nat, (a : Int) < cnt → (S (10 + 5 * a) 8 = 0 ∨ S (10 + 5 * a) 8 = 1) ∧ (S (10 + 5 * a) 12 = 0 ∨ S (10 + 5 * a) 12 = 1)) : g_X2_copyFrom n (WR M b R) b s = some ((), WR M b (cpAZ S R cnt.toNat)) := by
  have hso : ¬ (b ≤ s ∧ s < b + 50) := by omega
  have e0 : mI M s = S 0 := (hS 0 (by omega)).symm
  have cr : ∀ (o N : Nat) (R : Nat → Nat → Int32), 1 ≤ o → o < 10 → mK M (b + o) = 10 → mL M (b + o) = N → mK M (s + o) = 10 → mL M (s + o) = N → N ≤ 2000 → g_X9_copyRow n (WR M b R) (s + o) (b + o) = some ((), WR M b (ucp R (S o) o N)) := fun o N R o0 o1 k1 l1 k2 l2 hN => x_copyRow (by omega) k1 l1 k2 l2 hN (by omega) (hS o (by omega)).symm
  have r1 := fun R => cr 1 4 R (by omega) (by omega) h.2.2.2.1.1 h.2.2.2.2.1.1 hs.2.2.2.1.1 hs.2.2.2.2.1.1 (by omega)
  have x_oS3 : ∀ R, gO (WR M b R) 1 s 3 = some (s + 1) := fun R => i_gO hs.1 hs.2.2.1.1
  have r2 := fun R => cr 2 4 R (by omega) (by omega) h.2.2.2.1.2.1 h.2.2.2.2.1.2.1 hs.2.2.2.1.2.1 hs.2.2.2.2.1.2.1 (by omega)
  have x_oS4 : ∀ R, gO (WR M b R) 1 s 4 = some (s + 2) := fun R => i_gO hs.1 hs.2.2.1.2.1
  have r4 := fun R => cr 4 1280 R (by omega) (by omega) h.2.2.2.1.2.2.1 h.2.2.2.2.1.2.2.1 hs.2.2.2.1.2.2.1 hs.2.2.2.2.1.2.2.1 (by omega)
  have x_oS6 : ∀ R, gO (WR M b R) 1 s 6 = some (s + 4) := fun R => i_gO hs.1 hs.2.2.1.2.2.1
  have r5 := fun R => cr 5 256 R (by omega) (by omega) h.2.2.2.1.2.2.2.1 h.2.2.2.2.1.2.2.2.1 hs.2.2.2.1.2.2.2.1 hs.2.2.2.2.1.2.2.2.1 (by omega)
  have x_oS7 : ∀ R, gO (WR M b R) 1 s 7 = some (s + 5) := fun R => i_gO hs.1 hs.2.2.1.2.2.2.1
  have r6 := fun R => cr 6 64 R (by omega) (by omega) h.2.2.2.1.2.2.2.2.1 h.2.2.2.2.1.2.2.2.2.1 hs.2.2.2.1.2.2.2.2.1 hs.2.2.2.2.1.2.2.2.2.1 (by omega)
  have x_oS8 : ∀ R, gO (WR M b R) 1 s 8 = some (s + 6) := fun R => i_gO hs.1 hs.2.2.1.2.2.2.2.1
  have r7 := fun R => cr 7 256 R (by omega) (by omega) h.2.2.2.1.2.2.2.2.2.1 h.2.2.2.2.1.2.2.2.2.2.1 hs.2.2.2.1.2.2.2.2.2.1 hs.2.2.2.2.1.2.2.2.2.2.1 (by omega)
  have x_oS9 : ∀ R, gO (WR M b R) 1 s 9 = some (s + 7) := fun R => i_gO hs.1 hs.2.2.1.2.2.2.2.2.1
  have r8 := fun R => cr 8 16 R (by omega) (by omega) h.2.2.2.1.2.2.2.2.2.2.1 h.2.2.2.2.1.2.2.2.2.2.2.1 hs.2.2.2.1.2.2.2.2.2.2.1 hs.2.2.2.2.1.2.2.2.2.2.2.1 (by omega)
  have x_oS10 : ∀ R, gO (WR M b R) 1 s 10 = some (s + 8) := fun R => i_gO hs.1 hs.2.2.1.2.2.2.2.2.2.1
  have r9 := fun R => cr 9 200 R (by omega) (by omega) h.2.2.2.1.2.2.2.2.2.2.2 h.2.2.2.2.1.2.2.2.2.2.2.2 hs.2.2.2.1.2.2.2.2.2.2.2 hs.2.2.2.2.1.2.2.2.2.2.2.2 (by omega)
  have x_oS11 : ∀ R, gO (WR M b R) 1 s 11 = some (s + 9) := fun R => i_gO hs.1 hs.2.2.1.2.2.2.2.2.2.2
  unfold g_X2_copyFrom
  rw [x_gy hs.1 hso, i_sb, x_pB h, i_sb, x_gy hs.1 hso, i_sb, x_pB h, i_sb, x_gy hs.1 hso, i_sb, x_pB h, i_sb, x_oS3, i_sb, x_o3 h, i_sb, r1, i_bd, x_oS4, i_sb, x_o4 h, i_sb, r2, i_bd, x_oS6, i_sb, x_o6 h, i_sb, r4, i_bd, x_oS7, i_sb, x_o7 h, i_sb, r5, i_bd, x_oS8, i_sb, x_o8 h, i_sb, r6, i_bd, x_oS9, i_sb, x_o9 h, i_sb, r7, i_bd, x_oS10, i_sb, x_o10 h, i_sb, r8, i_bd, x_oS11, i_sb, x_o11 h, i_sb, r9, i_bd, e0]
  rw [show (WR M b (ucp (ucp (ucp (ucp (ucp (ucp (ucp (ucp (up2 (up2 (up2 R 0 0 (S 0 0)) 0 1 (S 0 1)) 0 2 (S 0 2)) (S 1) 1 4) (S 2) 2 4) (S 4) 4 1280) (S 5) 5 256) (S 6) 6 64) (S 7) 7 256) (S 8) 8 16) (S 9) 9 200), (0 : Int32)) = (fun i : Nat => (WR M b (cpAZ S R i), zi (i : Int))) 0 from rfl]
  have g1 : ∀ i : Nat, gI (WR M b (cpAZ S R i)) 1 b 1 = some (zi cnt) := fun i => by
    rw [x_gB h, cpAZ_lo (by omega), bcpZ_0 (by omega), h1]
  rw [loop_k (fun i : Nat => (WR M b (cpAZ S R i), zi (i : Int))) (WR M b (cpAZ S R cnt.toNat), zi cnt) cnt.toNat (fun i hi => ?_) ?_ n (by omega), i_sb]
  · dsimp only
    rw [g1, i_sb, Int.toNat_of_nonneg hc.1, if_pos (Int32.le_refl _)]
  · dsimp only
    have hi8 : i < 8 := by omega
    have oS : ∀ R, aO (WR M b R) 14 (s + 3) (zi (i : Int)) = some (s + 10 + 5 * i) := fun R => by
      unfold aO inA
      have e0 : ¬ (zi (i : Int) < 0 ∨ mL (WR M b R) (s + 3) ≤ (zi (i : Int)).toNatClampNeg) := by
        show ¬ (zi _ < zi 0 ∨ _)
        rw [zi_lt (by omega) (by omega) (by omega) (by omega), zi_tn (by omega) (by omega), xr_L, hs.2.1.2.2]
        omega
      rw [if_pos ⟨hs.2.1.2.1, e0⟩, zi_tn (by omega) (by omega), Int.toNat_natCast, xr_R]
      exact (hs.2.2.2.2.2 i hi8).1
    have o5 : ∀ R, gO (WR M b R) 1 s 5 = some (s + 3) := fun R => i_gO hs.1 hs.2.1.1
    have hzi := hz i (by omega)
    have es : S (10 + 5 * i) = mI M (s + 10 + 5 * i) := by rw [hS _ (by omega), Nat.add_assoc]
    rw [es] at hzi
    rw [g1, i_sb, if_neg (by rw [zi_le (by omega) (by omega) (by omega) (by omega)]; omega), if_neg (by show ¬ (zi 8 ≤ zi (i : Int)); rw [zi_le (by omega) (by omega) (by omega) (by omega)]; omega), x_o5 h, i_sb, x_oA h hi8, i_sb, o5, i_sb, oS, i_sb, x_kA h hi8, x_acopy h hi8 (hs.2.2.2.2.2 i hi8).2 (by omega) hzi.1 hzi.2 S (fun j hj => by rw [hS _ (by omega)]; congr 1; omega), i_bd]
    rw [show zi (i : Int) + 1 = zi ((i + 1 : Nat) : Int) from zi_add (i : Int) 1]
    rfl
end XCOPY
