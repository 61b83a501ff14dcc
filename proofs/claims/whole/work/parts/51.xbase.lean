/-! ===== PURE 21: the component's books: their memory as rows ===== -/
def WR (M : MemT) (b : Nat) (R : Nat → Nat → Int32) : MemT :=
  (M.1, M.2.1, M.2.2.1, M.2.2.2.1, fun x k => if b ≤ x ∧ x < b + 50 then R (x - b) k else M.2.2.2.2.1 x k, M.2.2.2.2.2)
def WF (M : MemT) (k : Nat) (F : Nat → Int32) (S : Int → Int) : MemT :=
  (M.1, M.2.1, M.2.2.1, M.2.2.2.1, fun x j => if x = k then F j else M.2.2.2.2.1 x j, fun x j => if x = k + 1 then zj (S j) else M.2.2.2.2.2 x j)
def ASh (M : MemT) (x : Nat) : Prop :=
  mK M x = 0 ∧ (mR M x 15 = some (x + 1) ∧ mR M x 16 = some (x + 2) ∧ mR M x 17 = some (x + 3) ∧ mR M x 18 = some (x + 4)) ∧ (mK M (x + 1) = 10 ∧ mK M (x + 2) = 10 ∧ mK M (x + 3) = 10 ∧ mK M (x + 4) = 10) ∧ (mL M (x + 1) = 4 ∧ mL M (x + 2) = 10 ∧ mL M (x + 3) = 10 ∧ mL M (x + 4) = 10)
def BSh (M : MemT) (b : Nat) : Prop :=
  mK M b = 1 ∧ (mR M b 5 = some (b + 3) ∧ mK M (b + 3) = 14 ∧ mL M (b + 3) = 8) ∧ (mR M b 3 = some (b + 1) ∧ mR M b 4 = some (b + 2) ∧ mR M b 6 = some (b + 4) ∧ mR M b 7 = some (b + 5) ∧ mR M b 8 = some (b + 6) ∧ mR M b 9 = some (b + 7) ∧ mR M b 10 = some (b + 8) ∧ mR M b 11 = some (b + 9)) ∧ (mK M (b + 1) = 10 ∧ mK M (b + 2) = 10 ∧ mK M (b + 4) = 10 ∧ mK M (b + 5) = 10 ∧ mK M (b + 6) = 10 ∧ mK M (b + 7) = 10 ∧ mK M (b + 8) = 10 ∧ mK M (b + 9) = 10) ∧ (mL M (b + 1) = 4 ∧ mL M (b + 2) = 4 ∧ mL M (b + 4) = 1280 ∧ mL M (b + 5) = 256 ∧ mL M (b + 6) = 64 ∧ mL M (b + 7) = 256 ∧ mL M (b + 8) = 16 ∧ mL M (b + 9) = 200) ∧ (∀ a : Nat, a < 8 → mR M (b + 3) a = some (b + 10 + 5 * a) ∧ ASh M (b + 10 + 5 * a))
section XBASE
variable {M : MemT} {b : Nat} {R : Nat → Nat → Int32} {n : Nat}
theorem xr_K : mK (WR M b R) = mK M := rfl
theorem xr_L : mL (WR M b R) = mL M := rfl
theorem xr_R : mR (WR M b R) = mR M := rfl
theorem xr_N : mN (WR M b R) = mN M := rfl
theorem xr_J : mJ (WR M b R) = mJ M := rfl
theorem xr_in {x k : Nat} (h1 : b ≤ x) (h2 : x < b + 50) : mI (WR M b R) x k = R (x - b) k := if_pos ⟨h1, h2⟩
theorem xr_out {x k : Nat} (h : ¬ (b ≤ x ∧ x < b + 50)) : mI (WR M b R) x k = mI M x k := if_neg h
theorem xr_at {o k : Nat} (h2 : o < 50) : mI (WR M b R) (b + o) k = R o k := by
  rw [xr_in (by omega) (by omega), Nat.add_sub_cancel_left]
theorem xr_set {o k : Nat} {v : Int32} (h : o < 50) : sI (WR M b R) (b + o) k v = WR M b (up2 R o k v) := by
  unfold sI WR
  refine Prod.ext rfl (Prod.ext rfl (Prod.ext rfl (Prod.ext rfl (Prod.ext ?_ rfl))))
  funext x j
  show (if x = b + o ∧ j = k then v else if b ≤ x ∧ x < b + 50 then R (x - b) j else M.2.2.2.2.1 x j) = if b ≤ x ∧ x < b + 50 then (if x - b = o ∧ j = k then v else R (x - b) j) else M.2.2.2.2.1 x j
  by_cases hx : b ≤ x ∧ x < b + 50
  · rw [if_pos hx, if_pos hx]
    by_cases hj : x = b + o ∧ j = k
    · rw [if_pos hj, if_pos (by omega)]
    · rw [if_neg hj, if_neg (by omega)]
  · rw [if_neg hx, if_neg hx, if_neg (by omega)]
theorem x_aI {o N : Nat} {k : Int} (ho : o < 50) (hk : mK M (b + o) = 10) (hl : mL M (b + o) = N) (h0 : 0 ≤ k) (h1 : k < N) (hN : N ≤ 2000) : aI (WR M b R) 10 (b + o) (zi k) = some (R o k.toNat) := by
  rw [i_aI (M := WR M b R) (N := (N : Int)) hk (by rw [xr_L, hl]) h0 h1 (by omega), xr_at ho]
theorem x_wI {o N : Nat} {k : Int} {v : Int32} (ho : o < 50) (hk : mK M (b + o) = 10) (hl : mL M (b + o) = N) (h0 : 0 ≤ k) (h1 : k < N) (hN : N ≤ 2000) : wI (WR M b R) (b + o) (zi k) v = some (WR M b (up2 R o k.toNat v)) := by
  rw [i_wI (M := WR M b R) (N := (N : Int)) hk (by rw [xr_L, hl]) h0 h1 (by omega), xr_set ho]
theorem x_gB (h : BSh M b) {k : Nat} : gI (WR M b R) 1 b k = some (R 0 k) := by
  rw [i_gI (M := WR M b R) h.1]
  have := xr_at (M := M) (b := b) (R := R) (o := 0) (k := k) (by omega)
  rw [Nat.add_zero] at this
  rw [this]
theorem x_pB (h : BSh M b) {k : Nat} {v : Int32} : pI (WR M b R) 1 b k v = some (WR M b (up2 R 0 k v)) := by
  rw [i_pI (M := WR M b R) h.1]
  have := xr_set (M := M) (b := b) (R := R) (o := 0) (k := k) (v := v) (by omega)
  rw [Nat.add_zero] at this
  rw [this]
theorem x_kB {β : Type} {e : Option β} (h : BSh M b) : chk (WR M b R) 1 b e = e := i_chk h.1
theorem x_o5 (h : BSh M b) : gO (WR M b R) 1 b 5 = some (b + 3) := i_gO h.1 h.2.1.1
theorem x_oA (h : BSh M b) {a : Nat} (ha : a < 8) : aO (WR M b R) 14 (b + 3) (zi (a : Int)) = some (b + 10 + 5 * a) := by
  unfold aO inA
  have e0 : ¬ (zi (a : Int) < 0 ∨ mL (WR M b R) (b + 3) ≤ (zi (a : Int)).toNatClampNeg) := by
    show ¬ (zi _ < zi 0 ∨ _)
    rw [zi_lt (by omega) (by omega) (by omega) (by omega), zi_tn (by omega) (by omega), xr_L, h.2.1.2.2]
    omega
  rw [if_pos ⟨h.2.1.2.1, e0⟩, zi_tn (by omega) (by omega), Int.toNat_natCast, xr_R]
  exact (h.2.2.2.2.2 a ha).1
theorem x_o3 (h : BSh M b) : gO (WR M b R) 1 b 3 = some (b + 1) := i_gO h.1 h.2.2.1.1
theorem x_a3 (h : BSh M b) {k : Int} (h0 : 0 ≤ k) (h1 : k < 4) : aI (WR M b R) 10 (b + 1) (zi k) = some (R 1 k.toNat) := x_aI (by omega) h.2.2.2.1.1 h.2.2.2.2.1.1 h0 h1 (by omega)
theorem x_w3 (h : BSh M b) {k : Int} {v : Int32} (h0 : 0 ≤ k) (h1 : k < 4) : wI (WR M b R) (b + 1) (zi k) v = some (WR M b (up2 R 1 k.toNat v)) := x_wI (by omega) h.2.2.2.1.1 h.2.2.2.2.1.1 h0 h1 (by omega)
theorem x_o4 (h : BSh M b) : gO (WR M b R) 1 b 4 = some (b + 2) := i_gO h.1 h.2.2.1.2.1
theorem x_a4 (h : BSh M b) {k : Int} (h0 : 0 ≤ k) (h1 : k < 4) : aI (WR M b R) 10 (b + 2) (zi k) = some (R 2 k.toNat) := x_aI (by omega) h.2.2.2.1.2.1 h.2.2.2.2.1.2.1 h0 h1 (by omega)
theorem x_w4 (h : BSh M b) {k : Int} {v : Int32} (h0 : 0 ≤ k) (h1 : k < 4) : wI (WR M b R) (b + 2) (zi k) v = some (WR M b (up2 R 2 k.toNat v)) := x_wI (by omega) h.2.2.2.1.2.1 h.2.2.2.2.1.2.1 h0 h1 (by omega)
theorem x_o6 (h : BSh M b) : gO (WR M b R) 1 b 6 = some (b + 4) := i_gO h.1 h.2.2.1.2.2.1
theorem x_a6 (h : BSh M b) {k : Int} (h0 : 0 ≤ k) (h1 : k < 1280) : aI (WR M b R) 10 (b + 4) (zi k) = some (R 4 k.toNat) := x_aI (by omega) h.2.2.2.1.2.2.1 h.2.2.2.2.1.2.2.1 h0 h1 (by omega)
theorem x_w6 (h : BSh M b) {k : Int} {v : Int32} (h0 : 0 ≤ k) (h1 : k < 1280) : wI (WR M b R) (b + 4) (zi k) v = some (WR M b (up2 R 4 k.toNat v)) := x_wI (by omega) h.2.2.2.1.2.2.1 h.2.2.2.2.1.2.2.1 h0 h1 (by omega)
theorem x_o7 (h : BSh M b) : gO (WR M b R) 1 b 7 = some (b + 5) := i_gO h.1 h.2.2.1.2.2.2.1
theorem x_a7 (h : BSh M b) {k : Int} (h0 : 0 ≤ k) (h1 : k < 256) : aI (WR M b R) 10 (b + 5) (zi k) = some (R 5 k.toNat) := x_aI (by omega) h.2.2.2.1.2.2.2.1 h.2.2.2.2.1.2.2.2.1 h0 h1 (by omega)
theorem x_w7 (h : BSh M b) {k : Int} {v : Int32} (h0 : 0 ≤ k) (h1 : k < 256) : wI (WR M b R) (b + 5) (zi k) v = some (WR M b (up2 R 5 k.toNat v)) := x_wI (by omega) h.2.2.2.1.2.2.2.1 h.2.2.2.2.1.2.2.2.1 h0 h1 (by omega)
theorem x_o8 (h : BSh M b) : gO (WR M b R) 1 b 8 = some (b + 6) := i_gO h.1 h.2.2.1.2.2.2.2.1
theorem x_a8 (h : BSh M b) {k : Int} (h0 : 0 ≤ k) (h1 : k < 64) : aI (WR M b R) 10 (b + 6) (zi k) = some (R 6 k.toNat) := x_aI (by omega) h.2.2.2.1.2.2.2.2.1 h.2.2.2.2.1.2.2.2.2.1 h0 h1 (by omega)
theorem x_w8 (h : BSh M b) {k : Int} {v : Int32} (h0 : 0 ≤ k) (h1 : k < 64) : wI (WR M b R) (b + 6) (zi k) v = some (WR M b (up2 R 6 k.toNat v)) := x_wI (by omega) h.2.2.2.1.2.2.2.2.1 h.2.2.2.2.1.2.2.2.2.1 h0 h1 (by omega)
theorem x_o9 (h : BSh M b) : gO (WR M b R) 1 b 9 = some (b + 7) := i_gO h.1 h.2.2.1.2.2.2.2.2.1
theorem x_a9 (h : BSh M b) {k : Int} (h0 : 0 ≤ k) (h1 : k < 256) : aI (WR M b R) 10 (b + 7) (zi k) = some (R 7 k.toNat) := x_aI (by omega) h.2.2.2.1.2.2.2.2.2.1 h.2.2.2.2.1.2.2.2.2.2.1 h0 h1 (by omega)
theorem x_w9 (h : BSh M b) {k : Int} {v : Int32} (h0 : 0 ≤ k) (h1 : k < 256) : wI (WR M b R) (b + 7) (zi k) v = some (WR M b (up2 R 7 k.toNat v)) := x_wI (by omega) h.2.2.2.1.2.2.2.2.2.1 h.2.2.2.2.1.2.2.2.2.2.1 h0 h1 (by omega)
theorem x_o10 (h : BSh M b) : gO (WR M b R) 1 b 10 = some (b + 8) := i_gO h.1 h.2.2.1.2.2.2.2.2.2.1
theorem x_a10 (h : BSh M b) {k : Int} (h0 : 0 ≤ k) (h1 : k < 16) : aI (WR M b R) 10 (b + 8) (zi k) = some (R 8 k.toNat) := x_aI (by omega) h.2.2.2.1.2.2.2.2.2.2.1 h.2.2.2.2.1.2.2.2.2.2.2.1 h0 h1 (by omega)
theorem x_w10 (h : BSh M b) {k : Int} {v : Int32} (h0 : 0 ≤ k) (h1 : k < 16) : wI (WR M b R) (b + 8) (zi k) v = some (WR M b (up2 R 8 k.toNat v)) := x_wI (by omega) h.2.2.2.1.2.2.2.2.2.2.1 h.2.2.2.2.1.2.2.2.2.2.2.1 h0 h1 (by omega)
theorem x_o11 (h : BSh M b) : gO (WR M b R) 1 b 11 = some (b + 9) := i_gO h.1 h.2.2.1.2.2.2.2.2.2.2
theorem x_a11 (h : BSh M b) {k : Int} (h0 : 0 ≤ k) (h1 : k < 200) : aI (WR M b R) 10 (b + 9) (zi k) = some (R 9 k.toNat) := x_aI (by omega) h.2.2.2.1.2.2.2.2.2.2.2 h.2.2.2.2.1.2.2.2.2.2.2.2 h0 h1 (by omega)
theorem x_w11 (h : BSh M b) {k : Int} {v : Int32} (h0 : 0 ≤ k) (h1 : k < 200) : wI (WR M b R) (b + 9) (zi k) v = some (WR M b (up2 R 9 k.toNat v)) := x_wI (by omega) h.2.2.2.1.2.2.2.2.2.2.2 h.2.2.2.2.1.2.2.2.2.2.2.2 h0 h1 (by omega)
theorem x_gA (h : BSh M b) {a k : Nat} (ha : a < 8) : gI (WR M b R) 0 (b + 10 + 5 * a) k = some (R (10 + 5 * a) k) := by
  rw [i_gI (M := WR M b R) (h.2.2.2.2.2 a ha).2.1, Nat.add_assoc, xr_at (by omega)]
theorem x_pA (h : BSh M b) {a k : Nat} {v : Int32} (ha : a < 8) : pI (WR M b R) 0 (b + 10 + 5 * a) k v = some (WR M b (up2 R (10 + 5 * a) k v)) := by
  rw [i_pI (M := WR M b R) (h.2.2.2.2.2 a ha).2.1, Nat.add_assoc, xr_set (by omega)]
theorem x_zA (h : BSh M b) {a k : Nat} {v : Int32} (ha : a < 8) (hv : v = 0 ∨ v = 1) : pZ (WR M b R) 0 (b + 10 + 5 * a) k v = some (WR M b (up2 R (10 + 5 * a) k v)) := by
  rw [i_pZ (M := WR M b R) (h.2.2.2.2.2 a ha).2.1 hv, Nat.add_assoc, xr_set (by omega)]
theorem x_kA {β : Type} {e : Option β} (h : BSh M b) {a : Nat} (ha : a < 8) : chk (WR M b R) 0 (b + 10 + 5 * a) e = e := i_chk (h.2.2.2.2.2 a ha).2.1
theorem x_oA15 (h : BSh M b) {a : Nat} (ha : a < 8) : gO (WR M b R) 0 (b + 10 + 5 * a) 15 = some (b + 10 + 5 * a + 1) := i_gO (h.2.2.2.2.2 a ha).2.1 (h.2.2.2.2.2 a ha).2.2.1.1
theorem x_aA15 (h : BSh M b) {a : Nat} {k : Int} (ha : a < 8) (h0 : 0 ≤ k) (h1 : k < 4) : aI (WR M b R) 10 (b + 10 + 5 * a + 1) (zi k) = some (R (10 + 5 * a + 1) k.toNat) := by
  have e : b + 10 + 5 * a + 1 = b + (10 + 5 * a + 1) := by omega
  have h2 := (h.2.2.2.2.2 a ha).2.2.2.1.1
  have h3 := (h.2.2.2.2.2 a ha).2.2.2.2.1
  rw [e] at h2 h3 ⊢
  exact x_aI (by omega) h2 h3 h0 h1 (by omega)
theorem x_wA15 (h : BSh M b) {a : Nat} {k : Int} {v : Int32} (ha : a < 8) (h0 : 0 ≤ k) (h1 : k < 4) : wI (WR M b R) (b + 10 + 5 * a + 1) (zi k) v = some (WR M b (up2 R (10 + 5 * a + 1) k.toNat v)) := by
  have e : b + 10 + 5 * a + 1 = b + (10 + 5 * a + 1) := by omega
  have h2 := (h.2.2.2.2.2 a ha).2.2.2.1.1
  have h3 := (h.2.2.2.2.2 a ha).2.2.2.2.1
  rw [e] at h2 h3 ⊢
  exact x_wI (by omega) h2 h3 h0 h1 (by omega)
theorem x_oA16 (h : BSh M b) {a : Nat} (ha : a < 8) : gO (WR M b R) 0 (b + 10 + 5 * a) 16 = some (b + 10 + 5 * a + 2) := i_gO (h.2.2.2.2.2 a ha).2.1 (h.2.2.2.2.2 a ha).2.2.1.2.1
theorem x_aA16 (h : BSh M b) {a : Nat} {k : Int} (ha : a < 8) (h0 : 0 ≤ k) (h1 : k < 10) : aI (WR M b R) 10 (b + 10 + 5 * a + 2) (zi k) = some (R (10 + 5 * a + 2) k.toNat) := by
  have e : b + 10 + 5 * a + 2 = b + (10 + 5 * a + 2) := by omega
  have h2 := (h.2.2.2.2.2 a ha).2.2.2.1.2.1
  have h3 := (h.2.2.2.2.2 a ha).2.2.2.2.2.1
  rw [e] at h2 h3 ⊢
  exact x_aI (by omega) h2 h3 h0 h1 (by omega)
theorem x_wA16 (h : BSh M b) {a : Nat} {k : Int} {v : Int32} (ha : a < 8) (h0 : 0 ≤ k) (h1 : k < 10) : wI (WR M b R) (b + 10 + 5 * a + 2) (zi k) v = some (WR M b (up2 R (10 + 5 * a + 2) k.toNat v)) := by
  have e : b + 10 + 5 * a + 2 = b + (10 + 5 * a + 2) := by omega
  have h2 := (h.2.2.2.2.2 a ha).2.2.2.1.2.1
  have h3 := (h.2.2.2.2.2 a ha).2.2.2.2.2.1
  rw [e] at h2 h3 ⊢
  exact x_wI (by omega) h2 h3 h0 h1 (by omega)
theorem x_oA17 (h : BSh M b) {a : Nat} (ha : a < 8) : gO (WR M b R) 0 (b + 10 + 5 * a) 17 = some (b + 10 + 5 * a + 3) := i_gO (h.2.2.2.2.2 a ha).2.1 (h.2.2.2.2.2 a ha).2.2.1.2.2.1
theorem x_aA17 (h : BSh M b) {a : Nat} {k : Int} (ha : a < 8) (h0 : 0 ≤ k) (h1 : k < 10) : aI (WR M b R) 10 (b + 10 + 5 * a + 3) (zi k) = some (R (10 + 5 * a + 3) k.toNat) := by
  have e : b + 10 + 5 * a + 3 = b + (10 + 5 * a + 3) := by omega
  have h2 := (h.2.2.2.2.2 a ha).2.2.2.1.2.2.1
  have h3 := (h.2.2.2.2.2 a ha).2.2.2.2.2.2.1
  rw [e] at h2 h3 ⊢
  exact x_aI (by omega) h2 h3 h0 h1 (by omega)
theorem x_wA17 (h : BSh M b) {a : Nat} {k : Int} {v : Int32} (ha : a < 8) (h0 : 0 ≤ k) (h1 : k < 10) : wI (WR M b R) (b + 10 + 5 * a + 3) (zi k) v = some (WR M b (up2 R (10 + 5 * a + 3) k.toNat v)) := by
  have e : b + 10 + 5 * a + 3 = b + (10 + 5 * a + 3) := by omega
  have h2 := (h.2.2.2.2.2 a ha).2.2.2.1.2.2.1
  have h3 := (h.2.2.2.2.2 a ha).2.2.2.2.2.2.1
  rw [e] at h2 h3 ⊢
  exact x_wI (by omega) h2 h3 h0 h1 (by omega)
theorem x_oA18 (h : BSh M b) {a : Nat} (ha : a < 8) : gO (WR M b R) 0 (b + 10 + 5 * a) 18 = some (b + 10 + 5 * a + 4) := i_gO (h.2.2.2.2.2 a ha).2.1 (h.2.2.2.2.2 a ha).2.2.1.2.2.2
theorem x_aA18 (h : BSh M b) {a : Nat} {k : Int} (ha : a < 8) (h0 : 0 ≤ k) (h1 : k < 10) : aI (WR M b R) 10 (b + 10 + 5 * a + 4) (zi k) = some (R (10 + 5 * a + 4) k.toNat) := by
  have e : b + 10 + 5 * a + 4 = b + (10 + 5 * a + 4) := by omega
  have h2 := (h.2.2.2.2.2 a ha).2.2.2.1.2.2.2
  have h3 := (h.2.2.2.2.2 a ha).2.2.2.2.2.2.2
  rw [e] at h2 h3 ⊢
  exact x_aI (by omega) h2 h3 h0 h1 (by omega)
theorem x_wA18 (h : BSh M b) {a : Nat} {k : Int} {v : Int32} (ha : a < 8) (h0 : 0 ≤ k) (h1 : k < 10) : wI (WR M b R) (b + 10 + 5 * a + 4) (zi k) v = some (WR M b (up2 R (10 + 5 * a + 4) k.toNat v)) := by
  have e : b + 10 + 5 * a + 4 = b + (10 + 5 * a + 4) := by omega
  have h2 := (h.2.2.2.2.2 a ha).2.2.2.1.2.2.2
  have h3 := (h.2.2.2.2.2 a ha).2.2.2.2.2.2.2
  rw [e] at h2 h3 ⊢
  exact x_wI (by omega) h2 h3 h0 h1 (by omega)
theorem up2_at {R : Nat → Nat → Int32} {o k : Nat} {v : Int32} : up2 R o k v o k = v := if_pos ⟨rfl, rfl⟩
theorem up2_o {R : Nat → Nat → Int32} {o k x j : Nat} {v : Int32} (h : x ≠ o) : up2 R o k v x j = R x j := if_neg (fun q => h q.1)
theorem up2_k {R : Nat → Nat → Int32} {o k x j : Nat} {v : Int32} (h : j ≠ k) : up2 R o k v x j = R x j := if_neg (fun q => h q.2)
end XBASE
