/-! ===== PURE 101: what is kept of a text, as functions ===== -/
def kT (σ : PSt) (A : Nat → Nat → Int32) : Int → Int := ovF 7 σ.2.1 (kpA A 4)
def kTr (σ : PSt) (A : Nat → Nat → Int32) : Int → Int := ovF (8 * σ.1) σ.2.2.1 (kpA A 0)
def kSl (σ : PSt) (A : Nat → Nat → Int32) : Int → Int := ovF (4 * σ.2.1 4) σ.2.2.2.1 (kpA A 1)
def kBu (σ : PSt) (A : Nat → Nat → Int32) : Int → Int := ovF (4 * σ.2.1 5) σ.2.2.2.2.1 (kpA A 2)
def kAs (σ : PSt) (A : Nat → Nat → Int32) : Int → Int := ovF (5 * σ.2.1 6) σ.2.2.2.2.2.1 (kpA A 3)
section M46
variable {M : MemT} {r s q : Nat} {g g0 : Nat → Int32} {A A0 : Nat → Nat → Int32} {n len : Nat} {σ : PSt} {u : Nat → Int} {e : Nat} {w : Int32} {U : Int}
theorem kT_e (j : Int) (j0 : 0 ≤ j) (j1 : j < 7) : kT σ A j = σ.2.1 j := ovF_in ⟨j0, j1⟩
theorem kTr_e (j : Int) (j0 : 0 ≤ j) (j1 : j < 8 * σ.1) : kTr σ A j = σ.2.2.1 j := ovF_in ⟨j0, j1⟩
theorem kSl_e (j : Int) (j0 : 0 ≤ j) (j1 : j < 4 * σ.2.1 4) : kSl σ A j = σ.2.2.2.1 j := ovF_in ⟨j0, j1⟩
theorem kBu_e (j : Int) (j0 : 0 ≤ j) (j1 : j < 4 * σ.2.1 5) : kBu σ A j = σ.2.2.2.2.1 j := ovF_in ⟨j0, j1⟩
theorem kAs_e (j : Int) (j0 : 0 ≤ j) (j1 : j < 5 * σ.2.1 6) : kAs σ A j = σ.2.2.2.2.2.1 j := ovF_in ⟨j0, j1⟩
theorem kRow (h : ROk σ) : RowsOk (kT σ A) (kSl σ A) (kBu σ A) (kAs σ A) := RowsOk_cg h.2.2.2.2.1 kT_e kSl_e kBu_e kAs_e
theorem kCom (h : ROk σ) : comZ (kT σ A) (kSl σ A) (kBu σ A) (kAs σ A) (hdB σ.1 (kTr σ A)) = comZ σ.2.1 σ.2.2.2.1 σ.2.2.2.2.1 σ.2.2.2.2.2.1 (hdB σ.1 σ.2.2.1) := by
  rw [hdB_cg kTr_e]
  exact comZ_cg h.2.2.2.2.1 kT_e kSl_e kBu_e kAs_e
theorem kTD (h : ROk σ) (htr : trOk (kTr σ A)) (hU : 2000000 ≤ U ∧ U ≤ 100000000) : TD σ.1 U (kT σ A) (kTr σ A) (kSl σ A) (kBu σ A) (kAs σ A) := ⟨h.1, told3_cg h.2.1 kT_e, htr, kRow h, RowsNt_cg h.2.2.2.2.2 kT_e kAs_e, hU⟩
theorem kBI (h : ROk σ) (hU : 2000000 ≤ U) : BI (kT σ A) σ.1 U (comZ σ.2.1 σ.2.2.2.1 σ.2.2.2.2.1 σ.2.2.2.2.2.1 (hdB σ.1 σ.2.2.1)) := BI_cg (BI_hd h.2.2.2.2.1 h.2.2.2.2.2 h.2.1 h.1 h.2.2.2.1 hU) kT_e
theorem k_r4 (hR : RYs g0 A0 len g A σ) (k : Int) (k0 : 0 ≤ k) : kpA A 4 k.toNat = zi (kT σ A k) := ovF_row (fun _ k1 => by
  rw [kpA_4, if_pos (by omega), show 7 + k.toNat = (7 + k).toNat by omega]
  exact hR.2.2.1 k k0 k1) k0
theorem k_r0 (hR : RYs g0 A0 len g A σ) (hk : ROk σ) (k : Int) (k0 : 0 ≤ k) : kpA A 0 k.toNat = zi (kTr σ A k) := ovF_row (fun _ k1 => by
  have h2 := hR.2.2.2.1 (k / 8) (k % 8) (by omega) (by omega) (by omega) (by omega)
  have o1 := hk.1
  rw [show 8 * (k / 8) + k % 8 = k by omega, show 32 + 8 * (k / 8) + k % 8 = 32 + k by omega] at h2
  rw [kpA_0, if_pos (by omega), show 32 + k.toNat = (32 + k).toNat by omega]
  exact h2) k0
theorem k_r1 (hR : RYs g0 A0 len g A σ) (hk : ROk σ) (k : Int) (k0 : 0 ≤ k) : kpA A 1 k.toNat = zi (kSl σ A k) := ovF_row (fun _ k1 => by
  have b4 := hk.2.2.2.2.1.1
  rw [kpA_1, if_pos (by omega), show 48 + k.toNat = (48 + k).toNat by omega]
  exact hR.2.2.2.2.1 k k0 k1) k0
theorem k_r2 (hR : RYs g0 A0 len g A σ) (hk : ROk σ) (k : Int) (k0 : 0 ≤ k) : kpA A 2 k.toNat = zi (kBu σ A k) := ovF_row (fun _ k1 => by
  have b5 := hk.2.2.2.2.1.2.1
  rw [kpA_2, if_pos (by omega), show 48 + k.toNat = (48 + k).toNat by omega]
  exact hR.2.2.2.2.2.1 k k0 k1) k0
theorem k_r3 (hR : RYs g0 A0 len g A σ) (hk : ROk σ) (k : Int) (k0 : 0 ≤ k) : kpA A 3 k.toNat = zi (kAs σ A k) := ovF_row (fun _ k1 => by
  have b6 := hk.2.2.2.2.1.2.2.1
  rw [kpA_3, if_pos (by omega), show 20 + k.toNat = (20 + k).toNat by omega]
  exact hR.2.2.2.2.2.2 k k0 k1) k0
theorem k_tr (hR : RYs g0 A0 len g A σ) (hk : ROk σ) : trOk (kTr σ A) := by
  intro t t0 t1
  have o1 := hk.1
  by_cases ct : t < σ.1
  · rw [kTr_e _ (by omega) (by omega), kTr_e _ (by omega) (by omega), kTr_e _ (by omega) (by omega), kTr_e _ (by omega) (by omega)]
    have hh := hk.2.2.2.1 t t0 ct
    exact ⟨hh.1, hh.2.1, by have := hh.2.2.2.2.1; omega, hh.2.2.2.2.2⟩
  · obtain ⟨x1, x2, x3, x4, z1, z2, z3, z4⟩ := hR.1.2.2 t.toNat (by omega)
    have ov : ∀ j : Nat, j < 8 → ∀ x : Int, 0 ≤ x → x ≤ 1000 → A 0 (32 + 8 * t.toNat + j) = zi x → kTr σ A (8 * t + (j : Int)) = x := fun j hj x hx0 hx1 hz => by
      unfold kTr ovF
      rw [if_neg (by omega), kpA_0, if_pos (by omega), show 32 + (8 * t + (j : Int)).toNat = 32 + 8 * t.toNat + j by omega, hz, zi_back (by omega) (by omega)]
    have v1 := ov 1 (by omega) x1 (by omega) (by omega) z1.1
    have v2 := ov 2 (by omega) x2 (by omega) (by omega) z2.1
    have v3 := ov 6 (by omega) x3 (by omega) (by omega) z3.1
    have v4 := ov 7 (by omega) x4 (by omega) (by omega) z4.1
    exact ⟨by rw [show (8 * t + 1 : Int) = 8 * t + ((1 : Nat) : Int) from rfl, v1]; exact z1.2, by rw [show (8 * t + 2 : Int) = 8 * t + ((2 : Nat) : Int) from rfl, v2]; exact z2.2, by rw [show (8 * t + 6 : Int) = 8 * t + ((6 : Nat) : Int) from rfl, v3]; exact z3.2, by rw [show (8 * t + 7 : Int) = 8 * t + ((7 : Nat) : Int) from rfl, v4]; exact z4.2⟩
theorem y_I {y k : Nat} : mI (YX M g A) y k = if y = 139 then g k else if 142 ≤ y ∧ y ≤ 146 then A (y - 142) k else mI M y k := rfl
theorem y_IA {o k : Nat} (ho : o < 5) : mI (YX M g A) (142 + o) k = A o k := by rw [y_I, if_neg (by omega), if_pos (by omega), Nat.add_sub_cancel_left]
theorem k_MOk (hS : MShape M) (hR : RYs g0 A0 len g A σ) (hk : ROk σ) {gg : Nat → Int32} (h21 : gg 21 = 0) (h11 : gg 11 = zi σ.1) : MOk (YX M gg (kpA A)) 0 σ.1 (kT σ A) (kTr σ A) (kSl σ A) (kBu σ A) (kAs σ A) :=
  ⟨hS, (y_I.trans (if_pos rfl)).trans h21, by omega, (y_I.trans (if_pos rfl)).trans h11, fun k k0 _ => (y_IA (o := 4) (by omega)).trans (k_r4 hR k k0), fun k k0 _ => (y_IA (o := 0) (by omega)).trans (k_r0 hR hk k k0), fun k k0 _ => (y_IA (o := 1) (by omega)).trans (k_r1 hR hk k k0), fun k k0 _ => (y_IA (o := 2) (by omega)).trans (k_r2 hR hk k k0), fun k k0 _ => (y_IA (o := 3) (by omega)).trans (k_r3 hR hk k k0)⟩
/-- what a right text leaves with the reference -/
theorem y_keep (hS : MShape M) (hR : RYs g0 A0 len g A σ) (hk : ROk σ) (hn : 3000 < n) : ∃ gg S ho ha sm, g_X10_keepText n (YX M (AHf u len g e w) A) 139 = some ((), WC (YX M gg (kpA A)) 0 (comZ σ.2.1 σ.2.2.2.1 σ.2.2.2.2.1 σ.2.2.2.2.2.1 (hdB σ.1 σ.2.2.1)) S ho ha sm) ∧ gg 11 = zi σ.1 ∧ gg 21 = 0 ∧ gg 22 = 0 ∧ gg 23 = 0 ∧ gg 1 = g 1 ∧ gg 4 = g 4 ∧ gg 5 = g 5 := by
  have gA : ∀ k, k ≠ 7 → k ≠ 8 → k ≠ 9 → k ≠ 10 → AHf u len g e w k = g k := fun k a b c d => by
    unfold AHf mkR
    rw [if_neg a, if_neg b, if_neg c, if_neg d]
  have g11 : kpg (AHf u len g e w) 11 = zi σ.1 := (gA 12 (by omega) (by omega) (by omega) (by omega)).trans hR.2.1.1
  have kt := y_keep0 (g := AHf u len g e w) (A := A) (n := n) hS hn
  have hMW := k_MOk hS hR hk (gg := kpg (AHf u len g e w)) rfl g11
  have hbk : BkI (YX M (kpg (AHf u len g e w)) (kpA A)) 0 (fun j => (mI (YX M (kpg (AHf u len g e w)) (kpA A)) 147 j.toNat).toInt) := fun j j0 j1 => by
    dsimp only
    rw [zi_int, show (2468 * 0 + j) = j by omega]
  obtain ⟨S2, ho2, ha2, sm2, eW⟩ := WC_self hbk
  have tl2 := m_tail (n := n) (B := fun j => (mI (YX M (kpg (AHf u len g e w)) (kpA A)) 147 j.toNat).toInt) (S := S2) (ho := ho2) (ha := ha2) (sm := sm2) hMW hk.1 (kRow hk) hn
  rw [eW, kCom hk] at tl2
  exact ⟨_, S2, ho2, ha2, sm2, kt.trans tl2, g11, rfl, rfl, rfl, gA 1 (by omega) (by omega) (by omega) (by omega), gA 4 (by omega) (by omega) (by omega) (by omega), gA 5 (by omega) (by omega) (by omega) (by omega)⟩
end M46
