/-! ===== PURE 110: the start: a clerk ===== -/
def K1 (M : MemT) (a : Nat) : MemT := sR (W7 (nwM M 6 0) (mN M)) a 0 (some (mN M))
def K2 (M : MemT) (a : Nat) : MemT := sR (npM M) a 1 (some (mN M))
def K3 (M : MemT) (a : Nat) : MemT := sR (apO (nwM M 5 0) (mN M) 0 13 5) a 2 (some (mN M))
def W3 (M : MemT) (a : Nat) : MemT := K3 (K2 (K1 M a) a) a
section M55
variable {M : MemT} {n a y : Nat}
theorem K1_N : mN (K1 M a) = mN M + 9 := rfl
theorem K2_N : mN (K2 M a) = mN M + 50 := np_N
theorem K3_N : mN (K3 M a) = mN M + 2 := rfl
theorem K1_S (hy : y < mN M) (h : y ≠ a) : SE M (K1 M a) y := SE_t (SE_t (nw_SE (by omega)) (W7_S (M := nwM M 6 0) (a := mN M) rfl hy)) (sR_SE h)
theorem K2_S (hy : y < mN M) (h : y ≠ a) : SE M (K2 M a) y := SE_t (np_S hy) (sR_SE h)
theorem K3_S (hy : y < mN M) (h : y ≠ a) : SE M (K3 M a) y := SE_t (SE_t (nw_SE (M := M) (κ := 5) (l := 0) (by omega)) (apO_SE (M := nwM M 5 0) (by rw [nw_N]; omega) (by omega))) (sR_SE h)
theorem K1_K (hy : y < mN M) : mK (K1 M a) y = mK M y := (W7_S (M := nwM M 6 0) (a := mN M) rfl hy).1.trans (nw_Kne (by omega))
theorem K2_K (hy : y < mN M) : mK (K2 M a) y = mK M y := (np_S hy).1
theorem K3_K (hy : y < mN M) : mK (K3 M a) y = mK M y := (apO_Kne (M := nwM M 5 0) (x := mN M) (k := 0) (κ := 13) (l := 5) (by rw [nw_N]; omega)).trans (nw_Kne (by omega))
theorem x_init3 (hk : mK M a = 2) (ha : a < mN M) : g_X3_init n M a = some ((), W3 M a) := by
  have e1 : ∀ {β : Type} (M : MemT) (c : Nat) (F : Nat → MemT → Option β), nwO M c F = F (mN M) (nwM M c 0) := fun _ _ _ => rfl
  have k1 : mK (W7 (nwM M 6 0) (mN M)) a = 2 := (K1_K (a := a) ha).trans hk
  have k2 : mK (K1 M a) a = 2 := k1
  have k3 : mK (npM (K1 M a)) a = 2 := (K2_K (a := a) (by rw [K1_N]; omega)).trans k2
  have k4 : mK (K2 (K1 M a) a) a = 2 := k3
  have k5 : mK (apO (nwM (K2 (K1 M a) a) 5 0) (mN (K2 (K1 M a) a)) 0 13 5) a = 2 := (K3_K (a := a) (by rw [K2_N, K1_N]; omega)).trans k4
  unfold g_X3_init
  rw [e1, x_init7 (nw_Kat rfl) rfl, i_bd, i_pO k1, i_sb, show sR (W7 (nwM M 6 0) (mN M)) a 0 (some (mN M)) = K1 M a from rfl, e1, np_init, i_bd, i_pO k3, i_sb, show sR (npM (K1 M a)) a 1 (some (mN (K1 M a))) = K2 (K1 M a) a from rfl, e1, x_init6 (nw_Kat rfl) (by rw [nw_N]; omega), i_bd, i_pO k5, i_sb]
  rfl
theorem W3_N : mN (W3 M a) = mN M + 61 := by
  unfold W3
  rw [K3_N, K2_N, K1_N]
theorem W3_S (hy : y < mN M) (h : y ≠ a) : SE M (W3 M a) y := SE_t (SE_t (K1_S hy h) (K2_S (by rw [K1_N]; omega) h)) (K3_S (by rw [K2_N, K1_N]; omega) h)
theorem W3_R {j : Nat} (hy : a < mN M) (h0 : j ≠ 0) (h1 : j ≠ 1) (h2 : j ≠ 2) : mR (W3 M a) a j = mR M a j := by
  have n1 : a < mN (K1 M a) := by rw [K1_N]; omega
  have n2 : a < mN (K2 (K1 M a) a) := by rw [K2_N, K1_N]; omega
  have r1 : mR (K1 M a) a j = mR M a j := (if_neg (fun q => h0 q.2)).trans (((W7_S (M := nwM M 6 0) (a := mN M) rfl hy).2.2 j).trans (nw_Rne (by omega)))
  have r2 : mR (K2 (K1 M a) a) a j = mR (K1 M a) a j := (if_neg (fun q => h1 q.2)).trans ((np_S n1).2.2 j)
  have r3 : mR (K3 (K2 (K1 M a) a) a) a j = mR (K2 (K1 M a) a) a j := (if_neg (fun q => h2 q.2)).trans ((apO_Rne (M := nwM (K2 (K1 M a) a) 5 0) (Or.inl (by omega)) (by rw [nw_N]; omega)).trans (nw_Rne (by omega)))
  exact r3.trans (r2.trans r1)
end M55
