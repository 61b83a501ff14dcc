/-! ===== PURE 111: the start: a clerk's shape ===== -/
section M56
variable {M : MemT} {n a y : Nat}
theorem W3_C (hk : mK M a = 2) (hN : mN M = a + 1) : CSh (W3 M a) a (a + 1) := by
  have n1 : mN (K1 M a) = a + 10 := by rw [K1_N, hN]
  have n2 : mN (K2 (K1 M a) a) = a + 60 := by rw [K2_N, n1]
  have s12 : ∀ y, y < a + 10 → y ≠ a → SE (K1 M a) (W3 M a) y := fun y h1 h2 => SE_t (K2_S (by omega) h2) (K3_S (by omega) h2)
  have hB0 : BSh (K2 (K1 M a) a) (a + 10) := by
    have h := np_B (M := K1 M a)
    rw [n1] at h
    exact BSh_f h (fun y h1 h2 => sR_SE (by omega))
  have hB : BSh (W3 M a) (a + 10) := BSh_f hB0 (fun y h1 h2 => K3_S (by omega) (by omega))
  have hR0 : RSh (W7 (nwM M 6 0) (mN M)) (a + 1) := by
    have h := RSh_W7 (M := nwM M 6 0) (a := mN M) (nw_Kat rfl) rfl
    rw [hN] at h ⊢
    exact h
  have hR1 : RSh (K1 M a) (a + 1) := RSh_f hR0 (fun y h1 h2 => sR_SE (by omega))
  have hR : RSh (W3 M a) (a + 1) := RSh_f hR1 (fun y h1 h2 => s12 y (by omega) (by omega))
  have kk : mK (W3 M a) a = 2 := (K3_K (M := K2 (K1 M a) a) (a := a) (by omega)).trans ((K2_K (M := K1 M a) (a := a) (by omega)).trans ((K1_K (M := M) (a := a) (by omega)).trans hk))
  have p3 : ∀ j, j ≠ 2 → mR (W3 M a) a j = mR (K2 (K1 M a) a) a j := fun j hj => (if_neg (fun q => hj q.2)).trans ((apO_Rne (M := nwM (K2 (K1 M a) a) 5 0) (x := mN (K2 (K1 M a) a)) (k := 0) (κ := 13) (l := 5) (Or.inl (by omega)) (by rw [nw_N]; omega)).trans (nw_Rne (by omega)))
  have p2 : ∀ j, j ≠ 1 → mR (K2 (K1 M a) a) a j = mR (K1 M a) a j := fun j hj => (if_neg (fun q => hj q.2)).trans ((np_S (M := K1 M a) (by omega)).2.2 j)
  have q0 : mR (K1 M a) a 0 = some (mN M) := if_pos ⟨rfl, rfl⟩
  have q1 : mR (K2 (K1 M a) a) a 1 = some (mN (K1 M a)) := if_pos ⟨rfl, rfl⟩
  have q2 : mR (W3 M a) a 2 = some (mN (K2 (K1 M a) a)) := if_pos ⟨rfl, rfl⟩
  refine ⟨⟨kk, ?_, ?_, ?_⟩, ⟨?_, ?_, ?_, ?_⟩, hB, hR, Or.inl (by omega)⟩
  · rw [p3 0 (by omega), p2 0 (by omega), q0, hN]
  · rw [p3 1 (by omega), q1, n1]
  · rw [q2, n2]
  · show mK (apO (nwM (K2 (K1 M a) a) 5 0) (mN (K2 (K1 M a) a)) 0 13 5) (a + 60) = 5
    rw [apO_Kne (by rw [nw_N]; omega), nw_Kat (by omega)]
  · have h : mR (apO (nwM (K2 (K1 M a) a) 5 0) (mN (K2 (K1 M a) a)) 0 13 5) (mN (K2 (K1 M a) a)) 0 = some (mN (nwM (K2 (K1 M a) a) 5 0)) := apO_Rat
    have h' : mR (W3 M a) (mN (K2 (K1 M a) a)) 0 = some (mN (nwM (K2 (K1 M a) a) 5 0)) := (if_neg (fun q => by omega)).trans h
    rw [nw_N, n2] at h'
    exact h'
  · show mK (apO (nwM (K2 (K1 M a) a) 5 0) (mN (K2 (K1 M a) a)) 0 13 5) (a + 61) = 13
    exact apO_Kat (by rw [nw_N]; omega)
  · show mL (apO (nwM (K2 (K1 M a) a) 5 0) (mN (K2 (K1 M a) a)) 0 13 5) (a + 61) = 5
    exact apO_Lat (by rw [nw_N]; omega)
end M56
