/-! ===== PURE 63: a new Books: its init ===== -/
section M8
variable {M : MemT} {n b : Nat}
theorem bA_f (hk : mK M b = 1) (hN : mN M = b + 1) : mK (bA M b) b = 1 ∧ mR (bA M b) b 5 = some (b + 3) ∧ mK (bA M b) (b + 3) = 14 ∧ mL (bA M b) (b + 3) = 8 := by
  unfold bA
  simp (disch := (first | (simp only [apO_N, hN]; done) | (simp only [apO_N, hN]; omega) | omega)) only [apO_Kne, apO_Kat, apO_Lat, apO_Lne, apO_Rne, apO_Rat, apO_N, hk, hN, and_self, true_and]
theorem x_init2 (hk : mK M b = 1) (hN : mN M = b + 1) : g_X2_init n M b = some ((), isM (bA M b) b 8) := by
  obtain ⟨f1, f2, f3, f4⟩ := bA_f hk hN
  have hN9 : mN (bA M b) = b + 10 := by rw [bA_N]; omega
  have key := loop_k (step := fun (s : MemT × Int32) => (fun (M28 : MemT) (v29 : Int32) => (if 8 ≤ v29 then some (.inr (((), M28))) else (gO M28 1 b 5).bind (fun j31 => nwO M28 0 (fun j32 M33 => bd (g_X1_init n M33 j32) (fun r34 M35 => (wO M35 14 0 j31 v29 j32).bind (fun M36 => some (.inl (M36, v29 + 1)))))))) s.1 s.2) (fun i : Nat => (isM (bA M b) b i, zi (i : Int))) ((), isM (bA M b) b 8) 8 (fun i hi => ?_) ?_ 9 (by omega)
  · unfold g_X2_init
    rw [i_apO hk (by omega) (fun _ _ => rfl)]
    rw [i_apO (M := apO M b 3 10 4) (ci := 1) ((apO_Kne (by omega)).trans hk) (by simp only [apO_N]; omega) (fun _ _ => rfl)]
    rw [i_apO (M := apO (apO M b 3 10 4) b 4 10 4) (ci := 1) (by simp (disch := (first | (simp only [apO_N, hN]; done) | (simp only [apO_N, hN]; omega) | omega)) only [apO_Kne, hk]) (by simp only [apO_N]; omega) (fun _ _ => rfl)]
    rw [i_apO (M := apO (apO (apO M b 3 10 4) b 4 10 4) b 5 14 8) (ci := 1) (by simp (disch := (first | (simp only [apO_N, hN]; done) | (simp only [apO_N, hN]; omega) | omega)) only [apO_Kne, hk]) (by simp only [apO_N]; omega) (fun _ _ => rfl)]
    rw [i_apO (M := apO (apO (apO (apO M b 3 10 4) b 4 10 4) b 5 14 8) b 6 10 1280) (ci := 1) (by simp (disch := (first | (simp only [apO_N, hN]; done) | (simp only [apO_N, hN]; omega) | omega)) only [apO_Kne, hk]) (by simp only [apO_N]; omega) (fun _ _ => rfl)]
    rw [i_apO (M := apO (apO (apO (apO (apO M b 3 10 4) b 4 10 4) b 5 14 8) b 6 10 1280) b 7 10 256) (ci := 1) (by simp (disch := (first | (simp only [apO_N, hN]; done) | (simp only [apO_N, hN]; omega) | omega)) only [apO_Kne, hk]) (by simp only [apO_N]; omega) (fun _ _ => rfl)]
    rw [i_apO (M := apO (apO (apO (apO (apO (apO M b 3 10 4) b 4 10 4) b 5 14 8) b 6 10 1280) b 7 10 256) b 8 10 64) (ci := 1) (by simp (disch := (first | (simp only [apO_N, hN]; done) | (simp only [apO_N, hN]; omega) | omega)) only [apO_Kne, hk]) (by simp only [apO_N]; omega) (fun _ _ => rfl)]
    rw [i_apO (M := apO (apO (apO (apO (apO (apO (apO M b 3 10 4) b 4 10 4) b 5 14 8) b 6 10 1280) b 7 10 256) b 8 10 64) b 9 10 256) (ci := 1) (by simp (disch := (first | (simp only [apO_N, hN]; done) | (simp only [apO_N, hN]; omega) | omega)) only [apO_Kne, hk]) (by simp only [apO_N]; omega) (fun _ _ => rfl)]
    rw [i_apO (M := apO (apO (apO (apO (apO (apO (apO (apO M b 3 10 4) b 4 10 4) b 5 14 8) b 6 10 1280) b 7 10 256) b 8 10 64) b 9 10 256) b 10 10 16) (ci := 1) (by simp (disch := (first | (simp only [apO_N, hN]; done) | (simp only [apO_N, hN]; omega) | omega)) only [apO_Kne, hk]) (by simp only [apO_N]; omega) (fun _ _ => rfl)]
    exact key
  · dsimp only
    rw [if_neg (by show ¬ (zi 8 ≤ zi (i : Int)); rw [zi_le (by omega) (by omega) (by omega) (by omega)]; omega)]
    exact x_isM f1 f2 f3 f4 hN9 hi
  · dsimp only
    rw [if_pos (by show zi 8 ≤ zi ((8 : Nat) : Int); exact Int32.le_refl _)]
end M8
