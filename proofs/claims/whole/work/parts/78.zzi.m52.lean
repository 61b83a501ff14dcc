/-! ===== PURE 107: the start: rules ===== -/
def W7a (M : MemT) (a : Nat) : MemT := apO (apO (apO (apO (apO (apO M a 1 10 4) a 2 10 4) a 3 10 4) a 4 10 4) a 5 10 4) a 6 10 4
def W7b (M : MemT) (a : Nat) : MemT := sI (sI M a 7 0) a 8 100
def W7 (M : MemT) (a : Nat) : MemT := apO (apO (W7b (W7a M a) a) a 13 10 96) a 15 10 20
section M52
variable {M : MemT} {n a : Nat}
theorem sI_K {x k y : Nat} {v : Int32} : mK (sI M x k v) y = mK M y := rfl
theorem sI_Rr {x k y j : Nat} {v : Int32} : mR (sI M x k v) y j = mR M y j := rfl
theorem sI_N {x k : Nat} {v : Int32} : mN (sI M x k v) = mN M := rfl
theorem W7a_N : mN (W7a M a) = mN M + 6 := rfl
theorem W7a_K (hk : mK M a = 6) (hN : mN M = a + 1) : mK (W7a M a) a = 6 := by
  unfold W7a
  simp (disch := (first | (simp only [apO_N, hN]; done) | (simp only [apO_N, hN]; omega) | omega)) only [apO_Kne, hk]
theorem x_init7 (hk : mK M a = 6) (hN : mN M = a + 1) : g_X7_init n M a = some ((), W7 M a) := by
  have hka := W7a_K hk hN
  have hkb : mK (W7b (W7a M a) a) a = 6 := hka
  have hNb : mN (W7b (W7a M a) a) = a + 7 := by show mN (W7a M a) = a + 7; rw [W7a_N, hN]
  unfold g_X7_init
  rw [i_apO hk (by omega) (fun _ _ => rfl)]
  rw [i_apO (M := apO M a 1 10 4) (ci := 6) ((apO_Kne (by omega)).trans hk) (by simp only [apO_N]; omega) (fun _ _ => rfl)]
  rw [i_apO (M := apO (apO M a 1 10 4) a 2 10 4) (ci := 6) (by simp (disch := (first | (simp only [apO_N, hN]; done) | (simp only [apO_N, hN]; omega) | omega)) only [apO_Kne, hk]) (by simp only [apO_N]; omega) (fun _ _ => rfl)]
  rw [i_apO (M := apO (apO (apO M a 1 10 4) a 2 10 4) a 3 10 4) (ci := 6) (by simp (disch := (first | (simp only [apO_N, hN]; done) | (simp only [apO_N, hN]; omega) | omega)) only [apO_Kne, hk]) (by simp only [apO_N]; omega) (fun _ _ => rfl)]
  rw [i_apO (M := apO (apO (apO (apO M a 1 10 4) a 2 10 4) a 3 10 4) a 4 10 4) (ci := 6) (by simp (disch := (first | (simp only [apO_N, hN]; done) | (simp only [apO_N, hN]; omega) | omega)) only [apO_Kne, hk]) (by simp only [apO_N]; omega) (fun _ _ => rfl)]
  rw [i_apO (M := apO (apO (apO (apO (apO M a 1 10 4) a 2 10 4) a 3 10 4) a 4 10 4) a 5 10 4) (ci := 6) (by simp (disch := (first | (simp only [apO_N, hN]; done) | (simp only [apO_N, hN]; omega) | omega)) only [apO_Kne, hk]) (by simp only [apO_N]; omega) (fun _ _ => rfl)]
  rw [show apO (apO (apO (apO (apO (apO M a 1 10 4) a 2 10 4) a 3 10 4) a 4 10 4) a 5 10 4) a 6 10 4 = W7a M a from rfl, i_pI hka, i_sb, i_pI (M := sI (W7a M a) a 7 0) hka, i_sb, show sI (sI (W7a M a) a 7 0) a 8 100 = W7b (W7a M a) a from rfl]
  rw [i_apO (M := W7b (W7a M a) a) (ci := 6) hkb (by omega) (fun _ _ => rfl)]
  rw [i_apO (M := apO (W7b (W7a M a) a) a 13 10 96) (ci := 6) ((apO_Kne (by omega)).trans hkb) (by simp only [apO_N]; omega) (fun _ _ => rfl)]
  rfl
theorem W7_N : mN (W7 M a) = mN M + 8 := rfl
theorem W7a_S {y : Nat} (hN : mN M = a + 1) (hy : y < a) : SE M (W7a M a) y := by
  have s1 : SE M (apO M a 1 10 4) y := apO_SE (by omega) (by omega)
  have s2 : SE (apO M a 1 10 4) (apO (apO M a 1 10 4) a 2 10 4) y := apO_SE (by simp only [apO_N, hN]; omega) (by omega)
  have s3 : SE (apO (apO M a 1 10 4) a 2 10 4) (apO (apO (apO M a 1 10 4) a 2 10 4) a 3 10 4) y := apO_SE (by simp only [apO_N, hN]; omega) (by omega)
  have s4 : SE (apO (apO (apO M a 1 10 4) a 2 10 4) a 3 10 4) (apO (apO (apO (apO M a 1 10 4) a 2 10 4) a 3 10 4) a 4 10 4) y := apO_SE (by simp only [apO_N, hN]; omega) (by omega)
  have s5 : SE (apO (apO (apO (apO M a 1 10 4) a 2 10 4) a 3 10 4) a 4 10 4) (apO (apO (apO (apO (apO M a 1 10 4) a 2 10 4) a 3 10 4) a 4 10 4) a 5 10 4) y := apO_SE (by simp only [apO_N, hN]; omega) (by omega)
  have s6 : SE (apO (apO (apO (apO (apO M a 1 10 4) a 2 10 4) a 3 10 4) a 4 10 4) a 5 10 4) (apO (apO (apO (apO (apO (apO M a 1 10 4) a 2 10 4) a 3 10 4) a 4 10 4) a 5 10 4) a 6 10 4) y := apO_SE (by simp only [apO_N, hN]; omega) (by omega)
  unfold W7a
  exact SE_t (SE_t (SE_t (SE_t (SE_t s1 s2) s3) s4) s5) s6
theorem W7b_S {y : Nat} : SE M (W7b M a) y := ⟨rfl, rfl, fun _ => rfl⟩
theorem W7b_N : mN (W7b M a) = mN M := rfl
theorem W7_S {y : Nat} (hN : mN M = a + 1) (hy : y < a) : SE M (W7 M a) y := by
  have h1 := SE_t (W7a_S hN hy) (W7b_S (M := W7a M a) (a := a) (y := y))
  have hNb : mN (W7b (W7a M a) a) = a + 7 := by rw [W7b_N, W7a_N, hN]
  unfold W7
  generalize W7b (W7a M a) a = M1 at *
  have s1 : SE M1 (apO M1 a 13 10 96) y := apO_SE (by omega) (by omega)
  have s2 : SE (apO M1 a 13 10 96) (apO (apO M1 a 13 10 96) a 15 10 20) y := apO_SE (by simp only [apO_N, hNb]; omega) (by omega)
  exact SE_t (SE_t h1 s1) s2
end M52
