/-! ===== PURE 109: the start: shapes ===== -/
section M54
variable {M : MemT} {n a : Nat}
theorem sI_L {x k y : Nat} {v : Int32} : mL (sI M x k v) y = mL M y := rfl
theorem RSh_W7 (hk : mK M a = 6) (hN : mN M = a + 1) : RSh (W7 M a) a := by
  unfold RSh W7 W7b W7a
  simp (disch := (first | (simp only [apO_N, sI_N, hN]; done) | (simp only [apO_N, sI_N, hN]; omega) | omega)) only [apO_Kne, apO_Kat, apO_Lat, apO_Lne, apO_Rne, apO_Rat, apO_N, sI_K, sI_Rr, sI_L, sI_N, hk, hN, and_self, true_and]
  done
theorem x_init6 (hk : mK M a = 5) (hN : a < mN M) : g_X6_init n M a = some ((), apO M a 0 13 5) := by
  unfold g_X6_init
  rw [i_apO hk hN (fun _ _ => rfl)]
theorem x_init4 (hk : mK M a = 3) (hN : a < mN M) : g_X4_init n M a = some ((), apO M a 2 15 20) := by
  unfold g_X4_init
  rw [i_apO hk hN (fun _ _ => rfl)]
theorem x_init5 (hk : mK M a = 4) (hN : a < mN M) : g_X5_init n M a = some ((), apO (sI M a 1 (-1)) a 12 12 4) := by
  unfold g_X5_init
  rw [i_pI hk, i_sb, i_apO (M := sI M a 1 (-1)) (ci := 4) hk hN (fun _ _ => rfl)]
end M54
