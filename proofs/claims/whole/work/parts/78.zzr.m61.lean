/-! ===== PURE 116: the start: the reference's arrays ===== -/
def mdA (W : MemT) : MemT := apO (apO (apO (apO (apO (apO (apO W 139 13 10 64) 139 14 10 96) 139 15 10 96) 139 16 10 40) 139 17 10 14) 139 20 10 56764) 139 24 13 5
section M61
variable {W : MemT} {n y : Nat} {F : Nat → Nat → Int32}
theorem mdA_N : mN (mdA W) = mN W + 7 := rfl
theorem IZ_mdA (h : IZe W F) : IZe (mdA W) F := IZ_ap (IZ_ap (IZ_ap (IZ_ap (IZ_ap (IZ_ap (IZ_ap h))))))
theorem mdA_lo (hN : mN W = 142) (h1 : y < 142) (h2 : y ≠ 139) : SE W (mdA W) y := by
  unfold mdA
  refine SE_t (SE_t (SE_t (SE_t (SE_t (SE_t (apO_SE ?_ h2) (apO_SE ?_ h2)) (apO_SE ?_ h2)) (apO_SE ?_ h2)) (apO_SE ?_ h2)) (apO_SE ?_ h2)) (apO_SE ?_ h2) <;> (try simp only [apO_N]) <;> omega
theorem mdA_S (hN : mN W = 142) (hk : mK W 139 = 8) (h0 : mR W 139 0 = some 140) (h3 : mR W 139 3 = some 141) (k0 : mK W 140 = 10) (k1 : mK W 141 = 10) (l0 : mL W 140 = 700) : MShape (mdA W) := by
  unfold MShape mdA
  simp (disch := (first | (simp only [apO_N, hN]; done) | (simp only [apO_N, hN]; omega) | omega)) only [apO_Kne, apO_Kat, apO_Lat, apO_Lne, apO_Rne, apO_Rat, apO_N, hN, hk, h0, h3, k0, k1, l0, and_self, true_and]
  done
theorem x_mdA {β : Type} {f : MemT → Option β} (hN : mN W = 142) (hk : mK W 139 = 8) : nwA W 10 64 (fun j76 M77 => (pO M77 8 139 13 j76).bind (fun M78 => nwA M78 10 96 (fun j79 M80 => (pO M80 8 139 14 j79).bind (fun M81 => nwA M81 10 96 (fun j82 M83 => (pO M83 8 139 15 j82).bind (fun M84 => nwA M84 10 40 (fun j85 M86 => (pO M86 8 139 16 j85).bind (fun M87 => nwA M87 10 14 (fun j88 M89 => (pO M89 8 139 17 j88).bind (fun M90 => nwA M90 10 56764 (fun j91 M92 => (pO M92 8 139 20 j91).bind (fun M93 => nwA M93 13 5 (fun j94 M95 => (pO M95 8 139 24 j94).bind f))))))))))))) = f (mdA W) := by
  rw [i_apO (ci := 8) hk (by omega) (fun _ _ => rfl)]
  rw [i_apO (M := apO W 139 13 10 64) (ci := 8) (by simp (disch := (first | (simp only [apO_N, hN]; done) | (simp only [apO_N, hN]; omega) | omega)) only [apO_Kne, hk]) (by simp only [apO_N]; omega) (fun _ _ => rfl)]
  rw [i_apO (M := apO (apO W 139 13 10 64) 139 14 10 96) (ci := 8) (by simp (disch := (first | (simp only [apO_N, hN]; done) | (simp only [apO_N, hN]; omega) | omega)) only [apO_Kne, hk]) (by simp only [apO_N]; omega) (fun _ _ => rfl)]
  rw [i_apO (M := apO (apO (apO W 139 13 10 64) 139 14 10 96) 139 15 10 96) (ci := 8) (by simp (disch := (first | (simp only [apO_N, hN]; done) | (simp only [apO_N, hN]; omega) | omega)) only [apO_Kne, hk]) (by simp only [apO_N]; omega) (fun _ _ => rfl)]
  rw [i_apO (M := apO (apO (apO (apO W 139 13 10 64) 139 14 10 96) 139 15 10 96) 139 16 10 40) (ci := 8) (by simp (disch := (first | (simp only [apO_N, hN]; done) | (simp only [apO_N, hN]; omega) | omega)) only [apO_Kne, hk]) (by simp only [apO_N]; omega) (fun _ _ => rfl)]
  rw [i_apO (M := apO (apO (apO (apO (apO W 139 13 10 64) 139 14 10 96) 139 15 10 96) 139 16 10 40) 139 17 10 14) (ci := 8) (by simp (disch := (first | (simp only [apO_N, hN]; done) | (simp only [apO_N, hN]; omega) | omega)) only [apO_Kne, hk]) (by simp only [apO_N]; omega) (fun _ _ => rfl)]
  rw [i_apO (M := apO (apO (apO (apO (apO (apO W 139 13 10 64) 139 14 10 96) 139 15 10 96) 139 16 10 40) 139 17 10 14) 139 20 10 56764) (ci := 8) (by simp (disch := (first | (simp only [apO_N, hN]; done) | (simp only [apO_N, hN]; omega) | omega)) only [apO_Kne, hk]) (by simp only [apO_N]; omega) (fun _ _ => rfl)]
  rfl
end M61
/-! ===== PURE 117: the start: what the reference keeps of no text ===== -/
section M62
variable {M : MemT} {g g0 : Nat → Int32} {A A0 : Nat → Nat → Int32} {n len : Nat} {σ : PSt}
theorem y_keepS (hS : MShape M) (hR : RYs g0 A0 len g A σ) (hk : ROk σ) (hn : 3000 < n) : ∃ S ho ha sm, g_X10_keepText n (YX M g A) 139 = some ((), WC (YX M (kpg g) (kpA A)) 0 (comZ σ.2.1 σ.2.2.2.1 σ.2.2.2.2.1 σ.2.2.2.2.2.1 (hdB σ.1 σ.2.2.1)) S ho ha sm) := by
  have g11 : kpg g 11 = zi σ.1 := hR.2.1.1
  have kt := y_keep0 (g := g) (A := A) (n := n) hS hn
  have hMW := k_MOk hS hR hk (gg := kpg g) rfl g11
  have hbk : BkI (YX M (kpg g) (kpA A)) 0 (fun j => (mI (YX M (kpg g) (kpA A)) 147 j.toNat).toInt) := fun j j0 j1 => by
    dsimp only
    rw [zi_int, show (2468 * 0 + j) = j by omega]
  obtain ⟨S2, ho2, ha2, sm2, eW⟩ := WC_self hbk
  have tl2 := m_tail (n := n) (B := fun j => (mI (YX M (kpg g) (kpA A)) 147 j.toNat).toInt) (S := S2) (ho := ho2) (ha := ha2) (sm := sm2) hMW hk.1 (kRow hk) hn
  rw [eW, kCom hk] at tl2
  exact ⟨S2, ho2, ha2, sm2, kt.trans tl2⟩
/-- the start's rows are those of the plain text -/
theorem RYs_s (h6 : g 6 = 0) (h4 : g 4 = 0) (h5 : g 5 = -1) (hA : ∀ o k, o < 5 → A o k = 0) : RYs (up1 (up1 g 12 0) 18 0) (up2 (plA A 7) 4 8 100) 0 (up1 (up1 g 12 0) 18 0) (up2 (plA A 7) 4 8 100) st0 := by
  have e7 : ∀ o k, o < 5 → plA A 7 o k = 0 := fun o k ho => by
    unfold plA
    by_cases c : o = 4 ∧ 7 ≤ k ∧ k < 7 + 7
    · rw [if_pos c]
    · rw [if_neg c, hA o k ho]
  refine ⟨⟨fun k _ => rfl, ⟨fun _ _ => rfl, fun _ _ => rfl, fun _ _ => rfl, fun _ _ => rfl, fun _ _ => rfl⟩, fun t ht => ⟨0, 0, 0, 0, ⟨(up2_ne (by omega)).trans (e7 0 _ (by omega)), by omega, by omega⟩, ⟨(up2_ne (by omega)).trans (e7 0 _ (by omega)), by omega, by omega⟩, ⟨(up2_ne (by omega)).trans (e7 0 _ (by omega)), by omega, by omega⟩, ⟨(up2_ne (by omega)).trans (e7 0 _ (by omega)), by omega, by omega⟩⟩⟩, ⟨rfl, (show (0 : Int32) = wBs (fun _ => false) by decide), h6, h4, h5⟩, fun j j0 j1 => ?_, fun t j t0 t1 => absurd (show t < 0 from t1) (by omega), fun k k0 k1 => absurd (show k < 0 from k1) (by omega), fun k k0 k1 => absurd (show k < 0 from k1) (by omega), fun k k0 k1 => absurd (show k < 0 from k1) (by omega)⟩
  show up2 (plA A 7) 4 8 100 4 (7 + j).toNat = zi (if j = 1 then 100 else 0)
  by_cases c : j = 1
  · rw [if_pos c, c]
    rfl
  · rw [if_neg c, up2_ne (by omega)]
    exact e7 4 _ (by omega)
end M62
