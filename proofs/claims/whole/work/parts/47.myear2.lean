/-! ===== PURE 17: the end of a year: each asset ===== -/
def yA (T tr B : Int → Int) (y : Int) : Nat → Int → Int
  | 0 => B
  | k + 1 => clsZ T tr (yA T tr B y k) k y
/-- ranges of the assets at the end of a year -/
def allA (B : Int → Int) : Prop := ∀ a : Int, 0 ≤ a → a < B 1865 → AO B a ∧ (AtZ B a 9 ≠ 1 → 0 ≤ yearZ B - AtZ B a 5 / 4 ∧ yearZ B - AtZ B a 5 / 4 ≤ 9)
def yJ (B B1 : Int → Int) (k : Nat) : Prop := (∀ i : Int, i < 1866 → B1 i = B i) ∧ (0 ≤ B1 1867 ∧ B1 1867 ≤ 40) ∧ (∀ a : Int, 0 ≤ a → a < B 1865 → AO B1 a) ∧ (∀ a : Int, k ≤ a → a < B 1865 → ∀ j : Int, 0 ≤ j → j < 48 → AtZ B1 a j = AtZ B a j)
theorem yJ_BS {B B1 : Int → Int} {k : Nat} (h : yJ B B1 k) (hB : BS B) : BS B1 :=
  ⟨fun i k1 k2 => by rw [h.1 i (by omega)]; exact hB.1 i k1 k2, fun t t1 t2 => by rw [h.1 _ (by omega), h.1 _ (by omega)]; exact hB.2 t t1 t2⟩
theorem yA_J {T tr B : Int → Int} (hT : told3 T) (hB : BS B) (hN : BN B) (hK : 0 ≤ B 1867 ∧ B 1867 ≤ 40) (hA8 : B 1865 ≤ 8) (hA : allA B) : ∀ k : Nat, (k : Int) ≤ B 1865 → yJ B (yA T tr B (yearZ B) k) k := by
  intro k
  induction k with
  | zero => intro _; exact ⟨fun _ _ => rfl, hK, fun a a0 a1 => (hA a a0 a1).1, fun _ _ _ _ _ _ => rfl⟩
  | succ k ih =>
    intro hk
    have hJ := ih (by omega)
    obtain ⟨j1, j2, j3, j4⟩ := id hJ
    have hBk := yJ_BS hJ hB
    have hyr : yearZ (yA T tr B (yearZ B) k) = yearZ B := congrArg (· / 4) (j1 0 (by omega))
    have hNk : BN (yA T tr B (yearZ B) k) := by unfold BN; rw [j1 0 (by omega)]; exact hN
    have hAk := j3 k (by omega) (by omega)
    have hik := (hA k (by omega) (by omega)).2
    rw [← j4 k (by omega) (by omega) 9 (by omega) (by omega), ← j4 k (by omega) (by omega) 5 (by omega) (by omega)] at hik
    obtain ⟨⟨k1, k2⟩, k3⟩ := clsZ_keep (T := T) (tr := tr) (B := yA T tr B (yearZ B) k) (a := (k : Int)) (y := yearZ B) (by omega) hT hAk j2 (worthZ_rng hT hBk hNk hAk) hik
    refine ⟨fun i hi => (k1 i (by omega)).trans (j1 i hi), k2, fun a a0 a1 => ?_, fun a a0 a1 j q0 q1 => ?_⟩
    · by_cases ha : a = k
      · subst ha; exact k3
      · exact AO_eq (j3 a a0 a1) (k1 0 (by omega)) (fun j q0 q1 => k1 _ (by omega))
    · exact (k1 _ (by omega)).trans (j4 a (by omega) a1 j q0 q1)
section MYEAR2
variable {M : MemT} {bk nt : Int} {T tr sl bu as B S : Int → Int} {ho ha : Int} {sm : Int32} {n : Nat}
theorem m_year2 (h : MOk M bk nt T tr sl bu as) (hT : told3 T) (htr : trOk tr) (hn : 300 < n) (hB : BS B) (hN : BN B) (hK : 0 ≤ B 1867 ∧ B 1867 ≤ 40) (hA8 : 0 ≤ B 1865 ∧ B 1865 ≤ 8) (hA : allA B) : ∃ t, loopF (fun (s : MemT × Int32) => (fun (M23 : MemT) (v24 : Int32) => chk M23 8 139 (bd (g_X10_of n M23 139 1865) (fun r26 M27 => (if r26 ≤ v24 then some (.inr (M27, v24)) else chk M27 8 139 (bd (g_X10_closesAsset n M27 139 v24 (zi (yearZ B))) (fun r28 M29 => some (.inl (M29, v24 + 1)))))))) s.1 s.2) n (WC M bk B S ho ha sm, 0) = some t ∧ ∃ S1 ho1 ha1, t = (WC M bk (yA T tr B (yearZ B) (B 1865).toNat) S1 ho1 ha1 sm, zi (B 1865)) := by
  refine loop_inv (fun k s => ∃ S1 ho1 ha1, s = (WC M bk (yA T tr B (yearZ B) k) S1 ho1 ha1 sm, zi k)) (fun t => ∃ S1 ho1 ha1, t = (WC M bk (yA T tr B (yearZ B) (B 1865).toNat) S1 ho1 ha1 sm, zi (B 1865))) (B 1865).toNat (fun k hk s hs => ?_) (fun s hs => ?_) n (by omega) _ ⟨S, ho, ha, rfl⟩
  · obtain ⟨S1, ho1, ha1, rfl⟩ := hs
    have hJ := yA_J (T := T) (tr := tr) hT hB hN hK hA8.2 hA k (by omega)
    obtain ⟨j1, j2, j3, j4⟩ := id hJ
    have hBk := yJ_BS hJ hB
    have hyr : yearZ (yA T tr B (yearZ B) k) = yearZ B := congrArg (· / 4) (j1 0 (by omega))
    have hNk : BN (yA T tr B (yearZ B) k) := by unfold BN; rw [j1 0 (by omega)]; exact hN
    have hAk := j3 k (by omega) (by omega)
    have hik := (hA k (by omega) (by omega)).2
    rw [← j4 k (by omega) (by omega) 9 (by omega) (by omega), ← j4 k (by omega) (by omega) 5 (by omega) (by omega)] at hik
    obtain ⟨S2, ho2, ha2, hc⟩ := m_closesAsset (n := n) (S := S1) (ho := ho1) (ha := ha1) (sm := sm) (B := yA T tr B (yearZ B) k) (a := (k : Int)) h hT htr hn hBk hNk (by omega) (by omega) hAk j2 (fun q => by rw [hyr]; exact hik q)
    rw [hyr] at hc
    have rA : g_X10_of n (WC M bk (yA T tr B (yearZ B) k) S1 ho1 ha1 sm) 139 1865 = some (zi (B 1865), WC M bk (yA T tr B (yearZ B) k) S1 ho1 ha1 sm) := by
      rw [← j1 1865 (by omega)]; exact m_of h (k := 1865) (by omega) (by omega)
    dsimp only
    rw [m_chk h, rA, i_bd, if_neg (by rw [zi_le (by omega) (by omega) (by omega) (by omega)]; omega), m_chk h, hc, i_bd]
    exact ⟨_, rfl, S2, ho2, ha2, congrArg (Prod.mk _) (zi_add (k : Int) 1)⟩
  · obtain ⟨S1, ho1, ha1, rfl⟩ := hs
    obtain ⟨j1, -⟩ := yA_J (T := T) (tr := tr) hT hB hN hK hA8.2 hA (B 1865).toNat (by omega)
    have rA : g_X10_of n (WC M bk (yA T tr B (yearZ B) (B 1865).toNat) S1 ho1 ha1 sm) 139 1865 = some (zi (B 1865), WC M bk (yA T tr B (yearZ B) (B 1865).toNat) S1 ho1 ha1 sm) := by
      have := m_of (n := n) (M := M) (B := yA T tr B (yearZ B) (B 1865).toNat) (S := S1) (ho := ho1) (ha := ha1) (sm := sm) h (k := 1865) (by omega) (by omega)
      rw [j1 1865 (by omega)] at this
      exact this
    refine ⟨_, ?_, S1, ho1, ha1, rfl⟩
    dsimp only
    rw [m_chk h, rA, i_bd, Int.toNat_of_nonneg hA8.1, if_pos (Int32.le_refl _)]
end MYEAR2
