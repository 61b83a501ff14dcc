/-! ===== PURE 18: the end of a year ===== -/
def yrZ (T tr B : Int → Int) (nt : Int) : Int → Int := yA T tr (yT T tr B (yearZ B) nt.toNat) (yearZ B) (B 1865).toNat
section MYEAR3
variable {M : MemT} {bk nt : Int} {T tr sl bu as B S : Int → Int} {ho ha : Int} {sm : Int32} {n : Nat}
theorem allA_keep {B B1 : Int → Int} (hkp : yKeep B B1) (hA8 : 0 ≤ B 1865) (hA : allA B) : allA B1 := by
  intro a a0 a1
  have h65 : B1 1865 = B 1865 := hkp.1 1865 (by omega)
  have hy1 : yearZ B1 = yearZ B := congrArg (· / 4) (hkp.1 0 (by omega))
  rw [h65] at a1
  have hh := hA a a0 a1
  have hat : ∀ j : Int, 0 ≤ j → j < 48 → AtZ B1 a j = AtZ B a j := fun j q0 q1 => hkp.1 _ (by omega)
  rw [hy1, hat 9 (by omega) (by omega), hat 5 (by omega) (by omega)]
  exact ⟨AO_eq hh.1 (hkp.1 0 (by omega)) hat, hh.2⟩
theorem m_closesYear (h : MOk M bk nt T tr sl bu as) (hT : told3 T) (htr : trOk tr) (hn : 300 < n) (hnt : 0 ≤ nt ∧ nt ≤ 4) (hB : BS B) (hN : BN B) (hK : 0 ≤ B 1867 ∧ B 1867 ≤ 40) (hA8 : 0 ≤ B 1865 ∧ B 1865 ≤ 8) (hA : allA B) : ∃ S1 ho1 ha1 sm1, g_X10_closesYear n (WC M bk B S ho ha sm) 139 = some ((), WC M bk (yrZ T tr B nt) S1 ho1 ha1 sm1) := by
  obtain ⟨t, ht, S1, ho1, ha1, sm1, rfl⟩ := m_year1 (n := n) (S := S) (ho := ho) (ha := ha) (sm := sm) h hT htr hn hnt hB hN hK
  obtain ⟨n1, n2⟩ := id hN
  have hy : 0 ≤ yearZ B ∧ yearZ B < 16 := by unfold yearZ; omega
  have hkp := yT_keep (T := T) (tr := tr) hy hK nt.toNat (by omega)
  have hN1 : BN (yT T tr B (yearZ B) nt.toNat) := by unfold BN; rw [hkp.1 0 (by omega)]; exact hN
  have h65 : yT T tr B (yearZ B) nt.toNat 1865 = B 1865 := hkp.1 1865 (by omega)
  have hy1 : yearZ (yT T tr B (yearZ B) nt.toNat) = yearZ B := congrArg (· / 4) (hkp.1 0 (by omega))
  obtain ⟨t2, ht2, S2, ho2, ha2, rfl⟩ := m_year2 (n := n) (S := S1) (ho := ho1) (ha := ha1) (sm := sm1) h hT htr hn (BS_keep hkp hB) hN1 hkp.2 (by rw [h65]; exact hA8) (allA_keep hkp hA8.1 hA)
  rw [hy1, h65] at ht2
  refine ⟨S2, ho2, ha2, sm1, ?_⟩
  unfold g_X10_closesYear
  rw [m_chk h, m_year h hN, i_bd, ht, i_sb]
  dsimp only
  dsimp only at ht2
  rw [ht2, i_sb]
  rfl
end MYEAR3
