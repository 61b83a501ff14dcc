/-! ===== PURE 108: the law from its start ===== -/
section M53
variable {M M4 M8 : MemT} {n L a : Nat} {sc : Nat → Int32}
theorem law_of (hn : 100000010 < n) (hL : L ≤ 3072) (hx : g_X9_init n (nwM Mz 7 0) 0 = some ((), M4)) (h4 : mN M4 = 139) (hm : g_X10_init n (nwM M4 8 0) 139 = some ((), M8)) (h8 : mN M8 = 149) (hT : TopE (nwM M8 13 1) 2000000) : ∃ M1, g_L_law n L sc Mz = some (1, M1) := by
  obtain ⟨M1, h⟩ := law_loop (n := n) (L := L) (sc := sc) hn hL 512 0 2000000 _ 513 (by omega) (by omega) (by omega) hT (by omega) (by omega)
  refine ⟨M1, ?_⟩
  have e1 : ∀ {β : Type} (F : Nat → MemT → Option β), nwO Mz 7 F = F 0 (nwM Mz 7 0) := fun F => rfl
  have e2 : ∀ {β : Type} (F : Nat → MemT → Option β), nwO M4 8 F = F 139 (nwM M4 8 0) := fun F => by rw [← h4]; rfl
  have e3 : ∀ {β : Type} (F : Nat → MemT → Option β), nwA M8 13 1 F = F 149 (nwM M8 13 1) := fun F => by rw [← h8]; rfl
  unfold g_L_law
  rw [e1, hx, i_bd, e2, hm, i_bd, e3]
  exact h
end M53
