/-! ===== PURE 112: the start: what is new holds zeros ===== -/
section M57
variable {M : MemT} {a y j : Nat}
theorem nw_Iz {κ l : Nat} (h : y = mN M) : mI (nwM M κ l) y j = 0 := by
  show (upr M.2.2.2.2.1 M.2.2.1 (fun _ => 0)) y j = 0
  unfold upr
  exact if_pos h
theorem apO_Iz {x k κ l : Nat} (h : y = mN M) : mI (apO M x k κ l) y j = 0 := nw_Iz (κ := κ) (l := l) h
end M57
