/-! ===== PURE 60: frames of X's writer; a new Books ===== -/
section M5
variable {M : MemT} {c : Nat} {R : Nat → Nat → Int32} {F : Nat → Int32} {S : Int → Int} {n : Nat}
theorem WR_self {b : Nat} : WR M b (fun o k => mI M (b + o) k) = M := by
  unfold WR
  refine Prod.ext rfl (Prod.ext rfl (Prod.ext rfl (Prod.ext rfl (Prod.ext ?_ rfl))))
  funext x k
  show (if b ≤ x ∧ x < b + 50 then mI M (b + (x - b)) k else mI M x k) = mI M x k
  by_cases h : b ≤ x ∧ x < b + 50
  · rw [if_pos h, show b + (x - b) = x by omega]
  · rw [if_neg h]
theorem WX_I {x k : Nat} : mI (WX M c R F S) x k = if c + 10 ≤ x ∧ x < c + 10 + 50 then R (x - (c + 10)) k else if x = c + 60 then F k else mI M x k := rfl
theorem WR_WX {b : Nat} {Q : Nat → Nat → Int32} (h : c + 62 ≤ b) : WR (WX M c R F S) b Q = WX (WR M b Q) c R F S := by
  unfold WX
  unfold WR WF
  refine Prod.ext rfl (Prod.ext rfl (Prod.ext rfl (Prod.ext rfl (Prod.ext ?_ rfl))))
  funext x k
  show (if b ≤ x ∧ x < b + 50 then Q (x - b) k else (if c + 10 ≤ x ∧ x < c + 10 + 50 then R (x - (c + 10)) k else if x = c + 60 then F k else M.2.2.2.2.1 x k)) = (if c + 10 ≤ x ∧ x < c + 10 + 50 then R (x - (c + 10)) k else if x = c + 60 then F k else (if b ≤ x ∧ x < b + 50 then Q (x - b) k else M.2.2.2.2.1 x k))
  by_cases h1 : b ≤ x ∧ x < b + 50
  · rw [if_pos h1, if_neg (by omega), if_neg (by omega), if_pos h1]
  · rw [if_neg h1, if_neg h1]
theorem sI_WX {x k : Nat} {v : Int32} (h : x < c + 10 ∨ c + 62 ≤ x) : sI (WX M c R F S) x k v = WX (sI M x k v) c R F S := by
  unfold WX sI
  unfold WR WF
  refine Prod.ext rfl (Prod.ext rfl (Prod.ext rfl (Prod.ext rfl (Prod.ext ?_ rfl))))
  funext y j
  show (if y = x ∧ j = k then v else (if c + 10 ≤ y ∧ y < c + 10 + 50 then R (y - (c + 10)) j else if y = c + 60 then F j else M.2.2.2.2.1 y j)) = (if c + 10 ≤ y ∧ y < c + 10 + 50 then R (y - (c + 10)) j else if y = c + 60 then F j else (if y = x ∧ j = k then v else M.2.2.2.2.1 y j))
  by_cases h1 : y = x ∧ j = k
  · rw [if_pos h1, if_neg (by omega), if_neg (by omega), if_pos h1]
  · rw [if_neg h1, if_neg h1]
theorem sR_WX {x k : Nat} {v : Option Nat} : sR (WX M c R F S) x k v = WX (sR M x k v) c R F S := rfl
theorem WX_N : mN (WX M c R F S) = mN M := rfl
theorem nwM_WX {κ l : Nat} (h : c + 62 ≤ mN M) : nwM (WX M c R F S) κ l = WX (nwM M κ l) c R F S := by
  have hN : c + 62 ≤ M.2.2.1 := h
  unfold WX nwM
  unfold WR WF
  refine Prod.ext rfl (Prod.ext rfl (Prod.ext rfl (Prod.ext rfl (Prod.ext ?_ ?_))))
  · funext y j
    show (if y = M.2.2.1 then 0 else (if c + 10 ≤ y ∧ y < c + 10 + 50 then R (y - (c + 10)) j else if y = c + 60 then F j else M.2.2.2.2.1 y j)) = (if c + 10 ≤ y ∧ y < c + 10 + 50 then R (y - (c + 10)) j else if y = c + 60 then F j else (if y = M.2.2.1 then 0 else M.2.2.2.2.1 y j))
    by_cases h1 : y = M.2.2.1
    · rw [if_pos h1, if_neg (by omega), if_neg (by omega), if_pos h1]
    · rw [if_neg h1, if_neg h1]
  · funext y j
    show (if y = M.2.2.1 then 0 else (if y = c + 60 + 1 then zj (S j) else M.2.2.2.2.2 y j)) = (if y = c + 60 + 1 then zj (S j) else (if y = M.2.2.1 then 0 else M.2.2.2.2.2 y j))
    by_cases h1 : y = M.2.2.1
    · rw [if_pos h1, if_neg (by omega), if_pos h1]
    · rw [if_neg h1, if_neg h1]
/-- an array is made and put in a field -/
def apO (M : MemT) (x k κ l : Nat) : MemT := sR (nwM M κ l) x k (some (mN M))
theorem apO_WX {x k κ l : Nat} (h : c + 62 ≤ mN M) : apO (WX M c R F S) x k κ l = WX (apO M x k κ l) c R F S := by
  unfold apO
  rw [nwM_WX h, sR_WX]
  rfl
theorem nw_N {κ l : Nat} : mN (nwM M κ l) = mN M + 1 := rfl
theorem nw_Kat {κ l : Nat} {y : Nat} (h : y = mN M) : mK (nwM M κ l) y = κ := if_pos h
theorem nw_Kne {κ l : Nat} {y : Nat} (h : y ≠ mN M) : mK (nwM M κ l) y = mK M y := if_neg h
theorem nw_Lat {κ l : Nat} {y : Nat} (h : y = mN M) : mL (nwM M κ l) y = l := if_pos h
theorem nw_Lne {κ l : Nat} {y : Nat} (h : y ≠ mN M) : mL (nwM M κ l) y = mL M y := if_neg h
theorem nw_Rne {κ l : Nat} {y j : Nat} (h : y ≠ mN M) : mR (nwM M κ l) y j = mR M y j := if_neg h
theorem apO_N {x k κ l : Nat} : mN (apO M x k κ l) = mN M + 1 := rfl
theorem apO_Kat {x k κ l y : Nat} (h : y = mN M) : mK (apO M x k κ l) y = κ := if_pos h
theorem apO_Kne {x k κ l y : Nat} (h : y ≠ mN M) : mK (apO M x k κ l) y = mK M y := if_neg h
theorem apO_Lat {x k κ l y : Nat} (h : y = mN M) : mL (apO M x k κ l) y = l := if_pos h
theorem apO_Lne {x k κ l y : Nat} (h : y ≠ mN M) : mL (apO M x k κ l) y = mL M y := if_neg h
theorem apO_Rat {x k κ l : Nat} : mR (apO M x k κ l) x k = some (mN M) := if_pos ⟨rfl, rfl⟩
theorem apO_Rne {x k κ l y j : Nat} (h : y ≠ x ∨ j ≠ k) (h2 : y ≠ mN M) : mR (apO M x k κ l) y j = mR M y j := (if_neg (fun q => by omega)).trans (if_neg h2)
theorem i_apO {β : Type} {x k κ l ci : Nat} {f : Nat → MemT → Option β} {g : MemT → Option β} (hk : mK M x = ci) (hx : x < mN M) (hf : ∀ j M2, f j M2 = (pO M2 ci x k j).bind g) : nwA M κ l f = g (apO M x k κ l) := by
  show f (mN M) (nwM M κ l) = _
  rw [hf]
  unfold pO
  rw [if_pos ((nw_Kne (by omega)).trans hk)]
  rfl
def iA (M : MemT) (a : Nat) : MemT := apO (apO (apO (apO M a 15 10 4) a 16 10 10) a 17 10 10) a 18 10 10
theorem x_iA {a : Nat} (hk : mK M a = 0) (ha : a < mN M) : g_X1_init n M a = some ((), iA M a) := by
  unfold g_X1_init
  rw [i_apO hk ha (fun _ _ => rfl)]
  rw [i_apO (M := apO M a 15 10 4) ((apO_Kne (by omega)).trans hk) (by rw [apO_N]; omega) (fun _ _ => rfl)]
  rw [i_apO (M := apO (apO M a 15 10 4) a 16 10 10) ((apO_Kne (by rw [apO_N]; omega)).trans ((apO_Kne (by omega)).trans hk)) (by rw [apO_N, apO_N]; omega) (fun _ _ => rfl)]
  rw [i_apO (M := apO (apO (apO M a 15 10 4) a 16 10 10) a 17 10 10) ((apO_Kne (by rw [apO_N, apO_N]; omega)).trans ((apO_Kne (by rw [apO_N]; omega)).trans ((apO_Kne (by omega)).trans hk))) (by rw [apO_N, apO_N, apO_N]; omega) (fun _ _ => rfl)]
  rfl
theorem iA_N {a : Nat} : mN (iA M a) = mN M + 4 := rfl
theorem iA_WX {a : Nat} (h : c + 62 ≤ mN M) : iA (WX M c R F S) a = WX (iA M a) c R F S := by
  unfold iA
  rw [apO_WX h, apO_WX (by rw [apO_N]; omega), apO_WX (by rw [apO_N, apO_N]; omega), apO_WX (by rw [apO_N, apO_N, apO_N]; omega)]
end M5
