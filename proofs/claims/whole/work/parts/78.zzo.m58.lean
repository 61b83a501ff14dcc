/-! ===== PURE 113: the start: all ints as one function ===== -/
def IZe (M : MemT) (F : Nat → Nat → Int32) : Prop := (∀ y k, mI M y k = F y k) ∧ ∀ y k, mN M ≤ y → F y k = 0
section M58
variable {M W : MemT} {F : Nat → Nat → Int32} {a b x k κ l y i n : Nat} {v : Int32}
theorem IZ_nw (h : IZe M F) : IZe (nwM M κ l) F := by
  refine ⟨fun y j => ?_, fun y j hy => h.2 y j (by rw [nw_N] at hy; omega)⟩
  by_cases c : y = mN M
  · rw [nw_Iz c, h.2 y j (by omega)]
  · rw [nw_I c, h.1]
theorem IZ_sR {o : Option Nat} (h : IZe M F) : IZe (sR M x k o) F := ⟨h.1, h.2⟩
theorem IZ_ap (h : IZe M F) : IZe (apO M x k κ l) F := IZ_sR (IZ_nw h)
theorem IZ_sI (h : IZe M F) (hx : x < mN M) : IZe (sI M x k v) (up2 F x k v) := by
  refine ⟨fun y j => ?_, fun y j hy => ?_⟩
  · show (if y = x ∧ j = k then v else mI M y j) = (if y = x ∧ j = k then v else F y j)
    rw [h.1]
  · rw [sI_N] at hy
    exact (if_neg (by omega)).trans (h.2 y j hy)
theorem IZ_iA (h : IZe M F) : IZe (iA M a) F := IZ_ap (IZ_ap (IZ_ap (IZ_ap h)))
theorem IZ_isM (h : IZe W F) : ∀ i, IZe (isM W b i) F := by
  intro i
  induction i with
  | zero => exact h
  | succ i ih => exact IZ_sR (IZ_iA (IZ_nw ih))
theorem IZ_bA (h : IZe M F) : IZe (bA M b) F := IZ_ap (IZ_ap (IZ_ap (IZ_ap (IZ_ap (IZ_ap (IZ_ap (IZ_ap (IZ_ap h))))))))
theorem IZ_np (h : IZe M F) : IZe (npM M) F := IZ_isM (IZ_bA (IZ_nw h)) 8
theorem IZ_W7 (h : IZe M F) (hN : mN M = a + 1) : IZe (W7 M a) (up2 (up2 F a 7 0) a 8 100) := by
  have h1 : IZe (W7a M a) F := IZ_ap (IZ_ap (IZ_ap (IZ_ap (IZ_ap (IZ_ap h)))))
  have n1 : a < mN (W7a M a) := by rw [W7a_N]; omega
  exact IZ_ap (IZ_ap (IZ_sI (M := sI (W7a M a) a 7 0) (IZ_sI h1 n1) n1))
theorem IZ_W3 (h : IZe M F) (hN : mN M = a + 1) : IZe (W3 M a) (up2 (up2 F (a + 1) 7 0) (a + 1) 8 100) := by
  have g := IZ_W7 (M := nwM M 6 0) (a := a + 1) (IZ_nw h) (by rw [nw_N, hN])
  have h1 : IZe (K1 M a) (up2 (up2 F (a + 1) 7 0) (a + 1) 8 100) := by
    unfold K1
    rw [hN]
    exact IZ_sR g
  have h2 : IZe (K2 (K1 M a) a) (up2 (up2 F (a + 1) 7 0) (a + 1) 8 100) := IZ_sR (IZ_np h1)
  exact IZ_sR (IZ_ap (IZ_nw h2))
/-- the words laid into an array, the first i of them -/
def woM (M : MemT) (x i : Nat) : MemT := (M.1, M.2.1, M.2.2.1, M.2.2.2.1, fun y k => if y = x ∧ k < i then zi (WD k) else M.2.2.2.2.1 y k, M.2.2.2.2.2)
def woF (F : Nat → Nat → Int32) (x i : Nat) : Nat → Nat → Int32 := fun y k => if y = x ∧ k < i then zi (WD k) else F y k
theorem IZ_wo (h : IZe M F) (hx : x < mN M) : IZe (woM M x i) (woF F x i) := by
  refine ⟨fun y j => ?_, fun y j hy => ?_⟩
  · show (if y = x ∧ j < i then zi (WD j) else mI M y j) = (if y = x ∧ j < i then zi (WD j) else F y j)
    rw [h.1]
  · have hy' : mN M ≤ y := hy
    exact (if_neg (by omega)).trans (h.2 y j hy')
theorem wo_SE : SE M (woM M x i) y := ⟨rfl, rfl, fun _ => rfl⟩
theorem wo_0 : woM M x 0 = M := by
  unfold woM
  refine Prod.ext rfl (Prod.ext rfl (Prod.ext rfl (Prod.ext rfl (Prod.ext ?_ rfl))))
  funext y j
  exact if_neg (by omega)
theorem wo_s : sI (woM M x i) x i (zi (WD i)) = woM M x (i + 1) := by
  unfold woM sI
  refine Prod.ext rfl (Prod.ext rfl (Prod.ext rfl (Prod.ext rfl (Prod.ext ?_ rfl))))
  funext y j
  show (if y = x ∧ j = i then zi (WD i) else if y = x ∧ j < i then zi (WD j) else M.2.2.2.2.1 y j) = (if y = x ∧ j < i + 1 then zi (WD j) else M.2.2.2.2.1 y j)
  by_cases c : y = x ∧ j = i
  · rw [if_pos c, if_pos (by omega), c.2]
  · rw [if_neg c]
    by_cases c2 : y = x ∧ j < i
    · rw [if_pos c2, if_pos (by omega)]
    · rw [if_neg c2, if_neg (by omega)]
theorem wo_w {β : Type} {p q : Int32} {f : MemT → Option β} (hk : mK M x = 10) (hl : mL M x = 68) (hi : i < 68) (ha : p = zi (i : Int)) (hb : q = zi (WD i)) : (wI (woM M x i) x p q).bind f = f (woM M x (i + 1)) := by
  rw [ha, hb, i_wI (M := woM M x i) (N := 68) hk (by show (mL M x : Int) = 68; rw [hl]; rfl) (by omega) (by omega) (by omega), i_sb, Int.toNat_natCast, wo_s]
end M58
