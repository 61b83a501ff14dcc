/-! ===== PURE 88: the reference's lines: numbers, names ===== -/
def gFr (g g' : Nat → Int32) : Prop := ∀ k, ¬ (k = 4 ∨ k = 5 ∨ k = 7 ∨ k = 8 ∨ k = 9 ∨ k = 10 ∨ k = 12 ∨ k = 18 ∨ k = 19) → g' k = g k
def AFr (A A' : Nat → Nat → Int32) : Prop := (∀ k, k < 32 → A' 0 k = A 0 k) ∧ (∀ k, k < 48 → A' 1 k = A 1 k) ∧ (∀ k, k < 48 → A' 2 k = A 2 k) ∧ (∀ k, k < 20 → A' 3 k = A 3 k) ∧ (∀ k, k < 7 → A' 4 k = A 4 k)
def TRAf (A : Nat → Nat → Int32) : Prop := ∀ t : Nat, t < 4 → ∃ a b c d : Int, (A 0 (32 + 8 * t + 1) = zi a ∧ 0 ≤ a ∧ a ≤ 2) ∧ (A 0 (32 + 8 * t + 2) = zi b ∧ 0 ≤ b ∧ b ≤ 1) ∧ (A 0 (32 + 8 * t + 6) = zi c ∧ 0 ≤ c ∧ c ≤ 1) ∧ (A 0 (32 + 8 * t + 7) = zi d ∧ 0 ≤ d ∧ d ≤ 1000)
def wBs (W : Nat → Bool) : Int32 := (if W 3 then 8 else 0) ||| (if W 4 then 16 else 0) ||| (if W 5 then 32 else 0) ||| (if W 6 then 64 else 0)
def RYs (g0 : Nat → Int32) (A0 : Nat → Nat → Int32) (len : Nat) (g : Nat → Int32) (A : Nat → Nat → Int32) (s : PSt) : Prop :=
  (gFr g0 g ∧ AFr A0 A ∧ TRAf A) ∧ (g 12 = zi s.1 ∧ g 18 = wBs s.2.2.2.2.2.2 ∧ g 6 = zi (len : Int) ∧ g 4 = zi 0 ∧ g 5 = zi (-1)) ∧ (∀ j : Int, 0 ≤ j → j < 7 → A 4 (7 + j).toNat = zi (s.2.1 j)) ∧ (∀ t j : Int, 0 ≤ t → t < s.1 → 0 ≤ j → j < 8 → A 0 (32 + 8 * t + j).toNat = zi (s.2.2.1 (8 * t + j))) ∧ (∀ k : Int, 0 ≤ k → k < 4 * s.2.1 4 → A 1 (48 + k).toNat = zi (s.2.2.2.1 k)) ∧ (∀ k : Int, 0 ≤ k → k < 4 * s.2.1 5 → A 2 (48 + k).toNat = zi (s.2.2.2.2.1 k)) ∧ (∀ k : Int, 0 ≤ k → k < 5 * s.2.1 6 → A 3 (20 + k).toNat = zi (s.2.2.2.2.2.1 k))
/-- the token at a place is looked at -/
def AHf (u : Nat → Int) (len : Nat) (g : Nat → Int32) (p : Nat) (w : Int32) : Nat → Int32 := mkR g (zi (tkE u len p : Int)) (zi (tkKM u len p)) (tkWM u len p w) (zi (tkS u len p : Int))
section M33
variable {M : MemT} {g g0 : Nat → Int32} {A A0 : Nat → Nat → Int32} {u : Nat → Int} {n len p : Nat} {e k w a v : Int32} {s : PSt}
theorem gFr_t {g1 g2 g3 : Nat → Int32} (h : gFr g1 g2) (h2 : gFr g2 g3) : gFr g1 g3 := fun k hk => (h2 k hk).trans (h k hk)
theorem gFr_u {j : Nat} (hj : j = 4 ∨ j = 5 ∨ j = 7 ∨ j = 8 ∨ j = 9 ∨ j = 10 ∨ j = 12 ∨ j = 18 ∨ j = 19) : gFr g (up1 g j v) := fun k hk => up1_ne (by omega)
theorem gFr_m : gFr g (mkR g e k w a) := fun j hj => mk_o (by omega)
theorem gFr_A : gFr g (AHf u len g p w) := gFr_m
theorem num_rel {S : Nat} : ∀ j, (∀ i, S ≤ i → i < S + j → isDg (u i) = true) → (nXf u S j = nMf u S j) ∨ (99999 < nXf u S j ∧ 99999 < nMf u S j) := by
  intro j
  induction j with
  | zero => intro _; exact Or.inl rfl
  | succ j ih =>
    intro h
    have h1 := ih (fun i q1 q2 => h i q1 (by omega))
    have h2 : 48 ≤ u (S + j) ∧ u (S + j) ≤ 57 := of_decide_eq_true (h (S + j) (by omega) (by omega))
    show ((if nXf u S j * 10 + (u (S + j) - 48) < 1000000 then nXf u S j * 10 + (u (S + j) - 48) else 1000000) = (if nMf u S j ≤ 99999 then 10 * nMf u S j + u (S + j) - 48 else nMf u S j)) ∨ (99999 < (if nXf u S j * 10 + (u (S + j) - 48) < 1000000 then nXf u S j * 10 + (u (S + j) - 48) else 1000000) ∧ 99999 < (if nMf u S j ≤ 99999 then 10 * nMf u S j + u (S + j) - 48 else nMf u S j))
    rcases h1 with q | ⟨q1, q2⟩
    · by_cases c : nMf u S j ≤ 99999
      · rw [if_pos c, if_pos (by omega)]
        exact Or.inl (by omega)
      · rw [if_neg c]
        right
        split <;> omega
    · rw [if_neg (show ¬ (nMf u S j ≤ 99999) by omega)]
      right
      split <;> omega
def numM (u : Nat → Int) (len p : Nat) : Int := nMf u (tkS u len p) (tkE u len p - tkS u len p)
theorem tk_cases (hpl : p ≤ len) : (tkK u len p = 0 ∧ tkKM u len p = 0) ∨ (tkK u len p = 1 ∧ wdX u len p = none ∧ tkE u len p - tkS u len p ≤ 6 ∧ tkKM u len p = 2 ∧ ∀ w, tkWM u len p w = tkV u len p) ∨ (tkK u len p = 1 ∧ wdX u len p = none ∧ ¬ (tkE u len p - tkS u len p ≤ 6) ∧ tkKM u len p = 5) ∨ (tkK u len p = 1 ∧ (∃ j, wdX u len p = some j ∧ ∀ w, tkWM u len p w = zi ((swW j : Nat) : Int)) ∧ tkKM u len p = 1) ∨ (tkK u len p = 2 ∧ tkKM u len p = 3 ∧ (∀ w, tkWM u len p w = zi (numM u len p)) ∧ ((numV u len p = numM u len p) ∨ (99999 < numV u len p ∧ 99999 < numM u len p))) ∨ (tkK u len p = 3 ∧ tkKM u len p = 4) ∨ (tkK u len p = 4 ∧ tkKM u len p = 5) := by
  have hw : wdM u len p = (wdX u len p).map swW := wd_eq u (tkS u len p) (tkE u len p)
  by_cases d0 : tkS u len p = len
  · exact Or.inl ⟨by unfold tkK; rw [if_pos d0], by unfold tkKM; rw [if_pos d0]⟩
  · by_cases d1 : isLt (u (tkS u len p)) = true
    · have K : tkK u len p = 1 := by unfold tkK; rw [if_neg d0, if_pos d1]
      cases hf : wdX u len p with
      | none =>
        have hm : wdM u len p = none := by rw [hw, hf]; rfl
        by_cases d6 : tkE u len p - tkS u len p ≤ 6
        · exact Or.inr (Or.inl ⟨K, rfl, d6, by unfold tkKM; rw [if_neg d0, if_pos d1, hm]; dsimp only; rw [if_pos d6], fun w => by unfold tkWM tkV; rw [if_neg d0, if_pos d1, hm, if_neg d0, if_pos d1]; dsimp only; rw [if_pos d6]⟩)
        · exact Or.inr (Or.inr (Or.inl ⟨K, rfl, d6, by unfold tkKM; rw [if_neg d0, if_pos d1, hm]; dsimp only; rw [if_neg d6]⟩))
      | some j =>
        have hm : wdM u len p = some (swW j) := by rw [hw, hf]; rfl
        exact Or.inr (Or.inr (Or.inr (Or.inl ⟨K, ⟨j, rfl, fun w => by unfold tkWM; rw [if_neg d0, if_pos d1, hm]⟩, by unfold tkKM; rw [if_neg d0, if_pos d1, hm]⟩)))
    · by_cases d2 : isDg (u (tkS u len p)) = true
      · refine Or.inr (Or.inr (Or.inr (Or.inr (Or.inl ⟨by unfold tkK; rw [if_neg d0, if_neg d1, if_pos d2], by unfold tkKM; rw [if_neg d0, if_neg d1, if_pos d2], fun w => by unfold tkWM; rw [if_neg d0, if_neg d1, if_pos d2]; rfl, ?_⟩))))
        have hE : tkE u len p = scnF isDg u (len - tkS u len p) (tkS u len p) := by unfold tkE; rw [if_neg d0, if_neg d1, if_pos d2]
        have hs := (scnF_r (p := isDg) (u := u) (len - tkS u len p) (tkS u len p)).2.2.2
        exact num_rel _ (fun i q1 q2 => hs i q1 (by omega))
      · by_cases d3 : u (tkS u len p) = 59
        · exact Or.inr (Or.inr (Or.inr (Or.inr (Or.inr (Or.inl ⟨by unfold tkK; rw [if_neg d0, if_neg d1, if_neg d2, if_pos d3], by unfold tkKM; rw [if_neg d0, if_neg d1, if_neg d2, if_pos d3]⟩)))))
        · exact Or.inr (Or.inr (Or.inr (Or.inr (Or.inr (Or.inr ⟨by unfold tkK; rw [if_neg d0, if_neg d1, if_neg d2, if_neg d3], by unfold tkKM; rw [if_neg d0, if_neg d1, if_neg d2, if_neg d3]⟩)))))
theorem kind_n (hpl : p ≤ len) : (tkKM u len p = 3 ↔ tkK u len p = 2) ∧ (tkK u len p = 2 → (∀ w, tkWM u len p w = zi (numM u len p)) ∧ ((numV u len p = numM u len p) ∨ (99999 < numV u len p ∧ 99999 < numM u len p))) := by
  rcases tk_cases (u := u) hpl with ⟨a, b⟩ | ⟨a, _, _, b, _⟩ | ⟨a, _, _, b⟩ | ⟨a, _, b⟩ | ⟨a, b, c⟩ | ⟨a, b⟩ | ⟨a, b⟩
  case inr.inr.inr.inr.inl => exact ⟨⟨fun _ => a, fun _ => b⟩, fun _ => c⟩
  all_goals exact ⟨⟨fun q => by omega, fun q => by omega⟩, fun q => by omega⟩
theorem kind_w (hpl : p ≤ len) : (tkKM u len p = 2 ↔ tkK u len p = 1 ∧ tkE u len p - tkS u len p ≤ 6 ∧ wdX u len p = none) ∧ (tkKM u len p = 2 → ∀ w, tkWM u len p w = tkV u len p) ∧ (tkKM u len p = 1 ↔ tkK u len p = 1 ∧ wdX u len p ≠ none) ∧ (∀ j, tkK u len p = 1 → wdX u len p = some j → ∀ w, tkWM u len p w = zi ((swW j : Nat) : Int)) ∧ (tkKM u len p = 4 ↔ tkK u len p = 3) ∧ (tkKM u len p = 0 ↔ tkK u len p = 0) := by
  rcases tk_cases (u := u) hpl with ⟨a, b⟩ | ⟨a, c, d, b, e⟩ | ⟨a, c, d, b⟩ | ⟨a, ⟨i, c, d⟩, b⟩ | ⟨a, b, c⟩ | ⟨a, b⟩ | ⟨a, b⟩
  case inr.inl => exact ⟨⟨fun _ => ⟨a, d, c⟩, fun _ => b⟩, fun _ => e, ⟨fun q => by omega, fun q => absurd c q.2⟩, fun j _ q => absurd (c.symm.trans q) (by simp), by omega, by omega⟩
  case inr.inr.inl => exact ⟨⟨fun q => by omega, fun q => absurd q.2.1 d⟩, fun q => by omega, ⟨fun q => by omega, fun q => absurd c q.2⟩, fun j _ q => absurd (c.symm.trans q) (by simp), by omega, by omega⟩
  case inr.inr.inr.inl => exact ⟨⟨fun q => by omega, fun q => absurd (c.symm.trans q.2.2) (by simp)⟩, fun q => by omega, ⟨fun _ => ⟨a, fun q => absurd (c.symm.trans q) (by simp)⟩, fun _ => b⟩, fun j _ q w => by rw [← Option.some.inj (c.symm.trans q)]; exact d w, by omega, by omega⟩
  all_goals exact ⟨⟨fun q => by omega, fun q => by omega⟩, fun q => by omega, ⟨fun q => by omega, fun q => by omega⟩, fun j q => by omega, by omega, by omega⟩
theorem tkKM_r : 0 ≤ tkKM u len p ∧ tkKM u len p ≤ 5 := by
  unfold tkKM
  split
  · omega
  · split
    · split
      · omega
      · split <;> omega
    · split
      · omega
      · split <;> omega
theorem y_wrong (hS : MShape M) : g_X10_wrong n (YX M g A) 139 v = some (zi 0, YX M (up1 (up1 g 4 v) 5 (g 10)) A) := by
  unfold g_X10_wrong
  rw [y_pI hS, i_sb, y_gI hS, i_sb, up1_ne (by omega), y_pI hS, i_sb]
  exact rz_0
theorem AH_6 : AHf u len g p w 6 = g 6 := mk_o (by omega)
theorem y_num (hS : MShape M) (hu : YT M u) (h6 : g 6 = zi (len : Int)) (hl : len ≤ 700) (hpl : p ≤ len) (hn : 1000 < n) {lo hi : Int} (h0 : 0 ≤ lo ∧ lo ≤ 99999) (h1 : 0 ≤ hi ∧ hi ≤ 99999) : (∃ c g', numR u len p lo hi = .inl (c, tkS u len p) ∧ g_X10_number n (YX M (AHf u len g p w) A) 139 (zi lo) (zi hi) = some (zi 0, YX M g' A) ∧ g' 4 = zi c ∧ g' 5 = zi (tkS u len p : Int) ∧ gFr g g') ∨ (numR u len p lo hi = .inr (numV u len p, tkE u len p) ∧ (lo ≤ numV u len p ∧ numV u len p ≤ hi) ∧ ∃ w', g_X10_number n (YX M (AHf u len g p w) A) 139 (zi lo) (zi hi) = some (zi 1, YX M (AHf u len (up1 g 19 (zi (numV u len p))) (tkE u len p) w') A)) := by
  obtain ⟨e1, e2⟩ := tkE_r (u := u) hpl
  obtain ⟨k1, k2⟩ := kind_n (u := u) hpl
  have hKr := tkKM_r (u := u) (len := len) (p := p)
  have e3' : (zi (tkKM u len p) = (3 : Int32)) = (tkKM u len p = 3) := zi_eq (b := 3) (by omega) (by omega) (by omega) (by omega)
  by_cases c : tkK u len p = 2
  · obtain ⟨k3, k4⟩ := k2 c
    have hMr : 0 ≤ numM u len p ∧ numM u len p ≤ 1000000 := by
      unfold tkK at c
      unfold numM
      by_cases d0 : tkS u len p = len
      · rw [if_pos d0] at c; omega
      · rw [if_neg d0] at c
        by_cases d1 : isLt (u (tkS u len p)) = true
        · rw [if_pos d1] at c; omega
        · rw [if_neg d1] at c
          by_cases d2 : isDg (u (tkS u len p)) = true
          · have hE : tkE u len p = scnF isDg u (len - tkS u len p) (tkS u len p) := by unfold tkE; rw [if_neg d0, if_neg d1, if_pos d2]
            have hs := (scnF_r (p := isDg) (u := u) (len - tkS u len p) (tkS u len p)).2.2.2
            exact nMf_r (fun k hk => (hu.1 k hk).2) _ (fun i q1 q2 => ⟨by omega, hs i q1 (by omega)⟩)
          · rw [if_neg d2] at c
            split at c <;> omega
    have hin : (lo ≤ numM u len p ∧ numM u len p ≤ hi) ↔ (lo ≤ numV u len p ∧ numV u len p ≤ hi) := by
      rcases k4 with q | ⟨q1, q2⟩
      · rw [q]
      · exact ⟨fun _ => by omega, fun _ => by omega⟩
    by_cases d : lo ≤ numV u len p ∧ numV u len p ≤ hi
    · have hVM : numV u len p = numM u len p := by
        rcases k4 with q | ⟨q1, q2⟩
        · exact q
        · omega
      refine Or.inr ⟨by unfold numR; rw [if_pos c, if_pos d], d, zi (numM u len p), ?_⟩
      unfold g_X10_number
      rw [y_gI hS, i_sb, show AHf u len g p w 8 = zi (tkKM u len p) from rfl, if_pos (by rw [e3']; exact k1.mpr c), y_gI hS, i_sb, show AHf u len g p w 9 = tkWM u len p w from rfl, k3 w, m_isIn2 (by omega) (by omega) (by omega) (by omega) (by omega) (by omega), i_bd, if_neg (bz_t (hin.mpr d)), y_gI hS, i_sb, show AHf u len g p w 9 = tkWM u len p w from rfl, k3 w, y_pI hS, i_sb, y_k hS]
      unfold AHf
      rw [mk_uo (by omega), y_tok hS hu ((up1_ne (by omega)).trans h6) hl e2 hn, i_bd, k3 w, hVM]
      exact rz_1
    · refine Or.inl ⟨2, up1 (up1 (AHf u len g p w) 4 2) 5 (AHf u len g p w 10), by unfold numR; rw [if_pos c, if_neg d], ?_, rfl, rfl, gFr_t gFr_A (gFr_t (gFr_u (by omega)) (gFr_u (by omega)))⟩
      unfold g_X10_number
      rw [y_gI hS, i_sb, show AHf u len g p w 8 = zi (tkKM u len p) from rfl, if_pos (by rw [e3']; exact k1.mpr c), y_gI hS, i_sb, show AHf u len g p w 9 = tkWM u len p w from rfl, k3 w, m_isIn2 (by omega) (by omega) (by omega) (by omega) (by omega) (by omega), i_bd, if_pos (bz_f (fun q => d (hin.mp q))), y_k hS, y_wrong hS, i_bd]
      exact rz_0
  · refine Or.inl ⟨1, up1 (up1 (AHf u len g p w) 4 1) 5 (AHf u len g p w 10), by unfold numR; rw [if_neg c], ?_, rfl, rfl, gFr_t gFr_A (gFr_t (gFr_u (by omega)) (gFr_u (by omega)))⟩
    unfold g_X10_number
    rw [y_gI hS, i_sb, show AHf u len g p w 8 = zi (tkKM u len p) from rfl, if_neg (by rw [e3']; exact fun q => c (k1.mp q)), y_k hS, y_wrong hS, i_bd]
    exact rz_0
theorem y_a (hS : MShape M) {o N : Nat} {i : Int} (ho : o < 5) (hk : mK M (142 + o) = 10) (hl : mL M (142 + o) = N) (h0 : 0 ≤ i) (h1 : i < N) (hN : N ≤ 100) : aI (YX M g A) 10 (142 + o) (zi i) = some (A o i.toNat) := by
  rw [i_aI (M := YX M g A) (N := (N : Int)) hk (by show (mL M (142 + o) : Int) = N; rw [hl]) h0 h1 (by omega)]
  refine congrArg some ?_
  show (if 142 + o = 139 then g i.toNat else if 142 ≤ 142 + o ∧ 142 + o ≤ 146 then A (142 + o - 142) i.toNat else mI M (142 + o) i.toNat) = _
  rw [if_neg (by omega), if_pos (by omega), Nat.add_sub_cancel_left]
theorem y_w (hS : MShape M) {o N : Nat} {i : Int} (ho : o < 5) (hk : mK M (142 + o) = 10) (hl : mL M (142 + o) = N) (h0 : 0 ≤ i) (h1 : i < N) (hN : N ≤ 100) : wI (YX M g A) (142 + o) (zi i) v = some (YX M g (up2 A o i.toNat v)) := by
  rw [i_wI (M := YX M g A) (N := (N : Int)) hk (by show (mL M (142 + o) : Int) = N; rw [hl]) h0 h1 (by omega)]
  refine congrArg some ?_
  unfold YX sI
  refine Prod.ext rfl (Prod.ext rfl (Prod.ext rfl (Prod.ext rfl (Prod.ext ?_ rfl))))
  funext x j
  show (if x = 142 + o ∧ j = i.toNat then v else if x = 139 then g j else if 142 ≤ x ∧ x ≤ 146 then A (x - 142) j else M.2.2.2.2.1 x j) = (if x = 139 then g j else if 142 ≤ x ∧ x ≤ 146 then (if x - 142 = o ∧ j = i.toNat then v else A (x - 142) j) else M.2.2.2.2.1 x j)
  by_cases c : x = 142 + o ∧ j = i.toNat
  · rw [if_pos c, if_neg (by omega), if_pos (by omega), if_pos (by omega)]
  · rw [if_neg c]
    by_cases c2 : x = 139
    · rw [if_pos c2, if_pos c2]
    · rw [if_neg c2, if_neg c2]
      by_cases c4 : 142 ≤ x ∧ x ≤ 146
      · rw [if_pos c4, if_pos c4, if_neg (by omega)]
      · rw [if_neg c4, if_neg c4]
theorem y_o13 (hS : MShape M) : gO (YX M g A) 8 139 13 = some 142 := i_gO hS.1 hS.2.1.2.2.1
theorem y_o14 (hS : MShape M) : gO (YX M g A) 8 139 14 = some 143 := i_gO hS.1 hS.2.1.2.2.2.1
theorem y_o15 (hS : MShape M) : gO (YX M g A) 8 139 15 = some 144 := i_gO hS.1 hS.2.1.2.2.2.2.1
theorem y_o16 (hS : MShape M) : gO (YX M g A) 8 139 16 = some 145 := i_gO hS.1 hS.2.1.2.2.2.2.2.1
theorem y_o17 (hS : MShape M) : gO (YX M g A) 8 139 17 = some 146 := i_gO hS.1 hS.2.1.2.2.2.2.2.2.1
theorem y_a0 (hS : MShape M) {i : Int} (h0 : 0 ≤ i) (h1 : i < 64) : aI (YX M g A) 10 142 (zi i) = some (A 0 i.toNat) := y_a (o := 0) hS (by omega) hS.2.2.1.2.2.1 hS.2.2.2.2.1 h0 h1 (by omega)
theorem y_a4 (hS : MShape M) {i : Int} (h0 : 0 ≤ i) (h1 : i < 14) : aI (YX M g A) 10 146 (zi i) = some (A 4 i.toNat) := y_a (o := 4) hS (by omega) hS.2.2.1.2.2.2.2.2.2.1 hS.2.2.2.2.2.2.2.2.1 h0 h1 (by omega)
theorem y_w0 (hS : MShape M) {i : Int} (h0 : 0 ≤ i) (h1 : i < 64) : wI (YX M g A) 142 (zi i) v = some (YX M g (up2 A 0 i.toNat v)) := y_w (o := 0) hS (by omega) hS.2.2.1.2.2.1 hS.2.2.2.2.1 h0 h1 (by omega)
theorem y_w1 (hS : MShape M) {i : Int} (h0 : 0 ≤ i) (h1 : i < 96) : wI (YX M g A) 143 (zi i) v = some (YX M g (up2 A 1 i.toNat v)) := y_w (o := 1) hS (by omega) hS.2.2.1.2.2.2.1 hS.2.2.2.2.2.1 h0 h1 (by omega)
theorem y_w2 (hS : MShape M) {i : Int} (h0 : 0 ≤ i) (h1 : i < 96) : wI (YX M g A) 144 (zi i) v = some (YX M g (up2 A 2 i.toNat v)) := y_w (o := 2) hS (by omega) hS.2.2.1.2.2.2.2.1 hS.2.2.2.2.2.2.1 h0 h1 (by omega)
theorem y_w3 (hS : MShape M) {i : Int} (h0 : 0 ≤ i) (h1 : i < 40) : wI (YX M g A) 145 (zi i) v = some (YX M g (up2 A 3 i.toNat v)) := y_w (o := 3) hS (by omega) hS.2.2.1.2.2.2.2.2.1 hS.2.2.2.2.2.2.2.1 h0 h1 (by omega)
theorem y_w4 (hS : MShape M) {i : Int} (h0 : 0 ≤ i) (h1 : i < 14) : wI (YX M g A) 146 (zi i) v = some (YX M g (up2 A 4 i.toNat v)) := y_w (o := 4) hS (by omega) hS.2.2.1.2.2.2.2.2.2.1 hS.2.2.2.2.2.2.2.2.1 h0 h1 (by omega)
theorem y_nmd (hS : MShape M) {g' : Nat → Int32} (hR : RYs g0 A0 len g A s) (hg : ROk s) (hn : 1000 < n) : g_X10_nameAt n (YX M g' A) 139 v 32 (zi s.1) = some (match fnd (nmq s.2.2.1 v) 0 s.1.toNat with | some t => zi (t : Int) | none => zi (-1), YX M g' A) := by
  have hnt := hg.1
  have h1 : ∀ t : Nat, (t : Int) < s.1 → A 0 (32 + 8 * (t : Int)).toNat = zi (s.2.2.1 (8 * (t : Int))) := fun t ht => by
    have := hR.2.2.2.1 (t : Int) 0 (by omega) ht (by omega) (by omega)
    rw [Int.add_zero, Int.add_zero] at this
    exact this
  have e32 : ∀ i : Nat, (32 : Int32) + 8 * zi (i : Int) = zi (32 + 8 * (i : Int)) := fun i => by
    show zi 32 + zi 8 * zi (i : Int) = _
    rw [zi_mul, zi_add]
  have key := loop_find (step := fun (s_1 : MemT × Int32) => (fun (M1 : MemT) (v2 : Int32) => (if zi s.1 ≤ v2 then some (.inr (((-1), M1))) else (gO M1 8 139 13).bind (fun j4 => (aI M1 10 j4 (32 + (8 * v2))).bind (fun v5 => (if v5 = v then (some (.inr ((v2, M1))) : Option ((MemT × Int32) ⊕ (Int32 × MemT))) else some (.inl (M1, v2 + 1))))))) s_1.1 s_1.2) (fun i : Nat => (YX M g' A, zi (i : Int))) (fun i => (zi (i : Int), YX M g' A)) (zi (-1), YX M g' A) s.1.toNat (nmq s.2.2.1 v) (fun i hi c => ?_) (fun i hi c => ?_) ?_ n (by omega)
  · unfold g_X10_nameAt
    refine Eq.trans key ?_
    cases fnd (nmq s.2.2.1 v) 0 s.1.toNat <;> rfl
  · have c' := of_decide_eq_false c
    dsimp only
    rw [if_neg (by rw [zi_le (by omega) (by omega) (by omega) (by omega)]; omega), y_o13 hS, i_sb, e32, y_a0 hS (by omega) (by omega), i_sb, h1 i (by omega), if_neg c', show zi (i : Int) + 1 = zi ((i + 1 : Nat) : Int) from zi_add (i : Int) 1]
  · have c' := of_decide_eq_true c
    dsimp only
    rw [if_neg (by rw [zi_le (by omega) (by omega) (by omega) (by omega)]; omega), y_o13 hS, i_sb, e32, y_a0 hS (by omega) (by omega), i_sb, h1 i (by omega), if_pos c']
  · dsimp only
    rw [Int.toNat_of_nonneg hnt.1, if_pos (Int32.le_refl _)]
    rfl
theorem y_trd (hS : MShape M) (hu : YT M u) (hl : len ≤ 700) (hpl : p ≤ len) (hn : 1000 < n) (hR : RYs g0 A0 len g A s) (hg : ROk s) : (∃ c pl g', trdR s u len p = .inl (c, pl) ∧ g_X10_traderRead n (YX M (mkR g (zi (p : Int)) k w a) A) 139 = some (zi 0, YX M g' A) ∧ g' 4 = zi c ∧ g' 5 = zi (pl : Int) ∧ gFr g g') ∨ (∃ t : Nat, trdR s u len p = .inr (t, tkE u len p, tkS u len p) ∧ ((t : Int) < s.1) ∧ g_X10_traderRead n (YX M (mkR g (zi (p : Int)) k w a) A) 139 = some (zi 1, YX M (AHf u len (up1 g 19 (zi (t : Int))) p w) A)) := by
  have hnt := hg.1
  have h6 : g 6 = zi (len : Int) := hR.2.1.2.2.1
  obtain ⟨e1, e2⟩ := tkE_r (u := u) hpl
  obtain ⟨k1, k2, -⟩ := kind_w (u := u) hpl
  have hKr := tkKM_r (u := u) (len := len) (p := p)
  have e2' : (zi (tkKM u len p) = (2 : Int32)) = (tkKM u len p = 2) := zi_eq (b := 2) (by omega) (by omega) (by omega) (by omega)
  have tk := y_tok (g := g) (k := k) (w := w) (a := a) (A := A) hS hu h6 hl hpl hn
  have h12 : AHf u len g p w 12 = zi s.1 := (mk_o (by omega)).trans hR.2.1.1
  unfold g_X10_traderRead
  rw [y_k hS, tk, i_bd]
  show (_ ∨ _)
  by_cases c : tkKM u len p = 2
  · have hN : nameR u len p = .inr (tkV u len p, tkE u len p, tkS u len p) := by unfold nameR; rw [if_pos (k1.mp c)]
    have hrun : (gI (YX M (AHf u len g p w) A) 8 139 8).bind (fun v3 => (if v3 = 2 then (gI (YX M (AHf u len g p w) A) 8 139 9).bind (fun v6 => (gI (YX M (AHf u len g p w) A) 8 139 12).bind (fun v7 => chk (YX M (AHf u len g p w) A) 8 139 (bd (g_X10_nameAt n (YX M (AHf u len g p w) A) 139 v6 32 v7) (fun r8 M9 => (pI M9 8 139 19 r8).bind (fun M10 => (gI M10 8 139 19).bind (fun v11 => (if 0 ≤ v11 then rz 1 M10 else chk M10 8 139 (bd (g_X10_wrong n M10 139 4) (fun r12 M13 => (if r12 = 0 then rz 0 M13 else rz 1 M13)))))))))) else chk (YX M (AHf u len g p w) A) 8 139 (bd (g_X10_wrong n (YX M (AHf u len g p w) A) 139 1) (fun r4 M5 => rz r4 M5)))) = (match fnd (nmq s.2.2.1 (tkV u len p)) 0 s.1.toNat with | some t => some (zi 1, YX M (AHf u len (up1 g 19 (zi (t : Int))) p w) A) | none => some (zi 0, YX M (up1 (up1 (AHf u len (up1 g 19 (zi (-1))) p w) 4 4) 5 (zi (tkS u len p : Int))) A)) := by
      rw [y_gI hS, i_sb, show AHf u len g p w 8 = zi (tkKM u len p) from rfl, if_pos (by rw [e2']; exact c), y_gI hS, i_sb, show AHf u len g p w 9 = tkWM u len p w from rfl, k2 c w, y_gI hS, i_sb, h12, y_k hS, y_nmd hS hR hg hn, i_bd]
      cases hf : fnd (nmq s.2.2.1 (tkV u len p)) 0 s.1.toNat with
      | none =>
        dsimp only
        unfold AHf
        rw [y_pI hS, i_sb, mk_uo (by omega), y_gI hS, i_sb, mk_o (by omega), up1_at, if_neg (show ¬ ((0 : Int32) ≤ zi (-1)) by decide), y_k hS, y_wrong hS, i_bd, if_pos (show zi 0 = (0 : Int32) from rfl), mk_10]
        exact rz_0
      | some t =>
        have ht := (fnd_lt hf).2.1
        dsimp only
        unfold AHf
        rw [y_pI hS, i_sb, mk_uo (by omega), y_gI hS, i_sb, mk_o (by omega), up1_at, if_pos (show ((0 : Int32) ≤ zi (t : Int)) by show (zi 0 ≤ zi (t : Int)); rw [zi_le (by omega) (by omega) (by omega) (by omega)]; omega)]
        exact rz_1
    cases hf : fnd (nmq s.2.2.1 (tkV u len p)) 0 s.1.toNat with
    | none =>
      rw [hf] at hrun
      refine Or.inl ⟨4, tkS u len p, _, ?_, hrun, rfl, rfl, gFr_t (gFr_t (gFr_u (by omega)) gFr_A) (gFr_t (gFr_u (by omega)) (gFr_u (by omega)))⟩
      unfold trdR
      rw [hN, pb_r]
      dsimp only
      rw [hf]
    | some t =>
      have ht := (fnd_lt hf).2.1
      rw [hf] at hrun
      refine Or.inr ⟨t, ?_, by omega, hrun⟩
      unfold trdR
      rw [hN, pb_r]
      dsimp only
      rw [hf]
  · have hN : nameR u len p = .inl (1, tkS u len p) := by unfold nameR; rw [if_neg (fun q => c (k1.mpr q))]
    refine Or.inl ⟨1, tkS u len p, up1 (up1 (AHf u len g p w) 4 1) 5 (AHf u len g p w 10), by unfold trdR; rw [hN]; rfl, ?_, rfl, rfl, gFr_t gFr_A (gFr_t (gFr_u (by omega)) (gFr_u (by omega)))⟩
    show (gI (YX M (AHf u len g p w) A) 8 139 8).bind (fun v3 => (if v3 = 2 then (gI (YX M (AHf u len g p w) A) 8 139 9).bind (fun v6 => (gI (YX M (AHf u len g p w) A) 8 139 12).bind (fun v7 => chk (YX M (AHf u len g p w) A) 8 139 (bd (g_X10_nameAt n (YX M (AHf u len g p w) A) 139 v6 32 v7) (fun r8 M9 => (pI M9 8 139 19 r8).bind (fun M10 => (gI M10 8 139 19).bind (fun v11 => (if 0 ≤ v11 then rz 1 M10 else chk M10 8 139 (bd (g_X10_wrong n M10 139 4) (fun r12 M13 => (if r12 = 0 then rz 0 M13 else rz 1 M13)))))))))) else chk (YX M (AHf u len g p w) A) 8 139 (bd (g_X10_wrong n (YX M (AHf u len g p w) A) 139 1) (fun r4 M5 => rz r4 M5)))) = _
    rw [y_gI hS, i_sb, show AHf u len g p w 8 = zi (tkKM u len p) from rfl, if_neg (by rw [e2']; exact c), y_k hS, y_wrong hS, i_bd]
    exact rz_0
end M33
