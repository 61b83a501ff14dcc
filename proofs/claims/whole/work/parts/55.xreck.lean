/-! ===== PURE 25: the component's clerk: its memory; what a TEXT told; the reckoning ===== -/
def WX (M : MemT) (c : Nat) (R : Nat → Nat → Int32) (F : Nat → Int32) (S : Int → Int) : MemT := WR (WF M (c + 60) F S) (c + 10) R
def RSh (M : MemT) (r : Nat) : Prop :=
  mK M r = 6 ∧ (mR M r 1 = some (r + 1) ∧ mR M r 2 = some (r + 2) ∧ mR M r 3 = some (r + 3) ∧ mR M r 4 = some (r + 4) ∧ mR M r 5 = some (r + 5) ∧ mR M r 6 = some (r + 6) ∧ mR M r 13 = some (r + 7) ∧ mR M r 15 = some (r + 8)) ∧
  (mK M (r + 1) = 10 ∧ mK M (r + 2) = 10 ∧ mK M (r + 3) = 10 ∧ mK M (r + 4) = 10 ∧ mK M (r + 5) = 10 ∧ mK M (r + 6) = 10 ∧ mK M (r + 7) = 10 ∧ mK M (r + 8) = 10) ∧
  (mL M (r + 1) = 4 ∧ mL M (r + 2) = 4 ∧ mL M (r + 3) = 4 ∧ mL M (r + 4) = 4 ∧ mL M (r + 5) = 4 ∧ mL M (r + 6) = 4 ∧ mL M (r + 7) = 96 ∧ mL M (r + 8) = 20)
/-- what the rules at r hold, by what the text told -/
def RU (M : MemT) (r : Nat) (nt : Int) (T tr sl bu as : Int → Int) : Prop :=
  (mI M r 0 = zi nt ∧ mI M r 7 = zi (T 0) ∧ mI M r 8 = zi (T 1) ∧ mI M r 9 = zi (T 2) ∧ mI M r 10 = zi (T 3) ∧ mI M r 11 = zi (T 4) ∧ mI M r 12 = zi (T 5) ∧ mI M r 14 = zi (T 6)) ∧
  (∀ t : Int, 0 ≤ t → t < nt → mI M (r + 1) t.toNat = zi (tr (8 * t)) ∧ mI M (r + 2) t.toNat = zi (tr (8 * t + 1)) ∧ mI M (r + 3) t.toNat = zi (tr (8 * t + 2)) ∧ mI M (r + 4) t.toNat = zi (if tr (8 * t + 6) = 1 then tr (8 * t + 7) else -2) ∧ mI M (r + 5) t.toNat = zi (tr (8 * t + 4)) ∧ mI M (r + 6) t.toNat = zi (tr (8 * t + 5))) ∧
  (∃ cs : Nat → Int, cs 0 = 0 ∧ cs (T 4 + T 5).toNat = T 4 ∧ ∀ i : Nat, (i : Int) < T 4 + T 5 →
    (0 ≤ cs i ∧ cs i ≤ T 4 ∧ 0 ≤ i - cs i ∧ i - cs i ≤ T 5) ∧
    ((cs (i + 1) = cs i + 1 ∧ cs i < T 4 ∧ mI M (r + 7) (4 * i) = zi (sl (4 * cs i)) ∧ mI M (r + 7) (4 * i + 1) = zi (sl (4 * cs i + 1)) ∧ mI M (r + 7) (4 * i + 2) = zi (sl (4 * cs i + 2)) ∧ mI M (r + 7) (4 * i + 3) = zi (sl (4 * cs i + 3))) ∨
     (cs (i + 1) = cs i ∧ i - cs i < T 5 ∧ mI M (r + 7) (4 * i) = zi (bu (4 * (i - cs i))) ∧ mI M (r + 7) (4 * i + 1) = zi (bu (4 * (i - cs i) + 1)) ∧ mI M (r + 7) (4 * i + 2) = zi (2 + bu (4 * (i - cs i) + 2)) ∧ mI M (r + 7) (4 * i + 3) = zi (bu (4 * (i - cs i) + 3))))) ∧
  (∀ k : Int, 0 ≤ k → k < 5 * T 6 → mI M (r + 8) k.toNat = zi (as k))
def CSh (M : MemT) (c r : Nat) : Prop :=
  (mK M c = 2 ∧ mR M c 0 = some r ∧ mR M c 1 = some (c + 10) ∧ mR M c 2 = some (c + 60)) ∧ (mK M (c + 60) = 5 ∧ mR M (c + 60) 0 = some (c + 61) ∧ mK M (c + 61) = 13 ∧ mL M (c + 61) = 5) ∧ BSh M (c + 10) ∧ RSh M r ∧ (r + 9 ≤ c + 10 ∨ c + 62 ≤ r)
def FOk (F : Nat → Int32) (w m s l ho ha : Int) : Prop := F 3 = zi w ∧ F 4 = zi m ∧ F 5 = zi s ∧ F 6 = zi l ∧ F 1 = zi ho ∧ F 2 = zi ha
section XRECK
variable {M : MemT} {c r : Nat} {R : Nat → Nat → Int32} {F : Nat → Int32} {S : Int → Int} {n : Nat} {T tr sl bu as B : Int → Int} {nt : Int}
theorem wx_B (h : CSh M c r) : BSh (WF M (c + 60) F S) (c + 10) := h.2.2.1
theorem c_gF (h : CSh M c r) {j : Nat} : gI (WX M c R F S) 5 (c + 60) j = some (F j) := by
  rw [i_gI (M := WX M c R F S) h.2.1.1]
  unfold WX
  rw [xr_out (by omega)]
  exact congrArg some (if_pos rfl)
theorem c_pF (h : CSh M c r) {j : Nat} {v : Int32} : pI (WX M c R F S) 5 (c + 60) j v = some (WX M c R (up1 F j v) S) := by
  rw [i_pI (M := WX M c R F S) h.2.1.1]
  congr 1
  unfold WX sI WR WF
  refine Prod.ext rfl (Prod.ext rfl (Prod.ext rfl (Prod.ext rfl (Prod.ext ?_ rfl))))
  funext x k
  show (if x = c + 60 ∧ k = j then v else if c + 10 ≤ x ∧ x < c + 10 + 50 then R (x - (c + 10)) k else if x = c + 60 then F k else M.2.2.2.2.1 x k) = if c + 10 ≤ x ∧ x < c + 10 + 50 then R (x - (c + 10)) k else if x = c + 60 then (if k = j then v else F k) else M.2.2.2.2.1 x k
  by_cases hx : x = c + 60
  · rw [if_neg (show ¬ (c + 10 ≤ x ∧ x < c + 10 + 50) by omega), if_neg (show ¬ (c + 10 ≤ x ∧ x < c + 10 + 50) by omega), if_pos hx, if_pos hx]
    by_cases hk : k = j
    · rw [if_pos ⟨hx, hk⟩, if_pos hk]
    · rw [if_neg (fun q => hk q.2), if_neg hk]
  · rw [if_neg (fun q => hx q.1), if_neg hx, if_neg hx]
theorem c_oF (h : CSh M c r) : gO (WX M c R F S) 5 (c + 60) 0 = some (c + 61) := i_gO h.2.1.1 h.2.1.2.1
theorem c_kF {β : Type} {e : Option β} (h : CSh M c r) : chk (WX M c R F S) 5 (c + 60) e = e := i_chk h.2.1.1
theorem c_kC {β : Type} {e : Option β} (h : CSh M c r) : chk (WX M c R F S) 2 c e = e := i_chk h.1.1
theorem c_kB {β : Type} {e : Option β} (h : CSh M c r) : chk (WX M c R F S) 1 (c + 10) e = e := i_chk h.2.2.1.1
theorem c_o0 (h : CSh M c r) : gO (WX M c R F S) 2 c 0 = some r := i_gO h.1.1 h.1.2.1
theorem c_o1 (h : CSh M c r) : gO (WX M c R F S) 2 c 1 = some (c + 10) := i_gO h.1.1 h.1.2.2.1
theorem c_o2 (h : CSh M c r) : gO (WX M c R F S) 2 c 2 = some (c + 60) := i_gO h.1.1 h.1.2.2.2
theorem c_S (h : CSh M c r) {w : Int} (h2 : 0 ≤ w) (h3 : w < 5) : aJ (WX M c R F S) (c + 61) (zi w) = some (zj (S w)) := by
  rw [i_aJ (M := WX M c R F S) (N := 5) h.2.1.2.2.1 (by show (mL M (c + 61) : Int) = 5; rw [h.2.1.2.2.2]; rfl) h2 h3 (by omega)]
  show some (if c + 61 = c + 60 + 1 then zj (S (w.toNat : Int)) else _) = _
  rw [if_pos rfl, Int.toNat_of_nonneg h2]
theorem c_wS (h : CSh M c r) {w v : Int} (h2 : 0 ≤ w) (h3 : w < 5) : wJ (WX M c R F S) (c + 61) (zi w) (zj v) = some (WX M c R F (upZ S w v)) := by
  rw [i_wJ (M := WX M c R F S) (N := 5) h.2.1.2.2.1 (by show (mL M (c + 61) : Int) = 5; rw [h.2.1.2.2.2]; rfl) h2 h3 (by omega)]
  congr 1
  unfold WX sJ WR WF
  refine Prod.ext rfl (Prod.ext rfl (Prod.ext rfl (Prod.ext rfl (Prod.ext rfl ?_))))
  funext x j
  show (if x = c + 61 ∧ j = w.toNat then zj v else if x = c + 60 + 1 then zj (S j) else M.2.2.2.2.2 x j) = if x = c + 60 + 1 then zj (upZ S w v j) else M.2.2.2.2.2 x j
  by_cases hx : x = c + 61
  · rw [if_pos hx, if_pos hx]
    unfold upZ
    by_cases hj : j = w.toNat
    · rw [if_pos ⟨hx, hj⟩, if_pos (by omega)]
    · rw [if_neg (fun q => hj q.2), if_neg (by omega)]
  · rw [if_neg (fun q => hx q.1), if_neg hx, if_neg hx]
theorem c_gR (h : CSh M c r) {k : Nat} : gI (WX M c R F S) 6 r k = some (mI M r k) := by
  rw [i_gI (M := WX M c R F S) h.2.2.2.1.1]
  unfold WX
  rw [xr_out (by have := h.2.2.2.2; omega)]
  exact congrArg some (if_neg (by have := h.2.2.2.2; omega))
theorem c_aR (h : CSh M c r) {i N : Nat} {k : Int} (hi : i < 9) (hk : mK M (r + i) = 10) (hl : mL M (r + i) = N) (h0 : 0 ≤ k) (h1 : k < N) (hN : N ≤ 100) : aI (WX M c R F S) 10 (r + i) (zi k) = some (mI M (r + i) k.toNat) := by
  rw [i_aI (M := WX M c R F S) (N := (N : Int)) hk (by show (mL M (r + i) : Int) = N; rw [hl]) h0 h1 (by omega)]
  unfold WX
  rw [xr_out (by have := h.2.2.2.2; omega)]
  exact congrArg some (if_neg (by have := h.2.2.2.2; omega))
theorem c_r1 (h : CSh M c r) : gO (WX M c R F S) 6 r 1 = some (r + 1) := i_gO h.2.2.2.1.1 h.2.2.2.1.2.1.1
theorem c_a1 (h : CSh M c r) {k : Int} (h0 : 0 ≤ k) (h1 : k < 4) : aI (WX M c R F S) 10 (r + 1) (zi k) = some (mI M (r + 1) k.toNat) := c_aR h (by omega) h.2.2.2.1.2.2.1.1 h.2.2.2.1.2.2.2.1 h0 h1 (by omega)
theorem c_r2 (h : CSh M c r) : gO (WX M c R F S) 6 r 2 = some (r + 2) := i_gO h.2.2.2.1.1 h.2.2.2.1.2.1.2.1
theorem c_a2 (h : CSh M c r) {k : Int} (h0 : 0 ≤ k) (h1 : k < 4) : aI (WX M c R F S) 10 (r + 2) (zi k) = some (mI M (r + 2) k.toNat) := c_aR h (by omega) h.2.2.2.1.2.2.1.2.1 h.2.2.2.1.2.2.2.2.1 h0 h1 (by omega)
theorem c_r3 (h : CSh M c r) : gO (WX M c R F S) 6 r 3 = some (r + 3) := i_gO h.2.2.2.1.1 h.2.2.2.1.2.1.2.2.1
theorem c_a3 (h : CSh M c r) {k : Int} (h0 : 0 ≤ k) (h1 : k < 4) : aI (WX M c R F S) 10 (r + 3) (zi k) = some (mI M (r + 3) k.toNat) := c_aR h (by omega) h.2.2.2.1.2.2.1.2.2.1 h.2.2.2.1.2.2.2.2.2.1 h0 h1 (by omega)
theorem c_r4 (h : CSh M c r) : gO (WX M c R F S) 6 r 4 = some (r + 4) := i_gO h.2.2.2.1.1 h.2.2.2.1.2.1.2.2.2.1
theorem c_a4 (h : CSh M c r) {k : Int} (h0 : 0 ≤ k) (h1 : k < 4) : aI (WX M c R F S) 10 (r + 4) (zi k) = some (mI M (r + 4) k.toNat) := c_aR h (by omega) h.2.2.2.1.2.2.1.2.2.2.1 h.2.2.2.1.2.2.2.2.2.2.1 h0 h1 (by omega)
theorem c_r5 (h : CSh M c r) : gO (WX M c R F S) 6 r 5 = some (r + 5) := i_gO h.2.2.2.1.1 h.2.2.2.1.2.1.2.2.2.2.1
theorem c_a5 (h : CSh M c r) {k : Int} (h0 : 0 ≤ k) (h1 : k < 4) : aI (WX M c R F S) 10 (r + 5) (zi k) = some (mI M (r + 5) k.toNat) := c_aR h (by omega) h.2.2.2.1.2.2.1.2.2.2.2.1 h.2.2.2.1.2.2.2.2.2.2.2.1 h0 h1 (by omega)
theorem c_r6 (h : CSh M c r) : gO (WX M c R F S) 6 r 6 = some (r + 6) := i_gO h.2.2.2.1.1 h.2.2.2.1.2.1.2.2.2.2.2.1
theorem c_a6 (h : CSh M c r) {k : Int} (h0 : 0 ≤ k) (h1 : k < 4) : aI (WX M c R F S) 10 (r + 6) (zi k) = some (mI M (r + 6) k.toNat) := c_aR h (by omega) h.2.2.2.1.2.2.1.2.2.2.2.2.1 h.2.2.2.1.2.2.2.2.2.2.2.2.1 h0 h1 (by omega)
theorem c_r13 (h : CSh M c r) : gO (WX M c R F S) 6 r 13 = some (r + 7) := i_gO h.2.2.2.1.1 h.2.2.2.1.2.1.2.2.2.2.2.2.1
theorem c_a13 (h : CSh M c r) {k : Int} (h0 : 0 ≤ k) (h1 : k < 96) : aI (WX M c R F S) 10 (r + 7) (zi k) = some (mI M (r + 7) k.toNat) := c_aR h (by omega) h.2.2.2.1.2.2.1.2.2.2.2.2.2.1 h.2.2.2.1.2.2.2.2.2.2.2.2.2.1 h0 h1 (by omega)
theorem c_r15 (h : CSh M c r) : gO (WX M c R F S) 6 r 15 = some (r + 8) := i_gO h.2.2.2.1.1 h.2.2.2.1.2.1.2.2.2.2.2.2.2
theorem c_a15 (h : CSh M c r) {k : Int} (h0 : 0 ≤ k) (h1 : k < 20) : aI (WX M c R F S) 10 (r + 8) (zi k) = some (mI M (r + 8) k.toNat) := c_aR h (by omega) h.2.2.2.1.2.2.1.2.2.2.2.2.2.2 h.2.2.2.1.2.2.2.2.2.2.2.2.2.2 h0 h1 (by omega)
theorem up1_at {f : Nat → Int32} {k : Nat} {v : Int32} : up1 f k v k = v := if_pos rfl
theorem up1_ne {f : Nat → Int32} {k j : Nat} {v : Int32} (h : j ≠ k) : up1 f k v j = f j := if_neg h
theorem c_now (h : CSh M c r) {k : Nat} : gI (WX M c R F S) 1 (c + 10) k = some (R 0 k) := x_gB (M := WF M (c + 60) F S) (wx_B (F := F) (S := S) h)
theorem c_thisYear (h : CSh M c r) (hR : RM B R) (hN : BN B) : g_X3_thisYear n (WX M c R F S) c = some (zi (yearZ B), WX M c R F S) := by
  unfold g_X3_thisYear
  rw [c_o1 h, i_sb, c_now h, i_sb, if_neg (by decide), hR.1.1]
  show some (zi (B 0) / zi 4, _) = _
  rw [zi_div hN.1 (by have := hN.2; omega) (by omega) (by omega)]
  rfl
theorem c_beginReckoning (h : CSh M c r) (hU : RU M r nt T tr sl bu as) (hH : RH B nt R) (hn : 5 < n) {t : Int} (t0 : 0 ≤ t) (t1 : t < nt) (hnt : nt ≤ 4) : ∃ F1, g_X3_beginReckoning n (WX M c R F S) c (zi t) = some ((), WX M c R F1 (zS S 5)) ∧ FOk F1 (T 0) (tr (8 * t + 1)) (T 1) (T 2) (B (1281 + 2 * t)) (B (1282 + 2 * t)) := by
  have hB := wx_B (F := F) (S := S) h
  obtain ⟨⟨u0, u7, u8, u9, -⟩, ut, -⟩ := hU
  have hu := ut t t0 t1
  have hh := hH t t0 t1
  refine ⟨up1 (up1 (up1 (up1 (up1 (up1 F 3 (zi (T 0))) 4 (zi (tr (8 * t + 1)))) 5 (zi (T 1))) 6 (zi (T 2))) 1 (zi (B (1281 + 2 * t)))) 2 (zi (B (1282 + 2 * t))), ?_, ?_⟩
  · have b3 : ∀ F S, gO (WX M c R F S) 1 (c + 10) 3 = some (c + 10 + 1) := fun F S => x_o3 (M := WF M (c + 60) F S) (wx_B (F := F) (S := S) h)
    have b4 : ∀ F S, gO (WX M c R F S) 1 (c + 10) 4 = some (c + 10 + 2) := fun F S => x_o4 (M := WF M (c + 60) F S) (wx_B (F := F) (S := S) h)
    have a3 : ∀ F S, aI (WX M c R F S) 10 (c + 10 + 1) (zi t) = some (R 1 t.toNat) := fun F S => x_a3 (M := WF M (c + 60) F S) (wx_B (F := F) (S := S) h) t0 (by omega)
    have a4 : ∀ F S, aI (WX M c R F S) 10 (c + 10 + 2) (zi t) = some (R 2 t.toNat) := fun F S => x_a4 (M := WF M (c + 60) F S) (wx_B (F := F) (S := S) h) t0 (by omega)
    unfold g_X3_beginReckoning
    rw [c_o2 h, i_sb, c_o0 h, i_sb, c_gR h, i_sb, c_pF h, i_sb, c_o2 h, i_sb, c_o0 h, i_sb, c_r2 h, i_sb, c_a2 h t0 (by omega), i_sb, c_pF h, i_sb, c_o2 h, i_sb, c_o0 h, i_sb, c_gR h, i_sb, c_pF h, i_sb, c_o2 h, i_sb, c_o0 h, i_sb, c_gR h, i_sb, c_pF h, i_sb, c_o2 h, i_sb, c_o1 h, i_sb, b3, i_sb, a3, i_sb, c_pF h, i_sb, c_o2 h, i_sb, c_o1 h, i_sb, b4, i_sb, a4, i_sb, c_pF h, i_sb, u7, u8, u9, hu.2.1, hh.1, hh.2]
    generalize up1 (up1 (up1 (up1 (up1 (up1 F 3 (zi (T 0))) 4 (zi (tr (8 * t + 1)))) 5 (zi (T 1))) 6 (zi (T 2))) 1 (zi (B (1281 + 2 * t)))) 2 (zi (B (1282 + 2 * t))) = F1
    rw [show (WX M c R F1 S, (0 : Int32)) = (fun i : Nat => (WX M c R F1 (zS S i), zi (i : Int))) 0 by
      have : zS S 0 = S := by funext i; unfold zS; rw [if_neg (by omega)]
      show _ = (WX M c R F1 (zS S 0), zi 0)
      rw [this]; rfl]
    rw [loop_k (fun i : Nat => (WX M c R F1 (zS S i), zi (i : Int))) (WX M c R F1 (zS S 5), zi 5) 5 (fun i hi => ?_) ?_ n hn, i_sb]
    · dsimp only
      rw [if_pos (by show zi 5 ≤ zi ((5 : Nat) : Int); exact Int32.le_refl _)]; rfl
    · dsimp only
      rw [if_neg (by show ¬ (zi 5 ≤ zi (i : Int)); rw [zi_le (by omega) (by omega) (by omega) (by omega)]; omega), c_o2 h, i_sb, c_oF h, i_sb]
      show (wJ _ (c + 61) (zi i) (zj 0)).bind _ = _
      rw [c_wS h (by omega) (by omega), i_sb]
      have e2 : upZ (zS S i) i 0 = zS S (i + 1) := by
        funext j
        unfold upZ zS
        by_cases hj : j = (i : Int)
        · rw [if_pos hj, if_pos (by omega)]
        · rw [if_neg hj]
          by_cases hr : 0 ≤ j ∧ j < (i : Int)
          · rw [if_pos hr, if_pos (by omega)]
          · rw [if_neg hr, if_neg (by omega)]
      rw [e2, show zi (i : Int) + 1 = zi ((i + 1 : Nat) : Int) from zi_add (i : Int) 1]
  · unfold FOk
    exact ⟨rfl, rfl, rfl, rfl, rfl, rfl⟩
def qS (B S : Int → Int) (t q : Int) : Nat → Int → Int
  | 0 => S
  | k + 1 => aS B (qS B S t q k) t (q + k) 5
theorem c_addQuarters (h : CSh M c r) (hR : RM B R) (hB : BS B) (hn : 5 < n) {t q : Int} {m : Nat} (t0 : 0 ≤ t) (t1 : t < 4) (q0 : 0 ≤ q) (q1 : q + m ≤ 64) (hm : m < n) : g_X3_addQuarters n (WX M c R F S) c (zi t) (zi q) (zi (m : Int)) = some ((), WX M c R F (qS B S t q m)) := by
  have hb : ∀ S, BSh (WF M (c + 60) F S) (c + 10) := fun S => h.2.2.1
  unfold g_X3_addQuarters
  rw [show (WX M c R F S, zi q) = (fun i : Nat => (WX M c R F (qS B S t q i), zi (q + i))) 0 by
    show _ = (WX M c R F S, zi (q + ((0 : Nat) : Int)))
    rw [show q + ((0 : Nat) : Int) = q by omega]]
  rw [loop_k (fun i : Nat => (WX M c R F (qS B S t q i), zi (q + i))) (WX M c R F (qS B S t q m), zi (q + m)) m (fun i hi => ?_) ?_ n hm, i_sb]
  · dsimp only
    rw [zi_add, if_pos (Int32.le_refl _)]
  · dsimp only
    rw [zi_add, if_neg (by rw [zi_le (by omega) (by omega) (by omega) (by omega)]; omega)]
    show (loopF _ n (WX M c R F (qS B S t q i), 0)).bind _ = some (Sum.inl (WX M c R F (aS B (qS B S t q i) t (q + i) 5), zi (q + ((i + 1 : Nat) : Int))))
    generalize qS B S t q i = S1
    rw [show (WX M c R F S1, (0 : Int32)) = (fun j : Nat => (WX M c R F (aS B S1 t (q + i) j), zi (j : Int))) 0 by
      have : aS B S1 t (q + i) 0 = S1 := by funext i; unfold aS; rw [if_neg (by omega)]
      show _ = (WX M c R F (aS B S1 t (q + i) 0), zi 0)
      rw [this]; rfl]
    rw [loop_k (fun j : Nat => (WX M c R F (aS B S1 t (q + i) j), zi (j : Int))) (WX M c R F (aS B S1 t (q + i) 5), zi 5) 5 (fun j hj => ?_) ?_ n hn, i_sb]
    · show some (Sum.inl (_, zi (q + i) + zi 1)) = _
      rw [zi_add, show q + (i : Int) + 1 = q + ((i + 1 : Nat) : Int) by omega]
    · dsimp only
      rw [if_pos (by show zi 5 ≤ zi ((5 : Nat) : Int); exact Int32.le_refl _)]; rfl
    · dsimp only
      have hx := x_sumOf (n := n) (hb (aS B S1 t (q + i) j)) hR (t := t) (q := q + i) (w := (j : Int)) t0 t1 (by omega) (by omega) (by omega) (by omega)
      obtain ⟨hB1, hB2⟩ := hB.1 (1 + 320 * t + 5 * (q + i) + j) (by omega) (by omega)
      rw [if_neg (by show ¬ (zi 5 ≤ zi (j : Int)); rw [zi_le (by omega) (by omega) (by omega) (by omega)]; omega), c_o2 h, i_sb, c_oF h, i_sb, c_S h (by omega) (by omega), i_sb, c_o1 h, i_sb, c_kB h]
      show bd (g_X2_sumOf n (WR (WF M (c + 60) F (aS B S1 t (q + i) j)) (c + 10) R) (c + 10) _ _ _) _ = _
      rw [hx, i_bd, zi_64 (by omega) hB2, zj_add]
      show (wJ (WX M c R F (aS B S1 t (q + i) j)) _ _ _).bind _ = _
      rw [c_wS h (by omega) (by omega), i_sb]
      have e2 : upZ (aS B S1 t (q + i) j) j (aS B S1 t (q + i) j j + B (1 + 320 * t + 5 * (q + i) + j)) = aS B S1 t (q + i) (j + 1) := by
        funext k
        unfold upZ aS
        by_cases hk : k = (j : Int)
        · subst hk
          rw [if_pos rfl, if_neg (by omega), if_pos (by omega)]
        · rw [if_neg hk]
          by_cases hr : 0 ≤ k ∧ k < (j : Int)
          · rw [if_pos hr, if_pos (by omega)]
          · rw [if_neg hr, if_neg (by omega)]
      rw [e2, show zi (j : Int) + 1 = zi ((j + 1 : Nat) : Int) from zi_add (j : Int) 1]
theorem c_ofQuarter (h : CSh M c r) (hU : RU M r nt T tr sl bu as) (hH : RH B nt R) (hR : RM B R) (hB : BS B) (hT : told3 T) (hn : 5 < n) {t q : Int} (t0 : 0 ≤ t) (t1 : t < nt) (hnt : nt ≤ 4) (q0 : 0 ≤ q) (q1 : q < 64) : ∃ F1 S1, g_X3_ofQuarter n (WX M c R F S) c (zi t) (zi q) = some (c + 60, WX M c R F1 S1) ∧ FOk F1 (T 0) (tr (8 * t + 1)) (T 1) (T 2 / 4) (B (1281 + 2 * t)) (B (1282 + 2 * t)) ∧ ∀ w : Int, 0 ≤ w → w < 5 → S1 w = qSum B t q w := by
  obtain ⟨F1, g1, f1⟩ := c_beginReckoning (n := n) (F := F) (S := S) h hU hH hn t0 t1 hnt
  have g2 := c_addQuarters (n := n) (F := F1) (S := zS S 5) (m := 1) h hR hB hn t0 (show t < 4 by omega) q0 (by omega) (by omega)
  have t2 := hT.2.2
  refine ⟨up1 F1 6 (zi (T 2 / 4)), qS B (zS S 5) t q 1, ?_, ?_, fun w w0 w1 => ?_⟩
  · unfold g_X3_ofQuarter
    rw [c_kC h, g1, i_bd, c_kC h]
    show bd (g_X3_addQuarters n _ c (zi t) (zi q) (zi ((1 : Nat) : Int))) _ = _
    rw [g2, i_bd, c_o2 h, i_sb, c_o0 h, i_sb, c_gR h, i_sb, if_neg (by decide), hU.1.2.2.2.1]
    show (pI _ 5 (c + 60) 6 (zi (T 2) / zi 4)).bind _ = _
    rw [zi_div t2.1 (by omega) (by omega) (by omega), c_pF h, i_sb, c_o2 h, i_sb]
  · obtain ⟨f3, f4, f5, f6, f7, f8⟩ := f1
    exact ⟨(up1_ne (by omega)).trans f3, (up1_ne (by omega)).trans f4, (up1_ne (by omega)).trans f5, up1_at, (up1_ne (by omega)).trans f7, (up1_ne (by omega)).trans f8⟩
  · show aS B (zS S 5) t (q + ((0 : Nat) : Int)) 5 w = _
    rw [aS_at w0 w1, show q + ((0 : Nat) : Int) = q by omega]
    unfold zS qSum
    rw [if_pos (by omega), Int.zero_add]
theorem c_ofYear (h : CSh M c r) (hU : RU M r nt T tr sl bu as) (hH : RH B nt R) (hR : RM B R) (hB : BS B) (hn : 5 < n) {t y : Int} (t0 : 0 ≤ t) (t1 : t < nt) (hnt : nt ≤ 4) (y0 : 0 ≤ y) (y1 : y < 16) : ∃ F1 S1, g_X3_ofYear n (WX M c R F S) c (zi t) (zi y) = some (c + 60, WX M c R F1 S1) ∧ FOk F1 (T 0) (tr (8 * t + 1)) (T 1) (T 2) (B (1281 + 2 * t)) (B (1282 + 2 * t)) ∧ ∀ w : Int, 0 ≤ w → w < 5 → S1 w = ySum B t y w := by
  obtain ⟨F1, g1, f1⟩ := c_beginReckoning (n := n) (F := F) (S := S) h hU hH hn t0 t1 hnt
  have g2 := c_addQuarters (n := n) (F := F1) (S := zS S 5) (m := 4) (q := y * 4) h hR hB hn t0 (show t < 4 by omega) (by omega) (by omega) (by omega)
  refine ⟨F1, qS B (zS S 5) t (y * 4) 4, ?_, f1, fun w w0 w1 => ?_⟩
  · unfold g_X3_ofYear
    rw [c_kC h, g1, i_bd, c_kC h]
    show bd (g_X3_addQuarters n _ c (zi t) (zi y * zi 4) (zi ((4 : Nat) : Int))) _ = _
    rw [zi_mul, g2, i_bd, c_o2 h, i_sb]
  · show aS B (aS B (aS B (aS B (zS S 5) t (y * 4 + ((0 : Nat) : Int)) 5) t (y * 4 + ((1 : Nat) : Int)) 5) t (y * 4 + ((2 : Nat) : Int)) 5) t (y * 4 + ((3 : Nat) : Int)) 5 w = _
    rw [aS_at w0 w1, aS_at w0 w1, aS_at w0 w1, aS_at w0 w1]
    unfold zS ySum
    rw [if_pos (by omega), show (y * 4 + ((0 : Nat) : Int)) = 4 * y by omega, show (y * 4 + ((1 : Nat) : Int)) = 4 * y + 1 by omega, show (y * 4 + ((2 : Nat) : Int)) = 4 * y + 2 by omega, show (y * 4 + ((3 : Nat) : Int)) = 4 * y + 3 by omega, Int.zero_add]
end XRECK
