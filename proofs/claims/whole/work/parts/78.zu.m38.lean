/-! ===== PURE 93: the reference reads a text ===== -/
def y_K (n : Nat) (q : MemT × Int32) : Option (Int32 × MemT) := (if q.2 = 0 then rz 0 q.1 else (gI q.1 8 139 8).bind (fun v8 => (if v8 = 4 then chk q.1 8 139 (bd (g_X10_token n q.1 139) (fun r11 M12 => rz 1 M12)) else chk q.1 8 139 (bd (g_X10_wrong n q.1 139 1) (fun r9 M10 => rz r9 M10)))))
def yrStep (n : Nat) : MemT × Int32 → Option ((MemT × Int32) ⊕ (Int32 × MemT)) := (fun (s : MemT × Int32) => (fun (M12 : MemT) (v13 : Int32) => (gI M12 8 139 8).bind (fun v15 => (if v15 = 0 then chk M12 8 139 (bd (g_X10_keepText n M12 139) (fun r18 M19 => some (.inr ((v13, M19))))) else chk M12 8 139 (bd (g_X10_lineRead n M12 139) (fun r16 M17 => (if r16 = 0 then some (.inr (((-1), M17))) else some (.inl (M17, v13 + 1)))))))) s.1 s.2)
def RDy (n : Nat) (M : MemT) (g0 : Nat → Int32) (A0 : Nat → Nat → Int32) (u : Nat → Int) (len : Nat) (out : (Int × Nat) ⊕ (PSt × Nat)) (run : Option (Int32 × MemT)) : Prop :=
  (∃ c pl g' A', out = .inl (c, pl) ∧ run = some (-1, YX M g' A') ∧ g' 4 = zi c ∧ g' 5 = zi (pl : Int) ∧ gFr g0 g' ∧ AFr A0 A' ∧ TRAf A') ∨
  (∃ s' c g' A' w' e, out = .inr (s', c) ∧ c ≤ 700 ∧ run = bd (g_X10_keepText n (YX M (AHf u len g' e w') A') 139) (fun _ M19 => some (zi (c : Int), M19)) ∧ RYs g0 A0 len g' A' s' ∧ ROk s')
section M38
variable {M MX : MemT} {g g0 g' : Nat → Int32} {A A0 : Nat → Nat → Int32} {u : Nat → Int} {n len p S0 sX : Nat} {e k w a v c d : Int32} {s : PSt}
theorem y_fin {out : (Int × Nat) ⊕ (PSt × Nat)} {code : Option (Int32 × MemT)} (hS : MShape M) (hu : YT M u) (hl : len ≤ 700) (hn : 1000 < n) (h : LYo M g0 A0 u len out code) : LYo M g0 A0 u len (pb out (fun y => if tkK u len y.2 = 3 then .inr (y.1, tkE u len y.2) else .inl (1, tkS u len y.2))) (bd code (fun r M1 => y_K n (M1, r))) := by
  rcases h with ⟨c, pl, g', A', h1, h2, h3, h4⟩ | ⟨s', e, g', A', w', h1, he, h2, h3⟩
  · refine Or.inl ⟨c, pl, g', A', by rw [h1]; rfl, ?_, h3, h4⟩
    rw [h2, i_bd]
    unfold y_K
    dsimp only
    rw [if_pos (show zi 0 = (0 : Int32) from rfl)]
    exact rz_0
  · obtain ⟨e1, e2⟩ := tkE_r (u := u) he
    obtain ⟨-, -, -, -, k5, -⟩ := kind_w (u := u) he
    have hKr := tkKM_r (u := u) (len := len) (p := e)
    have e4' : (zi (tkKM u len e) = (4 : Int32)) = (tkKM u len e = 4) := zi_eq (b := 4) (by omega) (by omega) (by omega) (by omega)
    rw [h1, pb_r, h2, i_bd]
    unfold y_K
    dsimp only
    rw [if_neg (show ¬ (zi 1 = (0 : Int32)) by decide), y_gI hS, i_sb, show AHf u len g' e w' 8 = zi (tkKM u len e) from rfl]
    by_cases c : tkK u len e = 3
    · rw [if_pos c, if_pos (by rw [e4']; exact k5.mpr c), y_k hS, y_tokA hS hu h3.2.1.2.2.1 hl he hn, i_bd]
      exact Or.inr ⟨s', _, g', A', _, rfl, e2, rz_1, h3⟩
    · rw [if_neg c, if_neg (by rw [e4']; exact fun q => c (k5.mp q)), y_k hS, y_wrong hS, i_bd]
      exact Or.inl ⟨1, tkS u len e, _, A', rfl, rz_0, rfl, rfl, gFr_t h3.1.1 gFr_w, h3.1.2⟩
theorem y_line (hS : MShape M) (hu : YT M u) (hl : len ≤ 700) (hpl : p ≤ len) (hn : 1000 < n) (hR : RYs g0 A0 len g A s) (hg : ROk s) : LYo M g0 A0 u len (lineR s u len p) (g_X10_lineRead n (YX M (AHf u len g p w) A) 139) := by
  obtain ⟨e1, e2⟩ := tkE_r (u := u) hpl
  obtain ⟨-, -, k1, k2, -⟩ := kind_w (u := u) hpl
  have hKr := tkKM_r (u := u) (len := len) (p := p)
  have e1' : (zi (tkKM u len p) = (1 : Int32)) = (tkKM u len p = 1) := zi_eq (b := 1) (by omega) (by omega) (by omega) (by omega)
  have fl : LYo M g0 A0 u len (.inl (1, tkS u len p)) (chk (YX M (AHf u len g p w) A) 8 139 (bd (g_X10_wrong n (YX M (AHf u len g p w) A) 139 1) (fun r2 M3 => rz r2 M3))) := by
    rw [y_k hS, y_wrong hS, i_bd]
    exact Or.inl ⟨1, tkS u len p, _, A, rfl, rz_0, rfl, rfl, gFr_t hR.1.1 gFr_w, hR.1.2⟩
  unfold g_X10_lineRead
  rw [y_gI hS, i_sb, show AHf u len g p w 8 = zi (tkKM u len p) from rfl]
  by_cases c1 : tkK u len p = 1
  · cases hf : wdX u len p with
    | none =>
      rw [if_neg (show ¬ (zi (tkKM u len p) = (1 : Int32)) by rw [e1']; exact fun q => (k1.mp q).2 hf), show lineR s u len p = .inl (1, tkS u len p) by unfold lineR; rw [if_pos c1, hf]]
      exact fl
    | some j =>
      have hj : j < 13 := by have := (fnd_lt (show fnd (mtX u (tkS u len p) (tkE u len p)) 0 13 = some j from hf)).2.1; omega
      have k3 := k2 j c1 hf
      have hst : AHf u len g p w = mkR g (zi (tkE u len p : Int)) (zi (tkKM u len p)) (zi ((swW j : Nat) : Int)) (zi (tkS u len p : Int)) := by unfold AHf; rw [k3]
      rw [if_pos (show zi (tkKM u len p) = (1 : Int32) by rw [e1']; exact k1.mpr ⟨c1, by rw [hf]; simp⟩), y_gI hS, i_sb, show AHf u len g p w 9 = tkWM u len p w from rfl, k3, i_jp, show lineR s u len p = pb (lnR s u len j (tkS u len p) (tkE u len p)) (fun y => if tkK u len y.2 = 3 then .inr (y.1, tkE u len y.2) else .inl (1, tkS u len y.2)) by unfold lineR; rw [if_pos c1, hf]]
      generalize hX : YX M (AHf u len g p w) A = X at *
      have hX' : X = YX M (mkR g (zi (tkE u len p : Int)) (zi (tkKM u len p)) (zi ((swW j : Nat) : Int)) (zi (tkS u len p : Int))) A := by rw [← hX, hst]
      have hk : ∀ {β : Type} {x : Option β}, chk X 8 139 x = x := fun {β x} => by rw [← hX]; exact y_k hS
      rcases (show j = 0 ∨ j = 1 ∨ j = 2 ∨ j = 3 ∨ j = 4 ∨ j = 5 ∨ j = 6 ∨ j = 7 ∨ j = 8 ∨ j = 9 ∨ j = 10 ∨ j = 11 ∨ j = 12 by omega) with q | q | q | q | q | q | q | q | q | q | q | q | q <;> subst q
      · rw [if_pos (by decide), hk]
        exact y_fin hS hu hl hn (by rw [hX']; exact y_lnTr hS hu hl e2 hn hR hg)
      · rw [if_neg (by decide), if_pos (by decide), hk]
        exact y_fin hS hu hl hn (by rw [hX']; exact y_lnHd hS hu hl e2 hn hR hg)
      · rw [if_neg (by decide), if_neg (by decide), if_pos (by decide), hk]
        exact y_fin hS hu hl hn (by rw [hX']; exact y_lnSt hS hu hl e2 hn hR hg)
      · rw [if_neg (by decide), if_neg (by decide), if_neg (by decide), if_pos (by decide), hk]
        exact y_fin hS hu hl hn (by rw [hX']; exact y_lnRd hS hu hl e2 hn hR)
      · rw [if_neg (by decide), if_neg (by decide), if_neg (by decide), if_neg (by decide), if_pos (by decide), hk]
        exact y_fin hS hu hl hn (by rw [hX']; exact y_lnN4 hS hu hl e2 hn hR)
      · rw [if_neg (by decide), if_neg (by decide), if_neg (by decide), if_neg (by decide), if_neg (by decide), if_pos (by decide), hk]
        exact y_fin hS hu hl hn (by rw [hX']; exact y_lnN5 hS hu hl e2 hn hR)
      · rw [if_neg (by decide), if_neg (by decide), if_neg (by decide), if_neg (by decide), if_neg (by decide), if_neg (by decide), if_pos (by decide), hk]
        exact y_fin hS hu hl hn (by rw [hX']; exact y_lnN6 hS hu hl e2 hn hR)
      · rw [if_neg (by decide), if_neg (by decide), if_neg (by decide), if_neg (by decide), if_neg (by decide), if_neg (by decide), if_neg (by decide), if_pos (by decide), hk]
        exact y_fin hS hu hl hn (by rw [hX']; exact y_lnSl hS hu hl e2 hn hR hg)
      · rw [if_neg (by decide), if_neg (by decide), if_neg (by decide), if_neg (by decide), if_neg (by decide), if_neg (by decide), if_neg (by decide), if_neg (by decide), if_pos (by decide), hk]
        exact y_fin hS hu hl hn (by rw [hX']; exact y_lnBu hS hu hl e2 hn hR hg)
      · rw [if_neg (by decide), if_neg (by decide), if_neg (by decide), if_neg (by decide), if_neg (by decide), if_neg (by decide), if_neg (by decide), if_neg (by decide), if_neg (by decide), if_pos (by decide), hk]
        exact y_fin hS hu hl hn (by rw [hX']; exact y_lnAs hS hu hl e2 hn hR hg)
      all_goals
        rw [if_neg (by decide), if_neg (by decide), if_neg (by decide), if_neg (by decide), if_neg (by decide), if_neg (by decide), if_neg (by decide), if_neg (by decide), if_neg (by decide), if_neg (by decide)]
        exact fl
  · rw [if_neg (show ¬ (zi (tkKM u len p) = (1 : Int32)) by rw [e1']; exact fun q => c1 (k1.mp q).1), show lineR s u len p = .inl (1, tkS u len p) by unfold lineR; rw [if_neg c1]]
    exact fl
theorem loopS_n {σ T : Type} {step : σ → Option (σ ⊕ T)} {s : σ} {N : Nat} (h : step s = none) : loopF step (N + 1) s = none := by
  show (match step s with | none => none | some (.inl s1) => loopF step N s1 | some (.inr t) => some t) = _
  rw [h]
theorem loopS_b {σ α : Type} {step : σ → Option (σ ⊕ (Int32 × MemT))} {s : σ} {N : Nat} {v : Int32} {kt : Option (α × MemT)} (h : step s = bd kt (fun _ M19 => some (.inr (v, M19)))) : loopF step (N + 1) s = bd kt (fun _ M19 => some (v, M19)) := by
  cases kt with
  | none => exact loopS_n h
  | some x => exact loopS_r h
theorem y_reads (hp : PSh MX sX) (hx : XT MX u) (hS : MShape M) (hu : YT M u) (hl : len ≤ 700) (hn : 1000 < n) : ∀ m c p (g : Nat → Int32) A w s (f hd : Nat → Int32) Z, m + c = 701 → c ≤ p → p ≤ len → f 3 = zi (len : Int) → RXs f hd Z s → ROk s → RYs g0 A0 len g A s → ∀ N, m < N → RDy n M g0 A0 u len (txR u len m c s p) (loopF (yrStep n) N (YX M (AHf u len g p w) A, zi (c : Int))) := by
  intro m
  induction m with
  | zero => intro c p g A w s f hd Z h1 h2 h3; omega
  | succ m ih =>
    intro c p g A w s f hd Z h1 h2 hpl h3 hX hg hR N hN
    obtain ⟨N', rfl⟩ : ∃ N', N = N' + 1 := ⟨N - 1, by omega⟩
    obtain ⟨-, -, -, -, -, k0⟩ := kind_w (u := u) hpl
    have hKr := tkKM_r (u := u) (len := len) (p := p)
    have e0' : (zi (tkKM u len p) = (0 : Int32)) = (tkKM u len p = 0) := zi_eq (b := 0) (by omega) (by omega) (by omega) (by omega)
    have hL := y_line (w := w) hS hu hl hpl hn hR hg
    have hLx := x_line hp hx h3 hl hpl hn hX hg
    by_cases c0 : tkK u len p = 0
    · rw [show txR u len (m + 1) c s p = .inr (s, c) from if_pos c0, loopS_b (v := zi (c : Int)) (kt := g_X10_keepText n (YX M (AHf u len g p w) A) 139) (by unfold yrStep; dsimp only; rw [y_gI hS, i_sb, show AHf u len g p w 8 = zi (tkKM u len p) from rfl, if_pos (by rw [e0']; exact k0.mpr c0), y_k hS])]
      exact Or.inr ⟨s, c, g, A, w, p, rfl, by omega, rfl, hR, hg⟩
    · rw [show txR u len (m + 1) c s p = pb (lineR s u len p) (fun y => txR u len m (c + 1) y.1 y.2) from if_neg c0]
      rcases hL with ⟨c', pl, g', A', q1, q2, q3, q4⟩ | ⟨s', e, g', A', w', q1, he, q2, q3⟩
      · rw [q1, loopS_r (t := (-1, YX M g' A')) (by unfold yrStep; dsimp only; rw [y_gI hS, i_sb, show AHf u len g p w 8 = zi (tkKM u len p) from rfl, if_neg (by rw [e0']; exact fun q => c0 (k0.mp q)), y_k hS, q2, i_bd, if_pos (show zi 0 = (0 : Int32) from rfl)])]
        exact Or.inl ⟨c', pl, g', A', rfl, rfl, q3, q4⟩
      · have hpy := lineR_p hpl q1
        rcases hLx with ⟨c', pl, f', hd', Z', x1, -⟩ | ⟨s2, e', f', hd', Z', k', st', v', x1, -, -, x3, x4, x5⟩
        · rw [q1] at x1
          exact absurd x1 (by simp)
        · have hse := Sum.inr.inj (q1.symm.trans x1)
          have hs2 : s' = s2 := congrArg Prod.fst hse
          subst hs2
          rw [q1, pb_r, loopS_l (s1 := (YX M (AHf u len g' e w') A', zi (c : Int) + 1)) (by unfold yrStep; dsimp only; rw [y_gI hS, i_sb, show AHf u len g p w 8 = zi (tkKM u len p) from rfl, if_neg (by rw [e0']; exact fun q => c0 (k0.mp q)), y_k hS, q2, i_bd, if_neg (show ¬ (zi 1 = (0 : Int32)) by decide)])]
          dsimp only at hpy ⊢
          rw [show zi (c : Int) + 1 = zi ((c + 1 : Nat) : Int) from zi_add (c : Int) 1]
          exact ih (c + 1) e g' A' w' s' f' hd' Z' (by omega) (by omega) he x3 x4 x5 q3 N' (by omega)
end M38
