/-! ===== PURE 79: the reference takes a token: whole ===== -/
section M24
variable {M : MemT} {g : Nat → Int32} {A : Nat → Nat → Int32} {u : Nat → Int} {n len p : Nat} {e k w a v : Int32}
theorem nMf_r {st : Nat} (hb : ∀ k : Nat, k < 700 → 0 ≤ u k ∧ u k < 256) : ∀ j, (∀ i, st ≤ i → i < st + j → i < 700 ∧ isDg (u i) = true) → 0 ≤ nMf u st j ∧ nMf u st j ≤ 1000000 := by
  intro j
  induction j with
  | zero => intro _; exact ⟨by show (0 : Int) ≤ 0; omega, by show (0 : Int) ≤ 1000000; omega⟩
  | succ j ih =>
    intro h
    have h1 := ih (fun i q1 q2 => h i q1 (by omega))
    have h2 := h (st + j) (by omega) (by omega)
    have h3 : 48 ≤ u (st + j) ∧ u (st + j) ≤ 57 := of_decide_eq_true h2.2
    show 0 ≤ (if nMf u st j ≤ 99999 then 10 * nMf u st j + u (st + j) - 48 else nMf u st j) ∧ (if nMf u st j ≤ 99999 then 10 * nMf u st j + u (st + j) - 48 else nMf u st j) ≤ 1000000
    split <;> omega
theorem y_blk (hS : MShape M) (hu : YT M u) (h6 : g 6 = zi (len : Int)) (hl : len ≤ 700) (hpl : p ≤ len) (hn : 1000 < n) : loopF (fun (s : MemT) => (fun (M1 : MemT)  => (gI M1 8 139 7).bind (fun v3 => (gI M1 8 139 6).bind (fun v4 => (if v4 ≤ v3 then some (.inr M1) else (gO M1 8 139 0).bind (fun j5 => (gI M1 8 139 7).bind (fun v6 => (aI M1 10 j5 v6).bind (fun v7 => jp (fun (s : MemT) => (fun (M9 : MemT)  => (gI M9 8 139 7).bind (fun v10 => (pI M9 8 139 7 (v10 + 1)).bind (fun M11 => (some (.inl M11) : Option (MemT ⊕ MemT))))) s) (fun K8 => (if v7 = 10 then K8 M1 else (gO M1 8 139 0).bind (fun j12 => (gI M1 8 139 7).bind (fun v13 => (aI M1 10 j12 v13).bind (fun v14 => (if v14 = 32 then K8 M1 else some (.inr M1)))))))))))))) s) n (YX M (mkR g (zi (p : Int)) k w a) A) = some (YX M (mkR g (zi (tkS u len p : Int)) k w a) A) := by
  refine scan_loop (fun i : Nat => YX M (mkR g (zi (i : Int)) k w a) A) (fun i : Nat => YX M (mkR g (zi (i : Int)) k w a) A) isBl u p len (fun i i0 i1 hj c => ?_) (fun i i0 i1 c => ?_) (fun i0 => ?_) hpl (by omega)
  · have hb := (hu.1 i (by omega)).2
    have hc : u i = 10 ∨ u i = 32 := of_decide_eq_true c
    have e1 : (zi (u i) = (10 : Int32)) = (u i = 10) := zi_eq (b := 10) (by omega) (by omega) (by omega) (by omega)
    have e2 : (zi (u i) = (32 : Int32)) = (u i = 32) := zi_eq (b := 32) (by omega) (by omega) (by omega) (by omega)
    have fin : (gI (YX M (mkR g (zi (i : Int)) k w a) A) 8 139 7).bind (fun v10 => (pI (YX M (mkR g (zi (i : Int)) k w a) A) 8 139 7 (v10 + 1)).bind (fun M11 => (some (.inl M11) : Option (MemT ⊕ MemT)))) = some (.inl (YX M (mkR g (zi ((i + 1 : Nat) : Int)) k w a) A)) := by
      rw [y_gI hS, i_sb, mk_7, y_pI hS, i_sb, mk_u7, show zi (i : Int) + 1 = zi ((i + 1 : Nat) : Int) from zi_add (i : Int) 1]
    dsimp only
    rw [y_gI hS, i_sb, y_gI hS, i_sb, mk_7, mk_o (by omega), h6, if_neg (by rw [zi_le (by omega) (by omega) (by omega) (by omega)]; omega), y_o0 hS, i_sb, i_sb, y_tp hS hu (by omega), i_sb, i_jp]
    by_cases d : u i = 10
    · rw [if_pos (by rw [e1]; exact d)]
      exact fin
    · rw [if_neg (by rw [e1]; exact d), i_sb, i_sb, y_tp hS hu (by omega), i_sb, if_pos (by rw [e2]; omega)]
      exact fin
  · have hb := (hu.1 i (by omega)).2
    have hc : ¬ (u i = 10 ∨ u i = 32) := of_decide_eq_false c
    have e1 : (zi (u i) = (10 : Int32)) = (u i = 10) := zi_eq (b := 10) (by omega) (by omega) (by omega) (by omega)
    have e2 : (zi (u i) = (32 : Int32)) = (u i = 32) := zi_eq (b := 32) (by omega) (by omega) (by omega) (by omega)
    dsimp only
    rw [y_gI hS, i_sb, y_gI hS, i_sb, mk_7, mk_o (by omega), h6, if_neg (by rw [zi_le (by omega) (by omega) (by omega) (by omega)]; omega), y_o0 hS, i_sb, i_sb, y_tp hS hu (by omega), i_sb, i_jp, if_neg (by rw [e1]; omega), i_sb, i_sb, y_tp hS hu (by omega), i_sb, if_neg (by rw [e2]; omega)]
  · dsimp only
    rw [y_gI hS, i_sb, y_gI hS, i_sb, mk_7, mk_o (by omega), h6, if_pos (Int32.le_refl _)]
theorem y_ltr (hS : MShape M) (hu : YT M u) (h6 : g 6 = zi (len : Int)) (hl : len ≤ 700) (hpl : p ≤ len) (hn : 1000 < n) : loopF (fun (s : MemT) => (fun (M24 : MemT)  => (gI M24 8 139 7).bind (fun v26 => chk M24 8 139 (bd (g_X10_isSmall n M24 139 v26) (fun r27 M28 => (if r27 = 0 then some (.inr M28) else (gI M28 8 139 7).bind (fun v29 => (pI M28 8 139 7 (v29 + 1)).bind (fun M30 => (some (.inl M30) : Option (MemT ⊕ MemT))))))))) s) n (YX M (mkR g (zi (p : Int)) k w a) A) = some (YX M (mkR g (zi (scnF isLt u (len - p) p : Int)) k w a) A) := by
  have h6' : ∀ i, mkR g (zi (i : Int)) k w a 6 = zi (len : Int) := fun i => (mk_o (by omega)).trans h6
  refine scan_loop (fun i : Nat => YX M (mkR g (zi (i : Int)) k w a) A) (fun i : Nat => YX M (mkR g (zi (i : Int)) k w a) A) isLt u p len (fun i i0 i1 hj c => ?_) (fun i i0 i1 c => ?_) (fun i0 => ?_) hpl (by omega)
  · dsimp only
    rw [y_gI hS, i_sb, mk_7, y_k hS, y_sm hS hu (h6' _) hl (by omega), i_bd, if_pos (show i < len ∧ isLt (u i) = true from ⟨i1, c⟩), if_neg (show ¬ (zi 1 = (0 : Int32)) by decide), y_gI hS, i_sb, mk_7, y_pI hS, i_sb, mk_u7, show zi (i : Int) + 1 = zi ((i + 1 : Nat) : Int) from zi_add (i : Int) 1]
  · dsimp only
    rw [y_gI hS, i_sb, mk_7, y_k hS, y_sm hS hu (h6' _) hl (by omega), i_bd, if_neg (show ¬ (i < len ∧ isLt (u i) = true) from fun q => by rw [c] at q; exact absurd q.2 (by decide))]
    rfl
  · dsimp only
    rw [y_gI hS, i_sb, mk_7, y_k hS, y_sm hS hu (h6' _) hl (by omega), i_bd, if_neg (show ¬ (len < len ∧ isLt (u len) = true) from fun q => by omega)]
    rfl
theorem y_dgt (hS : MShape M) (hu : YT M u) (h6 : g 6 = zi (len : Int)) (hl : len ≤ 700) (hpl : p ≤ len) (hn : 1000 < n) : loopF (fun (s : MemT) => (fun (M55 : MemT)  => (gI M55 8 139 7).bind (fun v57 => chk M55 8 139 (bd (g_X10_isDigit n M55 139 v57) (fun r58 M59 => (if r58 = 0 then some (.inr M59) else (gI M59 8 139 9).bind (fun v60 => jp (fun (s : MemT × Int32) => (fun (M62 : MemT) (v63 : Int32) => (pI M62 8 139 9 v63).bind (fun M64 => (gI M64 8 139 7).bind (fun v65 => (pI M64 8 139 7 (v65 + 1)).bind (fun M66 => (some (.inl M66) : Option (MemT ⊕ MemT)))))) s.1 s.2) (fun K61 => (if v60 ≤ 99999 then (gI M59 8 139 9).bind (fun v68 => (gO M59 8 139 0).bind (fun j69 => (gI M59 8 139 7).bind (fun v70 => (aI M59 10 j69 v70).bind (fun v71 => K61 (M59, ((10 * v68) + v71) - 48))))) else (gI M59 8 139 9).bind (fun v67 => K61 (M59, v67)))))))))) s) n (YX M (mkR g (zi (p : Int)) k 0 a) A) = some (YX M (mkR g (zi (scnF isDg u (len - p) p : Int)) k (zi (nMf u p (scnF isDg u (len - p) p - p))) a) A) := by
  have h6' : ∀ i w, mkR g (zi (i : Int)) k w a 6 = zi (len : Int) := fun i w => (mk_o (by omega)).trans h6
  have key := scan_loop (step := fun (s : MemT) => (fun (M55 : MemT)  => (gI M55 8 139 7).bind (fun v57 => chk M55 8 139 (bd (g_X10_isDigit n M55 139 v57) (fun r58 M59 => (if r58 = 0 then some (.inr M59) else (gI M59 8 139 9).bind (fun v60 => jp (fun (s : MemT × Int32) => (fun (M62 : MemT) (v63 : Int32) => (pI M62 8 139 9 v63).bind (fun M64 => (gI M64 8 139 7).bind (fun v65 => (pI M64 8 139 7 (v65 + 1)).bind (fun M66 => (some (.inl M66) : Option (MemT ⊕ MemT)))))) s.1 s.2) (fun K61 => (if v60 ≤ 99999 then (gI M59 8 139 9).bind (fun v68 => (gO M59 8 139 0).bind (fun j69 => (gI M59 8 139 7).bind (fun v70 => (aI M59 10 j69 v70).bind (fun v71 => K61 (M59, ((10 * v68) + v71) - 48))))) else (gI M59 8 139 9).bind (fun v67 => K61 (M59, v67)))))))))) s) (fun i : Nat => YX M (mkR g (zi (i : Int)) k (zi (nMf u p (i - p))) a) A) (fun i : Nat => YX M (mkR g (zi (i : Int)) k (zi (nMf u p (i - p))) a) A) isDg u p len (fun i i0 i1 hj c => ?_) (fun i i0 i1 c => ?_) (fun i0 => ?_) (n := n) hpl (by omega)
  · dsimp only at key
    rw [Nat.sub_self] at key
    exact key
  · have hb := (hu.1 i (by omega)).2
    have hnr := nMf_r (u := u) (st := p) (fun k hk => (hu.1 k hk).2) (i - p) (fun j q1 q2 => ⟨by omega, hj j q1 (by omega)⟩)
    have e1 : (zi (nMf u p (i - p)) ≤ (99999 : Int32)) = (nMf u p (i - p) ≤ 99999) := zi_le (b := 99999) (by omega) (by omega) (by omega) (by omega)
    have ev : (10 : Int32) * zi (nMf u p (i - p)) + zi (u i) - 48 = zi (10 * nMf u p (i - p) + u i - 48) := by
      show zi 10 * zi (nMf u p (i - p)) + zi (u i) - zi 48 = _
      rw [zi_mul, zi_add, zi_sub]
    have fin : ∀ v, v = zi (nMf u p (i - p + 1)) → (pI (YX M (mkR g (zi (i : Int)) k (zi (nMf u p (i - p))) a) A) 8 139 9 v).bind (fun M64 => (gI M64 8 139 7).bind (fun v65 => (pI M64 8 139 7 (v65 + 1)).bind (fun M66 => (some (.inl M66) : Option (MemT ⊕ MemT))))) = some (.inl (YX M (mkR g (zi ((i + 1 : Nat) : Int)) k (zi (nMf u p (i + 1 - p))) a) A)) := fun v hv => by
      rw [y_pI hS, i_sb, mk_u9, y_gI hS, i_sb, mk_7, y_pI hS, i_sb, mk_u7, hv, show zi (i : Int) + 1 = zi ((i + 1 : Nat) : Int) from zi_add (i : Int) 1, show i + 1 - p = i - p + 1 by omega]
    have es : nMf u p (i - p + 1) = (if nMf u p (i - p) ≤ 99999 then 10 * nMf u p (i - p) + u i - 48 else nMf u p (i - p)) := by
      show (if nMf u p (i - p) ≤ 99999 then 10 * nMf u p (i - p) + u (p + (i - p)) - 48 else nMf u p (i - p)) = _
      rw [show p + (i - p) = i by omega]
    dsimp only
    rw [y_gI hS, i_sb, mk_7, y_k hS, y_dg hS hu (h6' _ _) hl (by omega), i_bd, if_pos (show i < len ∧ isDg (u i) = true from ⟨i1, c⟩), if_neg (show ¬ (zi 1 = (0 : Int32)) by decide), y_gI hS, i_sb, mk_9, i_jp]
    by_cases d : nMf u p (i - p) ≤ 99999
    · rw [if_pos (by rw [e1]; exact d), i_sb, y_o0 hS, i_sb, y_gI hS, i_sb, mk_7, y_tp hS hu (by omega), i_sb, ev]
      exact fin _ (by rw [es, if_pos d])
    · rw [if_neg (by rw [e1]; exact d), i_sb]
      exact fin _ (by rw [es, if_neg d])
  · dsimp only
    rw [y_gI hS, i_sb, mk_7, y_k hS, y_dg hS hu (h6' _ _) hl (by omega), i_bd, if_neg (show ¬ (i < len ∧ isDg (u i) = true) from fun q => by rw [c] at q; exact absurd q.2 (by decide))]
    rfl
  · dsimp only
    rw [y_gI hS, i_sb, mk_7, y_k hS, y_dg hS hu (h6' _ _) hl (by omega), i_bd, if_neg (show ¬ (len < len ∧ isDg (u len) = true) from fun q => by omega)]
    rfl
theorem y_tok (hS : MShape M) (hu : YT M u) (h6 : g 6 = zi (len : Int)) (hl : len ≤ 700) (hpl : p ≤ len) (hn : 1000 < n) : g_X10_token n (YX M (mkR g (zi (p : Int)) k w a) A) 139 = some ((), YX M (mkR g (zi (tkE u len p : Int)) (zi (tkKM u len p)) (tkWM u len p w) (zi (tkS u len p : Int))) A) := by
  have h6' : ∀ e k w a, mkR g e k w a 6 = zi (len : Int) := fun e k w a => (mk_o (by omega)).trans h6
  have hb := fun k hk => (hu.1 k hk).2
  obtain ⟨s1, s2⟩ := tkS_r (u := u) hpl
  obtain ⟨e1, e2⟩ := tkE_r (u := u) hpl
  have blk := y_blk (k := k) (w := w) (a := a) (A := A) hS hu h6 hl hpl hn
  have ltr := fun (hq : tkS u len p ≤ len) => y_ltr (p := tkS u len p) (k := k) (w := w) (a := zi (tkS u len p : Int)) (A := A) hS hu h6 hl hq hn
  have dgt := fun (hq : tkS u len p ≤ len) => y_dgt (p := tkS u len p) (k := 3) (a := zi (tkS u len p : Int)) (A := A) hS hu h6 hl hq hn
  dsimp only at blk ltr dgt
  unfold g_X10_token
  rw [blk, i_sb]
  dsimp only
  rw [y_gI hS, i_sb, mk_7, y_pI hS, i_sb, mk_u10, y_gI hS, i_sb, y_gI hS, i_sb, mk_7, h6']
  have eq0 : (zi (tkS u len p : Int) = zi (len : Int)) = ((tkS u len p : Int) = (len : Int)) := zi_eq (by omega) (by omega) (by omega) (by omega)
  have hE : tkE u len p = (if tkS u len p = len then len else if isLt (u (tkS u len p)) then scnF isLt u (len - tkS u len p) (tkS u len p) else if isDg (u (tkS u len p)) then scnF isDg u (len - tkS u len p) (tkS u len p) else tkS u len p + 1) := rfl
  have hKM : tkKM u len p = (if tkS u len p = len then 0 else if isLt (u (tkS u len p)) then (match wdM u len p with | some _ => 1 | none => if tkE u len p - tkS u len p ≤ 6 then 2 else 5) else if isDg (u (tkS u len p)) then 3 else if u (tkS u len p) = 59 then 4 else 5) := rfl
  have hWM : tkWM u len p w = (if tkS u len p = len then w else if isLt (u (tkS u len p)) then (match wdM u len p with | some k => zi (k : Int) | none => if tkE u len p - tkS u len p ≤ 6 then pkXf u (tkS u len p) (tkE u len p - tkS u len p) else -1) else if isDg (u (tkS u len p)) then zi (nMf u (tkS u len p) (tkE u len p - tkS u len p)) else w) := rfl
  have hwd : wdM u len p = fnd (mtM u (tkS u len p) (tkE u len p)) 0 13 := rfl
  by_cases c0 : tkS u len p = len
  · rw [if_pos (by rw [eq0]; omega), y_pI hS, i_sb, mk_u8]
    rw [if_pos c0] at hE hKM hWM
    rw [hE, hKM, hWM, c0]
    rfl
  · rw [if_neg (by rw [eq0]; omega), i_sb, y_k hS, y_sm hS hu (h6' _ _ _ _) hl s2, i_bd]
    rw [if_neg c0] at hE hKM hWM
    by_cases c1 : isLt (u (tkS u len p)) = true
    · rw [if_pos c1] at hE hKM hWM
      rw [if_pos (show tkS u len p < len ∧ isLt (u (tkS u len p)) = true from ⟨by omega, c1⟩), if_neg (show ¬ (zi 1 = (0 : Int32)) by decide), ltr s2, i_sb, ← hE]
      have hlt : tkS u len p < tkE u len p := by rw [hE]; exact sc_isLt (by omega) c1
      have hy := y_word (g := mkR g (zi (tkE u len p : Int)) k w (zi (tkS u len p : Int))) (A := A) hS hu (s := tkS u len p) (t := tkE u len p) e1 (by omega) (n := n) (by omega)
      rw [y_gI hS, i_sb, y_gI hS, i_sb, mk_10, mk_7, y_k hS, hy, i_bd, y_pI hS, i_sb, mk_u9, y_gI hS, i_sb, mk_9, i_jp]
      rw [hwd] at hKM hWM
      cases hf : fnd (mtM u (tkS u len p) (tkE u len p)) 0 13 with
      | none =>
        rw [hf] at hKM hWM
        dsimp only at hKM hWM ⊢
        rw [if_pos (show ((-1 : Int32) < 0) by decide), y_gI hS, i_sb, y_gI hS, i_sb, mk_7, mk_10, zi_sub]
        have e6 : (zi ((tkE u len p : Int) - (tkS u len p : Int)) ≤ (6 : Int32)) = ((tkE u len p : Int) - (tkS u len p : Int) ≤ 6) := zi_le (b := 6) (by omega) (by omega) (by omega) (by omega)
        by_cases c6 : tkE u len p - tkS u len p ≤ 6
        · rw [if_pos c6] at hKM hWM
          rw [if_pos (by rw [e6]; omega), y_pI hS, i_sb, mk_u8, y_gI hS, i_sb, mk_8, if_pos rfl, y_gI hS, i_sb, y_gI hS, i_sb, mk_10, mk_7, y_k hS, y_pk hS hu (by omega) hlt (by omega), i_bd, y_pI hS, i_sb, mk_u9, hKM, hWM]
          rw [pkX_eq u (tkS u len p) (tkE u len p - tkS u len p) (by omega) c6, show tkS u len p + (tkE u len p - tkS u len p) = tkE u len p by omega]
          rfl
        · rw [if_neg c6] at hKM hWM
          rw [if_neg (by rw [e6]; omega), y_pI hS, i_sb, mk_u8, y_gI hS, i_sb, mk_8, if_neg (by decide), hKM, hWM]
          rfl
      | some j =>
        rw [hf] at hKM hWM
        have hj : j < 13 := by
          have := (fnd_lt hf).2.1
          omega
        dsimp only at hKM hWM ⊢
        rw [if_neg (by show ¬ (zi (j : Int) < zi 0); rw [zi_lt (by omega) (by omega) (by omega) (by omega)]; omega), y_pI hS, i_sb, mk_u8, y_gI hS, i_sb, mk_8, if_neg (by decide), hKM, hWM]
        rfl
    · rw [if_neg c1] at hE hKM hWM
      rw [if_neg (show ¬ (tkS u len p < len ∧ isLt (u (tkS u len p)) = true) from fun q => c1 q.2), if_pos (show zi 0 = (0 : Int32) from rfl), y_gI hS, i_sb, mk_7, y_k hS, y_dg hS hu (h6' _ _ _ _) hl s2, i_bd]
      by_cases c2 : isDg (u (tkS u len p)) = true
      · rw [if_pos c2] at hE hKM hWM
        rw [if_pos (show tkS u len p < len ∧ isDg (u (tkS u len p)) = true from ⟨by omega, c2⟩), if_neg (show ¬ (zi 1 = (0 : Int32)) by decide), y_pI hS, i_sb, mk_u8, y_pI hS, i_sb, mk_u9, dgt s2, i_sb, ← hE, hKM, hWM]
        rfl
      · rw [if_neg c2] at hE hKM hWM
        rw [if_neg (show ¬ (tkS u len p < len ∧ isDg (u (tkS u len p)) = true) from fun q => c2 q.2), if_pos (show zi 0 = (0 : Int32) from rfl), y_o0 hS, i_sb, y_gI hS, i_sb, mk_7, y_tp hS hu (by omega), i_sb, i_jp]
        have hbb := hb (tkS u len p) (by omega)
        have e59 : (zi (u (tkS u len p)) = (59 : Int32)) = (u (tkS u len p) = 59) := zi_eq (b := 59) (by omega) (by omega) (by omega) (by omega)
        by_cases c3 : u (tkS u len p) = 59
        · rw [if_pos c3] at hKM
          rw [if_pos (by rw [e59]; exact c3)]
          dsimp only
          rw [y_pI hS, i_sb, mk_u8, y_gI hS, i_sb, mk_7, y_pI hS, i_sb, mk_u7, show zi (tkS u len p : Int) + 1 = zi ((tkS u len p + 1 : Nat) : Int) from zi_add _ 1, hKM, hWM, hE]
          rfl
        · rw [if_neg c3] at hKM
          rw [if_neg (by rw [e59]; exact c3)]
          dsimp only
          rw [y_pI hS, i_sb, mk_u8, y_gI hS, i_sb, mk_7, y_pI hS, i_sb, mk_u7, show zi (tkS u len p : Int) + 1 = zi ((tkS u len p + 1 : Nat) : Int) from zi_add _ 1, hKM, hWM, hE]
          rfl
end M24
