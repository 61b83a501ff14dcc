/-! ===== PURE 31: an interval's end, the component's side, whole ===== -/
section RSET
variable {T B : Int → Int} {R : Nat → Nat → Int32} {a : Nat} {v : Int}
theorem RAn_s0 (h : RAn T B R a) : RAn T (upZ B (2084 + 48 * a + 0) v) (up2 R (10 + 5 * a) 0 (zi v)) a := by
  obtain ⟨⟨r0, r1, r2, r3, r4, r5⟩, ⟨r6, r7, r8, r9, r10, r11, r12, r13, r14⟩, rr⟩ := h
  have e : ∀ j : Int, j ≠ 0 → AtZ (upZ B (2084 + 48 * a + 0) v) a j = AtZ B a j := fun j hj => by rw [AtZ_up, if_neg hj]
  have e' : AtZ (upZ B (2084 + 48 * a + 0) v) a 0 = v := by rw [AtZ_up, if_pos rfl]
  have f : ∀ k, k ≠ 0 → up2 R (10 + 5 * a) 0 (zi v) (10 + 5 * a) k = R (10 + 5 * a) k := fun k hk => up2_k hk
  have g : ∀ o k, o ≠ 10 + 5 * a → up2 R (10 + 5 * a) 0 (zi v) o k = R o k := fun o k ho => up2_o ho
  have hf : ∀ x, fstZ T (upZ B (2084 + 48 * a + 0) v) a x = fstZ T B a x := fun x => by
    unfold fstZ
    rw [e 3 (by omega)]
  refine ⟨⟨?_, ?_, ?_, ?_, ?_, ?_⟩, ⟨?_, ?_, ?_, ?_, ?_, ?_, ?_, ?_, ?_⟩, fun i i0 i1 => ?_⟩
  · rw [up2_at, e']
  · rw [f 1 (by omega), e 1 (by omega)]; exact r1
  · rw [f 2 (by omega), e 2 (by omega)]; exact r2
  · rw [f 3 (by omega), e 3 (by omega)]; exact r3
  · rw [f 4 (by omega), e 4 (by omega)]; exact r4
  · rw [f 5 (by omega), e 5 (by omega)]; exact r5
  · rw [f 6 (by omega), e 7 (by omega)]; exact r6
  · rw [f 7 (by omega), e 7 (by omega), e 8 (by omega)]; exact r7
  · rw [f 8 (by omega), e 9 (by omega)]; exact r8
  · rw [f 9 (by omega), e 6 (by omega)]; exact r9
  · rw [f 10 (by omega), e 47 (by omega), e 6 (by omega), hf]; exact r10
  · rw [f 11 (by omega), e 10 (by omega)]; exact r11
  · rw [f 12 (by omega), e 11 (by omega)]; exact r12
  · rw [f 13 (by omega), e 11 (by omega), e 12 (by omega)]; exact r13
  · rw [f 14 (by omega), e 47 (by omega)]; exact r14
  · rw [e 47 (by omega)] at i1
    rw [g _ _ (by omega), g _ _ (by omega), g _ _ (by omega), e _ (by omega), e _ (by omega), e _ (by omega)]
    exact rr i i0 i1
theorem RAn_s1 (h : RAn T B R a) : RAn T (upZ B (2084 + 48 * a + 1) v) (up2 R (10 + 5 * a) 1 (zi v)) a := by
  obtain ⟨⟨r0, r1, r2, r3, r4, r5⟩, ⟨r6, r7, r8, r9, r10, r11, r12, r13, r14⟩, rr⟩ := h
  have e : ∀ j : Int, j ≠ 1 → AtZ (upZ B (2084 + 48 * a + 1) v) a j = AtZ B a j := fun j hj => by rw [AtZ_up, if_neg hj]
  have e' : AtZ (upZ B (2084 + 48 * a + 1) v) a 1 = v := by rw [AtZ_up, if_pos rfl]
  have f : ∀ k, k ≠ 1 → up2 R (10 + 5 * a) 1 (zi v) (10 + 5 * a) k = R (10 + 5 * a) k := fun k hk => up2_k hk
  have g : ∀ o k, o ≠ 10 + 5 * a → up2 R (10 + 5 * a) 1 (zi v) o k = R o k := fun o k ho => up2_o ho
  have hf : ∀ x, fstZ T (upZ B (2084 + 48 * a + 1) v) a x = fstZ T B a x := fun x => by
    unfold fstZ
    rw [e 3 (by omega)]
  refine ⟨⟨?_, ?_, ?_, ?_, ?_, ?_⟩, ⟨?_, ?_, ?_, ?_, ?_, ?_, ?_, ?_, ?_⟩, fun i i0 i1 => ?_⟩
  · rw [f 0 (by omega), e 0 (by omega)]; exact r0
  · rw [up2_at, e']
  · rw [f 2 (by omega), e 2 (by omega)]; exact r2
  · rw [f 3 (by omega), e 3 (by omega)]; exact r3
  · rw [f 4 (by omega), e 4 (by omega)]; exact r4
  · rw [f 5 (by omega), e 5 (by omega)]; exact r5
  · rw [f 6 (by omega), e 7 (by omega)]; exact r6
  · rw [f 7 (by omega), e 7 (by omega), e 8 (by omega)]; exact r7
  · rw [f 8 (by omega), e 9 (by omega)]; exact r8
  · rw [f 9 (by omega), e 6 (by omega)]; exact r9
  · rw [f 10 (by omega), e 47 (by omega), e 6 (by omega), hf]; exact r10
  · rw [f 11 (by omega), e 10 (by omega)]; exact r11
  · rw [f 12 (by omega), e 11 (by omega)]; exact r12
  · rw [f 13 (by omega), e 11 (by omega), e 12 (by omega)]; exact r13
  · rw [f 14 (by omega), e 47 (by omega)]; exact r14
  · rw [e 47 (by omega)] at i1
    rw [g _ _ (by omega), g _ _ (by omega), g _ _ (by omega), e _ (by omega), e _ (by omega), e _ (by omega)]
    exact rr i i0 i1
theorem RAn_s2 (h : RAn T B R a) : RAn T (upZ B (2084 + 48 * a + 2) v) (up2 R (10 + 5 * a) 2 (zi v)) a := by
  obtain ⟨⟨r0, r1, r2, r3, r4, r5⟩, ⟨r6, r7, r8, r9, r10, r11, r12, r13, r14⟩, rr⟩ := h
  have e : ∀ j : Int, j ≠ 2 → AtZ (upZ B (2084 + 48 * a + 2) v) a j = AtZ B a j := fun j hj => by rw [AtZ_up, if_neg hj]
  have e' : AtZ (upZ B (2084 + 48 * a + 2) v) a 2 = v := by rw [AtZ_up, if_pos rfl]
  have f : ∀ k, k ≠ 2 → up2 R (10 + 5 * a) 2 (zi v) (10 + 5 * a) k = R (10 + 5 * a) k := fun k hk => up2_k hk
  have g : ∀ o k, o ≠ 10 + 5 * a → up2 R (10 + 5 * a) 2 (zi v) o k = R o k := fun o k ho => up2_o ho
  have hf : ∀ x, fstZ T (upZ B (2084 + 48 * a + 2) v) a x = fstZ T B a x := fun x => by
    unfold fstZ
    rw [e 3 (by omega)]
  refine ⟨⟨?_, ?_, ?_, ?_, ?_, ?_⟩, ⟨?_, ?_, ?_, ?_, ?_, ?_, ?_, ?_, ?_⟩, fun i i0 i1 => ?_⟩
  · rw [f 0 (by omega), e 0 (by omega)]; exact r0
  · rw [f 1 (by omega), e 1 (by omega)]; exact r1
  · rw [up2_at, e']
  · rw [f 3 (by omega), e 3 (by omega)]; exact r3
  · rw [f 4 (by omega), e 4 (by omega)]; exact r4
  · rw [f 5 (by omega), e 5 (by omega)]; exact r5
  · rw [f 6 (by omega), e 7 (by omega)]; exact r6
  · rw [f 7 (by omega), e 7 (by omega), e 8 (by omega)]; exact r7
  · rw [f 8 (by omega), e 9 (by omega)]; exact r8
  · rw [f 9 (by omega), e 6 (by omega)]; exact r9
  · rw [f 10 (by omega), e 47 (by omega), e 6 (by omega), hf]; exact r10
  · rw [f 11 (by omega), e 10 (by omega)]; exact r11
  · rw [f 12 (by omega), e 11 (by omega)]; exact r12
  · rw [f 13 (by omega), e 11 (by omega), e 12 (by omega)]; exact r13
  · rw [f 14 (by omega), e 47 (by omega)]; exact r14
  · rw [e 47 (by omega)] at i1
    rw [g _ _ (by omega), g _ _ (by omega), g _ _ (by omega), e _ (by omega), e _ (by omega), e _ (by omega)]
    exact rr i i0 i1
theorem RAn_s8 (h : RAn T B R a) : RAn T (upZ B (2084 + 48 * a + 9) v) (up2 R (10 + 5 * a) 8 (zi v)) a := by
  obtain ⟨⟨r0, r1, r2, r3, r4, r5⟩, ⟨r6, r7, r8, r9, r10, r11, r12, r13, r14⟩, rr⟩ := h
  have e : ∀ j : Int, j ≠ 9 → AtZ (upZ B (2084 + 48 * a + 9) v) a j = AtZ B a j := fun j hj => by rw [AtZ_up, if_neg hj]
  have e' : AtZ (upZ B (2084 + 48 * a + 9) v) a 9 = v := by rw [AtZ_up, if_pos rfl]
  have f : ∀ k, k ≠ 8 → up2 R (10 + 5 * a) 8 (zi v) (10 + 5 * a) k = R (10 + 5 * a) k := fun k hk => up2_k hk
  have g : ∀ o k, o ≠ 10 + 5 * a → up2 R (10 + 5 * a) 8 (zi v) o k = R o k := fun o k ho => up2_o ho
  have hf : ∀ x, fstZ T (upZ B (2084 + 48 * a + 9) v) a x = fstZ T B a x := fun x => by
    unfold fstZ
    rw [e 3 (by omega)]
  refine ⟨⟨?_, ?_, ?_, ?_, ?_, ?_⟩, ⟨?_, ?_, ?_, ?_, ?_, ?_, ?_, ?_, ?_⟩, fun i i0 i1 => ?_⟩
  · rw [f 0 (by omega), e 0 (by omega)]; exact r0
  · rw [f 1 (by omega), e 1 (by omega)]; exact r1
  · rw [f 2 (by omega), e 2 (by omega)]; exact r2
  · rw [f 3 (by omega), e 3 (by omega)]; exact r3
  · rw [f 4 (by omega), e 4 (by omega)]; exact r4
  · rw [f 5 (by omega), e 5 (by omega)]; exact r5
  · rw [f 6 (by omega), e 7 (by omega)]; exact r6
  · rw [f 7 (by omega), e 7 (by omega), e 8 (by omega)]; exact r7
  · rw [up2_at, e']
  · rw [f 9 (by omega), e 6 (by omega)]; exact r9
  · rw [f 10 (by omega), e 47 (by omega), e 6 (by omega), hf]; exact r10
  · rw [f 11 (by omega), e 10 (by omega)]; exact r11
  · rw [f 12 (by omega), e 11 (by omega)]; exact r12
  · rw [f 13 (by omega), e 11 (by omega), e 12 (by omega)]; exact r13
  · rw [f 14 (by omega), e 47 (by omega)]; exact r14
  · rw [e 47 (by omega)] at i1
    rw [g _ _ (by omega), g _ _ (by omega), g _ _ (by omega), e _ (by omega), e _ (by omega), e _ (by omega)]
    exact rr i i0 i1
theorem RAn_s11 (h : RAn T B R a) : RAn T (upZ B (2084 + 48 * a + 10) v) (up2 R (10 + 5 * a) 11 (zi v)) a := by
  obtain ⟨⟨r0, r1, r2, r3, r4, r5⟩, ⟨r6, r7, r8, r9, r10, r11, r12, r13, r14⟩, rr⟩ := h
  have e : ∀ j : Int, j ≠ 10 → AtZ (upZ B (2084 + 48 * a + 10) v) a j = AtZ B a j := fun j hj => by rw [AtZ_up, if_neg hj]
  have e' : AtZ (upZ B (2084 + 48 * a + 10) v) a 10 = v := by rw [AtZ_up, if_pos rfl]
  have f : ∀ k, k ≠ 11 → up2 R (10 + 5 * a) 11 (zi v) (10 + 5 * a) k = R (10 + 5 * a) k := fun k hk => up2_k hk
  have g : ∀ o k, o ≠ 10 + 5 * a → up2 R (10 + 5 * a) 11 (zi v) o k = R o k := fun o k ho => up2_o ho
  have hf : ∀ x, fstZ T (upZ B (2084 + 48 * a + 10) v) a x = fstZ T B a x := fun x => by
    unfold fstZ
    rw [e 3 (by omega)]
  refine ⟨⟨?_, ?_, ?_, ?_, ?_, ?_⟩, ⟨?_, ?_, ?_, ?_, ?_, ?_, ?_, ?_, ?_⟩, fun i i0 i1 => ?_⟩
  · rw [f 0 (by omega), e 0 (by omega)]; exact r0
  · rw [f 1 (by omega), e 1 (by omega)]; exact r1
  · rw [f 2 (by omega), e 2 (by omega)]; exact r2
  · rw [f 3 (by omega), e 3 (by omega)]; exact r3
  · rw [f 4 (by omega), e 4 (by omega)]; exact r4
  · rw [f 5 (by omega), e 5 (by omega)]; exact r5
  · rw [f 6 (by omega), e 7 (by omega)]; exact r6
  · rw [f 7 (by omega), e 7 (by omega), e 8 (by omega)]; exact r7
  · rw [f 8 (by omega), e 9 (by omega)]; exact r8
  · rw [f 9 (by omega), e 6 (by omega)]; exact r9
  · rw [f 10 (by omega), e 47 (by omega), e 6 (by omega), hf]; exact r10
  · rw [up2_at, e']
  · rw [f 12 (by omega), e 11 (by omega)]; exact r12
  · rw [f 13 (by omega), e 11 (by omega), e 12 (by omega)]; exact r13
  · rw [f 14 (by omega), e 47 (by omega)]; exact r14
  · rw [e 47 (by omega)] at i1
    rw [g _ _ (by omega), g _ _ (by omega), g _ _ (by omega), e _ (by omega), e _ (by omega), e _ (by omega)]
    exact rr i i0 i1
theorem RAn_fin (h : RAn T B R a) : RAn T (upZ (upZ B (2084 + 48 * a + 11) 1) (2084 + 48 * a + 12) v) (up2 (up2 R (10 + 5 * a) 12 (zi 1)) (10 + 5 * a) 13 (zi v)) a := by
  obtain ⟨⟨r0, r1, r2, r3, r4, r5⟩, ⟨r6, r7, r8, r9, r10, r11, r12, r13, r14⟩, rr⟩ := h
  have e : ∀ j : Int, j ≠ 11 → j ≠ 12 → AtZ (upZ (upZ B (2084 + 48 * a + 11) 1) (2084 + 48 * a + 12) v) a j = AtZ B a j := fun j hj hk => by rw [AtZ_up, if_neg hk, AtZ_up, if_neg hj]
  have e12 : AtZ (upZ (upZ B (2084 + 48 * a + 11) 1) (2084 + 48 * a + 12) v) a 12 = v := by rw [AtZ_up, if_pos rfl]
  have e11 : AtZ (upZ (upZ B (2084 + 48 * a + 11) 1) (2084 + 48 * a + 12) v) a 11 = 1 := by rw [AtZ_up, if_neg (by omega), AtZ_up, if_pos rfl]
  have f : ∀ k, k ≠ 12 → k ≠ 13 → up2 (up2 R (10 + 5 * a) 12 (zi 1)) (10 + 5 * a) 13 (zi v) (10 + 5 * a) k = R (10 + 5 * a) k := fun k hk hl => (up2_k hl).trans (up2_k hk)
  have g : ∀ o k, o ≠ 10 + 5 * a → up2 (up2 R (10 + 5 * a) 12 (zi 1)) (10 + 5 * a) 13 (zi v) o k = R o k := fun o k ho => (up2_o ho).trans (up2_o ho)
  have hf : ∀ x, fstZ T (upZ (upZ B (2084 + 48 * a + 11) 1) (2084 + 48 * a + 12) v) a x = fstZ T B a x := fun x => by
    unfold fstZ
    rw [e 3 (by omega) (by omega)]
  refine ⟨⟨?_, ?_, ?_, ?_, ?_, ?_⟩, ⟨?_, ?_, ?_, ?_, ?_, ?_, ?_, ?_, ?_⟩, fun i i0 i1 => ?_⟩
  · rw [f 0 (by omega) (by omega), e 0 (by omega) (by omega)]; exact r0
  · rw [f 1 (by omega) (by omega), e 1 (by omega) (by omega)]; exact r1
  · rw [f 2 (by omega) (by omega), e 2 (by omega) (by omega)]; exact r2
  · rw [f 3 (by omega) (by omega), e 3 (by omega) (by omega)]; exact r3
  · rw [f 4 (by omega) (by omega), e 4 (by omega) (by omega)]; exact r4
  · rw [f 5 (by omega) (by omega), e 5 (by omega) (by omega)]; exact r5
  · rw [f 6 (by omega) (by omega), e 7 (by omega) (by omega)]; exact r6
  · rw [f 7 (by omega) (by omega), e 7 (by omega) (by omega), e 8 (by omega) (by omega)]; exact r7
  · rw [f 8 (by omega) (by omega), e 9 (by omega) (by omega)]; exact r8
  · rw [f 9 (by omega) (by omega), e 6 (by omega) (by omega)]; exact r9
  · rw [f 10 (by omega) (by omega), e 47 (by omega) (by omega), e 6 (by omega) (by omega), hf]; exact r10
  · rw [f 11 (by omega) (by omega), e 10 (by omega) (by omega)]; exact r11
  · rw [up2_k (by omega), up2_at, e11]
  · intro _
    rw [up2_at, e12]
  · rw [f 14 (by omega) (by omega), e 47 (by omega) (by omega)]; exact r14
  · rw [e 47 (by omega) (by omega)] at i1
    rw [g _ _ (by omega), g _ _ (by omega), g _ _ (by omega), e _ (by omega) (by omega), e _ (by omega) (by omega), e _ (by omega) (by omega)]
    exact rr i i0 i1
end RSET
section XINT
variable {M : MemT} {c r : Nat} {R : Nat → Nat → Int32} {F : Nat → Int32} {S : Int → Int} {n : Nat} {T tr sl bu as B : Int → Int} {nt : Int} {a : Nat}
theorem lastZ_r {d k b : Int} (hT : told3 T) (hA : AO B a) (hd : -10 ≤ d ∧ d ≤ 10) (hb : 0 ≤ b ∧ b ≤ 1000) : -2147483648 ≤ lastZ T B a d k b ∧ lastZ T B a d k b ≤ 2147483647 := by
  have hs := spanT hT hA
  have c3 := hA.2.2.2.1
  have t1 := hT.2.1
  have hp1 := mul_rng (a := AtZ B a 3) (b := d) (x := 99999) (y := 10) (by omega) (by omega) (by omega) (by omega)
  have hg : -1000 ≤ (if k = 0 then T 1 else 0) - b ∧ (if k = 0 then T 1 else 0) - b ≤ 1000 := by split <;> omega
  have hp := mul_rng (a := AtZ B a 3 * d) (b := (if k = 0 then T 1 else 0) - b) (x := 999990) (y := 1000) (by omega) (by omega) hg.1 hg.2
  have hc := cutZ_abs (w := T 0) (a := AtZ B a 3 * d * ((if k = 0 then T 1 else 0) - b)) hs.1
  unfold lastZ
  omega
theorem c_zA (h : CSh M c r) (ha : a < 8) {k : Nat} {v : Int32} (hv : v = 0 ∨ v = 1) : pZ (WX M c R F S) 0 (c + 10 + 10 + 5 * a) k v = some (WX M c (up2 R (10 + 5 * a) k v) F S) := x_zA (M := WF M (c + 60) F S) (wx_B (F := F) (S := S) h) ha hv
theorem c_pA (h : CSh M c r) (ha : a < 8) {k : Nat} {v : Int32} : pI (WX M c R F S) 0 (c + 10 + 10 + 5 * a) k v = some (WX M c (up2 R (10 + 5 * a) k v) F S) := x_pA (M := WF M (c + 60) F S) (wx_B (F := F) (S := S) h) ha
theorem c_kA {β : Type} {e : Option β} (h : CSh M c r) (ha : a < 8) : chk (WX M c R F S) 0 (c + 10 + 10 + 5 * a) e = e := x_kA (M := WF M (c + 60) F S) (wx_B (F := F) (S := S) h) ha
theorem c_enter (h : CSh M c r) (hR : RM B R) (hN : BN B) (hK : 0 ≤ B 1867 ∧ B 1867 ≤ 40) (hE : 0 ≤ B 1866 ∧ B 1866 ≤ 1000000) {t so v x : Int} (t0 : 0 ≤ t) (t1 : t < 4) (s0 : 0 ≤ so) (s1 : so < 4) : ∃ R1, g_X2_enter n (WX M c R F S) (c + 10) (zi t) (zi so) (zi v) (zi x) = some ((), WX M c R1 F S) ∧ RM (bookZ B t so v x) R1 ∧ ∀ o, o ≠ 0 → o ≠ 8 → o ≠ 9 → R1 o = R o := x_enter (M := WF M (c + 60) F S) (wx_B (F := F) (S := S) h) hR hN hK hE t0 t1 s0 s1
theorem c_bookFinal (h : CSh M c r) (hU : RU M r nt T tr sl bu as) (hT : told3 T) (hR : RM B R) (hN : BN B) (hK : 0 ≤ B 1867 ∧ B 1867 ≤ 40) (hE : 0 ≤ B 1866 ∧ B 1866 ≤ 1000000) (ha : a < 8) (hRA : RAn T B R a) (hA : AO B a) {d k : Int} (hd : AtZ B a 4 - AtZ B a 47 = d) (hk : AtZ B a 7 - 1 = k) (hk2 : k = 0 ∨ k = 1) : ∃ R1, g_X3_bookFinal n (WX M c R F S) c (c + 10 + 10 + 5 * a) (zi (a : Int)) = some ((), WX M c R1 F S) ∧ RM (clsD T B a d k) R1 ∧ RAn T (clsD T B a d k) R1 a ∧ ∀ o, o ≠ 0 → o ≠ 8 → o ≠ 9 → o ≠ 10 + 5 * a → R1 o = R o := by
  have c0 := hA.1
  have c4 := hA.2.2.2.2.1
  have c6 := hA.2.2.2.2.2.2.1
  have c7 := hA.2.2.2.2.2.2.2.1
  have c8 := hA.2.2.2.2.2.2.2.2.1
  have c47 := hA.2.2.2.2.2.2.2.2.2.2.2.2
  obtain ⟨⟨r0, r1, r2, r3, r4, r5⟩, ⟨r6, r7, r8, r9, r10, r11, r12, r13, r14⟩, rr⟩ := id hRA
  have hlr := lastZ_r (d := d) (k := k) (b := AtZ B a 6) hT hA (by omega) (by omega)
  have hfin := c_finalFor (n := n) (F := F) (S := S) (d := d) (k := k) (b := AtZ B a 6) h hU hT ha r3 r4 hA (by omega) (by omega) (by omega)
  generalize hv : lastZ T B a d k (AtZ B a 6) = v at hlr hfin
  have e6 : R (10 + 5 * a) 6 = zi k := by rw [r6, if_neg (by omega), hk]
  have e7 := r7 (by omega)
  have hw1 : RAn T (upZ (upZ B (2084 + 48 * a + 11) 1) (2084 + 48 * a + 12) (capZ B a v)) (up2 (up2 R (10 + 5 * a) 12 (zi 1)) (10 + 5 * a) 13 (zi (capZ B a v))) a := RAn_fin hRA
  have hw2 := RAn_s11 (v := AtZ B a 10 + capZ B a v) hw1
  have hm : RM B (up2 (up2 (up2 R (10 + 5 * a) 12 (zi 1)) (10 + 5 * a) 13 (zi (capZ B a v))) (10 + 5 * a) 11 (zi (AtZ B a 10 + capZ B a v))) := RM_eq hR (fun i hi => rfl) hK.2 (fun o ho => by
    funext k
    rw [up2_o (by omega), up2_o (by omega), up2_o (by omega)])
  obtain ⟨R2, g2, m2, o2⟩ := c_enter (n := n) (F := F) (S := S) h hm hN hK hE (t := AtZ B a 0) (so := 3) (v := capZ B a v) (x := (a : Int)) c0.1 c0.2 (by omega) (by omega)
  have hD : clsD T B a d k = bookFor (upZ (upZ B (2084 + 48 * a + 11) 1) (2084 + 48 * a + 12) (capZ B a v)) a 3 (capZ B a v) := by
    unfold clsD
    rw [if_pos hk2, hv]
  have hA1 : AO (upZ B (2084 + 48 * a + 11) 1) a := AO_set hA (by omega) (by omega) (by unfold okV; omega)
  have hA2 : AO (upZ (upZ B (2084 + 48 * a + 11) 1) (2084 + 48 * a + 12) (capZ B a v)) a := AO_set hA1 (by omega) (by omega) (by unfold okV; omega)
  have hat : ∀ j : Int, 0 ≤ j → AtZ (clsD T B a d k) a j = AtZ (upZ (upZ (upZ B (2084 + 48 * a + 11) 1) (2084 + 48 * a + 12) (capZ B a v)) (2084 + 48 * a + 10) (AtZ B a 10 + capZ B a v)) a j := fun j j0 => by
    have e10 : AtZ (upZ (upZ B (2084 + 48 * a + 11) 1) (2084 + 48 * a + 12) (capZ B a v)) a 10 = AtZ B a 10 := by
      rw [AtZ_up, if_neg (by omega), AtZ_up, if_neg (by omega)]
    rw [hD, AtZ_bookFor (by omega) hA2.1 (by omega) (by omega) (by rw [upZ_ne (by omega), upZ_ne (by omega)]; exact hK) j0]
    by_cases q : j = 10
    · rw [if_pos q, e10, q]
      exact (AtZ_up.trans (if_pos rfl)).symm
    · rw [if_neg q]
      exact (AtZ_up.trans (if_neg q)).symm
  refine ⟨R2, ?_, ?_, ?_, fun o q0 q8 q9 qa => ?_⟩
  · unfold g_X3_bookFinal
    have e1 : zi (AtZ B a 4) - zi (AtZ B a 47) = zi d := by rw [zi_sub, hd]
    have em : (-1 : Int32) = zi (-1) := by decide
    have ec : ∀ K : MemT × Int32 → Option (Unit × MemT), jp K (fun K8 => (if zi (AtZ B a 8) = -1 then K8 (WX M c R F S, zi v) else (some (zi (AtZ B a 8))).bind (fun v19 => K8 (WX M c R F S, if v19 < zi v then v19 else zi v)))) = K (WX M c R F S, zi (capZ B a v)) := fun K => by
      show (if zi (AtZ B a 8) = -1 then K (WX M c R F S, zi v) else (some (zi (AtZ B a 8))).bind (fun v19 => K (WX M c R F S, if v19 < zi v then v19 else zi v))) = _
      have q1 : (zi (AtZ B a 8) = -1) = (AtZ B a 8 = -1) := by
        rw [em]; exact zi_eq (by omega) (by omega) (by omega) (by omega)
      have q2 : (zi (AtZ B a 8) < zi v) = (AtZ B a 8 < v) := zi_lt (by omega) (by omega) (by omega) (by omega)
      simp only [q1]
      unfold capZ
      by_cases z : AtZ B a 8 = -1
      · rw [if_pos z, if_neg (by omega)]
      · rw [if_neg z, i_sb]
        simp only [q2]
        by_cases z2 : AtZ B a 8 < v
        · rw [if_pos z2, if_pos (by omega)]
        · rw [if_neg z2, if_neg (by omega)]
    rw [c_gA h ha, i_sb, e6, c_gA h ha, i_sb, r4, c_gA h ha, i_sb, r14, c_gA h ha, i_sb, r9, c_kC h, e1, hfin, i_bd, c_gA h ha, i_sb, e7, ec]
    dsimp only
    rw [c_zA h ha (Or.inr rfl), i_sb, c_pA h ha, i_sb, c_gA h ha, i_sb, up2_k (show (11 : Nat) ≠ 13 by omega), up2_k (show (11 : Nat) ≠ 12 by omega), r11, zi_add, c_pA h ha, i_sb, c_o1 h, i_sb, c_gA h ha, i_sb, up2_k (show (0 : Nat) ≠ 11 by omega), up2_k (show (0 : Nat) ≠ 13 by omega), up2_k (show (0 : Nat) ≠ 12 by omega), r0, c_kB h]
    show bd (g_X2_enter n (WX M c (up2 (up2 (up2 R (10 + 5 * a) 12 (zi 1)) (10 + 5 * a) 13 (zi (capZ B a v))) (10 + 5 * a) 11 (zi (AtZ B a 10 + capZ B a v))) F S) (c + 10) (zi (AtZ B a 0)) (zi 3) (zi (capZ B a v)) (zi (a : Int))) _ = _
    rw [g2, i_bd]
  · rw [hD]
    refine RM_eq m2 (fun i hi => ?_) (book_kept c0.1 (by omega) hK).2 (fun o ho => rfl)
    have e0 : AtZ (upZ (upZ B (2084 + 48 * a + 11) 1) (2084 + 48 * a + 12) (capZ B a v)) a 0 = AtZ B a 0 := by
      rw [AtZ_up, if_neg (by omega), AtZ_up, if_neg (by omega)]
    exact bookFor_congr (by omega) (fun i hi => by rw [upZ_ne (by omega), upZ_ne (by omega)]) e0 i hi
  · refine RAn_eq hw2 (fun j j0 j1 => hat j j0) ?_ (fun o o0 o1 => o2 o (by omega) (by omega) (by omega))
    rw [AtZ_up, if_neg (by omega), AtZ_up, if_neg (by omega), AtZ_up, if_neg (by omega)]
    exact c47.2
  · rw [o2 o q0 q8 q9]
    funext j
    rw [up2_o qa, up2_o qa, up2_o qa]
end XINT
