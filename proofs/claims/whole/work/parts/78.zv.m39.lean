/-! ===== PURE 94: the component: a text's start, a text read ===== -/
def st0 : PSt := (0, fun j => if j = 1 then 100 else 0, fun _ => 0, fun _ => 0, fun _ => 0, fun _ => 0, fun _ => false)
def MXf (M : MemT) (s : Nat) : MemT := sR (sR M 2 2 (some 1)) 2 4 (some s)
section M39
variable {M : MemT} {r s q : Nat} {f hd : Nat → Int32} {Z : Nat → Nat → Int32} {u : Nat → Int} {n len p : Nat}
theorem MXf_S {y : Nat} (h : y ≠ 2) : SE M (MXf M s) y := SE_t (sR_SE h) (sR_SE h)
theorem MXf_P (tS : TSh M r s q) : PSh (MXf M s) s := by
  obtain ⟨-, t1, ⟨t2, t3, t4⟩, -, t5, -, t6, -⟩ := tS
  exact ⟨⟨t2, rfl, rfl, t3⟩, t4, t1, RSh_f t5 (fun y q1 q2 => MXf_S (by omega)), by omega⟩
theorem PX_self : PX M s (mI M 2) (mI M 3) (fun o => mI M (s + o)) = M := by
  unfold PX
  refine Prod.ext rfl (Prod.ext rfl (Prod.ext rfl (Prod.ext rfl (Prod.ext ?_ rfl))))
  funext x k
  show (if x = 2 then mI M 2 k else if x = 3 then mI M 3 k else if s ≤ x ∧ x < s + 9 then mI M (s + (x - s)) k else mI M x k) = mI M x k
  by_cases c2 : x = 2
  · rw [if_pos c2, c2]
  · rw [if_neg c2]
    by_cases c3 : x = 3
    · rw [if_pos c3, c3]
    · rw [if_neg c3]
      by_cases c4 : s ≤ x ∧ x < s + 9
      · rw [if_pos c4, show s + (x - s) = x by omega]
      · rw [if_neg c4]
theorem st0_ok : ROk st0 := ⟨⟨by decide, by decide⟩, ⟨⟨by decide, by decide⟩, ⟨by decide, by decide⟩, ⟨by decide, by decide⟩⟩, ⟨by decide, by decide⟩, fun t h1 h2 => absurd (show t < 0 from h2) (by omega), ⟨⟨by decide, by decide⟩, ⟨by decide, by decide⟩, ⟨by decide, by decide⟩, fun k h1 h2 => absurd (show k < 0 from h2) (by omega), fun k h1 h2 => absurd (show k < 0 from h2) (by omega), fun k h1 h2 => absurd (show k < 0 from h2) (by omega)⟩, fun k h1 h2 => absurd (show k < 0 from h2) (by omega)⟩
theorem x_bgn (tS : TSh M r s q) (hl : len ≤ 700) : ∃ f hd Z, g_X5_begin n M 2 1 (zi (len : Int)) s = some ((), PX (MXf M s) s f hd Z) ∧ f 3 = zi (len : Int) ∧ f 7 = zi 0 ∧ RXs f hd Z st0 := by
  have hp := MXf_P tS
  obtain ⟨-, t1, ⟨t2, t3, t4⟩, -, t5, -, t6, -⟩ := tS
  have hE : sR (sI (sR M 2 2 (some 1)) 2 3 (zi (len : Int))) 2 4 (some s) = PX (MXf M s) s (up1 (mI M 2) 3 (zi (len : Int))) (mI M 3) (fun o => mI M (s + o)) := by
    rw [← p_set (M := MXf M s) (s := s) (f := mI M 2) (hd := mI M 3) (Z := fun o => mI M (s + o)) (j := 3) (v := zi (len : Int)), show PX (MXf M s) s (mI M 2) (mI M 3) (fun o => mI M (s + o)) = MXf M s from PX_self (M := MXf M s)]
    rfl
  have e7 : (zi ((700 : Nat) : Int) < zi (len : Int)) = (((700 : Nat) : Int) < (len : Int)) := zi_lt (by omega) (by omega) (by omega) (by omega)
  unfold g_X5_begin
  rw [i_pO t2, i_sb, i_aLg (M := sR M 2 2 (some 1)) (x := 1) (N := 700) (show 10 ≤ mK M 1 ∧ mK M 1 < 16 by rw [t1.1]; omega) t1.2, i_sb, if_neg (by rw [e7]; omega), i_pI (M := sR M 2 2 (some 1)) t2, i_sb, i_pO (M := sI (sR M 2 2 (some 1)) 2 3 (zi (len : Int))) t2, i_sb, hE, p_o4 hp, i_sb, p_kR hp]
  unfold g_X7_clear
  rw [p_pR hp, i_sb, p_pR hp, i_sb, p_pR hp, i_sb, p_pR hp, i_sb, p_pR hp, i_sb, p_pR hp, i_sb, p_pR hp, i_sb, p_pR hp, i_sb, i_bd, p_pI hp, i_sb, p_pI hp, i_sb, p_pI hp, i_sb, p_pZ hp (Or.inl rfl), i_sb, p_pZ hp (Or.inl rfl), i_sb, p_pZ hp (Or.inl rfl), i_sb, p_pZ hp (Or.inl rfl), i_sb]
  refine ⟨_, _, _, rfl, rfl, rfl, ⟨⟨rfl, rfl, rfl, rfl, rfl, rfl, rfl, rfl⟩, fun t h1 h2 => absurd (show t < 0 from h2) (by omega), ⟨fun _ => 0, rfl, rfl, fun i hi => absurd (show (i : Int) < 0 from hi) (by omega)⟩, fun k h1 h2 => absurd (show k < 0 from h2) (by omega)⟩, fun t h1 h2 => absurd (show t < 0 from h2) (by omega), rfl, rfl, rfl, rfl, rfl, rfl⟩
theorem x_rd (tS : TSh M r s q) (hx : XT M u) (hl : len ≤ 700) (hn : 1000 < n) : RDo (MXf M s) s (txR u len 701 0 st0 0) (g_X5_read n M 2 1 (zi (len : Int)) s) := by
  obtain ⟨f, hd, Z, e, h3, h7, hR⟩ := x_bgn (n := n) tS hl
  have k4 : mK M 2 = 4 := tS.2.2.1.1
  have key := x_reads (MXf_P tS) (show XT (MXf M s) u from hx) hl hn 701 0 0 f hd Z st0 (f 5) (f 6) (f 8) (by omega) (by omega) (by omega) h3 hR st0_ok n (by omega)
  rw [show zi ((0 : Nat) : Int) = f 7 from h7.symm, tk_0] at key
  unfold g_X5_read
  rw [i_chk k4, e, i_bd]
  rw [show f 7 = (0 : Int32) from h7] at key
  exact key
/-- a text that is wrong -/
theorem x_txF (tS : TSh M r s q) {tl : Int} (h1 : mI M 0 1 = zi tl) (htl : (len : Int) ≤ tl ∧ tl ≤ 700) (hx : XT M u) (hn : 1000 < n) {c : Int} {pl : Nat} (ht : txR u len 701 0 st0 0 = .inl (c, pl)) : ∃ f hd Z, g_X9_text n M 0 (zi (len : Int)) = some (-1, PX (MXf (sI M 0 1 0) s) s f hd Z) ∧ f 0 = zi c ∧ f 1 = zi (pl : Int) := by
  have k7 := tS.1.1
  have tS1 : TSh (sI M 0 1 0) r s q := TSh_f tS (fun y _ _ => ⟨rfl, rfl, fun _ => rfl⟩)
  have hx1 : XT (sI M 0 1 0) u := fun k hk => ⟨(sI_ne (by omega)).trans (hx k hk).1, (hx k hk).2⟩
  have e0 : (zi (len : Int) < (0 : Int32)) = ((len : Int) < 0) := zi_lt (b := 0) (by omega) (by omega) (by omega) (by omega)
  have e1 : (zi (len : Int) ≤ zi tl) = ((len : Int) ≤ tl) := zi_le (by omega) (by omega) (by omega) (by omega)
  have key := x_rd (n := n) tS1 hx1 (len := len) (by omega) hn
  rw [ht] at key
  rcases key with ⟨c', pl', f, hd, Z, q1, q2, q3, q4⟩ | ⟨g', c', f, hd, Z, q1, -⟩
  · have hc := Sum.inl.inj q1
    have hc1 : c = c' := congrArg Prod.fst hc
    have hc2 : pl = pl' := congrArg Prod.snd hc
    subst hc1 hc2
    refine ⟨f, hd, Z, ?_, q3, q4⟩
    unfold g_X9_text
    rw [if_neg (by rw [e0]; omega), i_gI k7, i_sb, h1, if_pos (by rw [e1]; exact htl.1), i_pI k7, i_sb, i_gO (M := sI M 0 1 0) k7 tS.1.2.2.1, i_sb, i_gO (M := sI M 0 1 0) k7 tS.1.2.1, i_sb, i_gO (M := sI M 0 1 0) k7 tS.1.2.2.2.1, i_sb, i_chk (M := sI M 0 1 0) tS.2.2.1.1, q2, i_bd, if_pos rfl]
  · exact absurd q1 (by simp)
end M39
