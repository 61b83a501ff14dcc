/-! ===== PURE 30: an asset's interval ends, the component's side ===== -/
def RAn (T B : Int → Int) (R : Nat → Nat → Int32) (a : Nat) : Prop :=
  (R (10 + 5 * a) 0 = zi (AtZ B a 0) ∧ R (10 + 5 * a) 1 = zi (AtZ B a 1) ∧ R (10 + 5 * a) 2 = zi (AtZ B a 2) ∧ R (10 + 5 * a) 3 = zi (AtZ B a 3) ∧ R (10 + 5 * a) 4 = zi (AtZ B a 4) ∧ R (10 + 5 * a) 5 = zi (AtZ B a 5)) ∧
  (R (10 + 5 * a) 6 = zi (if AtZ B a 7 = 0 then -2 else AtZ B a 7 - 1) ∧ (AtZ B a 7 ≠ 0 → R (10 + 5 * a) 7 = zi (AtZ B a 8)) ∧ R (10 + 5 * a) 8 = zi (AtZ B a 9) ∧ R (10 + 5 * a) 9 = zi (AtZ B a 6) ∧ (0 < AtZ B a 47 → R (10 + 5 * a) 10 = zi (fstZ T B a (AtZ B a 6))) ∧ R (10 + 5 * a) 11 = zi (AtZ B a 10) ∧ R (10 + 5 * a) 12 = zi (AtZ B a 11) ∧ (AtZ B a 11 = 1 → R (10 + 5 * a) 13 = zi (AtZ B a 12)) ∧ R (10 + 5 * a) 14 = zi (AtZ B a 47)) ∧
  (∀ i : Int, 0 ≤ i → i < AtZ B a 47 → R (10 + 5 * a + 2) i.toNat = zi (AtZ B a (17 + i)) ∧ R (10 + 5 * a + 3) i.toNat = zi (AtZ B a (27 + i)) ∧ R (10 + 5 * a + 4) i.toNat = zi (AtZ B a (37 + i)))
theorem RAn_of {T B : Int → Int} {R : Nat → Nat → Int32} {a : Nat} (h : RA T B R a) : RAn T B R a := ⟨h.1, h.2.1, h.2.2.2⟩
theorem RA_of {T B : Int → Int} {R : Nat → Nat → Int32} {a : Nat} (h : RAn T B R a) (hu : 0 < AtZ B a 47 → ∀ j : Int, 0 ≤ j → j < B 0 % 4 → R (10 + 5 * a + 1) j.toNat = zi (AtZ B a (13 + j))) : RA T B R a := ⟨h.1, h.2.1, hu, h.2.2⟩
theorem RAn_eq {T B B1 : Int → Int} {R R1 : Nat → Nat → Int32} {a : Nat} (h : RAn T B R a) (hb : ∀ j : Int, 0 ≤ j → j < 48 → AtZ B1 a j = AtZ B a j) (h47 : AtZ B a 47 ≤ 10) (hr : ∀ o, 10 + 5 * a ≤ o → o < 15 + 5 * a → R1 o = R o) : RAn T B1 R1 a := by
  have hf : ∀ x : Int, fstZ T B1 a x = fstZ T B a x := fun x => by
    unfold fstZ
    rw [hb 3 (by omega) (by omega)]
  unfold RAn at h ⊢
  rw [hr (10 + 5 * a) (by omega) (by omega), hr (10 + 5 * a + 2) (by omega) (by omega), hr (10 + 5 * a + 3) (by omega) (by omega), hr (10 + 5 * a + 4) (by omega) (by omega), hb 0 (by omega) (by omega), hb 1 (by omega) (by omega), hb 2 (by omega) (by omega), hb 3 (by omega) (by omega), hb 4 (by omega) (by omega), hb 5 (by omega) (by omega), hb 6 (by omega) (by omega), hb 7 (by omega) (by omega), hb 8 (by omega) (by omega), hb 9 (by omega) (by omega), hb 10 (by omega) (by omega), hb 11 (by omega) (by omega), hb 12 (by omega) (by omega), hb 47 (by omega) (by omega), hf]
  refine ⟨h.1, h.2.1, fun i i0 i1 => ?_⟩
  rw [hb (17 + i) (by omega) (by omega), hb (27 + i) (by omega) (by omega), hb (37 + i) (by omega) (by omega)]
  exact h.2.2 i i0 i1
theorem book_congr {B B1 : Int → Int} {t so v x : Int} (h : ∀ i : Int, i < 2084 → B1 i = B i) : ∀ i : Int, i < 2084 → bookZ B1 t so v x i = bookZ B t so v x i := by
  intro i hi
  unfold bookZ
  rw [h 1867 (by omega), h 1866 (by omega), h 0 (by omega), h i hi, h (i - 5) (by omega)]
theorem bookFor_congr {B B1 : Int → Int} {a so v : Int} (ha : 0 ≤ a) (h : ∀ i : Int, i < 2084 → B1 i = B i) (h0 : AtZ B1 a 0 = AtZ B a 0) : ∀ i : Int, i < 2084 → bookFor B1 a so v i = bookZ B (AtZ B a 0) so v a i := by
  intro i hi
  unfold bookFor
  rw [h0]
  exact book_congr (fun j hj => (upZ_ne (by omega)).trans (h j hj)) i hi
/-- what the rows of an asset are once its interval has ended -/
def aEnd (R : Nat → Nat → Int32) (o : Nat) (i w v : Int) (own tk th : Int32) : Nat → Nat → Int32 := up2 (up2 (up2 (up2 (up2 R (o + 2) i.toNat (zi w)) (o + 3) i.toNat (zi v)) (o + 4) i.toNat own) o 11 tk) o 14 th
section XEND
variable {M : MemT} {b : Nat} {R : Nat → Nat → Int32} {n : Nat} {T B : Int → Int} {nt : Int} {a : Nat}
theorem x_aEnd (h : BSh M b) (ha : a < 8) {i w v own tk : Int} (hi : 0 ≤ i ∧ i ≤ 9) (e14 : R (10 + 5 * a) 14 = zi i) (e0 : R (10 + 5 * a) 0 = zi own) (e11 : R (10 + 5 * a) 11 = zi tk) : g_X1_endInterval n (WR M b R) (b + 10 + 5 * a) (zi w) (zi v) = some ((), WR M b (aEnd R (10 + 5 * a) i w v (zi own) (zi (tk + v)) (zi (i + 1)))) := by
  have k14 : ∀ R1 k x, up2 R1 (10 + 5 * a + 2) k x (10 + 5 * a) = R1 (10 + 5 * a) := fun R1 k x => by funext j; exact up2_o (by omega)
  have k3 : ∀ R1 k x, up2 R1 (10 + 5 * a + 3) k x (10 + 5 * a) = R1 (10 + 5 * a) := fun R1 k x => by funext j; exact up2_o (by omega)
  have k4 : ∀ R1 k x, up2 R1 (10 + 5 * a + 4) k x (10 + 5 * a) = R1 (10 + 5 * a) := fun R1 k x => by funext j; exact up2_o (by omega)
  have l0 : ¬ (zi i < 0) := by
    show ¬ (zi i < zi 0)
    rw [zi_lt (by omega) (by omega) (by omega) (by omega)]; omega
  have l10 : zi i < 10 := by
    show zi i < zi 10
    rw [zi_lt (by omega) (by omega) (by omega) (by omega)]; omega
  unfold g_X1_endInterval aEnd
  rw [x_gA h ha, i_sb, e14, if_neg l0, i_sb, if_pos l10, x_oA16 h ha, i_sb, i_sb, x_wA16 h ha hi.1 (by omega), i_sb, x_oA17 h ha, i_sb, x_gA h ha, i_sb, k14, e14, x_wA17 h ha hi.1 (by omega), i_sb, x_oA18 h ha, i_sb, x_gA h ha, i_sb, k3, k14, e14, x_gA h ha, i_sb, k3, k14, e0, x_wA18 h ha hi.1 (by omega), i_sb, x_gA h ha, i_sb, k4, k3, k14, e11, x_pA h ha, i_sb, x_gA h ha, i_sb, up2_k (show (14 : Nat) ≠ 11 by omega), k4, k3, k14, e14, x_pA h ha, i_sb, zi_add]
  show some ((), WR M b (up2 _ _ 14 (zi i + zi 1))) = _
  rw [zi_add]
theorem aEnd_at {i w v : Int} {own tk th : Int32} {k : Nat} (h1 : k ≠ 11) (h2 : k ≠ 14) : aEnd R (10 + 5 * a) i w v own tk th (10 + 5 * a) k = R (10 + 5 * a) k := by
  unfold aEnd
  rw [up2_k h2, up2_k h1, up2_o (by omega), up2_o (by omega), up2_o (by omega)]
theorem aEnd_11 {i w v : Int} {own tk th : Int32} : aEnd R (10 + 5 * a) i w v own tk th (10 + 5 * a) 11 = tk := by
  unfold aEnd
  rw [up2_k (by omega), up2_at]
theorem aEnd_14 {i w v : Int} {own tk th : Int32} : aEnd R (10 + 5 * a) i w v own tk th (10 + 5 * a) 14 = th := by
  unfold aEnd
  rw [up2_at]
theorem aEnd_o {i w v : Int} {own tk th : Int32} {o : Nat} (h : ¬ (10 + 5 * a ≤ o ∧ o < 15 + 5 * a)) : aEnd R (10 + 5 * a) i w v own tk th o = R o := by
  funext k
  unfold aEnd
  rw [up2_o (by omega), up2_o (by omega), up2_o (by omega), up2_o (by omega), up2_o (by omega)]
theorem aEnd_2 {i w v : Int} {own tk th : Int32} {k : Nat} : aEnd R (10 + 5 * a) i w v own tk th (10 + 5 * a + 2) k = if k = i.toNat then zi w else R (10 + 5 * a + 2) k := by
  unfold aEnd
  rw [up2_o (by omega), up2_o (by omega), up2_o (by omega), up2_o (by omega)]
  by_cases c : k = i.toNat
  · rw [if_pos c, c, up2_at]
  · rw [if_neg c, up2_k c]
theorem aEnd_3 {i w v : Int} {own tk th : Int32} {k : Nat} : aEnd R (10 + 5 * a) i w v own tk th (10 + 5 * a + 3) k = if k = i.toNat then zi v else R (10 + 5 * a + 3) k := by
  unfold aEnd
  rw [up2_o (by omega), up2_o (by omega), up2_o (by omega)]
  by_cases c : k = i.toNat
  · rw [if_pos c, c, up2_at]
  · rw [if_neg c, up2_k c, up2_o (by omega)]
theorem aEnd_4 {i w v : Int} {own tk th : Int32} {k : Nat} : aEnd R (10 + 5 * a) i w v own tk th (10 + 5 * a + 4) k = if k = i.toNat then own else R (10 + 5 * a + 4) k := by
  unfold aEnd
  rw [up2_o (by omega), up2_o (by omega)]
  by_cases c : k = i.toNat
  · rw [if_pos c, c, up2_at]
  · rw [if_neg c, up2_k c, up2_o (by omega), up2_o (by omega)]
/-- the bank's places of an asset behind clsB, clsC -/
theorem clsB_at {i w j : Int} : AtZ (clsB B a i w) a j = if j = 47 then i + 1 else if j = 37 + i then AtZ B a 0 else if j = 17 + i then w else AtZ B a j := by
  unfold clsB
  rw [AtZ_up, AtZ_up, AtZ_up]
theorem clsB_lo {i w j : Int} (hi : 0 ≤ i) (h : j < 2084) : clsB B a i w j = B j := by
  unfold clsB
  rw [upZ_ne (by omega), upZ_ne (by omega), upZ_ne (by omega)]
/-- the first interval: base, first, taken laid, then the interval ended -/
theorem RAn_first {w own : Int} (hA : AO B a) (h : RAn T B R a) (h27 : AtZ B a 27 = 0) (e47 : AtZ B a 47 = 0) : RAn T (clsC T (clsB B a 0 w) a 0 w) (aEnd (up2 (up2 (up2 R (10 + 5 * a) 9 (zi w)) (10 + 5 * a) 10 (zi (fstZ T B a w))) (10 + 5 * a) 11 (zi (fstZ T B a w))) (10 + 5 * a) 0 w 0 (zi (AtZ B a 0)) (zi (fstZ T B a w + 0)) (zi (0 + 1))) a := by
  obtain ⟨⟨r0, r1, r2, r3, r4, r5⟩, ⟨r6, r7, r8, r9, r10, r11, r12, r13, r14⟩, rr⟩ := h
  have hf : ∀ x, fstZ T (upZ (clsB B a 0 w) (2084 + 48 * a + 6) w) a x = fstZ T B a x := fun x => by
    unfold fstZ
    rw [AtZ_up, if_neg (by omega), clsB_at, if_neg (by omega), if_neg (by omega), if_neg (by omega)]
  have hC : clsC T (clsB B a 0 w) a 0 w = upZ (upZ (clsB B a 0 w) (2084 + 48 * a + 6) w) (2084 + 48 * a + 10) (fstZ T B a w) := by
    unfold clsC
    rw [if_pos rfl, hf]
  have hat : ∀ j : Int, AtZ (clsC T (clsB B a 0 w) a 0 w) a j = if j = 10 then fstZ T B a w else if j = 6 then w else if j = 47 then 0 + 1 else if j = 37 + 0 then AtZ B a 0 else if j = 17 + 0 then w else AtZ B a j := fun j => by
    rw [hC, AtZ_up, AtZ_up, clsB_at]
  have hx : ∀ j : Int, 0 ≤ j → j < 17 → j ≠ 10 → j ≠ 6 → AtZ (clsC T (clsB B a 0 w) a 0 w) a j = AtZ B a j := fun j j0 j1 j2 j3 => by
    rw [hat, if_neg j2, if_neg j3, if_neg (by omega), if_neg (by omega), if_neg (by omega)]
  have h10 : AtZ (clsC T (clsB B a 0 w) a 0 w) a 10 = fstZ T B a w := by rw [hat, if_pos rfl]
  have h6 : AtZ (clsC T (clsB B a 0 w) a 0 w) a 6 = w := by rw [hat, if_neg (by omega), if_pos rfl]
  have h47 : AtZ (clsC T (clsB B a 0 w) a 0 w) a 47 = 0 + 1 := by rw [hat, if_neg (by omega), if_neg (by omega), if_pos rfl]
  have h17 : AtZ (clsC T (clsB B a 0 w) a 0 w) a (17 + 0) = w := by rw [hat, if_neg (by omega), if_neg (by omega), if_neg (by omega), if_neg (by omega), if_pos rfl]
  have h37 : AtZ (clsC T (clsB B a 0 w) a 0 w) a (37 + 0) = AtZ B a 0 := by rw [hat, if_neg (by omega), if_neg (by omega), if_neg (by omega), if_pos rfl]
  have h27' : AtZ (clsC T (clsB B a 0 w) a 0 w) a (27 + 0) = 0 := by rw [hat, if_neg (by omega), if_neg (by omega), if_neg (by omega), if_neg (by omega), if_neg (by omega)]; exact h27
  have hf2 : fstZ T (clsC T (clsB B a 0 w) a 0 w) a w = fstZ T B a w := by
    unfold fstZ
    rw [hx 3 (by omega) (by omega) (by omega) (by omega)]
  generalize clsC T (clsB B a 0 w) a 0 w = B4 at hat hx h10 h6 h47 h17 h37 h27' hf2
  have u : ∀ k, k ≠ 9 → k ≠ 10 → k ≠ 11 → up2 (up2 (up2 R (10 + 5 * a) 9 (zi w)) (10 + 5 * a) 10 (zi (fstZ T B a w))) (10 + 5 * a) 11 (zi (fstZ T B a w)) (10 + 5 * a) k = R (10 + 5 * a) k := fun k k9 k10 k11 => by
    rw [up2_k k11, up2_k k10, up2_k k9]
  refine ⟨⟨?_, ?_, ?_, ?_, ?_, ?_⟩, ⟨?_, ?_, ?_, ?_, ?_, ?_, ?_, ?_, ?_⟩, ?_⟩
  · rw [aEnd_at (by omega) (by omega), u _ (by omega) (by omega) (by omega), hx 0 (by omega) (by omega) (by omega) (by omega), r0]
  · rw [aEnd_at (by omega) (by omega), u _ (by omega) (by omega) (by omega), hx 1 (by omega) (by omega) (by omega) (by omega), r1]
  · rw [aEnd_at (by omega) (by omega), u _ (by omega) (by omega) (by omega), hx 2 (by omega) (by omega) (by omega) (by omega), r2]
  · rw [aEnd_at (by omega) (by omega), u _ (by omega) (by omega) (by omega), hx 3 (by omega) (by omega) (by omega) (by omega), r3]
  · rw [aEnd_at (by omega) (by omega), u _ (by omega) (by omega) (by omega), hx 4 (by omega) (by omega) (by omega) (by omega), r4]
  · rw [aEnd_at (by omega) (by omega), u _ (by omega) (by omega) (by omega), hx 5 (by omega) (by omega) (by omega) (by omega), r5]
  · rw [aEnd_at (by omega) (by omega), u _ (by omega) (by omega) (by omega), hx 7 (by omega) (by omega) (by omega) (by omega), r6]
  · rw [aEnd_at (by omega) (by omega), u _ (by omega) (by omega) (by omega), hx 7 (by omega) (by omega) (by omega) (by omega), hx 8 (by omega) (by omega) (by omega) (by omega)]; exact r7
  · rw [aEnd_at (by omega) (by omega), u _ (by omega) (by omega) (by omega), hx 9 (by omega) (by omega) (by omega) (by omega), r8]
  · rw [aEnd_at (by omega) (by omega), up2_k (by omega), up2_k (by omega), up2_at, h6]
  · intro _
    rw [aEnd_at (by omega) (by omega), up2_k (by omega), up2_at, h6, hf2]
  · rw [aEnd_11, h10, Int.add_zero]
  · rw [aEnd_at (by omega) (by omega), u _ (by omega) (by omega) (by omega), hx 11 (by omega) (by omega) (by omega) (by omega), r12]
  · rw [aEnd_at (by omega) (by omega), u _ (by omega) (by omega) (by omega), hx 11 (by omega) (by omega) (by omega) (by omega), hx 12 (by omega) (by omega) (by omega) (by omega)]; exact r13
  · rw [aEnd_14, h47]
  · intro i i0 i1
    rw [h47] at i1
    have : i = 0 := by omega
    subst this
    rw [aEnd_2, aEnd_3, aEnd_4, if_pos rfl, if_pos rfl, if_pos rfl, h17, h27', h37]
    exact ⟨rfl, rfl, rfl⟩
theorem RAn_next {R' : Nat → Nat → Int32} {i w v : Int} (hi : 0 < i ∧ i ≤ 9) (hA : AO B a) (hK : 0 ≤ B 1867 ∧ B 1867 ≤ 40) (h : RAn T B R a) (e47 : AtZ B a 47 = i) (hR : ∀ o, 10 ≤ o → R' o = R o) : RAn T (bookFor (upZ (clsB B a i w) (2084 + 48 * a + (27 + i)) v) a 2 v) (aEnd R' (10 + 5 * a) i w v (zi (AtZ B a 0)) (zi (AtZ B a 10 + v)) (zi (i + 1))) a := by
  obtain ⟨⟨r0, r1, r2, r3, r4, r5⟩, ⟨r6, r7, r8, r9, r10, r11, r12, r13, r14⟩, rr⟩ := h
  have e0 : R' (10 + 5 * a) = R (10 + 5 * a) := hR _ (by omega)
  have e2 : R' (10 + 5 * a + 2) = R (10 + 5 * a + 2) := hR _ (by omega)
  have e3 : R' (10 + 5 * a + 3) = R (10 + 5 * a + 3) := hR _ (by omega)
  have e4 : R' (10 + 5 * a + 4) = R (10 + 5 * a + 4) := hR _ (by omega)
  have hA7 : AO (upZ (clsB B a i w) (2084 + 48 * a + (27 + i)) v) a := by
    refine AO_set (AO_clsB (by omega) hA (by omega)) (by omega) (by omega) (by unfold okV; omega)
  have hK7 : 0 ≤ upZ (clsB B a i w) (2084 + 48 * a + (27 + i)) v 1867 ∧ upZ (clsB B a i w) (2084 + 48 * a + (27 + i)) v 1867 ≤ 40 := by
    rw [upZ_ne (by omega), clsB_lo (by omega) (by omega)]; exact hK
  have hat : ∀ j : Int, 0 ≤ j → AtZ (bookFor (upZ (clsB B a i w) (2084 + 48 * a + (27 + i)) v) a 2 v) a j = if j = 10 then AtZ B a 10 + v else if j = 27 + i then v else if j = 47 then i + 1 else if j = 37 + i then AtZ B a 0 else if j = 17 + i then w else AtZ B a j := fun j j0 => by
    rw [AtZ_bookFor (by omega) hA7.1 (by omega) (by omega) hK7 j0]
    by_cases c : j = 10
    · rw [if_pos c, if_pos c, AtZ_up, if_neg (by omega), clsB_at, if_neg (by omega), if_neg (by omega), if_neg (by omega)]
    · rw [if_neg c, if_neg c, AtZ_up, clsB_at]
  have hx : ∀ j : Int, 0 ≤ j → j < 17 → j ≠ 10 → AtZ (bookFor (upZ (clsB B a i w) (2084 + 48 * a + (27 + i)) v) a 2 v) a j = AtZ B a j := fun j j0 j1 j2 => by
    rw [hat j j0, if_neg j2, if_neg (by omega), if_neg (by omega), if_neg (by omega), if_neg (by omega)]
  have h10 := hat 10 (by omega)
  have h47 := hat 47 (by omega)
  rw [if_pos rfl] at h10
  rw [if_neg (by omega), if_neg (by omega), if_pos rfl] at h47
  have hrow : ∀ i' : Int, 0 ≤ i' → i' < i + 1 → AtZ (bookFor (upZ (clsB B a i w) (2084 + 48 * a + (27 + i)) v) a 2 v) a (17 + i') = (if i' = i then w else AtZ B a (17 + i')) ∧ AtZ (bookFor (upZ (clsB B a i w) (2084 + 48 * a + (27 + i)) v) a 2 v) a (27 + i') = (if i' = i then v else AtZ B a (27 + i')) ∧ AtZ (bookFor (upZ (clsB B a i w) (2084 + 48 * a + (27 + i)) v) a 2 v) a (37 + i') = (if i' = i then AtZ B a 0 else AtZ B a (37 + i')) := fun i' j0 j1 => by
    rw [hat _ (by omega), hat _ (by omega), hat _ (by omega)]
    by_cases c : i' = i
    · subst c
      rw [if_pos rfl, if_pos rfl, if_pos rfl, if_neg (by omega), if_neg (by omega), if_neg (by omega), if_neg (by omega), if_pos rfl, if_neg (by omega), if_pos rfl, if_neg (by omega), if_neg (by omega), if_neg (by omega), if_pos rfl]
      exact ⟨rfl, rfl, rfl⟩
    · rw [if_neg c, if_neg c, if_neg c, if_neg (by omega), if_neg (by omega), if_neg (by omega), if_neg (by omega), if_neg (by omega), if_neg (by omega), if_neg (by omega), if_neg (by omega), if_neg (by omega), if_neg (by omega), if_neg (by omega), if_neg (by omega), if_neg (by omega), if_neg (by omega), if_neg (by omega)]
      exact ⟨rfl, rfl, rfl⟩
  generalize bookFor (upZ (clsB B a i w) (2084 + 48 * a + (27 + i)) v) a 2 v = B4 at hat hx h10 h47 hrow
  have hf2 : ∀ x, fstZ T B4 a x = fstZ T B a x := fun x => by
    unfold fstZ
    rw [hx 3 (by omega) (by omega) (by omega)]
  refine ⟨⟨?_, ?_, ?_, ?_, ?_, ?_⟩, ⟨?_, ?_, ?_, ?_, ?_, ?_, ?_, ?_, ?_⟩, ?_⟩
  · rw [aEnd_at (by omega) (by omega), e0, hx 0 (by omega) (by omega) (by omega), r0]
  · rw [aEnd_at (by omega) (by omega), e0, hx 1 (by omega) (by omega) (by omega), r1]
  · rw [aEnd_at (by omega) (by omega), e0, hx 2 (by omega) (by omega) (by omega), r2]
  · rw [aEnd_at (by omega) (by omega), e0, hx 3 (by omega) (by omega) (by omega), r3]
  · rw [aEnd_at (by omega) (by omega), e0, hx 4 (by omega) (by omega) (by omega), r4]
  · rw [aEnd_at (by omega) (by omega), e0, hx 5 (by omega) (by omega) (by omega), r5]
  · rw [aEnd_at (by omega) (by omega), e0, hx 7 (by omega) (by omega) (by omega), r6]
  · rw [aEnd_at (by omega) (by omega), e0, hx 7 (by omega) (by omega) (by omega), hx 8 (by omega) (by omega) (by omega)]; exact r7
  · rw [aEnd_at (by omega) (by omega), e0, hx 9 (by omega) (by omega) (by omega), r8]
  · rw [aEnd_at (by omega) (by omega), e0, hx 6 (by omega) (by omega) (by omega), r9]
  · intro _
    rw [aEnd_at (by omega) (by omega), e0, hx 6 (by omega) (by omega) (by omega), hf2, r10 (by omega)]
  · rw [aEnd_11, h10]
  · rw [aEnd_at (by omega) (by omega), e0, hx 11 (by omega) (by omega) (by omega), r12]
  · rw [aEnd_at (by omega) (by omega), e0, hx 11 (by omega) (by omega) (by omega), hx 12 (by omega) (by omega) (by omega)]; exact r13
  · rw [aEnd_14, h47]
  · intro i' j0 j1
    rw [h47] at j1
    obtain ⟨q1, q2, q3⟩ := hrow i' j0 j1
    rw [aEnd_2, aEnd_3, aEnd_4, q1, q2, q3, e2, e3, e4]
    by_cases c : i' = i
    · subst c
      rw [if_pos rfl, if_pos rfl, if_pos rfl, if_pos rfl, if_pos rfl, if_pos rfl]
      exact ⟨rfl, rfl, rfl⟩
    · have : ¬ (i'.toNat = i.toNat) := by omega
      rw [if_neg this, if_neg this, if_neg this, if_neg c, if_neg c, if_neg c]
      exact rr i' j0 (by omega)
end XEND
