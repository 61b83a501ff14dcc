/-! ===== PURE 73: chance ===== -/
def nxt (a : Int64) : Int64 := ((a * 1103515245) + 12345) &&& 2147483647
def dr (a : Int64) : Int := (a.toInt / 65536) % 1000
theorem and31 (x : Int64) : 0 ≤ (x &&& 2147483647).toInt ∧ (x &&& 2147483647).toInt ≤ 2147483647 := by
  have h : (x &&& 2147483647).toBitVec = x.toBitVec &&& 2147483647#64 := rfl
  have hn : (x.toBitVec &&& 2147483647#64).toNat ≤ 2147483647 := by
    rw [BitVec.toNat_and]
    exact Nat.and_le_right
  rw [← Int64.toInt_toBitVec, h, BitVec.toInt_eq_toNat_of_lt (by omega)]
  omega
theorem zj_shr (x : Int64) : x >>> 16 = zj (x.toInt / 65536) := by
  have h : (x >>> 16).toBitVec = x.toBitVec.sshiftRight 16 := rfl
  have h2 : (x >>> 16).toInt = x.toInt / 65536 := by
    rw [← Int64.toInt_toBitVec, h, BitVec.toInt_sshiftRight, Int64.toInt_toBitVec, Int.shiftRight_eq_div_pow]
    rfl
  rw [← h2, zj_int]
theorem dr_q {w : Int} (h0 : 0 ≤ w) (h1 : w ≤ 2147483647) : Int64.toInt32 (zj w - zj w / zj 1000 * zj 1000) = zi (w % 1000) := by
  rw [zj_div (by omega) (by omega) (by omega) (by omega), Int.tdiv_eq_ediv_of_nonneg h0, zj_mul, zj_sub, zj_32]
  exact congrArg zi (by omega)
theorem dr_x (v : Int64) : Int64.toInt32 ((nxt v >>> (Int32.toInt64 16 &&& 63)) - (nxt v >>> (Int32.toInt64 16 &&& 63)) / 1000 * 1000) = zi (dr (nxt v)) := by
  have hb := and31 ((v * 1103515245) + 12345)
  have e16 : (Int32.toInt64 16 &&& 63) = (16 : Int64) := by decide
  rw [e16, zj_shr]
  exact dr_q (w := (nxt v).toInt / 65536) (by unfold nxt; omega) (by unfold nxt; omega)
theorem dr_m (v : Int64) : Int64.toInt32 ((nxt v / 65536) - (nxt v / 65536) / (Int32.toInt64 1000) * (Int32.toInt64 1000)) = zi (dr (nxt v)) := by
  have hb := and31 ((v * 1103515245) + 12345)
  have hb : 0 ≤ (nxt v).toInt ∧ (nxt v).toInt ≤ 2147483647 := hb
  have e1 : Int32.toInt64 1000 = zj 1000 := by decide
  have e2 : nxt v / 65536 = zj ((nxt v).toInt / 65536) := by
    conv => lhs; rw [← zj_int (nxt v)]
    show zj (nxt v).toInt / zj 65536 = _
    rw [zj_div (by omega) (by omega) (by omega) (by omega), Int.tdiv_eq_ediv_of_nonneg hb.1]
  rw [e1, e2]
  exact dr_q (w := (nxt v).toInt / 65536) (by omega) (by omega)
theorem dr_r (v : Int64) : 0 ≤ dr v ∧ dr v ≤ 999 := by unfold dr; omega
theorem loop2 {σ T : Type} {step : σ → Option (σ ⊕ T)} {s0 s1 s2 : σ} {t : T} (h0 : step s0 = some (.inl s1)) (h1 : step s1 = some (.inl s2)) (h2 : step s2 = some (.inr t)) {n : Nat} (hn : 2 < n) : loopF step n s0 = some t := by
  refine loop_k (fun i => if i = 0 then s0 else if i = 1 then s1 else s2) t 2 (fun i hi => ?_) h2 n hn
  rcases (show i = 0 ∨ i = 1 by omega) with q | q
  · subst q; exact h0
  · subst q; exact h1
/-- one quarter of chance -/
def chS (T tr sl bu as : Int → Int) (nt t : Int) (B : Int → Int) (v : Int64) : Int → Int := clqZ T tr sl bu as (addZ (addZ B (sumI t (B 0) 0) (dr (nxt v))) (sumI t (B 0) 1) (dr (nxt (nxt v)))) nt
def chI (T tr sl bu as : Int → Int) (nt t : Int) (B : Int → Int) (v : Int64) : Nat → (Int → Int) × Int64
  | 0 => (B, v)
  | k + 1 => (chS T tr sl bu as nt t (chI T tr sl bu as nt t B v k).1 (chI T tr sl bu as nt t B v k).2, nxt (nxt (chI T tr sl bu as nt t B v k).2))
def dS (C B : Int → Int) (t : Int) : Nat → Int
  | 0 => 0
  | k + 1 => dS C B t k + (C (2068 + 4 * t + k) - B (2068 + 4 * t + k))
section M18
variable {M N : MemT} {c r : Nat} {R : Nat → Nat → Int32} {F : Nat → Int32} {S : Int → Int} {n : Nat} {T tr sl bu as B : Int → Int} {nt U t ho ha : Int} {sm : Int32}
theorem chS_BI (hT : told3 T) (htr : trOk tr) (hr : RowsOk T sl bu as) (hNt : RowsNt T as nt) (hnt : 0 ≤ nt ∧ nt ≤ 4) (hU : 2000000 ≤ U ∧ U + 200000 ≤ 100000000) (h : BI T nt U B) (t0 : 0 ≤ t) (t1 : t < 4) (h63 : B 0 < 63) (v : Int64) : BI T nt (U + 100000) (addZ B (sumI t (B 0) 0) (dr (nxt v))) ∧ BI T nt (U + 200000) (addZ (addZ B (sumI t (B 0) 0) (dr (nxt v))) (sumI t (B 0) 1) (dr (nxt (nxt v)))) ∧ BI T nt (U + 200000) (chS T tr sl bu as nt t B v) ∧ chS T tr sl bu as nt t B v 0 = B 0 + 1 := by
  have d1 := dr_r (nxt v)
  have d2 := dr_r (nxt (nxt v))
  obtain ⟨n1, n2⟩ := h.2.1
  have e0 : ∀ (B : Int → Int) (q w x : Int), 0 ≤ q → 0 ≤ w → addZ B (sumI t q w) x 0 = B 0 := fun B q w x hq hw => addZ_ne (by unfold sumI; omega)
  have h1 := BI_add (t := t) (q := B 0) (w := 0) (x := dr (nxt v)) h (by omega) t0 t1 n1 (Int.le_refl _) (by omega) (by omega) (by omega)
  have h2 := BI_add (t := t) (q := B 0) (w := 1) (x := dr (nxt (nxt v))) h1 (by omega) t0 t1 n1 (by rw [e0 _ _ _ _ n1 (by omega)]; exact Int.le_refl _) (by omega) (by omega) (by omega)
  rw [show U + 100000 + 100000 = U + 200000 by omega] at h2
  have h3 := clqZ_BI hT htr hr hNt hnt (by omega) h2 (by rw [e0 _ _ _ _ n1 (by omega), e0 _ _ _ _ n1 (by omega)]; exact h63)
  refine ⟨h1, h2, h3.1, ?_⟩
  unfold chS
  rw [h3.2, e0 _ _ _ _ n1 (by omega), e0 _ _ _ _ n1 (by omega)]
theorem chI_BI (hT : told3 T) (htr : trOk tr) (hr : RowsOk T sl bu as) (hNt : RowsNt T as nt) (hnt : 0 ≤ nt ∧ nt ≤ 4) (hU : 2000000 ≤ U ∧ U ≤ 90000000) (h : BI T nt U B) (t0 : 0 ≤ t) (t1 : t < 4) (v : Int64) : ∀ k : Nat, k ≤ 8 → B 0 + k ≤ 63 → BI T nt (U + 200000 * k) (chI T tr sl bu as nt t B v k).1 ∧ (chI T tr sl bu as nt t B v k).1 0 = B 0 + k := by
  intro k
  induction k with
  | zero => intro _ _; exact ⟨by rw [show U + 200000 * ((0 : Nat) : Int) = U by omega]; exact h, (Int.add_zero _).symm⟩
  | succ k ih =>
    intro hk hb
    obtain ⟨h1, h2⟩ := ih (by omega) (by omega)
    have h3 := chS_BI (U := U + 200000 * k) hT htr hr hNt hnt (by omega) h1 t0 t1 (by omega) (chI T tr sl bu as nt t B v k).2
    refine ⟨?_, ?_⟩
    · rw [show U + 200000 * ((k + 1 : Nat) : Int) = U + 200000 * k + 200000 by omega]
      exact h3.2.2.1
    · show chS T tr sl bu as nt t (chI T tr sl bu as nt t B v k).1 (chI T tr sl bu as nt t B v k).2 0 = _
      rw [h3.2.2.2, h2]
      omega
/-- the two sales of a quarter, component -/
theorem t_two (hx : XTr M c r R nt T tr sl bu as B U) (hU : U + 200000 ≤ 100000000) (t0 : 0 ≤ t) (t1 : t < 4) (hn : 2 < n) (v : Int64) : ∃ R1, loopF (fun (s : MemT × Int64 × Int32) => (fun (M18 : MemT) (v19 : Int64) (v20 : Int32) => (if 2 ≤ v20 then some (.inr (M18, v19, v20)) else bd (g_X9_numberBehind n M18 v19) (fun r22 M23 => (gO M23 7 0 5).bind (fun j24 => (gO M23 2 j24 1).bind (fun j25 => (gO M23 7 0 5).bind (fun j26 => (gO M23 2 j26 1).bind (fun j27 => (gI M23 1 j27 0).bind (fun v28 => (if (1000 : Int64) = 0 then none else chk M23 1 j25 (bd (g_X2_addToSum n M23 j25 (zi t) v28 v20 (Int64.toInt32 ((r22 >>> (Int32.toInt64 16 &&& 63)) - (r22 >>> (Int32.toInt64 16 &&& 63)) / 1000 * 1000))) (fun r29 M30 => some (.inl (M30, r22, v20 + 1))))))))))))) s.1 s.2.1 s.2.2) n (WX M c R F S, v, 0) = some (WX M c R1 F S, nxt (nxt v), 2) ∧ RBk T (addZ (addZ B (sumI t (B 0) 0) (dr (nxt v))) (sumI t (B 0) 1) (dr (nxt (nxt v)))) nt R1 := by
  obtain ⟨n1, n2⟩ := hx.2.2.2.1.2.1
  have d1 := dr_r (nxt v)
  have d2 := dr_r (nxt (nxt v))
  have e0 : addZ B (sumI t (B 0) 0) (dr (nxt v)) 0 = B 0 := addZ_ne (by unfold sumI; omega)
  obtain ⟨R1, g1, hR1⟩ := t_add (n := n) (F := F) (S := S) (t := t) (q := B 0) (w := 0) (v := dr (nxt v)) hx t0 t1 n1 n2 (by omega) (by omega)
  have hB1 := BI_add (t := t) (q := B 0) (w := 0) (x := dr (nxt v)) hx.2.2.2.1 (by have := hx.2.2.2.2; omega) t0 t1 n1 (Int.le_refl _) (by omega) (by omega) (by omega)
  have hx1 := t_new hx hR1 hB1 (by have := hx.2.2.2.2; omega)
  obtain ⟨R2, g2, hR2⟩ := t_add (n := n) (F := F) (S := S) (t := t) (q := B 0) (w := 1) (v := dr (nxt (nxt v))) hx1 t0 t1 n1 n2 (by omega) (by omega)
  have r0 : R 0 0 = zi (B 0) := hx.2.1.2.2.1.1.1.1
  have r1 : R1 0 0 = zi (B 0) := hR1.1.1.1.trans (congrArg zi e0)
  have hC := hx.2.1.1
  refine ⟨R2, loop2 (s1 := (WX M c R1 F S, nxt v, 1)) (s2 := (WX M c R2 F S, nxt (nxt v), 2)) ?_ ?_ ?_ hn, hR2⟩
  · dsimp only
    rw [if_neg (by decide)]
    show bd (some (nxt v, WX M c R F S)) _ = _
    rw [i_bd, t_o5 hx, i_sb, c_o1 hC, i_sb, i_sb, c_o1 hC, i_sb, c_now hC, i_sb, if_neg (by decide), c_kB hC, r0, dr_x, show g_X2_addToSum n (WX M c R F S) (c + 10) (zi t) (zi (B 0)) 0 (zi (dr (nxt v))) = _ from g1, i_bd]
    rfl
  · dsimp only
    rw [if_neg (by decide)]
    show bd (some (nxt (nxt v), WX M c R1 F S)) _ = _
    rw [i_bd, t_o5 hx, i_sb, c_o1 hC, i_sb, i_sb, c_o1 hC, i_sb, c_now hC, i_sb, if_neg (by decide), c_kB hC, r1, dr_x, show g_X2_addToSum n (WX M c R1 F S) (c + 10) (zi t) (zi (B 0)) 1 (zi (dr (nxt (nxt v)))) = _ from g2, i_bd]
    rfl
  · dsimp only
    rw [if_pos (by decide)]
theorem t_ch (hx : XTr M c r R nt T tr sl bu as B U) (hNt : RowsNt T as nt) (hU : U ≤ 90000000) (hn : 300 < n) (t0 : 0 ≤ t) (t1 : t < 4) (v : Int64) {k : Int} (k0 : 0 ≤ k) (k8 : k ≤ 8) (hk : B 0 + k ≤ 63) : ∃ R1 F1 S1, loopF (fun (s : MemT × Int64 × Int32) => (fun (M14 : MemT) (v15 : Int64) (v16 : Int32) => (if zi k ≤ v16 then some (.inr (M14, v15, v16)) else (loopF (fun (s : MemT × Int64 × Int32) => (fun (M18 : MemT) (v19 : Int64) (v20 : Int32) => (if 2 ≤ v20 then some (.inr (M18, v19, v20)) else bd (g_X9_numberBehind n M18 v19) (fun r22 M23 => (gO M23 7 0 5).bind (fun j24 => (gO M23 2 j24 1).bind (fun j25 => (gO M23 7 0 5).bind (fun j26 => (gO M23 2 j26 1).bind (fun j27 => (gI M23 1 j27 0).bind (fun v28 => (if (1000 : Int64) = 0 then none else chk M23 1 j25 (bd (g_X2_addToSum n M23 j25 (zi t) v28 v20 (Int64.toInt32 ((r22 >>> (Int32.toInt64 16 &&& 63)) - (r22 >>> (Int32.toInt64 16 &&& 63)) / 1000 * 1000))) (fun r29 M30 => some (.inl (M30, r22, v20 + 1))))))))))))) s.1 s.2.1 s.2.2) n (M14, v15, 0)).bind (fun (s : MemT × Int64 × Int32) => (fun (M31 : MemT) (v32 : Int64) (v33 : Int32) => (gO M31 7 0 5).bind (fun j34 => chk M31 2 j34 (bd (g_X3_endQuarter n M31 j34) (fun r35 M36 => some (.inl (M36, v32, v16 + 1)))))) s.1 s.2.1 s.2.2))) s.1 s.2.1 s.2.2) n (WX M c R F S, v, 0) = some (WX M c R1 F1 S1, (chI T tr sl bu as nt t B v k.toNat).2, zi k) ∧ RBk T (chI T tr sl bu as nt t B v k.toNat).1 nt R1 := by
  obtain ⟨h0, ⟨h1, h2, h3, h4, h5, h6, -, -, -⟩, h10, h11, h12⟩ := id hx
  obtain ⟨n1, n2⟩ := id h11.2.1
  have key := loop_inv (step := fun (s : MemT × Int64 × Int32) => (fun (M14 : MemT) (v15 : Int64) (v16 : Int32) => (if zi k ≤ v16 then some (.inr (M14, v15, v16)) else (loopF (fun (s : MemT × Int64 × Int32) => (fun (M18 : MemT) (v19 : Int64) (v20 : Int32) => (if 2 ≤ v20 then some (.inr (M18, v19, v20)) else bd (g_X9_numberBehind n M18 v19) (fun r22 M23 => (gO M23 7 0 5).bind (fun j24 => (gO M23 2 j24 1).bind (fun j25 => (gO M23 7 0 5).bind (fun j26 => (gO M23 2 j26 1).bind (fun j27 => (gI M23 1 j27 0).bind (fun v28 => (if (1000 : Int64) = 0 then none else chk M23 1 j25 (bd (g_X2_addToSum n M23 j25 (zi t) v28 v20 (Int64.toInt32 ((r22 >>> (Int32.toInt64 16 &&& 63)) - (r22 >>> (Int32.toInt64 16 &&& 63)) / 1000 * 1000))) (fun r29 M30 => some (.inl (M30, r22, v20 + 1))))))))))))) s.1 s.2.1 s.2.2) n (M14, v15, 0)).bind (fun (s : MemT × Int64 × Int32) => (fun (M31 : MemT) (v32 : Int64) (v33 : Int32) => (gO M31 7 0 5).bind (fun j34 => chk M31 2 j34 (bd (g_X3_endQuarter n M31 j34) (fun r35 M36 => some (.inl (M36, v32, v16 + 1)))))) s.1 s.2.1 s.2.2))) s.1 s.2.1 s.2.2) (fun i s => ∃ R1 F1 S1, s = (WX M c R1 F1 S1, (chI T tr sl bu as nt t B v i).2, zi (i : Int)) ∧ RBk T (chI T tr sl bu as nt t B v i).1 nt R1) (fun u => ∃ R1 F1 S1, u = (WX M c R1 F1 S1, (chI T tr sl bu as nt t B v k.toNat).2, zi k) ∧ RBk T (chI T tr sl bu as nt t B v k.toNat).1 nt R1) k.toNat (fun i hi s hs => ?_) (fun s hs => ?_) n (by omega) (WX M c R F S, v, 0) ⟨R, F, S, rfl, h3⟩
  · obtain ⟨u, hu, R1, F1, S1, rfl, hR⟩ := key
    exact ⟨R1, F1, S1, hu, hR⟩
  · obtain ⟨R1, F1, S1, rfl, hR⟩ := hs
    obtain ⟨b1, b2⟩ := chI_BI (tr := tr) (sl := sl) (bu := bu) (U := U) h5 h6 h10 hNt h4 ⟨h12.1, hU⟩ h11 t0 t1 v i (by omega) (by omega)
    have hx1 := t_new hx hR b1 (by omega)
    have hS := chS_BI (U := U + 200000 * i) h5 h6 h10 hNt h4 (by omega) b1 t0 t1 (by omega) (chI T tr sl bu as nt t B v i).2
    obtain ⟨R2, g2, hR2⟩ := t_two (n := n) (F := F1) (S := S1) hx1 (by omega) t0 t1 (by omega) (chI T tr sl bu as nt t B v i).2
    have hx2 := t_new hx1 hR2 hS.2.1 (by omega)
    have e0 : addZ (addZ (chI T tr sl bu as nt t B v i).1 (sumI t ((chI T tr sl bu as nt t B v i).1 0) 0) (dr (nxt (chI T tr sl bu as nt t B v i).2))) (sumI t ((chI T tr sl bu as nt t B v i).1 0) 1) (dr (nxt (nxt (chI T tr sl bu as nt t B v i).2))) 0 = (chI T tr sl bu as nt t B v i).1 0 := (addZ_ne (by unfold sumI; omega)).trans (addZ_ne (by unfold sumI; omega))
    obtain ⟨⟨R3, F3, S3, g3, hR3⟩, -⟩ := t_end (n := n) (F := F1) (S := S1) hx2 hNt hn (by rw [e0]; omega)
    refine ⟨(WX M c R3 F3 S3, (chI T tr sl bu as nt t B v (i + 1)).2, zi ((i + 1 : Nat) : Int)), ?_, R3, F3, S3, rfl, hR3⟩
    dsimp only
    dsimp only at g2
    rw [if_neg (by rw [zi_le (by omega) (by omega) (by omega) (by omega)]; omega), g2, i_sb]
    dsimp only
    rw [t_o5 hx2, i_sb, c_kC h1, g3, i_bd, show zi (i : Int) + 1 = zi ((i + 1 : Nat) : Int) from zi_add (i : Int) 1]
    rfl
  · obtain ⟨R1, F1, S1, rfl, hR⟩ := hs
    refine ⟨_, ?_, R1, F1, S1, rfl, hR⟩
    dsimp only
    rw [Int.toNat_of_nonneg k0, if_pos (Int32.le_refl _)]
theorem sJ_WC {v : Int64} : sJ (WC M 1 B S ho ha sm) 139 28 v = WC (sJ M 139 28 v) 1 B S ho ha sm := by
  unfold WC sJ
  refine Prod.ext rfl (Prod.ext rfl (Prod.ext rfl (Prod.ext rfl (Prod.ext rfl ?_))))
  funext x k
  show (if x = 139 ∧ k = 28 then v else if x = 148 then zj (S (k : Int)) else if x = 139 ∧ k = 25 then zj ho else if x = 139 ∧ k = 26 then zj ha else mJ M x k) = (if x = 148 then zj (S (k : Int)) else if x = 139 ∧ k = 25 then zj ho else if x = 139 ∧ k = 26 then zj ha else (if x = 139 ∧ k = 28 then v else mJ M x k))
  by_cases h : x = 139 ∧ k = 28
  · rw [if_pos h, if_neg (by omega), if_neg (by omega), if_neg (by omega), if_pos h]
  · rw [if_neg h, if_neg h]
theorem sJ_sJ {v w : Int64} {x k : Nat} : sJ (sJ M x k v) x k w = sJ M x k w := by
  unfold sJ
  refine Prod.ext rfl (Prod.ext rfl (Prod.ext rfl (Prod.ext rfl (Prod.ext rfl ?_))))
  funext y j
  show (if y = x ∧ j = k then w else if y = x ∧ j = k then v else mJ M y j) = (if y = x ∧ j = k then w else mJ M y j)
  by_cases h : y = x ∧ j = k
  · rw [if_pos h, if_pos h]
  · rw [if_neg h, if_neg h, if_neg h]
theorem w_Jn {bk : Int} {x k : Nat} (h1 : x ≠ 148) (h2 : x ≠ 139 ∨ (k ≠ 25 ∧ k ≠ 26)) : mJ (WC M bk B S ho ha sm) x k = mJ M x k := by
  show (if x = 148 then zj (S (k : Int)) else if x = 139 ∧ k = 25 then zj ho else if x = 139 ∧ k = 26 then zj ha else mJ M x k) = _
  rw [if_neg h1, if_neg (by omega), if_neg (by omega)]
theorem sJ_at {x k : Nat} {v : Int64} : mJ (sJ M x k v) x k = v := if_pos ⟨rfl, rfl⟩
theorem m_draw (h : MOk N 1 nt T tr sl bu as) (v : Int64) : g_X10_draw n (WC (sJ N 139 28 v) 1 B S ho ha sm) 139 1000 = some (zi (dr (nxt v)), WC (sJ N 139 28 (nxt v)) 1 B S ho ha sm) := by
  have hk : mK N 139 = 8 := h.1.1
  have e1 : mJ (WC (sJ N 139 28 v) 1 B S ho ha sm) 139 28 = v := (w_Jn (by omega) (by omega)).trans sJ_at
  have e2 : mJ (WC (sJ N 139 28 (nxt v)) 1 B S ho ha sm) 139 28 = nxt v := (w_Jn (by omega) (by omega)).trans sJ_at
  unfold g_X10_draw
  rw [i_gJ (M := WC (sJ N 139 28 v) 1 B S ho ha sm) hk, i_sb, e1, i_pJ (M := WC (sJ N 139 28 v) 1 B S ho ha sm) hk, i_sb, sJ_WC, sJ_sJ]
  show (gJ (WC (sJ N 139 28 (nxt v)) 1 B S ho ha sm) 8 139 28).bind _ = _
  rw [i_gJ (M := WC (sJ N 139 28 (nxt v)) 1 B S ho ha sm) hk, i_sb, e2, if_neg (by decide), if_neg (by decide), dr_m]
  rfl
theorem m_ch (hO : MOk N 1 nt T tr sl bu as) (hT : told3 T) (htr : trOk tr) (hr : RowsOk T sl bu as) (hNt : RowsNt T as nt) (hnt : 0 ≤ nt ∧ nt ≤ 4) (hU : 2000000 ≤ U ∧ U ≤ 90000000) (hB : BI T nt U B) (hn : 300 < n) (t0 : 0 ≤ t) (t1 : t < 4) (v : Int64) {k : Int} (k0 : 0 ≤ k) (k8 : k ≤ 8) (hk : B 0 + k ≤ 63) : ∃ S1 ho1 ha1 sm1, loopF (fun (s : MemT × Int32) => (fun (M16 : MemT) (v17 : Int32) => (if zi k ≤ v17 then some (.inr (M16, v17)) else chk M16 8 139 (bd (g_X10_of n M16 139 0) (fun r19 M20 => chk M20 8 139 (bd (g_X10_sumAt n M20 139 (zi t) r19 0) (fun r21 M22 => chk M22 8 139 (bd (g_X10_draw n M22 139 1000) (fun r23 M24 => chk M24 8 139 (bd (g_X10_add n M24 139 r21 r23) (fun r25 M26 => chk M26 8 139 (bd (g_X10_of n M26 139 0) (fun r27 M28 => chk M28 8 139 (bd (g_X10_sumAt n M28 139 (zi t) r27 1) (fun r29 M30 => chk M30 8 139 (bd (g_X10_draw n M30 139 1000) (fun r31 M32 => chk M32 8 139 (bd (g_X10_add n M32 139 r29 r31) (fun r33 M34 => chk M34 8 139 (bd (g_X10_closesQuarter n M34 139) (fun r35 M36 => some (.inl (M36, v17 + 1)))))))))))))))))))))) s.1 s.2) n (WC (sJ N 139 28 v) 1 B S ho ha sm, 0) = some (WC (sJ N 139 28 (chI T tr sl bu as nt t B v k.toNat).2) 1 (chI T tr sl bu as nt t B v k.toNat).1 S1 ho1 ha1 sm1, zi k) := by
  obtain ⟨n1, n2⟩ := hB.2.1
  have hv : ∀ v, MOk (sJ N 139 28 v) 1 nt T tr sl bu as := fun v => hO
  have key := loop_inv (step := fun (s : MemT × Int32) => (fun (M16 : MemT) (v17 : Int32) => (if zi k ≤ v17 then some (.inr (M16, v17)) else chk M16 8 139 (bd (g_X10_of n M16 139 0) (fun r19 M20 => chk M20 8 139 (bd (g_X10_sumAt n M20 139 (zi t) r19 0) (fun r21 M22 => chk M22 8 139 (bd (g_X10_draw n M22 139 1000) (fun r23 M24 => chk M24 8 139 (bd (g_X10_add n M24 139 r21 r23) (fun r25 M26 => chk M26 8 139 (bd (g_X10_of n M26 139 0) (fun r27 M28 => chk M28 8 139 (bd (g_X10_sumAt n M28 139 (zi t) r27 1) (fun r29 M30 => chk M30 8 139 (bd (g_X10_draw n M30 139 1000) (fun r31 M32 => chk M32 8 139 (bd (g_X10_add n M32 139 r29 r31) (fun r33 M34 => chk M34 8 139 (bd (g_X10_closesQuarter n M34 139) (fun r35 M36 => some (.inl (M36, v17 + 1)))))))))))))))))))))) s.1 s.2) (fun i s => ∃ S1 ho1 ha1 sm1, s = (WC (sJ N 139 28 (chI T tr sl bu as nt t B v i).2) 1 (chI T tr sl bu as nt t B v i).1 S1 ho1 ha1 sm1, zi (i : Int))) (fun u => ∃ S1 ho1 ha1 sm1, u = (WC (sJ N 139 28 (chI T tr sl bu as nt t B v k.toNat).2) 1 (chI T tr sl bu as nt t B v k.toNat).1 S1 ho1 ha1 sm1, zi k)) k.toNat (fun i hi s hs => ?_) (fun s hs => ?_) n (by omega) (WC (sJ N 139 28 v) 1 B S ho ha sm, 0) ⟨S, ho, ha, sm, rfl⟩
  · obtain ⟨u, hu, S1, ho1, ha1, sm1, rfl⟩ := key
    exact ⟨S1, ho1, ha1, sm1, hu⟩
  · obtain ⟨S1, ho1, ha1, sm1, rfl⟩ := hs
    obtain ⟨b1, b2⟩ := chI_BI (tr := tr) (sl := sl) (bu := bu) (U := U) hT htr hr hNt hnt hU hB t0 t1 v i (by omega) (by omega)
    have hS := chS_BI (U := U + 200000 * i) hT htr hr hNt hnt (by omega) b1 t0 t1 (by omega) (chI T tr sl bu as nt t B v i).2
    generalize hBi : (chI T tr sl bu as nt t B v i).1 = Bi at b1 b2 hS
    generalize hvi : (chI T tr sl bu as nt t B v i).2 = vi at hS
    have es : (chI T tr sl bu as nt t B v (i + 1)) = (chS T tr sl bu as nt t Bi vi, nxt (nxt vi)) := by
      show (chS T tr sl bu as nt t (chI T tr sl bu as nt t B v i).1 (chI T tr sl bu as nt t B v i).2, nxt (nxt (chI T tr sl bu as nt t B v i).2)) = _
      rw [hBi, hvi]
    have e0 : addZ Bi (sumI t (Bi 0) 0) (dr (nxt vi)) 0 = Bi 0 := addZ_ne (by unfold sumI; omega)
    have h2 := hS.2.1
    have hK := KE_K h2.2.2.2.2.1
    have hX := h2.2.2.2.2.2.2.2.2.2
    have e00 : addZ (addZ Bi (sumI t (Bi 0) 0) (dr (nxt vi))) (sumI t (Bi 0) 1) (dr (nxt (nxt vi))) 0 = Bi 0 := (addZ_ne (by unfold sumI; omega)).trans e0
    obtain ⟨S2, ho2, ha2, sm2, g⟩ := m_closesQuarter (n := n) (S := S1) (ho := ho1) (ha := ha1) (sm := sm1) (hv (nxt (nxt vi))) hT htr hr hn hnt h2.1 (by rw [e00]; omega) (by omega) h2.2.2.2.2.2.2.2.2.1 (AX_allA hX) (AN2_r h2.2.1 h2.2.2.2.2.2.2.1)
    refine ⟨(WC (sJ N 139 28 (chI T tr sl bu as nt t B v (i + 1)).2) 1 (chI T tr sl bu as nt t B v (i + 1)).1 S2 ho2 ha2 sm2, zi ((i + 1 : Nat) : Int)), ?_, S2, ho2, ha2, sm2, rfl⟩
    have o0 : ∀ v Bz S ho ha sm, g_X10_of n (WC (sJ N 139 28 v) 1 Bz S ho ha sm) 139 0 = some (zi (Bz 0), WC (sJ N 139 28 v) 1 Bz S ho ha sm) := fun v Bz S ho ha sm => m_of (hv v) (k := 0) (by omega) (by omega)
    have hs0 : 1 ≤ sumI t (Bi 0) 0 ∧ sumI t (Bi 0) 0 < 1281 ∧ 1 ≤ sumI t (Bi 0) 1 ∧ sumI t (Bi 0) 1 < 1281 := by unfold sumI; omega
    have a0 : ∀ v Bz S ho ha sm x, g_X10_add n (WC (sJ N 139 28 v) 1 Bz S ho ha sm) 139 (zi (1 + 320 * t + 5 * Bi 0 + 0)) (zi x) = some ((), WC (sJ N 139 28 v) 1 (addZ Bz (sumI t (Bi 0) 0) x) S ho ha sm) := fun v Bz S ho ha sm x => m_add (hv v) (k := sumI t (Bi 0) 0) (by omega) (by omega)
    have a1 : ∀ v Bz S ho ha sm x, g_X10_add n (WC (sJ N 139 28 v) 1 Bz S ho ha sm) 139 (zi (1 + 320 * t + 5 * Bi 0 + 1)) (zi x) = some ((), WC (sJ N 139 28 v) 1 (addZ Bz (sumI t (Bi 0) 1) x) S ho ha sm) := fun v Bz S ho ha sm x => m_add (hv v) (k := sumI t (Bi 0) 1) (by omega) (by omega)
    have q0 : ∀ M, g_X10_sumAt n M 139 (zi t) (zi (Bi 0)) 0 = some (zi (1 + 320 * t + 5 * Bi 0 + 0), M) := fun M => m_sumAt (w := 0)
    have q1 : ∀ M, g_X10_sumAt n M 139 (zi t) (zi (Bi 0)) 1 = some (zi (1 + 320 * t + 5 * Bi 0 + 1), M) := fun M => m_sumAt (w := 1)
    rw [es]
    dsimp only
    rw [if_neg (by rw [zi_le (by omega) (by omega) (by omega) (by omega)]; omega), m_chk (hv _), o0, i_bd, m_chk (hv _), q0, i_bd, m_chk (hv _), m_draw hO, i_bd, m_chk (hv _), a0, i_bd, m_chk (hv _), o0, i_bd, e0, m_chk (hv _), q1, i_bd, m_chk (hv _), m_draw hO, i_bd, m_chk (hv _), a1, i_bd, m_chk (hv _), g, i_bd, show zi (i : Int) + 1 = zi ((i + 1 : Nat) : Int) from zi_add (i : Int) 1]
    rfl
  · obtain ⟨S1, ho1, ha1, sm1, rfl⟩ := hs
    refine ⟨_, ?_, S1, ho1, ha1, sm1, rfl⟩
    dsimp only
    rw [Int.toNat_of_nonneg k0, if_pos (Int32.le_refl _)]
theorem m_tot {bk : Int} (hO : MOk M bk nt T tr sl bu as) (t0 : 0 ≤ t) (t1 : t < 4) : g_X10_totalOf n (WC M bk B S ho ha sm) 139 (zi t) = some (zi (B (2068 + 4 * t) + B (2068 + 4 * t + 1) + B (2068 + 4 * t + 2) + B (2068 + 4 * t + 3)), WC M bk B S ho ha sm) := by
  have e0 : (2068 : Int32) + 4 * zi t = zi (2068 + 4 * t) := by
    show zi 2068 + zi 4 * zi t = _
    rw [zi_mul, zi_add]
  have e1 : ∀ j : Int, zi (2068 + 4 * t) + zi j = zi (2068 + 4 * t + j) := fun j => zi_add _ _
  unfold g_X10_totalOf
  rw [e0, m_chk hO, m_of hO (by omega) (by omega), i_bd, m_chk hO, show zi (2068 + 4 * t) + 1 = zi (2068 + 4 * t + 1) from e1 1, m_of hO (by omega) (by omega), i_bd, m_chk hO, show zi (2068 + 4 * t) + 2 = zi (2068 + 4 * t + 2) from e1 2, m_of hO (by omega) (by omega), i_bd, m_chk hO, show zi (2068 + 4 * t) + 3 = zi (2068 + 4 * t + 3) from e1 3, m_of hO (by omega) (by omega), i_bd, zi_add, zi_add, zi_add]
end M18
