/-! ===== PURE 29: what is told comes into the component's books ===== -/
theorem addZ_comm {B : Int → Int} {p q v w : Int} : addZ (addZ B p v) q w = addZ (addZ B q w) p v := by
  funext i
  unfold addZ upZ
  by_cases h1 : i = q
  · by_cases h2 : i = p
    · rw [if_pos h1, if_pos h2, if_pos (by omega), if_pos (by omega)]
      subst h1; subst h2; omega
    · rw [if_pos h1, if_neg h2, if_neg (by omega), if_pos h1]
  · by_cases h2 : i = p
    · rw [if_neg h1, if_pos h2, if_pos h2, if_neg (by omega)]
    · rw [if_neg h1, if_neg h2, if_neg h2, if_neg h1]
theorem buZ_add {bu B : Int → Int} {q p v : Int} : ∀ k : Nat, buZ bu q (addZ B p v) k = addZ (buZ bu q B k) p v := by
  intro k
  induction k with
  | zero => rfl
  | succ k ih =>
    show (if bu (4 * k + 1) = q then addZ (buZ bu q (addZ B p v) k) (sumI (bu (4 * k)) q (2 + bu (4 * k + 2))) (bu (4 * k + 3)) else buZ bu q (addZ B p v) k) = addZ (if bu (4 * k + 1) = q then addZ (buZ bu q B k) (sumI (bu (4 * k)) q (2 + bu (4 * k + 2))) (bu (4 * k + 3)) else buZ bu q B k) p v
    rw [ih]
    split
    · exact addZ_comm
    · rfl
theorem acq_0 {B : Int → Int} {t u x s : Int} (hA : 0 ≤ B 1865) (hN : BN B) (h0 : 0 ≤ t) (h2 : 0 ≤ u) : BN (acqZ B t u x s) := by
  unfold BN
  rw [acqZ_0 hA hN h0 h2]
  exact hN
section XBRING
variable {M : MemT} {c r : Nat} {R : Nat → Nat → Int32} {F : Nat → Int32} {S : Int → Int} {n : Nat} {T tr sl bu as B : Int → Int} {nt : Int}
/-- sales and buys of the first i moves -/
def movZ (sl bu B : Int → Int) (q : Int) (cs : Nat → Int) (i : Nat) : Int → Int := buZ bu q (slZ sl q B (cs i).toNat) (i - cs i).toNat
theorem movZ_out {q i : Int} {cs : Nat → Int} {j : Nat} (hr : RowsOk T sl bu as) (hq : 0 ≤ q ∧ q < 64) (h1 : cs j ≤ T 4) (h2 : (j : Int) - cs j ≤ T 5) (h3 : 0 ≤ cs j) (hi : i < 1 ∨ 1281 ≤ i) : movZ sl bu B q cs j i = B i := by
  have r4 := hr.1
  have r5 := hr.2.1
  unfold movZ
  rw [buZ_out hr hq hi _ (by omega), slZ_out hr hq hi _ (by omega)]
theorem c_moves (h : CSh M c r) (hU : RU M r nt T tr sl bu as) (hRows : RowsOk T sl bu as) (hR : RM B R) (hN : BN B) (hK : B 1867 ≤ 40) (hn : 30 < n) : ∃ R1, loopF (fun (s : MemT × Int32) => (fun (M1 : MemT) (v2 : Int32) => (gO M1 2 c 0).bind (fun j4 => (gI M1 6 j4 11).bind (fun v5 => (gO M1 2 c 0).bind (fun j6 => (gI M1 6 j6 12).bind (fun v7 => (if (v5 + v7) ≤ v2 then some (.inr (M1, v2)) else (gO M1 2 c 0).bind (fun j8 => (gO M1 6 j8 13).bind (fun j9 => (aI M1 10 j9 ((v2 * 4) + 1)).bind (fun v10 => (gO M1 2 c 1).bind (fun j11 => (gI M1 1 j11 0).bind (fun v12 => (if v10 = v12 then (gO M1 2 c 1).bind (fun j13 => (gO M1 2 c 0).bind (fun j14 => (gO M1 6 j14 13).bind (fun j15 => (aI M1 10 j15 (v2 * 4)).bind (fun v16 => (gO M1 2 c 1).bind (fun j17 => (gI M1 1 j17 0).bind (fun v18 => (gO M1 2 c 0).bind (fun j19 => (gO M1 6 j19 13).bind (fun j20 => (aI M1 10 j20 ((v2 * 4) + 2)).bind (fun v21 => (gO M1 2 c 0).bind (fun j22 => (gO M1 6 j22 13).bind (fun j23 => (aI M1 10 j23 ((v2 * 4) + 3)).bind (fun v24 => chk M1 1 j13 (bd (g_X2_addToSum n M1 j13 v16 v18 v21 v24) (fun r25 M26 => some (.inl (M26, v2 + 1)))))))))))))))) else some (.inl (M1, v2 + 1)))))))))))))) s.1 s.2) n (WX M c R F S, 0) = some (WX M c R1 F S, zi (T 4 + T 5)) ∧ RM (buZ bu (B 0) (slZ sl (B 0) B (T 4).toNat) (T 5).toNat) R1 ∧ ∀ o, o ≠ 4 → R1 o = R o := by
  obtain ⟨n1, n2⟩ := id hN
  obtain ⟨r4, r5, r6, rs, rb, ra⟩ := id hRows
  obtain ⟨⟨u0, u7, u8, u9, u10, u11, u12, u14⟩, -, ⟨cs, k0, kN, hcs⟩, -⟩ := hU
  have key := loop_inv (step := fun (s : MemT × Int32) => (fun (M1 : MemT) (v2 : Int32) => (gO M1 2 c 0).bind (fun j4 => (gI M1 6 j4 11).bind (fun v5 => (gO M1 2 c 0).bind (fun j6 => (gI M1 6 j6 12).bind (fun v7 => (if (v5 + v7) ≤ v2 then some (.inr (M1, v2)) else (gO M1 2 c 0).bind (fun j8 => (gO M1 6 j8 13).bind (fun j9 => (aI M1 10 j9 ((v2 * 4) + 1)).bind (fun v10 => (gO M1 2 c 1).bind (fun j11 => (gI M1 1 j11 0).bind (fun v12 => (if v10 = v12 then (gO M1 2 c 1).bind (fun j13 => (gO M1 2 c 0).bind (fun j14 => (gO M1 6 j14 13).bind (fun j15 => (aI M1 10 j15 (v2 * 4)).bind (fun v16 => (gO M1 2 c 1).bind (fun j17 => (gI M1 1 j17 0).bind (fun v18 => (gO M1 2 c 0).bind (fun j19 => (gO M1 6 j19 13).bind (fun j20 => (aI M1 10 j20 ((v2 * 4) + 2)).bind (fun v21 => (gO M1 2 c 0).bind (fun j22 => (gO M1 6 j22 13).bind (fun j23 => (aI M1 10 j23 ((v2 * 4) + 3)).bind (fun v24 => chk M1 1 j13 (bd (g_X2_addToSum n M1 j13 v16 v18 v21 v24) (fun r25 M26 => some (.inl (M26, v2 + 1)))))))))))))))) else some (.inl (M1, v2 + 1)))))))))))))) s.1 s.2) (fun i s => ∃ R1, s = (WX M c R1 F S, zi (i : Int)) ∧ RM (movZ sl bu B (B 0) cs i) R1 ∧ ∀ o, o ≠ 4 → R1 o = R o) (fun t => ∃ R1, t = (WX M c R1 F S, zi (T 4 + T 5)) ∧ RM (movZ sl bu B (B 0) cs (T 4 + T 5).toNat) R1 ∧ ∀ o, o ≠ 4 → R1 o = R o) (T 4 + T 5).toNat (fun i hi s hs => ?_) (fun s hs => ?_) n (by omega) (WX M c R F S, 0) ⟨R, rfl, by
    have e : movZ sl bu B (B 0) cs 0 = B := by unfold movZ; rw [k0]; rfl
    rw [e]; exact hR, fun o _ => rfl⟩
  · obtain ⟨t, ht, R1, rfl, m1, o1⟩ := key
    refine ⟨R1, ht, ?_, o1⟩
    have e : movZ sl bu B (B 0) cs (T 4 + T 5).toNat = buZ bu (B 0) (slZ sl (B 0) B (T 4).toNat) (T 5).toNat := by
      unfold movZ
      rw [kN, Int.toNat_of_nonneg (by omega), show T 4 + T 5 - T 4 = T 5 by omega]
    rw [← e]; exact m1
  · obtain ⟨R1, rfl, m1, o1⟩ := hs
    obtain ⟨⟨c0, c1, c2, c3⟩, hc⟩ := hcs i (by omega)
    have eN : movZ sl bu B (B 0) cs i 0 = B 0 := movZ_out hRows hN c1 c3 c0 (by omega)
    have eK : movZ sl bu B (B 0) cs i 1867 = B 1867 := movZ_out hRows hN c1 c3 c0 (by omega)
    have hK1 : movZ sl bu B (B 0) cs i 1867 ≤ 40 := by rw [eK]; exact hK
    have e00 : R1 0 0 = zi (B 0) := m1.1.1.trans (congrArg zi eN)
    have hi2 : (i : Int) < 24 := by omega
    have p4 : zi (i : Int) * 4 = zi (4 * i) := by
      rw [show (4 * (i : Int)) = i * 4 by omega]; exact zi_mul (i : Int) 4
    have p41 : zi (4 * (i : Int)) + 1 = zi (4 * i + 1) := zi_add _ 1
    have p42 : zi (4 * (i : Int)) + 2 = zi (4 * i + 2) := zi_add _ 2
    have p43 : zi (4 * (i : Int)) + 3 = zi (4 * i + 3) := zi_add _ 3
    have e11 : zi (T 4) + zi (T 5) = zi (T 4 + T 5) := zi_add _ _
    have t0 : (4 * (i : Int)).toNat = 4 * i := by omega
    have t1 : (4 * (i : Int) + 1).toNat = 4 * i + 1 := by omega
    have t2 : (4 * (i : Int) + 2).toNat = 4 * i + 2 := by omega
    have t3 : (4 * (i : Int) + 3).toNat = 4 * i + 3 := by omega
    have pi : zi (i : Int) + 1 = zi ((i + 1 : Nat) : Int) := zi_add (i : Int) 1
    dsimp only
    rw [c_o0 h, i_sb, c_gR h, i_sb, i_sb, c_gR h, i_sb, u11, u12, e11, if_neg (by rw [zi_le (by omega) (by omega) (by omega) (by omega)]; omega), i_sb, c_r13 h, i_sb, p4, p41, c_a13 h (by omega) (by omega), i_sb, c_o1 h, i_sb, c_now h, i_sb, e00, t1]
    rcases hc with ⟨d0, d1, m0', m1', m2', m3'⟩ | ⟨d0, d1, m0', m1', m2', m3'⟩
    · have hrow := rs (cs i) c0 d1
      have eq : (zi (sl (4 * cs i + 1)) = zi (B 0)) = (sl (4 * cs i + 1) = B 0) := zi_eq (by omega) (by omega) (by omega) (by omega)
      rw [m1']
      simp only [eq]
      have step : movZ sl bu B (B 0) cs (i + 1) = if sl (4 * cs i + 1) = B 0 then addZ (movZ sl bu B (B 0) cs i) (sumI (sl (4 * cs i)) (B 0) (sl (4 * cs i + 2))) (sl (4 * cs i + 3)) else movZ sl bu B (B 0) cs i := by
        unfold movZ
        rw [d0, show (cs i + 1).toNat = (cs i).toNat + 1 by omega, show (((i + 1 : Nat) : Int) - (cs i + 1)).toNat = ((i : Int) - cs i).toNat by omega]
        show buZ bu (B 0) (if sl (4 * (((cs i).toNat : Nat) : Int) + 1) = B 0 then addZ (slZ sl (B 0) B (cs i).toNat) (sumI (sl (4 * (((cs i).toNat : Nat) : Int))) (B 0) (sl (4 * (((cs i).toNat : Nat) : Int) + 2))) (sl (4 * (((cs i).toNat : Nat) : Int) + 3)) else slZ sl (B 0) B (cs i).toNat) _ = _
        rw [Int.toNat_of_nonneg c0]
        split
        · exact buZ_add _
        · rfl
      by_cases q : sl (4 * cs i + 1) = B 0
      · rw [if_pos q] at step
        obtain ⟨R2, g2, m2, o2⟩ := x_addToSum (n := n) (wx_B (F := F) (S := S) h) m1 hK1 (t := sl (4 * cs i)) (q := B 0) (w := sl (4 * cs i + 2)) (v := sl (4 * cs i + 3)) (by omega) (by omega) n1 n2 (by omega) (by omega)
        rw [if_pos q]
        simp (disch := omega) only [i_sb, c_r13 h, c_now h, e00, p42, p43, c_a13 h, c_kB h, t0, t2, t3, m0', m2', m3']
        have g2' : g_X2_addToSum n (WX M c R1 F S) (c + 10) (zi (sl (4 * cs i))) (zi (B 0)) (zi (sl (4 * cs i + 2))) (zi (sl (4 * cs i + 3))) = _ := g2
        rw [g2', i_bd, pi]
        exact ⟨_, rfl, R2, rfl, by rw [step]; exact m2, fun o ho => (o2 o ho).trans (o1 o ho)⟩
      · rw [if_neg q] at step
        rw [if_neg q, pi]
        exact ⟨_, rfl, R1, rfl, by rw [step]; exact m1, o1⟩
    · have hrow := rb (i - cs i) c2 d1
      have eq : (zi (bu (4 * (i - cs i) + 1)) = zi (B 0)) = (bu (4 * (i - cs i) + 1) = B 0) := zi_eq (by omega) (by omega) (by omega) (by omega)
      rw [m1']
      simp only [eq]
      have step : movZ sl bu B (B 0) cs (i + 1) = if bu (4 * (i - cs i) + 1) = B 0 then addZ (movZ sl bu B (B 0) cs i) (sumI (bu (4 * (i - cs i))) (B 0) (2 + bu (4 * (i - cs i) + 2))) (bu (4 * (i - cs i) + 3)) else movZ sl bu B (B 0) cs i := by
        unfold movZ
        rw [d0, show (((i + 1 : Nat) : Int) - cs i).toNat = ((i : Int) - cs i).toNat + 1 by omega]
        show (if bu (4 * ((((i : Int) - cs i).toNat : Nat) : Int) + 1) = B 0 then addZ (buZ bu (B 0) (slZ sl (B 0) B (cs i).toNat) ((i : Int) - cs i).toNat) (sumI (bu (4 * ((((i : Int) - cs i).toNat : Nat) : Int))) (B 0) (2 + bu (4 * ((((i : Int) - cs i).toNat : Nat) : Int) + 2))) (bu (4 * ((((i : Int) - cs i).toNat : Nat) : Int) + 3)) else buZ bu (B 0) (slZ sl (B 0) B (cs i).toNat) ((i : Int) - cs i).toNat) = _
        rw [Int.toNat_of_nonneg c2]
      by_cases q : bu (4 * (i - cs i) + 1) = B 0
      · rw [if_pos q] at step
        obtain ⟨R2, g2, m2, o2⟩ := x_addToSum (n := n) (wx_B (F := F) (S := S) h) m1 hK1 (t := bu (4 * (i - cs i))) (q := B 0) (w := 2 + bu (4 * (i - cs i) + 2)) (v := bu (4 * (i - cs i) + 3)) (by omega) (by omega) n1 n2 (by omega) (by omega)
        rw [if_pos q]
        simp (disch := omega) only [i_sb, c_r13 h, c_now h, e00, p42, p43, c_a13 h, c_kB h, t0, t2, t3, m0', m2', m3']
        have g2' : g_X2_addToSum n (WX M c R1 F S) (c + 10) (zi (bu (4 * (i - cs i)))) (zi (B 0)) (zi (2 + bu (4 * (i - cs i) + 2))) (zi (bu (4 * (i - cs i) + 3))) = _ := g2
        rw [g2', i_bd, pi]
        exact ⟨_, rfl, R2, rfl, by rw [step]; exact m2, fun o ho => (o2 o ho).trans (o1 o ho)⟩
      · rw [if_neg q] at step
        rw [if_neg q, pi]
        exact ⟨_, rfl, R1, rfl, by rw [step]; exact m1, o1⟩
  · obtain ⟨R1, rfl, m1, o1⟩ := hs
    refine ⟨_, ?_, R1, rfl, m1, o1⟩
    have e11 : zi (T 4) + zi (T 5) = zi (T 4 + T 5) := zi_add _ _
    dsimp only
    rw [c_o0 h, i_sb, c_gR h, i_sb, i_sb, c_gR h, i_sb, u11, u12, e11, Int.toNat_of_nonneg (by omega), if_pos (Int32.le_refl _)]
theorem asZ_Q {B2 : Int → Int} (hr : RowsOk T sl bu as) (hA : 0 ≤ B2 1865 ∧ B2 1865 ≤ 8) (hN : BN B2) (hQ : Q47 B2) : ∀ k : Nat, (k : Int) ≤ T 6 → Q47 (asZ as (B2 0) B2 k) := by
  intro k
  induction k with
  | zero => intro _; exact hQ
  | succ k ih =>
    intro hk
    obtain ⟨i1, i2, i3⟩ := asZ_inv hr hA hN k (by omega)
    have h1 := hr.2.2.2.2.2 k (by omega) (by omega)
    show Q47 (if as (5 * k + 1) = B2 0 ∧ asZ as (B2 0) B2 k 1865 < 8 then acqZ (asZ as (B2 0) B2 k) (as (5 * k)) (as (5 * k + 2)) (as (5 * k + 3)) (as (5 * k + 4)) else asZ as (B2 0) B2 k)
    split
    · exact Q47_acq i2 (by unfold BN; rw [i1]; exact hN) (ih (by omega)) h1.1.1 h1.1.2 h1.2.2.1.1 h1.2.2.1.2
    · exact ih (by omega)
theorem asZ_K {B2 : Int → Int} (hr : RowsOk T sl bu as) (hA : 0 ≤ B2 1865 ∧ B2 1865 ≤ 8) (hN : BN B2) : ∀ k : Nat, (k : Int) ≤ T 6 → asZ as (B2 0) B2 k 1867 = B2 1867 := by
  intro k
  induction k with
  | zero => intro _; rfl
  | succ k ih =>
    intro hk
    obtain ⟨i1, i2, i3⟩ := asZ_inv hr hA hN k (by omega)
    have h1 := hr.2.2.2.2.2 k (by omega) (by omega)
    obtain ⟨n1, n2⟩ := id hN
    show (if as (5 * k + 1) = B2 0 ∧ asZ as (B2 0) B2 k 1865 < 8 then acqZ (asZ as (B2 0) B2 k) (as (5 * k)) (as (5 * k + 2)) (as (5 * k + 3)) (as (5 * k + 4)) else asZ as (B2 0) B2 k) 1867 = _
    split
    · rw [acqZ_lo i2 (by unfold BN; rw [i1]; exact hN) h1.1.1 h1.1.2 h1.2.2.1.1 h1.2.2.1.2 (by omega) (by omega) (by unfold sumI; rw [i1]; omega)]
      exact ih (by omega)
    · exact ih (by omega)
theorem c_told (h : CSh M c r) (hU : RU M r nt T tr sl bu as) (hRows : RowsOk T sl bu as) (hR : RBk T B nt R) (hnt : nt ≤ 4) (hN : BN B) (hK : B 1867 ≤ 40) (h8 : 0 ≤ B 1865 ∧ B 1865 ≤ 8) (hQ : Q47 B) (hn : 30 < n) : ∃ R1, loopF (fun (s : MemT × Int32) => (fun (M29 : MemT) (v30 : Int32) => (gO M29 2 c 0).bind (fun j32 => (gI M29 6 j32 14).bind (fun v33 => (if v33 ≤ v30 then some (.inr (M29, v30)) else (gO M29 2 c 0).bind (fun j34 => (gO M29 6 j34 15).bind (fun j35 => (aI M29 10 j35 ((v30 * 5) + 1)).bind (fun v36 => (gO M29 2 c 1).bind (fun j37 => (gI M29 1 j37 0).bind (fun v38 => (if v36 = v38 then (gO M29 2 c 1).bind (fun j39 => (gO M29 2 c 0).bind (fun j40 => (gO M29 6 j40 15).bind (fun j41 => (aI M29 10 j41 (v30 * 5)).bind (fun v42 => (gO M29 2 c 0).bind (fun j43 => (gO M29 6 j43 15).bind (fun j44 => (aI M29 10 j44 ((v30 * 5) + 2)).bind (fun v45 => (gO M29 2 c 0).bind (fun j46 => (gO M29 6 j46 15).bind (fun j47 => (aI M29 10 j47 ((v30 * 5) + 3)).bind (fun v48 => (gO M29 2 c 0).bind (fun j49 => (gO M29 6 j49 15).bind (fun j50 => (aI M29 10 j50 ((v30 * 5) + 4)).bind (fun v51 => chk M29 1 j39 (bd (g_X2_addAsset n M29 j39 v42 v45 v48 v51) (fun r52 M53 => some (.inl (M53, v30 + 1))))))))))))))))) else some (.inl (M29, v30 + 1)))))))))))) s.1 s.2) n (WX M c R F S, 0) = some (WX M c R1 F S, zi (T 6)) ∧ RBk T (asZ as (B 0) B (T 6).toNat) nt R1 := by
  obtain ⟨n1, n2⟩ := id hN
  obtain ⟨r4, r5, r6, rs, rb, ra⟩ := id hRows
  obtain ⟨⟨u0, u7, u8, u9, u10, u11, u12, u14⟩, -, -, has⟩ := hU
  have key := loop_inv (step := fun (s : MemT × Int32) => (fun (M29 : MemT) (v30 : Int32) => (gO M29 2 c 0).bind (fun j32 => (gI M29 6 j32 14).bind (fun v33 => (if v33 ≤ v30 then some (.inr (M29, v30)) else (gO M29 2 c 0).bind (fun j34 => (gO M29 6 j34 15).bind (fun j35 => (aI M29 10 j35 ((v30 * 5) + 1)).bind (fun v36 => (gO M29 2 c 1).bind (fun j37 => (gI M29 1 j37 0).bind (fun v38 => (if v36 = v38 then (gO M29 2 c 1).bind (fun j39 => (gO M29 2 c 0).bind (fun j40 => (gO M29 6 j40 15).bind (fun j41 => (aI M29 10 j41 (v30 * 5)).bind (fun v42 => (gO M29 2 c 0).bind (fun j43 => (gO M29 6 j43 15).bind (fun j44 => (aI M29 10 j44 ((v30 * 5) + 2)).bind (fun v45 => (gO M29 2 c 0).bind (fun j46 => (gO M29 6 j46 15).bind (fun j47 => (aI M29 10 j47 ((v30 * 5) + 3)).bind (fun v48 => (gO M29 2 c 0).bind (fun j49 => (gO M29 6 j49 15).bind (fun j50 => (aI M29 10 j50 ((v30 * 5) + 4)).bind (fun v51 => chk M29 1 j39 (bd (g_X2_addAsset n M29 j39 v42 v45 v48 v51) (fun r52 M53 => some (.inl (M53, v30 + 1))))))))))))))))) else some (.inl (M29, v30 + 1)))))))))))) s.1 s.2) (fun i s => ∃ R1, s = (WX M c R1 F S, zi (i : Int)) ∧ RBk T (asZ as (B 0) B i) nt R1) (fun t => ∃ R1, t = (WX M c R1 F S, zi (T 6)) ∧ RBk T (asZ as (B 0) B (T 6).toNat) nt R1) (T 6).toNat (fun i hi s hs => ?_) (fun s hs => ?_) n (by omega) (WX M c R F S, 0) ⟨R, rfl, hR⟩
  · obtain ⟨t, ht, R1, rfl, m1⟩ := key
    exact ⟨R1, ht, m1⟩
  · obtain ⟨R1, rfl, m1⟩ := hs
    have hi2 : (i : Int) < T 6 := by omega
    have hrow := ra i (by omega) hi2
    obtain ⟨j0, j1, j2⟩ := asZ_inv (B := B) hRows h8 hN i (by omega)
    have e00 : R1 0 0 = zi (B 0) := m1.1.1.1.trans (congrArg zi j0)
    have p5 : zi (i : Int) * 5 = zi (5 * i) := by
      rw [show (5 * (i : Int)) = i * 5 by omega]; exact zi_mul (i : Int) 5
    have q1 : zi (5 * (i : Int)) + 1 = zi (5 * i + 1) := zi_add _ 1
    have q2 : zi (5 * (i : Int)) + 2 = zi (5 * i + 2) := zi_add _ 2
    have q3 : zi (5 * (i : Int)) + 3 = zi (5 * i + 3) := zi_add _ 3
    have q4 : zi (5 * (i : Int)) + 4 = zi (5 * i + 4) := zi_add _ 4
    have eq : (zi (as (5 * i + 1)) = zi (B 0)) = (as (5 * i + 1) = B 0) := zi_eq (by omega) (by omega) (by omega) (by omega)
    have pi : zi (i : Int) + 1 = zi ((i + 1 : Nat) : Int) := zi_add (i : Int) 1
    dsimp only
    rw [c_o0 h, i_sb, c_gR h, i_sb, u14, if_neg (by rw [zi_le (by omega) (by omega) (by omega) (by omega)]; omega), i_sb, c_r15 h, i_sb, p5, q1, c_a15 h (by omega) (by omega), i_sb, c_o1 h, i_sb, c_now h, i_sb, e00, has _ (by omega) (by omega)]
    simp only [eq]
    by_cases q : as (5 * i + 1) = B 0
    · rw [if_pos q]
      simp (disch := omega) only [i_sb, c_r15 h, q2, q3, q4, c_a15 h, c_kB h, has]
      by_cases c8 : asZ as (B 0) B i 1865 < 8
      · obtain ⟨R2, g2, m2⟩ := x_addAsset (n := n) (wx_B (F := F) (S := S) h) m1 hnt (by unfold BN; rw [j0]; exact hN) (by rw [asZ_K hRows h8 hN i (by omega)]; exact hK) ⟨j1, c8⟩ (asZ_Q hRows h8 hN hQ i (by omega)) (t := as (5 * i)) (u := as (5 * i + 2)) (x := as (5 * i + 3)) (s := as (5 * i + 4)) hrow.1.1 hrow.1.2 hrow.2.2.1.1 hrow.2.2.1.2
        have g2' : g_X2_addAsset n (WX M c R1 F S) (c + 10) (zi (as (5 * i))) (zi (as (5 * i + 2))) (zi (as (5 * i + 3))) (zi (as (5 * i + 4))) = _ := g2
        rw [g2', i_bd, pi]
        refine ⟨_, rfl, R2, rfl, ?_⟩
        show RBk T (if as (5 * i + 1) = B 0 ∧ asZ as (B 0) B i 1865 < 8 then acqZ (asZ as (B 0) B i) (as (5 * i)) (as (5 * i + 2)) (as (5 * i + 3)) (as (5 * i + 4)) else asZ as (B 0) B i) nt R2
        rw [if_pos ⟨q, c8⟩]
        exact m2
      · have g2' : g_X2_addAsset n (WX M c R1 F S) (c + 10) (zi (as (5 * i))) (zi (as (5 * i + 2))) (zi (as (5 * i + 3))) (zi (as (5 * i + 4))) = some (-2, WX M c R1 F S) := by
          unfold g_X2_addAsset
          rw [c_now h, i_sb, m1.1.1.2.1, if_neg (by show ¬ (zi _ < zi 8); rw [zi_lt (by omega) (by omega) (by omega) (by omega)]; omega)]
        rw [g2', i_bd, pi]
        refine ⟨_, rfl, R1, rfl, ?_⟩
        show RBk T (if as (5 * i + 1) = B 0 ∧ asZ as (B 0) B i 1865 < 8 then acqZ (asZ as (B 0) B i) (as (5 * i)) (as (5 * i + 2)) (as (5 * i + 3)) (as (5 * i + 4)) else asZ as (B 0) B i) nt R1
        rw [if_neg (fun z => c8 z.2)]
        exact m1
    · rw [if_neg q, pi]
      refine ⟨_, rfl, R1, rfl, ?_⟩
      show RBk T (if as (5 * i + 1) = B 0 ∧ asZ as (B 0) B i 1865 < 8 then acqZ (asZ as (B 0) B i) (as (5 * i)) (as (5 * i + 2)) (as (5 * i + 3)) (as (5 * i + 4)) else asZ as (B 0) B i) nt R1
      rw [if_neg (fun z => q z.1)]
      exact m1
  · obtain ⟨R1, rfl, m1⟩ := hs
    refine ⟨_, ?_, R1, rfl, m1⟩
    dsimp only
    rw [c_o0 h, i_sb, c_gR h, i_sb, u14, Int.toNat_of_nonneg r6.1, if_pos (Int32.le_refl _)]
theorem c_bringTold (h : CSh M c r) (hU : RU M r nt T tr sl bu as) (hRows : RowsOk T sl bu as) (hR : RBk T B nt R) (hnt : nt ≤ 4) (hN : BN B) (hK : B 1867 ≤ 40) (h8 : 0 ≤ B 1865 ∧ B 1865 ≤ 8) (hQ : Q47 B) (hn : 30 < n) : ∃ R1, g_X3_bringTold n (WX M c R F S) c = some ((), WX M c R1 F S) ∧ RBk T (comZ T sl bu as B) nt R1 := by
  obtain ⟨R1, g1, m1, o1⟩ := c_moves (n := n) (F := F) (S := S) h hU hRows hR.1 hN hK hn
  have r4 := hRows.1
  have r5 := hRows.2.1
  have out : ∀ i : Int, (i < 1 ∨ 1281 ≤ i) → buZ bu (B 0) (slZ sl (B 0) B (T 4).toNat) (T 5).toNat i = B i := fun i hi => by
    rw [buZ_out hRows hN hi _ (by omega), slZ_out hRows hN hi _ (by omega)]
  have hB2 : RBk T (buZ bu (B 0) (slZ sl (B 0) B (T 4).toNat) (T 5).toNat) nt R1 := by
    refine ⟨m1, fun t t0 t1 => ?_, fun a a1 => ?_⟩
    · rw [out _ (by omega), out _ (by omega), o1 1 (by omega), o1 2 (by omega)]
      exact hR.2.1 t t0 t1
    · rw [out _ (by omega)] at a1
      exact RA_eq (hR.2.2 a a1) (fun j j0 j1 => out _ (by omega)) (hQ a (by omega) a1) (by rw [out _ (by omega)]) (fun o o0 o1' => o1 o (by omega))
  have e0 := out 0 (by omega)
  have e65 := out 1865 (by omega)
  have e67 := out 1867 (by omega)
  have hQ2 : Q47 (buZ bu (B 0) (slZ sl (B 0) B (T 4).toNat) (T 5).toNat) := fun a a0 a1 => by
    rw [e65] at a1
    show buZ bu (B 0) (slZ sl (B 0) B (T 4).toNat) (T 5).toNat _ ≤ 10
    rw [out _ (by omega)]
    exact hQ a a0 a1
  obtain ⟨R2, g2, m2⟩ := c_told (n := n) (F := F) (S := S) h hU hRows hB2 hnt (by unfold BN; rw [e0]; exact hN) (by rw [e67]; exact hK) (by rw [e65]; exact h8) hQ2 hn
  rw [e0] at m2
  refine ⟨R2, ?_, m2⟩
  unfold g_X3_bringTold
  rw [g1, i_sb]
  dsimp only
  dsimp only at g2
  rw [g2, i_sb]
end XBRING
