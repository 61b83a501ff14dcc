theorem law_pure (L : Nat) (xs : Nat → Int32) (hL : L ≤ 3072) : ∃ (n : Nat) (M1 : MemT), g_L_law n L xs Mz = some (1, M1) := by
  obtain ⟨n, hn⟩ : ∃ n : Nat, 100000010 < n := ⟨100000011, by omega⟩
  obtain ⟨V, hx, nV, zV, q0, q1, q2, q3, q4, q5, q6, q7⟩ := x_init9 (n := n)
  obtain ⟨Y, S, ho, ha, sm, hm, nY, zY, hS, l1, sY, hR⟩ := x_init10 (n := n) nV zV (by omega)
  have h1 : (up1 (up1 (mI Y 139) 12 0) 18 0) 1 = 0 := by
    show mI Y 139 1 = 0
    rw [zY.1]
    rfl
  obtain ⟨M6, e6⟩ : ∃ M6, M6 = WC (YX Y (kpg (up1 (up1 (mI Y 139) 12 0) 18 0)) (kpA (up2 (plA (fun o => mI Y (142 + o)) 7) 4 8 100))) 0 (comZ st0.2.1 st0.2.2.2.1 st0.2.2.2.2.1 st0.2.2.2.2.2.1 (hdB st0.1 st0.2.2.1)) S ho ha sm := ⟨_, rfl⟩
  obtain ⟨t1, t2, t3, t4, t5, t6, t7, t8, t9, t10⟩ := top_1 zY nY hS sY hR e6
  rw [← e6] at hm
  have ni : ∀ y k, y ≠ 149 → mI (nwM M6 13 1) y k = mI M6 y k := fun y k hy => nw_I (by omega)
  have ns : ∀ y, y ≠ 149 → SE M6 (nwM M6 13 1) y := fun y hy => nw_SE (by omega)
  have hT : TopE (nwM M6 13 1) 2000000 := top_0 q0 q1 q2 q3 q4 q5 q6 q7 l1 (fun y hy => SE_t (t1 y hy) (ns y (by omega))) (fun y hy => SE_t (t2 y) (ns y hy)) (by rw [nw_N, t3]) ⟨nw_Kat t3.symm, nw_Lat t3.symm⟩ (fun y k hy => (ni y k (by omega)).trans (t4 y k hy)) (fun k => (ni 140 k (by omega)).trans (t5 k)) (fun k hk => (ni 141 k (by omega)).trans (t6 k hk)) (fun k hk => (ni 139 k (by omega)).trans (t7 k hk)) (fun k => (ni 142 k (by omega)).trans (t8 k)) (MOk_f t9 (fun y _ y2 => ns y (by omega)) (fun y k _ y2 _ => ni y k (by omega))) (BkI_f t10 (fun k => ni 147 k (by omega))) hR h1
  exact ⟨n, law_of hn hL hx nV hm t3 hT⟩
