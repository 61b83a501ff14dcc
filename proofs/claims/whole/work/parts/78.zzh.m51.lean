/-! ===== PURE 106: the loop of the law ===== -/
def lawStep (n L : Nat) (sc : Nat → Int32) (j1 j5 j9 : Nat) : MemT × Int32 → Option ((MemT × Int32) ⊕ (Int32 × MemT)) := (fun (s : MemT × Int32) => (fun (M11 : MemT) (v12 : Int32) => (if (((nI L)) - 6) < v12 then some (.inr ((1, M11))) else (if v12 < 0 ∨ L ≤ v12.toNatClampNeg then none else (if ((sc v12.toNatClampNeg) &&& 63) = 0 then g_law_c0 n L sc j1 j5 j9 M11 v12 else (if ((sc v12.toNatClampNeg) &&& 63) = 1 then g_law_c1 n L sc j1 j5 j9 M11 v12 else (if ((sc v12.toNatClampNeg) &&& 63) = 2 then g_law_c2 n L sc j1 j5 j9 M11 v12 else (if ((sc v12.toNatClampNeg) &&& 63) = 3 then g_law_c3 n L sc j1 j5 j9 M11 v12 else (if ((sc v12.toNatClampNeg) &&& 63) = 4 then g_law_c4 n L sc j1 j5 j9 M11 v12 else (if ((sc v12.toNatClampNeg) &&& 63) = 5 then g_law_c5 n L sc j1 j5 j9 M11 v12 else (if ((sc v12.toNatClampNeg) &&& 63) = 6 then g_law_c6 n L sc j1 j5 j9 M11 v12 else (if ((sc v12.toNatClampNeg) &&& 63) = 7 then g_law_c7 n L sc j1 j5 j9 M11 v12 else (if ((sc v12.toNatClampNeg) &&& 63) = 8 then g_law_c8 n L sc j1 j5 j9 M11 v12 else (if ((sc v12.toNatClampNeg) &&& 63) = 9 then g_law_c9 n L sc j1 j5 j9 M11 v12 else (if ((sc v12.toNatClampNeg) &&& 63) = 10 then g_law_c10 n L sc j1 j5 j9 M11 v12 else (if ((sc v12.toNatClampNeg) &&& 63) = 11 then g_law_c11 n L sc j1 j5 j9 M11 v12 else (if ((sc v12.toNatClampNeg) &&& 63) = 12 then g_law_c12 n L sc j1 j5 j9 M11 v12 else (if ((sc v12.toNatClampNeg) &&& 63) = 13 then g_law_c13 n L sc j1 j5 j9 M11 v12 else (if ((sc v12.toNatClampNeg) &&& 63) = 14 then g_law_c14 n L sc j1 j5 j9 M11 v12 else (if ((sc v12.toNatClampNeg) &&& 63) = 15 then g_law_c15 n L sc j1 j5 j9 M11 v12 else (if ((sc v12.toNatClampNeg) &&& 63) = 16 then g_law_c16 n L sc j1 j5 j9 M11 v12 else (if ((sc v12.toNatClampNeg) &&& 63) = 17 then g_law_c17 n L sc j1 j5 j9 M11 v12 else (if ((sc v12.toNatClampNeg) &&& 63) = 18 then g_law_c18 n L sc j1 j5 j9 M11 v12 else (if ((sc v12.toNatClampNeg) &&& 63) = 19 then g_law_c19 n L sc j1 j5 j9 M11 v12 else (if ((sc v12.toNatClampNeg) &&& 63) = 20 then g_law_c20 n L sc j1 j5 j9 M11 v12 else (if ((sc v12.toNatClampNeg) &&& 63) = 21 then g_law_c21 n L sc j1 j5 j9 M11 v12 else (if ((sc v12.toNatClampNeg) &&& 63) = 22 then g_law_c22 n L sc j1 j5 j9 M11 v12 else (if ((sc v12.toNatClampNeg) &&& 63) = 23 then g_law_c23 n L sc j1 j5 j9 M11 v12 else (if ((sc v12.toNatClampNeg) &&& 63) = 24 then g_law_c24 n L sc j1 j5 j9 M11 v12 else (if ((sc v12.toNatClampNeg) &&& 63) = 25 then g_law_c25 n L sc j1 j5 j9 M11 v12 else (if ((sc v12.toNatClampNeg) &&& 63) = 26 then g_law_c26 n L sc j1 j5 j9 M11 v12 else (if ((sc v12.toNatClampNeg) &&& 63) = 27 then g_law_c27 n L sc j1 j5 j9 M11 v12 else (if ((sc v12.toNatClampNeg) &&& 63) = 28 then g_law_c28 n L sc j1 j5 j9 M11 v12 else (if ((sc v12.toNatClampNeg) &&& 63) = 29 then g_law_c29 n L sc j1 j5 j9 M11 v12 else (if ((sc v12.toNatClampNeg) &&& 63) = 30 then g_law_c30 n L sc j1 j5 j9 M11 v12 else (if ((sc v12.toNatClampNeg) &&& 63) = 31 then g_law_c31 n L sc j1 j5 j9 M11 v12 else (if ((sc v12.toNatClampNeg) &&& 63) = 32 then g_law_c32 n L sc j1 j5 j9 M11 v12 else (if ((sc v12.toNatClampNeg) &&& 63) = 33 then g_law_c33 n L sc j1 j5 j9 M11 v12 else (if ((sc v12.toNatClampNeg) &&& 63) = 34 then g_law_c34 n L sc j1 j5 j9 M11 v12 else (if ((sc v12.toNatClampNeg) &&& 63) = 35 then g_law_c35 n L sc j1 j5 j9 M11 v12 else (if ((sc v12.toNatClampNeg) &&& 63) = 36 then g_law_c36 n L sc j1 j5 j9 M11 v12 else (if ((sc v12.toNatClampNeg) &&& 63) = 37 then g_law_c37 n L sc j1 j5 j9 M11 v12 else (if ((sc v12.toNatClampNeg) &&& 63) = 38 then g_law_c38 n L sc j1 j5 j9 M11 v12 else (if ((sc v12.toNatClampNeg) &&& 63) = 39 then g_law_c39 n L sc j1 j5 j9 M11 v12 else (if ((sc v12.toNatClampNeg) &&& 63) = 40 then g_law_c40 n L sc j1 j5 j9 M11 v12 else (if ((sc v12.toNatClampNeg) &&& 63) = 41 then g_law_c41 n L sc j1 j5 j9 M11 v12 else (if ((sc v12.toNatClampNeg) &&& 63) = 42 then g_law_c42 n L sc j1 j5 j9 M11 v12 else (if ((sc v12.toNatClampNeg) &&& 63) = 43 then g_law_c43 n L sc j1 j5 j9 M11 v12 else (if ((sc v12.toNatClampNeg) &&& 63) = 44 then g_law_c44 n L sc j1 j5 j9 M11 v12 else (if ((sc v12.toNatClampNeg) &&& 63) = 45 then g_law_c45 n L sc j1 j5 j9 M11 v12 else (if ((sc v12.toNatClampNeg) &&& 63) = 46 then g_law_c46 n L sc j1 j5 j9 M11 v12 else (if ((sc v12.toNatClampNeg) &&& 63) = 47 then g_law_c47 n L sc j1 j5 j9 M11 v12 else some (.inl (M11, v12 + 6))))))))))))))))))))))))))))))))))))))))))))))))))))) s.1 s.2)
section M51
variable {M : MemT} {n L : Nat} {sc : Nat → Int32} {i U : Int}
theorem law_end (h1 : (L : Int) - 6 < i) (h2 : i ≤ 10000) (hL : L ≤ 3072) : lawStep n L sc 0 139 149 (M, zi i) = some (.inr (1, M)) := by
  unfold lawStep
  dsimp only
  rw [zi_nI, if_pos (show zi (L : Int) - 6 < zi i by (show zi (L : Int) - zi 6 < zi i); rw [zi_sub, zi_lt (by omega) (by omega) (by omega) (by omega)]; exact h1)]
set_option maxHeartbeats 4000000 in
theorem law_step (hE : TopE M U) (hU : U ≤ 90000000) (hn : 100000010 < n) (h0 : 0 ≤ i) (h1 : i + 6 ≤ L) (hL : L ≤ 3072) : ∃ M2, lawStep n L sc 0 139 149 (M, zi i) = some (.inl (M2, zi (i + 6))) ∧ TopE M2 (U + 100000) := by
  obtain ⟨r, s, q, P, old, cnt, tl, kp, nt, T, tr, sl, bu, as, B, Bi, Bs, h⟩ := hE
  have k7 : mK M 0 = 7 := h.1.1.1
  have hU2 : U ≤ 99000000 := by omega
  have hc : ¬ (zi i < 0 ∨ L ≤ (zi i).toNatClampNeg) := by
    rw [zi_tn (by omega) (by omega)]
    have e : (zi i < (0 : Int32)) = (i < 0) := zi_lt (b := 0) (by omega) (by omega) (by omega) (by omega)
    rw [e]
    omega
  unfold lawStep
  dsimp only
  rw [zi_nI, if_neg (show ¬ (zi (L : Int) - 6 < zi i) by (show ¬ (zi (L : Int) - zi 6 < zi i)); rw [zi_sub, zi_lt (by omega) (by omega) (by omega) (by omega)]; omega), if_neg hc]
  generalize sc (zi i).toNatClampNeg &&& 63 = v
  by_cases c0 : v = 0
  · rw [if_pos c0]
    exact lw_0 k7 h0 h1 hL (r_feed h hU2 hn _ _ _ _ _)
  rw [if_neg c0]
  by_cases c1 : v = 1
  · rw [if_pos c1]
    exact lw_1 k7 h0 h1 hL (r_text h hU2 hn _)
  rw [if_neg c1]
  by_cases c2 : v = 2
  · rw [if_pos c2]
    exact lw_2 k7 h0 h1 hL (r_fault h hU2 hn _)
  rw [if_neg c2]
  by_cases c3 : v = 3
  · rw [if_pos c3]
    exact lw_3 k7 h0 h1 hL (r_named h hU2 hn _)
  rw [if_neg c3]
  by_cases c4 : v = 4
  · rw [if_pos c4]
    exact lw_4 h hU2 (by omega) h0 h1 hL
  rw [if_neg c4]
  by_cases c5 : v = 5
  · rw [if_pos c5]
    exact lw_5 k7 h0 h1 hL (r_asset h hU2 hn _ _)
  rw [if_neg c5]
  by_cases c6 : v = 6
  · rw [if_pos c6]
    exact lw_6 k7 h0 h1 hL (r_sale h hU2 hn _ _ _)
  rw [if_neg c6]
  by_cases c7 : v = 7
  · rw [if_pos c7]
    exact lw_7 k7 h0 h1 hL (r_buy h hU2 hn _ _ _)
  rw [if_neg c7]
  by_cases c8 : v = 8
  · rw [if_pos c8]
    exact lw_8 k7 h0 h1 hL (r_late h hU2 hn _ _ _ _)
  rw [if_neg c8]
  by_cases c9 : v = 9
  · rw [if_pos c9]
    exact lw_9 k7 h0 h1 hL (r_heads h hU2 hn _ _ _)
  rw [if_neg c9]
  by_cases c10 : v = 10
  · rw [if_pos c10]
    exact lw_10 k7 h0 h1 hL (r_acquire h hU2 hn _ _ _ _)
  rw [if_neg c10]
  by_cases c11 : v = 11
  · rw [if_pos c11]
    exact lw_11 k7 h0 h1 hL (r_use h hU2 hn _ _)
  rw [if_neg c11]
  by_cases c12 : v = 12
  · rw [if_pos c12]
    exact lw_12 k7 h0 h1 hL (r_sell h hU2 hn _ _ _)
  rw [if_neg c12]
  by_cases c13 : v = 13
  · rw [if_pos c13]
    exact lw_13 k7 h0 h1 hL (r_hand h hU2 hn _ _)
  rw [if_neg c13]
  by_cases c14 : v = 14
  · rw [if_pos c14]
    exact lw_14 k7 h0 h1 hL (r_close h hU2 hn _)
  rw [if_neg c14]
  by_cases c15 : v = 15
  · rw [if_pos c15]
    exact lw_15 k7 h0 h1 hL (r_sum h hU2 hn _ _ _)
  rw [if_neg c15]
  by_cases c16 : v = 16
  · rw [if_pos c16]
    exact lw_16 k7 h0 h1 hL (r_provisional h hU2 hn _ _)
  rw [if_neg c16]
  by_cases c17 : v = 17
  · rw [if_pos c17]
    exact lw_17 k7 h0 h1 hL (r_recovered h hU2 hn _ _)
  rw [if_neg c17]
  by_cases c18 : v = 18
  · rw [if_pos c18]
    exact lw_18 k7 h0 h1 hL (r_annual h hU2 hn _ _ _)
  rw [if_neg c18]
  by_cases c19 : v = 19
  · rw [if_pos c19]
    exact lw_19 k7 h0 h1 hL (r_interval h hU2 hn _ _ _)
  rw [if_neg c19]
  by_cases c20 : v = 20
  · rw [if_pos c20]
    exact lw_20 k7 h0 h1 hL (r_taken h hU2 hn _)
  rw [if_neg c20]
  by_cases c21 : v = 21
  · rw [if_pos c21]
    exact lw_21 k7 h0 h1 hL (r_last h hU2 hn _)
  rw [if_neg c21]
  by_cases c22 : v = 22
  · rw [if_pos c22]
    exact lw_22 k7 h0 h1 hL (r_booked h hU2 hn _ _)
  rw [if_neg c22]
  by_cases c23 : v = 23
  · rw [if_pos c23]
    exact lw_23 k7 h0 h1 hL (r_total h hU2 hn _ _)
  rw [if_neg c23]
  by_cases c24 : v = 24
  · rw [if_pos c24]
    exact lw_24 k7 h0 h1 hL (r_by h hU2 hn _ _ _ _ _)
  rw [if_neg c24]
  by_cases c25 : v = 25
  · rw [if_pos c25]
    exact lw_25 k7 h0 h1 hL (r_bestMethod h hU2 hn _ _)
  rw [if_neg c25]
  by_cases c26 : v = 26
  · rw [if_pos c26]
    exact lw_26 k7 h0 h1 hL (r_bestStep h hU2 hn _ _)
  rw [if_neg c26]
  by_cases c27 : v = 27
  · rw [if_pos c27]
    exact lw_27 k7 h0 h1 hL (r_joint h hU2 hn _ _ _)
  rw [if_neg c27]
  by_cases c28 : v = 28
  · rw [if_pos c28]
    exact lw_28 k7 h0 h1 hL (r_limitFor h hU2 hn _ _)
  rw [if_neg c28]
  by_cases c29 : v = 29
  · rw [if_pos c29]
    exact lw_29 k7 h0 h1 hL (r_byBasis h hU2 hn _ _ _)
  rw [if_neg c29]
  by_cases c30 : v = 30
  · rw [if_pos c30]
    exact lw_30 k7 h0 h1 hL (r_leader h hU2 hn _)
  rw [if_neg c30]
  by_cases c31 : v = 31
  · rw [if_pos c31]
    exact lw_31 k7 h0 h1 hL (r_rise h hU2 hn _)
  rw [if_neg c31]
  by_cases c32 : v = 32
  · rw [if_pos c32]
    exact lw_32 k7 h0 h1 hL (r_need h hU2 hn _ _)
  rw [if_neg c32]
  by_cases c33 : v = 33
  · rw [if_pos c33]
    exact lw_33 k7 h0 h1 hL (r_room h hU2 hn _ _)
  rw [if_neg c33]
  by_cases c34 : v = 34
  · rw [if_pos c34]
    exact lw_34 k7 h0 h1 hL (r_would h hU2 hn _ _)
  rw [if_neg c34]
  by_cases c35 : v = 35
  · rw [if_pos c35]
    exact lw_35 k7 h0 h1 hL (r_bestWait h hU2 hn _ _)
  rw [if_neg c35]
  by_cases c36 : v = 36
  · rw [if_pos c36]
    exact lw_36 k7 h0 h1 hL (r_project h hU2 hn _ _)
  rw [if_neg c36]
  by_cases c37 : v = 37
  · rw [if_pos c37]
    exact lw_37 k7 h0 h1 hL (r_ifUse h hU2 hn _ _)
  rw [if_neg c37]
  by_cases c38 : v = 38
  · rw [if_pos c38]
    exact lw_38 k7 h0 h1 hL (r_owners h hU2 hn _)
  rw [if_neg c38]
  by_cases c39 : v = 39
  · rw [if_pos c39]
    exact lw_39 k7 h0 h1 hL (r_even h hU2 hn _ _)
  rw [if_neg c39]
  by_cases c40 : v = 40
  · rw [if_pos c40]
    exact lw_40 k7 h0 h1 hL (r_worth h hU2 hn _)
  rw [if_neg c40]
  by_cases c41 : v = 41
  · rw [if_pos c41]
    exact lw_41 k7 h0 h1 hL (r_tried h hU2 hn _ _ _)
  rw [if_neg c41]
  by_cases c42 : v = 42
  · rw [if_pos c42]
    exact lw_42 k7 h0 h1 hL (r_chance h hU hn _ _ _)
  rw [if_neg c42]
  by_cases c43 : v = 43
  · rw [if_pos c43]
    exact lw_43 k7 h0 h1 hL (r_farthest h hU2 hn _)
  rw [if_neg c43]
  by_cases c44 : v = 44
  · rw [if_pos c44]
    exact lw_44 k7 h0 h1 hL (r_undo h hU2 hn)
  rw [if_neg c44]
  by_cases c45 : v = 45
  · rw [if_pos c45]
    exact lw_45 k7 h0 h1 hL (r_keep h hU2 hn)
  rw [if_neg c45]
  by_cases c46 : v = 46
  · rw [if_pos c46]
    exact lw_46 k7 h0 h1 hL (r_back h hU2 hn)
  rw [if_neg c46]
  by_cases c47 : v = 47
  · rw [if_pos c47]
    exact lw_47 k7 h0 h1 hL (r_count h hU2 hn _)
  rw [if_neg c47]
  exact ⟨M, by rw [show zi i + 6 = zi (i + 6) from zi_add i 6], TOP_E (TOP_U h hU2)⟩
theorem law_loop (hn : 100000010 < n) (hL : L ≤ 3072) : ∀ m : Nat, ∀ (i U : Int) M N, (L : Int) - 6 < i + 6 * m → 0 ≤ i → i ≤ 9000 → TopE M U → U + 100000 * m ≤ 90000000 → m < N → ∃ M1, loopF (lawStep n L sc 0 139 149) N (M, zi i) = some (1, M1) := by
  intro m
  induction m with
  | zero =>
    intro i U M N h1 h2 h3 h4 h5 h6
    obtain ⟨N', rfl⟩ : ∃ N', N = N' + 1 := ⟨N - 1, by omega⟩
    exact ⟨M, loopS_r (law_end (by omega) (by omega) hL)⟩
  | succ m ih =>
    intro i U M N h1 h2 h3 h4 h5 h6
    obtain ⟨N', rfl⟩ : ∃ N', N = N' + 1 := ⟨N - 1, by omega⟩
    by_cases c : (L : Int) - 6 < i
    · exact ⟨M, loopS_r (law_end c (by omega) hL)⟩
    · obtain ⟨M2, g1, g2⟩ := law_step (n := n) (sc := sc) h4 (by omega) hn h2 (show i + 6 ≤ (L : Int) by omega) hL
      rw [loopS_l g1]
      exact ih (i + 6) (U + 100000) M2 N' (by omega) (by omega) (by omega) g2 (by omega) (by omega)
end M51
