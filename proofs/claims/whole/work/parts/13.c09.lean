abbrev rm_X10_booksFor : Room := { frames := 3, cells := 0, slots := 0, locals := 70 }
theorem k_X10_booksFor : KYV yX10_booksFor cX10_booksFor 4 none 3 := ⟨⟨q_1669, q_9, by decide +kernel, by decide +kernel, by decide +kernel⟩, q_1668, p_98⟩
set_option maxHeartbeats 4000000 in
set_option maxRecDepth 100000 in
theorem c_X10_booksFor (n : Nat) (M0 : MemT) (a0 : Nat) (a1 : Int32) (a2 : Int32) (a3 : Int32) : Ct iU yX10_booksFor cX10_booksFor 4 none rm_X10_booksFor [.ref a0, .int a1, .int a2, .int a3] M0 (g_X10_booksFor n M0 a0 a1 a2 a3) := by
  unfold g_X10_booksFor
  refine ct_intro RX10 0 [some (.ref a0), some (.int a1), some (.int a2), some (.int a3)] rfl (by decide +kernel) rfl (Nat.le_of_ble_eq_true rfl) (fun X A hX hnm hR => ?_)
  refine s_aload_n hX dX10_booksFor_0 rfl ?_
  refine s_iload_n hX dX10_booksFor_1 rfl ?_
  refine s_bipush (v := 10) hX dX10_booksFor_2 kb_10 ?_
  refine s_aload_n hX dX10_booksFor_4 rfl ?_
  refine s_iload_n hX dX10_booksFor_5 rfl ?_
  refine s_bipush (v := 10) hX dX10_booksFor_6 kb_10 ?_
  refine s_callVi (ck1 := 0) (sk1 := 0) (ci := 8) hX dX10_booksFor_8 k_X10_at q_1550 (c_X10_at n M0 a0 a1 10) (by decide) rfl rfl rfl ⟨Nat.le_of_ble_eq_true rfl, Nat.le_of_ble_eq_true rfl⟩ ⟨(Nat.le_of_ble_eq_true rfl), (Nat.le_of_ble_eq_true rfl)⟩ (Nat.le_of_ble_eq_true rfl) rfl rfl (fun r1 M2 => ?_)
  refine s_iload_n hX dX10_booksFor_11 rfl ?_
  refine s_iadd hX dX10_booksFor_12 ?_
  refine s_callVu (ck1 := 0) (sk1 := 0) (ci := 8) hX dX10_booksFor_13 k_X10_put q_1302 (c_X10_put n M2 a0 a1 10 (r1 + a3)) (by decide) rfl rfl rfl ⟨Nat.le_of_ble_eq_true rfl, Nat.le_of_ble_eq_true rfl⟩ ⟨(Nat.le_of_ble_eq_true rfl), (Nat.le_of_ble_eq_true rfl)⟩ (Nat.le_of_ble_eq_true rfl) rfl rfl (fun r3 M4 => ?_)
  refine s_aload_n hX dX10_booksFor_16 rfl ?_
  refine s_aload_n hX dX10_booksFor_17 rfl ?_
  refine s_iload_n hX dX10_booksFor_18 rfl ?_
  refine s_iconst (v := 0) hX dX10_booksFor_19 kc_0 ?_
  refine s_callVi (ck1 := 0) (sk1 := 0) (ci := 8) hX dX10_booksFor_20 k_X10_at q_1550 (c_X10_at n M4 a0 a1 0) (by decide) rfl rfl rfl ⟨Nat.le_of_ble_eq_true rfl, Nat.le_of_ble_eq_true rfl⟩ ⟨(Nat.le_of_ble_eq_true rfl), (Nat.le_of_ble_eq_true rfl)⟩ (Nat.le_of_ble_eq_true rfl) rfl rfl (fun r5 M6 => ?_)
  refine s_iload_n hX dX10_booksFor_23 rfl ?_
  refine s_iload_n hX dX10_booksFor_24 rfl ?_
  refine s_iload_n hX dX10_booksFor_25 rfl ?_
  refine s_callVu (ck1 := 0) (sk1 := 0) (ci := 8) hX dX10_booksFor_26 k_X10_books q_1625 (c_X10_books n M6 a0 r5 a2 a3 a1) (by decide) rfl rfl rfl ⟨Nat.le_of_ble_eq_true rfl, Nat.le_of_ble_eq_true rfl⟩ ⟨(Nat.le_of_ble_eq_true rfl), (Nat.le_of_ble_eq_true rfl)⟩ (Nat.le_of_ble_eq_true rfl) rfl rfl (fun r7 M8 => ?_)
  exact s_vret hX hR dX10_booksFor_29 (Nat.le_of_ble_eq_true rfl) (Nat.le_of_ble_eq_true rfl)
abbrev rm_X10_firstTaken : Room := { frames := 3, cells := 0, slots := 0, locals := 73 }
theorem k_X10_firstTaken : KYV yX10_firstTaken cX10_firstTaken 3 (some .long) 2 := ⟨⟨q_1661, q_9, by decide +kernel, by decide +kernel, by decide +kernel⟩, q_1660, p_96⟩
set_option maxHeartbeats 4000000 in
set_option maxRecDepth 100000 in
theorem c_X10_firstTaken (n : Nat) (M0 : MemT) (a0 : Nat) (a1 : Int32) (a2 : Int32) : Ct iJ yX10_firstTaken cX10_firstTaken 3 (some .long) rm_X10_firstTaken [.ref a0, .int a1, .int a2] M0 (g_X10_firstTaken n M0 a0 a1 a2) := by
  unfold g_X10_firstTaken
  refine ct_intro RX10 0 [some (.ref a0), some (.int a1), some (.int a2)] rfl (by decide +kernel) rfl (Nat.le_of_ble_eq_true rfl) (fun X A hX hnm hR => ?_)
  refine s_aload_n hX dX10_firstTaken_0 rfl ?_
  refine s_aload_n hX dX10_firstTaken_1 rfl ?_
  refine s_iload_n hX dX10_firstTaken_2 rfl ?_
  refine s_iconst (v := 3) hX dX10_firstTaken_3 kc_3 ?_
  refine s_callVi (ck1 := 0) (sk1 := 0) (ci := 8) hX dX10_firstTaken_4 k_X10_at q_1550 (c_X10_at n M0 a0 a1 3) (by decide) rfl rfl rfl ⟨Nat.le_of_ble_eq_true rfl, Nat.le_of_ble_eq_true rfl⟩ ⟨(Nat.le_of_ble_eq_true rfl), (Nat.le_of_ble_eq_true rfl)⟩ (Nat.le_of_ble_eq_true rfl) rfl rfl (fun r1 M2 => ?_)
  refine s_i2l hX dX10_firstTaken_7 ?_
  refine s_iload_n hX dX10_firstTaken_8 rfl ?_
  refine s_i2l hX dX10_firstTaken_9 ?_
  refine s_lmul hX dX10_firstTaken_10 ?_
  refine s_aload_n hX dX10_firstTaken_11 rfl ?_
  refine s_getO hX dX10_firstTaken_12 q_1323 rfl (fun j3 => ?_)
  refine s_iconst (v := 1) hX dX10_firstTaken_15 kc_1 ?_
  refine s_iald hX dX10_firstTaken_16 (fun v4 => ?_)
  refine s_i2l hX dX10_firstTaken_17 ?_
  refine s_callVj (ck1 := 0) (sk1 := 0) (ci := 8) hX dX10_firstTaken_18 k_X10_cut q_1654 (c_X10_cut n M2 a0 ((Int32.toInt64 r1) * (Int32.toInt64 a2)) (Int32.toInt64 v4)) (by decide) rfl rfl rfl ⟨Nat.le_of_ble_eq_true rfl, Nat.le_of_ble_eq_true rfl⟩ ⟨(Nat.le_of_ble_eq_true rfl), (Nat.le_of_ble_eq_true rfl)⟩ (Nat.le_of_ble_eq_true rfl) rfl rfl (fun r5 M6 => ?_)
  exact s_lret hX hR dX10_firstTaken_21 (Nat.le_of_ble_eq_true rfl) (Nat.le_of_ble_eq_true rfl)
abbrev rm_X10_intervalOf : Room := { frames := 2, cells := 0, slots := 0, locals := 43 }
theorem k_X10_intervalOf : KYV yX10_intervalOf cX10_intervalOf 3 (some .int) 2 := ⟨⟨q_1557, q_9, by decide +kernel, by decide +kernel, by decide +kernel⟩, q_1556, p_75⟩
set_option maxHeartbeats 4000000 in
set_option maxRecDepth 100000 in
theorem c_X10_intervalOf (n : Nat) (M0 : MemT) (a0 : Nat) (a1 : Int32) (a2 : Int32) : Ct iI yX10_intervalOf cX10_intervalOf 3 (some .int) rm_X10_intervalOf [.ref a0, .int a1, .int a2] M0 (g_X10_intervalOf n M0 a0 a1 a2) := by
  unfold g_X10_intervalOf
  refine ct_intro RX10 0 [some (.ref a0), some (.int a1), some (.int a2)] rfl (by decide +kernel) rfl (Nat.le_of_ble_eq_true rfl) (fun X A hX hnm hR => ?_)
  refine s_iload_n hX dX10_intervalOf_0 rfl ?_
  refine s_aload_n hX dX10_intervalOf_1 rfl ?_
  refine s_iload_n hX dX10_intervalOf_2 rfl ?_
  refine s_iconst (v := 5) hX dX10_intervalOf_3 kc_5 ?_
  refine s_callVi (ck1 := 0) (sk1 := 0) (ci := 8) hX dX10_intervalOf_4 k_X10_at q_1550 (c_X10_at n M0 a0 a1 5) (by decide) rfl rfl rfl ⟨Nat.le_of_ble_eq_true rfl, Nat.le_of_ble_eq_true rfl⟩ ⟨(Nat.le_of_ble_eq_true rfl), (Nat.le_of_ble_eq_true rfl)⟩ (Nat.le_of_ble_eq_true rfl) rfl rfl (fun r1 M2 => ?_)
  refine s_iconst (v := 4) hX dX10_intervalOf_7 kc_4 ?_
  refine s_idiv hX dX10_intervalOf_8 ?_
  refine s_isub hX dX10_intervalOf_9 ?_
  exact s_iret hX hR dX10_intervalOf_10 (Nat.le_of_ble_eq_true rfl) (Nat.le_of_ble_eq_true rfl)
abbrev rm_X10_lastBy : Room := { frames := 3, cells := 0, slots := 0, locals := 73 }
theorem k_X10_lastBy : KYV yX10_lastBy cX10_lastBy 5 (some .long) 4 := ⟨⟨q_1673, q_9, by decide +kernel, by decide +kernel, by decide +kernel⟩, q_1672, p_99⟩
set_option maxHeartbeats 4000000 in
set_option maxRecDepth 100000 in
theorem c_X10_lastBy (n : Nat) (M0 : MemT) (a0 : Nat) (a1 : Int32) (a2 : Int32) (a3 : Int32) (a4 : Int32) : Ct iJ yX10_lastBy cX10_lastBy 5 (some .long) rm_X10_lastBy [.ref a0, .int a1, .int a2, .int a3, .int a4] M0 (g_X10_lastBy n M0 a0 a1 a2 a3 a4) := by
  unfold g_X10_lastBy
  refine ct_intro RX10 0 [some (.ref a0), some (.int a1), some (.int a2), some (.int a3), some (.int a4)] rfl (by decide +kernel) rfl (Nat.le_of_ble_eq_true rfl) (fun X A hX hnm hR => ?_)
  refine s_aload_n hX dX10_lastBy_0 rfl ?_
  refine s_aload_n hX dX10_lastBy_1 rfl ?_
  refine s_iload_n hX dX10_lastBy_2 rfl ?_
  refine s_iconst (v := 3) hX dX10_lastBy_3 kc_3 ?_
  refine s_callVi (ck1 := 0) (sk1 := 0) (ci := 8) hX dX10_lastBy_4 k_X10_at q_1550 (c_X10_at n M0 a0 a1 3) (by decide) rfl rfl rfl ⟨Nat.le_of_ble_eq_true rfl, Nat.le_of_ble_eq_true rfl⟩ ⟨(Nat.le_of_ble_eq_true rfl), (Nat.le_of_ble_eq_true rfl)⟩ (Nat.le_of_ble_eq_true rfl) rfl rfl (fun r1 M2 => ?_)
  refine s_i2l hX dX10_lastBy_7 ?_
  refine s_iload_n hX dX10_lastBy_8 rfl ?_
  refine s_i2l hX dX10_lastBy_9 ?_
  refine s_lmul hX dX10_lastBy_10 ?_
  refine s_iload_n hX dX10_lastBy_11 rfl ?_
  refine s_jp (fun (s : MemT × Int32) => [some (.ref a0), some (.int a1), some (.int a2), some (.int a3), some (.int a4)]) (fun (s : MemT × Int32) => [.int s.2, .long ((Int32.toInt64 r1) * (Int32.toInt64 a2)), .ref a0]) (fun (s : MemT × Int32) => s.1) 0 0 25 (fun s => ?_) (fun K3 hK3 => ?_)
  · obtain ⟨M4, v5⟩ := s
    dsimp only
    refine s_iload hX dX10_lastBy_25 rfl ?_
    refine s_isub hX dX10_lastBy_27 ?_
    refine s_i2l hX dX10_lastBy_28 ?_
    refine s_lmul hX dX10_lastBy_29 ?_
    refine s_aload_n hX dX10_lastBy_30 rfl ?_
    refine s_iload_n hX dX10_lastBy_31 rfl ?_
    refine s_iconst (v := 4) hX dX10_lastBy_32 kc_4 ?_
    refine s_callVi (ck1 := 0) (sk1 := 0) (ci := 8) hX dX10_lastBy_33 k_X10_at q_1550 (c_X10_at n M4 a0 a1 4) (by decide) rfl rfl rfl ⟨Nat.le_of_ble_eq_true rfl, Nat.le_of_ble_eq_true rfl⟩ ⟨(Nat.le_of_ble_eq_true rfl), (Nat.le_of_ble_eq_true rfl)⟩ (Nat.le_of_ble_eq_true rfl) rfl rfl (fun r6 M7 => ?_)
    refine s_i2l hX dX10_lastBy_36 ?_
    refine s_aload_n hX dX10_lastBy_37 rfl ?_
    refine s_getO hX dX10_lastBy_38 q_1323 rfl (fun j8 => ?_)
    refine s_iconst (v := 1) hX dX10_lastBy_41 kc_1 ?_
    refine s_iald hX dX10_lastBy_42 (fun v9 => ?_)
    refine s_i2l hX dX10_lastBy_43 ?_
    refine s_lmul hX dX10_lastBy_44 ?_
    refine s_callVj (ck1 := 0) (sk1 := 0) (ci := 8) hX dX10_lastBy_45 k_X10_cut q_1654 (c_X10_cut n M7 a0 (((Int32.toInt64 r1) * (Int32.toInt64 a2)) * (Int32.toInt64 (v5 - a4))) ((Int32.toInt64 r6) * (Int32.toInt64 v9))) (by decide) rfl rfl rfl ⟨Nat.le_of_ble_eq_true rfl, Nat.le_of_ble_eq_true rfl⟩ ⟨(Nat.le_of_ble_eq_true rfl), (Nat.le_of_ble_eq_true rfl)⟩ (Nat.le_of_ble_eq_true rfl) rfl rfl (fun r10 M11 => ?_)
    exact s_lret hX hR dX10_lastBy_48 (Nat.le_of_ble_eq_true rfl) (Nat.le_of_ble_eq_true rfl)
  · refine s_ifne (tgt := 24) hX dX10_lastBy_12 rfl ?_ ?_
    · refine s_aload_n hX dX10_lastBy_15 rfl ?_
      refine s_getO hX dX10_lastBy_16 q_1323 rfl (fun j12 => ?_)
      refine s_iconst (v := 1) hX dX10_lastBy_19 kc_1 ?_
      refine s_iald hX dX10_lastBy_20 (fun v13 => ?_)
      refine s_goto (tgt := 25) hX dX10_lastBy_21 rfl ?_
      exact hK3 _
    · refine s_iconst (v := 0) hX dX10_lastBy_24 kc_0 ?_
      exact hK3 _
abbrev rm_X10_worthBy : Room := { frames := 5, cells := 0, slots := 0, locals := 119 }
theorem k_X10_worthBy : KYV yX10_worthBy cX10_worthBy 9 (some .int) 2 := ⟨⟨q_1648, q_9, by decide +kernel, by decide +kernel, by decide +kernel⟩, q_1647, p_93⟩
set_option maxHeartbeats 4000000 in
set_option maxRecDepth 100000 in
theorem c_X10_worthBy (n : Nat) (M0 : MemT) (a0 : Nat) (a1 : Int32) (a2 : Int32) : Ct iI yX10_worthBy cX10_worthBy 9 (some .int) rm_X10_worthBy [.ref a0, .int a1, .int a2] M0 (g_X10_worthBy n M0 a0 a1 a2) := by
  unfold g_X10_worthBy
  refine ct_intro RX10 6 [some (.ref a0), some (.int a1), some (.int a2), none, none, none, none, none, none] rfl (by decide +kernel) rfl (Nat.le_of_ble_eq_true rfl) (fun X A hX hnm hR => ?_)
  refine s_aload_n hX dX10_worthBy_0 rfl ?_
  refine s_aload_n hX dX10_worthBy_1 rfl ?_
  refine s_iload_n hX dX10_worthBy_2 rfl ?_
  refine s_iconst (v := 0) hX dX10_worthBy_3 kc_0 ?_
  refine s_callVi (ck1 := 0) (sk1 := 0) (ci := 8) hX dX10_worthBy_4 k_X10_at q_1550 (c_X10_at n M0 a0 a1 0) (by decide) rfl rfl rfl ⟨Nat.le_of_ble_eq_true rfl, Nat.le_of_ble_eq_true rfl⟩ ⟨(Nat.le_of_ble_eq_true rfl), (Nat.le_of_ble_eq_true rfl)⟩ (Nat.le_of_ble_eq_true rfl) rfl rfl (fun r1 M2 => ?_)
  refine s_aload_n hX dX10_worthBy_7 rfl ?_
  refine s_callVi (ck1 := 0) (sk1 := 0) (ci := 8) hX dX10_worthBy_8 k_X10_year q_1526 (c_X10_year n M2 a0) (by decide) rfl rfl rfl ⟨Nat.le_of_ble_eq_true rfl, Nat.le_of_ble_eq_true rfl⟩ ⟨(Nat.le_of_ble_eq_true rfl), (Nat.le_of_ble_eq_true rfl)⟩ (Nat.le_of_ble_eq_true rfl) rfl rfl (fun r3 M4 => ?_)
  refine s_callVi (ck1 := 0) (sk1 := 0) (ci := 8) hX dX10_worthBy_11 k_X10_annualOf q_1649 (c_X10_annualOf n M4 a0 r1 r3) (by decide) rfl rfl rfl ⟨Nat.le_of_ble_eq_true rfl, Nat.le_of_ble_eq_true rfl⟩ ⟨(Nat.le_of_ble_eq_true rfl), (Nat.le_of_ble_eq_true rfl)⟩ (Nat.le_of_ble_eq_true rfl) rfl rfl (fun r5 M6 => ?_)
  refine s_istore3 hX dX10_worthBy_14 (by first | exact trivial | exact rfl) (Nat.le_of_ble_eq_true rfl) ?_
  refine s_aload_n hX dX10_worthBy_15 rfl ?_
  refine s_iconst (v := 0) hX dX10_worthBy_16 kc_0 ?_
  refine s_callVi (ck1 := 0) (sk1 := 0) (ci := 8) hX dX10_worthBy_17 k_X10_of q_1286 (c_X10_of n M6 a0 0) (by decide) rfl rfl rfl ⟨Nat.le_of_ble_eq_true rfl, Nat.le_of_ble_eq_true rfl⟩ ⟨(Nat.le_of_ble_eq_true rfl), (Nat.le_of_ble_eq_true rfl)⟩ (Nat.le_of_ble_eq_true rfl) rfl rfl (fun r7 M8 => ?_)
  refine s_iconst (v := 4) hX dX10_worthBy_20 kc_4 ?_
  refine s_irem hX dX10_worthBy_21 ?_
  refine s_istore4 hX dX10_worthBy_22 (by first | exact trivial | exact rfl) (Nat.le_of_ble_eq_true rfl) ?_
  refine s_aload_n hX dX10_worthBy_24 rfl ?_
  refine s_iload_n hX dX10_worthBy_25 rfl ?_
  refine s_aload_n hX dX10_worthBy_26 rfl ?_
  refine s_callVi (ck1 := 0) (sk1 := 0) (ci := 8) hX dX10_worthBy_27 k_X10_year q_1526 (c_X10_year n M8 a0) (by decide) rfl rfl rfl ⟨Nat.le_of_ble_eq_true rfl, Nat.le_of_ble_eq_true rfl⟩ ⟨(Nat.le_of_ble_eq_true rfl), (Nat.le_of_ble_eq_true rfl)⟩ (Nat.le_of_ble_eq_true rfl) rfl rfl (fun r9 M10 => ?_)
  refine s_callVi (ck1 := 0) (sk1 := 0) (ci := 8) hX dX10_worthBy_30 k_X10_intervalOf q_1554 (c_X10_intervalOf n M10 a0 a1 r9) (by decide) rfl rfl rfl ⟨Nat.le_of_ble_eq_true rfl, Nat.le_of_ble_eq_true rfl⟩ ⟨(Nat.le_of_ble_eq_true rfl), (Nat.le_of_ble_eq_true rfl)⟩ (Nat.le_of_ble_eq_true rfl) rfl rfl (fun r11 M12 => ?_)
  refine s_ifne (tgt := 60) hX dX10_worthBy_33 rfl ?_ ?_
  · refine s_iload_n hX dX10_worthBy_36 rfl ?_
    refine s_ifne (tgt := 49) hX dX10_worthBy_37 rfl ?_ ?_
    · refine s_aload_n hX dX10_worthBy_40 rfl ?_
      refine s_getO hX dX10_worthBy_41 q_1323 rfl (fun j13 => ?_)
      refine s_iconst (v := 1) hX dX10_worthBy_44 kc_1 ?_
      refine s_iald hX dX10_worthBy_45 (fun v14 => ?_)
      refine s_goto (tgt := 59) hX dX10_worthBy_46 rfl ?_
      exact s_iret hX hR dX10_worthBy_59 (Nat.le_of_ble_eq_true rfl) (Nat.le_of_ble_eq_true rfl)
    · refine s_iload_n hX dX10_worthBy_49 rfl ?_
      refine s_iconst (v := 1) hX dX10_worthBy_50 kc_1 ?_
      refine s_icne (tgt := 58) hX dX10_worthBy_51 rfl ?_ ?_
      · refine s_iconst (v := 0) hX dX10_worthBy_54 kc_0 ?_
        refine s_goto (tgt := 59) hX dX10_worthBy_55 rfl ?_
        exact s_iret hX hR dX10_worthBy_59 (Nat.le_of_ble_eq_true rfl) (Nat.le_of_ble_eq_true rfl)
      · refine s_iload_n hX dX10_worthBy_58 rfl ?_
        exact s_iret hX hR dX10_worthBy_59 (Nat.le_of_ble_eq_true rfl) (Nat.le_of_ble_eq_true rfl)
  · refine s_lconst (v := 0) hX dX10_worthBy_60 rfl ?_
    refine s_lstore5 hX dX10_worthBy_61 (by first | exact trivial | exact rfl) (Nat.le_of_ble_eq_true rfl) ?_
    refine s_iconst (v := 0) hX dX10_worthBy_63 kc_0 ?_
    refine s_istore7 hX dX10_worthBy_64 (by first | exact trivial | exact rfl) (Nat.le_of_ble_eq_true rfl) ?_
    refine s_loopE (stk := []) (fun (s : MemT × Int64 × Int32) => [some (.ref a0), some (.int a1), some (.int a2), some (.int r5), some (.int (r7 - r7 / 4 * 4)), some (.long s.2.1), none, some (.int s.2.2), none]) (fun (s : MemT × Int64 × Int32) => s.1) 133 (fun (s : MemT × Int64 × Int32) => [some (.ref a0), some (.int a1), some (.int a2), some (.int r5), some (.int (r7 - r7 / 4 * 4)), some (.long s.2.1), none, some (.int s.2.2), none]) (fun s B18 hB18 hE18 => ?_) (fun s => ?_) n (M12, 0, 0)
    · obtain ⟨M15, v16, v17⟩ := s
      dsimp only
      refine s_iload hX dX10_worthBy_66 rfl ?_
      refine s_iconst (v := 4) hX dX10_worthBy_68 kc_4 ?_
      refine s_icge (tgt := 133) hX dX10_worthBy_69 rfl ?_ ?_
      · exact s_exit hE18
      · refine s_iload hX dX10_worthBy_72 rfl ?_
        refine s_iload hX dX10_worthBy_74 rfl ?_
        refine s_jp (fun (s : MemT × Int32) => [some (.ref a0), some (.int a1), some (.int a2), some (.int r5), some (.int (r7 - r7 / 4 * 4)), some (.long v16), none, some (.int v17), none]) (fun (s : MemT × Int32) => [.int s.2]) (fun (s : MemT × Int32) => s.1) 0 0 93 (fun s => ?_) (fun K19 hK19 => ?_)
        · obtain ⟨M20, v21⟩ := s
          dsimp only
          refine s_istore8 hX dX10_worthBy_93 (by first | exact trivial | exact rfl) (Nat.le_of_ble_eq_true rfl) ?_
          refine s_lload hX dX10_worthBy_95 rfl ?_
          refine s_iload hX dX10_worthBy_97 rfl ?_
          refine s_ifne (tgt := 112) hX dX10_worthBy_99 rfl ?_ ?_
          · refine s_aload_n hX dX10_worthBy_102 rfl ?_
            refine s_getO hX dX10_worthBy_103 q_1323 rfl (fun j22 => ?_)
            refine s_iconst (v := 1) hX dX10_worthBy_106 kc_1 ?_
            refine s_iald hX dX10_worthBy_107 (fun v23 => ?_)
            refine s_i2l hX dX10_worthBy_108 ?_
            refine s_goto (tgt := 124) hX dX10_worthBy_109 rfl ?_
            refine s_ladd hX dX10_worthBy_124 ?_
            refine s_lstore5 hX dX10_worthBy_125 (by first | exact trivial | exact rfl) (Nat.le_of_ble_eq_true rfl) ?_
            refine s_iinc7 (v := v17 + 1) hX dX10_worthBy_127 rfl (by first | exact trivial | exact rfl) (Nat.le_of_ble_eq_true rfl) ?_
            refine s_goto (tgt := 66) hX dX10_worthBy_130 rfl ?_
            refine s_forget (loc1 := [some (.ref a0), some (.int a1), some (.int a2), some (.int r5), some (.int (r7 - r7 / 4 * 4)), some (.long (v16 + (Int32.toInt64 v23))), none, some (.int (v17 + 1)), none]) ⟨rfl, rfl, rfl, rfl, rfl, rfl, rfl, trivial⟩ ?_
            exact s_back hB18
          · refine s_iload hX dX10_worthBy_112 rfl ?_
            refine s_iconst (v := 1) hX dX10_worthBy_114 kc_1 ?_
            refine s_icne (tgt := 122) hX dX10_worthBy_115 rfl ?_ ?_
            · refine s_lconst (v := 0) hX dX10_worthBy_118 rfl ?_
              refine s_goto (tgt := 124) hX dX10_worthBy_119 rfl ?_
              refine s_ladd hX dX10_worthBy_124 ?_
              refine s_lstore5 hX dX10_worthBy_125 (by first | exact trivial | exact rfl) (Nat.le_of_ble_eq_true rfl) ?_
              refine s_iinc7 (v := v17 + 1) hX dX10_worthBy_127 rfl (by first | exact trivial | exact rfl) (Nat.le_of_ble_eq_true rfl) ?_
              refine s_goto (tgt := 66) hX dX10_worthBy_130 rfl ?_
              refine s_forget (loc1 := [some (.ref a0), some (.int a1), some (.int a2), some (.int r5), some (.int (r7 - r7 / 4 * 4)), some (.long (v16 + 0)), none, some (.int (v17 + 1)), none]) ⟨rfl, rfl, rfl, rfl, rfl, rfl, rfl, trivial⟩ ?_
              exact s_back hB18
            · refine s_iload_n hX dX10_worthBy_122 rfl ?_
              refine s_i2l hX dX10_worthBy_123 ?_
              refine s_ladd hX dX10_worthBy_124 ?_
              refine s_lstore5 hX dX10_worthBy_125 (by first | exact trivial | exact rfl) (Nat.le_of_ble_eq_true rfl) ?_
              refine s_iinc7 (v := v17 + 1) hX dX10_worthBy_127 rfl (by first | exact trivial | exact rfl) (Nat.le_of_ble_eq_true rfl) ?_
              refine s_goto (tgt := 66) hX dX10_worthBy_130 rfl ?_
              refine s_forget (loc1 := [some (.ref a0), some (.int a1), some (.int a2), some (.int r5), some (.int (r7 - r7 / 4 * 4)), some (.long (v16 + (Int32.toInt64 r5))), none, some (.int (v17 + 1)), none]) ⟨rfl, rfl, rfl, rfl, rfl, rfl, rfl, trivial⟩ ?_
              exact s_back hB18
        · refine s_icge (tgt := 92) hX dX10_worthBy_76 rfl ?_ ?_
          · refine s_iload_n hX dX10_worthBy_92 rfl ?_
            exact hK19 _
          · refine s_aload_n hX dX10_worthBy_79 rfl ?_
            refine s_iload_n hX dX10_worthBy_80 rfl ?_
            refine s_bipush (v := 13) hX dX10_worthBy_81 kb_13 ?_
            refine s_iload hX dX10_worthBy_83 rfl ?_
            refine s_iadd hX dX10_worthBy_85 ?_
            refine s_callVi (ck1 := 0) (sk1 := 0) (ci := 8) hX dX10_worthBy_86 k_X10_at q_1550 (c_X10_at n M15 a0 a1 (13 + v17)) (by decide) rfl rfl rfl ⟨Nat.le_of_ble_eq_true rfl, Nat.le_of_ble_eq_true rfl⟩ ⟨(Nat.le_of_ble_eq_true rfl), (Nat.le_of_ble_eq_true rfl)⟩ (Nat.le_of_ble_eq_true rfl) rfl rfl (fun r24 M25 => ?_)
            refine s_goto (tgt := 93) hX dX10_worthBy_89 rfl ?_
            exact hK19 _
    · obtain ⟨M26, v27, v28⟩ := s
      dsimp only
      refine s_aload_n hX dX10_worthBy_133 rfl ?_
      refine s_lload hX dX10_worthBy_134 rfl ?_
      refine s_ldc2 hX dX10_worthBy_136 q_1653 ?_
      refine s_callVj (ck1 := 0) (sk1 := 0) (ci := 8) hX dX10_worthBy_139 k_X10_cut q_1654 (c_X10_cut n M26 a0 v27 4) (by decide) rfl rfl rfl ⟨Nat.le_of_ble_eq_true rfl, Nat.le_of_ble_eq_true rfl⟩ ⟨(Nat.le_of_ble_eq_true rfl), (Nat.le_of_ble_eq_true rfl)⟩ (Nat.le_of_ble_eq_true rfl) rfl rfl (fun r29 M30 => ?_)
      refine s_l2i hX dX10_worthBy_142 ?_
      exact s_iret hX hR dX10_worthBy_143 (Nat.le_of_ble_eq_true rfl) (Nat.le_of_ble_eq_true rfl)
abbrev rm_X10_closesAsset : Room := { frames := 6, cells := 0, slots := 0, locals := 147 }
theorem k_X10_closesAsset : KYV yX10_closesAsset cX10_closesAsset 10 none 2 := ⟨⟨q_1644, q_9, by decide +kernel, by decide +kernel, by decide +kernel⟩, q_1643, p_92⟩
set_option maxHeartbeats 4000000 in
set_option maxRecDepth 100000 in
theorem c_X10_closesAsset (n : Nat) (M0 : MemT) (a0 : Nat) (a1 : Int32) (a2 : Int32) : Ct iU yX10_closesAsset cX10_closesAsset 10 none rm_X10_closesAsset [.ref a0, .int a1, .int a2] M0 (g_X10_closesAsset n M0 a0 a1 a2) := by
  unfold g_X10_closesAsset
  refine ct_intro RX10 7 [some (.ref a0), some (.int a1), some (.int a2), none, none, none, none, none, none, none] rfl (by decide +kernel) rfl (Nat.le_of_ble_eq_true rfl) (fun X A hX hnm hR => ?_)
  refine s_aload_n hX dX10_closesAsset_0 rfl ?_
  refine s_iload_n hX dX10_closesAsset_1 rfl ?_
  refine s_bipush (v := 9) hX dX10_closesAsset_2 kb_9 ?_
  refine s_callVi (ck1 := 0) (sk1 := 0) (ci := 8) hX dX10_closesAsset_4 k_X10_at q_1550 (c_X10_at n M0 a0 a1 9) (by decide) rfl rfl rfl ⟨Nat.le_of_ble_eq_true rfl, Nat.le_of_ble_eq_true rfl⟩ ⟨(Nat.le_of_ble_eq_true rfl), (Nat.le_of_ble_eq_true rfl)⟩ (Nat.le_of_ble_eq_true rfl) rfl rfl (fun r1 M2 => ?_)
  refine s_iconst (v := 1) hX dX10_closesAsset_7 kc_1 ?_
  refine s_icne (tgt := 12) hX dX10_closesAsset_8 rfl ?_ ?_
  · exact s_vret hX hR dX10_closesAsset_11 (Nat.le_of_ble_eq_true rfl) (Nat.le_of_ble_eq_true rfl)
  · refine s_aload_n hX dX10_closesAsset_12 rfl ?_
    refine s_iload_n hX dX10_closesAsset_13 rfl ?_
    refine s_iload_n hX dX10_closesAsset_14 rfl ?_
    refine s_callVi (ck1 := 0) (sk1 := 0) (ci := 8) hX dX10_closesAsset_15 k_X10_intervalOf q_1554 (c_X10_intervalOf n M2 a0 a1 a2) (by decide) rfl rfl rfl ⟨Nat.le_of_ble_eq_true rfl, Nat.le_of_ble_eq_true rfl⟩ ⟨(Nat.le_of_ble_eq_true rfl), (Nat.le_of_ble_eq_true rfl)⟩ (Nat.le_of_ble_eq_true rfl) rfl rfl (fun r3 M4 => ?_)
    refine s_istore3 hX dX10_closesAsset_18 (by first | exact trivial | exact rfl) (Nat.le_of_ble_eq_true rfl) ?_
    refine s_aload_n hX dX10_closesAsset_19 rfl ?_
    refine s_iload_n hX dX10_closesAsset_20 rfl ?_
    refine s_aload_n hX dX10_closesAsset_21 rfl ?_
    refine s_iload_n hX dX10_closesAsset_22 rfl ?_
    refine s_iconst (v := 2) hX dX10_closesAsset_23 kc_2 ?_
    refine s_callVi (ck1 := 0) (sk1 := 0) (ci := 8) hX dX10_closesAsset_24 k_X10_at q_1550 (c_X10_at n M4 a0 a1 2) (by decide) rfl rfl rfl ⟨Nat.le_of_ble_eq_true rfl, Nat.le_of_ble_eq_true rfl⟩ ⟨(Nat.le_of_ble_eq_true rfl), (Nat.le_of_ble_eq_true rfl)⟩ (Nat.le_of_ble_eq_true rfl) rfl rfl (fun r5 M6 => ?_)
    refine s_callVi (ck1 := 0) (sk1 := 0) (ci := 8) hX dX10_closesAsset_27 k_X10_worthBy q_1645 (c_X10_worthBy n M6 a0 a1 r5) (by decide) rfl rfl rfl ⟨Nat.le_of_ble_eq_true rfl, Nat.le_of_ble_eq_true rfl⟩ ⟨(Nat.le_of_ble_eq_true rfl), (Nat.le_of_ble_eq_true rfl)⟩ (Nat.le_of_ble_eq_true rfl) rfl rfl (fun r7 M8 => ?_)
    refine s_istore4 hX dX10_closesAsset_30 (by first | exact trivial | exact rfl) (Nat.le_of_ble_eq_true rfl) ?_
    refine s_aload_n hX dX10_closesAsset_32 rfl ?_
    refine s_iload_n hX dX10_closesAsset_33 rfl ?_
    refine s_bipush (v := 17) hX dX10_closesAsset_34 kb_17 ?_
    refine s_iload_n hX dX10_closesAsset_36 rfl ?_
    refine s_iadd hX dX10_closesAsset_37 ?_
    refine s_iload hX dX10_closesAsset_38 rfl ?_
    refine s_callVu (ck1 := 0) (sk1 := 0) (ci := 8) hX dX10_closesAsset_40 k_X10_put q_1302 (c_X10_put n M8 a0 a1 (17 + r3) r7) (by decide) rfl rfl rfl ⟨Nat.le_of_ble_eq_true rfl, Nat.le_of_ble_eq_true rfl⟩ ⟨(Nat.le_of_ble_eq_true rfl), (Nat.le_of_ble_eq_true rfl)⟩ (Nat.le_of_ble_eq_true rfl) rfl rfl (fun r9 M10 => ?_)
    refine s_aload_n hX dX10_closesAsset_43 rfl ?_
    refine s_iload_n hX dX10_closesAsset_44 rfl ?_
    refine s_bipush (v := 37) hX dX10_closesAsset_45 kb_37 ?_
    refine s_iload_n hX dX10_closesAsset_47 rfl ?_
    refine s_iadd hX dX10_closesAsset_48 ?_
    refine s_aload_n hX dX10_closesAsset_49 rfl ?_
    refine s_iload_n hX dX10_closesAsset_50 rfl ?_
    refine s_iconst (v := 0) hX dX10_closesAsset_51 kc_0 ?_
    refine s_callVi (ck1 := 0) (sk1 := 0) (ci := 8) hX dX10_closesAsset_52 k_X10_at q_1550 (c_X10_at n M10 a0 a1 0) (by decide) rfl rfl rfl ⟨Nat.le_of_ble_eq_true rfl, Nat.le_of_ble_eq_true rfl⟩ ⟨(Nat.le_of_ble_eq_true rfl), (Nat.le_of_ble_eq_true rfl)⟩ (Nat.le_of_ble_eq_true rfl) rfl rfl (fun r11 M12 => ?_)
    refine s_callVu (ck1 := 0) (sk1 := 0) (ci := 8) hX dX10_closesAsset_55 k_X10_put q_1302 (c_X10_put n M12 a0 a1 (37 + r3) r11) (by decide) rfl rfl rfl ⟨Nat.le_of_ble_eq_true rfl, Nat.le_of_ble_eq_true rfl⟩ ⟨(Nat.le_of_ble_eq_true rfl), (Nat.le_of_ble_eq_true rfl)⟩ (Nat.le_of_ble_eq_true rfl) rfl rfl (fun r13 M14 => ?_)
    refine s_aload_n hX dX10_closesAsset_58 rfl ?_
    refine s_iload_n hX dX10_closesAsset_59 rfl ?_
    refine s_bipush (v := 47) hX dX10_closesAsset_60 kb_47 ?_
    refine s_iload_n hX dX10_closesAsset_62 rfl ?_
    refine s_iconst (v := 1) hX dX10_closesAsset_63 kc_1 ?_
    refine s_iadd hX dX10_closesAsset_64 ?_
    refine s_callVu (ck1 := 0) (sk1 := 0) (ci := 8) hX dX10_closesAsset_65 k_X10_put q_1302 (c_X10_put n M14 a0 a1 47 (r3 + 1)) (by decide) rfl rfl rfl ⟨Nat.le_of_ble_eq_true rfl, Nat.le_of_ble_eq_true rfl⟩ ⟨(Nat.le_of_ble_eq_true rfl), (Nat.le_of_ble_eq_true rfl)⟩ (Nat.le_of_ble_eq_true rfl) rfl rfl (fun r15 M16 => ?_)
    refine s_iload_n hX dX10_closesAsset_68 rfl ?_
    refine s_jp (fun (s : MemT) => [some (.ref a0), some (.int a1), some (.int a2), some (.int r3), some (.int r7), none, none, none, none, none]) (fun (s : MemT) => []) (fun (s : MemT) => s) 0 0 135 (fun s => ?_) (fun K17 hK17 => ?_)
    · revert s
      intro M18
      try dsimp only
      refine s_aload_n hX dX10_closesAsset_135 rfl ?_
      refine s_iload_n hX dX10_closesAsset_136 rfl ?_
      refine s_iconst (v := 4) hX dX10_closesAsset_137 kc_4 ?_
      refine s_callVi (ck1 := 0) (sk1 := 0) (ci := 8) hX dX10_closesAsset_138 k_X10_at q_1550 (c_X10_at n M18 a0 a1 4) (by decide) rfl rfl rfl ⟨Nat.le_of_ble_eq_true rfl, Nat.le_of_ble_eq_true rfl⟩ ⟨(Nat.le_of_ble_eq_true rfl), (Nat.le_of_ble_eq_true rfl)⟩ (Nat.le_of_ble_eq_true rfl) rfl rfl (fun r19 M20 => ?_)
      refine s_iconst (v := 1) hX dX10_closesAsset_141 kc_1 ?_
      refine s_isub hX dX10_closesAsset_142 ?_
      refine s_iload_n hX dX10_closesAsset_143 rfl ?_
      refine s_isub hX dX10_closesAsset_144 ?_
      refine s_istore5 hX dX10_closesAsset_145 (by first | exact trivial | exact rfl) (Nat.le_of_ble_eq_true rfl) ?_
      refine s_aload_n hX dX10_closesAsset_147 rfl ?_
      refine s_iload_n hX dX10_closesAsset_148 rfl ?_
      refine s_bipush (v := 7) hX dX10_closesAsset_149 kb_7 ?_
      refine s_callVi (ck1 := 0) (sk1 := 0) (ci := 8) hX dX10_closesAsset_151 k_X10_at q_1550 (c_X10_at n M20 a0 a1 7) (by decide) rfl rfl rfl ⟨Nat.le_of_ble_eq_true rfl, Nat.le_of_ble_eq_true rfl⟩ ⟨(Nat.le_of_ble_eq_true rfl), (Nat.le_of_ble_eq_true rfl)⟩ (Nat.le_of_ble_eq_true rfl) rfl rfl (fun r21 M22 => ?_)
      refine s_iconst (v := 1) hX dX10_closesAsset_154 kc_1 ?_
      refine s_isub hX dX10_closesAsset_155 ?_
      refine s_istore6 hX dX10_closesAsset_156 (by first | exact trivial | exact rfl) (Nat.le_of_ble_eq_true rfl) ?_
      refine s_iload hX dX10_closesAsset_158 rfl ?_
      refine s_jp (fun (s : MemT) => [some (.ref a0), some (.int a1), some (.int a2), some (.int r3), some (.int r7), some (.int ((r19 - 1) - r3)), some (.int (r21 - 1)), none, none, none]) (fun (s : MemT) => []) (fun (s : MemT) => s) 0 0 252 (fun s => ?_) (fun K23 hK23 => ?_)
      · revert s
        intro M24
        try dsimp only
        refine s_iload hX dX10_closesAsset_252 rfl ?_
        refine s_jp (fun (s : MemT) => [some (.ref a0), some (.int a1), some (.int a2), some (.int r3), some (.int r7), some (.int ((r19 - 1) - r3)), some (.int (r21 - 1)), none, none, none]) (fun (s : MemT) => []) (fun (s : MemT) => s) 0 0 270 (fun s => ?_) (fun K25 hK25 => ?_)
        · revert s
          intro M26
          try dsimp only
          refine s_aload_n hX dX10_closesAsset_270 rfl ?_
          refine s_iload_n hX dX10_closesAsset_271 rfl ?_
          refine s_iconst (v := 0) hX dX10_closesAsset_272 kc_0 ?_
          refine s_aload_n hX dX10_closesAsset_273 rfl ?_
          refine s_iload_n hX dX10_closesAsset_274 rfl ?_
          refine s_iconst (v := 1) hX dX10_closesAsset_275 kc_1 ?_
          refine s_callVi (ck1 := 0) (sk1 := 0) (ci := 8) hX dX10_closesAsset_276 k_X10_at q_1550 (c_X10_at n M26 a0 a1 1) (by decide) rfl rfl rfl ⟨Nat.le_of_ble_eq_true rfl, Nat.le_of_ble_eq_true rfl⟩ ⟨(Nat.le_of_ble_eq_true rfl), (Nat.le_of_ble_eq_true rfl)⟩ (Nat.le_of_ble_eq_true rfl) rfl rfl (fun r27 M28 => ?_)
          refine s_callVu (ck1 := 0) (sk1 := 0) (ci := 8) hX dX10_closesAsset_279 k_X10_put q_1302 (c_X10_put n M28 a0 a1 0 r27) (by decide) rfl rfl rfl ⟨Nat.le_of_ble_eq_true rfl, Nat.le_of_ble_eq_true rfl⟩ ⟨(Nat.le_of_ble_eq_true rfl), (Nat.le_of_ble_eq_true rfl)⟩ (Nat.le_of_ble_eq_true rfl) rfl rfl (fun r29 M30 => ?_)
          exact s_vret hX hR dX10_closesAsset_282 (Nat.le_of_ble_eq_true rfl) (Nat.le_of_ble_eq_true rfl)
        · refine s_jp (fun (s : MemT) => [some (.ref a0), some (.int a1), some (.int a2), some (.int r3), some (.int r7), some (.int ((r19 - 1) - r3)), some (.int (r21 - 1)), none, none, none]) (fun (s : MemT) => []) (fun (s : MemT) => s) 0 0 262 (fun s => ?_) (fun K31 hK31 => ?_)
          · revert s
            intro M32
            try dsimp only
            refine s_aload_n hX dX10_closesAsset_262 rfl ?_
            refine s_iload_n hX dX10_closesAsset_263 rfl ?_
            refine s_bipush (v := 9) hX dX10_closesAsset_264 kb_9 ?_
            refine s_iconst (v := 1) hX dX10_closesAsset_266 kc_1 ?_
            refine s_callVu (ck1 := 0) (sk1 := 0) (ci := 8) hX dX10_closesAsset_267 k_X10_put q_1302 (c_X10_put n M32 a0 a1 9 1) (by decide) rfl rfl rfl ⟨Nat.le_of_ble_eq_true rfl, Nat.le_of_ble_eq_true rfl⟩ ⟨(Nat.le_of_ble_eq_true rfl), (Nat.le_of_ble_eq_true rfl)⟩ (Nat.le_of_ble_eq_true rfl) rfl rfl (fun r33 M34 => ?_)
            exact hK25 _
          · refine s_ifge (tgt := 262) hX dX10_closesAsset_254 rfl ?_ ?_
            · exact hK31 _
            · refine s_iload hX dX10_closesAsset_257 rfl ?_
              refine s_ifne (tgt := 270) hX dX10_closesAsset_259 rfl ?_ ?_
              · exact hK31 _
              · exact hK25 _
      · refine s_jp (fun (s : MemT) => [some (.ref a0), some (.int a1), some (.int a2), some (.int r3), some (.int r7), some (.int ((r19 - 1) - r3)), some (.int (r21 - 1)), none, none, none]) (fun (s : MemT) => []) (fun (s : MemT) => s) 0 0 169 (fun s => ?_) (fun K35 hK35 => ?_)
        · revert s
          intro M36
          try dsimp only
          refine s_aload_n hX dX10_closesAsset_169 rfl ?_
          refine s_iload_n hX dX10_closesAsset_170 rfl ?_
          refine s_iload hX dX10_closesAsset_171 rfl ?_
          refine s_iload hX dX10_closesAsset_173 rfl ?_
          refine s_aload_n hX dX10_closesAsset_175 rfl ?_
          refine s_iload_n hX dX10_closesAsset_176 rfl ?_
          refine s_bipush (v := 6) hX dX10_closesAsset_177 kb_6 ?_
          refine s_callVi (ck1 := 0) (sk1 := 0) (ci := 8) hX dX10_closesAsset_179 k_X10_at q_1550 (c_X10_at n M36 a0 a1 6) (by decide) rfl rfl rfl ⟨Nat.le_of_ble_eq_true rfl, Nat.le_of_ble_eq_true rfl⟩ ⟨(Nat.le_of_ble_eq_true rfl), (Nat.le_of_ble_eq_true rfl)⟩ (Nat.le_of_ble_eq_true rfl) rfl rfl (fun r37 M38 => ?_)
          refine s_callVj (ck1 := 0) (sk1 := 0) (ci := 8) hX dX10_closesAsset_182 k_X10_lastBy q_1670 (c_X10_lastBy n M38 a0 a1 ((r19 - 1) - r3) (r21 - 1) r37) (by decide) rfl rfl rfl ⟨Nat.le_of_ble_eq_true rfl, Nat.le_of_ble_eq_true rfl⟩ ⟨(Nat.le_of_ble_eq_true rfl), (Nat.le_of_ble_eq_true rfl)⟩ (Nat.le_of_ble_eq_true rfl) rfl rfl (fun r39 M40 => ?_)
          refine s_lstore7 hX dX10_closesAsset_185 (by first | exact trivial | exact rfl) (Nat.le_of_ble_eq_true rfl) ?_
          refine s_aload_n hX dX10_closesAsset_187 rfl ?_
          refine s_iload_n hX dX10_closesAsset_188 rfl ?_
          refine s_bipush (v := 8) hX dX10_closesAsset_189 kb_8 ?_
          refine s_callVi (ck1 := 0) (sk1 := 0) (ci := 8) hX dX10_closesAsset_191 k_X10_at q_1550 (c_X10_at n M40 a0 a1 8) (by decide) rfl rfl rfl ⟨Nat.le_of_ble_eq_true rfl, Nat.le_of_ble_eq_true rfl⟩ ⟨(Nat.le_of_ble_eq_true rfl), (Nat.le_of_ble_eq_true rfl)⟩ (Nat.le_of_ble_eq_true rfl) rfl rfl (fun r41 M42 => ?_)
          refine s_jp (fun (s : MemT × Int64) => [some (.ref a0), some (.int a1), some (.int a2), some (.int r3), some (.int r7), some (.int ((r19 - 1) - r3)), some (.int (r21 - 1)), some (.long r39), none, none]) (fun (s : MemT × Int64) => [.long s.2]) (fun (s : MemT × Int64) => s.1) 0 0 224 (fun s => ?_) (fun K43 hK43 => ?_)
          · obtain ⟨M44, v45⟩ := s
            dsimp only
            refine s_l2i hX dX10_closesAsset_224 ?_
            refine s_istore9 hX dX10_closesAsset_225 (by first | exact trivial | exact rfl) (Nat.le_of_ble_eq_true rfl) ?_
            refine s_aload_n hX dX10_closesAsset_227 rfl ?_
            refine s_iload_n hX dX10_closesAsset_228 rfl ?_
            refine s_bipush (v := 11) hX dX10_closesAsset_229 kb_11 ?_
            refine s_iconst (v := 1) hX dX10_closesAsset_231 kc_1 ?_
            refine s_callVu (ck1 := 0) (sk1 := 0) (ci := 8) hX dX10_closesAsset_232 k_X10_put q_1302 (c_X10_put n M44 a0 a1 11 1) (by decide) rfl rfl rfl ⟨Nat.le_of_ble_eq_true rfl, Nat.le_of_ble_eq_true rfl⟩ ⟨(Nat.le_of_ble_eq_true rfl), (Nat.le_of_ble_eq_true rfl)⟩ (Nat.le_of_ble_eq_true rfl) rfl rfl (fun r46 M47 => ?_)
            refine s_aload_n hX dX10_closesAsset_235 rfl ?_
            refine s_iload_n hX dX10_closesAsset_236 rfl ?_
            refine s_bipush (v := 12) hX dX10_closesAsset_237 kb_12 ?_
            refine s_iload hX dX10_closesAsset_239 rfl ?_
            refine s_callVu (ck1 := 0) (sk1 := 0) (ci := 8) hX dX10_closesAsset_241 k_X10_put q_1302 (c_X10_put n M47 a0 a1 12 (Int64.toInt32 v45)) (by decide) rfl rfl rfl ⟨Nat.le_of_ble_eq_true rfl, Nat.le_of_ble_eq_true rfl⟩ ⟨(Nat.le_of_ble_eq_true rfl), (Nat.le_of_ble_eq_true rfl)⟩ (Nat.le_of_ble_eq_true rfl) rfl rfl (fun r48 M49 => ?_)
            refine s_aload_n hX dX10_closesAsset_244 rfl ?_
            refine s_iload_n hX dX10_closesAsset_245 rfl ?_
            refine s_iconst (v := 3) hX dX10_closesAsset_246 kc_3 ?_
            refine s_iload hX dX10_closesAsset_247 rfl ?_
            refine s_callVu (ck1 := 0) (sk1 := 0) (ci := 8) hX dX10_closesAsset_249 k_X10_booksFor q_1666 (c_X10_booksFor n M49 a0 a1 3 (Int64.toInt32 v45)) (by decide) rfl rfl rfl ⟨Nat.le_of_ble_eq_true rfl, Nat.le_of_ble_eq_true rfl⟩ ⟨(Nat.le_of_ble_eq_true rfl), (Nat.le_of_ble_eq_true rfl)⟩ (Nat.le_of_ble_eq_true rfl) rfl rfl (fun r50 M51 => ?_)
            refine s_forget (loc1 := [some (.ref a0), some (.int a1), some (.int a2), some (.int r3), some (.int r7), some (.int ((r19 - 1) - r3)), some (.int (r21 - 1)), none, none, none]) ⟨rfl, rfl, rfl, rfl, rfl, rfl, rfl, trivial⟩ ?_
            exact hK23 _
          · refine s_jp (fun (s : MemT) => [some (.ref a0), some (.int a1), some (.int a2), some (.int r3), some (.int r7), some (.int ((r19 - 1) - r3)), some (.int (r21 - 1)), some (.long r39), none, none]) (fun (s : MemT) => []) (fun (s : MemT) => s) 0 0 222 (fun s => ?_) (fun K52 hK52 => ?_)
            · revert s
              intro M53
              try dsimp only
              refine s_lload hX dX10_closesAsset_222 rfl ?_
              exact hK43 _
            · refine s_iflt (tgt := 222) hX dX10_closesAsset_194 rfl ?_ ?_
              · exact hK52 _
              · refine s_lload hX dX10_closesAsset_197 rfl ?_
                refine s_aload_n hX dX10_closesAsset_199 rfl ?_
                refine s_iload_n hX dX10_closesAsset_200 rfl ?_
                refine s_bipush (v := 8) hX dX10_closesAsset_201 kb_8 ?_
                refine s_callVi (ck1 := 0) (sk1 := 0) (ci := 8) hX dX10_closesAsset_203 k_X10_at q_1550 (c_X10_at n M42 a0 a1 8) (by decide) rfl rfl rfl ⟨Nat.le_of_ble_eq_true rfl, Nat.le_of_ble_eq_true rfl⟩ ⟨(Nat.le_of_ble_eq_true rfl), (Nat.le_of_ble_eq_true rfl)⟩ (Nat.le_of_ble_eq_true rfl) rfl rfl (fun r54 M55 => ?_)
                refine s_i2l hX dX10_closesAsset_206 ?_
                refine s_lcmp hX dX10_closesAsset_207 ?_
                refine s_ifle (tgt := 222) hX dX10_closesAsset_208 rfl ?_ ?_
                · exact hK52 _
                · refine s_aload_n hX dX10_closesAsset_211 rfl ?_
                  refine s_iload_n hX dX10_closesAsset_212 rfl ?_
                  refine s_bipush (v := 8) hX dX10_closesAsset_213 kb_8 ?_
                  refine s_callVi (ck1 := 0) (sk1 := 0) (ci := 8) hX dX10_closesAsset_215 k_X10_at q_1550 (c_X10_at n M55 a0 a1 8) (by decide) rfl rfl rfl ⟨Nat.le_of_ble_eq_true rfl, Nat.le_of_ble_eq_true rfl⟩ ⟨(Nat.le_of_ble_eq_true rfl), (Nat.le_of_ble_eq_true rfl)⟩ (Nat.le_of_ble_eq_true rfl) rfl rfl (fun r56 M57 => ?_)
                  refine s_i2l hX dX10_closesAsset_218 ?_
                  refine s_goto (tgt := 224) hX dX10_closesAsset_219 rfl ?_
                  exact hK43 _
        · refine s_ifeq (tgt := 169) hX dX10_closesAsset_160 rfl ?_ ?_
          · exact hK35 _
          · refine s_iload hX dX10_closesAsset_163 rfl ?_
            refine s_iconst (v := 1) hX dX10_closesAsset_165 kc_1 ?_
            refine s_icne (tgt := 252) hX dX10_closesAsset_166 rfl ?_ ?_
            · exact hK35 _
            · exact hK23 _
    · refine s_ifne (tgt := 99) hX dX10_closesAsset_69 rfl ?_ ?_
      · refine s_aload_n hX dX10_closesAsset_72 rfl ?_
        refine s_iload_n hX dX10_closesAsset_73 rfl ?_
        refine s_bipush (v := 6) hX dX10_closesAsset_74 kb_6 ?_
        refine s_iload hX dX10_closesAsset_76 rfl ?_
        refine s_callVu (ck1 := 0) (sk1 := 0) (ci := 8) hX dX10_closesAsset_78 k_X10_put q_1302 (c_X10_put n M16 a0 a1 6 r7) (by decide) rfl rfl rfl ⟨Nat.le_of_ble_eq_true rfl, Nat.le_of_ble_eq_true rfl⟩ ⟨(Nat.le_of_ble_eq_true rfl), (Nat.le_of_ble_eq_true rfl)⟩ (Nat.le_of_ble_eq_true rfl) rfl rfl (fun r58 M59 => ?_)
        refine s_aload_n hX dX10_closesAsset_81 rfl ?_
        refine s_iload_n hX dX10_closesAsset_82 rfl ?_
        refine s_bipush (v := 10) hX dX10_closesAsset_83 kb_10 ?_
        refine s_aload_n hX dX10_closesAsset_85 rfl ?_
        refine s_iload_n hX dX10_closesAsset_86 rfl ?_
        refine s_iload hX dX10_closesAsset_87 rfl ?_
        refine s_callVj (ck1 := 0) (sk1 := 0) (ci := 8) hX dX10_closesAsset_89 k_X10_firstTaken q_1658 (c_X10_firstTaken n M59 a0 a1 r7) (by decide) rfl rfl rfl ⟨Nat.le_of_ble_eq_true rfl, Nat.le_of_ble_eq_true rfl⟩ ⟨(Nat.le_of_ble_eq_true rfl), (Nat.le_of_ble_eq_true rfl)⟩ (Nat.le_of_ble_eq_true rfl) rfl rfl (fun r60 M61 => ?_)
        refine s_l2i hX dX10_closesAsset_92 ?_
        refine s_callVu (ck1 := 0) (sk1 := 0) (ci := 8) hX dX10_closesAsset_93 k_X10_put q_1302 (c_X10_put n M61 a0 a1 10 (Int64.toInt32 r60)) (by decide) rfl rfl rfl ⟨Nat.le_of_ble_eq_true rfl, Nat.le_of_ble_eq_true rfl⟩ ⟨(Nat.le_of_ble_eq_true rfl), (Nat.le_of_ble_eq_true rfl)⟩ (Nat.le_of_ble_eq_true rfl) rfl rfl (fun r62 M63 => ?_)
        refine s_goto (tgt := 135) hX dX10_closesAsset_96 rfl ?_
        exact hK17 _
      · refine s_aload_n hX dX10_closesAsset_99 rfl ?_
        refine s_iload_n hX dX10_closesAsset_100 rfl ?_
        refine s_iload hX dX10_closesAsset_101 rfl ?_
        refine s_aload_n hX dX10_closesAsset_103 rfl ?_
        refine s_iload_n hX dX10_closesAsset_104 rfl ?_
        refine s_bipush (v := 6) hX dX10_closesAsset_105 kb_6 ?_
        refine s_callVi (ck1 := 0) (sk1 := 0) (ci := 8) hX dX10_closesAsset_107 k_X10_at q_1550 (c_X10_at n M16 a0 a1 6) (by decide) rfl rfl rfl ⟨Nat.le_of_ble_eq_true rfl, Nat.le_of_ble_eq_true rfl⟩ ⟨(Nat.le_of_ble_eq_true rfl), (Nat.le_of_ble_eq_true rfl)⟩ (Nat.le_of_ble_eq_true rfl) rfl rfl (fun r64 M65 => ?_)
        refine s_callVj (ck1 := 0) (sk1 := 0) (ci := 8) hX dX10_closesAsset_110 k_X10_adjustedBy q_1662 (c_X10_adjustedBy n M65 a0 a1 r7 r64) (by decide) rfl rfl rfl ⟨Nat.le_of_ble_eq_true rfl, Nat.le_of_ble_eq_true rfl⟩ ⟨(Nat.le_of_ble_eq_true rfl), (Nat.le_of_ble_eq_true rfl)⟩ (Nat.le_of_ble_eq_true rfl) rfl rfl (fun r66 M67 => ?_)
        refine s_l2i hX dX10_closesAsset_113 ?_
        refine s_istore5 hX dX10_closesAsset_114 (by first | exact trivial | exact rfl) (Nat.le_of_ble_eq_true rfl) ?_
        refine s_aload_n hX dX10_closesAsset_116 rfl ?_
        refine s_iload_n hX dX10_closesAsset_117 rfl ?_
        refine s_bipush (v := 27) hX dX10_closesAsset_118 kb_27 ?_
        refine s_iload_n hX dX10_closesAsset_120 rfl ?_
        refine s_iadd hX dX10_closesAsset_121 ?_
        refine s_iload hX dX10_closesAsset_122 rfl ?_
        refine s_callVu (ck1 := 0) (sk1 := 0) (ci := 8) hX dX10_closesAsset_124 k_X10_put q_1302 (c_X10_put n M67 a0 a1 (27 + r3) (Int64.toInt32 r66)) (by decide) rfl rfl rfl ⟨Nat.le_of_ble_eq_true rfl, Nat.le_of_ble_eq_true rfl⟩ ⟨(Nat.le_of_ble_eq_true rfl), (Nat.le_of_ble_eq_true rfl)⟩ (Nat.le_of_ble_eq_true rfl) rfl rfl (fun r68 M69 => ?_)
        refine s_aload_n hX dX10_closesAsset_127 rfl ?_
        refine s_iload_n hX dX10_closesAsset_128 rfl ?_
        refine s_iconst (v := 2) hX dX10_closesAsset_129 kc_2 ?_
        refine s_iload hX dX10_closesAsset_130 rfl ?_
        refine s_callVu (ck1 := 0) (sk1 := 0) (ci := 8) hX dX10_closesAsset_132 k_X10_booksFor q_1666 (c_X10_booksFor n M69 a0 a1 2 (Int64.toInt32 r66)) (by decide) rfl rfl rfl ⟨Nat.le_of_ble_eq_true rfl, Nat.le_of_ble_eq_true rfl⟩ ⟨(Nat.le_of_ble_eq_true rfl), (Nat.le_of_ble_eq_true rfl)⟩ (Nat.le_of_ble_eq_true rfl) rfl rfl (fun r70 M71 => ?_)
        refine s_forget (loc1 := [some (.ref a0), some (.int a1), some (.int a2), some (.int r3), some (.int r7), none, none, none, none, none]) ⟨rfl, rfl, rfl, rfl, rfl, trivial⟩ ?_
        exact hK17 _
abbrev rm_X10_closesYear : Room := { frames := 7, cells := 0, slots := 0, locals := 176 }
theorem k_X10_closesYear : KYV yX10_closesYear cX10_closesYear 4 none 0 := ⟨⟨q_1632, q_9, by decide +kernel, by decide +kernel, by decide +kernel⟩, q_1631, p_89⟩
set_option maxHeartbeats 4000000 in
set_option maxRecDepth 100000 in
theorem c_X10_closesYear (n : Nat) (M0 : MemT) (a0 : Nat) : Ct iU yX10_closesYear cX10_closesYear 4 none rm_X10_closesYear [.ref a0] M0 (g_X10_closesYear n M0 a0) := by
  unfold g_X10_closesYear
  refine ct_intro RX10 3 [some (.ref a0), none, none, none] rfl (by decide +kernel) rfl (Nat.le_of_ble_eq_true rfl) (fun X A hX hnm hR => ?_)
  refine s_aload_n hX dX10_closesYear_0 rfl ?_
  refine s_callVi (ck1 := 0) (sk1 := 0) (ci := 8) hX dX10_closesYear_1 k_X10_year q_1526 (c_X10_year n M0 a0) (by decide) rfl rfl rfl ⟨Nat.le_of_ble_eq_true rfl, Nat.le_of_ble_eq_true rfl⟩ ⟨(Nat.le_of_ble_eq_true rfl), (Nat.le_of_ble_eq_true rfl)⟩ (Nat.le_of_ble_eq_true rfl) rfl rfl (fun r1 M2 => ?_)
  refine s_istore1 hX dX10_closesYear_4 (by first | exact trivial | exact rfl) (Nat.le_of_ble_eq_true rfl) ?_
  refine s_iconst (v := 0) hX dX10_closesYear_5 kc_0 ?_
  refine s_istore2 hX dX10_closesYear_6 (by first | exact trivial | exact rfl) (Nat.le_of_ble_eq_true rfl) ?_
  refine s_loopE (stk := []) (fun (s : MemT × Int32) => [some (.ref a0), some (.int r1), some (.int s.2), none]) (fun (s : MemT × Int32) => s.1) 74 (fun (s : MemT × Int32) => [some (.ref a0), some (.int r1), some (.int s.2), none]) (fun s B5 hB5 hE5 => ?_) (fun s => ?_) n (M2, 0)
  · obtain ⟨M3, v4⟩ := s
    dsimp only
    refine s_iload_n hX dX10_closesYear_7 rfl ?_
    refine s_aload_n hX dX10_closesYear_8 rfl ?_
    refine s_getI hX dX10_closesYear_9 q_1317 rfl (fun v6 => ?_)
    refine s_icge (tgt := 74) hX dX10_closesYear_12 rfl ?_ ?_
    · exact s_exit hE5
    · refine s_aload_n hX dX10_closesYear_15 rfl ?_
      refine s_iload_n hX dX10_closesYear_16 rfl ?_
      refine s_iload_n hX dX10_closesYear_17 rfl ?_
      refine s_callVu (ck1 := 0) (sk1 := 0) (ci := 8) hX dX10_closesYear_18 k_X10_layYear q_1633 (c_X10_layYear n M3 a0 v4 r1) (by decide) rfl rfl rfl ⟨Nat.le_of_ble_eq_true rfl, Nat.le_of_ble_eq_true rfl⟩ ⟨(Nat.le_of_ble_eq_true rfl), (Nat.le_of_ble_eq_true rfl)⟩ (Nat.le_of_ble_eq_true rfl) rfl rfl (fun r7 M8 => ?_)
      refine s_aload_n hX dX10_closesYear_21 rfl ?_
      refine s_iload_n hX dX10_closesYear_22 rfl ?_
      refine s_callVi (ck1 := 0) (sk1 := 0) (ci := 8) hX dX10_closesYear_23 k_X10_fraction q_1598 (c_X10_fraction n M8 a0 v4) (by decide) rfl rfl rfl ⟨Nat.le_of_ble_eq_true rfl, Nat.le_of_ble_eq_true rfl⟩ ⟨(Nat.le_of_ble_eq_true rfl), (Nat.le_of_ble_eq_true rfl)⟩ (Nat.le_of_ble_eq_true rfl) rfl rfl (fun r9 M10 => ?_)
      refine s_istore3 hX dX10_closesYear_26 (by first | exact trivial | exact rfl) (Nat.le_of_ble_eq_true rfl) ?_
      refine s_aload_n hX dX10_closesYear_27 rfl ?_
      refine s_sipush (v := 1801) hX dX10_closesYear_28 ks_1801 ?_
      refine s_bipush (v := 16) hX dX10_closesYear_31 kb_16 ?_
      refine s_iload_n hX dX10_closesYear_33 rfl ?_
      refine s_imul hX dX10_closesYear_34 ?_
      refine s_iadd hX dX10_closesYear_35 ?_
      refine s_iload_n hX dX10_closesYear_36 rfl ?_
      refine s_iadd hX dX10_closesYear_37 ?_
      refine s_iload_n hX dX10_closesYear_38 rfl ?_
      refine s_callVu (ck1 := 0) (sk1 := 0) (ci := 8) hX dX10_closesYear_39 k_X10_lay q_1274 (c_X10_lay n M10 a0 ((1801 + (16 * v4)) + r1) r9) (by decide) rfl rfl rfl ⟨Nat.le_of_ble_eq_true rfl, Nat.le_of_ble_eq_true rfl⟩ ⟨(Nat.le_of_ble_eq_true rfl), (Nat.le_of_ble_eq_true rfl)⟩ (Nat.le_of_ble_eq_true rfl) rfl rfl (fun r11 M12 => ?_)
      refine s_aload_n hX dX10_closesYear_42 rfl ?_
      refine s_iload_n hX dX10_closesYear_43 rfl ?_
      refine s_iconst (v := 1) hX dX10_closesYear_44 kc_1 ?_
      refine s_aload_n hX dX10_closesYear_45 rfl ?_
      refine s_iload_n hX dX10_closesYear_46 rfl ?_
      refine s_aload_n hX dX10_closesYear_47 rfl ?_
      refine s_getO hX dX10_closesYear_48 q_1323 rfl (fun j13 => ?_)
      refine s_iconst (v := 2) hX dX10_closesYear_51 kc_2 ?_
      refine s_iald hX dX10_closesYear_52 (fun v14 => ?_)
      refine s_callVi (ck1 := 0) (sk1 := 0) (ci := 8) hX dX10_closesYear_53 k_X10_back1 q_1617 (c_X10_back1 n M12 a0 r9 v14) (by decide) rfl rfl rfl ⟨Nat.le_of_ble_eq_true rfl, Nat.le_of_ble_eq_true rfl⟩ ⟨(Nat.le_of_ble_eq_true rfl), (Nat.le_of_ble_eq_true rfl)⟩ (Nat.le_of_ble_eq_true rfl) rfl rfl (fun r15 M16 => ?_)
      refine s_aload_n hX dX10_closesYear_56 rfl ?_
      refine s_iload_n hX dX10_closesYear_57 rfl ?_
      refine s_iload_n hX dX10_closesYear_58 rfl ?_
      refine s_callVi (ck1 := 0) (sk1 := 0) (ci := 8) hX dX10_closesYear_59 k_X10_bookedIn q_1637 (c_X10_bookedIn n M16 a0 v4 r1) (by decide) rfl rfl rfl ⟨Nat.le_of_ble_eq_true rfl, Nat.le_of_ble_eq_true rfl⟩ ⟨(Nat.le_of_ble_eq_true rfl), (Nat.le_of_ble_eq_true rfl)⟩ (Nat.le_of_ble_eq_true rfl) rfl rfl (fun r17 M18 => ?_)
      refine s_isub hX dX10_closesYear_62 ?_
      refine s_bipush (v := (-2)) hX dX10_closesYear_63 kb_m2 ?_
      refine s_callVu (ck1 := 0) (sk1 := 0) (ci := 8) hX dX10_closesYear_65 k_X10_books q_1625 (c_X10_books n M18 a0 v4 1 (r15 - r17) ((-2))) (by decide) rfl rfl rfl ⟨Nat.le_of_ble_eq_true rfl, Nat.le_of_ble_eq_true rfl⟩ ⟨(Nat.le_of_ble_eq_true rfl), (Nat.le_of_ble_eq_true rfl)⟩ (Nat.le_of_ble_eq_true rfl) rfl rfl (fun r19 M20 => ?_)
      refine s_iinc2 (v := v4 + 1) hX dX10_closesYear_68 rfl (by first | exact trivial | exact rfl) (Nat.le_of_ble_eq_true rfl) ?_
      refine s_goto (tgt := 7) hX dX10_closesYear_71 rfl ?_
      refine s_forget (loc1 := [some (.ref a0), some (.int r1), some (.int (v4 + 1)), none]) ⟨rfl, rfl, rfl, trivial⟩ ?_
      exact s_back hB5
  · obtain ⟨M21, v22⟩ := s
    dsimp only
    refine s_iconst (v := 0) hX dX10_closesYear_74 kc_0 ?_
    refine s_istore2 hX dX10_closesYear_75 (by first | exact trivial | exact rfl) (Nat.le_of_ble_eq_true rfl) ?_
    refine s_loopE (stk := []) (fun (s : MemT × Int32) => [some (.ref a0), some (.int r1), some (.int s.2), none]) (fun (s : MemT × Int32) => s.1) 99 (fun (s : MemT × Int32) => [some (.ref a0), some (.int r1), some (.int s.2), none]) (fun s B25 hB25 hE25 => ?_) (fun s => ?_) n (M21, 0)
    · obtain ⟨M23, v24⟩ := s
      dsimp only
      refine s_iload_n hX dX10_closesYear_76 rfl ?_
      refine s_aload_n hX dX10_closesYear_77 rfl ?_
      refine s_sipush (v := 1865) hX dX10_closesYear_78 ks_1865 ?_
      refine s_callVi (ck1 := 0) (sk1 := 0) (ci := 8) hX dX10_closesYear_81 k_X10_of q_1286 (c_X10_of n M23 a0 1865) (by decide) rfl rfl rfl ⟨Nat.le_of_ble_eq_true rfl, Nat.le_of_ble_eq_true rfl⟩ ⟨(Nat.le_of_ble_eq_true rfl), (Nat.le_of_ble_eq_true rfl)⟩ (Nat.le_of_ble_eq_true rfl) rfl rfl (fun r26 M27 => ?_)
      refine s_icge (tgt := 99) hX dX10_closesYear_84 rfl ?_ ?_
      · exact s_exit hE25
      · refine s_aload_n hX dX10_closesYear_87 rfl ?_
        refine s_iload_n hX dX10_closesYear_88 rfl ?_
        refine s_iload_n hX dX10_closesYear_89 rfl ?_
        refine s_callVu (ck1 := 0) (sk1 := 0) (ci := 8) hX dX10_closesYear_90 k_X10_closesAsset q_1641 (c_X10_closesAsset n M27 a0 v24 r1) (by decide) rfl rfl rfl ⟨Nat.le_of_ble_eq_true rfl, Nat.le_of_ble_eq_true rfl⟩ ⟨(Nat.le_of_ble_eq_true rfl), (Nat.le_of_ble_eq_true rfl)⟩ (Nat.le_of_ble_eq_true rfl) rfl rfl (fun r28 M29 => ?_)
        refine s_iinc2 (v := v24 + 1) hX dX10_closesYear_93 rfl (by first | exact trivial | exact rfl) (Nat.le_of_ble_eq_true rfl) ?_
        refine s_goto (tgt := 76) hX dX10_closesYear_96 rfl ?_
        exact s_back hB25
    · obtain ⟨M30, v31⟩ := s
      dsimp only
      exact s_vret hX hR dX10_closesYear_99 (Nat.le_of_ble_eq_true rfl) (Nat.le_of_ble_eq_true rfl)
abbrev rm_X10_closesQuarter : Room := { frames := 8, cells := 0, slots := 0, locals := 199 }
theorem k_X10_closesQuarter : KYV yX10_closesQuarter cX10_closesQuarter 5 none 0 := ⟨⟨q_1577, q_9, by decide +kernel, by decide +kernel, by decide +kernel⟩, q_1576, p_77⟩
set_option maxHeartbeats 4000000 in
set_option maxRecDepth 100000 in
theorem c_X10_closesQuarter (n : Nat) (M0 : MemT) (a0 : Nat) : Ct iU yX10_closesQuarter cX10_closesQuarter 5 none rm_X10_closesQuarter [.ref a0] M0 (g_X10_closesQuarter n M0 a0) := by
  unfold g_X10_closesQuarter
  refine ct_intro RX10 4 [some (.ref a0), none, none, none, none] rfl (by decide +kernel) rfl (Nat.le_of_ble_eq_true rfl) (fun X A hX hnm hR => ?_)
  refine s_aload_n hX dX10_closesQuarter_0 rfl ?_
  refine s_iconst (v := 0) hX dX10_closesQuarter_1 kc_0 ?_
  refine s_callVi (ck1 := 0) (sk1 := 0) (ci := 8) hX dX10_closesQuarter_2 k_X10_of q_1286 (c_X10_of n M0 a0 0) (by decide) rfl rfl rfl ⟨Nat.le_of_ble_eq_true rfl, Nat.le_of_ble_eq_true rfl⟩ ⟨(Nat.le_of_ble_eq_true rfl), (Nat.le_of_ble_eq_true rfl)⟩ (Nat.le_of_ble_eq_true rfl) rfl rfl (fun r1 M2 => ?_)
  refine s_istore1 hX dX10_closesQuarter_5 (by first | exact trivial | exact rfl) (Nat.le_of_ble_eq_true rfl) ?_
  refine s_iconst (v := 0) hX dX10_closesQuarter_6 kc_0 ?_
  refine s_istore2 hX dX10_closesQuarter_7 (by first | exact trivial | exact rfl) (Nat.le_of_ble_eq_true rfl) ?_
  refine s_loopE (stk := []) (fun (s : MemT × Int32) => [some (.ref a0), some (.int r1), some (.int s.2), none, none]) (fun (s : MemT × Int32) => s.1) 91 (fun (s : MemT × Int32) => [some (.ref a0), some (.int r1), some (.int s.2), none, none]) (fun s B5 hB5 hE5 => ?_) (fun s => ?_) n (M2, 0)
  · obtain ⟨M3, v4⟩ := s
    dsimp only
    refine s_iload_n hX dX10_closesQuarter_8 rfl ?_
    refine s_aload_n hX dX10_closesQuarter_9 rfl ?_
    refine s_getI hX dX10_closesQuarter_10 q_1317 rfl (fun v6 => ?_)
    refine s_icge (tgt := 91) hX dX10_closesQuarter_13 rfl ?_ ?_
    · exact s_exit hE5
    · refine s_aload_n hX dX10_closesQuarter_16 rfl ?_
      refine s_iload_n hX dX10_closesQuarter_17 rfl ?_
      refine s_iload_n hX dX10_closesQuarter_18 rfl ?_
      refine s_aload_n hX dX10_closesQuarter_19 rfl ?_
      refine s_iload_n hX dX10_closesQuarter_20 rfl ?_
      refine s_iconst (v := 2) hX dX10_closesQuarter_21 kc_2 ?_
      refine s_callVi (ck1 := 0) (sk1 := 0) (ci := 8) hX dX10_closesQuarter_22 k_X10_told1 q_1278 (c_X10_told1 n M3 a0 v4 2) (by decide) rfl rfl rfl ⟨Nat.le_of_ble_eq_true rfl, Nat.le_of_ble_eq_true rfl⟩ ⟨(Nat.le_of_ble_eq_true rfl), (Nat.le_of_ble_eq_true rfl)⟩ (Nat.le_of_ble_eq_true rfl) rfl rfl (fun r7 M8 => ?_)
      refine s_callVi (ck1 := 0) (sk1 := 0) (ci := 8) hX dX10_closesQuarter_25 k_X10_provisionalBy q_1578 (c_X10_provisionalBy n M8 a0 v4 r1 r7) (by decide) rfl rfl rfl ⟨Nat.le_of_ble_eq_true rfl, Nat.le_of_ble_eq_true rfl⟩ ⟨(Nat.le_of_ble_eq_true rfl), (Nat.le_of_ble_eq_true rfl)⟩ (Nat.le_of_ble_eq_true rfl) rfl rfl (fun r9 M10 => ?_)
      refine s_istore3 hX dX10_closesQuarter_28 (by first | exact trivial | exact rfl) (Nat.le_of_ble_eq_true rfl) ?_
      refine s_aload_n hX dX10_closesQuarter_29 rfl ?_
      refine s_iload_n hX dX10_closesQuarter_30 rfl ?_
      refine s_aload_n hX dX10_closesQuarter_31 rfl ?_
      refine s_getO hX dX10_closesQuarter_32 q_1323 rfl (fun j11 => ?_)
      refine s_iconst (v := 2) hX dX10_closesQuarter_35 kc_2 ?_
      refine s_iald hX dX10_closesQuarter_36 (fun v12 => ?_)
      refine s_iconst (v := 4) hX dX10_closesQuarter_37 kc_4 ?_
      refine s_idiv hX dX10_closesQuarter_38 ?_
      refine s_callVi (ck1 := 0) (sk1 := 0) (ci := 8) hX dX10_closesQuarter_39 k_X10_back1 q_1617 (c_X10_back1 n M10 a0 r9 (v12 / 4)) (by decide) rfl rfl rfl ⟨Nat.le_of_ble_eq_true rfl, Nat.le_of_ble_eq_true rfl⟩ ⟨(Nat.le_of_ble_eq_true rfl), (Nat.le_of_ble_eq_true rfl)⟩ (Nat.le_of_ble_eq_true rfl) rfl rfl (fun r13 M14 => ?_)
      refine s_istore4 hX dX10_closesQuarter_42 (by first | exact trivial | exact rfl) (Nat.le_of_ble_eq_true rfl) ?_
      refine s_aload_n hX dX10_closesQuarter_44 rfl ?_
      refine s_sipush (v := 1289) hX dX10_closesQuarter_45 ks_1289 ?_
      refine s_bipush (v := 64) hX dX10_closesQuarter_48 kb_64 ?_
      refine s_iload_n hX dX10_closesQuarter_50 rfl ?_
      refine s_imul hX dX10_closesQuarter_51 ?_
      refine s_iadd hX dX10_closesQuarter_52 ?_
      refine s_iload_n hX dX10_closesQuarter_53 rfl ?_
      refine s_iadd hX dX10_closesQuarter_54 ?_
      refine s_iload_n hX dX10_closesQuarter_55 rfl ?_
      refine s_callVu (ck1 := 0) (sk1 := 0) (ci := 8) hX dX10_closesQuarter_56 k_X10_lay q_1274 (c_X10_lay n M14 a0 ((1289 + (64 * v4)) + r1) r9) (by decide) rfl rfl rfl ⟨Nat.le_of_ble_eq_true rfl, Nat.le_of_ble_eq_true rfl⟩ ⟨(Nat.le_of_ble_eq_true rfl), (Nat.le_of_ble_eq_true rfl)⟩ (Nat.le_of_ble_eq_true rfl) rfl rfl (fun r15 M16 => ?_)
      refine s_aload_n hX dX10_closesQuarter_59 rfl ?_
      refine s_sipush (v := 1545) hX dX10_closesQuarter_60 ks_1545 ?_
      refine s_bipush (v := 64) hX dX10_closesQuarter_63 kb_64 ?_
      refine s_iload_n hX dX10_closesQuarter_65 rfl ?_
      refine s_imul hX dX10_closesQuarter_66 ?_
      refine s_iadd hX dX10_closesQuarter_67 ?_
      refine s_iload_n hX dX10_closesQuarter_68 rfl ?_
      refine s_iadd hX dX10_closesQuarter_69 ?_
      refine s_iload hX dX10_closesQuarter_70 rfl ?_
      refine s_callVu (ck1 := 0) (sk1 := 0) (ci := 8) hX dX10_closesQuarter_72 k_X10_lay q_1274 (c_X10_lay n M16 a0 ((1545 + (64 * v4)) + r1) r13) (by decide) rfl rfl rfl ⟨Nat.le_of_ble_eq_true rfl, Nat.le_of_ble_eq_true rfl⟩ ⟨(Nat.le_of_ble_eq_true rfl), (Nat.le_of_ble_eq_true rfl)⟩ (Nat.le_of_ble_eq_true rfl) rfl rfl (fun r17 M18 => ?_)
      refine s_aload_n hX dX10_closesQuarter_75 rfl ?_
      refine s_iload_n hX dX10_closesQuarter_76 rfl ?_
      refine s_iconst (v := 0) hX dX10_closesQuarter_77 kc_0 ?_
      refine s_iload hX dX10_closesQuarter_78 rfl ?_
      refine s_bipush (v := (-2)) hX dX10_closesQuarter_80 kb_m2 ?_
      refine s_callVu (ck1 := 0) (sk1 := 0) (ci := 8) hX dX10_closesQuarter_82 k_X10_books q_1625 (c_X10_books n M18 a0 v4 0 r13 ((-2))) (by decide) rfl rfl rfl ⟨Nat.le_of_ble_eq_true rfl, Nat.le_of_ble_eq_true rfl⟩ ⟨(Nat.le_of_ble_eq_true rfl), (Nat.le_of_ble_eq_true rfl)⟩ (Nat.le_of_ble_eq_true rfl) rfl rfl (fun r19 M20 => ?_)
      refine s_iinc2 (v := v4 + 1) hX dX10_closesQuarter_85 rfl (by first | exact trivial | exact rfl) (Nat.le_of_ble_eq_true rfl) ?_
      refine s_goto (tgt := 8) hX dX10_closesQuarter_88 rfl ?_
      refine s_forget (loc1 := [some (.ref a0), some (.int r1), some (.int (v4 + 1)), none, none]) ⟨rfl, rfl, rfl, trivial⟩ ?_
      exact s_back hB5
  · obtain ⟨M21, v22⟩ := s
    dsimp only
    refine s_iconst (v := 0) hX dX10_closesQuarter_91 kc_0 ?_
    refine s_istore2 hX dX10_closesQuarter_92 (by first | exact trivial | exact rfl) (Nat.le_of_ble_eq_true rfl) ?_
    refine s_loopE (stk := []) (fun (s : MemT × Int32) => [some (.ref a0), some (.int r1), some (.int s.2), none, none]) (fun (s : MemT × Int32) => s.1) 127 (fun (s : MemT × Int32) => [some (.ref a0), some (.int r1), some (.int s.2), none, none]) (fun s B25 hB25 hE25 => ?_) (fun s => ?_) n (M21, 0)
    · obtain ⟨M23, v24⟩ := s
      dsimp only
      refine s_iload_n hX dX10_closesQuarter_93 rfl ?_
      refine s_aload_n hX dX10_closesQuarter_94 rfl ?_
      refine s_sipush (v := 1865) hX dX10_closesQuarter_95 ks_1865 ?_
      refine s_callVi (ck1 := 0) (sk1 := 0) (ci := 8) hX dX10_closesQuarter_98 k_X10_of q_1286 (c_X10_of n M23 a0 1865) (by decide) rfl rfl rfl ⟨Nat.le_of_ble_eq_true rfl, Nat.le_of_ble_eq_true rfl⟩ ⟨(Nat.le_of_ble_eq_true rfl), (Nat.le_of_ble_eq_true rfl)⟩ (Nat.le_of_ble_eq_true rfl) rfl rfl (fun r26 M27 => ?_)
      refine s_icge (tgt := 127) hX dX10_closesQuarter_101 rfl ?_ ?_
      · exact s_exit hE25
      · refine s_aload_n hX dX10_closesQuarter_104 rfl ?_
        refine s_iload_n hX dX10_closesQuarter_105 rfl ?_
        refine s_bipush (v := 13) hX dX10_closesQuarter_106 kb_13 ?_
        refine s_iload_n hX dX10_closesQuarter_108 rfl ?_
        refine s_iconst (v := 4) hX dX10_closesQuarter_109 kc_4 ?_
        refine s_irem hX dX10_closesQuarter_110 ?_
        refine s_iadd hX dX10_closesQuarter_111 ?_
        refine s_aload_n hX dX10_closesQuarter_112 rfl ?_
        refine s_iload_n hX dX10_closesQuarter_113 rfl ?_
        refine s_iconst (v := 2) hX dX10_closesQuarter_114 kc_2 ?_
        refine s_callVi (ck1 := 0) (sk1 := 0) (ci := 8) hX dX10_closesQuarter_115 k_X10_at q_1550 (c_X10_at n M27 a0 v24 2) (by decide) rfl rfl rfl ⟨Nat.le_of_ble_eq_true rfl, Nat.le_of_ble_eq_true rfl⟩ ⟨(Nat.le_of_ble_eq_true rfl), (Nat.le_of_ble_eq_true rfl)⟩ (Nat.le_of_ble_eq_true rfl) rfl rfl (fun r28 M29 => ?_)
        refine s_callVu (ck1 := 0) (sk1 := 0) (ci := 8) hX dX10_closesQuarter_118 k_X10_put q_1302 (c_X10_put n M29 a0 v24 (13 + (r1 - r1 / 4 * 4)) r28) (by decide) rfl rfl rfl ⟨Nat.le_of_ble_eq_true rfl, Nat.le_of_ble_eq_true rfl⟩ ⟨(Nat.le_of_ble_eq_true rfl), (Nat.le_of_ble_eq_true rfl)⟩ (Nat.le_of_ble_eq_true rfl) rfl rfl (fun r30 M31 => ?_)
        refine s_iinc2 (v := v24 + 1) hX dX10_closesQuarter_121 rfl (by first | exact trivial | exact rfl) (Nat.le_of_ble_eq_true rfl) ?_
        refine s_goto (tgt := 93) hX dX10_closesQuarter_124 rfl ?_
        exact s_back hB25
    · obtain ⟨M32, v33⟩ := s
      dsimp only
      refine s_iload_n hX dX10_closesQuarter_127 rfl ?_
      refine s_iconst (v := 4) hX dX10_closesQuarter_128 kc_4 ?_
      refine s_irem hX dX10_closesQuarter_129 ?_
      refine s_iconst (v := 3) hX dX10_closesQuarter_130 kc_3 ?_
      refine s_jp (fun (s : MemT) => [some (.ref a0), some (.int r1), some (.int v33), none, none]) (fun (s : MemT) => []) (fun (s : MemT) => s) 0 0 138 (fun s => ?_) (fun K34 hK34 => ?_)
      · revert s
        intro M35
        try dsimp only
        refine s_aload_n hX dX10_closesQuarter_138 rfl ?_
        refine s_iconst (v := 0) hX dX10_closesQuarter_139 kc_0 ?_
        refine s_iload_n hX dX10_closesQuarter_140 rfl ?_
        refine s_iconst (v := 1) hX dX10_closesQuarter_141 kc_1 ?_
        refine s_iadd hX dX10_closesQuarter_142 ?_
        refine s_callVu (ck1 := 0) (sk1 := 0) (ci := 8) hX dX10_closesQuarter_143 k_X10_lay q_1274 (c_X10_lay n M35 a0 0 (r1 + 1)) (by decide) rfl rfl rfl ⟨Nat.le_of_ble_eq_true rfl, Nat.le_of_ble_eq_true rfl⟩ ⟨(Nat.le_of_ble_eq_true rfl), (Nat.le_of_ble_eq_true rfl)⟩ (Nat.le_of_ble_eq_true rfl) rfl rfl (fun r36 M37 => ?_)
        refine s_aload_n hX dX10_closesQuarter_146 rfl ?_
        refine s_callVu (ck1 := 0) (sk1 := 0) (ci := 8) hX dX10_closesQuarter_147 k_X10_comesNow q_1282 (c_X10_comesNow n M37 a0) (by decide) rfl rfl rfl ⟨Nat.le_of_ble_eq_true rfl, Nat.le_of_ble_eq_true rfl⟩ ⟨(Nat.le_of_ble_eq_true rfl), (Nat.le_of_ble_eq_true rfl)⟩ (Nat.le_of_ble_eq_true rfl) rfl rfl (fun r38 M39 => ?_)
        exact s_vret hX hR dX10_closesQuarter_150 (Nat.le_of_ble_eq_true rfl) (Nat.le_of_ble_eq_true rfl)
      · refine s_icne (tgt := 138) hX dX10_closesQuarter_131 rfl ?_ ?_
        · refine s_aload_n hX dX10_closesQuarter_134 rfl ?_
          refine s_callVu (ck1 := 0) (sk1 := 0) (ci := 8) hX dX10_closesQuarter_135 k_X10_closesYear q_1629 (c_X10_closesYear n M32 a0) (by decide) rfl rfl rfl ⟨Nat.le_of_ble_eq_true rfl, Nat.le_of_ble_eq_true rfl⟩ ⟨(Nat.le_of_ble_eq_true rfl), (Nat.le_of_ble_eq_true rfl)⟩ (Nat.le_of_ble_eq_true rfl) rfl rfl (fun r40 M41 => ?_)
          exact hK34 _
        · exact hK34 _
abbrev rm_X10_isQuarter : Room := { frames := 0, cells := 0, slots := 0, locals := 0 }
theorem k_X10_isQuarter : KYV yX10_isQuarter cX10_isQuarter 2 (some .boolean) 1 := ⟨⟨q_1697, q_9, by decide +kernel, by decide +kernel, by decide +kernel⟩, q_1696, p_102⟩
set_option maxHeartbeats 4000000 in
set_option maxRecDepth 100000 in
theorem c_X10_isQuarter (n : Nat) (M0 : MemT) (a0 : Nat) (a1 : Int32) : Ct iI yX10_isQuarter cX10_isQuarter 2 (some .boolean) rm_X10_isQuarter [.ref a0, .int a1] M0 (g_X10_isQuarter n M0 a0 a1) := by
  unfold g_X10_isQuarter
  refine ct_intro RX10 0 [some (.ref a0), some (.int a1)] rfl (by decide +kernel) rfl (Nat.le_of_ble_eq_true rfl) (fun X A hX hnm hR => ?_)
  refine s_iload_n hX dX10_isQuarter_0 rfl ?_
  refine s_iflt (tgt := 14) hX dX10_isQuarter_1 rfl ?_ ?_
  · refine s_iconst (v := 0) hX dX10_isQuarter_14 kc_0 ?_
    exact s_zret hX hR dX10_isQuarter_15 (Nat.le_of_ble_eq_true rfl) (Nat.le_of_ble_eq_true rfl)
  · refine s_iload_n hX dX10_isQuarter_4 rfl ?_
    refine s_bipush (v := 64) hX dX10_isQuarter_5 kb_64 ?_
    refine s_icge (tgt := 14) hX dX10_isQuarter_7 rfl ?_ ?_
    · refine s_iconst (v := 0) hX dX10_isQuarter_14 kc_0 ?_
      exact s_zret hX hR dX10_isQuarter_15 (Nat.le_of_ble_eq_true rfl) (Nat.le_of_ble_eq_true rfl)
    · refine s_iconst (v := 1) hX dX10_isQuarter_10 kc_1 ?_
      refine s_goto (tgt := 15) hX dX10_isQuarter_11 rfl ?_
      exact s_zret hX hR dX10_isQuarter_15 (Nat.le_of_ble_eq_true rfl) (Nat.le_of_ble_eq_true rfl)
abbrev rm_X10_sale : Room := { frames := 2, cells := 0, slots := 0, locals := 44 }
theorem k_X10_sale : KYV yX10_sale cX10_sale 4 (some .int) 3 := ⟨⟨q_1509, q_9, by decide +kernel, by decide +kernel, by decide +kernel⟩, q_1507, q_1508⟩
set_option maxHeartbeats 4000000 in
set_option maxRecDepth 100000 in
theorem c_X10_sale (n : Nat) (M0 : MemT) (a0 : Nat) (a1 : Int32) (a2 : Int32) (a3 : Int32) : Ct iI yX10_sale cX10_sale 4 (some .int) rm_X10_sale [.ref a0, .int a1, .int a2, .int a3] M0 (g_X10_sale n M0 a0 a1 a2 a3) := by
  unfold g_X10_sale
  refine ct_intro RX10 0 [some (.ref a0), some (.int a1), some (.int a2), some (.int a3)] rfl (by decide +kernel) rfl (Nat.le_of_ble_eq_true rfl) (fun X A hX hnm hR => ?_)
  refine s_aload_n hX dX10_sale_0 rfl ?_
  refine s_iconst (v := 0) hX dX10_sale_1 kc_0 ?_
  refine s_putI hX dX10_sale_2 q_1308 rfl rfl (fun M1 => ?_)
  refine s_aload_n hX dX10_sale_5 rfl ?_
  refine s_iload_n hX dX10_sale_6 rfl ?_
  refine s_callVi (ck1 := 0) (sk1 := 0) (ci := 8) hX dX10_sale_7 k_X10_isTrader q_1510 (c_X10_isTrader n M1 a0 a1) (by decide) rfl rfl rfl ⟨Nat.le_of_ble_eq_true rfl, Nat.le_of_ble_eq_true rfl⟩ ⟨(Nat.le_of_ble_eq_true rfl), (Nat.le_of_ble_eq_true rfl)⟩ (Nat.le_of_ble_eq_true rfl) rfl rfl (fun r2 M3 => ?_)
  refine s_ifeq (tgt := 32) hX dX10_sale_10 rfl ?_ ?_
  · refine s_iconst (v := (-1)) hX dX10_sale_32 kc_m1 ?_
    exact s_iret hX hR dX10_sale_33 (Nat.le_of_ble_eq_true rfl) (Nat.le_of_ble_eq_true rfl)
  · refine s_iload_n hX dX10_sale_13 rfl ?_
    refine s_iconst (v := 0) hX dX10_sale_14 kc_0 ?_
    refine s_iconst (v := 1) hX dX10_sale_15 kc_1 ?_
    refine s_callSi (ck1 := 0) (sk1 := 0) hX dX10_sale_16 k_X10_isIn q_1447 (c_X10_isIn n M3 a2 0 1) rfl rfl ⟨Nat.le_of_ble_eq_true rfl, Nat.le_of_ble_eq_true rfl⟩ ⟨(Nat.le_of_ble_eq_true rfl), (Nat.le_of_ble_eq_true rfl)⟩ (Nat.le_of_ble_eq_true rfl) rfl rfl (fun r4 M5 => ?_)
    refine s_ifeq (tgt := 32) hX dX10_sale_19 rfl ?_ ?_
    · refine s_iconst (v := (-1)) hX dX10_sale_32 kc_m1 ?_
      exact s_iret hX hR dX10_sale_33 (Nat.le_of_ble_eq_true rfl) (Nat.le_of_ble_eq_true rfl)
    · refine s_iload_n hX dX10_sale_22 rfl ?_
      refine s_iconst (v := 1) hX dX10_sale_23 kc_1 ?_
      refine s_ldc hX dX10_sale_24 q_1426 ?_
      refine s_callSi (ck1 := 0) (sk1 := 0) hX dX10_sale_26 k_X10_isIn q_1447 (c_X10_isIn n M5 a3 1 99999) rfl rfl ⟨Nat.le_of_ble_eq_true rfl, Nat.le_of_ble_eq_true rfl⟩ ⟨(Nat.le_of_ble_eq_true rfl), (Nat.le_of_ble_eq_true rfl)⟩ (Nat.le_of_ble_eq_true rfl) rfl rfl (fun r6 M7 => ?_)
      refine s_ifne (tgt := 34) hX dX10_sale_29 rfl ?_ ?_
      · refine s_iconst (v := (-1)) hX dX10_sale_32 kc_m1 ?_
        exact s_iret hX hR dX10_sale_33 (Nat.le_of_ble_eq_true rfl) (Nat.le_of_ble_eq_true rfl)
      · refine s_aload_n hX dX10_sale_34 rfl ?_
        refine s_callVu (ck1 := 0) (sk1 := 0) (ci := 8) hX dX10_sale_35 k_X10_canUndo q_1514 (c_X10_canUndo n M7 a0) (by decide) rfl rfl rfl ⟨Nat.le_of_ble_eq_true rfl, Nat.le_of_ble_eq_true rfl⟩ ⟨(Nat.le_of_ble_eq_true rfl), (Nat.le_of_ble_eq_true rfl)⟩ (Nat.le_of_ble_eq_true rfl) rfl rfl (fun r8 M9 => ?_)
        refine s_aload_n hX dX10_sale_38 rfl ?_
        refine s_aload_n hX dX10_sale_39 rfl ?_
        refine s_iload_n hX dX10_sale_40 rfl ?_
        refine s_aload_n hX dX10_sale_41 rfl ?_
        refine s_iconst (v := 0) hX dX10_sale_42 kc_0 ?_
        refine s_callVi (ck1 := 0) (sk1 := 0) (ci := 8) hX dX10_sale_43 k_X10_of q_1286 (c_X10_of n M9 a0 0) (by decide) rfl rfl rfl ⟨Nat.le_of_ble_eq_true rfl, Nat.le_of_ble_eq_true rfl⟩ ⟨(Nat.le_of_ble_eq_true rfl), (Nat.le_of_ble_eq_true rfl)⟩ (Nat.le_of_ble_eq_true rfl) rfl rfl (fun r10 M11 => ?_)
        refine s_iload_n hX dX10_sale_46 rfl ?_
        refine s_callVi (ck1 := 0) (sk1 := 0) (ci := 8) hX dX10_sale_47 k_X10_sumAt q_1290 (c_X10_sumAt n M11 a0 a1 r10 a2) (by decide) rfl rfl rfl ⟨Nat.le_of_ble_eq_true rfl, Nat.le_of_ble_eq_true rfl⟩ ⟨(Nat.le_of_ble_eq_true rfl), (Nat.le_of_ble_eq_true rfl)⟩ (Nat.le_of_ble_eq_true rfl) rfl rfl (fun r12 M13 => ?_)
        refine s_iload_n hX dX10_sale_50 rfl ?_
        refine s_callVu (ck1 := 0) (sk1 := 0) (ci := 8) hX dX10_sale_51 k_X10_add q_1294 (c_X10_add n M13 a0 r12 a3) (by decide) rfl rfl rfl ⟨Nat.le_of_ble_eq_true rfl, Nat.le_of_ble_eq_true rfl⟩ ⟨(Nat.le_of_ble_eq_true rfl), (Nat.le_of_ble_eq_true rfl)⟩ (Nat.le_of_ble_eq_true rfl) rfl rfl (fun r14 M15 => ?_)
        refine s_aload_n hX dX10_sale_54 rfl ?_
        refine s_aload_n hX dX10_sale_55 rfl ?_
        refine s_iload_n hX dX10_sale_56 rfl ?_
        refine s_aload_n hX dX10_sale_57 rfl ?_
        refine s_iconst (v := 0) hX dX10_sale_58 kc_0 ?_
        refine s_callVi (ck1 := 0) (sk1 := 0) (ci := 8) hX dX10_sale_59 k_X10_of q_1286 (c_X10_of n M15 a0 0) (by decide) rfl rfl rfl ⟨Nat.le_of_ble_eq_true rfl, Nat.le_of_ble_eq_true rfl⟩ ⟨(Nat.le_of_ble_eq_true rfl), (Nat.le_of_ble_eq_true rfl)⟩ (Nat.le_of_ble_eq_true rfl) rfl rfl (fun r16 M17 => ?_)
        refine s_iload_n hX dX10_sale_62 rfl ?_
        refine s_callVi (ck1 := 0) (sk1 := 0) (ci := 8) hX dX10_sale_63 k_X10_sumAt q_1290 (c_X10_sumAt n M17 a0 a1 r16 a2) (by decide) rfl rfl rfl ⟨Nat.le_of_ble_eq_true rfl, Nat.le_of_ble_eq_true rfl⟩ ⟨(Nat.le_of_ble_eq_true rfl), (Nat.le_of_ble_eq_true rfl)⟩ (Nat.le_of_ble_eq_true rfl) rfl rfl (fun r18 M19 => ?_)
        refine s_callVi (ck1 := 0) (sk1 := 0) (ci := 8) hX dX10_sale_66 k_X10_of q_1286 (c_X10_of n M19 a0 r18) (by decide) rfl rfl rfl ⟨Nat.le_of_ble_eq_true rfl, Nat.le_of_ble_eq_true rfl⟩ ⟨(Nat.le_of_ble_eq_true rfl), (Nat.le_of_ble_eq_true rfl)⟩ (Nat.le_of_ble_eq_true rfl) rfl rfl (fun r20 M21 => ?_)
        exact s_iret hX hR dX10_sale_69 (Nat.le_of_ble_eq_true rfl) (Nat.le_of_ble_eq_true rfl)
abbrev rm_X10_buy : Room := { frames := 2, cells := 0, slots := 0, locals := 44 }
theorem k_X10_buy : KYV yX10_buy cX10_buy 4 (some .int) 3 := ⟨⟨q_1521, q_9, by decide +kernel, by decide +kernel, by decide +kernel⟩, q_1519, q_1520⟩
set_option maxHeartbeats 4000000 in
set_option maxRecDepth 100000 in
theorem c_X10_buy (n : Nat) (M0 : MemT) (a0 : Nat) (a1 : Int32) (a2 : Int32) (a3 : Int32) : Ct iI yX10_buy cX10_buy 4 (some .int) rm_X10_buy [.ref a0, .int a1, .int a2, .int a3] M0 (g_X10_buy n M0 a0 a1 a2 a3) := by
  unfold g_X10_buy
  refine ct_intro RX10 0 [some (.ref a0), some (.int a1), some (.int a2), some (.int a3)] rfl (by decide +kernel) rfl (Nat.le_of_ble_eq_true rfl) (fun X A hX hnm hR => ?_)
  refine s_aload_n hX dX10_buy_0 rfl ?_
  refine s_iconst (v := 0) hX dX10_buy_1 kc_0 ?_
  refine s_putI hX dX10_buy_2 q_1308 rfl rfl (fun M1 => ?_)
  refine s_aload_n hX dX10_buy_5 rfl ?_
  refine s_iload_n hX dX10_buy_6 rfl ?_
  refine s_callVi (ck1 := 0) (sk1 := 0) (ci := 8) hX dX10_buy_7 k_X10_isTrader q_1510 (c_X10_isTrader n M1 a0 a1) (by decide) rfl rfl rfl ⟨Nat.le_of_ble_eq_true rfl, Nat.le_of_ble_eq_true rfl⟩ ⟨(Nat.le_of_ble_eq_true rfl), (Nat.le_of_ble_eq_true rfl)⟩ (Nat.le_of_ble_eq_true rfl) rfl rfl (fun r2 M3 => ?_)
  refine s_ifeq (tgt := 33) hX dX10_buy_10 rfl ?_ ?_
  · refine s_iconst (v := (-1)) hX dX10_buy_33 kc_m1 ?_
    exact s_iret hX hR dX10_buy_34 (Nat.le_of_ble_eq_true rfl) (Nat.le_of_ble_eq_true rfl)
  · refine s_iload_n hX dX10_buy_13 rfl ?_
    refine s_iconst (v := 0) hX dX10_buy_14 kc_0 ?_
    refine s_iconst (v := 2) hX dX10_buy_15 kc_2 ?_
    refine s_callSi (ck1 := 0) (sk1 := 0) hX dX10_buy_16 k_X10_isIn q_1447 (c_X10_isIn n M3 a2 0 2) rfl rfl ⟨Nat.le_of_ble_eq_true rfl, Nat.le_of_ble_eq_true rfl⟩ ⟨(Nat.le_of_ble_eq_true rfl), (Nat.le_of_ble_eq_true rfl)⟩ (Nat.le_of_ble_eq_true rfl) rfl rfl (fun r4 M5 => ?_)
    refine s_ifeq (tgt := 33) hX dX10_buy_19 rfl ?_ ?_
    · refine s_iconst (v := (-1)) hX dX10_buy_33 kc_m1 ?_
      exact s_iret hX hR dX10_buy_34 (Nat.le_of_ble_eq_true rfl) (Nat.le_of_ble_eq_true rfl)
    · refine s_iload_n hX dX10_buy_22 rfl ?_
      refine s_iconst (v := 1) hX dX10_buy_23 kc_1 ?_
      refine s_sipush (v := 9999) hX dX10_buy_24 ks_9999 ?_
      refine s_callSi (ck1 := 0) (sk1 := 0) hX dX10_buy_27 k_X10_isIn q_1447 (c_X10_isIn n M5 a3 1 9999) rfl rfl ⟨Nat.le_of_ble_eq_true rfl, Nat.le_of_ble_eq_true rfl⟩ ⟨(Nat.le_of_ble_eq_true rfl), (Nat.le_of_ble_eq_true rfl)⟩ (Nat.le_of_ble_eq_true rfl) rfl rfl (fun r6 M7 => ?_)
      refine s_ifne (tgt := 35) hX dX10_buy_30 rfl ?_ ?_
      · refine s_iconst (v := (-1)) hX dX10_buy_33 kc_m1 ?_
        exact s_iret hX hR dX10_buy_34 (Nat.le_of_ble_eq_true rfl) (Nat.le_of_ble_eq_true rfl)
      · refine s_aload_n hX dX10_buy_35 rfl ?_
        refine s_callVu (ck1 := 0) (sk1 := 0) (ci := 8) hX dX10_buy_36 k_X10_canUndo q_1514 (c_X10_canUndo n M7 a0) (by decide) rfl rfl rfl ⟨Nat.le_of_ble_eq_true rfl, Nat.le_of_ble_eq_true rfl⟩ ⟨(Nat.le_of_ble_eq_true rfl), (Nat.le_of_ble_eq_true rfl)⟩ (Nat.le_of_ble_eq_true rfl) rfl rfl (fun r8 M9 => ?_)
        refine s_aload_n hX dX10_buy_39 rfl ?_
        refine s_aload_n hX dX10_buy_40 rfl ?_
        refine s_iload_n hX dX10_buy_41 rfl ?_
        refine s_aload_n hX dX10_buy_42 rfl ?_
        refine s_iconst (v := 0) hX dX10_buy_43 kc_0 ?_
        refine s_callVi (ck1 := 0) (sk1 := 0) (ci := 8) hX dX10_buy_44 k_X10_of q_1286 (c_X10_of n M9 a0 0) (by decide) rfl rfl rfl ⟨Nat.le_of_ble_eq_true rfl, Nat.le_of_ble_eq_true rfl⟩ ⟨(Nat.le_of_ble_eq_true rfl), (Nat.le_of_ble_eq_true rfl)⟩ (Nat.le_of_ble_eq_true rfl) rfl rfl (fun r10 M11 => ?_)
        refine s_iconst (v := 2) hX dX10_buy_47 kc_2 ?_
        refine s_iload_n hX dX10_buy_48 rfl ?_
        refine s_iadd hX dX10_buy_49 ?_
        refine s_callVi (ck1 := 0) (sk1 := 0) (ci := 8) hX dX10_buy_50 k_X10_sumAt q_1290 (c_X10_sumAt n M11 a0 a1 r10 (2 + a2)) (by decide) rfl rfl rfl ⟨Nat.le_of_ble_eq_true rfl, Nat.le_of_ble_eq_true rfl⟩ ⟨(Nat.le_of_ble_eq_true rfl), (Nat.le_of_ble_eq_true rfl)⟩ (Nat.le_of_ble_eq_true rfl) rfl rfl (fun r12 M13 => ?_)
        refine s_iload_n hX dX10_buy_53 rfl ?_
        refine s_callVu (ck1 := 0) (sk1 := 0) (ci := 8) hX dX10_buy_54 k_X10_add q_1294 (c_X10_add n M13 a0 r12 a3) (by decide) rfl rfl rfl ⟨Nat.le_of_ble_eq_true rfl, Nat.le_of_ble_eq_true rfl⟩ ⟨(Nat.le_of_ble_eq_true rfl), (Nat.le_of_ble_eq_true rfl)⟩ (Nat.le_of_ble_eq_true rfl) rfl rfl (fun r14 M15 => ?_)
        refine s_aload_n hX dX10_buy_57 rfl ?_
        refine s_aload_n hX dX10_buy_58 rfl ?_
        refine s_iload_n hX dX10_buy_59 rfl ?_
        refine s_aload_n hX dX10_buy_60 rfl ?_
        refine s_iconst (v := 0) hX dX10_buy_61 kc_0 ?_
        refine s_callVi (ck1 := 0) (sk1 := 0) (ci := 8) hX dX10_buy_62 k_X10_of q_1286 (c_X10_of n M15 a0 0) (by decide) rfl rfl rfl ⟨Nat.le_of_ble_eq_true rfl, Nat.le_of_ble_eq_true rfl⟩ ⟨(Nat.le_of_ble_eq_true rfl), (Nat.le_of_ble_eq_true rfl)⟩ (Nat.le_of_ble_eq_true rfl) rfl rfl (fun r16 M17 => ?_)
        refine s_iconst (v := 2) hX dX10_buy_65 kc_2 ?_
        refine s_iload_n hX dX10_buy_66 rfl ?_
        refine s_iadd hX dX10_buy_67 ?_
        refine s_callVi (ck1 := 0) (sk1 := 0) (ci := 8) hX dX10_buy_68 k_X10_sumAt q_1290 (c_X10_sumAt n M17 a0 a1 r16 (2 + a2)) (by decide) rfl rfl rfl ⟨Nat.le_of_ble_eq_true rfl, Nat.le_of_ble_eq_true rfl⟩ ⟨(Nat.le_of_ble_eq_true rfl), (Nat.le_of_ble_eq_true rfl)⟩ (Nat.le_of_ble_eq_true rfl) rfl rfl (fun r18 M19 => ?_)
        refine s_callVi (ck1 := 0) (sk1 := 0) (ci := 8) hX dX10_buy_71 k_X10_of q_1286 (c_X10_of n M19 a0 r18) (by decide) rfl rfl rfl ⟨Nat.le_of_ble_eq_true rfl, Nat.le_of_ble_eq_true rfl⟩ ⟨(Nat.le_of_ble_eq_true rfl), (Nat.le_of_ble_eq_true rfl)⟩ (Nat.le_of_ble_eq_true rfl) rfl rfl (fun r20 M21 => ?_)
        exact s_iret hX hR dX10_buy_74 (Nat.le_of_ble_eq_true rfl) (Nat.le_of_ble_eq_true rfl)
abbrev rm_X10_late : Room := { frames := 2, cells := 0, slots := 0, locals := 44 }
theorem k_X10_late : KYV yX10_late cX10_late 5 (some .int) 4 := ⟨⟨q_1525, q_9, by decide +kernel, by decide +kernel, by decide +kernel⟩, q_1523, q_1524⟩
set_option maxHeartbeats 4000000 in
set_option maxRecDepth 100000 in
theorem c_X10_late (n : Nat) (M0 : MemT) (a0 : Nat) (a1 : Int32) (a2 : Int32) (a3 : Int32) (a4 : Int32) : Ct iI yX10_late cX10_late 5 (some .int) rm_X10_late [.ref a0, .int a1, .int a2, .int a3, .int a4] M0 (g_X10_late n M0 a0 a1 a2 a3 a4) := by
  unfold g_X10_late
  refine ct_intro RX10 0 [some (.ref a0), some (.int a1), some (.int a2), some (.int a3), some (.int a4)] rfl (by decide +kernel) rfl (Nat.le_of_ble_eq_true rfl) (fun X A hX hnm hR => ?_)
  refine s_aload_n hX dX10_late_0 rfl ?_
  refine s_iconst (v := 0) hX dX10_late_1 kc_0 ?_
  refine s_putI hX dX10_late_2 q_1308 rfl rfl (fun M1 => ?_)
  refine s_aload_n hX dX10_late_5 rfl ?_
  refine s_iload_n hX dX10_late_6 rfl ?_
  refine s_callVi (ck1 := 0) (sk1 := 0) (ci := 8) hX dX10_late_7 k_X10_isTrader q_1510 (c_X10_isTrader n M1 a0 a1) (by decide) rfl rfl rfl ⟨Nat.le_of_ble_eq_true rfl, Nat.le_of_ble_eq_true rfl⟩ ⟨(Nat.le_of_ble_eq_true rfl), (Nat.le_of_ble_eq_true rfl)⟩ (Nat.le_of_ble_eq_true rfl) rfl rfl (fun r2 M3 => ?_)
  refine s_ifeq (tgt := 54) hX dX10_late_10 rfl ?_ ?_
  · refine s_iconst (v := (-1)) hX dX10_late_54 kc_m1 ?_
    exact s_iret hX hR dX10_late_55 (Nat.le_of_ble_eq_true rfl) (Nat.le_of_ble_eq_true rfl)
  · refine s_iload_n hX dX10_late_13 rfl ?_
    refine s_iconst (v := 4) hX dX10_late_14 kc_4 ?_
    refine s_aload_n hX dX10_late_15 rfl ?_
    refine s_callVi (ck1 := 0) (sk1 := 0) (ci := 8) hX dX10_late_16 k_X10_year q_1526 (c_X10_year n M3 a0) (by decide) rfl rfl rfl ⟨Nat.le_of_ble_eq_true rfl, Nat.le_of_ble_eq_true rfl⟩ ⟨(Nat.le_of_ble_eq_true rfl), (Nat.le_of_ble_eq_true rfl)⟩ (Nat.le_of_ble_eq_true rfl) rfl rfl (fun r4 M5 => ?_)
    refine s_imul hX dX10_late_19 ?_
    refine s_aload_n hX dX10_late_20 rfl ?_
    refine s_iconst (v := 0) hX dX10_late_21 kc_0 ?_
    refine s_callVi (ck1 := 0) (sk1 := 0) (ci := 8) hX dX10_late_22 k_X10_of q_1286 (c_X10_of n M5 a0 0) (by decide) rfl rfl rfl ⟨Nat.le_of_ble_eq_true rfl, Nat.le_of_ble_eq_true rfl⟩ ⟨(Nat.le_of_ble_eq_true rfl), (Nat.le_of_ble_eq_true rfl)⟩ (Nat.le_of_ble_eq_true rfl) rfl rfl (fun r6 M7 => ?_)
    refine s_iconst (v := 1) hX dX10_late_25 kc_1 ?_
    refine s_isub hX dX10_late_26 ?_
    refine s_callSi (ck1 := 0) (sk1 := 0) hX dX10_late_27 k_X10_isIn q_1447 (c_X10_isIn n M7 a2 (4 * r4) (r6 - 1)) rfl rfl ⟨Nat.le_of_ble_eq_true rfl, Nat.le_of_ble_eq_true rfl⟩ ⟨(Nat.le_of_ble_eq_true rfl), (Nat.le_of_ble_eq_true rfl)⟩ (Nat.le_of_ble_eq_true rfl) rfl rfl (fun r8 M9 => ?_)
    refine s_ifeq (tgt := 54) hX dX10_late_30 rfl ?_ ?_
    · refine s_iconst (v := (-1)) hX dX10_late_54 kc_m1 ?_
      exact s_iret hX hR dX10_late_55 (Nat.le_of_ble_eq_true rfl) (Nat.le_of_ble_eq_true rfl)
    · refine s_iload_n hX dX10_late_33 rfl ?_
      refine s_iconst (v := 0) hX dX10_late_34 kc_0 ?_
      refine s_iconst (v := 4) hX dX10_late_35 kc_4 ?_
      refine s_callSi (ck1 := 0) (sk1 := 0) hX dX10_late_36 k_X10_isIn q_1447 (c_X10_isIn n M9 a3 0 4) rfl rfl ⟨Nat.le_of_ble_eq_true rfl, Nat.le_of_ble_eq_true rfl⟩ ⟨(Nat.le_of_ble_eq_true rfl), (Nat.le_of_ble_eq_true rfl)⟩ (Nat.le_of_ble_eq_true rfl) rfl rfl (fun r10 M11 => ?_)
      refine s_ifeq (tgt := 54) hX dX10_late_39 rfl ?_ ?_
      · refine s_iconst (v := (-1)) hX dX10_late_54 kc_m1 ?_
        exact s_iret hX hR dX10_late_55 (Nat.le_of_ble_eq_true rfl) (Nat.le_of_ble_eq_true rfl)
      · refine s_iload hX dX10_late_42 rfl ?_
        refine s_iconst (v := 1) hX dX10_late_44 kc_1 ?_
        refine s_sipush (v := 9999) hX dX10_late_45 ks_9999 ?_
        refine s_callSi (ck1 := 0) (sk1 := 0) hX dX10_late_48 k_X10_isIn q_1447 (c_X10_isIn n M11 a4 1 9999) rfl rfl ⟨Nat.le_of_ble_eq_true rfl, Nat.le_of_ble_eq_true rfl⟩ ⟨(Nat.le_of_ble_eq_true rfl), (Nat.le_of_ble_eq_true rfl)⟩ (Nat.le_of_ble_eq_true rfl) rfl rfl (fun r12 M13 => ?_)
        refine s_ifne (tgt := 56) hX dX10_late_51 rfl ?_ ?_
        · refine s_iconst (v := (-1)) hX dX10_late_54 kc_m1 ?_
          exact s_iret hX hR dX10_late_55 (Nat.le_of_ble_eq_true rfl) (Nat.le_of_ble_eq_true rfl)
        · refine s_aload_n hX dX10_late_56 rfl ?_
          refine s_callVu (ck1 := 0) (sk1 := 0) (ci := 8) hX dX10_late_57 k_X10_canUndo q_1514 (c_X10_canUndo n M13 a0) (by decide) rfl rfl rfl ⟨Nat.le_of_ble_eq_true rfl, Nat.le_of_ble_eq_true rfl⟩ ⟨(Nat.le_of_ble_eq_true rfl), (Nat.le_of_ble_eq_true rfl)⟩ (Nat.le_of_ble_eq_true rfl) rfl rfl (fun r14 M15 => ?_)
          refine s_aload_n hX dX10_late_60 rfl ?_
          refine s_aload_n hX dX10_late_61 rfl ?_
          refine s_iload_n hX dX10_late_62 rfl ?_
          refine s_iload_n hX dX10_late_63 rfl ?_
          refine s_iload_n hX dX10_late_64 rfl ?_
          refine s_callVi (ck1 := 0) (sk1 := 0) (ci := 8) hX dX10_late_65 k_X10_sumAt q_1290 (c_X10_sumAt n M15 a0 a1 a2 a3) (by decide) rfl rfl rfl ⟨Nat.le_of_ble_eq_true rfl, Nat.le_of_ble_eq_true rfl⟩ ⟨(Nat.le_of_ble_eq_true rfl), (Nat.le_of_ble_eq_true rfl)⟩ (Nat.le_of_ble_eq_true rfl) rfl rfl (fun r16 M17 => ?_)
          refine s_iload hX dX10_late_68 rfl ?_
          refine s_callVu (ck1 := 0) (sk1 := 0) (ci := 8) hX dX10_late_70 k_X10_add q_1294 (c_X10_add n M17 a0 r16 a4) (by decide) rfl rfl rfl ⟨Nat.le_of_ble_eq_true rfl, Nat.le_of_ble_eq_true rfl⟩ ⟨(Nat.le_of_ble_eq_true rfl), (Nat.le_of_ble_eq_true rfl)⟩ (Nat.le_of_ble_eq_true rfl) rfl rfl (fun r18 M19 => ?_)
          refine s_aload_n hX dX10_late_73 rfl ?_
          refine s_aload_n hX dX10_late_74 rfl ?_
          refine s_iload_n hX dX10_late_75 rfl ?_
          refine s_iload_n hX dX10_late_76 rfl ?_
          refine s_iload_n hX dX10_late_77 rfl ?_
          refine s_callVi (ck1 := 0) (sk1 := 0) (ci := 8) hX dX10_late_78 k_X10_sumAt q_1290 (c_X10_sumAt n M19 a0 a1 a2 a3) (by decide) rfl rfl rfl ⟨Nat.le_of_ble_eq_true rfl, Nat.le_of_ble_eq_true rfl⟩ ⟨(Nat.le_of_ble_eq_true rfl), (Nat.le_of_ble_eq_true rfl)⟩ (Nat.le_of_ble_eq_true rfl) rfl rfl (fun r20 M21 => ?_)
          refine s_callVi (ck1 := 0) (sk1 := 0) (ci := 8) hX dX10_late_81 k_X10_of q_1286 (c_X10_of n M21 a0 r20) (by decide) rfl rfl rfl ⟨Nat.le_of_ble_eq_true rfl, Nat.le_of_ble_eq_true rfl⟩ ⟨(Nat.le_of_ble_eq_true rfl), (Nat.le_of_ble_eq_true rfl)⟩ (Nat.le_of_ble_eq_true rfl) rfl rfl (fun r22 M23 => ?_)
          exact s_iret hX hR dX10_late_84 (Nat.le_of_ble_eq_true rfl) (Nat.le_of_ble_eq_true rfl)
abbrev rm_X10_heads : Room := { frames := 2, cells := 0, slots := 0, locals := 44 }
theorem k_X10_heads : KYV yX10_heads cX10_heads 4 (some .boolean) 3 := ⟨⟨q_1533, q_9, by decide +kernel, by decide +kernel, by decide +kernel⟩, q_1531, q_1532⟩
set_option maxHeartbeats 4000000 in
set_option maxRecDepth 100000 in
theorem c_X10_heads (n : Nat) (M0 : MemT) (a0 : Nat) (a1 : Int32) (a2 : Int32) (a3 : Int32) : Ct iI yX10_heads cX10_heads 4 (some .boolean) rm_X10_heads [.ref a0, .int a1, .int a2, .int a3] M0 (g_X10_heads n M0 a0 a1 a2 a3) := by
  unfold g_X10_heads
  refine ct_intro RX10 0 [some (.ref a0), some (.int a1), some (.int a2), some (.int a3)] rfl (by decide +kernel) rfl (Nat.le_of_ble_eq_true rfl) (fun X A hX hnm hR => ?_)
  refine s_aload_n hX dX10_heads_0 rfl ?_
  refine s_iconst (v := 0) hX dX10_heads_1 kc_0 ?_
  refine s_putI hX dX10_heads_2 q_1308 rfl rfl (fun M1 => ?_)
  refine s_aload_n hX dX10_heads_5 rfl ?_
  refine s_iload_n hX dX10_heads_6 rfl ?_
  refine s_callVi (ck1 := 0) (sk1 := 0) (ci := 8) hX dX10_heads_7 k_X10_isTrader q_1510 (c_X10_isTrader n M1 a0 a1) (by decide) rfl rfl rfl ⟨Nat.le_of_ble_eq_true rfl, Nat.le_of_ble_eq_true rfl⟩ ⟨(Nat.le_of_ble_eq_true rfl), (Nat.le_of_ble_eq_true rfl)⟩ (Nat.le_of_ble_eq_true rfl) rfl rfl (fun r2 M3 => ?_)
  refine s_ifeq (tgt := 33) hX dX10_heads_10 rfl ?_ ?_
  · refine s_iconst (v := 0) hX dX10_heads_33 kc_0 ?_
    exact s_zret hX hR dX10_heads_34 (Nat.le_of_ble_eq_true rfl) (Nat.le_of_ble_eq_true rfl)
  · refine s_iload_n hX dX10_heads_13 rfl ?_
    refine s_iconst (v := 0) hX dX10_heads_14 kc_0 ?_
    refine s_sipush (v := 999) hX dX10_heads_15 ks_999 ?_
    refine s_callSi (ck1 := 0) (sk1 := 0) hX dX10_heads_18 k_X10_isIn q_1447 (c_X10_isIn n M3 a3 0 999) rfl rfl ⟨Nat.le_of_ble_eq_true rfl, Nat.le_of_ble_eq_true rfl⟩ ⟨(Nat.le_of_ble_eq_true rfl), (Nat.le_of_ble_eq_true rfl)⟩ (Nat.le_of_ble_eq_true rfl) rfl rfl (fun r4 M5 => ?_)
    refine s_ifeq (tgt := 33) hX dX10_heads_21 rfl ?_ ?_
    · refine s_iconst (v := 0) hX dX10_heads_33 kc_0 ?_
      exact s_zret hX hR dX10_heads_34 (Nat.le_of_ble_eq_true rfl) (Nat.le_of_ble_eq_true rfl)
    · refine s_iload_n hX dX10_heads_24 rfl ?_
      refine s_iconst (v := 0) hX dX10_heads_25 kc_0 ?_
      refine s_iload_n hX dX10_heads_26 rfl ?_
      refine s_callSi (ck1 := 0) (sk1 := 0) hX dX10_heads_27 k_X10_isIn q_1447 (c_X10_isIn n M5 a2 0 a3) rfl rfl ⟨Nat.le_of_ble_eq_true rfl, Nat.le_of_ble_eq_true rfl⟩ ⟨(Nat.le_of_ble_eq_true rfl), (Nat.le_of_ble_eq_true rfl)⟩ (Nat.le_of_ble_eq_true rfl) rfl rfl (fun r6 M7 => ?_)
      refine s_ifne (tgt := 35) hX dX10_heads_30 rfl ?_ ?_
      · refine s_iconst (v := 0) hX dX10_heads_33 kc_0 ?_
        exact s_zret hX hR dX10_heads_34 (Nat.le_of_ble_eq_true rfl) (Nat.le_of_ble_eq_true rfl)
      · refine s_aload_n hX dX10_heads_35 rfl ?_
        refine s_callVu (ck1 := 0) (sk1 := 0) (ci := 8) hX dX10_heads_36 k_X10_canUndo q_1514 (c_X10_canUndo n M7 a0) (by decide) rfl rfl rfl ⟨Nat.le_of_ble_eq_true rfl, Nat.le_of_ble_eq_true rfl⟩ ⟨(Nat.le_of_ble_eq_true rfl), (Nat.le_of_ble_eq_true rfl)⟩ (Nat.le_of_ble_eq_true rfl) rfl rfl (fun r8 M9 => ?_)
        refine s_aload_n hX dX10_heads_39 rfl ?_
        refine s_sipush (v := 1281) hX dX10_heads_40 ks_1281 ?_
        refine s_iconst (v := 2) hX dX10_heads_43 kc_2 ?_
        refine s_iload_n hX dX10_heads_44 rfl ?_
        refine s_imul hX dX10_heads_45 ?_
        refine s_iadd hX dX10_heads_46 ?_
        refine s_iload_n hX dX10_heads_47 rfl ?_
        refine s_callVu (ck1 := 0) (sk1 := 0) (ci := 8) hX dX10_heads_48 k_X10_lay q_1274 (c_X10_lay n M9 a0 (1281 + (2 * a1)) a2) (by decide) rfl rfl rfl ⟨Nat.le_of_ble_eq_true rfl, Nat.le_of_ble_eq_true rfl⟩ ⟨(Nat.le_of_ble_eq_true rfl), (Nat.le_of_ble_eq_true rfl)⟩ (Nat.le_of_ble_eq_true rfl) rfl rfl (fun r10 M11 => ?_)
        refine s_aload_n hX dX10_heads_51 rfl ?_
        refine s_sipush (v := 1281) hX dX10_heads_52 ks_1281 ?_
        refine s_iconst (v := 2) hX dX10_heads_55 kc_2 ?_
        refine s_iload_n hX dX10_heads_56 rfl ?_
        refine s_imul hX dX10_heads_57 ?_
        refine s_iadd hX dX10_heads_58 ?_
        refine s_iconst (v := 1) hX dX10_heads_59 kc_1 ?_
        refine s_iadd hX dX10_heads_60 ?_
        refine s_iload_n hX dX10_heads_61 rfl ?_
        refine s_callVu (ck1 := 0) (sk1 := 0) (ci := 8) hX dX10_heads_62 k_X10_lay q_1274 (c_X10_lay n M11 a0 ((1281 + (2 * a1)) + 1) a3) (by decide) rfl rfl rfl ⟨Nat.le_of_ble_eq_true rfl, Nat.le_of_ble_eq_true rfl⟩ ⟨(Nat.le_of_ble_eq_true rfl), (Nat.le_of_ble_eq_true rfl)⟩ (Nat.le_of_ble_eq_true rfl) rfl rfl (fun r12 M13 => ?_)
        refine s_iconst (v := 1) hX dX10_heads_65 kc_1 ?_
        exact s_zret hX hR dX10_heads_66 (Nat.le_of_ble_eq_true rfl) (Nat.le_of_ble_eq_true rfl)
abbrev rm_X10_acquire : Room := { frames := 3, cells := 0, slots := 0, locals := 71 }
theorem k_X10_acquire : KYV yX10_acquire cX10_acquire 5 (some .int) 4 := ⟨⟨q_1537, q_9, by decide +kernel, by decide +kernel, by decide +kernel⟩, q_1535, q_1536⟩
set_option maxHeartbeats 4000000 in
set_option maxRecDepth 100000 in
theorem c_X10_acquire (n : Nat) (M0 : MemT) (a0 : Nat) (a1 : Int32) (a2 : Int32) (a3 : Int32) (a4 : Int32) : Ct iI yX10_acquire cX10_acquire 5 (some .int) rm_X10_acquire [.ref a0, .int a1, .int a2, .int a3, .int a4] M0 (g_X10_acquire n M0 a0 a1 a2 a3 a4) := by
  unfold g_X10_acquire
  refine ct_intro RX10 0 [some (.ref a0), some (.int a1), some (.int a2), some (.int a3), some (.int a4)] rfl (by decide +kernel) rfl (Nat.le_of_ble_eq_true rfl) (fun X A hX hnm hR => ?_)
  refine s_aload_n hX dX10_acquire_0 rfl ?_
  refine s_iconst (v := 0) hX dX10_acquire_1 kc_0 ?_
  refine s_putI hX dX10_acquire_2 q_1308 rfl rfl (fun M1 => ?_)
  refine s_aload_n hX dX10_acquire_5 rfl ?_
  refine s_iload_n hX dX10_acquire_6 rfl ?_
  refine s_callVi (ck1 := 0) (sk1 := 0) (ci := 8) hX dX10_acquire_7 k_X10_isTrader q_1510 (c_X10_isTrader n M1 a0 a1) (by decide) rfl rfl rfl ⟨Nat.le_of_ble_eq_true rfl, Nat.le_of_ble_eq_true rfl⟩ ⟨(Nat.le_of_ble_eq_true rfl), (Nat.le_of_ble_eq_true rfl)⟩ (Nat.le_of_ble_eq_true rfl) rfl rfl (fun r2 M3 => ?_)
  refine s_ifeq (tgt := 45) hX dX10_acquire_10 rfl ?_ ?_
  · refine s_iconst (v := (-1)) hX dX10_acquire_45 kc_m1 ?_
    exact s_iret hX hR dX10_acquire_46 (Nat.le_of_ble_eq_true rfl) (Nat.le_of_ble_eq_true rfl)
  · refine s_iload_n hX dX10_acquire_13 rfl ?_
    refine s_iconst (v := 0) hX dX10_acquire_14 kc_0 ?_
    refine s_iconst (v := 2) hX dX10_acquire_15 kc_2 ?_
    refine s_callSi (ck1 := 0) (sk1 := 0) hX dX10_acquire_16 k_X10_isIn q_1447 (c_X10_isIn n M3 a2 0 2) rfl rfl ⟨Nat.le_of_ble_eq_true rfl, Nat.le_of_ble_eq_true rfl⟩ ⟨(Nat.le_of_ble_eq_true rfl), (Nat.le_of_ble_eq_true rfl)⟩ (Nat.le_of_ble_eq_true rfl) rfl rfl (fun r4 M5 => ?_)
    refine s_ifeq (tgt := 45) hX dX10_acquire_19 rfl ?_ ?_
    · refine s_iconst (v := (-1)) hX dX10_acquire_45 kc_m1 ?_
      exact s_iret hX hR dX10_acquire_46 (Nat.le_of_ble_eq_true rfl) (Nat.le_of_ble_eq_true rfl)
    · refine s_iload_n hX dX10_acquire_22 rfl ?_
      refine s_iconst (v := 1) hX dX10_acquire_23 kc_1 ?_
      refine s_ldc hX dX10_acquire_24 q_1426 ?_
      refine s_callSi (ck1 := 0) (sk1 := 0) hX dX10_acquire_26 k_X10_isIn q_1447 (c_X10_isIn n M5 a3 1 99999) rfl rfl ⟨Nat.le_of_ble_eq_true rfl, Nat.le_of_ble_eq_true rfl⟩ ⟨(Nat.le_of_ble_eq_true rfl), (Nat.le_of_ble_eq_true rfl)⟩ (Nat.le_of_ble_eq_true rfl) rfl rfl (fun r6 M7 => ?_)
      refine s_ifeq (tgt := 45) hX dX10_acquire_29 rfl ?_ ?_
      · refine s_iconst (v := (-1)) hX dX10_acquire_45 kc_m1 ?_
        exact s_iret hX hR dX10_acquire_46 (Nat.le_of_ble_eq_true rfl) (Nat.le_of_ble_eq_true rfl)
      · refine s_iload hX dX10_acquire_32 rfl ?_
        refine s_iconst (v := 5) hX dX10_acquire_34 kc_5 ?_
        refine s_jp (fun (s : MemT) => [some (.ref a0), some (.int a1), some (.int a2), some (.int a3), some (.int a4)]) (fun (s : MemT) => []) (fun (s : MemT) => s) 0 0 47 (fun s => ?_) (fun K8 hK8 => ?_)
        · revert s
          intro M9
          try dsimp only
          refine s_aload_n hX dX10_acquire_47 rfl ?_
          refine s_sipush (v := 1865) hX dX10_acquire_48 ks_1865 ?_
          refine s_callVi (ck1 := 0) (sk1 := 0) (ci := 8) hX dX10_acquire_51 k_X10_of q_1286 (c_X10_of n M9 a0 1865) (by decide) rfl rfl rfl ⟨Nat.le_of_ble_eq_true rfl, Nat.le_of_ble_eq_true rfl⟩ ⟨(Nat.le_of_ble_eq_true rfl), (Nat.le_of_ble_eq_true rfl)⟩ (Nat.le_of_ble_eq_true rfl) rfl rfl (fun r10 M11 => ?_)
          refine s_bipush (v := 8) hX dX10_acquire_54 kb_8 ?_
          refine s_icne (tgt := 62) hX dX10_acquire_56 rfl ?_ ?_
          · refine s_bipush (v := (-2)) hX dX10_acquire_59 kb_m2 ?_
            exact s_iret hX hR dX10_acquire_61 (Nat.le_of_ble_eq_true rfl) (Nat.le_of_ble_eq_true rfl)
          · refine s_aload_n hX dX10_acquire_62 rfl ?_
            refine s_callVu (ck1 := 0) (sk1 := 0) (ci := 8) hX dX10_acquire_63 k_X10_canUndo q_1514 (c_X10_canUndo n M11 a0) (by decide) rfl rfl rfl ⟨Nat.le_of_ble_eq_true rfl, Nat.le_of_ble_eq_true rfl⟩ ⟨(Nat.le_of_ble_eq_true rfl), (Nat.le_of_ble_eq_true rfl)⟩ (Nat.le_of_ble_eq_true rfl) rfl rfl (fun r12 M13 => ?_)
            refine s_aload_n hX dX10_acquire_66 rfl ?_
            refine s_iload_n hX dX10_acquire_67 rfl ?_
            refine s_iload_n hX dX10_acquire_68 rfl ?_
            refine s_iload_n hX dX10_acquire_69 rfl ?_
            refine s_iload hX dX10_acquire_70 rfl ?_
            refine s_callVi (ck1 := 0) (sk1 := 0) (ci := 8) hX dX10_acquire_72 k_X10_acquires q_1298 (c_X10_acquires n M13 a0 a1 a2 a3 a4) (by decide) rfl rfl rfl ⟨Nat.le_of_ble_eq_true rfl, Nat.le_of_ble_eq_true rfl⟩ ⟨(Nat.le_of_ble_eq_true rfl), (Nat.le_of_ble_eq_true rfl)⟩ (Nat.le_of_ble_eq_true rfl) rfl rfl (fun r14 M15 => ?_)
            exact s_iret hX hR dX10_acquire_75 (Nat.le_of_ble_eq_true rfl) (Nat.le_of_ble_eq_true rfl)
        · refine s_iceq (tgt := 47) hX dX10_acquire_35 rfl ?_ ?_
          · exact hK8 _
          · refine s_iload hX dX10_acquire_38 rfl ?_
            refine s_bipush (v := 10) hX dX10_acquire_40 kb_10 ?_
            refine s_iceq (tgt := 47) hX dX10_acquire_42 rfl ?_ ?_
            · exact hK8 _
            · refine s_iconst (v := (-1)) hX dX10_acquire_45 kc_m1 ?_
              exact s_iret hX hR dX10_acquire_46 (Nat.le_of_ble_eq_true rfl) (Nat.le_of_ble_eq_true rfl)
abbrev rm_X10_isAsset : Room := { frames := 1, cells := 0, slots := 0, locals := 21 }
theorem k_X10_isAsset : KYV yX10_isAsset cX10_isAsset 2 (some .boolean) 1 := ⟨⟨q_1545, q_9, by decide +kernel, by decide +kernel, by decide +kernel⟩, q_1544, p_72⟩
set_option maxHeartbeats 4000000 in
set_option maxRecDepth 100000 in
theorem c_X10_isAsset (n : Nat) (M0 : MemT) (a0 : Nat) (a1 : Int32) : Ct iI yX10_isAsset cX10_isAsset 2 (some .boolean) rm_X10_isAsset [.ref a0, .int a1] M0 (g_X10_isAsset n M0 a0 a1) := by
  unfold g_X10_isAsset
  refine ct_intro RX10 0 [some (.ref a0), some (.int a1)] rfl (by decide +kernel) rfl (Nat.le_of_ble_eq_true rfl) (fun X A hX hnm hR => ?_)
  refine s_iload_n hX dX10_isAsset_0 rfl ?_
  refine s_iflt (tgt := 19) hX dX10_isAsset_1 rfl ?_ ?_
  · refine s_iconst (v := 0) hX dX10_isAsset_19 kc_0 ?_
    exact s_zret hX hR dX10_isAsset_20 (Nat.le_of_ble_eq_true rfl) (Nat.le_of_ble_eq_true rfl)
  · refine s_iload_n hX dX10_isAsset_4 rfl ?_
    refine s_aload_n hX dX10_isAsset_5 rfl ?_
    refine s_sipush (v := 1865) hX dX10_isAsset_6 ks_1865 ?_
    refine s_callVi (ck1 := 0) (sk1 := 0) (ci := 8) hX dX10_isAsset_9 k_X10_of q_1286 (c_X10_of n M0 a0 1865) (by decide) rfl rfl rfl ⟨Nat.le_of_ble_eq_true rfl, Nat.le_of_ble_eq_true rfl⟩ ⟨(Nat.le_of_ble_eq_true rfl), (Nat.le_of_ble_eq_true rfl)⟩ (Nat.le_of_ble_eq_true rfl) rfl rfl (fun r1 M2 => ?_)
    refine s_icge (tgt := 19) hX dX10_isAsset_12 rfl ?_ ?_
    · refine s_iconst (v := 0) hX dX10_isAsset_19 kc_0 ?_
      exact s_zret hX hR dX10_isAsset_20 (Nat.le_of_ble_eq_true rfl) (Nat.le_of_ble_eq_true rfl)
    · refine s_iconst (v := 1) hX dX10_isAsset_15 kc_1 ?_
      refine s_goto (tgt := 20) hX dX10_isAsset_16 rfl ?_
      exact s_zret hX hR dX10_isAsset_20 (Nat.le_of_ble_eq_true rfl) (Nat.le_of_ble_eq_true rfl)
abbrev rm_X10_isGone : Room := { frames := 2, cells := 0, slots := 0, locals := 43 }
theorem k_X10_isGone : KYV yX10_isGone cX10_isGone 2 (some .boolean) 1 := ⟨⟨q_1549, q_9, by decide +kernel, by decide +kernel, by decide +kernel⟩, q_1548, p_73⟩
set_option maxHeartbeats 4000000 in
set_option maxRecDepth 100000 in
theorem c_X10_isGone (n : Nat) (M0 : MemT) (a0 : Nat) (a1 : Int32) : Ct iI yX10_isGone cX10_isGone 2 (some .boolean) rm_X10_isGone [.ref a0, .int a1] M0 (g_X10_isGone n M0 a0 a1) := by
  unfold g_X10_isGone
  refine ct_intro RX10 0 [some (.ref a0), some (.int a1)] rfl (by decide +kernel) rfl (Nat.le_of_ble_eq_true rfl) (fun X A hX hnm hR => ?_)
  refine s_aload_n hX dX10_isGone_0 rfl ?_
  refine s_iload_n hX dX10_isGone_1 rfl ?_
  refine s_bipush (v := 9) hX dX10_isGone_2 kb_9 ?_
  refine s_callVi (ck1 := 0) (sk1 := 0) (ci := 8) hX dX10_isGone_4 k_X10_at q_1550 (c_X10_at n M0 a0 a1 9) (by decide) rfl rfl rfl ⟨Nat.le_of_ble_eq_true rfl, Nat.le_of_ble_eq_true rfl⟩ ⟨(Nat.le_of_ble_eq_true rfl), (Nat.le_of_ble_eq_true rfl)⟩ (Nat.le_of_ble_eq_true rfl) rfl rfl (fun r1 M2 => ?_)
  refine s_iconst (v := 1) hX dX10_isGone_7 kc_1 ?_
  refine s_iceq (tgt := 21) hX dX10_isGone_8 rfl ?_ ?_
  · refine s_iconst (v := 1) hX dX10_isGone_21 kc_1 ?_
    refine s_goto (tgt := 26) hX dX10_isGone_22 rfl ?_
    exact s_zret hX hR dX10_isGone_26 (Nat.le_of_ble_eq_true rfl) (Nat.le_of_ble_eq_true rfl)
  · refine s_aload_n hX dX10_isGone_11 rfl ?_
    refine s_iload_n hX dX10_isGone_12 rfl ?_
    refine s_bipush (v := 7) hX dX10_isGone_13 kb_7 ?_
    refine s_callVi (ck1 := 0) (sk1 := 0) (ci := 8) hX dX10_isGone_15 k_X10_at q_1550 (c_X10_at n M2 a0 a1 7) (by decide) rfl rfl rfl ⟨Nat.le_of_ble_eq_true rfl, Nat.le_of_ble_eq_true rfl⟩ ⟨(Nat.le_of_ble_eq_true rfl), (Nat.le_of_ble_eq_true rfl)⟩ (Nat.le_of_ble_eq_true rfl) rfl rfl (fun r3 M4 => ?_)
    refine s_ifle (tgt := 25) hX dX10_isGone_18 rfl ?_ ?_
    · refine s_iconst (v := 0) hX dX10_isGone_25 kc_0 ?_
      exact s_zret hX hR dX10_isGone_26 (Nat.le_of_ble_eq_true rfl) (Nat.le_of_ble_eq_true rfl)
    · refine s_iconst (v := 1) hX dX10_isGone_21 kc_1 ?_
      refine s_goto (tgt := 26) hX dX10_isGone_22 rfl ?_
      exact s_zret hX hR dX10_isGone_26 (Nat.le_of_ble_eq_true rfl) (Nat.le_of_ble_eq_true rfl)
abbrev rm_X10_use : Room := { frames := 3, cells := 0, slots := 0, locals := 65 }
theorem k_X10_use : KYV yX10_use cX10_use 3 (some .boolean) 2 := ⟨⟨q_1541, q_9, by decide +kernel, by decide +kernel, by decide +kernel⟩, q_1539, q_1540⟩
set_option maxHeartbeats 4000000 in
set_option maxRecDepth 100000 in
theorem c_X10_use (n : Nat) (M0 : MemT) (a0 : Nat) (a1 : Int32) (a2 : Int32) : Ct iI yX10_use cX10_use 3 (some .boolean) rm_X10_use [.ref a0, .int a1, .int a2] M0 (g_X10_use n M0 a0 a1 a2) := by
  unfold g_X10_use
  refine ct_intro RX10 0 [some (.ref a0), some (.int a1), some (.int a2)] rfl (by decide +kernel) rfl (Nat.le_of_ble_eq_true rfl) (fun X A hX hnm hR => ?_)
  refine s_aload_n hX dX10_use_0 rfl ?_
  refine s_iconst (v := 0) hX dX10_use_1 kc_0 ?_
  refine s_putI hX dX10_use_2 q_1308 rfl rfl (fun M1 => ?_)
  refine s_aload_n hX dX10_use_5 rfl ?_
  refine s_iload_n hX dX10_use_6 rfl ?_
  refine s_callVi (ck1 := 0) (sk1 := 0) (ci := 8) hX dX10_use_7 k_X10_isAsset q_1542 (c_X10_isAsset n M1 a0 a1) (by decide) rfl rfl rfl ⟨Nat.le_of_ble_eq_true rfl, Nat.le_of_ble_eq_true rfl⟩ ⟨(Nat.le_of_ble_eq_true rfl), (Nat.le_of_ble_eq_true rfl)⟩ (Nat.le_of_ble_eq_true rfl) rfl rfl (fun r2 M3 => ?_)
  refine s_ifeq (tgt := 42) hX dX10_use_10 rfl ?_ ?_
  · refine s_iconst (v := 0) hX dX10_use_42 kc_0 ?_
    exact s_zret hX hR dX10_use_43 (Nat.le_of_ble_eq_true rfl) (Nat.le_of_ble_eq_true rfl)
  · refine s_iload_n hX dX10_use_13 rfl ?_
    refine s_iconst (v := 0) hX dX10_use_14 kc_0 ?_
    refine s_iconst (v := 2) hX dX10_use_15 kc_2 ?_
    refine s_callSi (ck1 := 0) (sk1 := 0) hX dX10_use_16 k_X10_isIn q_1447 (c_X10_isIn n M3 a2 0 2) rfl rfl ⟨Nat.le_of_ble_eq_true rfl, Nat.le_of_ble_eq_true rfl⟩ ⟨(Nat.le_of_ble_eq_true rfl), (Nat.le_of_ble_eq_true rfl)⟩ (Nat.le_of_ble_eq_true rfl) rfl rfl (fun r4 M5 => ?_)
    refine s_ifeq (tgt := 42) hX dX10_use_19 rfl ?_ ?_
    · refine s_iconst (v := 0) hX dX10_use_42 kc_0 ?_
      exact s_zret hX hR dX10_use_43 (Nat.le_of_ble_eq_true rfl) (Nat.le_of_ble_eq_true rfl)
    · refine s_aload_n hX dX10_use_22 rfl ?_
      refine s_iload_n hX dX10_use_23 rfl ?_
      refine s_callVi (ck1 := 0) (sk1 := 0) (ci := 8) hX dX10_use_24 k_X10_isGone q_1546 (c_X10_isGone n M5 a0 a1) (by decide) rfl rfl rfl ⟨Nat.le_of_ble_eq_true rfl, Nat.le_of_ble_eq_true rfl⟩ ⟨(Nat.le_of_ble_eq_true rfl), (Nat.le_of_ble_eq_true rfl)⟩ (Nat.le_of_ble_eq_true rfl) rfl rfl (fun r6 M7 => ?_)
      refine s_ifne (tgt := 42) hX dX10_use_27 rfl ?_ ?_
      · refine s_aload_n hX dX10_use_30 rfl ?_
        refine s_iload_n hX dX10_use_31 rfl ?_
        refine s_aload_n hX dX10_use_32 rfl ?_
        refine s_callVi (ck1 := 0) (sk1 := 0) (ci := 8) hX dX10_use_33 k_X10_year q_1526 (c_X10_year n M7 a0) (by decide) rfl rfl rfl ⟨Nat.le_of_ble_eq_true rfl, Nat.le_of_ble_eq_true rfl⟩ ⟨(Nat.le_of_ble_eq_true rfl), (Nat.le_of_ble_eq_true rfl)⟩ (Nat.le_of_ble_eq_true rfl) rfl rfl (fun r8 M9 => ?_)
        refine s_callVi (ck1 := 0) (sk1 := 0) (ci := 8) hX dX10_use_36 k_X10_intervalOf q_1554 (c_X10_intervalOf n M9 a0 a1 r8) (by decide) rfl rfl rfl ⟨Nat.le_of_ble_eq_true rfl, Nat.le_of_ble_eq_true rfl⟩ ⟨(Nat.le_of_ble_eq_true rfl), (Nat.le_of_ble_eq_true rfl)⟩ (Nat.le_of_ble_eq_true rfl) rfl rfl (fun r10 M11 => ?_)
        refine s_ifne (tgt := 44) hX dX10_use_39 rfl ?_ ?_
        · refine s_iconst (v := 0) hX dX10_use_42 kc_0 ?_
          exact s_zret hX hR dX10_use_43 (Nat.le_of_ble_eq_true rfl) (Nat.le_of_ble_eq_true rfl)
        · refine s_aload_n hX dX10_use_44 rfl ?_
          refine s_callVu (ck1 := 0) (sk1 := 0) (ci := 8) hX dX10_use_45 k_X10_canUndo q_1514 (c_X10_canUndo n M11 a0) (by decide) rfl rfl rfl ⟨Nat.le_of_ble_eq_true rfl, Nat.le_of_ble_eq_true rfl⟩ ⟨(Nat.le_of_ble_eq_true rfl), (Nat.le_of_ble_eq_true rfl)⟩ (Nat.le_of_ble_eq_true rfl) rfl rfl (fun r12 M13 => ?_)
          refine s_aload_n hX dX10_use_48 rfl ?_
          refine s_iload_n hX dX10_use_49 rfl ?_
          refine s_iconst (v := 2) hX dX10_use_50 kc_2 ?_
          refine s_iload_n hX dX10_use_51 rfl ?_
          refine s_callVu (ck1 := 0) (sk1 := 0) (ci := 8) hX dX10_use_52 k_X10_put q_1302 (c_X10_put n M13 a0 a1 2 a2) (by decide) rfl rfl rfl ⟨Nat.le_of_ble_eq_true rfl, Nat.le_of_ble_eq_true rfl⟩ ⟨(Nat.le_of_ble_eq_true rfl), (Nat.le_of_ble_eq_true rfl)⟩ (Nat.le_of_ble_eq_true rfl) rfl rfl (fun r14 M15 => ?_)
          refine s_iconst (v := 1) hX dX10_use_55 kc_1 ?_
          exact s_zret hX hR dX10_use_56 (Nat.le_of_ble_eq_true rfl) (Nat.le_of_ble_eq_true rfl)
      · refine s_iconst (v := 0) hX dX10_use_42 kc_0 ?_
        exact s_zret hX hR dX10_use_43 (Nat.le_of_ble_eq_true rfl) (Nat.le_of_ble_eq_true rfl)
abbrev rm_X10_behindOf : Room := { frames := 3, cells := 0, slots := 0, locals := 65 }
theorem k_X10_behindOf : KYV yX10_behindOf cX10_behindOf 2 (some .int) 1 := ⟨⟨q_1565, q_9, by decide +kernel, by decide +kernel, by decide +kernel⟩, q_1564, p_76⟩
set_option maxHeartbeats 4000000 in
set_option maxRecDepth 100000 in
theorem c_X10_behindOf (n : Nat) (M0 : MemT) (a0 : Nat) (a1 : Int32) : Ct iI yX10_behindOf cX10_behindOf 2 (some .int) rm_X10_behindOf [.ref a0, .int a1] M0 (g_X10_behindOf n M0 a0 a1) := by
  unfold g_X10_behindOf
  refine ct_intro RX10 0 [some (.ref a0), some (.int a1)] rfl (by decide +kernel) rfl (Nat.le_of_ble_eq_true rfl) (fun X A hX hnm hR => ?_)
  refine s_aload_n hX dX10_behindOf_0 rfl ?_
  refine s_iload_n hX dX10_behindOf_1 rfl ?_
  refine s_iconst (v := 4) hX dX10_behindOf_2 kc_4 ?_
  refine s_callVi (ck1 := 0) (sk1 := 0) (ci := 8) hX dX10_behindOf_3 k_X10_at q_1550 (c_X10_at n M0 a0 a1 4) (by decide) rfl rfl rfl ⟨Nat.le_of_ble_eq_true rfl, Nat.le_of_ble_eq_true rfl⟩ ⟨(Nat.le_of_ble_eq_true rfl), (Nat.le_of_ble_eq_true rfl)⟩ (Nat.le_of_ble_eq_true rfl) rfl rfl (fun r1 M2 => ?_)
  refine s_iconst (v := 1) hX dX10_behindOf_6 kc_1 ?_
  refine s_isub hX dX10_behindOf_7 ?_
  refine s_aload_n hX dX10_behindOf_8 rfl ?_
  refine s_iload_n hX dX10_behindOf_9 rfl ?_
  refine s_aload_n hX dX10_behindOf_10 rfl ?_
  refine s_callVi (ck1 := 0) (sk1 := 0) (ci := 8) hX dX10_behindOf_11 k_X10_year q_1526 (c_X10_year n M2 a0) (by decide) rfl rfl rfl ⟨Nat.le_of_ble_eq_true rfl, Nat.le_of_ble_eq_true rfl⟩ ⟨(Nat.le_of_ble_eq_true rfl), (Nat.le_of_ble_eq_true rfl)⟩ (Nat.le_of_ble_eq_true rfl) rfl rfl (fun r3 M4 => ?_)
  refine s_callVi (ck1 := 0) (sk1 := 0) (ci := 8) hX dX10_behindOf_14 k_X10_intervalOf q_1554 (c_X10_intervalOf n M4 a0 a1 r3) (by decide) rfl rfl rfl ⟨Nat.le_of_ble_eq_true rfl, Nat.le_of_ble_eq_true rfl⟩ ⟨(Nat.le_of_ble_eq_true rfl), (Nat.le_of_ble_eq_true rfl)⟩ (Nat.le_of_ble_eq_true rfl) rfl rfl (fun r5 M6 => ?_)
  refine s_isub hX dX10_behindOf_17 ?_
  exact s_iret hX hR dX10_behindOf_18 (Nat.le_of_ble_eq_true rfl) (Nat.le_of_ble_eq_true rfl)
abbrev rm_X10_sell : Room := { frames := 4, cells := 0, slots := 0, locals := 86 }
theorem k_X10_sell : KYV yX10_sell cX10_sell 4 (some .int) 3 := ⟨⟨q_1561, q_9, by decide +kernel, by decide +kernel, by decide +kernel⟩, q_1559, q_1560⟩
set_option maxHeartbeats 4000000 in
set_option maxRecDepth 100000 in
theorem c_X10_sell (n : Nat) (M0 : MemT) (a0 : Nat) (a1 : Int32) (a2 : Int32) (a3 : Int32) : Ct iI yX10_sell cX10_sell 4 (some .int) rm_X10_sell [.ref a0, .int a1, .int a2, .int a3] M0 (g_X10_sell n M0 a0 a1 a2 a3) := by
  unfold g_X10_sell
  refine ct_intro RX10 0 [some (.ref a0), some (.int a1), some (.int a2), some (.int a3)] rfl (by decide +kernel) rfl (Nat.le_of_ble_eq_true rfl) (fun X A hX hnm hR => ?_)
  refine s_aload_n hX dX10_sell_0 rfl ?_
  refine s_iconst (v := 0) hX dX10_sell_1 kc_0 ?_
  refine s_putI hX dX10_sell_2 q_1308 rfl rfl (fun M1 => ?_)
  refine s_aload_n hX dX10_sell_5 rfl ?_
  refine s_iload_n hX dX10_sell_6 rfl ?_
  refine s_callVi (ck1 := 0) (sk1 := 0) (ci := 8) hX dX10_sell_7 k_X10_isAsset q_1542 (c_X10_isAsset n M1 a0 a1) (by decide) rfl rfl rfl ⟨Nat.le_of_ble_eq_true rfl, Nat.le_of_ble_eq_true rfl⟩ ⟨(Nat.le_of_ble_eq_true rfl), (Nat.le_of_ble_eq_true rfl)⟩ (Nat.le_of_ble_eq_true rfl) rfl rfl (fun r2 M3 => ?_)
  refine s_ifeq (tgt := 41) hX dX10_sell_10 rfl ?_ ?_
  · refine s_iconst (v := (-1)) hX dX10_sell_41 kc_m1 ?_
    exact s_iret hX hR dX10_sell_42 (Nat.le_of_ble_eq_true rfl) (Nat.le_of_ble_eq_true rfl)
  · refine s_iload_n hX dX10_sell_13 rfl ?_
    refine s_iconst (v := 0) hX dX10_sell_14 kc_0 ?_
    refine s_iconst (v := 2) hX dX10_sell_15 kc_2 ?_
    refine s_callSi (ck1 := 0) (sk1 := 0) hX dX10_sell_16 k_X10_isIn q_1447 (c_X10_isIn n M3 a2 0 2) rfl rfl ⟨Nat.le_of_ble_eq_true rfl, Nat.le_of_ble_eq_true rfl⟩ ⟨(Nat.le_of_ble_eq_true rfl), (Nat.le_of_ble_eq_true rfl)⟩ (Nat.le_of_ble_eq_true rfl) rfl rfl (fun r4 M5 => ?_)
    refine s_ifeq (tgt := 41) hX dX10_sell_19 rfl ?_ ?_
    · refine s_iconst (v := (-1)) hX dX10_sell_41 kc_m1 ?_
      exact s_iret hX hR dX10_sell_42 (Nat.le_of_ble_eq_true rfl) (Nat.le_of_ble_eq_true rfl)
    · refine s_iload_n hX dX10_sell_22 rfl ?_
      refine s_iconst (v := (-1)) hX dX10_sell_23 kc_m1 ?_
      refine s_iload_n hX dX10_sell_24 rfl ?_
      refine s_iconst (v := 2) hX dX10_sell_25 kc_2 ?_
      refine s_jp (fun (s : MemT × Int32) => [some (.ref a0), some (.int a1), some (.int a2), some (.int a3)]) (fun (s : MemT × Int32) => [.int s.2, .int ((-1)), .int a3]) (fun (s : MemT × Int32) => s.1) 0 0 35 (fun s => ?_) (fun K6 hK6 => ?_)
      · obtain ⟨M7, v8⟩ := s
        dsimp only
        refine s_callSi (ck1 := 0) (sk1 := 0) hX dX10_sell_35 k_X10_isIn q_1447 (c_X10_isIn n M7 a3 ((-1)) v8) rfl rfl ⟨Nat.le_of_ble_eq_true rfl, Nat.le_of_ble_eq_true rfl⟩ ⟨(Nat.le_of_ble_eq_true rfl), (Nat.le_of_ble_eq_true rfl)⟩ (Nat.le_of_ble_eq_true rfl) rfl rfl (fun r9 M10 => ?_)
        refine s_ifne (tgt := 43) hX dX10_sell_38 rfl ?_ ?_
        · refine s_iconst (v := (-1)) hX dX10_sell_41 kc_m1 ?_
          exact s_iret hX hR dX10_sell_42 (Nat.le_of_ble_eq_true rfl) (Nat.le_of_ble_eq_true rfl)
        · refine s_aload_n hX dX10_sell_43 rfl ?_
          refine s_iload_n hX dX10_sell_44 rfl ?_
          refine s_callVi (ck1 := 0) (sk1 := 0) (ci := 8) hX dX10_sell_45 k_X10_isGone q_1546 (c_X10_isGone n M10 a0 a1) (by decide) rfl rfl rfl ⟨Nat.le_of_ble_eq_true rfl, Nat.le_of_ble_eq_true rfl⟩ ⟨(Nat.le_of_ble_eq_true rfl), (Nat.le_of_ble_eq_true rfl)⟩ (Nat.le_of_ble_eq_true rfl) rfl rfl (fun r11 M12 => ?_)
          refine s_ifeq (tgt := 54) hX dX10_sell_48 rfl ?_ ?_
          · refine s_aload_n hX dX10_sell_54 rfl ?_
            refine s_callVu (ck1 := 0) (sk1 := 0) (ci := 8) hX dX10_sell_55 k_X10_canUndo q_1514 (c_X10_canUndo n M12 a0) (by decide) rfl rfl rfl ⟨Nat.le_of_ble_eq_true rfl, Nat.le_of_ble_eq_true rfl⟩ ⟨(Nat.le_of_ble_eq_true rfl), (Nat.le_of_ble_eq_true rfl)⟩ (Nat.le_of_ble_eq_true rfl) rfl rfl (fun r13 M14 => ?_)
            refine s_aload_n hX dX10_sell_58 rfl ?_
            refine s_iload_n hX dX10_sell_59 rfl ?_
            refine s_bipush (v := 7) hX dX10_sell_60 kb_7 ?_
            refine s_iload_n hX dX10_sell_62 rfl ?_
            refine s_iconst (v := 1) hX dX10_sell_63 kc_1 ?_
            refine s_iadd hX dX10_sell_64 ?_
            refine s_callVu (ck1 := 0) (sk1 := 0) (ci := 8) hX dX10_sell_65 k_X10_put q_1302 (c_X10_put n M14 a0 a1 7 (a2 + 1)) (by decide) rfl rfl rfl ⟨Nat.le_of_ble_eq_true rfl, Nat.le_of_ble_eq_true rfl⟩ ⟨(Nat.le_of_ble_eq_true rfl), (Nat.le_of_ble_eq_true rfl)⟩ (Nat.le_of_ble_eq_true rfl) rfl rfl (fun r15 M16 => ?_)
            refine s_aload_n hX dX10_sell_68 rfl ?_
            refine s_iload_n hX dX10_sell_69 rfl ?_
            refine s_bipush (v := 8) hX dX10_sell_70 kb_8 ?_
            refine s_iload_n hX dX10_sell_72 rfl ?_
            refine s_callVu (ck1 := 0) (sk1 := 0) (ci := 8) hX dX10_sell_73 k_X10_put q_1302 (c_X10_put n M16 a0 a1 8 a3) (by decide) rfl rfl rfl ⟨Nat.le_of_ble_eq_true rfl, Nat.le_of_ble_eq_true rfl⟩ ⟨(Nat.le_of_ble_eq_true rfl), (Nat.le_of_ble_eq_true rfl)⟩ (Nat.le_of_ble_eq_true rfl) rfl rfl (fun r17 M18 => ?_)
            refine s_aload_n hX dX10_sell_76 rfl ?_
            refine s_iload_n hX dX10_sell_77 rfl ?_
            refine s_callVi (ck1 := 0) (sk1 := 0) (ci := 8) hX dX10_sell_78 k_X10_behindOf q_1562 (c_X10_behindOf n M18 a0 a1) (by decide) rfl rfl rfl ⟨Nat.le_of_ble_eq_true rfl, Nat.le_of_ble_eq_true rfl⟩ ⟨(Nat.le_of_ble_eq_true rfl), (Nat.le_of_ble_eq_true rfl)⟩ (Nat.le_of_ble_eq_true rfl) rfl rfl (fun r19 M20 => ?_)
            exact s_iret hX hR dX10_sell_81 (Nat.le_of_ble_eq_true rfl) (Nat.le_of_ble_eq_true rfl)
          · refine s_bipush (v := (-2)) hX dX10_sell_51 kb_m2 ?_
            exact s_iret hX hR dX10_sell_53 (Nat.le_of_ble_eq_true rfl) (Nat.le_of_ble_eq_true rfl)
      · refine s_icne (tgt := 33) hX dX10_sell_26 rfl ?_ ?_
        · refine s_iconst (v := (-1)) hX dX10_sell_29 kc_m1 ?_
          refine s_goto (tgt := 35) hX dX10_sell_30 rfl ?_
          exact hK6 _
        · refine s_ldc hX dX10_sell_33 q_1426 ?_
          exact hK6 _
