abbrev rm_X9_limitFor : Room := { frames := 5, cells := 0, slots := 0, locals := 115 }
theorem k_X9_limitFor : KYV yX9_limitFor cX9_limitFor 4 (some .int) 2 := ⟨⟨q_1021, q_1, by decide +kernel, by decide +kernel, by decide +kernel⟩, q_1019, q_1020⟩
set_option maxHeartbeats 4000000 in
set_option maxRecDepth 100000 in
theorem c_X9_limitFor (n : Nat) (M0 : MemT) (a0 : Nat) (a1 : Int32) (a2 : Int32) : Ct iI yX9_limitFor cX9_limitFor 4 (some .int) rm_X9_limitFor [.ref a0, .int a1, .int a2] M0 (g_X9_limitFor n M0 a0 a1 a2) := by
  unfold g_X9_limitFor
  refine ct_intro RX9 1 [some (.ref a0), some (.int a1), some (.int a2), none] rfl (by decide +kernel) rfl (Nat.le_of_ble_eq_true rfl) (fun X A hX hnm hR => ?_)
  refine s_aload_n hX dX9_limitFor_0 rfl ?_
  refine s_iload_n hX dX9_limitFor_1 rfl ?_
  refine s_callVi (ck1 := 0) (sk1 := 0) (ci := 7) hX dX9_limitFor_2 k_X9_isTrader q_720 (c_X9_isTrader n M0 a0 a1) (by decide) rfl rfl rfl ⟨Nat.le_of_ble_eq_true rfl, Nat.le_of_ble_eq_true rfl⟩ ⟨(Nat.le_of_ble_eq_true rfl), (Nat.le_of_ble_eq_true rfl)⟩ (Nat.le_of_ble_eq_true rfl) rfl rfl (fun r1 M2 => ?_)
  refine s_ifeq (tgt := 15) hX dX9_limitFor_5 rfl ?_ ?_
  · refine s_iconst (v := (-1)) hX dX9_limitFor_15 kc_m1 ?_
    exact s_iret hX hR dX9_limitFor_16 (Nat.le_of_ble_eq_true rfl) (Nat.le_of_ble_eq_true rfl)
  · refine s_iload_n hX dX9_limitFor_8 rfl ?_
    refine s_callSi (ck1 := 0) (sk1 := 0) hX dX9_limitFor_9 k_X9_isYear q_1003 (c_X9_isYear n M2 a2) rfl rfl ⟨Nat.le_of_ble_eq_true rfl, Nat.le_of_ble_eq_true rfl⟩ ⟨(Nat.le_of_ble_eq_true rfl), (Nat.le_of_ble_eq_true rfl)⟩ (Nat.le_of_ble_eq_true rfl) rfl rfl (fun r3 M4 => ?_)
    refine s_ifne (tgt := 17) hX dX9_limitFor_12 rfl ?_ ?_
    · refine s_iconst (v := (-1)) hX dX9_limitFor_15 kc_m1 ?_
      exact s_iret hX hR dX9_limitFor_16 (Nat.le_of_ble_eq_true rfl) (Nat.le_of_ble_eq_true rfl)
    · refine s_aload_n hX dX9_limitFor_17 rfl ?_
      refine s_iload_n hX dX9_limitFor_18 rfl ?_
      refine s_callVi (ck1 := 0) (sk1 := 0) (ci := 7) hX dX9_limitFor_19 k_X9_isBegun q_941 (c_X9_isBegun n M4 a0 a2) (by decide) rfl rfl rfl ⟨Nat.le_of_ble_eq_true rfl, Nat.le_of_ble_eq_true rfl⟩ ⟨(Nat.le_of_ble_eq_true rfl), (Nat.le_of_ble_eq_true rfl)⟩ (Nat.le_of_ble_eq_true rfl) rfl rfl (fun r5 M6 => ?_)
      refine s_ifne (tgt := 28) hX dX9_limitFor_22 rfl ?_ ?_
      · refine s_bipush (v := (-2)) hX dX9_limitFor_25 kb_m2 ?_
        exact s_iret hX hR dX9_limitFor_27 (Nat.le_of_ble_eq_true rfl) (Nat.le_of_ble_eq_true rfl)
      · refine s_aload_n hX dX9_limitFor_28 rfl ?_
        refine s_getO hX dX9_limitFor_29 q_424 rfl (fun j7 => ?_)
        refine s_iload_n hX dX9_limitFor_32 rfl ?_
        refine s_iload_n hX dX9_limitFor_33 rfl ?_
        refine s_callVi (ck1 := 0) (sk1 := 0) (ci := 2) hX dX9_limitFor_34 k_X3_annualFraction q_947 (c_X3_annualFraction n M6 j7 a1 a2) (by decide) rfl rfl rfl ⟨Nat.le_of_ble_eq_true rfl, Nat.le_of_ble_eq_true rfl⟩ ⟨(Nat.le_of_ble_eq_true rfl), (Nat.le_of_ble_eq_true rfl)⟩ (Nat.le_of_ble_eq_true rfl) rfl rfl (fun r8 M9 => ?_)
        refine s_istore3 hX dX9_limitFor_37 (by first | exact trivial | exact rfl) (Nat.le_of_ble_eq_true rfl) ?_
        refine s_aload_n hX dX9_limitFor_38 rfl ?_
        refine s_getO hX dX9_limitFor_39 q_424 rfl (fun j10 => ?_)
        refine s_iload_n hX dX9_limitFor_42 rfl ?_
        refine s_iload_n hX dX9_limitFor_43 rfl ?_
        refine s_callVr (ck1 := 0) (sk1 := 0) (ci := 2) hX dX9_limitFor_44 k_X3_ofYear q_951 (c_X3_ofYear n M9 j10 a1 a2) (by decide) rfl rfl rfl ⟨Nat.le_of_ble_eq_true rfl, Nat.le_of_ble_eq_true rfl⟩ ⟨(Nat.le_of_ble_eq_true rfl), (Nat.le_of_ble_eq_true rfl)⟩ (Nat.le_of_ble_eq_true rfl) rfl rfl (fun r11 M12 => ?_)
        refine s_iload_n hX dX9_limitFor_47 rfl ?_
        refine s_callVi (ck1 := 0) (sk1 := 0) (ci := 5) hX dX9_limitFor_48 k_X6_leastLimit q_1022 (c_X6_leastLimit n M12 r11 r8) (by decide) rfl rfl rfl ⟨Nat.le_of_ble_eq_true rfl, Nat.le_of_ble_eq_true rfl⟩ ⟨(Nat.le_of_ble_eq_true rfl), (Nat.le_of_ble_eq_true rfl)⟩ (Nat.le_of_ble_eq_true rfl) rfl rfl (fun r13 M14 => ?_)
        exact s_iret hX hR dX9_limitFor_51 (Nat.le_of_ble_eq_true rfl) (Nat.le_of_ble_eq_true rfl)
abbrev rm_X9_byBasis : Room := { frames := 5, cells := 0, slots := 0, locals := 117 }
theorem k_X9_byBasis : KYV yX9_byBasis cX9_byBasis 5 (some .int) 3 := ⟨⟨q_1029, q_1, by decide +kernel, by decide +kernel, by decide +kernel⟩, q_1027, q_1028⟩
set_option maxHeartbeats 4000000 in
set_option maxRecDepth 100000 in
theorem c_X9_byBasis (n : Nat) (M0 : MemT) (a0 : Nat) (a1 : Int32) (a2 : Int32) (a3 : Int32) : Ct iI yX9_byBasis cX9_byBasis 5 (some .int) rm_X9_byBasis [.ref a0, .int a1, .int a2, .int a3] M0 (g_X9_byBasis n M0 a0 a1 a2 a3) := by
  unfold g_X9_byBasis
  refine ct_intro RX9 1 [some (.ref a0), some (.int a1), some (.int a2), some (.int a3), none] rfl (by decide +kernel) rfl (Nat.le_of_ble_eq_true rfl) (fun X A hX hnm hR => ?_)
  refine s_aload_n hX dX9_byBasis_0 rfl ?_
  refine s_iload_n hX dX9_byBasis_1 rfl ?_
  refine s_callVi (ck1 := 0) (sk1 := 0) (ci := 7) hX dX9_byBasis_2 k_X9_isTrader q_720 (c_X9_isTrader n M0 a0 a1) (by decide) rfl rfl rfl ⟨Nat.le_of_ble_eq_true rfl, Nat.le_of_ble_eq_true rfl⟩ ⟨(Nat.le_of_ble_eq_true rfl), (Nat.le_of_ble_eq_true rfl)⟩ (Nat.le_of_ble_eq_true rfl) rfl rfl (fun r1 M2 => ?_)
  refine s_ifeq (tgt := 37) hX dX9_byBasis_5 rfl ?_ ?_
  · refine s_ldc hX dX9_byBasis_37 q_946 ?_
    exact s_iret hX hR dX9_byBasis_39 (Nat.le_of_ble_eq_true rfl) (Nat.le_of_ble_eq_true rfl)
  · refine s_iload_n hX dX9_byBasis_8 rfl ?_
    refine s_iconst (v := 0) hX dX9_byBasis_9 kc_0 ?_
    refine s_aload_n hX dX9_byBasis_10 rfl ?_
    refine s_getO hX dX9_byBasis_11 q_424 rfl (fun j3 => ?_)
    refine s_getO hX dX9_byBasis_14 q_392 rfl (fun j4 => ?_)
    refine s_getI hX dX9_byBasis_17 q_303 rfl (fun v5 => ?_)
    refine s_iconst (v := 1) hX dX9_byBasis_20 kc_1 ?_
    refine s_isub hX dX9_byBasis_21 ?_
    refine s_callSi (ck1 := 0) (sk1 := 0) hX dX9_byBasis_22 k_X9_isIn q_715 (c_X9_isIn n M2 a2 0 (v5 - 1)) rfl rfl ⟨Nat.le_of_ble_eq_true rfl, Nat.le_of_ble_eq_true rfl⟩ ⟨(Nat.le_of_ble_eq_true rfl), (Nat.le_of_ble_eq_true rfl)⟩ (Nat.le_of_ble_eq_true rfl) rfl rfl (fun r6 M7 => ?_)
    refine s_ifeq (tgt := 37) hX dX9_byBasis_25 rfl ?_ ?_
    · refine s_ldc hX dX9_byBasis_37 q_946 ?_
      exact s_iret hX hR dX9_byBasis_39 (Nat.le_of_ble_eq_true rfl) (Nat.le_of_ble_eq_true rfl)
    · refine s_iload_n hX dX9_byBasis_28 rfl ?_
      refine s_iconst (v := 0) hX dX9_byBasis_29 kc_0 ?_
      refine s_iconst (v := 1) hX dX9_byBasis_30 kc_1 ?_
      refine s_callSi (ck1 := 0) (sk1 := 0) hX dX9_byBasis_31 k_X9_isIn q_715 (c_X9_isIn n M7 a3 0 1) rfl rfl ⟨Nat.le_of_ble_eq_true rfl, Nat.le_of_ble_eq_true rfl⟩ ⟨(Nat.le_of_ble_eq_true rfl), (Nat.le_of_ble_eq_true rfl)⟩ (Nat.le_of_ble_eq_true rfl) rfl rfl (fun r8 M9 => ?_)
      refine s_ifne (tgt := 40) hX dX9_byBasis_34 rfl ?_ ?_
      · refine s_ldc hX dX9_byBasis_37 q_946 ?_
        exact s_iret hX hR dX9_byBasis_39 (Nat.le_of_ble_eq_true rfl) (Nat.le_of_ble_eq_true rfl)
      · refine s_aload_n hX dX9_byBasis_40 rfl ?_
        refine s_getO hX dX9_byBasis_41 q_424 rfl (fun j10 => ?_)
        refine s_iload_n hX dX9_byBasis_44 rfl ?_
        refine s_iload_n hX dX9_byBasis_45 rfl ?_
        refine s_iload_n hX dX9_byBasis_46 rfl ?_
        refine s_callVi (ck1 := 0) (sk1 := 0) (ci := 2) hX dX9_byBasis_47 k_X3_fractionByBasis q_928 (c_X3_fractionByBasis n M9 j10 a1 a2 a3) (by decide) rfl rfl rfl ⟨Nat.le_of_ble_eq_true rfl, Nat.le_of_ble_eq_true rfl⟩ ⟨(Nat.le_of_ble_eq_true rfl), (Nat.le_of_ble_eq_true rfl)⟩ (Nat.le_of_ble_eq_true rfl) rfl rfl (fun r11 M12 => ?_)
        refine s_istore4 hX dX9_byBasis_50 (by first | exact trivial | exact rfl) (Nat.le_of_ble_eq_true rfl) ?_
        refine s_aload_n hX dX9_byBasis_52 rfl ?_
        refine s_getO hX dX9_byBasis_53 q_424 rfl (fun j13 => ?_)
        refine s_iload_n hX dX9_byBasis_56 rfl ?_
        refine s_iload_n hX dX9_byBasis_57 rfl ?_
        refine s_callVr (ck1 := 0) (sk1 := 0) (ci := 2) hX dX9_byBasis_58 k_X3_ofQuarter q_1030 (c_X3_ofQuarter n M12 j13 a1 a2) (by decide) rfl rfl rfl ⟨Nat.le_of_ble_eq_true rfl, Nat.le_of_ble_eq_true rfl⟩ ⟨(Nat.le_of_ble_eq_true rfl), (Nat.le_of_ble_eq_true rfl)⟩ (Nat.le_of_ble_eq_true rfl) rfl rfl (fun r14 M15 => ?_)
        refine s_iload hX dX9_byBasis_61 rfl ?_
        refine s_callVi (ck1 := 0) (sk1 := 0) (ci := 5) hX dX9_byBasis_63 k_X6_backBy q_952 (c_X6_backBy n M15 r14 r11) (by decide) rfl rfl rfl ⟨Nat.le_of_ble_eq_true rfl, Nat.le_of_ble_eq_true rfl⟩ ⟨(Nat.le_of_ble_eq_true rfl), (Nat.le_of_ble_eq_true rfl)⟩ (Nat.le_of_ble_eq_true rfl) rfl rfl (fun r16 M17 => ?_)
        exact s_iret hX hR dX9_byBasis_66 (Nat.le_of_ble_eq_true rfl) (Nat.le_of_ble_eq_true rfl)
abbrev rm_X9_leader : Room := { frames := 6, cells := 0, slots := 0, locals := 138 }
theorem k_X9_leader : KYV yX9_leader cX9_leader 6 (some .int) 1 := ⟨⟨q_1034, q_1, by decide +kernel, by decide +kernel, by decide +kernel⟩, q_1032, q_1033⟩
set_option maxHeartbeats 4000000 in
set_option maxRecDepth 100000 in
theorem c_X9_leader (n : Nat) (M0 : MemT) (a0 : Nat) (a1 : Int32) : Ct iI yX9_leader cX9_leader 6 (some .int) rm_X9_leader [.ref a0, .int a1] M0 (g_X9_leader n M0 a0 a1) := by
  unfold g_X9_leader
  refine ct_intro RX9 4 [some (.ref a0), some (.int a1), none, none, none, none] rfl (by decide +kernel) rfl (Nat.le_of_ble_eq_true rfl) (fun X A hX hnm hR => ?_)
  refine s_iload_n hX dX9_leader_0 rfl ?_
  refine s_callSi (ck1 := 0) (sk1 := 0) hX dX9_leader_1 k_X9_isYear q_1003 (c_X9_isYear n M0 a1) rfl rfl ⟨Nat.le_of_ble_eq_true rfl, Nat.le_of_ble_eq_true rfl⟩ ⟨(Nat.le_of_ble_eq_true rfl), (Nat.le_of_ble_eq_true rfl)⟩ (Nat.le_of_ble_eq_true rfl) rfl rfl (fun r1 M2 => ?_)
  refine s_ifne (tgt := 9) hX dX9_leader_4 rfl ?_ ?_
  · refine s_iconst (v := (-1)) hX dX9_leader_7 kc_m1 ?_
    exact s_iret hX hR dX9_leader_8 (Nat.le_of_ble_eq_true rfl) (Nat.le_of_ble_eq_true rfl)
  · refine s_aload_n hX dX9_leader_9 rfl ?_
    refine s_iload_n hX dX9_leader_10 rfl ?_
    refine s_callVi (ck1 := 0) (sk1 := 0) (ci := 7) hX dX9_leader_11 k_X9_isBegun q_941 (c_X9_isBegun n M2 a0 a1) (by decide) rfl rfl rfl ⟨Nat.le_of_ble_eq_true rfl, Nat.le_of_ble_eq_true rfl⟩ ⟨(Nat.le_of_ble_eq_true rfl), (Nat.le_of_ble_eq_true rfl)⟩ (Nat.le_of_ble_eq_true rfl) rfl rfl (fun r3 M4 => ?_)
    refine s_ifne (tgt := 20) hX dX9_leader_14 rfl ?_ ?_
    · refine s_bipush (v := (-2)) hX dX9_leader_17 kb_m2 ?_
      exact s_iret hX hR dX9_leader_19 (Nat.le_of_ble_eq_true rfl) (Nat.le_of_ble_eq_true rfl)
    · refine s_bipush (v := (-2)) hX dX9_leader_20 kb_m2 ?_
      refine s_istore2 hX dX9_leader_22 (by first | exact trivial | exact rfl) (Nat.le_of_ble_eq_true rfl) ?_
      refine s_iconst (v := (-1)) hX dX9_leader_23 kc_m1 ?_
      refine s_istore3 hX dX9_leader_24 (by first | exact trivial | exact rfl) (Nat.le_of_ble_eq_true rfl) ?_
      refine s_iconst (v := 0) hX dX9_leader_25 kc_0 ?_
      refine s_istore4 hX dX9_leader_26 (by first | exact trivial | exact rfl) (Nat.le_of_ble_eq_true rfl) ?_
      refine s_loopE (stk := []) (fun (s : MemT × Int32 × Int32 × Int32) => [some (.ref a0), some (.int a1), some (.int s.2.1), some (.int s.2.2.1), some (.int s.2.2.2), none]) (fun (s : MemT × Int32 × Int32 × Int32) => s.1) 73 (fun (s : MemT × Int32 × Int32 × Int32) => [some (.ref a0), some (.int a1), some (.int s.2.1), some (.int s.2.2.1), some (.int s.2.2.2), none]) (fun s B9 hB9 hE9 => ?_) (fun s => ?_) n (M4, (-2), (-1), 0)
      · obtain ⟨M5, v6, v7, v8⟩ := s
        dsimp only
        refine s_iload hX dX9_leader_28 rfl ?_
        refine s_aload_n hX dX9_leader_30 rfl ?_
        refine s_getO hX dX9_leader_31 q_424 rfl (fun j10 => ?_)
        refine s_getO hX dX9_leader_34 q_390 rfl (fun j11 => ?_)
        refine s_getI hX dX9_leader_37 q_104 rfl (fun v12 => ?_)
        refine s_icge (tgt := 73) hX dX9_leader_40 rfl ?_ ?_
        · exact s_exit hE9
        · refine s_aload_n hX dX9_leader_43 rfl ?_
          refine s_getO hX dX9_leader_44 q_424 rfl (fun j13 => ?_)
          refine s_iload hX dX9_leader_47 rfl ?_
          refine s_iload_n hX dX9_leader_49 rfl ?_
          refine s_callVi (ck1 := 0) (sk1 := 0) (ci := 2) hX dX9_leader_50 k_X3_yearBack q_1035 (c_X3_yearBack n M5 j13 v8 a1) (by decide) rfl rfl rfl ⟨Nat.le_of_ble_eq_true rfl, Nat.le_of_ble_eq_true rfl⟩ ⟨(Nat.le_of_ble_eq_true rfl), (Nat.le_of_ble_eq_true rfl)⟩ (Nat.le_of_ble_eq_true rfl) rfl rfl (fun r14 M15 => ?_)
          refine s_istore5 hX dX9_leader_53 (by first | exact trivial | exact rfl) (Nat.le_of_ble_eq_true rfl) ?_
          refine s_iload hX dX9_leader_55 rfl ?_
          refine s_iload_n hX dX9_leader_57 rfl ?_
          refine s_icle (tgt := 67) hX dX9_leader_58 rfl ?_ ?_
          · refine s_iinc4 (v := v8 + 1) hX dX9_leader_67 rfl (by first | exact trivial | exact rfl) (Nat.le_of_ble_eq_true rfl) ?_
            refine s_goto (tgt := 28) hX dX9_leader_70 rfl ?_
            refine s_forget (loc1 := [some (.ref a0), some (.int a1), some (.int v6), some (.int v7), some (.int (v8 + 1)), none]) ⟨rfl, rfl, rfl, rfl, rfl, trivial⟩ ?_
            exact s_back hB9
          · refine s_iload hX dX9_leader_61 rfl ?_
            refine s_istore3 hX dX9_leader_63 (by first | exact trivial | exact rfl) (Nat.le_of_ble_eq_true rfl) ?_
            refine s_iload hX dX9_leader_64 rfl ?_
            refine s_istore2 hX dX9_leader_66 (by first | exact trivial | exact rfl) (Nat.le_of_ble_eq_true rfl) ?_
            refine s_iinc4 (v := v8 + 1) hX dX9_leader_67 rfl (by first | exact trivial | exact rfl) (Nat.le_of_ble_eq_true rfl) ?_
            refine s_goto (tgt := 28) hX dX9_leader_70 rfl ?_
            refine s_forget (loc1 := [some (.ref a0), some (.int a1), some (.int v8), some (.int r14), some (.int (v8 + 1)), none]) ⟨rfl, rfl, rfl, rfl, rfl, trivial⟩ ?_
            exact s_back hB9
      · obtain ⟨M16, v17, v18, v19⟩ := s
        dsimp only
        refine s_iload_n hX dX9_leader_73 rfl ?_
        exact s_iret hX hR dX9_leader_74 (Nat.le_of_ble_eq_true rfl) (Nat.le_of_ble_eq_true rfl)
abbrev rm_X9_rise : Room := { frames := 2, cells := 0, slots := 0, locals := 43 }
theorem k_X9_rise : KYV yX9_rise cX9_rise 7 (some .int) 1 := ⟨⟨q_1039, q_1, by decide +kernel, by decide +kernel, by decide +kernel⟩, q_1037, q_1038⟩
set_option maxHeartbeats 4000000 in
set_option maxRecDepth 100000 in
theorem c_X9_rise (n : Nat) (M0 : MemT) (a0 : Nat) (a1 : Int32) : Ct iI yX9_rise cX9_rise 7 (some .int) rm_X9_rise [.ref a0, .int a1] M0 (g_X9_rise n M0 a0 a1) := by
  unfold g_X9_rise
  refine ct_intro RX9 5 [some (.ref a0), some (.int a1), none, none, none, none, none] rfl (by decide +kernel) rfl (Nat.le_of_ble_eq_true rfl) (fun X A hX hnm hR => ?_)
  refine s_aload_n hX dX9_rise_0 rfl ?_
  refine s_iload_n hX dX9_rise_1 rfl ?_
  refine s_callVi (ck1 := 0) (sk1 := 0) (ci := 7) hX dX9_rise_2 k_X9_isTrader q_720 (c_X9_isTrader n M0 a0 a1) (by decide) rfl rfl rfl ⟨Nat.le_of_ble_eq_true rfl, Nat.le_of_ble_eq_true rfl⟩ ⟨(Nat.le_of_ble_eq_true rfl), (Nat.le_of_ble_eq_true rfl)⟩ (Nat.le_of_ble_eq_true rfl) rfl rfl (fun r1 M2 => ?_)
  refine s_ifne (tgt := 10) hX dX9_rise_5 rfl ?_ ?_
  · refine s_iconst (v := (-1)) hX dX9_rise_8 kc_m1 ?_
    exact s_iret hX hR dX9_rise_9 (Nat.le_of_ble_eq_true rfl) (Nat.le_of_ble_eq_true rfl)
  · refine s_iconst (v := 0) hX dX9_rise_10 kc_0 ?_
    refine s_istore2 hX dX9_rise_11 (by first | exact trivial | exact rfl) (Nat.le_of_ble_eq_true rfl) ?_
    refine s_iconst (v := 0) hX dX9_rise_12 kc_0 ?_
    refine s_istore3 hX dX9_rise_13 (by first | exact trivial | exact rfl) (Nat.le_of_ble_eq_true rfl) ?_
    refine s_iconst (v := (-1)) hX dX9_rise_14 kc_m1 ?_
    refine s_istore4 hX dX9_rise_15 (by first | exact trivial | exact rfl) (Nat.le_of_ble_eq_true rfl) ?_
    refine s_iconst (v := 0) hX dX9_rise_17 kc_0 ?_
    refine s_istore5 hX dX9_rise_18 (by first | exact trivial | exact rfl) (Nat.le_of_ble_eq_true rfl) ?_
    refine s_loopE (stk := []) (fun (s : MemT × Int32 × Int32 × Int32 × Int32) => [some (.ref a0), some (.int a1), some (.int s.2.1), some (.int s.2.2.1), some (.int s.2.2.2.1), some (.int s.2.2.2.2), none]) (fun (s : MemT × Int32 × Int32 × Int32 × Int32) => s.1) 81 (fun (s : MemT × Int32 × Int32 × Int32 × Int32) => [some (.ref a0), some (.int a1), some (.int s.2.1), some (.int s.2.2.1), some (.int s.2.2.2.1), some (.int s.2.2.2.2), none]) (fun s B8 hB8 hE8 => ?_) (fun s => ?_) n (M2, 0, 0, (-1), 0)
    · obtain ⟨M3, v4, v5, v6, v7⟩ := s
      dsimp only
      refine s_iload hX dX9_rise_20 rfl ?_
      refine s_aload_n hX dX9_rise_22 rfl ?_
      refine s_getO hX dX9_rise_23 q_424 rfl (fun j9 => ?_)
      refine s_getO hX dX9_rise_26 q_392 rfl (fun j10 => ?_)
      refine s_getI hX dX9_rise_29 q_303 rfl (fun v11 => ?_)
      refine s_icge (tgt := 81) hX dX9_rise_32 rfl ?_ ?_
      · exact s_exit hE8
      · refine s_aload_n hX dX9_rise_35 rfl ?_
        refine s_getO hX dX9_rise_36 q_424 rfl (fun j12 => ?_)
        refine s_getO hX dX9_rise_39 q_392 rfl (fun j13 => ?_)
        refine s_iload_n hX dX9_rise_42 rfl ?_
        refine s_iload hX dX9_rise_43 rfl ?_
        refine s_callVi (ck1 := 0) (sk1 := 0) (ci := 1) hX dX9_rise_45 k_X2_recoveredIn q_933 (c_X2_recoveredIn n M3 j13 a1 v7) (by decide) rfl rfl rfl ⟨Nat.le_of_ble_eq_true rfl, Nat.le_of_ble_eq_true rfl⟩ ⟨(Nat.le_of_ble_eq_true rfl), (Nat.le_of_ble_eq_true rfl)⟩ (Nat.le_of_ble_eq_true rfl) rfl rfl (fun r14 M15 => ?_)
        refine s_istore6 hX dX9_rise_48 (by first | exact trivial | exact rfl) (Nat.le_of_ble_eq_true rfl) ?_
        refine s_iload hX dX9_rise_50 rfl ?_
        refine s_iload hX dX9_rise_52 rfl ?_
        refine s_jp (fun (s : MemT × Int32) => [some (.ref a0), some (.int a1), some (.int v4), some (.int v5), some (.int v6), some (.int v7), some (.int r14)]) (fun (s : MemT × Int32) => [.int s.2]) (fun (s : MemT × Int32) => s.1) 0 0 64 (fun s => ?_) (fun K16 hK16 => ?_)
        · obtain ⟨M17, v18⟩ := s
          dsimp only
          refine s_istore3 hX dX9_rise_64 (by first | exact trivial | exact rfl) (Nat.le_of_ble_eq_true rfl) ?_
          refine s_iload hX dX9_rise_65 rfl ?_
          refine s_istore4 hX dX9_rise_67 (by first | exact trivial | exact rfl) (Nat.le_of_ble_eq_true rfl) ?_
          refine s_iload_n hX dX9_rise_69 rfl ?_
          refine s_iload_n hX dX9_rise_70 rfl ?_
          refine s_mmax hX dX9_rise_71 q_1040 q_1041 q_10 q_1042 (Nat.le_of_ble_eq_true rfl) (Nat.le_of_ble_eq_true rfl) (Nat.le_of_ble_eq_true rfl) (Nat.le_of_ble_eq_true rfl) ?_
          refine s_istore2 hX dX9_rise_74 (by first | exact trivial | exact rfl) (Nat.le_of_ble_eq_true rfl) ?_
          refine s_iinc5 (v := v7 + 1) hX dX9_rise_75 rfl (by first | exact trivial | exact rfl) (Nat.le_of_ble_eq_true rfl) ?_
          refine s_goto (tgt := 20) hX dX9_rise_78 rfl ?_
          refine s_forget (loc1 := [some (.ref a0), some (.int a1), some (.int (if v4 < v18 then v18 else v4)), some (.int v18), some (.int r14), some (.int (v7 + 1)), none]) ⟨rfl, rfl, rfl, rfl, rfl, rfl, trivial⟩ ?_
          exact s_back hB8
        · refine s_icle (tgt := 63) hX dX9_rise_54 rfl ?_ ?_
          · refine s_iconst (v := 1) hX dX9_rise_63 kc_1 ?_
            exact hK16 _
          · refine s_iload_n hX dX9_rise_57 rfl ?_
            refine s_iconst (v := 1) hX dX9_rise_58 kc_1 ?_
            refine s_iadd hX dX9_rise_59 ?_
            refine s_goto (tgt := 64) hX dX9_rise_60 rfl ?_
            exact hK16 _
    · obtain ⟨M19, v20, v21, v22, v23⟩ := s
      dsimp only
      refine s_iload_n hX dX9_rise_81 rfl ?_
      exact s_iret hX hR dX9_rise_82 (Nat.le_of_ble_eq_true rfl) (Nat.le_of_ble_eq_true rfl)
abbrev rm_X9_need : Room := { frames := 4, cells := 0, slots := 0, locals := 94 }
theorem k_X9_need : KYV yX9_need cX9_need 8 (some .int) 2 := ⟨⟨q_1046, q_1, by decide +kernel, by decide +kernel, by decide +kernel⟩, q_1044, q_1045⟩
set_option maxHeartbeats 4000000 in
set_option maxRecDepth 100000 in
theorem c_X9_need (n : Nat) (M0 : MemT) (a0 : Nat) (a1 : Int32) (a2 : Int32) : Ct iI yX9_need cX9_need 8 (some .int) rm_X9_need [.ref a0, .int a1, .int a2] M0 (g_X9_need n M0 a0 a1 a2) := by
  unfold g_X9_need
  refine ct_intro RX9 5 [some (.ref a0), some (.int a1), some (.int a2), none, none, none, none, none] rfl (by decide +kernel) rfl (Nat.le_of_ble_eq_true rfl) (fun X A hX hnm hR => ?_)
  refine s_aload_n hX dX9_need_0 rfl ?_
  refine s_iload_n hX dX9_need_1 rfl ?_
  refine s_callVi (ck1 := 0) (sk1 := 0) (ci := 7) hX dX9_need_2 k_X9_isTrader q_720 (c_X9_isTrader n M0 a0 a1) (by decide) rfl rfl rfl ⟨Nat.le_of_ble_eq_true rfl, Nat.le_of_ble_eq_true rfl⟩ ⟨(Nat.le_of_ble_eq_true rfl), (Nat.le_of_ble_eq_true rfl)⟩ (Nat.le_of_ble_eq_true rfl) rfl rfl (fun r1 M2 => ?_)
  refine s_ifeq (tgt := 26) hX dX9_need_5 rfl ?_ ?_
  · refine s_iconst (v := (-1)) hX dX9_need_26 kc_m1 ?_
    exact s_iret hX hR dX9_need_27 (Nat.le_of_ble_eq_true rfl) (Nat.le_of_ble_eq_true rfl)
  · refine s_iload_n hX dX9_need_8 rfl ?_
    refine s_iconst (v := 0) hX dX9_need_9 kc_0 ?_
    refine s_aload_n hX dX9_need_10 rfl ?_
    refine s_getO hX dX9_need_11 q_424 rfl (fun j3 => ?_)
    refine s_getO hX dX9_need_14 q_390 rfl (fun j4 => ?_)
    refine s_getI hX dX9_need_17 q_129 rfl (fun v5 => ?_)
    refine s_callSi (ck1 := 0) (sk1 := 0) hX dX9_need_20 k_X9_isIn q_715 (c_X9_isIn n M2 a2 0 v5) rfl rfl ⟨Nat.le_of_ble_eq_true rfl, Nat.le_of_ble_eq_true rfl⟩ ⟨(Nat.le_of_ble_eq_true rfl), (Nat.le_of_ble_eq_true rfl)⟩ (Nat.le_of_ble_eq_true rfl) rfl rfl (fun r6 M7 => ?_)
    refine s_ifne (tgt := 28) hX dX9_need_23 rfl ?_ ?_
    · refine s_iconst (v := (-1)) hX dX9_need_26 kc_m1 ?_
      exact s_iret hX hR dX9_need_27 (Nat.le_of_ble_eq_true rfl) (Nat.le_of_ble_eq_true rfl)
    · refine s_aload_n hX dX9_need_28 rfl ?_
      refine s_getO hX dX9_need_29 q_424 rfl (fun j8 => ?_)
      refine s_getO hX dX9_need_32 q_390 rfl (fun j9 => ?_)
      refine s_getO hX dX9_need_35 q_108 rfl (fun j10 => ?_)
      refine s_iload_n hX dX9_need_38 rfl ?_
      refine s_iald hX dX9_need_39 (fun v11 => ?_)
      refine s_ifeq (tgt := 46) hX dX9_need_40 rfl ?_ ?_
      · refine s_aload_n hX dX9_need_46 rfl ?_
        refine s_getO hX dX9_need_47 q_424 rfl (fun j12 => ?_)
        refine s_iload_n hX dX9_need_50 rfl ?_
        refine s_aload_n hX dX9_need_51 rfl ?_
        refine s_getO hX dX9_need_52 q_424 rfl (fun j13 => ?_)
        refine s_callVi (ck1 := 0) (sk1 := 0) (ci := 2) hX dX9_need_55 k_X3_thisYear q_945 (c_X3_thisYear n M7 j13) (by decide) rfl rfl rfl ⟨Nat.le_of_ble_eq_true rfl, Nat.le_of_ble_eq_true rfl⟩ ⟨(Nat.le_of_ble_eq_true rfl), (Nat.le_of_ble_eq_true rfl)⟩ (Nat.le_of_ble_eq_true rfl) rfl rfl (fun r14 M15 => ?_)
        refine s_callVr (ck1 := 0) (sk1 := 0) (ci := 2) hX dX9_need_58 k_X3_ofYear q_951 (c_X3_ofYear n M15 j12 a1 r14) (by decide) rfl rfl rfl ⟨Nat.le_of_ble_eq_true rfl, Nat.le_of_ble_eq_true rfl⟩ ⟨(Nat.le_of_ble_eq_true rfl), (Nat.le_of_ble_eq_true rfl)⟩ (Nat.le_of_ble_eq_true rfl) rfl rfl (fun r16 M17 => ?_)
        refine s_astore3 hX dX9_need_61 (by first | exact trivial | exact rfl) (Nat.le_of_ble_eq_true rfl) ?_
        refine s_aload_n hX dX9_need_62 rfl ?_
        refine s_ldcw hX dX9_need_63 q_1047 ?_
        refine s_callVi (ck1 := 0) (sk1 := 0) (ci := 5) hX dX9_need_66 k_X6_fractionWithSales q_1048 (c_X6_fractionWithSales n M17 r16 99999999) (by decide) rfl rfl rfl ⟨Nat.le_of_ble_eq_true rfl, Nat.le_of_ble_eq_true rfl⟩ ⟨(Nat.le_of_ble_eq_true rfl), (Nat.le_of_ble_eq_true rfl)⟩ (Nat.le_of_ble_eq_true rfl) rfl rfl (fun r18 M19 => ?_)
        refine s_iload_n hX dX9_need_69 rfl ?_
        refine s_icge (tgt := 76) hX dX9_need_70 rfl ?_ ?_
        · refine s_iconst (v := 0) hX dX9_need_76 kc_0 ?_
          refine s_istore4 hX dX9_need_77 (by first | exact trivial | exact rfl) (Nat.le_of_ble_eq_true rfl) ?_
          refine s_ldcw hX dX9_need_79 q_1047 ?_
          refine s_istore5 hX dX9_need_82 (by first | exact trivial | exact rfl) (Nat.le_of_ble_eq_true rfl) ?_
          refine s_iconst (v := 0) hX dX9_need_84 kc_0 ?_
          refine s_istore6 hX dX9_need_85 (by first | exact trivial | exact rfl) (Nat.le_of_ble_eq_true rfl) ?_
          refine s_loopE (stk := []) (fun (s : MemT × Int32 × Int32 × Int32) => [some (.ref a0), some (.int a1), some (.int a2), some (.ref r16), some (.int s.2.1), some (.int s.2.2.1), some (.int s.2.2.2), none]) (fun (s : MemT × Int32 × Int32 × Int32) => s.1) 139 (fun (s : MemT × Int32 × Int32 × Int32) => [some (.ref a0), some (.int a1), some (.int a2), some (.ref r16), some (.int s.2.1), some (.int s.2.2.1), some (.int s.2.2.2), none]) (fun s B24 hB24 hE24 => ?_) (fun s => ?_) n (M19, 0, 99999999, 0)
          · obtain ⟨M20, v21, v22, v23⟩ := s
            dsimp only
            refine s_iload hX dX9_need_87 rfl ?_
            refine s_bipush (v := 32) hX dX9_need_89 kb_32 ?_
            refine s_icge (tgt := 139) hX dX9_need_91 rfl ?_ ?_
            · exact s_exit hE24
            · refine s_iload hX dX9_need_94 rfl ?_
              refine s_iload hX dX9_need_96 rfl ?_
              refine s_icge (tgt := 139) hX dX9_need_98 rfl ?_ ?_
              · exact s_exit hE24
              · refine s_iload hX dX9_need_101 rfl ?_
                refine s_iload hX dX9_need_103 rfl ?_
                refine s_iadd hX dX9_need_105 ?_
                refine s_iconst (v := 2) hX dX9_need_106 kc_2 ?_
                refine s_idiv hX dX9_need_107 ?_
                refine s_istore7 hX dX9_need_108 (by first | exact trivial | exact rfl) (Nat.le_of_ble_eq_true rfl) ?_
                refine s_aload_n hX dX9_need_110 rfl ?_
                refine s_iload hX dX9_need_111 rfl ?_
                refine s_callVi (ck1 := 0) (sk1 := 0) (ci := 5) hX dX9_need_113 k_X6_fractionWithSales q_1048 (c_X6_fractionWithSales n M20 r16 ((v21 + v22) / 2)) (by decide) rfl rfl rfl ⟨Nat.le_of_ble_eq_true rfl, Nat.le_of_ble_eq_true rfl⟩ ⟨(Nat.le_of_ble_eq_true rfl), (Nat.le_of_ble_eq_true rfl)⟩ (Nat.le_of_ble_eq_true rfl) rfl rfl (fun r25 M26 => ?_)
                refine s_iload_n hX dX9_need_116 rfl ?_
                refine s_iclt (tgt := 127) hX dX9_need_117 rfl ?_ ?_
                · refine s_iload hX dX9_need_127 rfl ?_
                  refine s_iconst (v := 1) hX dX9_need_129 kc_1 ?_
                  refine s_iadd hX dX9_need_130 ?_
                  refine s_istore4 hX dX9_need_131 (by first | exact trivial | exact rfl) (Nat.le_of_ble_eq_true rfl) ?_
                  refine s_iinc6 (v := v23 + 1) hX dX9_need_133 rfl (by first | exact trivial | exact rfl) (Nat.le_of_ble_eq_true rfl) ?_
                  refine s_goto (tgt := 87) hX dX9_need_136 rfl ?_
                  refine s_forget (loc1 := [some (.ref a0), some (.int a1), some (.int a2), some (.ref r16), some (.int (((v21 + v22) / 2) + 1)), some (.int v22), some (.int (v23 + 1)), none]) ⟨rfl, rfl, rfl, rfl, rfl, rfl, rfl, trivial⟩ ?_
                  exact s_back hB24
                · refine s_iload hX dX9_need_120 rfl ?_
                  refine s_istore5 hX dX9_need_122 (by first | exact trivial | exact rfl) (Nat.le_of_ble_eq_true rfl) ?_
                  refine s_goto (tgt := 133) hX dX9_need_124 rfl ?_
                  refine s_iinc6 (v := v23 + 1) hX dX9_need_133 rfl (by first | exact trivial | exact rfl) (Nat.le_of_ble_eq_true rfl) ?_
                  refine s_goto (tgt := 87) hX dX9_need_136 rfl ?_
                  refine s_forget (loc1 := [some (.ref a0), some (.int a1), some (.int a2), some (.ref r16), some (.int v21), some (.int ((v21 + v22) / 2)), some (.int (v23 + 1)), none]) ⟨rfl, rfl, rfl, rfl, rfl, rfl, rfl, trivial⟩ ?_
                  exact s_back hB24
          · obtain ⟨M27, v28, v29, v30⟩ := s
            dsimp only
            refine s_iload hX dX9_need_139 rfl ?_
            exact s_iret hX hR dX9_need_141 (Nat.le_of_ble_eq_true rfl) (Nat.le_of_ble_eq_true rfl)
        · refine s_bipush (v := (-2)) hX dX9_need_73 kb_m2 ?_
          exact s_iret hX hR dX9_need_75 (Nat.le_of_ble_eq_true rfl) (Nat.le_of_ble_eq_true rfl)
      · refine s_bipush (v := (-2)) hX dX9_need_43 kb_m2 ?_
        exact s_iret hX hR dX9_need_45 (Nat.le_of_ble_eq_true rfl) (Nat.le_of_ble_eq_true rfl)
abbrev rm_X9_room : Room := { frames := 4, cells := 0, slots := 0, locals := 93 }
theorem k_X9_room : KYV yX9_room cX9_room 5 (some .int) 2 := ⟨⟨q_1055, q_1, by decide +kernel, by decide +kernel, by decide +kernel⟩, q_1053, q_1054⟩
set_option maxHeartbeats 4000000 in
set_option maxRecDepth 100000 in
theorem c_X9_room (n : Nat) (M0 : MemT) (a0 : Nat) (a1 : Int32) (a2 : Int32) : Ct iI yX9_room cX9_room 5 (some .int) rm_X9_room [.ref a0, .int a1, .int a2] M0 (g_X9_room n M0 a0 a1 a2) := by
  unfold g_X9_room
  refine ct_intro RX9 2 [some (.ref a0), some (.int a1), some (.int a2), none, none] rfl (by decide +kernel) rfl (Nat.le_of_ble_eq_true rfl) (fun X A hX hnm hR => ?_)
  refine s_aload_n hX dX9_room_0 rfl ?_
  refine s_iload_n hX dX9_room_1 rfl ?_
  refine s_callVi (ck1 := 0) (sk1 := 0) (ci := 7) hX dX9_room_2 k_X9_isTrader q_720 (c_X9_isTrader n M0 a0 a1) (by decide) rfl rfl rfl ⟨Nat.le_of_ble_eq_true rfl, Nat.le_of_ble_eq_true rfl⟩ ⟨(Nat.le_of_ble_eq_true rfl), (Nat.le_of_ble_eq_true rfl)⟩ (Nat.le_of_ble_eq_true rfl) rfl rfl (fun r1 M2 => ?_)
  refine s_ifeq (tgt := 17) hX dX9_room_5 rfl ?_ ?_
  · refine s_iconst (v := (-1)) hX dX9_room_17 kc_m1 ?_
    exact s_iret hX hR dX9_room_18 (Nat.le_of_ble_eq_true rfl) (Nat.le_of_ble_eq_true rfl)
  · refine s_iload_n hX dX9_room_8 rfl ?_
    refine s_iconst (v := 0) hX dX9_room_9 kc_0 ?_
    refine s_iconst (v := 2) hX dX9_room_10 kc_2 ?_
    refine s_callSi (ck1 := 0) (sk1 := 0) hX dX9_room_11 k_X9_isIn q_715 (c_X9_isIn n M2 a2 0 2) rfl rfl ⟨Nat.le_of_ble_eq_true rfl, Nat.le_of_ble_eq_true rfl⟩ ⟨(Nat.le_of_ble_eq_true rfl), (Nat.le_of_ble_eq_true rfl)⟩ (Nat.le_of_ble_eq_true rfl) rfl rfl (fun r3 M4 => ?_)
    refine s_ifne (tgt := 19) hX dX9_room_14 rfl ?_ ?_
    · refine s_iconst (v := (-1)) hX dX9_room_17 kc_m1 ?_
      exact s_iret hX hR dX9_room_18 (Nat.le_of_ble_eq_true rfl) (Nat.le_of_ble_eq_true rfl)
    · refine s_aload_n hX dX9_room_19 rfl ?_
      refine s_getO hX dX9_room_20 q_424 rfl (fun j5 => ?_)
      refine s_iload_n hX dX9_room_23 rfl ?_
      refine s_aload_n hX dX9_room_24 rfl ?_
      refine s_getO hX dX9_room_25 q_424 rfl (fun j6 => ?_)
      refine s_callVi (ck1 := 0) (sk1 := 0) (ci := 2) hX dX9_room_28 k_X3_thisYear q_945 (c_X3_thisYear n M4 j6) (by decide) rfl rfl rfl ⟨Nat.le_of_ble_eq_true rfl, Nat.le_of_ble_eq_true rfl⟩ ⟨(Nat.le_of_ble_eq_true rfl), (Nat.le_of_ble_eq_true rfl)⟩ (Nat.le_of_ble_eq_true rfl) rfl rfl (fun r7 M8 => ?_)
      refine s_callVr (ck1 := 0) (sk1 := 0) (ci := 2) hX dX9_room_31 k_X3_ofYear q_951 (c_X3_ofYear n M8 j5 a1 r7) (by decide) rfl rfl rfl ⟨Nat.le_of_ble_eq_true rfl, Nat.le_of_ble_eq_true rfl⟩ ⟨(Nat.le_of_ble_eq_true rfl), (Nat.le_of_ble_eq_true rfl)⟩ (Nat.le_of_ble_eq_true rfl) rfl rfl (fun r9 M10 => ?_)
      refine s_astore3 hX dX9_room_34 (by first | exact trivial | exact rfl) (Nat.le_of_ble_eq_true rfl) ?_
      refine s_aload_n hX dX9_room_35 rfl ?_
      refine s_aload_n hX dX9_room_36 rfl ?_
      refine s_callVi (ck1 := 0) (sk1 := 0) (ci := 5) hX dX9_room_37 k_X6_fraction q_998 (c_X6_fraction n M10 r9) (by decide) rfl rfl rfl ⟨Nat.le_of_ble_eq_true rfl, Nat.le_of_ble_eq_true rfl⟩ ⟨(Nat.le_of_ble_eq_true rfl), (Nat.le_of_ble_eq_true rfl)⟩ (Nat.le_of_ble_eq_true rfl) rfl rfl (fun r11 M12 => ?_)
      refine s_callVi (ck1 := 0) (sk1 := 0) (ci := 5) hX dX9_room_40 k_X6_isSmall q_953 (c_X6_isSmall n M12 r9 r11) (by decide) rfl rfl rfl ⟨Nat.le_of_ble_eq_true rfl, Nat.le_of_ble_eq_true rfl⟩ ⟨(Nat.le_of_ble_eq_true rfl), (Nat.le_of_ble_eq_true rfl)⟩ (Nat.le_of_ble_eq_true rfl) rfl rfl (fun r13 M14 => ?_)
      refine s_ifne (tgt := 49) hX dX9_room_43 rfl ?_ ?_
      · refine s_bipush (v := (-2)) hX dX9_room_46 kb_m2 ?_
        exact s_iret hX hR dX9_room_48 (Nat.le_of_ble_eq_true rfl) (Nat.le_of_ble_eq_true rfl)
      · refine s_iconst (v := 1) hX dX9_room_49 kc_1 ?_
        refine s_istore4 hX dX9_room_50 (by first | exact trivial | exact rfl) (Nat.le_of_ble_eq_true rfl) ?_
        refine s_loop (stk := []) (fun (s : MemT × Int32) => [some (.ref a0), some (.int a1), some (.int a2), some (.ref r9), some (.int s.2)]) (fun (s : MemT × Int32) => s.1) (fun s B17 hB17 hI17 => ?_) n (M14, 1)
        obtain ⟨M15, v16⟩ := s
        dsimp only
        refine s_iload hX dX9_room_52 rfl ?_
        refine s_sipush (v := 9999) hX dX9_room_54 ks_9999 ?_
        refine s_icgt (tgt := 94) hX dX9_room_57 rfl ?_ ?_
        · refine s_sipush (v := 9999) hX dX9_room_94 ks_9999 ?_
          exact s_inr hI17 (s_iret hX hR dX9_room_97 (Nat.le_of_ble_eq_true rfl) (Nat.le_of_ble_eq_true rfl))
        · refine s_aload_n hX dX9_room_60 rfl ?_
          refine s_getO hX dX9_room_61 q_357 rfl (fun j18 => ?_)
          refine s_iconst (v := 2) hX dX9_room_64 kc_2 ?_
          refine s_iload_n hX dX9_room_65 rfl ?_
          refine s_iadd hX dX9_room_66 ?_
          refine s_dup2 hX dX9_room_67 rfl rfl ?_
          refine s_lald hX dX9_room_68 (fun v19 => ?_)
          refine s_lconst (v := 1) hX dX9_room_69 rfl ?_
          refine s_ladd hX dX9_room_70 ?_
          refine s_last hX dX9_room_71 (fun M20 => ?_)
          refine s_aload_n hX dX9_room_72 rfl ?_
          refine s_aload_n hX dX9_room_73 rfl ?_
          refine s_callVi (ck1 := 0) (sk1 := 0) (ci := 5) hX dX9_room_74 k_X6_fraction q_998 (c_X6_fraction n M20 r9) (by decide) rfl rfl rfl ⟨Nat.le_of_ble_eq_true rfl, Nat.le_of_ble_eq_true rfl⟩ ⟨(Nat.le_of_ble_eq_true rfl), (Nat.le_of_ble_eq_true rfl)⟩ (Nat.le_of_ble_eq_true rfl) rfl rfl (fun r21 M22 => ?_)
          refine s_callVi (ck1 := 0) (sk1 := 0) (ci := 5) hX dX9_room_77 k_X6_isSmall q_953 (c_X6_isSmall n M22 r9 r21) (by decide) rfl rfl rfl ⟨Nat.le_of_ble_eq_true rfl, Nat.le_of_ble_eq_true rfl⟩ ⟨(Nat.le_of_ble_eq_true rfl), (Nat.le_of_ble_eq_true rfl)⟩ (Nat.le_of_ble_eq_true rfl) rfl rfl (fun r23 M24 => ?_)
          refine s_ifne (tgt := 88) hX dX9_room_80 rfl ?_ ?_
          · refine s_iload hX dX9_room_83 rfl ?_
            refine s_iconst (v := 1) hX dX9_room_85 kc_1 ?_
            refine s_isub hX dX9_room_86 ?_
            exact s_inr hI17 (s_iret hX hR dX9_room_87 (Nat.le_of_ble_eq_true rfl) (Nat.le_of_ble_eq_true rfl))
          · refine s_iinc4 (v := v16 + 1) hX dX9_room_88 rfl (by first | exact trivial | exact rfl) (Nat.le_of_ble_eq_true rfl) ?_
            refine s_goto (tgt := 52) hX dX9_room_91 rfl ?_
            exact s_back hB17
abbrev rm_X9_isFreeAsset : Room := { frames := 2, cells := 0, slots := 0, locals := 43 }
theorem k_X9_isFreeAsset : KYV yX9_isFreeAsset cX9_isFreeAsset 2 (some .boolean) 1 := ⟨⟨q_1063, q_1, by decide +kernel, by decide +kernel, by decide +kernel⟩, q_1062, p_38⟩
set_option maxHeartbeats 4000000 in
set_option maxRecDepth 100000 in
theorem c_X9_isFreeAsset (n : Nat) (M0 : MemT) (a0 : Nat) (a1 : Int32) : Ct iI yX9_isFreeAsset cX9_isFreeAsset 2 (some .boolean) rm_X9_isFreeAsset [.ref a0, .int a1] M0 (g_X9_isFreeAsset n M0 a0 a1) := by
  unfold g_X9_isFreeAsset
  refine ct_intro RX9 0 [some (.ref a0), some (.int a1)] rfl (by decide +kernel) rfl (Nat.le_of_ble_eq_true rfl) (fun X A hX hnm hR => ?_)
  refine s_aload_n hX dX9_isFreeAsset_0 rfl ?_
  refine s_iload_n hX dX9_isFreeAsset_1 rfl ?_
  refine s_callVi (ck1 := 0) (sk1 := 0) (ci := 7) hX dX9_isFreeAsset_2 k_X9_isAsset q_711 (c_X9_isAsset n M0 a0 a1) (by decide) rfl rfl rfl ⟨Nat.le_of_ble_eq_true rfl, Nat.le_of_ble_eq_true rfl⟩ ⟨(Nat.le_of_ble_eq_true rfl), (Nat.le_of_ble_eq_true rfl)⟩ (Nat.le_of_ble_eq_true rfl) rfl rfl (fun r1 M2 => ?_)
  refine s_ifeq (tgt := 30) hX dX9_isFreeAsset_5 rfl ?_ ?_
  · refine s_iconst (v := 0) hX dX9_isFreeAsset_30 kc_0 ?_
    exact s_zret hX hR dX9_isFreeAsset_31 (Nat.le_of_ble_eq_true rfl) (Nat.le_of_ble_eq_true rfl)
  · refine s_aload_n hX dX9_isFreeAsset_8 rfl ?_
    refine s_getO hX dX9_isFreeAsset_9 q_424 rfl (fun j3 => ?_)
    refine s_getO hX dX9_isFreeAsset_12 q_392 rfl (fun j4 => ?_)
    refine s_getO hX dX9_isFreeAsset_15 q_316 rfl (fun j5 => ?_)
    refine s_iload_n hX dX9_isFreeAsset_18 rfl ?_
    refine s_aald14 hX dX9_isFreeAsset_19 (fun j6 => ?_)
    refine s_callVi (ck1 := 0) (sk1 := 0) (ci := 0) hX dX9_isFreeAsset_20 k_X1_isFree q_775 (c_X1_isFree n M2 j6) (by decide) rfl rfl rfl ⟨Nat.le_of_ble_eq_true rfl, Nat.le_of_ble_eq_true rfl⟩ ⟨(Nat.le_of_ble_eq_true rfl), (Nat.le_of_ble_eq_true rfl)⟩ (Nat.le_of_ble_eq_true rfl) rfl rfl (fun r7 M8 => ?_)
    refine s_ifeq (tgt := 30) hX dX9_isFreeAsset_23 rfl ?_ ?_
    · refine s_iconst (v := 0) hX dX9_isFreeAsset_30 kc_0 ?_
      exact s_zret hX hR dX9_isFreeAsset_31 (Nat.le_of_ble_eq_true rfl) (Nat.le_of_ble_eq_true rfl)
    · refine s_iconst (v := 1) hX dX9_isFreeAsset_26 kc_1 ?_
      refine s_goto (tgt := 31) hX dX9_isFreeAsset_27 rfl ?_
      exact s_zret hX hR dX9_isFreeAsset_31 (Nat.le_of_ble_eq_true rfl) (Nat.le_of_ble_eq_true rfl)
abbrev rm_X9_would : Room := { frames := 7, cells := 0, slots := 0, locals := 158 }
theorem k_X9_would : KYV yX9_would cX9_would 4 (some .int) 2 := ⟨⟨q_1059, q_1, by decide +kernel, by decide +kernel, by decide +kernel⟩, q_1057, q_1058⟩
set_option maxHeartbeats 4000000 in
set_option maxRecDepth 100000 in
theorem c_X9_would (n : Nat) (M0 : MemT) (a0 : Nat) (a1 : Int32) (a2 : Int32) : Ct iI yX9_would cX9_would 4 (some .int) rm_X9_would [.ref a0, .int a1, .int a2] M0 (g_X9_would n M0 a0 a1 a2) := by
  unfold g_X9_would
  refine ct_intro RX9 1 [some (.ref a0), some (.int a1), some (.int a2), none] rfl (by decide +kernel) rfl (Nat.le_of_ble_eq_true rfl) (fun X A hX hnm hR => ?_)
  refine s_aload_n hX dX9_would_0 rfl ?_
  refine s_iload_n hX dX9_would_1 rfl ?_
  refine s_callVi (ck1 := 0) (sk1 := 0) (ci := 7) hX dX9_would_2 k_X9_isFreeAsset q_1060 (c_X9_isFreeAsset n M0 a0 a1) (by decide) rfl rfl rfl ⟨Nat.le_of_ble_eq_true rfl, Nat.le_of_ble_eq_true rfl⟩ ⟨(Nat.le_of_ble_eq_true rfl), (Nat.le_of_ble_eq_true rfl)⟩ (Nat.le_of_ble_eq_true rfl) rfl rfl (fun r1 M2 => ?_)
  refine s_ifeq (tgt := 17) hX dX9_would_5 rfl ?_ ?_
  · refine s_ldc hX dX9_would_17 q_946 ?_
    exact s_iret hX hR dX9_would_19 (Nat.le_of_ble_eq_true rfl) (Nat.le_of_ble_eq_true rfl)
  · refine s_iload_n hX dX9_would_8 rfl ?_
    refine s_iconst (v := 0) hX dX9_would_9 kc_0 ?_
    refine s_iconst (v := 1) hX dX9_would_10 kc_1 ?_
    refine s_callSi (ck1 := 0) (sk1 := 0) hX dX9_would_11 k_X9_isIn q_715 (c_X9_isIn n M2 a2 0 1) rfl rfl ⟨Nat.le_of_ble_eq_true rfl, Nat.le_of_ble_eq_true rfl⟩ ⟨(Nat.le_of_ble_eq_true rfl), (Nat.le_of_ble_eq_true rfl)⟩ (Nat.le_of_ble_eq_true rfl) rfl rfl (fun r3 M4 => ?_)
    refine s_ifne (tgt := 20) hX dX9_would_14 rfl ?_ ?_
    · refine s_ldc hX dX9_would_17 q_946 ?_
      exact s_iret hX hR dX9_would_19 (Nat.le_of_ble_eq_true rfl) (Nat.le_of_ble_eq_true rfl)
    · refine s_aload_n hX dX9_would_20 rfl ?_
      refine s_getO hX dX9_would_21 q_424 rfl (fun j5 => ?_)
      refine s_getO hX dX9_would_24 q_392 rfl (fun j6 => ?_)
      refine s_getO hX dX9_would_27 q_316 rfl (fun j7 => ?_)
      refine s_iload_n hX dX9_would_30 rfl ?_
      refine s_aald14 hX dX9_would_31 (fun j8 => ?_)
      refine s_astore3 hX dX9_would_32 (by first | exact trivial | exact rfl) (Nat.le_of_ble_eq_true rfl) ?_
      refine s_aload_n hX dX9_would_33 rfl ?_
      refine s_getO hX dX9_would_34 q_424 rfl (fun j9 => ?_)
      refine s_aload_n hX dX9_would_37 rfl ?_
      refine s_iload_n hX dX9_would_38 rfl ?_
      refine s_aload_n hX dX9_would_39 rfl ?_
      refine s_callVi (ck1 := 0) (sk1 := 0) (ci := 0) hX dX9_would_40 k_X1_intervalsBehind q_776 (c_X1_intervalsBehind n M4 j8) (by decide) rfl rfl rfl ⟨Nat.le_of_ble_eq_true rfl, Nat.le_of_ble_eq_true rfl⟩ ⟨(Nat.le_of_ble_eq_true rfl), (Nat.le_of_ble_eq_true rfl)⟩ (Nat.le_of_ble_eq_true rfl) rfl rfl (fun r10 M11 => ?_)
      refine s_aload_n hX dX9_would_43 rfl ?_
      refine s_getO hX dX9_would_44 q_424 rfl (fun j12 => ?_)
      refine s_aload_n hX dX9_would_47 rfl ?_
      refine s_callVi (ck1 := 0) (sk1 := 0) (ci := 2) hX dX9_would_48 k_X3_baseNow q_1064 (c_X3_baseNow n M11 j12 j8) (by decide) rfl rfl rfl ⟨Nat.le_of_ble_eq_true rfl, Nat.le_of_ble_eq_true rfl⟩ ⟨(Nat.le_of_ble_eq_true rfl), (Nat.le_of_ble_eq_true rfl)⟩ (Nat.le_of_ble_eq_true rfl) rfl rfl (fun r13 M14 => ?_)
      refine s_callVi (ck1 := 0) (sk1 := 0) (ci := 2) hX dX9_would_51 k_X3_finalFor q_1072 (c_X3_finalFor n M14 j9 j8 a2 r10 r13) (by decide) rfl rfl rfl ⟨Nat.le_of_ble_eq_true rfl, Nat.le_of_ble_eq_true rfl⟩ ⟨(Nat.le_of_ble_eq_true rfl), (Nat.le_of_ble_eq_true rfl)⟩ (Nat.le_of_ble_eq_true rfl) rfl rfl (fun r15 M16 => ?_)
      exact s_iret hX hR dX9_would_54 (Nat.le_of_ble_eq_true rfl) (Nat.le_of_ble_eq_true rfl)
abbrev rm_X9_bestWait : Room := { frames := 7, cells := 0, slots := 0, locals := 158 }
theorem k_X9_bestWait : KYV yX9_bestWait cX9_bestWait 10 (some .int) 2 := ⟨⟨q_1076, q_1, by decide +kernel, by decide +kernel, by decide +kernel⟩, q_1074, q_1075⟩
set_option maxHeartbeats 4000000 in
set_option maxRecDepth 100000 in
theorem c_X9_bestWait (n : Nat) (M0 : MemT) (a0 : Nat) (a1 : Int32) (a2 : Int32) : Ct iI yX9_bestWait cX9_bestWait 10 (some .int) rm_X9_bestWait [.ref a0, .int a1, .int a2] M0 (g_X9_bestWait n M0 a0 a1 a2) := by
  unfold g_X9_bestWait
  refine ct_intro RX9 7 [some (.ref a0), some (.int a1), some (.int a2), none, none, none, none, none, none, none] rfl (by decide +kernel) rfl (Nat.le_of_ble_eq_true rfl) (fun X A hX hnm hR => ?_)
  refine s_aload_n hX dX9_bestWait_0 rfl ?_
  refine s_iload_n hX dX9_bestWait_1 rfl ?_
  refine s_callVi (ck1 := 0) (sk1 := 0) (ci := 7) hX dX9_bestWait_2 k_X9_isAsset q_711 (c_X9_isAsset n M0 a0 a1) (by decide) rfl rfl rfl ⟨Nat.le_of_ble_eq_true rfl, Nat.le_of_ble_eq_true rfl⟩ ⟨(Nat.le_of_ble_eq_true rfl), (Nat.le_of_ble_eq_true rfl)⟩ (Nat.le_of_ble_eq_true rfl) rfl rfl (fun r1 M2 => ?_)
  refine s_ifeq (tgt := 17) hX dX9_bestWait_5 rfl ?_ ?_
  · refine s_iconst (v := (-1)) hX dX9_bestWait_17 kc_m1 ?_
    exact s_iret hX hR dX9_bestWait_18 (Nat.le_of_ble_eq_true rfl) (Nat.le_of_ble_eq_true rfl)
  · refine s_iload_n hX dX9_bestWait_8 rfl ?_
    refine s_iconst (v := 0) hX dX9_bestWait_9 kc_0 ?_
    refine s_iconst (v := 1) hX dX9_bestWait_10 kc_1 ?_
    refine s_callSi (ck1 := 0) (sk1 := 0) hX dX9_bestWait_11 k_X9_isIn q_715 (c_X9_isIn n M2 a2 0 1) rfl rfl ⟨Nat.le_of_ble_eq_true rfl, Nat.le_of_ble_eq_true rfl⟩ ⟨(Nat.le_of_ble_eq_true rfl), (Nat.le_of_ble_eq_true rfl)⟩ (Nat.le_of_ble_eq_true rfl) rfl rfl (fun r3 M4 => ?_)
    refine s_ifne (tgt := 19) hX dX9_bestWait_14 rfl ?_ ?_
    · refine s_iconst (v := (-1)) hX dX9_bestWait_17 kc_m1 ?_
      exact s_iret hX hR dX9_bestWait_18 (Nat.le_of_ble_eq_true rfl) (Nat.le_of_ble_eq_true rfl)
    · refine s_aload_n hX dX9_bestWait_19 rfl ?_
      refine s_iload_n hX dX9_bestWait_20 rfl ?_
      refine s_callVi (ck1 := 0) (sk1 := 0) (ci := 7) hX dX9_bestWait_21 k_X9_isFreeAsset q_1060 (c_X9_isFreeAsset n M4 a0 a1) (by decide) rfl rfl rfl ⟨Nat.le_of_ble_eq_true rfl, Nat.le_of_ble_eq_true rfl⟩ ⟨(Nat.le_of_ble_eq_true rfl), (Nat.le_of_ble_eq_true rfl)⟩ (Nat.le_of_ble_eq_true rfl) rfl rfl (fun r5 M6 => ?_)
      refine s_ifne (tgt := 30) hX dX9_bestWait_24 rfl ?_ ?_
      · refine s_bipush (v := (-2)) hX dX9_bestWait_27 kb_m2 ?_
        exact s_iret hX hR dX9_bestWait_29 (Nat.le_of_ble_eq_true rfl) (Nat.le_of_ble_eq_true rfl)
      · refine s_aload_n hX dX9_bestWait_30 rfl ?_
        refine s_getO hX dX9_bestWait_31 q_424 rfl (fun j7 => ?_)
        refine s_getO hX dX9_bestWait_34 q_392 rfl (fun j8 => ?_)
        refine s_getO hX dX9_bestWait_37 q_316 rfl (fun j9 => ?_)
        refine s_iload_n hX dX9_bestWait_40 rfl ?_
        refine s_aald14 hX dX9_bestWait_41 (fun j10 => ?_)
        refine s_astore3 hX dX9_bestWait_42 (by first | exact trivial | exact rfl) (Nat.le_of_ble_eq_true rfl) ?_
        refine s_aload_n hX dX9_bestWait_43 rfl ?_
        refine s_getO hX dX9_bestWait_44 q_424 rfl (fun j11 => ?_)
        refine s_aload_n hX dX9_bestWait_47 rfl ?_
        refine s_callVi (ck1 := 0) (sk1 := 0) (ci := 2) hX dX9_bestWait_48 k_X3_baseNow q_1064 (c_X3_baseNow n M6 j11 j10) (by decide) rfl rfl rfl ⟨Nat.le_of_ble_eq_true rfl, Nat.le_of_ble_eq_true rfl⟩ ⟨(Nat.le_of_ble_eq_true rfl), (Nat.le_of_ble_eq_true rfl)⟩ (Nat.le_of_ble_eq_true rfl) rfl rfl (fun r12 M13 => ?_)
        refine s_istore4 hX dX9_bestWait_51 (by first | exact trivial | exact rfl) (Nat.le_of_ble_eq_true rfl) ?_
        refine s_aload_n hX dX9_bestWait_53 rfl ?_
        refine s_getO hX dX9_bestWait_54 q_424 rfl (fun j14 => ?_)
        refine s_aload_n hX dX9_bestWait_57 rfl ?_
        refine s_aload_n hX dX9_bestWait_58 rfl ?_
        refine s_getO hX dX9_bestWait_59 q_424 rfl (fun j15 => ?_)
        refine s_aload_n hX dX9_bestWait_62 rfl ?_
        refine s_aload_n hX dX9_bestWait_63 rfl ?_
        refine s_getI hX dX9_bestWait_64 q_216 rfl (fun v16 => ?_)
        refine s_callVi (ck1 := 0) (sk1 := 0) (ci := 2) hX dX9_bestWait_67 k_X3_worthNow q_1077 (c_X3_worthNow n M13 j15 j10 v16) (by decide) rfl rfl rfl ⟨Nat.le_of_ble_eq_true rfl, Nat.le_of_ble_eq_true rfl⟩ ⟨(Nat.le_of_ble_eq_true rfl), (Nat.le_of_ble_eq_true rfl)⟩ (Nat.le_of_ble_eq_true rfl) rfl rfl (fun r17 M18 => ?_)
        refine s_iload hX dX9_bestWait_70 rfl ?_
        refine s_callVi (ck1 := 0) (sk1 := 0) (ci := 2) hX dX9_bestWait_72 k_X3_adjustedBy q_1078 (c_X3_adjustedBy n M18 j14 j10 r17 r12) (by decide) rfl rfl rfl ⟨Nat.le_of_ble_eq_true rfl, Nat.le_of_ble_eq_true rfl⟩ ⟨(Nat.le_of_ble_eq_true rfl), (Nat.le_of_ble_eq_true rfl)⟩ (Nat.le_of_ble_eq_true rfl) rfl rfl (fun r19 M20 => ?_)
        refine s_istore5 hX dX9_bestWait_75 (by first | exact trivial | exact rfl) (Nat.le_of_ble_eq_true rfl) ?_
        refine s_iconst (v := 0) hX dX9_bestWait_77 kc_0 ?_
        refine s_istore6 hX dX9_bestWait_78 (by first | exact trivial | exact rfl) (Nat.le_of_ble_eq_true rfl) ?_
        refine s_iconst (v := 0) hX dX9_bestWait_80 kc_0 ?_
        refine s_istore7 hX dX9_bestWait_81 (by first | exact trivial | exact rfl) (Nat.le_of_ble_eq_true rfl) ?_
        refine s_iconst (v := 0) hX dX9_bestWait_83 kc_0 ?_
        refine s_istore8 hX dX9_bestWait_84 (by first | exact trivial | exact rfl) (Nat.le_of_ble_eq_true rfl) ?_
        refine s_loopE (stk := []) (fun (s : MemT × Int32 × Int32 × Int32) => [some (.ref a0), some (.int a1), some (.int a2), some (.ref j10), some (.int r12), some (.int r19), some (.int s.2.1), some (.int s.2.2.1), some (.int s.2.2.2), none]) (fun (s : MemT × Int32 × Int32 × Int32) => s.1) 147 (fun (s : MemT × Int32 × Int32 × Int32) => [some (.ref a0), some (.int a1), some (.int a2), some (.ref j10), some (.int r12), some (.int r19), some (.int s.2.1), some (.int s.2.2.1), some (.int s.2.2.2), none]) (fun s B25 hB25 hE25 => ?_) (fun s => ?_) n (M20, 0, 0, 0)
        · obtain ⟨M21, v22, v23, v24⟩ := s
          dsimp only
          refine s_iload hX dX9_bestWait_86 rfl ?_
          refine s_aload_n hX dX9_bestWait_88 rfl ?_
          refine s_callVi (ck1 := 0) (sk1 := 0) (ci := 0) hX dX9_bestWait_89 k_X1_intervalsBehind q_776 (c_X1_intervalsBehind n M21 j10) (by decide) rfl rfl rfl ⟨Nat.le_of_ble_eq_true rfl, Nat.le_of_ble_eq_true rfl⟩ ⟨(Nat.le_of_ble_eq_true rfl), (Nat.le_of_ble_eq_true rfl)⟩ (Nat.le_of_ble_eq_true rfl) rfl rfl (fun r26 M27 => ?_)
          refine s_icgt (tgt := 147) hX dX9_bestWait_92 rfl ?_ ?_
          · exact s_exit hE25
          · refine s_iload hX dX9_bestWait_95 rfl ?_
            refine s_iload hX dX9_bestWait_97 rfl ?_
            refine s_imul hX dX9_bestWait_99 ?_
            refine s_aload_n hX dX9_bestWait_100 rfl ?_
            refine s_getO hX dX9_bestWait_101 q_424 rfl (fun j28 => ?_)
            refine s_aload_n hX dX9_bestWait_104 rfl ?_
            refine s_iload_n hX dX9_bestWait_105 rfl ?_
            refine s_aload_n hX dX9_bestWait_106 rfl ?_
            refine s_callVi (ck1 := 0) (sk1 := 0) (ci := 0) hX dX9_bestWait_107 k_X1_intervalsBehind q_776 (c_X1_intervalsBehind n M27 j10) (by decide) rfl rfl rfl ⟨Nat.le_of_ble_eq_true rfl, Nat.le_of_ble_eq_true rfl⟩ ⟨(Nat.le_of_ble_eq_true rfl), (Nat.le_of_ble_eq_true rfl)⟩ (Nat.le_of_ble_eq_true rfl) rfl rfl (fun r29 M30 => ?_)
            refine s_iload hX dX9_bestWait_110 rfl ?_
            refine s_isub hX dX9_bestWait_112 ?_
            refine s_iload hX dX9_bestWait_113 rfl ?_
            refine s_callVi (ck1 := 0) (sk1 := 0) (ci := 2) hX dX9_bestWait_115 k_X3_finalFor q_1072 (c_X3_finalFor n M30 j28 j10 a2 (r29 - v24) r12) (by decide) rfl rfl rfl ⟨Nat.le_of_ble_eq_true rfl, Nat.le_of_ble_eq_true rfl⟩ ⟨(Nat.le_of_ble_eq_true rfl), (Nat.le_of_ble_eq_true rfl)⟩ (Nat.le_of_ble_eq_true rfl) rfl rfl (fun r31 M32 => ?_)
            refine s_iadd hX dX9_bestWait_118 ?_
            refine s_istore9 hX dX9_bestWait_119 (by first | exact trivial | exact rfl) (Nat.le_of_ble_eq_true rfl) ?_
            refine s_iload hX dX9_bestWait_121 rfl ?_
            refine s_jp (fun (s : MemT) => [some (.ref a0), some (.int a1), some (.int a2), some (.ref j10), some (.int r12), some (.int r19), some (.int v22), some (.int v23), some (.int v24), some (.int ((r19 * v24) + r31))]) (fun (s : MemT) => []) (fun (s : MemT) => s) 0 0 133 (fun s => ?_) (fun K33 hK33 => ?_)
            · revert s
              intro M34
              try dsimp only
              refine s_iload hX dX9_bestWait_133 rfl ?_
              refine s_istore7 hX dX9_bestWait_135 (by first | exact trivial | exact rfl) (Nat.le_of_ble_eq_true rfl) ?_
              refine s_iload hX dX9_bestWait_137 rfl ?_
              refine s_istore6 hX dX9_bestWait_139 (by first | exact trivial | exact rfl) (Nat.le_of_ble_eq_true rfl) ?_
              refine s_iinc8 (v := v24 + 1) hX dX9_bestWait_141 rfl (by first | exact trivial | exact rfl) (Nat.le_of_ble_eq_true rfl) ?_
              refine s_goto (tgt := 86) hX dX9_bestWait_144 rfl ?_
              refine s_forget (loc1 := [some (.ref a0), some (.int a1), some (.int a2), some (.ref j10), some (.int r12), some (.int r19), some (.int v24), some (.int ((r19 * v24) + r31)), some (.int (v24 + 1)), none]) ⟨rfl, rfl, rfl, rfl, rfl, rfl, rfl, rfl, rfl, trivial⟩ ?_
              exact s_back hB25
            · refine s_ifeq (tgt := 133) hX dX9_bestWait_123 rfl ?_ ?_
              · exact hK33 _
              · refine s_iload hX dX9_bestWait_126 rfl ?_
                refine s_iload hX dX9_bestWait_128 rfl ?_
                refine s_icle (tgt := 141) hX dX9_bestWait_130 rfl ?_ ?_
                · refine s_iinc8 (v := v24 + 1) hX dX9_bestWait_141 rfl (by first | exact trivial | exact rfl) (Nat.le_of_ble_eq_true rfl) ?_
                  refine s_goto (tgt := 86) hX dX9_bestWait_144 rfl ?_
                  refine s_forget (loc1 := [some (.ref a0), some (.int a1), some (.int a2), some (.ref j10), some (.int r12), some (.int r19), some (.int v22), some (.int v23), some (.int (v24 + 1)), none]) ⟨rfl, rfl, rfl, rfl, rfl, rfl, rfl, rfl, rfl, trivial⟩ ?_
                  exact s_back hB25
                · exact hK33 _
        · obtain ⟨M35, v36, v37, v38⟩ := s
          dsimp only
          refine s_iload hX dX9_bestWait_147 rfl ?_
          exact s_iret hX hR dX9_bestWait_149 (Nat.le_of_ble_eq_true rfl) (Nat.le_of_ble_eq_true rfl)
abbrev rm_X9_project : Room := { frames := 6, cells := 0, slots := 0, locals := 137 }
theorem k_X9_project : KYV yX9_project cX9_project 5 (some .int) 2 := ⟨⟨q_1082, q_1, by decide +kernel, by decide +kernel, by decide +kernel⟩, q_1080, q_1081⟩
set_option maxHeartbeats 4000000 in
set_option maxRecDepth 100000 in
theorem c_X9_project (n : Nat) (M0 : MemT) (a0 : Nat) (a1 : Int32) (a2 : Int32) : Ct iI yX9_project cX9_project 5 (some .int) rm_X9_project [.ref a0, .int a1, .int a2] M0 (g_X9_project n M0 a0 a1 a2) := by
  unfold g_X9_project
  refine ct_intro RX9 2 [some (.ref a0), some (.int a1), some (.int a2), none, none] rfl (by decide +kernel) rfl (Nat.le_of_ble_eq_true rfl) (fun X A hX hnm hR => ?_)
  refine s_aload_n hX dX9_project_0 rfl ?_
  refine s_iload_n hX dX9_project_1 rfl ?_
  refine s_callVi (ck1 := 0) (sk1 := 0) (ci := 7) hX dX9_project_2 k_X9_isFreeAsset q_1060 (c_X9_isFreeAsset n M0 a0 a1) (by decide) rfl rfl rfl ⟨Nat.le_of_ble_eq_true rfl, Nat.le_of_ble_eq_true rfl⟩ ⟨(Nat.le_of_ble_eq_true rfl), (Nat.le_of_ble_eq_true rfl)⟩ (Nat.le_of_ble_eq_true rfl) rfl rfl (fun r1 M2 => ?_)
  refine s_ifeq (tgt := 33) hX dX9_project_5 rfl ?_ ?_
  · refine s_ldc hX dX9_project_33 q_946 ?_
    exact s_iret hX hR dX9_project_35 (Nat.le_of_ble_eq_true rfl) (Nat.le_of_ble_eq_true rfl)
  · refine s_iload_n hX dX9_project_8 rfl ?_
    refine s_iconst (v := 1) hX dX9_project_9 kc_1 ?_
    refine s_aload_n hX dX9_project_10 rfl ?_
    refine s_getO hX dX9_project_11 q_424 rfl (fun j3 => ?_)
    refine s_getO hX dX9_project_14 q_392 rfl (fun j4 => ?_)
    refine s_getO hX dX9_project_17 q_316 rfl (fun j5 => ?_)
    refine s_iload_n hX dX9_project_20 rfl ?_
    refine s_aald14 hX dX9_project_21 (fun j6 => ?_)
    refine s_callVi (ck1 := 0) (sk1 := 0) (ci := 0) hX dX9_project_22 k_X1_intervalsBehind q_776 (c_X1_intervalsBehind n M2 j6) (by decide) rfl rfl rfl ⟨Nat.le_of_ble_eq_true rfl, Nat.le_of_ble_eq_true rfl⟩ ⟨(Nat.le_of_ble_eq_true rfl), (Nat.le_of_ble_eq_true rfl)⟩ (Nat.le_of_ble_eq_true rfl) rfl rfl (fun r7 M8 => ?_)
    refine s_iconst (v := 1) hX dX9_project_25 kc_1 ?_
    refine s_iadd hX dX9_project_26 ?_
    refine s_callSi (ck1 := 0) (sk1 := 0) hX dX9_project_27 k_X9_isIn q_715 (c_X9_isIn n M8 a2 1 (r7 + 1)) rfl rfl ⟨Nat.le_of_ble_eq_true rfl, Nat.le_of_ble_eq_true rfl⟩ ⟨(Nat.le_of_ble_eq_true rfl), (Nat.le_of_ble_eq_true rfl)⟩ (Nat.le_of_ble_eq_true rfl) rfl rfl (fun r9 M10 => ?_)
    refine s_ifne (tgt := 36) hX dX9_project_30 rfl ?_ ?_
    · refine s_ldc hX dX9_project_33 q_946 ?_
      exact s_iret hX hR dX9_project_35 (Nat.le_of_ble_eq_true rfl) (Nat.le_of_ble_eq_true rfl)
    · refine s_aload_n hX dX9_project_36 rfl ?_
      refine s_getO hX dX9_project_37 q_424 rfl (fun j11 => ?_)
      refine s_getO hX dX9_project_40 q_392 rfl (fun j12 => ?_)
      refine s_getO hX dX9_project_43 q_316 rfl (fun j13 => ?_)
      refine s_iload_n hX dX9_project_46 rfl ?_
      refine s_aald14 hX dX9_project_47 (fun j14 => ?_)
      refine s_astore3 hX dX9_project_48 (by first | exact trivial | exact rfl) (Nat.le_of_ble_eq_true rfl) ?_
      refine s_aload_n hX dX9_project_49 rfl ?_
      refine s_getO hX dX9_project_50 q_424 rfl (fun j15 => ?_)
      refine s_aload_n hX dX9_project_53 rfl ?_
      refine s_aload_n hX dX9_project_54 rfl ?_
      refine s_getI hX dX9_project_55 q_216 rfl (fun v16 => ?_)
      refine s_callVi (ck1 := 0) (sk1 := 0) (ci := 2) hX dX9_project_58 k_X3_worthNow q_1077 (c_X3_worthNow n M10 j15 j14 v16) (by decide) rfl rfl rfl ⟨Nat.le_of_ble_eq_true rfl, Nat.le_of_ble_eq_true rfl⟩ ⟨(Nat.le_of_ble_eq_true rfl), (Nat.le_of_ble_eq_true rfl)⟩ (Nat.le_of_ble_eq_true rfl) rfl rfl (fun r17 M18 => ?_)
      refine s_istore4 hX dX9_project_61 (by first | exact trivial | exact rfl) (Nat.le_of_ble_eq_true rfl) ?_
      refine s_aload_n hX dX9_project_63 rfl ?_
      refine s_getI hX dX9_project_64 q_252 rfl (fun v19 => ?_)
      refine s_ifne (tgt := 81) hX dX9_project_67 rfl ?_ ?_
      · refine s_aload_n hX dX9_project_70 rfl ?_
        refine s_getO hX dX9_project_71 q_424 rfl (fun j20 => ?_)
        refine s_aload_n hX dX9_project_74 rfl ?_
        refine s_iload hX dX9_project_75 rfl ?_
        refine s_callVi (ck1 := 0) (sk1 := 0) (ci := 2) hX dX9_project_77 k_X3_firstBy q_1083 (c_X3_firstBy n M18 j20 j14 r17) (by decide) rfl rfl rfl ⟨Nat.le_of_ble_eq_true rfl, Nat.le_of_ble_eq_true rfl⟩ ⟨(Nat.le_of_ble_eq_true rfl), (Nat.le_of_ble_eq_true rfl)⟩ (Nat.le_of_ble_eq_true rfl) rfl rfl (fun r21 M22 => ?_)
        exact s_iret hX hR dX9_project_80 (Nat.le_of_ble_eq_true rfl) (Nat.le_of_ble_eq_true rfl)
      · refine s_aload_n hX dX9_project_81 rfl ?_
        refine s_getI hX dX9_project_82 q_244 rfl (fun v23 => ?_)
        refine s_aload_n hX dX9_project_85 rfl ?_
        refine s_getO hX dX9_project_86 q_424 rfl (fun j24 => ?_)
        refine s_aload_n hX dX9_project_89 rfl ?_
        refine s_iload hX dX9_project_90 rfl ?_
        refine s_aload_n hX dX9_project_92 rfl ?_
        refine s_getI hX dX9_project_93 q_237 rfl (fun v25 => ?_)
        refine s_callVi (ck1 := 0) (sk1 := 0) (ci := 2) hX dX9_project_96 k_X3_adjustedBy q_1078 (c_X3_adjustedBy n M18 j24 j14 r17 v25) (by decide) rfl rfl rfl ⟨Nat.le_of_ble_eq_true rfl, Nat.le_of_ble_eq_true rfl⟩ ⟨(Nat.le_of_ble_eq_true rfl), (Nat.le_of_ble_eq_true rfl)⟩ (Nat.le_of_ble_eq_true rfl) rfl rfl (fun r26 M27 => ?_)
        refine s_iload_n hX dX9_project_99 rfl ?_
        refine s_imul hX dX9_project_100 ?_
        refine s_iadd hX dX9_project_101 ?_
        exact s_iret hX hR dX9_project_102 (Nat.le_of_ble_eq_true rfl) (Nat.le_of_ble_eq_true rfl)
abbrev rm_X9_ifUse : Room := { frames := 6, cells := 0, slots := 0, locals := 137 }
theorem k_X9_ifUse : KYV yX9_ifUse cX9_ifUse 3 (some .int) 2 := ⟨⟨q_1087, q_1, by decide +kernel, by decide +kernel, by decide +kernel⟩, q_1085, q_1086⟩
set_option maxHeartbeats 4000000 in
set_option maxRecDepth 100000 in
theorem c_X9_ifUse (n : Nat) (M0 : MemT) (a0 : Nat) (a1 : Int32) (a2 : Int32) : Ct iI yX9_ifUse cX9_ifUse 3 (some .int) rm_X9_ifUse [.ref a0, .int a1, .int a2] M0 (g_X9_ifUse n M0 a0 a1 a2) := by
  unfold g_X9_ifUse
  refine ct_intro RX9 0 [some (.ref a0), some (.int a1), some (.int a2)] rfl (by decide +kernel) rfl (Nat.le_of_ble_eq_true rfl) (fun X A hX hnm hR => ?_)
  refine s_aload_n hX dX9_ifUse_0 rfl ?_
  refine s_iload_n hX dX9_ifUse_1 rfl ?_
  refine s_callVi (ck1 := 0) (sk1 := 0) (ci := 7) hX dX9_ifUse_2 k_X9_isAsset q_711 (c_X9_isAsset n M0 a0 a1) (by decide) rfl rfl rfl ⟨Nat.le_of_ble_eq_true rfl, Nat.le_of_ble_eq_true rfl⟩ ⟨(Nat.le_of_ble_eq_true rfl), (Nat.le_of_ble_eq_true rfl)⟩ (Nat.le_of_ble_eq_true rfl) rfl rfl (fun r1 M2 => ?_)
  refine s_ifeq (tgt := 35) hX dX9_ifUse_5 rfl ?_ ?_
  · refine s_ldc hX dX9_ifUse_35 q_946 ?_
    exact s_iret hX hR dX9_ifUse_37 (Nat.le_of_ble_eq_true rfl) (Nat.le_of_ble_eq_true rfl)
  · refine s_iload_n hX dX9_ifUse_8 rfl ?_
    refine s_iconst (v := 0) hX dX9_ifUse_9 kc_0 ?_
    refine s_iconst (v := 2) hX dX9_ifUse_10 kc_2 ?_
    refine s_callSi (ck1 := 0) (sk1 := 0) hX dX9_ifUse_11 k_X9_isIn q_715 (c_X9_isIn n M2 a2 0 2) rfl rfl ⟨Nat.le_of_ble_eq_true rfl, Nat.le_of_ble_eq_true rfl⟩ ⟨(Nat.le_of_ble_eq_true rfl), (Nat.le_of_ble_eq_true rfl)⟩ (Nat.le_of_ble_eq_true rfl) rfl rfl (fun r3 M4 => ?_)
    refine s_ifeq (tgt := 35) hX dX9_ifUse_14 rfl ?_ ?_
    · refine s_ldc hX dX9_ifUse_35 q_946 ?_
      exact s_iret hX hR dX9_ifUse_37 (Nat.le_of_ble_eq_true rfl) (Nat.le_of_ble_eq_true rfl)
    · refine s_aload_n hX dX9_ifUse_17 rfl ?_
      refine s_getO hX dX9_ifUse_18 q_424 rfl (fun j5 => ?_)
      refine s_getO hX dX9_ifUse_21 q_392 rfl (fun j6 => ?_)
      refine s_getO hX dX9_ifUse_24 q_316 rfl (fun j7 => ?_)
      refine s_iload_n hX dX9_ifUse_27 rfl ?_
      refine s_aald14 hX dX9_ifUse_28 (fun j8 => ?_)
      refine s_callVi (ck1 := 0) (sk1 := 0) (ci := 0) hX dX9_ifUse_29 k_X1_usesMayChange q_763 (c_X1_usesMayChange n M4 j8) (by decide) rfl rfl rfl ⟨Nat.le_of_ble_eq_true rfl, Nat.le_of_ble_eq_true rfl⟩ ⟨(Nat.le_of_ble_eq_true rfl), (Nat.le_of_ble_eq_true rfl)⟩ (Nat.le_of_ble_eq_true rfl) rfl rfl (fun r9 M10 => ?_)
      refine s_ifne (tgt := 38) hX dX9_ifUse_32 rfl ?_ ?_
      · refine s_ldc hX dX9_ifUse_35 q_946 ?_
        exact s_iret hX hR dX9_ifUse_37 (Nat.le_of_ble_eq_true rfl) (Nat.le_of_ble_eq_true rfl)
      · refine s_aload_n hX dX9_ifUse_38 rfl ?_
        refine s_getO hX dX9_ifUse_39 q_424 rfl (fun j11 => ?_)
        refine s_aload_n hX dX9_ifUse_42 rfl ?_
        refine s_getO hX dX9_ifUse_43 q_424 rfl (fun j12 => ?_)
        refine s_getO hX dX9_ifUse_46 q_392 rfl (fun j13 => ?_)
        refine s_getO hX dX9_ifUse_49 q_316 rfl (fun j14 => ?_)
        refine s_iload_n hX dX9_ifUse_52 rfl ?_
        refine s_aald14 hX dX9_ifUse_53 (fun j15 => ?_)
        refine s_iload_n hX dX9_ifUse_54 rfl ?_
        refine s_callVi (ck1 := 0) (sk1 := 0) (ci := 2) hX dX9_ifUse_55 k_X3_worthNow q_1077 (c_X3_worthNow n M10 j11 j15 a2) (by decide) rfl rfl rfl ⟨Nat.le_of_ble_eq_true rfl, Nat.le_of_ble_eq_true rfl⟩ ⟨(Nat.le_of_ble_eq_true rfl), (Nat.le_of_ble_eq_true rfl)⟩ (Nat.le_of_ble_eq_true rfl) rfl rfl (fun r16 M17 => ?_)
        exact s_iret hX hR dX9_ifUse_58 (Nat.le_of_ble_eq_true rfl) (Nat.le_of_ble_eq_true rfl)
abbrev rm_J6_bitCount_0f7a4 : Room := { frames := 0, cells := 0, slots := 0, locals := 0 }
theorem k_J6_bitCount_0f7a4 : KYS yJ6_bitCount_0f7a4 cJ6_bitCount_0f7a4 1 (some .int) 1 := ⟨⟨q_1094, q_24, by decide +kernel, by decide +kernel, by decide +kernel⟩, q_1093⟩
set_option maxHeartbeats 4000000 in
set_option maxRecDepth 100000 in
theorem c_J6_bitCount_0f7a4 (n : Nat) (M0 : MemT) (a0 : Int32) : Ct iI yJ6_bitCount_0f7a4 cJ6_bitCount_0f7a4 1 (some .int) rm_J6_bitCount_0f7a4 [.int a0] M0 (g_J6_bitCount_0f7a4 n M0 a0) := by
  unfold g_J6_bitCount_0f7a4
  refine ct_intro RJ6 0 [some (.int a0)] rfl (by decide +kernel) rfl (Nat.le_of_ble_eq_true rfl) (fun X A hX hnm hR => ?_)
  refine s_iload_n hX dJ6_bitCount_0f7a4_0 rfl ?_
  refine s_iload_n hX dJ6_bitCount_0f7a4_1 rfl ?_
  refine s_iconst (v := 1) hX dJ6_bitCount_0f7a4_2 kc_1 ?_
  refine s_iushr hX dJ6_bitCount_0f7a4_3 ?_
  refine s_ldcw hX dJ6_bitCount_0f7a4_4 q_1095 ?_
  refine s_iand hX dJ6_bitCount_0f7a4_7 ?_
  refine s_isub hX dJ6_bitCount_0f7a4_8 ?_
  refine s_istore0 hX dJ6_bitCount_0f7a4_9 (Nat.le_of_ble_eq_true rfl) ?_
  refine s_iload_n hX dJ6_bitCount_0f7a4_10 rfl ?_
  refine s_ldcw hX dJ6_bitCount_0f7a4_11 q_1096 ?_
  refine s_iand hX dJ6_bitCount_0f7a4_14 ?_
  refine s_iload_n hX dJ6_bitCount_0f7a4_15 rfl ?_
  refine s_iconst (v := 2) hX dJ6_bitCount_0f7a4_16 kc_2 ?_
  refine s_iushr hX dJ6_bitCount_0f7a4_17 ?_
  refine s_ldcw hX dJ6_bitCount_0f7a4_18 q_1096 ?_
  refine s_iand hX dJ6_bitCount_0f7a4_21 ?_
  refine s_iadd hX dJ6_bitCount_0f7a4_22 ?_
  refine s_istore0 hX dJ6_bitCount_0f7a4_23 (Nat.le_of_ble_eq_true rfl) ?_
  refine s_iload_n hX dJ6_bitCount_0f7a4_24 rfl ?_
  refine s_iload_n hX dJ6_bitCount_0f7a4_25 rfl ?_
  refine s_iconst (v := 4) hX dJ6_bitCount_0f7a4_26 kc_4 ?_
  refine s_iushr hX dJ6_bitCount_0f7a4_27 ?_
  refine s_iadd hX dJ6_bitCount_0f7a4_28 ?_
  refine s_ldcw hX dJ6_bitCount_0f7a4_29 q_1097 ?_
  refine s_iand hX dJ6_bitCount_0f7a4_32 ?_
  refine s_istore0 hX dJ6_bitCount_0f7a4_33 (Nat.le_of_ble_eq_true rfl) ?_
  refine s_iload_n hX dJ6_bitCount_0f7a4_34 rfl ?_
  refine s_iload_n hX dJ6_bitCount_0f7a4_35 rfl ?_
  refine s_bipush (v := 8) hX dJ6_bitCount_0f7a4_36 kb_8 ?_
  refine s_iushr hX dJ6_bitCount_0f7a4_38 ?_
  refine s_iadd hX dJ6_bitCount_0f7a4_39 ?_
  refine s_istore0 hX dJ6_bitCount_0f7a4_40 (Nat.le_of_ble_eq_true rfl) ?_
  refine s_iload_n hX dJ6_bitCount_0f7a4_41 rfl ?_
  refine s_iload_n hX dJ6_bitCount_0f7a4_42 rfl ?_
  refine s_bipush (v := 16) hX dJ6_bitCount_0f7a4_43 kb_16 ?_
  refine s_iushr hX dJ6_bitCount_0f7a4_45 ?_
  refine s_iadd hX dJ6_bitCount_0f7a4_46 ?_
  refine s_istore0 hX dJ6_bitCount_0f7a4_47 (Nat.le_of_ble_eq_true rfl) ?_
  refine s_iload_n hX dJ6_bitCount_0f7a4_48 rfl ?_
  refine s_bipush (v := 63) hX dJ6_bitCount_0f7a4_49 kb_63 ?_
  refine s_iand hX dJ6_bitCount_0f7a4_51 ?_
  exact s_iret hX hR dJ6_bitCount_0f7a4_52 (Nat.le_of_ble_eq_true rfl) (Nat.le_of_ble_eq_true rfl)
abbrev rm_X9_owners : Room := { frames := 2, cells := 0, slots := 0, locals := 43 }
theorem k_X9_owners : KYV yX9_owners cX9_owners 5 (some .int) 1 := ⟨⟨q_1091, q_1, by decide +kernel, by decide +kernel, by decide +kernel⟩, q_1089, q_1090⟩
set_option maxHeartbeats 4000000 in
set_option maxRecDepth 100000 in
theorem c_X9_owners (n : Nat) (M0 : MemT) (a0 : Nat) (a1 : Int32) : Ct iI yX9_owners cX9_owners 5 (some .int) rm_X9_owners [.ref a0, .int a1] M0 (g_X9_owners n M0 a0 a1) := by
  unfold g_X9_owners
  refine ct_intro RX9 3 [some (.ref a0), some (.int a1), none, none, none] rfl (by decide +kernel) rfl (Nat.le_of_ble_eq_true rfl) (fun X A hX hnm hR => ?_)
  refine s_aload_n hX dX9_owners_0 rfl ?_
  refine s_iload_n hX dX9_owners_1 rfl ?_
  refine s_callVi (ck1 := 0) (sk1 := 0) (ci := 7) hX dX9_owners_2 k_X9_isAsset q_711 (c_X9_isAsset n M0 a0 a1) (by decide) rfl rfl rfl ⟨Nat.le_of_ble_eq_true rfl, Nat.le_of_ble_eq_true rfl⟩ ⟨(Nat.le_of_ble_eq_true rfl), (Nat.le_of_ble_eq_true rfl)⟩ (Nat.le_of_ble_eq_true rfl) rfl rfl (fun r1 M2 => ?_)
  refine s_ifne (tgt := 10) hX dX9_owners_5 rfl ?_ ?_
  · refine s_iconst (v := (-1)) hX dX9_owners_8 kc_m1 ?_
    exact s_iret hX hR dX9_owners_9 (Nat.le_of_ble_eq_true rfl) (Nat.le_of_ble_eq_true rfl)
  · refine s_aload_n hX dX9_owners_10 rfl ?_
    refine s_getO hX dX9_owners_11 q_424 rfl (fun j3 => ?_)
    refine s_getO hX dX9_owners_14 q_392 rfl (fun j4 => ?_)
    refine s_getO hX dX9_owners_17 q_316 rfl (fun j5 => ?_)
    refine s_iload_n hX dX9_owners_20 rfl ?_
    refine s_aald14 hX dX9_owners_21 (fun j6 => ?_)
    refine s_astore2 hX dX9_owners_22 (by first | exact trivial | exact rfl) (Nat.le_of_ble_eq_true rfl) ?_
    refine s_aload_n hX dX9_owners_23 rfl ?_
    refine s_getI hX dX9_owners_24 q_233 rfl (fun v7 => ?_)
    refine s_jp (fun (s : MemT × Int32) => [some (.ref a0), some (.int a1), some (.ref j6), none, none]) (fun (s : MemT × Int32) => [.int s.2]) (fun (s : MemT × Int32) => s.1) 0 0 40 (fun s => ?_) (fun K8 hK8 => ?_)
    · obtain ⟨M9, v10⟩ := s
      dsimp only
      refine s_istore3 hX dX9_owners_40 (by first | exact trivial | exact rfl) (Nat.le_of_ble_eq_true rfl) ?_
      refine s_iconst (v := 0) hX dX9_owners_41 kc_0 ?_
      refine s_istore4 hX dX9_owners_42 (by first | exact trivial | exact rfl) (Nat.le_of_ble_eq_true rfl) ?_
      refine s_loopE (stk := []) (fun (s : MemT × Int32 × Int32) => [some (.ref a0), some (.int a1), some (.ref j6), some (.int s.2.1), some (.int s.2.2)]) (fun (s : MemT × Int32 × Int32) => s.1) 81 (fun (s : MemT × Int32 × Int32) => [some (.ref a0), some (.int a1), some (.ref j6), some (.int s.2.1), some (.int s.2.2)]) (fun s B14 hB14 hE14 => ?_) (fun s => ?_) n (M9, v10, 0)
      · obtain ⟨M11, v12, v13⟩ := s
        dsimp only
        refine s_iload hX dX9_owners_44 rfl ?_
        refine s_aload_n hX dX9_owners_46 rfl ?_
        refine s_getI hX dX9_owners_47 q_252 rfl (fun v15 => ?_)
        refine s_icge (tgt := 81) hX dX9_owners_50 rfl ?_ ?_
        · exact s_exit hE14
        · refine s_iload hX dX9_owners_53 rfl ?_
          refine s_aload_n hX dX9_owners_55 rfl ?_
          refine s_getO hX dX9_owners_56 q_261 rfl (fun j16 => ?_)
          refine s_alen hX dX9_owners_59 (fun v17 => ?_)
          refine s_icge (tgt := 81) hX dX9_owners_60 rfl ?_ ?_
          · exact s_exit hE14
          · refine s_iload_n hX dX9_owners_63 rfl ?_
            refine s_iconst (v := 1) hX dX9_owners_64 kc_1 ?_
            refine s_aload_n hX dX9_owners_65 rfl ?_
            refine s_getO hX dX9_owners_66 q_261 rfl (fun j18 => ?_)
            refine s_iload hX dX9_owners_69 rfl ?_
            refine s_iald hX dX9_owners_71 (fun v19 => ?_)
            refine s_ishl hX dX9_owners_72 ?_
            refine s_ior hX dX9_owners_73 ?_
            refine s_istore3 hX dX9_owners_74 (by first | exact trivial | exact rfl) (Nat.le_of_ble_eq_true rfl) ?_
            refine s_iinc4 (v := v13 + 1) hX dX9_owners_75 rfl (by first | exact trivial | exact rfl) (Nat.le_of_ble_eq_true rfl) ?_
            refine s_goto (tgt := 44) hX dX9_owners_78 rfl ?_
            exact s_back hB14
      · obtain ⟨M20, v21, v22⟩ := s
        dsimp only
        refine s_iload_n hX dX9_owners_81 rfl ?_
        refine s_callSi (ck1 := 0) (sk1 := 0) hX dX9_owners_82 k_J6_bitCount_0f7a4 q_1092 (c_J6_bitCount_0f7a4 n M20 v21) rfl rfl ⟨Nat.le_of_ble_eq_true rfl, Nat.le_of_ble_eq_true rfl⟩ ⟨(Nat.le_of_ble_eq_true rfl), (Nat.le_of_ble_eq_true rfl)⟩ (Nat.le_of_ble_eq_true rfl) rfl rfl (fun r23 M24 => ?_)
        exact s_iret hX hR dX9_owners_85 (Nat.le_of_ble_eq_true rfl) (Nat.le_of_ble_eq_true rfl)
    · refine s_ifeq (tgt := 34) hX dX9_owners_27 rfl ?_ ?_
      · refine s_iconst (v := 1) hX dX9_owners_34 kc_1 ?_
        refine s_aload_n hX dX9_owners_35 rfl ?_
        refine s_getI hX dX9_owners_36 q_209 rfl (fun v25 => ?_)
        refine s_ishl hX dX9_owners_39 ?_
        exact hK8 _
      · refine s_iconst (v := 0) hX dX9_owners_30 kc_0 ?_
        refine s_goto (tgt := 40) hX dX9_owners_31 rfl ?_
        exact hK8 _
abbrev rm_X9_even : Room := { frames := 3, cells := 0, slots := 0, locals := 72 }
theorem k_X9_even : KYV yX9_even cX9_even 5 (some .int) 2 := ⟨⟨q_1101, q_1, by decide +kernel, by decide +kernel, by decide +kernel⟩, q_1099, q_1100⟩
set_option maxHeartbeats 4000000 in
set_option maxRecDepth 100000 in
theorem c_X9_even (n : Nat) (M0 : MemT) (a0 : Nat) (a1 : Int32) (a2 : Int32) : Ct iI yX9_even cX9_even 5 (some .int) rm_X9_even [.ref a0, .int a1, .int a2] M0 (g_X9_even n M0 a0 a1 a2) := by
  unfold g_X9_even
  refine ct_intro RX9 2 [some (.ref a0), some (.int a1), some (.int a2), none, none] rfl (by decide +kernel) rfl (Nat.le_of_ble_eq_true rfl) (fun X A hX hnm hR => ?_)
  refine s_aload_n hX dX9_even_0 rfl ?_
  refine s_iload_n hX dX9_even_1 rfl ?_
  refine s_callVi (ck1 := 0) (sk1 := 0) (ci := 7) hX dX9_even_2 k_X9_isAsset q_711 (c_X9_isAsset n M0 a0 a1) (by decide) rfl rfl rfl ⟨Nat.le_of_ble_eq_true rfl, Nat.le_of_ble_eq_true rfl⟩ ⟨(Nat.le_of_ble_eq_true rfl), (Nat.le_of_ble_eq_true rfl)⟩ (Nat.le_of_ble_eq_true rfl) rfl rfl (fun r1 M2 => ?_)
  refine s_ifeq (tgt := 20) hX dX9_even_5 rfl ?_ ?_
  · refine s_iconst (v := (-1)) hX dX9_even_20 kc_m1 ?_
    exact s_iret hX hR dX9_even_21 (Nat.le_of_ble_eq_true rfl) (Nat.le_of_ble_eq_true rfl)
  · refine s_iload_n hX dX9_even_8 rfl ?_
    refine s_ldcw hX dX9_even_9 q_1102 ?_
    refine s_ldc hX dX9_even_12 q_724 ?_
    refine s_callSi (ck1 := 0) (sk1 := 0) hX dX9_even_14 k_X9_isIn q_715 (c_X9_isIn n M2 a2 ((-99999)) 99999) rfl rfl ⟨Nat.le_of_ble_eq_true rfl, Nat.le_of_ble_eq_true rfl⟩ ⟨(Nat.le_of_ble_eq_true rfl), (Nat.le_of_ble_eq_true rfl)⟩ (Nat.le_of_ble_eq_true rfl) rfl rfl (fun r3 M4 => ?_)
    refine s_ifne (tgt := 22) hX dX9_even_17 rfl ?_ ?_
    · refine s_iconst (v := (-1)) hX dX9_even_20 kc_m1 ?_
      exact s_iret hX hR dX9_even_21 (Nat.le_of_ble_eq_true rfl) (Nat.le_of_ble_eq_true rfl)
    · refine s_aload_n hX dX9_even_22 rfl ?_
      refine s_getO hX dX9_even_23 q_424 rfl (fun j5 => ?_)
      refine s_getO hX dX9_even_26 q_392 rfl (fun j6 => ?_)
      refine s_getO hX dX9_even_29 q_316 rfl (fun j7 => ?_)
      refine s_iload_n hX dX9_even_32 rfl ?_
      refine s_aald14 hX dX9_even_33 (fun j8 => ?_)
      refine s_astore3 hX dX9_even_34 (by first | exact trivial | exact rfl) (Nat.le_of_ble_eq_true rfl) ?_
      refine s_aload_n hX dX9_even_35 rfl ?_
      refine s_getI hX dX9_even_36 q_252 rfl (fun v9 => ?_)
      refine s_ifne (tgt := 45) hX dX9_even_39 rfl ?_ ?_
      · refine s_bipush (v := (-3)) hX dX9_even_42 kb_m3 ?_
        exact s_iret hX hR dX9_even_44 (Nat.le_of_ble_eq_true rfl) (Nat.le_of_ble_eq_true rfl)
      · refine s_iconst (v := 0) hX dX9_even_45 kc_0 ?_
        refine s_istore4 hX dX9_even_46 (by first | exact trivial | exact rfl) (Nat.le_of_ble_eq_true rfl) ?_
        refine s_loop (stk := []) (fun (s : MemT × Int32) => [some (.ref a0), some (.int a1), some (.int a2), some (.ref j8), some (.int s.2)]) (fun (s : MemT × Int32) => s.1) (fun s B12 hB12 hI12 => ?_) n (M4, 0)
        obtain ⟨M10, v11⟩ := s
        dsimp only
        refine s_iload hX dX9_even_48 rfl ?_
        refine s_aload_n hX dX9_even_50 rfl ?_
        refine s_getO hX dX9_even_51 q_424 rfl (fun j13 => ?_)
        refine s_getO hX dX9_even_54 q_390 rfl (fun j14 => ?_)
        refine s_getI hX dX9_even_57 q_129 rfl (fun v15 => ?_)
        refine s_icgt (tgt := 90) hX dX9_even_60 rfl ?_ ?_
        · refine s_bipush (v := (-2)) hX dX9_even_90 kb_m2 ?_
          exact s_inr hI12 (s_iret hX hR dX9_even_92 (Nat.le_of_ble_eq_true rfl) (Nat.le_of_ble_eq_true rfl))
        · refine s_aload_n hX dX9_even_63 rfl ?_
          refine s_getO hX dX9_even_64 q_424 rfl (fun j16 => ?_)
          refine s_aload_n hX dX9_even_67 rfl ?_
          refine s_iload hX dX9_even_68 rfl ?_
          refine s_aload_n hX dX9_even_70 rfl ?_
          refine s_getI hX dX9_even_71 q_237 rfl (fun v17 => ?_)
          refine s_callVi (ck1 := 0) (sk1 := 0) (ci := 2) hX dX9_even_74 k_X3_adjustedBy q_1078 (c_X3_adjustedBy n M10 j16 j8 v11 v17) (by decide) rfl rfl rfl ⟨Nat.le_of_ble_eq_true rfl, Nat.le_of_ble_eq_true rfl⟩ ⟨(Nat.le_of_ble_eq_true rfl), (Nat.le_of_ble_eq_true rfl)⟩ (Nat.le_of_ble_eq_true rfl) rfl rfl (fun r18 M19 => ?_)
          refine s_iload_n hX dX9_even_77 rfl ?_
          refine s_iclt (tgt := 84) hX dX9_even_78 rfl ?_ ?_
          · refine s_iinc4 (v := v11 + 1) hX dX9_even_84 rfl (by first | exact trivial | exact rfl) (Nat.le_of_ble_eq_true rfl) ?_
            refine s_goto (tgt := 48) hX dX9_even_87 rfl ?_
            exact s_back hB12
          · refine s_iload hX dX9_even_81 rfl ?_
            exact s_inr hI12 (s_iret hX hR dX9_even_83 (Nat.le_of_ble_eq_true rfl) (Nat.le_of_ble_eq_true rfl))
abbrev rm_X9_worth : Room := { frames := 6, cells := 0, slots := 0, locals := 137 }
theorem k_X9_worth : KYV yX9_worth cX9_worth 3 (some .int) 1 := ⟨⟨q_1106, q_1, by decide +kernel, by decide +kernel, by decide +kernel⟩, q_1104, q_1105⟩
set_option maxHeartbeats 4000000 in
set_option maxRecDepth 100000 in
theorem c_X9_worth (n : Nat) (M0 : MemT) (a0 : Nat) (a1 : Int32) : Ct iI yX9_worth cX9_worth 3 (some .int) rm_X9_worth [.ref a0, .int a1] M0 (g_X9_worth n M0 a0 a1) := by
  unfold g_X9_worth
  refine ct_intro RX9 1 [some (.ref a0), some (.int a1), none] rfl (by decide +kernel) rfl (Nat.le_of_ble_eq_true rfl) (fun X A hX hnm hR => ?_)
  refine s_aload_n hX dX9_worth_0 rfl ?_
  refine s_iload_n hX dX9_worth_1 rfl ?_
  refine s_callVi (ck1 := 0) (sk1 := 0) (ci := 7) hX dX9_worth_2 k_X9_isAsset q_711 (c_X9_isAsset n M0 a0 a1) (by decide) rfl rfl rfl ⟨Nat.le_of_ble_eq_true rfl, Nat.le_of_ble_eq_true rfl⟩ ⟨(Nat.le_of_ble_eq_true rfl), (Nat.le_of_ble_eq_true rfl)⟩ (Nat.le_of_ble_eq_true rfl) rfl rfl (fun r1 M2 => ?_)
  refine s_ifne (tgt := 10) hX dX9_worth_5 rfl ?_ ?_
  · refine s_iconst (v := (-1)) hX dX9_worth_8 kc_m1 ?_
    exact s_iret hX hR dX9_worth_9 (Nat.le_of_ble_eq_true rfl) (Nat.le_of_ble_eq_true rfl)
  · refine s_aload_n hX dX9_worth_10 rfl ?_
    refine s_getO hX dX9_worth_11 q_424 rfl (fun j3 => ?_)
    refine s_getO hX dX9_worth_14 q_392 rfl (fun j4 => ?_)
    refine s_getO hX dX9_worth_17 q_316 rfl (fun j5 => ?_)
    refine s_iload_n hX dX9_worth_20 rfl ?_
    refine s_aald14 hX dX9_worth_21 (fun j6 => ?_)
    refine s_astore2 hX dX9_worth_22 (by first | exact trivial | exact rfl) (Nat.le_of_ble_eq_true rfl) ?_
    refine s_aload_n hX dX9_worth_23 rfl ?_
    refine s_getI hX dX9_worth_24 q_233 rfl (fun v7 => ?_)
    refine s_ifeq (tgt := 35) hX dX9_worth_27 rfl ?_ ?_
    · refine s_aload_n hX dX9_worth_35 rfl ?_
      refine s_getO hX dX9_worth_36 q_424 rfl (fun j8 => ?_)
      refine s_aload_n hX dX9_worth_39 rfl ?_
      refine s_aload_n hX dX9_worth_40 rfl ?_
      refine s_getI hX dX9_worth_41 q_216 rfl (fun v9 => ?_)
      refine s_callVi (ck1 := 0) (sk1 := 0) (ci := 2) hX dX9_worth_44 k_X3_worthNow q_1077 (c_X3_worthNow n M2 j8 j6 v9) (by decide) rfl rfl rfl ⟨Nat.le_of_ble_eq_true rfl, Nat.le_of_ble_eq_true rfl⟩ ⟨(Nat.le_of_ble_eq_true rfl), (Nat.le_of_ble_eq_true rfl)⟩ (Nat.le_of_ble_eq_true rfl) rfl rfl (fun r10 M11 => ?_)
      exact s_iret hX hR dX9_worth_47 (Nat.le_of_ble_eq_true rfl) (Nat.le_of_ble_eq_true rfl)
    · refine s_bipush (v := (-2)) hX dX9_worth_30 kb_m2 ?_
      refine s_goto (tgt := 47) hX dX9_worth_32 rfl ?_
      exact s_iret hX hR dX9_worth_47 (Nat.le_of_ble_eq_true rfl) (Nat.le_of_ble_eq_true rfl)
abbrev rm_X9_tried : Room := { frames := 7, cells := 0, slots := 0, locals := 170 }
theorem k_X9_tried : KYV yX9_tried cX9_tried 5 (some .int) 3 := ⟨⟨q_1110, q_1, by decide +kernel, by decide +kernel, by decide +kernel⟩, q_1108, q_1109⟩
set_option maxHeartbeats 4000000 in
set_option maxRecDepth 100000 in
theorem c_X9_tried (n : Nat) (M0 : MemT) (a0 : Nat) (a1 : Int32) (a2 : Int32) (a3 : Int32) : Ct iI yX9_tried cX9_tried 5 (some .int) rm_X9_tried [.ref a0, .int a1, .int a2, .int a3] M0 (g_X9_tried n M0 a0 a1 a2 a3) := by
  unfold g_X9_tried
  refine ct_intro RX9 1 [some (.ref a0), some (.int a1), some (.int a2), some (.int a3), none] rfl (by decide +kernel) rfl (Nat.le_of_ble_eq_true rfl) (fun X A hX hnm hR => ?_)
  refine s_iload_n hX dX9_tried_0 rfl ?_
  refine s_iconst (v := 1) hX dX9_tried_1 kc_1 ?_
  refine s_bipush (v := 16) hX dX9_tried_2 kb_16 ?_
  refine s_callSi (ck1 := 0) (sk1 := 0) hX dX9_tried_4 k_X9_isIn q_715 (c_X9_isIn n M0 a1 1 16) rfl rfl ⟨Nat.le_of_ble_eq_true rfl, Nat.le_of_ble_eq_true rfl⟩ ⟨(Nat.le_of_ble_eq_true rfl), (Nat.le_of_ble_eq_true rfl)⟩ (Nat.le_of_ble_eq_true rfl) rfl rfl (fun r1 M2 => ?_)
  refine s_ifeq (tgt := 35) hX dX9_tried_7 rfl ?_ ?_
  · refine s_ldc hX dX9_tried_35 q_946 ?_
    exact s_iret hX hR dX9_tried_37 (Nat.le_of_ble_eq_true rfl) (Nat.le_of_ble_eq_true rfl)
  · refine s_aload_n hX dX9_tried_10 rfl ?_
    refine s_iload_n hX dX9_tried_11 rfl ?_
    refine s_callVi (ck1 := 0) (sk1 := 0) (ci := 7) hX dX9_tried_12 k_X9_mayEnd q_788 (c_X9_mayEnd n M2 a0 a1) (by decide) rfl rfl rfl ⟨Nat.le_of_ble_eq_true rfl, Nat.le_of_ble_eq_true rfl⟩ ⟨(Nat.le_of_ble_eq_true rfl), (Nat.le_of_ble_eq_true rfl)⟩ (Nat.le_of_ble_eq_true rfl) rfl rfl (fun r3 M4 => ?_)
    refine s_ifeq (tgt := 35) hX dX9_tried_15 rfl ?_ ?_
    · refine s_ldc hX dX9_tried_35 q_946 ?_
      exact s_iret hX hR dX9_tried_37 (Nat.le_of_ble_eq_true rfl) (Nat.le_of_ble_eq_true rfl)
    · refine s_aload_n hX dX9_tried_18 rfl ?_
      refine s_iload_n hX dX9_tried_19 rfl ?_
      refine s_callVi (ck1 := 0) (sk1 := 0) (ci := 7) hX dX9_tried_20 k_X9_isTrader q_720 (c_X9_isTrader n M4 a0 a2) (by decide) rfl rfl rfl ⟨Nat.le_of_ble_eq_true rfl, Nat.le_of_ble_eq_true rfl⟩ ⟨(Nat.le_of_ble_eq_true rfl), (Nat.le_of_ble_eq_true rfl)⟩ (Nat.le_of_ble_eq_true rfl) rfl rfl (fun r5 M6 => ?_)
      refine s_ifeq (tgt := 35) hX dX9_tried_23 rfl ?_ ?_
      · refine s_ldc hX dX9_tried_35 q_946 ?_
        exact s_iret hX hR dX9_tried_37 (Nat.le_of_ble_eq_true rfl) (Nat.le_of_ble_eq_true rfl)
      · refine s_iload_n hX dX9_tried_26 rfl ?_
        refine s_iconst (v := 0) hX dX9_tried_27 kc_0 ?_
        refine s_iconst (v := 3) hX dX9_tried_28 kc_3 ?_
        refine s_callSi (ck1 := 0) (sk1 := 0) hX dX9_tried_29 k_X9_isIn q_715 (c_X9_isIn n M6 a3 0 3) rfl rfl ⟨Nat.le_of_ble_eq_true rfl, Nat.le_of_ble_eq_true rfl⟩ ⟨(Nat.le_of_ble_eq_true rfl), (Nat.le_of_ble_eq_true rfl)⟩ (Nat.le_of_ble_eq_true rfl) rfl rfl (fun r7 M8 => ?_)
        refine s_ifne (tgt := 38) hX dX9_tried_32 rfl ?_ ?_
        · refine s_ldc hX dX9_tried_35 q_946 ?_
          exact s_iret hX hR dX9_tried_37 (Nat.le_of_ble_eq_true rfl) (Nat.le_of_ble_eq_true rfl)
        · refine s_aload_n hX dX9_tried_38 rfl ?_
          refine s_getO hX dX9_tried_39 q_425 rfl (fun j9 => ?_)
          refine s_aload_n hX dX9_tried_42 rfl ?_
          refine s_getO hX dX9_tried_43 q_424 rfl (fun j10 => ?_)
          refine s_callVu (ck1 := 0) (sk1 := 0) (ci := 2) hX dX9_tried_46 k_X3_imitate q_1111 (c_X3_imitate n M8 j9 j10) (by decide) rfl rfl rfl ⟨Nat.le_of_ble_eq_true rfl, Nat.le_of_ble_eq_true rfl⟩ ⟨(Nat.le_of_ble_eq_true rfl), (Nat.le_of_ble_eq_true rfl)⟩ (Nat.le_of_ble_eq_true rfl) rfl rfl (fun r11 M12 => ?_)
          refine s_iconst (v := 0) hX dX9_tried_49 kc_0 ?_
          refine s_istore4 hX dX9_tried_50 (by first | exact trivial | exact rfl) (Nat.le_of_ble_eq_true rfl) ?_
          refine s_loopE (stk := []) (fun (s : MemT × Int32) => [some (.ref a0), some (.int a1), some (.int a2), some (.int a3), some (.int s.2)]) (fun (s : MemT × Int32) => s.1) 71 (fun (s : MemT × Int32) => [some (.ref a0), some (.int a1), some (.int a2), some (.int a3), some (.int s.2)]) (fun s B15 hB15 hE15 => ?_) (fun s => ?_) n (M12, 0)
          · obtain ⟨M13, v14⟩ := s
            dsimp only
            refine s_iload hX dX9_tried_52 rfl ?_
            refine s_iload_n hX dX9_tried_54 rfl ?_
            refine s_icge (tgt := 71) hX dX9_tried_55 rfl ?_ ?_
            · exact s_exit hE15
            · refine s_aload_n hX dX9_tried_58 rfl ?_
              refine s_getO hX dX9_tried_59 q_425 rfl (fun j16 => ?_)
              refine s_callVu (ck1 := 0) (sk1 := 0) (ci := 2) hX dX9_tried_62 k_X3_endQuarter q_792 (c_X3_endQuarter n M13 j16) (by decide) rfl rfl rfl ⟨Nat.le_of_ble_eq_true rfl, Nat.le_of_ble_eq_true rfl⟩ ⟨(Nat.le_of_ble_eq_true rfl), (Nat.le_of_ble_eq_true rfl)⟩ (Nat.le_of_ble_eq_true rfl) rfl rfl (fun r17 M18 => ?_)
              refine s_iinc4 (v := v14 + 1) hX dX9_tried_65 rfl (by first | exact trivial | exact rfl) (Nat.le_of_ble_eq_true rfl) ?_
              refine s_goto (tgt := 52) hX dX9_tried_68 rfl ?_
              exact s_back hB15
          · obtain ⟨M19, v20⟩ := s
            dsimp only
            refine s_aload_n hX dX9_tried_71 rfl ?_
            refine s_getO hX dX9_tried_72 q_425 rfl (fun j21 => ?_)
            refine s_getO hX dX9_tried_75 q_392 rfl (fun j22 => ?_)
            refine s_iload_n hX dX9_tried_78 rfl ?_
            refine s_iload_n hX dX9_tried_79 rfl ?_
            refine s_callVi (ck1 := 0) (sk1 := 0) (ci := 1) hX dX9_tried_80 k_X2_totalOf q_990 (c_X2_totalOf n M19 j22 a2 a3) (by decide) rfl rfl rfl ⟨Nat.le_of_ble_eq_true rfl, Nat.le_of_ble_eq_true rfl⟩ ⟨(Nat.le_of_ble_eq_true rfl), (Nat.le_of_ble_eq_true rfl)⟩ (Nat.le_of_ble_eq_true rfl) rfl rfl (fun r23 M24 => ?_)
            refine s_aload_n hX dX9_tried_83 rfl ?_
            refine s_getO hX dX9_tried_84 q_424 rfl (fun j25 => ?_)
            refine s_getO hX dX9_tried_87 q_392 rfl (fun j26 => ?_)
            refine s_iload_n hX dX9_tried_90 rfl ?_
            refine s_iload_n hX dX9_tried_91 rfl ?_
            refine s_callVi (ck1 := 0) (sk1 := 0) (ci := 1) hX dX9_tried_92 k_X2_totalOf q_990 (c_X2_totalOf n M24 j26 a2 a3) (by decide) rfl rfl rfl ⟨Nat.le_of_ble_eq_true rfl, Nat.le_of_ble_eq_true rfl⟩ ⟨(Nat.le_of_ble_eq_true rfl), (Nat.le_of_ble_eq_true rfl)⟩ (Nat.le_of_ble_eq_true rfl) rfl rfl (fun r27 M28 => ?_)
            refine s_isub hX dX9_tried_95 ?_
            exact s_iret hX hR dX9_tried_96 (Nat.le_of_ble_eq_true rfl) (Nat.le_of_ble_eq_true rfl)
abbrev rm_X9_numberBehind : Room := { frames := 0, cells := 0, slots := 0, locals := 0 }
theorem k_X9_numberBehind : KYS yX9_numberBehind cX9_numberBehind 2 (some .long) 1 := ⟨⟨q_1122, q_1, by decide +kernel, by decide +kernel, by decide +kernel⟩, q_1121⟩
set_option maxHeartbeats 4000000 in
set_option maxRecDepth 100000 in
theorem c_X9_numberBehind (n : Nat) (M0 : MemT) (a0 : Int64) : Ct iJ yX9_numberBehind cX9_numberBehind 2 (some .long) rm_X9_numberBehind [.long a0] M0 (g_X9_numberBehind n M0 a0) := by
  unfold g_X9_numberBehind
  refine ct_intro RX9 0 [some (.long a0), none] rfl (by decide +kernel) rfl (Nat.le_of_ble_eq_true rfl) (fun X A hX hnm hR => ?_)
  refine s_lload_n hX dX9_numberBehind_0 rfl ?_
  refine s_ldc2 hX dX9_numberBehind_1 q_1123 ?_
  refine s_lmul hX dX9_numberBehind_4 ?_
  refine s_ldc2 hX dX9_numberBehind_5 q_1124 ?_
  refine s_ladd hX dX9_numberBehind_8 ?_
  refine s_ldc2 hX dX9_numberBehind_9 q_1125 ?_
  refine s_land hX dX9_numberBehind_12 ?_
  exact s_lret hX hR dX9_numberBehind_13 (Nat.le_of_ble_eq_true rfl) (Nat.le_of_ble_eq_true rfl)
abbrev rm_X9_chance : Room := { frames := 7, cells := 0, slots := 0, locals := 170 }
theorem k_X9_chance : KYV yX9_chance cX9_chance 8 (some .int) 3 := ⟨⟨q_1119, q_1, by decide +kernel, by decide +kernel, by decide +kernel⟩, q_1117, q_1118⟩
set_option maxHeartbeats 4000000 in
set_option maxRecDepth 100000 in
theorem c_X9_chance (n : Nat) (M0 : MemT) (a0 : Nat) (a1 : Int32) (a2 : Int32) (a3 : Int32) : Ct iI yX9_chance cX9_chance 8 (some .int) rm_X9_chance [.ref a0, .int a1, .int a2, .int a3] M0 (g_X9_chance n M0 a0 a1 a2 a3) := by
  unfold g_X9_chance
  refine ct_intro RX9 4 [some (.ref a0), some (.int a1), some (.int a2), some (.int a3), none, none, none, none] rfl (by decide +kernel) rfl (Nat.le_of_ble_eq_true rfl) (fun X A hX hnm hR => ?_)
  refine s_iload_n hX dX9_chance_0 rfl ?_
  refine s_iconst (v := (-1)) hX dX9_chance_1 kc_m1 ?_
  refine s_iclt (tgt := 31) hX dX9_chance_2 rfl ?_ ?_
  · refine s_ldc hX dX9_chance_31 q_946 ?_
    exact s_iret hX hR dX9_chance_33 (Nat.le_of_ble_eq_true rfl) (Nat.le_of_ble_eq_true rfl)
  · refine s_iload_n hX dX9_chance_5 rfl ?_
    refine s_iconst (v := 1) hX dX9_chance_6 kc_1 ?_
    refine s_bipush (v := 8) hX dX9_chance_7 kb_8 ?_
    refine s_callSi (ck1 := 0) (sk1 := 0) hX dX9_chance_9 k_X9_isIn q_715 (c_X9_isIn n M0 a2 1 8) rfl rfl ⟨Nat.le_of_ble_eq_true rfl, Nat.le_of_ble_eq_true rfl⟩ ⟨(Nat.le_of_ble_eq_true rfl), (Nat.le_of_ble_eq_true rfl)⟩ (Nat.le_of_ble_eq_true rfl) rfl rfl (fun r1 M2 => ?_)
    refine s_ifeq (tgt := 31) hX dX9_chance_12 rfl ?_ ?_
    · refine s_ldc hX dX9_chance_31 q_946 ?_
      exact s_iret hX hR dX9_chance_33 (Nat.le_of_ble_eq_true rfl) (Nat.le_of_ble_eq_true rfl)
    · refine s_aload_n hX dX9_chance_15 rfl ?_
      refine s_iload_n hX dX9_chance_16 rfl ?_
      refine s_callVi (ck1 := 0) (sk1 := 0) (ci := 7) hX dX9_chance_17 k_X9_mayEnd q_788 (c_X9_mayEnd n M2 a0 a2) (by decide) rfl rfl rfl ⟨Nat.le_of_ble_eq_true rfl, Nat.le_of_ble_eq_true rfl⟩ ⟨(Nat.le_of_ble_eq_true rfl), (Nat.le_of_ble_eq_true rfl)⟩ (Nat.le_of_ble_eq_true rfl) rfl rfl (fun r3 M4 => ?_)
      refine s_ifeq (tgt := 31) hX dX9_chance_20 rfl ?_ ?_
      · refine s_ldc hX dX9_chance_31 q_946 ?_
        exact s_iret hX hR dX9_chance_33 (Nat.le_of_ble_eq_true rfl) (Nat.le_of_ble_eq_true rfl)
      · refine s_aload_n hX dX9_chance_23 rfl ?_
        refine s_iload_n hX dX9_chance_24 rfl ?_
        refine s_callVi (ck1 := 0) (sk1 := 0) (ci := 7) hX dX9_chance_25 k_X9_isTrader q_720 (c_X9_isTrader n M4 a0 a3) (by decide) rfl rfl rfl ⟨Nat.le_of_ble_eq_true rfl, Nat.le_of_ble_eq_true rfl⟩ ⟨(Nat.le_of_ble_eq_true rfl), (Nat.le_of_ble_eq_true rfl)⟩ (Nat.le_of_ble_eq_true rfl) rfl rfl (fun r5 M6 => ?_)
        refine s_ifne (tgt := 34) hX dX9_chance_28 rfl ?_ ?_
        · refine s_ldc hX dX9_chance_31 q_946 ?_
          exact s_iret hX hR dX9_chance_33 (Nat.le_of_ble_eq_true rfl) (Nat.le_of_ble_eq_true rfl)
        · refine s_aload_n hX dX9_chance_34 rfl ?_
          refine s_getO hX dX9_chance_35 q_425 rfl (fun j7 => ?_)
          refine s_aload_n hX dX9_chance_38 rfl ?_
          refine s_getO hX dX9_chance_39 q_424 rfl (fun j8 => ?_)
          refine s_callVu (ck1 := 0) (sk1 := 0) (ci := 2) hX dX9_chance_42 k_X3_imitate q_1111 (c_X3_imitate n M6 j7 j8) (by decide) rfl rfl rfl ⟨Nat.le_of_ble_eq_true rfl, Nat.le_of_ble_eq_true rfl⟩ ⟨(Nat.le_of_ble_eq_true rfl), (Nat.le_of_ble_eq_true rfl)⟩ (Nat.le_of_ble_eq_true rfl) rfl rfl (fun r9 M10 => ?_)
          refine s_iload_n hX dX9_chance_45 rfl ?_
          refine s_iconst (v := (-1)) hX dX9_chance_46 kc_m1 ?_
          refine s_jp (fun (s : MemT × Int64) => [some (.ref a0), some (.int a1), some (.int a2), some (.int a3), none, none, none, none]) (fun (s : MemT × Int64) => [.long s.2]) (fun (s : MemT × Int64) => s.1) 0 0 66 (fun s => ?_) (fun K11 hK11 => ?_)
          · obtain ⟨M12, v13⟩ := s
            dsimp only
            refine s_lstore4 hX dX9_chance_66 (by first | exact trivial | exact rfl) (Nat.le_of_ble_eq_true rfl) ?_
            refine s_iconst (v := 0) hX dX9_chance_68 kc_0 ?_
            refine s_istore6 hX dX9_chance_69 (by first | exact trivial | exact rfl) (Nat.le_of_ble_eq_true rfl) ?_
            refine s_loopE (stk := []) (fun (s : MemT × Int64 × Int32) => [some (.ref a0), some (.int a1), some (.int a2), some (.int a3), some (.long s.2.1), none, some (.int s.2.2), none]) (fun (s : MemT × Int64 × Int32) => s.1) 146 (fun (s : MemT × Int64 × Int32) => [some (.ref a0), some (.int a1), some (.int a2), some (.int a3), some (.long s.2.1), none, some (.int s.2.2), none]) (fun s B17 hB17 hE17 => ?_) (fun s => ?_) n (M12, v13, 0)
            · obtain ⟨M14, v15, v16⟩ := s
              dsimp only
              refine s_iload hX dX9_chance_71 rfl ?_
              refine s_iload_n hX dX9_chance_73 rfl ?_
              refine s_icge (tgt := 146) hX dX9_chance_74 rfl ?_ ?_
              · exact s_exit hE17
              · refine s_iconst (v := 0) hX dX9_chance_77 kc_0 ?_
                refine s_istore7 hX dX9_chance_78 (by first | exact trivial | exact rfl) (Nat.le_of_ble_eq_true rfl) ?_
                refine s_loopE (stk := []) (fun (s : MemT × Int64 × Int32) => [some (.ref a0), some (.int a1), some (.int a2), some (.int a3), some (.long s.2.1), none, some (.int v16), some (.int s.2.2)]) (fun (s : MemT × Int64 × Int32) => s.1) 133 (fun (s : MemT × Int64 × Int32) => [some (.ref a0), some (.int a1), some (.int a2), some (.int a3), some (.long s.2.1), none, some (.int v16), some (.int s.2.2)]) (fun s B21 hB21 hE21 => ?_) (fun s => ?_) n (M14, v15, 0)
                · obtain ⟨M18, v19, v20⟩ := s
                  dsimp only
                  refine s_iload hX dX9_chance_80 rfl ?_
                  refine s_iconst (v := 2) hX dX9_chance_82 kc_2 ?_
                  refine s_icge (tgt := 133) hX dX9_chance_83 rfl ?_ ?_
                  · exact s_exit hE21
                  · refine s_lload hX dX9_chance_86 rfl ?_
                    refine s_callSj (ck1 := 0) (sk1 := 0) hX dX9_chance_88 k_X9_numberBehind q_1120 (c_X9_numberBehind n M18 v19) rfl rfl ⟨Nat.le_of_ble_eq_true rfl, Nat.le_of_ble_eq_true rfl⟩ ⟨(Nat.le_of_ble_eq_true rfl), (Nat.le_of_ble_eq_true rfl)⟩ (Nat.le_of_ble_eq_true rfl) rfl rfl (fun r22 M23 => ?_)
                    refine s_lstore4 hX dX9_chance_91 (by first | exact trivial | exact rfl) (Nat.le_of_ble_eq_true rfl) ?_
                    refine s_aload_n hX dX9_chance_93 rfl ?_
                    refine s_getO hX dX9_chance_94 q_425 rfl (fun j24 => ?_)
                    refine s_getO hX dX9_chance_97 q_392 rfl (fun j25 => ?_)
                    refine s_iload_n hX dX9_chance_100 rfl ?_
                    refine s_aload_n hX dX9_chance_101 rfl ?_
                    refine s_getO hX dX9_chance_102 q_425 rfl (fun j26 => ?_)
                    refine s_getO hX dX9_chance_105 q_392 rfl (fun j27 => ?_)
                    refine s_getI hX dX9_chance_108 q_303 rfl (fun v28 => ?_)
                    refine s_iload hX dX9_chance_111 rfl ?_
                    refine s_lload hX dX9_chance_113 rfl ?_
                    refine s_bipush (v := 16) hX dX9_chance_115 kb_16 ?_
                    refine s_lshr hX dX9_chance_117 ?_
                    refine s_ldc2 hX dX9_chance_118 q_1126 ?_
                    refine s_lrem hX dX9_chance_121 ?_
                    refine s_l2i hX dX9_chance_122 ?_
                    refine s_callVi (ck1 := 0) (sk1 := 0) (ci := 1) hX dX9_chance_123 k_X2_addToSum q_740 (c_X2_addToSum n M23 j25 a3 v28 v20 (Int64.toInt32 ((r22 >>> (Int32.toInt64 16 &&& 63)) - (r22 >>> (Int32.toInt64 16 &&& 63)) / 1000 * 1000))) (by decide) rfl rfl rfl ⟨Nat.le_of_ble_eq_true rfl, Nat.le_of_ble_eq_true rfl⟩ ⟨(Nat.le_of_ble_eq_true rfl), (Nat.le_of_ble_eq_true rfl)⟩ (Nat.le_of_ble_eq_true rfl) rfl rfl (fun r29 M30 => ?_)
                    refine s_pop hX dX9_chance_126 rfl ?_
                    refine s_iinc7 (v := v20 + 1) hX dX9_chance_127 rfl (by first | exact trivial | exact rfl) (Nat.le_of_ble_eq_true rfl) ?_
                    refine s_goto (tgt := 80) hX dX9_chance_130 rfl ?_
                    exact s_back hB21
                · obtain ⟨M31, v32, v33⟩ := s
                  dsimp only
                  refine s_aload_n hX dX9_chance_133 rfl ?_
                  refine s_getO hX dX9_chance_134 q_425 rfl (fun j34 => ?_)
                  refine s_callVu (ck1 := 0) (sk1 := 0) (ci := 2) hX dX9_chance_137 k_X3_endQuarter q_792 (c_X3_endQuarter n M31 j34) (by decide) rfl rfl rfl ⟨Nat.le_of_ble_eq_true rfl, Nat.le_of_ble_eq_true rfl⟩ ⟨(Nat.le_of_ble_eq_true rfl), (Nat.le_of_ble_eq_true rfl)⟩ (Nat.le_of_ble_eq_true rfl) rfl rfl (fun r35 M36 => ?_)
                  refine s_iinc6 (v := v16 + 1) hX dX9_chance_140 rfl (by first | exact trivial | exact rfl) (Nat.le_of_ble_eq_true rfl) ?_
                  refine s_goto (tgt := 71) hX dX9_chance_143 rfl ?_
                  refine s_forget (loc1 := [some (.ref a0), some (.int a1), some (.int a2), some (.int a3), some (.long v32), none, some (.int (v16 + 1)), none]) ⟨rfl, rfl, rfl, rfl, rfl, rfl, trivial⟩ ?_
                  exact s_back hB17
            · obtain ⟨M37, v38, v39⟩ := s
              dsimp only
              refine s_iconst (v := 0) hX dX9_chance_146 kc_0 ?_
              refine s_istore6 hX dX9_chance_147 (by first | exact trivial | exact rfl) (Nat.le_of_ble_eq_true rfl) ?_
              refine s_iconst (v := 0) hX dX9_chance_149 kc_0 ?_
              refine s_istore7 hX dX9_chance_150 (by first | exact trivial | exact rfl) (Nat.le_of_ble_eq_true rfl) ?_
              refine s_loopE (stk := []) (fun (s : MemT × Int32 × Int32) => [some (.ref a0), some (.int a1), some (.int a2), some (.int a3), some (.long v38), none, some (.int s.2.1), some (.int s.2.2)]) (fun (s : MemT × Int32 × Int32) => s.1) 196 (fun (s : MemT × Int32 × Int32) => [some (.ref a0), some (.int a1), some (.int a2), some (.int a3), some (.long v38), none, some (.int s.2.1), some (.int s.2.2)]) (fun s B43 hB43 hE43 => ?_) (fun s => ?_) n (M37, 0, 0)
              · obtain ⟨M40, v41, v42⟩ := s
                dsimp only
                refine s_iload hX dX9_chance_152 rfl ?_
                refine s_iconst (v := 4) hX dX9_chance_154 kc_4 ?_
                refine s_icge (tgt := 196) hX dX9_chance_155 rfl ?_ ?_
                · exact s_exit hE43
                · refine s_iload hX dX9_chance_158 rfl ?_
                  refine s_aload_n hX dX9_chance_160 rfl ?_
                  refine s_getO hX dX9_chance_161 q_425 rfl (fun j44 => ?_)
                  refine s_getO hX dX9_chance_164 q_392 rfl (fun j45 => ?_)
                  refine s_iload_n hX dX9_chance_167 rfl ?_
                  refine s_iload hX dX9_chance_168 rfl ?_
                  refine s_callVi (ck1 := 0) (sk1 := 0) (ci := 1) hX dX9_chance_170 k_X2_totalOf q_990 (c_X2_totalOf n M40 j45 a3 v42) (by decide) rfl rfl rfl ⟨Nat.le_of_ble_eq_true rfl, Nat.le_of_ble_eq_true rfl⟩ ⟨(Nat.le_of_ble_eq_true rfl), (Nat.le_of_ble_eq_true rfl)⟩ (Nat.le_of_ble_eq_true rfl) rfl rfl (fun r46 M47 => ?_)
                  refine s_aload_n hX dX9_chance_173 rfl ?_
                  refine s_getO hX dX9_chance_174 q_424 rfl (fun j48 => ?_)
                  refine s_getO hX dX9_chance_177 q_392 rfl (fun j49 => ?_)
                  refine s_iload_n hX dX9_chance_180 rfl ?_
                  refine s_iload hX dX9_chance_181 rfl ?_
                  refine s_callVi (ck1 := 0) (sk1 := 0) (ci := 1) hX dX9_chance_183 k_X2_totalOf q_990 (c_X2_totalOf n M47 j49 a3 v42) (by decide) rfl rfl rfl ⟨Nat.le_of_ble_eq_true rfl, Nat.le_of_ble_eq_true rfl⟩ ⟨(Nat.le_of_ble_eq_true rfl), (Nat.le_of_ble_eq_true rfl)⟩ (Nat.le_of_ble_eq_true rfl) rfl rfl (fun r50 M51 => ?_)
                  refine s_isub hX dX9_chance_186 ?_
                  refine s_iadd hX dX9_chance_187 ?_
                  refine s_istore6 hX dX9_chance_188 (by first | exact trivial | exact rfl) (Nat.le_of_ble_eq_true rfl) ?_
                  refine s_iinc7 (v := v42 + 1) hX dX9_chance_190 rfl (by first | exact trivial | exact rfl) (Nat.le_of_ble_eq_true rfl) ?_
                  refine s_goto (tgt := 152) hX dX9_chance_193 rfl ?_
                  exact s_back hB43
              · obtain ⟨M52, v53, v54⟩ := s
                dsimp only
                refine s_iload hX dX9_chance_196 rfl ?_
                exact s_iret hX hR dX9_chance_198 (Nat.le_of_ble_eq_true rfl) (Nat.le_of_ble_eq_true rfl)
          · refine s_icne (tgt := 64) hX dX9_chance_47 rfl ?_ ?_
            · refine s_aload_n hX dX9_chance_50 rfl ?_
              refine s_getO hX dX9_chance_51 q_424 rfl (fun j55 => ?_)
              refine s_getO hX dX9_chance_54 q_390 rfl (fun j56 => ?_)
              refine s_getI hX dX9_chance_57 q_136 rfl (fun v57 => ?_)
              refine s_i2l hX dX9_chance_60 ?_
              refine s_goto (tgt := 66) hX dX9_chance_61 rfl ?_
              exact hK11 _
            · refine s_iload_n hX dX9_chance_64 rfl ?_
              refine s_i2l hX dX9_chance_65 ?_
              exact hK11 _
abbrev rm_X9_farthest : Room := { frames := 7, cells := 0, slots := 0, locals := 160 }
theorem k_X9_farthest : KYV yX9_farthest cX9_farthest 6 (some .int) 1 := ⟨⟨q_1130, q_1, by decide +kernel, by decide +kernel, by decide +kernel⟩, q_1128, q_1129⟩
set_option maxHeartbeats 4000000 in
set_option maxRecDepth 100000 in
theorem c_X9_farthest (n : Nat) (M0 : MemT) (a0 : Nat) (a1 : Int32) : Ct iI yX9_farthest cX9_farthest 6 (some .int) rm_X9_farthest [.ref a0, .int a1] M0 (g_X9_farthest n M0 a0 a1) := by
  unfold g_X9_farthest
  refine ct_intro RX9 4 [some (.ref a0), some (.int a1), none, none, none, none] rfl (by decide +kernel) rfl (Nat.le_of_ble_eq_true rfl) (fun X A hX hnm hR => ?_)
  refine s_aload_n hX dX9_farthest_0 rfl ?_
  refine s_iload_n hX dX9_farthest_1 rfl ?_
  refine s_callVi (ck1 := 0) (sk1 := 0) (ci := 7) hX dX9_farthest_2 k_X9_isTrader q_720 (c_X9_isTrader n M0 a0 a1) (by decide) rfl rfl rfl ⟨Nat.le_of_ble_eq_true rfl, Nat.le_of_ble_eq_true rfl⟩ ⟨(Nat.le_of_ble_eq_true rfl), (Nat.le_of_ble_eq_true rfl)⟩ (Nat.le_of_ble_eq_true rfl) rfl rfl (fun r1 M2 => ?_)
  refine s_ifne (tgt := 10) hX dX9_farthest_5 rfl ?_ ?_
  · refine s_iconst (v := (-1)) hX dX9_farthest_8 kc_m1 ?_
    exact s_iret hX hR dX9_farthest_9 (Nat.le_of_ble_eq_true rfl) (Nat.le_of_ble_eq_true rfl)
  · refine s_bipush (v := (-2)) hX dX9_farthest_10 kb_m2 ?_
    refine s_istore2 hX dX9_farthest_12 (by first | exact trivial | exact rfl) (Nat.le_of_ble_eq_true rfl) ?_
    refine s_iconst (v := (-1)) hX dX9_farthest_13 kc_m1 ?_
    refine s_istore3 hX dX9_farthest_14 (by first | exact trivial | exact rfl) (Nat.le_of_ble_eq_true rfl) ?_
    refine s_iconst (v := 0) hX dX9_farthest_15 kc_0 ?_
    refine s_istore4 hX dX9_farthest_16 (by first | exact trivial | exact rfl) (Nat.le_of_ble_eq_true rfl) ?_
    refine s_loopE (stk := []) (fun (s : MemT × Int32 × Int32 × Int32) => [some (.ref a0), some (.int a1), some (.int s.2.1), some (.int s.2.2.1), some (.int s.2.2.2), none]) (fun (s : MemT × Int32 × Int32 × Int32) => s.1) 63 (fun (s : MemT × Int32 × Int32 × Int32) => [some (.ref a0), some (.int a1), some (.int s.2.1), some (.int s.2.2.1), some (.int s.2.2.2), none]) (fun s B7 hB7 hE7 => ?_) (fun s => ?_) n (M2, (-2), (-1), 0)
    · obtain ⟨M3, v4, v5, v6⟩ := s
      dsimp only
      refine s_iload hX dX9_farthest_18 rfl ?_
      refine s_aload_n hX dX9_farthest_20 rfl ?_
      refine s_getO hX dX9_farthest_21 q_424 rfl (fun j8 => ?_)
      refine s_callVi (ck1 := 0) (sk1 := 0) (ci := 2) hX dX9_farthest_24 k_X3_thisYear q_945 (c_X3_thisYear n M3 j8) (by decide) rfl rfl rfl ⟨Nat.le_of_ble_eq_true rfl, Nat.le_of_ble_eq_true rfl⟩ ⟨(Nat.le_of_ble_eq_true rfl), (Nat.le_of_ble_eq_true rfl)⟩ (Nat.le_of_ble_eq_true rfl) rfl rfl (fun r9 M10 => ?_)
      refine s_icge (tgt := 63) hX dX9_farthest_27 rfl ?_ ?_
      · exact s_exit hE7
      · refine s_aload_n hX dX9_farthest_30 rfl ?_
        refine s_getO hX dX9_farthest_31 q_424 rfl (fun j11 => ?_)
        refine s_iload_n hX dX9_farthest_34 rfl ?_
        refine s_iload hX dX9_farthest_35 rfl ?_
        refine s_callVi (ck1 := 0) (sk1 := 0) (ci := 2) hX dX9_farthest_37 k_X3_trued q_957 (c_X3_trued n M10 j11 a1 v6) (by decide) rfl rfl rfl ⟨Nat.le_of_ble_eq_true rfl, Nat.le_of_ble_eq_true rfl⟩ ⟨(Nat.le_of_ble_eq_true rfl), (Nat.le_of_ble_eq_true rfl)⟩ (Nat.le_of_ble_eq_true rfl) rfl rfl (fun r12 M13 => ?_)
        refine s_mabs hX dX9_farthest_40 q_1131 q_1132 q_10 q_1133 (Nat.le_of_ble_eq_true rfl) (Nat.le_of_ble_eq_true rfl) (Nat.le_of_ble_eq_true rfl) (Nat.le_of_ble_eq_true rfl) ?_
        refine s_istore5 hX dX9_farthest_43 (by first | exact trivial | exact rfl) (Nat.le_of_ble_eq_true rfl) ?_
        refine s_iload hX dX9_farthest_45 rfl ?_
        refine s_iload_n hX dX9_farthest_47 rfl ?_
        refine s_icle (tgt := 57) hX dX9_farthest_48 rfl ?_ ?_
        · refine s_iinc4 (v := v6 + 1) hX dX9_farthest_57 rfl (by first | exact trivial | exact rfl) (Nat.le_of_ble_eq_true rfl) ?_
          refine s_goto (tgt := 18) hX dX9_farthest_60 rfl ?_
          refine s_forget (loc1 := [some (.ref a0), some (.int a1), some (.int v4), some (.int v5), some (.int (v6 + 1)), none]) ⟨rfl, rfl, rfl, rfl, rfl, trivial⟩ ?_
          exact s_back hB7
        · refine s_iload hX dX9_farthest_51 rfl ?_
          refine s_istore3 hX dX9_farthest_53 (by first | exact trivial | exact rfl) (Nat.le_of_ble_eq_true rfl) ?_
          refine s_iload hX dX9_farthest_54 rfl ?_
          refine s_istore2 hX dX9_farthest_56 (by first | exact trivial | exact rfl) (Nat.le_of_ble_eq_true rfl) ?_
          refine s_iinc4 (v := v6 + 1) hX dX9_farthest_57 rfl (by first | exact trivial | exact rfl) (Nat.le_of_ble_eq_true rfl) ?_
          refine s_goto (tgt := 18) hX dX9_farthest_60 rfl ?_
          refine s_forget (loc1 := [some (.ref a0), some (.int a1), some (.int v6), some (.int (if 0 ≤ r12 then r12 else 0 - r12)), some (.int (v6 + 1)), none]) ⟨rfl, rfl, rfl, rfl, rfl, trivial⟩ ?_
          exact s_back hB7
    · obtain ⟨M14, v15, v16, v17⟩ := s
      dsimp only
      refine s_iload_n hX dX9_farthest_63 rfl ?_
      exact s_iret hX hR dX9_farthest_64 (Nat.le_of_ble_eq_true rfl) (Nat.le_of_ble_eq_true rfl)
