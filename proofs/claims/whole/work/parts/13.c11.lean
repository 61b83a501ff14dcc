abbrev rm_X10_limitFor : Room := { frames := 5, cells := 0, slots := 0, locals := 119 }
theorem k_X10_limitFor : KYV yX10_limitFor cX10_limitFor 7 (some .int) 2 := ⟨⟨q_1758, q_9, by decide +kernel, by decide +kernel, by decide +kernel⟩, q_1756, q_1757⟩
set_option maxHeartbeats 4000000 in
set_option maxRecDepth 100000 in
theorem c_X10_limitFor (n : Nat) (M0 : MemT) (a0 : Nat) (a1 : Int32) (a2 : Int32) : Ct iI yX10_limitFor cX10_limitFor 7 (some .int) rm_X10_limitFor [.ref a0, .int a1, .int a2] M0 (g_X10_limitFor n M0 a0 a1 a2) := by
  unfold g_X10_limitFor
  refine ct_intro RX10 4 [some (.ref a0), some (.int a1), some (.int a2), none, none, none, none] rfl (by decide +kernel) rfl (Nat.le_of_ble_eq_true rfl) (fun X A hX hnm hR => ?_)
  refine s_aload_n hX dX10_limitFor_0 rfl ?_
  refine s_iconst (v := 0) hX dX10_limitFor_1 kc_0 ?_
  refine s_putI hX dX10_limitFor_2 q_1308 rfl rfl (fun M1 => ?_)
  refine s_aload_n hX dX10_limitFor_5 rfl ?_
  refine s_iload_n hX dX10_limitFor_6 rfl ?_
  refine s_callVi (ck1 := 0) (sk1 := 0) (ci := 8) hX dX10_limitFor_7 k_X10_isTrader q_1510 (c_X10_isTrader n M1 a0 a1) (by decide) rfl rfl rfl ⟨Nat.le_of_ble_eq_true rfl, Nat.le_of_ble_eq_true rfl⟩ ⟨(Nat.le_of_ble_eq_true rfl), (Nat.le_of_ble_eq_true rfl)⟩ (Nat.le_of_ble_eq_true rfl) rfl rfl (fun r2 M3 => ?_)
  refine s_ifeq (tgt := 23) hX dX10_limitFor_10 rfl ?_ ?_
  · refine s_iconst (v := (-1)) hX dX10_limitFor_23 kc_m1 ?_
    exact s_iret hX hR dX10_limitFor_24 (Nat.le_of_ble_eq_true rfl) (Nat.le_of_ble_eq_true rfl)
  · refine s_iload_n hX dX10_limitFor_13 rfl ?_
    refine s_iconst (v := 0) hX dX10_limitFor_14 kc_0 ?_
    refine s_bipush (v := 15) hX dX10_limitFor_15 kb_15 ?_
    refine s_callSi (ck1 := 0) (sk1 := 0) hX dX10_limitFor_17 k_X10_isIn q_1447 (c_X10_isIn n M3 a2 0 15) rfl rfl ⟨Nat.le_of_ble_eq_true rfl, Nat.le_of_ble_eq_true rfl⟩ ⟨(Nat.le_of_ble_eq_true rfl), (Nat.le_of_ble_eq_true rfl)⟩ (Nat.le_of_ble_eq_true rfl) rfl rfl (fun r4 M5 => ?_)
    refine s_ifne (tgt := 25) hX dX10_limitFor_20 rfl ?_ ?_
    · refine s_iconst (v := (-1)) hX dX10_limitFor_23 kc_m1 ?_
      exact s_iret hX hR dX10_limitFor_24 (Nat.le_of_ble_eq_true rfl) (Nat.le_of_ble_eq_true rfl)
    · refine s_iload_n hX dX10_limitFor_25 rfl ?_
      refine s_aload_n hX dX10_limitFor_26 rfl ?_
      refine s_callVi (ck1 := 0) (sk1 := 0) (ci := 8) hX dX10_limitFor_27 k_X10_year q_1526 (c_X10_year n M5 a0) (by decide) rfl rfl rfl ⟨Nat.le_of_ble_eq_true rfl, Nat.le_of_ble_eq_true rfl⟩ ⟨(Nat.le_of_ble_eq_true rfl), (Nat.le_of_ble_eq_true rfl)⟩ (Nat.le_of_ble_eq_true rfl) rfl rfl (fun r6 M7 => ?_)
      refine s_icle (tgt := 36) hX dX10_limitFor_30 rfl ?_ ?_
      · refine s_aload_n hX dX10_limitFor_36 rfl ?_
        refine s_aload_n hX dX10_limitFor_37 rfl ?_
        refine s_iload_n hX dX10_limitFor_38 rfl ?_
        refine s_iload_n hX dX10_limitFor_39 rfl ?_
        refine s_callVi (ck1 := 0) (sk1 := 0) (ci := 8) hX dX10_limitFor_40 k_X10_annualOf q_1649 (c_X10_annualOf n M7 a0 a1 a2) (by decide) rfl rfl rfl ⟨Nat.le_of_ble_eq_true rfl, Nat.le_of_ble_eq_true rfl⟩ ⟨(Nat.le_of_ble_eq_true rfl), (Nat.le_of_ble_eq_true rfl)⟩ (Nat.le_of_ble_eq_true rfl) rfl rfl (fun r8 M9 => ?_)
        refine s_iconst (v := (-1)) hX dX10_limitFor_43 kc_m1 ?_
        refine s_callVi (ck1 := 0) (sk1 := 0) (ci := 8) hX dX10_limitFor_44 k_X10_back1 q_1617 (c_X10_back1 n M9 a0 r8 ((-1))) (by decide) rfl rfl rfl ⟨Nat.le_of_ble_eq_true rfl, Nat.le_of_ble_eq_true rfl⟩ ⟨(Nat.le_of_ble_eq_true rfl), (Nat.le_of_ble_eq_true rfl)⟩ (Nat.le_of_ble_eq_true rfl) rfl rfl (fun r10 M11 => ?_)
        refine s_i2l hX dX10_limitFor_47 ?_
        refine s_lstore3 hX dX10_limitFor_48 (by first | exact trivial | exact rfl) (Nat.le_of_ble_eq_true rfl) ?_
        refine s_aload_n hX dX10_limitFor_49 rfl ?_
        refine s_getO hX dX10_limitFor_50 q_1330 rfl (fun j12 => ?_)
        refine s_iconst (v := 2) hX dX10_limitFor_53 kc_2 ?_
        refine s_lald hX dX10_limitFor_54 (fun v13 => ?_)
        refine s_aload_n hX dX10_limitFor_55 rfl ?_
        refine s_getO hX dX10_limitFor_56 q_1330 rfl (fun j14 => ?_)
        refine s_iconst (v := 3) hX dX10_limitFor_59 kc_3 ?_
        refine s_lald hX dX10_limitFor_60 (fun v15 => ?_)
        refine s_ladd hX dX10_limitFor_61 ?_
        refine s_aload_n hX dX10_limitFor_62 rfl ?_
        refine s_getO hX dX10_limitFor_63 q_1330 rfl (fun j16 => ?_)
        refine s_iconst (v := 4) hX dX10_limitFor_66 kc_4 ?_
        refine s_lald hX dX10_limitFor_67 (fun v17 => ?_)
        refine s_ladd hX dX10_limitFor_68 ?_
        refine s_lstore5 hX dX10_limitFor_69 (by first | exact trivial | exact rfl) (Nat.le_of_ble_eq_true rfl) ?_
        refine s_ldc2 hX dX10_limitFor_71 q_1612 ?_
        refine s_lload hX dX10_limitFor_74 rfl ?_
        refine s_lload_n hX dX10_limitFor_76 rfl ?_
        refine s_lsub hX dX10_limitFor_77 ?_
        refine s_lmul hX dX10_limitFor_78 ?_
        refine s_lload hX dX10_limitFor_79 rfl ?_
        refine s_lcmp hX dX10_limitFor_81 ?_
        refine s_ifgt (tgt := 93) hX dX10_limitFor_82 rfl ?_ ?_
        · refine s_bipush (v := (-2)) hX dX10_limitFor_93 kb_m2 ?_
          exact s_iret hX hR dX10_limitFor_95 (Nat.le_of_ble_eq_true rfl) (Nat.le_of_ble_eq_true rfl)
        · refine s_lload hX dX10_limitFor_85 rfl ?_
          refine s_lload_n hX dX10_limitFor_87 rfl ?_
          refine s_lsub hX dX10_limitFor_88 ?_
          refine s_l2i hX dX10_limitFor_89 ?_
          refine s_goto (tgt := 95) hX dX10_limitFor_90 rfl ?_
          exact s_iret hX hR dX10_limitFor_95 (Nat.le_of_ble_eq_true rfl) (Nat.le_of_ble_eq_true rfl)
      · refine s_bipush (v := (-2)) hX dX10_limitFor_33 kb_m2 ?_
        exact s_iret hX hR dX10_limitFor_35 (Nat.le_of_ble_eq_true rfl) (Nat.le_of_ble_eq_true rfl)
abbrev rm_X10_byBasis : Room := { frames := 5, cells := 0, slots := 0, locals := 121 }
theorem k_X10_byBasis : KYV yX10_byBasis cX10_byBasis 5 (some .int) 3 := ⟨⟨q_1762, q_9, by decide +kernel, by decide +kernel, by decide +kernel⟩, q_1760, q_1761⟩
set_option maxHeartbeats 4000000 in
set_option maxRecDepth 100000 in
theorem c_X10_byBasis (n : Nat) (M0 : MemT) (a0 : Nat) (a1 : Int32) (a2 : Int32) (a3 : Int32) : Ct iI yX10_byBasis cX10_byBasis 5 (some .int) rm_X10_byBasis [.ref a0, .int a1, .int a2, .int a3] M0 (g_X10_byBasis n M0 a0 a1 a2 a3) := by
  unfold g_X10_byBasis
  refine ct_intro RX10 1 [some (.ref a0), some (.int a1), some (.int a2), some (.int a3), none] rfl (by decide +kernel) rfl (Nat.le_of_ble_eq_true rfl) (fun X A hX hnm hR => ?_)
  refine s_aload_n hX dX10_byBasis_0 rfl ?_
  refine s_iconst (v := 0) hX dX10_byBasis_1 kc_0 ?_
  refine s_putI hX dX10_byBasis_2 q_1308 rfl rfl (fun M1 => ?_)
  refine s_aload_n hX dX10_byBasis_5 rfl ?_
  refine s_iload_n hX dX10_byBasis_6 rfl ?_
  refine s_callVi (ck1 := 0) (sk1 := 0) (ci := 8) hX dX10_byBasis_7 k_X10_isTrader q_1510 (c_X10_isTrader n M1 a0 a1) (by decide) rfl rfl rfl ⟨Nat.le_of_ble_eq_true rfl, Nat.le_of_ble_eq_true rfl⟩ ⟨(Nat.le_of_ble_eq_true rfl), (Nat.le_of_ble_eq_true rfl)⟩ (Nat.le_of_ble_eq_true rfl) rfl rfl (fun r2 M3 => ?_)
  refine s_ifeq (tgt := 37) hX dX10_byBasis_10 rfl ?_ ?_
  · refine s_ldcw hX dX10_byBasis_37 q_1714 ?_
    exact s_iret hX hR dX10_byBasis_40 (Nat.le_of_ble_eq_true rfl) (Nat.le_of_ble_eq_true rfl)
  · refine s_iload_n hX dX10_byBasis_13 rfl ?_
    refine s_iconst (v := 0) hX dX10_byBasis_14 kc_0 ?_
    refine s_aload_n hX dX10_byBasis_15 rfl ?_
    refine s_iconst (v := 0) hX dX10_byBasis_16 kc_0 ?_
    refine s_callVi (ck1 := 0) (sk1 := 0) (ci := 8) hX dX10_byBasis_17 k_X10_of q_1286 (c_X10_of n M3 a0 0) (by decide) rfl rfl rfl ⟨Nat.le_of_ble_eq_true rfl, Nat.le_of_ble_eq_true rfl⟩ ⟨(Nat.le_of_ble_eq_true rfl), (Nat.le_of_ble_eq_true rfl)⟩ (Nat.le_of_ble_eq_true rfl) rfl rfl (fun r4 M5 => ?_)
    refine s_iconst (v := 1) hX dX10_byBasis_20 kc_1 ?_
    refine s_isub hX dX10_byBasis_21 ?_
    refine s_callSi (ck1 := 0) (sk1 := 0) hX dX10_byBasis_22 k_X10_isIn q_1447 (c_X10_isIn n M5 a2 0 (r4 - 1)) rfl rfl ⟨Nat.le_of_ble_eq_true rfl, Nat.le_of_ble_eq_true rfl⟩ ⟨(Nat.le_of_ble_eq_true rfl), (Nat.le_of_ble_eq_true rfl)⟩ (Nat.le_of_ble_eq_true rfl) rfl rfl (fun r6 M7 => ?_)
    refine s_ifeq (tgt := 37) hX dX10_byBasis_25 rfl ?_ ?_
    · refine s_ldcw hX dX10_byBasis_37 q_1714 ?_
      exact s_iret hX hR dX10_byBasis_40 (Nat.le_of_ble_eq_true rfl) (Nat.le_of_ble_eq_true rfl)
    · refine s_iload_n hX dX10_byBasis_28 rfl ?_
      refine s_iconst (v := 0) hX dX10_byBasis_29 kc_0 ?_
      refine s_iconst (v := 1) hX dX10_byBasis_30 kc_1 ?_
      refine s_callSi (ck1 := 0) (sk1 := 0) hX dX10_byBasis_31 k_X10_isIn q_1447 (c_X10_isIn n M7 a3 0 1) rfl rfl ⟨Nat.le_of_ble_eq_true rfl, Nat.le_of_ble_eq_true rfl⟩ ⟨(Nat.le_of_ble_eq_true rfl), (Nat.le_of_ble_eq_true rfl)⟩ (Nat.le_of_ble_eq_true rfl) rfl rfl (fun r8 M9 => ?_)
      refine s_ifne (tgt := 41) hX dX10_byBasis_34 rfl ?_ ?_
      · refine s_ldcw hX dX10_byBasis_37 q_1714 ?_
        exact s_iret hX hR dX10_byBasis_40 (Nat.le_of_ble_eq_true rfl) (Nat.le_of_ble_eq_true rfl)
      · refine s_aload_n hX dX10_byBasis_41 rfl ?_
        refine s_iload_n hX dX10_byBasis_42 rfl ?_
        refine s_iload_n hX dX10_byBasis_43 rfl ?_
        refine s_iload_n hX dX10_byBasis_44 rfl ?_
        refine s_callVi (ck1 := 0) (sk1 := 0) (ci := 8) hX dX10_byBasis_45 k_X10_provisionalBy q_1578 (c_X10_provisionalBy n M9 a0 a1 a2 a3) (by decide) rfl rfl rfl ⟨Nat.le_of_ble_eq_true rfl, Nat.le_of_ble_eq_true rfl⟩ ⟨(Nat.le_of_ble_eq_true rfl), (Nat.le_of_ble_eq_true rfl)⟩ (Nat.le_of_ble_eq_true rfl) rfl rfl (fun r10 M11 => ?_)
        refine s_istore4 hX dX10_byBasis_48 (by first | exact trivial | exact rfl) (Nat.le_of_ble_eq_true rfl) ?_
        refine s_aload_n hX dX10_byBasis_50 rfl ?_
        refine s_iload hX dX10_byBasis_51 rfl ?_
        refine s_aload_n hX dX10_byBasis_53 rfl ?_
        refine s_getO hX dX10_byBasis_54 q_1323 rfl (fun j12 => ?_)
        refine s_iconst (v := 2) hX dX10_byBasis_57 kc_2 ?_
        refine s_iald hX dX10_byBasis_58 (fun v13 => ?_)
        refine s_iconst (v := 4) hX dX10_byBasis_59 kc_4 ?_
        refine s_idiv hX dX10_byBasis_60 ?_
        refine s_callVi (ck1 := 0) (sk1 := 0) (ci := 8) hX dX10_byBasis_61 k_X10_back1 q_1617 (c_X10_back1 n M11 a0 r10 (v13 / 4)) (by decide) rfl rfl rfl ⟨Nat.le_of_ble_eq_true rfl, Nat.le_of_ble_eq_true rfl⟩ ⟨(Nat.le_of_ble_eq_true rfl), (Nat.le_of_ble_eq_true rfl)⟩ (Nat.le_of_ble_eq_true rfl) rfl rfl (fun r14 M15 => ?_)
        exact s_iret hX hR dX10_byBasis_64 (Nat.le_of_ble_eq_true rfl) (Nat.le_of_ble_eq_true rfl)
abbrev rm_X10_leader : Room := { frames := 6, cells := 0, slots := 0, locals := 141 }
theorem k_X10_leader : KYV yX10_leader cX10_leader 6 (some .int) 1 := ⟨⟨q_1766, q_9, by decide +kernel, by decide +kernel, by decide +kernel⟩, q_1764, q_1765⟩
set_option maxHeartbeats 4000000 in
set_option maxRecDepth 100000 in
theorem c_X10_leader (n : Nat) (M0 : MemT) (a0 : Nat) (a1 : Int32) : Ct iI yX10_leader cX10_leader 6 (some .int) rm_X10_leader [.ref a0, .int a1] M0 (g_X10_leader n M0 a0 a1) := by
  unfold g_X10_leader
  refine ct_intro RX10 4 [some (.ref a0), some (.int a1), none, none, none, none] rfl (by decide +kernel) rfl (Nat.le_of_ble_eq_true rfl) (fun X A hX hnm hR => ?_)
  refine s_aload_n hX dX10_leader_0 rfl ?_
  refine s_iconst (v := 0) hX dX10_leader_1 kc_0 ?_
  refine s_putI hX dX10_leader_2 q_1308 rfl rfl (fun M1 => ?_)
  refine s_iload_n hX dX10_leader_5 rfl ?_
  refine s_iconst (v := 0) hX dX10_leader_6 kc_0 ?_
  refine s_bipush (v := 15) hX dX10_leader_7 kb_15 ?_
  refine s_callSi (ck1 := 0) (sk1 := 0) hX dX10_leader_9 k_X10_isIn q_1447 (c_X10_isIn n M1 a1 0 15) rfl rfl ⟨Nat.le_of_ble_eq_true rfl, Nat.le_of_ble_eq_true rfl⟩ ⟨(Nat.le_of_ble_eq_true rfl), (Nat.le_of_ble_eq_true rfl)⟩ (Nat.le_of_ble_eq_true rfl) rfl rfl (fun r2 M3 => ?_)
  refine s_ifne (tgt := 17) hX dX10_leader_12 rfl ?_ ?_
  · refine s_iconst (v := (-1)) hX dX10_leader_15 kc_m1 ?_
    exact s_iret hX hR dX10_leader_16 (Nat.le_of_ble_eq_true rfl) (Nat.le_of_ble_eq_true rfl)
  · refine s_iload_n hX dX10_leader_17 rfl ?_
    refine s_aload_n hX dX10_leader_18 rfl ?_
    refine s_callVi (ck1 := 0) (sk1 := 0) (ci := 8) hX dX10_leader_19 k_X10_year q_1526 (c_X10_year n M3 a0) (by decide) rfl rfl rfl ⟨Nat.le_of_ble_eq_true rfl, Nat.le_of_ble_eq_true rfl⟩ ⟨(Nat.le_of_ble_eq_true rfl), (Nat.le_of_ble_eq_true rfl)⟩ (Nat.le_of_ble_eq_true rfl) rfl rfl (fun r4 M5 => ?_)
    refine s_icle (tgt := 28) hX dX10_leader_22 rfl ?_ ?_
    · refine s_bipush (v := (-2)) hX dX10_leader_28 kb_m2 ?_
      refine s_istore2 hX dX10_leader_30 (by first | exact trivial | exact rfl) (Nat.le_of_ble_eq_true rfl) ?_
      refine s_iconst (v := 0) hX dX10_leader_31 kc_0 ?_
      refine s_istore3 hX dX10_leader_32 (by first | exact trivial | exact rfl) (Nat.le_of_ble_eq_true rfl) ?_
      refine s_iconst (v := 0) hX dX10_leader_33 kc_0 ?_
      refine s_istore4 hX dX10_leader_34 (by first | exact trivial | exact rfl) (Nat.le_of_ble_eq_true rfl) ?_
      refine s_loopE (stk := []) (fun (s : MemT × Int32 × Int32 × Int32) => [some (.ref a0), some (.int a1), some (.int s.2.1), some (.int s.2.2.1), some (.int s.2.2.2), none]) (fun (s : MemT × Int32 × Int32 × Int32) => s.1) 79 (fun (s : MemT × Int32 × Int32 × Int32) => [some (.ref a0), some (.int a1), some (.int s.2.1), some (.int s.2.2.1), some (.int s.2.2.2), none]) (fun s B10 hB10 hE10 => ?_) (fun s => ?_) n (M5, (-2), 0, 0)
      · obtain ⟨M6, v7, v8, v9⟩ := s
        dsimp only
        refine s_iload hX dX10_leader_36 rfl ?_
        refine s_aload_n hX dX10_leader_38 rfl ?_
        refine s_getI hX dX10_leader_39 q_1317 rfl (fun v11 => ?_)
        refine s_icge (tgt := 79) hX dX10_leader_42 rfl ?_ ?_
        · exact s_exit hE10
        · refine s_aload_n hX dX10_leader_45 rfl ?_
          refine s_iload hX dX10_leader_46 rfl ?_
          refine s_iload_n hX dX10_leader_48 rfl ?_
          refine s_callVi (ck1 := 0) (sk1 := 0) (ci := 8) hX dX10_leader_49 k_X10_backOf q_1715 (c_X10_backOf n M6 a0 v9 a1) (by decide) rfl rfl rfl ⟨Nat.le_of_ble_eq_true rfl, Nat.le_of_ble_eq_true rfl⟩ ⟨(Nat.le_of_ble_eq_true rfl), (Nat.le_of_ble_eq_true rfl)⟩ (Nat.le_of_ble_eq_true rfl) rfl rfl (fun r12 M13 => ?_)
          refine s_istore5 hX dX10_leader_52 (by first | exact trivial | exact rfl) (Nat.le_of_ble_eq_true rfl) ?_
          refine s_iload_n hX dX10_leader_54 rfl ?_
          refine s_jp (fun (s : MemT) => [some (.ref a0), some (.int a1), some (.int v7), some (.int v8), some (.int v9), some (.int r12)]) (fun (s : MemT) => []) (fun (s : MemT) => s) 0 0 67 (fun s => ?_) (fun K14 hK14 => ?_)
          · revert s
            intro M15
            try dsimp only
            refine s_iload hX dX10_leader_67 rfl ?_
            refine s_istore2 hX dX10_leader_69 (by first | exact trivial | exact rfl) (Nat.le_of_ble_eq_true rfl) ?_
            refine s_iload hX dX10_leader_70 rfl ?_
            refine s_istore3 hX dX10_leader_72 (by first | exact trivial | exact rfl) (Nat.le_of_ble_eq_true rfl) ?_
            refine s_iinc4 (v := v9 + 1) hX dX10_leader_73 rfl (by first | exact trivial | exact rfl) (Nat.le_of_ble_eq_true rfl) ?_
            refine s_goto (tgt := 36) hX dX10_leader_76 rfl ?_
            refine s_forget (loc1 := [some (.ref a0), some (.int a1), some (.int v9), some (.int r12), some (.int (v9 + 1)), none]) ⟨rfl, rfl, rfl, rfl, rfl, trivial⟩ ?_
            exact s_back hB10
          · refine s_iflt (tgt := 67) hX dX10_leader_55 rfl ?_ ?_
            · exact hK14 _
            · refine s_iload hX dX10_leader_58 rfl ?_
              refine s_iload_n hX dX10_leader_60 rfl ?_
              refine s_icgt (tgt := 67) hX dX10_leader_61 rfl ?_ ?_
              · exact hK14 _
              · refine s_goto (tgt := 73) hX dX10_leader_64 rfl ?_
                refine s_iinc4 (v := v9 + 1) hX dX10_leader_73 rfl (by first | exact trivial | exact rfl) (Nat.le_of_ble_eq_true rfl) ?_
                refine s_goto (tgt := 36) hX dX10_leader_76 rfl ?_
                refine s_forget (loc1 := [some (.ref a0), some (.int a1), some (.int v7), some (.int v8), some (.int (v9 + 1)), none]) ⟨rfl, rfl, rfl, rfl, rfl, trivial⟩ ?_
                exact s_back hB10
      · obtain ⟨M16, v17, v18, v19⟩ := s
        dsimp only
        refine s_iload_n hX dX10_leader_79 rfl ?_
        exact s_iret hX hR dX10_leader_80 (Nat.le_of_ble_eq_true rfl) (Nat.le_of_ble_eq_true rfl)
    · refine s_bipush (v := (-2)) hX dX10_leader_25 kb_m2 ?_
      exact s_iret hX hR dX10_leader_27 (Nat.le_of_ble_eq_true rfl) (Nat.le_of_ble_eq_true rfl)
abbrev rm_X10_rise : Room := { frames := 1, cells := 0, slots := 0, locals := 21 }
theorem k_X10_rise : KYV yX10_rise cX10_rise 5 (some .int) 1 := ⟨⟨q_1770, q_9, by decide +kernel, by decide +kernel, by decide +kernel⟩, q_1768, q_1769⟩
set_option maxHeartbeats 4000000 in
set_option maxRecDepth 100000 in
theorem c_X10_rise (n : Nat) (M0 : MemT) (a0 : Nat) (a1 : Int32) : Ct iI yX10_rise cX10_rise 5 (some .int) rm_X10_rise [.ref a0, .int a1] M0 (g_X10_rise n M0 a0 a1) := by
  unfold g_X10_rise
  refine ct_intro RX10 3 [some (.ref a0), some (.int a1), none, none, none] rfl (by decide +kernel) rfl (Nat.le_of_ble_eq_true rfl) (fun X A hX hnm hR => ?_)
  refine s_aload_n hX dX10_rise_0 rfl ?_
  refine s_iconst (v := 0) hX dX10_rise_1 kc_0 ?_
  refine s_putI hX dX10_rise_2 q_1308 rfl rfl (fun M1 => ?_)
  refine s_aload_n hX dX10_rise_5 rfl ?_
  refine s_iload_n hX dX10_rise_6 rfl ?_
  refine s_callVi (ck1 := 0) (sk1 := 0) (ci := 8) hX dX10_rise_7 k_X10_isTrader q_1510 (c_X10_isTrader n M1 a0 a1) (by decide) rfl rfl rfl ⟨Nat.le_of_ble_eq_true rfl, Nat.le_of_ble_eq_true rfl⟩ ⟨(Nat.le_of_ble_eq_true rfl), (Nat.le_of_ble_eq_true rfl)⟩ (Nat.le_of_ble_eq_true rfl) rfl rfl (fun r2 M3 => ?_)
  refine s_ifne (tgt := 15) hX dX10_rise_10 rfl ?_ ?_
  · refine s_iconst (v := (-1)) hX dX10_rise_13 kc_m1 ?_
    exact s_iret hX hR dX10_rise_14 (Nat.le_of_ble_eq_true rfl) (Nat.le_of_ble_eq_true rfl)
  · refine s_iconst (v := 0) hX dX10_rise_15 kc_0 ?_
    refine s_istore2 hX dX10_rise_16 (by first | exact trivial | exact rfl) (Nat.le_of_ble_eq_true rfl) ?_
    refine s_iconst (v := 0) hX dX10_rise_17 kc_0 ?_
    refine s_istore3 hX dX10_rise_18 (by first | exact trivial | exact rfl) (Nat.le_of_ble_eq_true rfl) ?_
    refine s_iconst (v := 0) hX dX10_rise_19 kc_0 ?_
    refine s_istore4 hX dX10_rise_20 (by first | exact trivial | exact rfl) (Nat.le_of_ble_eq_true rfl) ?_
    refine s_loopE (stk := []) (fun (s : MemT × Int32 × Int32 × Int32) => [some (.ref a0), some (.int a1), some (.int s.2.1), some (.int s.2.2.1), some (.int s.2.2.2)]) (fun (s : MemT × Int32 × Int32 × Int32) => s.1) 96 (fun (s : MemT × Int32 × Int32 × Int32) => [some (.ref a0), some (.int a1), some (.int s.2.1), some (.int s.2.2.1), some (.int s.2.2.2)]) (fun s B8 hB8 hE8 => ?_) (fun s => ?_) n (M3, 0, 0, 0)
    · obtain ⟨M4, v5, v6, v7⟩ := s
      dsimp only
      refine s_iload hX dX10_rise_22 rfl ?_
      refine s_aload_n hX dX10_rise_24 rfl ?_
      refine s_iconst (v := 0) hX dX10_rise_25 kc_0 ?_
      refine s_callVi (ck1 := 0) (sk1 := 0) (ci := 8) hX dX10_rise_26 k_X10_of q_1286 (c_X10_of n M4 a0 0) (by decide) rfl rfl rfl ⟨Nat.le_of_ble_eq_true rfl, Nat.le_of_ble_eq_true rfl⟩ ⟨(Nat.le_of_ble_eq_true rfl), (Nat.le_of_ble_eq_true rfl)⟩ (Nat.le_of_ble_eq_true rfl) rfl rfl (fun r9 M10 => ?_)
      refine s_icge (tgt := 96) hX dX10_rise_29 rfl ?_ ?_
      · exact s_exit hE8
      · refine s_iload_n hX dX10_rise_32 rfl ?_
        refine s_jp (fun (s : MemT × Int32) => [some (.ref a0), some (.int a1), some (.int v5), some (.int v6), some (.int v7)]) (fun (s : MemT × Int32) => [.int s.2]) (fun (s : MemT × Int32) => s.1) 0 0 78 (fun s => ?_) (fun K11 hK11 => ?_)
        · obtain ⟨M12, v13⟩ := s
          dsimp only
          refine s_istore3 hX dX10_rise_78 (by first | exact trivial | exact rfl) (Nat.le_of_ble_eq_true rfl) ?_
          refine s_iload_n hX dX10_rise_79 rfl ?_
          refine s_iload_n hX dX10_rise_80 rfl ?_
          refine s_icle (tgt := 88) hX dX10_rise_81 rfl ?_ ?_
          · refine s_iload_n hX dX10_rise_88 rfl ?_
            refine s_istore2 hX dX10_rise_89 (by first | exact trivial | exact rfl) (Nat.le_of_ble_eq_true rfl) ?_
            refine s_iinc4 (v := v7 + 1) hX dX10_rise_90 rfl (by first | exact trivial | exact rfl) (Nat.le_of_ble_eq_true rfl) ?_
            refine s_goto (tgt := 22) hX dX10_rise_93 rfl ?_
            exact s_back hB8
          · refine s_iload_n hX dX10_rise_84 rfl ?_
            refine s_goto (tgt := 89) hX dX10_rise_85 rfl ?_
            refine s_istore2 hX dX10_rise_89 (by first | exact trivial | exact rfl) (Nat.le_of_ble_eq_true rfl) ?_
            refine s_iinc4 (v := v7 + 1) hX dX10_rise_90 rfl (by first | exact trivial | exact rfl) (Nat.le_of_ble_eq_true rfl) ?_
            refine s_goto (tgt := 22) hX dX10_rise_93 rfl ?_
            exact s_back hB8
        · refine s_jp (fun (s : MemT) => [some (.ref a0), some (.int a1), some (.int v5), some (.int v6), some (.int v7)]) (fun (s : MemT) => []) (fun (s : MemT) => s) 0 0 77 (fun s => ?_) (fun K14 hK14 => ?_)
          · revert s
            intro M15
            try dsimp only
            refine s_iconst (v := 1) hX dX10_rise_77 kc_1 ?_
            exact hK11 _
          · refine s_ifle (tgt := 77) hX dX10_rise_33 rfl ?_ ?_
            · exact hK14 _
            · refine s_aload_n hX dX10_rise_36 rfl ?_
              refine s_sipush (v := 1545) hX dX10_rise_37 ks_1545 ?_
              refine s_bipush (v := 64) hX dX10_rise_40 kb_64 ?_
              refine s_iload_n hX dX10_rise_42 rfl ?_
              refine s_imul hX dX10_rise_43 ?_
              refine s_iadd hX dX10_rise_44 ?_
              refine s_iload hX dX10_rise_45 rfl ?_
              refine s_iadd hX dX10_rise_47 ?_
              refine s_callVi (ck1 := 0) (sk1 := 0) (ci := 8) hX dX10_rise_48 k_X10_of q_1286 (c_X10_of n M10 a0 ((1545 + (64 * a1)) + v7)) (by decide) rfl rfl rfl ⟨Nat.le_of_ble_eq_true rfl, Nat.le_of_ble_eq_true rfl⟩ ⟨(Nat.le_of_ble_eq_true rfl), (Nat.le_of_ble_eq_true rfl)⟩ (Nat.le_of_ble_eq_true rfl) rfl rfl (fun r16 M17 => ?_)
              refine s_aload_n hX dX10_rise_51 rfl ?_
              refine s_sipush (v := 1545) hX dX10_rise_52 ks_1545 ?_
              refine s_bipush (v := 64) hX dX10_rise_55 kb_64 ?_
              refine s_iload_n hX dX10_rise_57 rfl ?_
              refine s_imul hX dX10_rise_58 ?_
              refine s_iadd hX dX10_rise_59 ?_
              refine s_iload hX dX10_rise_60 rfl ?_
              refine s_iadd hX dX10_rise_62 ?_
              refine s_iconst (v := 1) hX dX10_rise_63 kc_1 ?_
              refine s_isub hX dX10_rise_64 ?_
              refine s_callVi (ck1 := 0) (sk1 := 0) (ci := 8) hX dX10_rise_65 k_X10_of q_1286 (c_X10_of n M17 a0 (((1545 + (64 * a1)) + v7) - 1)) (by decide) rfl rfl rfl ⟨Nat.le_of_ble_eq_true rfl, Nat.le_of_ble_eq_true rfl⟩ ⟨(Nat.le_of_ble_eq_true rfl), (Nat.le_of_ble_eq_true rfl)⟩ (Nat.le_of_ble_eq_true rfl) rfl rfl (fun r18 M19 => ?_)
              refine s_icle (tgt := 77) hX dX10_rise_68 rfl ?_ ?_
              · exact hK14 _
              · refine s_iload_n hX dX10_rise_71 rfl ?_
                refine s_iconst (v := 1) hX dX10_rise_72 kc_1 ?_
                refine s_iadd hX dX10_rise_73 ?_
                refine s_goto (tgt := 78) hX dX10_rise_74 rfl ?_
                exact hK11 _
    · obtain ⟨M20, v21, v22, v23⟩ := s
      dsimp only
      refine s_iload_n hX dX10_rise_96 rfl ?_
      exact s_iret hX hR dX10_rise_97 (Nat.le_of_ble_eq_true rfl) (Nat.le_of_ble_eq_true rfl)
abbrev rm_X10_need : Room := { frames := 4, cells := 0, slots := 0, locals := 97 }
theorem k_X10_need : KYV yX10_need cX10_need 11 (some .int) 2 := ⟨⟨q_1774, q_9, by decide +kernel, by decide +kernel, by decide +kernel⟩, q_1772, q_1773⟩
set_option maxHeartbeats 4000000 in
set_option maxRecDepth 100000 in
theorem c_X10_need (n : Nat) (M0 : MemT) (a0 : Nat) (a1 : Int32) (a2 : Int32) : Ct iI yX10_need cX10_need 11 (some .int) rm_X10_need [.ref a0, .int a1, .int a2] M0 (g_X10_need n M0 a0 a1 a2) := by
  unfold g_X10_need
  refine ct_intro RX10 8 [some (.ref a0), some (.int a1), some (.int a2), none, none, none, none, none, none, none, none] rfl (by decide +kernel) rfl (Nat.le_of_ble_eq_true rfl) (fun X A hX hnm hR => ?_)
  refine s_aload_n hX dX10_need_0 rfl ?_
  refine s_iconst (v := 0) hX dX10_need_1 kc_0 ?_
  refine s_putI hX dX10_need_2 q_1308 rfl rfl (fun M1 => ?_)
  refine s_aload_n hX dX10_need_5 rfl ?_
  refine s_iload_n hX dX10_need_6 rfl ?_
  refine s_callVi (ck1 := 0) (sk1 := 0) (ci := 8) hX dX10_need_7 k_X10_isTrader q_1510 (c_X10_isTrader n M1 a0 a1) (by decide) rfl rfl rfl ⟨Nat.le_of_ble_eq_true rfl, Nat.le_of_ble_eq_true rfl⟩ ⟨(Nat.le_of_ble_eq_true rfl), (Nat.le_of_ble_eq_true rfl)⟩ (Nat.le_of_ble_eq_true rfl) rfl rfl (fun r2 M3 => ?_)
  refine s_ifeq (tgt := 27) hX dX10_need_10 rfl ?_ ?_
  · refine s_iconst (v := (-1)) hX dX10_need_27 kc_m1 ?_
    exact s_iret hX hR dX10_need_28 (Nat.le_of_ble_eq_true rfl) (Nat.le_of_ble_eq_true rfl)
  · refine s_iload_n hX dX10_need_13 rfl ?_
    refine s_iconst (v := 0) hX dX10_need_14 kc_0 ?_
    refine s_aload_n hX dX10_need_15 rfl ?_
    refine s_getO hX dX10_need_16 q_1323 rfl (fun j4 => ?_)
    refine s_iconst (v := 1) hX dX10_need_19 kc_1 ?_
    refine s_iald hX dX10_need_20 (fun v5 => ?_)
    refine s_callSi (ck1 := 0) (sk1 := 0) hX dX10_need_21 k_X10_isIn q_1447 (c_X10_isIn n M3 a2 0 v5) rfl rfl ⟨Nat.le_of_ble_eq_true rfl, Nat.le_of_ble_eq_true rfl⟩ ⟨(Nat.le_of_ble_eq_true rfl), (Nat.le_of_ble_eq_true rfl)⟩ (Nat.le_of_ble_eq_true rfl) rfl rfl (fun r6 M7 => ?_)
    refine s_ifne (tgt := 29) hX dX10_need_24 rfl ?_ ?_
    · refine s_iconst (v := (-1)) hX dX10_need_27 kc_m1 ?_
      exact s_iret hX hR dX10_need_28 (Nat.le_of_ble_eq_true rfl) (Nat.le_of_ble_eq_true rfl)
    · refine s_aload_n hX dX10_need_29 rfl ?_
      refine s_iload_n hX dX10_need_30 rfl ?_
      refine s_iconst (v := 1) hX dX10_need_31 kc_1 ?_
      refine s_callVi (ck1 := 0) (sk1 := 0) (ci := 8) hX dX10_need_32 k_X10_told1 q_1278 (c_X10_told1 n M7 a0 a1 1) (by decide) rfl rfl rfl ⟨Nat.le_of_ble_eq_true rfl, Nat.le_of_ble_eq_true rfl⟩ ⟨(Nat.le_of_ble_eq_true rfl), (Nat.le_of_ble_eq_true rfl)⟩ (Nat.le_of_ble_eq_true rfl) rfl rfl (fun r8 M9 => ?_)
      refine s_ifeq (tgt := 41) hX dX10_need_35 rfl ?_ ?_
      · refine s_aload_n hX dX10_need_41 rfl ?_
        refine s_iload_n hX dX10_need_42 rfl ?_
        refine s_aload_n hX dX10_need_43 rfl ?_
        refine s_callVi (ck1 := 0) (sk1 := 0) (ci := 8) hX dX10_need_44 k_X10_year q_1526 (c_X10_year n M9 a0) (by decide) rfl rfl rfl ⟨Nat.le_of_ble_eq_true rfl, Nat.le_of_ble_eq_true rfl⟩ ⟨(Nat.le_of_ble_eq_true rfl), (Nat.le_of_ble_eq_true rfl)⟩ (Nat.le_of_ble_eq_true rfl) rfl rfl (fun r10 M11 => ?_)
        refine s_callVu (ck1 := 0) (sk1 := 0) (ci := 8) hX dX10_need_47 k_X10_layYear q_1633 (c_X10_layYear n M11 a0 a1 r10) (by decide) rfl rfl rfl ⟨Nat.le_of_ble_eq_true rfl, Nat.le_of_ble_eq_true rfl⟩ ⟨(Nat.le_of_ble_eq_true rfl), (Nat.le_of_ble_eq_true rfl)⟩ (Nat.le_of_ble_eq_true rfl) rfl rfl (fun r12 M13 => ?_)
        refine s_aload_n hX dX10_need_50 rfl ?_
        refine s_getO hX dX10_need_51 q_1330 rfl (fun j14 => ?_)
        refine s_iconst (v := 0) hX dX10_need_54 kc_0 ?_
        refine s_lald hX dX10_need_55 (fun v15 => ?_)
        refine s_lstore3 hX dX10_need_56 (by first | exact trivial | exact rfl) (Nat.le_of_ble_eq_true rfl) ?_
        refine s_aload_n hX dX10_need_57 rfl ?_
        refine s_iload_n hX dX10_need_58 rfl ?_
        refine s_callVi (ck1 := 0) (sk1 := 0) (ci := 8) hX dX10_need_59 k_X10_fraction q_1598 (c_X10_fraction n M13 a0 a1) (by decide) rfl rfl rfl ⟨Nat.le_of_ble_eq_true rfl, Nat.le_of_ble_eq_true rfl⟩ ⟨(Nat.le_of_ble_eq_true rfl), (Nat.le_of_ble_eq_true rfl)⟩ (Nat.le_of_ble_eq_true rfl) rfl rfl (fun r16 M17 => ?_)
        refine s_iload_n hX dX10_need_62 rfl ?_
        refine s_iclt (tgt := 68) hX dX10_need_63 rfl ?_ ?_
        · refine s_lconst (v := 0) hX dX10_need_68 rfl ?_
          refine s_lstore5 hX dX10_need_69 (by first | exact trivial | exact rfl) (Nat.le_of_ble_eq_true rfl) ?_
          refine s_ldc2 hX dX10_need_71 q_1775 ?_
          refine s_lstore7 hX dX10_need_74 (by first | exact trivial | exact rfl) (Nat.le_of_ble_eq_true rfl) ?_
          refine s_loopE (stk := []) (fun (s : MemT × Int64 × Int64) => [some (.ref a0), some (.int a1), some (.int a2), some (.long v15), none, some (.long s.2.1), none, some (.long s.2.2), none, none, none]) (fun (s : MemT × Int64 × Int64) => s.1) 130 (fun (s : MemT × Int64 × Int64) => [some (.ref a0), some (.int a1), some (.int a2), some (.long v15), none, some (.long s.2.1), none, some (.long s.2.2), none, none, none]) (fun s B21 hB21 hE21 => ?_) (fun s => ?_) n (M17, 0, 100000000)
          · obtain ⟨M18, v19, v20⟩ := s
            dsimp only
            refine s_lload hX dX10_need_76 rfl ?_
            refine s_lload hX dX10_need_78 rfl ?_
            refine s_lsub hX dX10_need_80 ?_
            refine s_lconst (v := 1) hX dX10_need_81 rfl ?_
            refine s_lcmp hX dX10_need_82 ?_
            refine s_ifle (tgt := 130) hX dX10_need_83 rfl ?_ ?_
            · exact s_exit hE21
            · refine s_lload hX dX10_need_86 rfl ?_
              refine s_lload hX dX10_need_88 rfl ?_
              refine s_ladd hX dX10_need_90 ?_
              refine s_ldc2 hX dX10_need_91 q_1612 ?_
              refine s_ldiv hX dX10_need_94 ?_
              refine s_lstore9 hX dX10_need_95 (by first | exact trivial | exact rfl) (Nat.le_of_ble_eq_true rfl) ?_
              refine s_aload_n hX dX10_need_97 rfl ?_
              refine s_getO hX dX10_need_98 q_1330 rfl (fun j22 => ?_)
              refine s_iconst (v := 0) hX dX10_need_101 kc_0 ?_
              refine s_lload_n hX dX10_need_102 rfl ?_
              refine s_lload hX dX10_need_103 rfl ?_
              refine s_ladd hX dX10_need_105 ?_
              refine s_last hX dX10_need_106 (fun M23 => ?_)
              refine s_aload_n hX dX10_need_107 rfl ?_
              refine s_iload_n hX dX10_need_108 rfl ?_
              refine s_callVi (ck1 := 0) (sk1 := 0) (ci := 8) hX dX10_need_109 k_X10_fraction q_1598 (c_X10_fraction n M23 a0 a1) (by decide) rfl rfl rfl ⟨Nat.le_of_ble_eq_true rfl, Nat.le_of_ble_eq_true rfl⟩ ⟨(Nat.le_of_ble_eq_true rfl), (Nat.le_of_ble_eq_true rfl)⟩ (Nat.le_of_ble_eq_true rfl) rfl rfl (fun r24 M25 => ?_)
              refine s_iload_n hX dX10_need_112 rfl ?_
              refine s_iclt (tgt := 123) hX dX10_need_113 rfl ?_ ?_
              · refine s_lload hX dX10_need_123 rfl ?_
                refine s_lstore5 hX dX10_need_125 (by first | exact trivial | exact rfl) (Nat.le_of_ble_eq_true rfl) ?_
                refine s_goto (tgt := 76) hX dX10_need_127 rfl ?_
                refine s_forget (loc1 := [some (.ref a0), some (.int a1), some (.int a2), some (.long v15), none, some (.long ((v19 + v20) / 2)), none, some (.long v20), none, none, none]) ⟨rfl, rfl, rfl, rfl, rfl, rfl, trivial⟩ ?_
                exact s_back hB21
              · refine s_lload hX dX10_need_116 rfl ?_
                refine s_lstore7 hX dX10_need_118 (by first | exact trivial | exact rfl) (Nat.le_of_ble_eq_true rfl) ?_
                refine s_goto (tgt := 127) hX dX10_need_120 rfl ?_
                refine s_goto (tgt := 76) hX dX10_need_127 rfl ?_
                refine s_forget (loc1 := [some (.ref a0), some (.int a1), some (.int a2), some (.long v15), none, some (.long v19), none, some (.long ((v19 + v20) / 2)), none, none, none]) ⟨rfl, rfl, rfl, rfl, rfl, rfl, trivial⟩ ?_
                exact s_back hB21
          · obtain ⟨M26, v27, v28⟩ := s
            dsimp only
            refine s_lload hX dX10_need_130 rfl ?_
            refine s_ldc2 hX dX10_need_132 q_1775 ?_
            refine s_lcmp hX dX10_need_135 ?_
            refine s_ifne (tgt := 144) hX dX10_need_136 rfl ?_ ?_
            · refine s_bipush (v := (-2)) hX dX10_need_139 kb_m2 ?_
              refine s_goto (tgt := 147) hX dX10_need_141 rfl ?_
              exact s_iret hX hR dX10_need_147 (Nat.le_of_ble_eq_true rfl) (Nat.le_of_ble_eq_true rfl)
            · refine s_lload hX dX10_need_144 rfl ?_
              refine s_l2i hX dX10_need_146 ?_
              exact s_iret hX hR dX10_need_147 (Nat.le_of_ble_eq_true rfl) (Nat.le_of_ble_eq_true rfl)
        · refine s_iconst (v := 0) hX dX10_need_66 kc_0 ?_
          exact s_iret hX hR dX10_need_67 (Nat.le_of_ble_eq_true rfl) (Nat.le_of_ble_eq_true rfl)
      · refine s_bipush (v := (-2)) hX dX10_need_38 kb_m2 ?_
        exact s_iret hX hR dX10_need_40 (Nat.le_of_ble_eq_true rfl) (Nat.le_of_ble_eq_true rfl)
abbrev rm_X10_room : Room := { frames := 6, cells := 0, slots := 0, locals := 141 }
theorem k_X10_room : KYV yX10_room cX10_room 4 (some .int) 2 := ⟨⟨q_1779, q_9, by decide +kernel, by decide +kernel, by decide +kernel⟩, q_1777, q_1778⟩
set_option maxHeartbeats 4000000 in
set_option maxRecDepth 100000 in
theorem c_X10_room (n : Nat) (M0 : MemT) (a0 : Nat) (a1 : Int32) (a2 : Int32) : Ct iI yX10_room cX10_room 4 (some .int) rm_X10_room [.ref a0, .int a1, .int a2] M0 (g_X10_room n M0 a0 a1 a2) := by
  unfold g_X10_room
  refine ct_intro RX10 1 [some (.ref a0), some (.int a1), some (.int a2), none] rfl (by decide +kernel) rfl (Nat.le_of_ble_eq_true rfl) (fun X A hX hnm hR => ?_)
  refine s_aload_n hX dX10_room_0 rfl ?_
  refine s_iconst (v := 0) hX dX10_room_1 kc_0 ?_
  refine s_putI hX dX10_room_2 q_1308 rfl rfl (fun M1 => ?_)
  refine s_aload_n hX dX10_room_5 rfl ?_
  refine s_iload_n hX dX10_room_6 rfl ?_
  refine s_callVi (ck1 := 0) (sk1 := 0) (ci := 8) hX dX10_room_7 k_X10_isTrader q_1510 (c_X10_isTrader n M1 a0 a1) (by decide) rfl rfl rfl ⟨Nat.le_of_ble_eq_true rfl, Nat.le_of_ble_eq_true rfl⟩ ⟨(Nat.le_of_ble_eq_true rfl), (Nat.le_of_ble_eq_true rfl)⟩ (Nat.le_of_ble_eq_true rfl) rfl rfl (fun r2 M3 => ?_)
  refine s_ifeq (tgt := 22) hX dX10_room_10 rfl ?_ ?_
  · refine s_iconst (v := (-1)) hX dX10_room_22 kc_m1 ?_
    exact s_iret hX hR dX10_room_23 (Nat.le_of_ble_eq_true rfl) (Nat.le_of_ble_eq_true rfl)
  · refine s_iload_n hX dX10_room_13 rfl ?_
    refine s_iconst (v := 0) hX dX10_room_14 kc_0 ?_
    refine s_iconst (v := 2) hX dX10_room_15 kc_2 ?_
    refine s_callSi (ck1 := 0) (sk1 := 0) hX dX10_room_16 k_X10_isIn q_1447 (c_X10_isIn n M3 a2 0 2) rfl rfl ⟨Nat.le_of_ble_eq_true rfl, Nat.le_of_ble_eq_true rfl⟩ ⟨(Nat.le_of_ble_eq_true rfl), (Nat.le_of_ble_eq_true rfl)⟩ (Nat.le_of_ble_eq_true rfl) rfl rfl (fun r4 M5 => ?_)
    refine s_ifne (tgt := 24) hX dX10_room_19 rfl ?_ ?_
    · refine s_iconst (v := (-1)) hX dX10_room_22 kc_m1 ?_
      exact s_iret hX hR dX10_room_23 (Nat.le_of_ble_eq_true rfl) (Nat.le_of_ble_eq_true rfl)
    · refine s_aload_n hX dX10_room_24 rfl ?_
      refine s_iload_n hX dX10_room_25 rfl ?_
      refine s_aload_n hX dX10_room_26 rfl ?_
      refine s_callVi (ck1 := 0) (sk1 := 0) (ci := 8) hX dX10_room_27 k_X10_year q_1526 (c_X10_year n M5 a0) (by decide) rfl rfl rfl ⟨Nat.le_of_ble_eq_true rfl, Nat.le_of_ble_eq_true rfl⟩ ⟨(Nat.le_of_ble_eq_true rfl), (Nat.le_of_ble_eq_true rfl)⟩ (Nat.le_of_ble_eq_true rfl) rfl rfl (fun r6 M7 => ?_)
      refine s_callVi (ck1 := 0) (sk1 := 0) (ci := 8) hX dX10_room_30 k_X10_backOf q_1715 (c_X10_backOf n M7 a0 a1 r6) (by decide) rfl rfl rfl ⟨Nat.le_of_ble_eq_true rfl, Nat.le_of_ble_eq_true rfl⟩ ⟨(Nat.le_of_ble_eq_true rfl), (Nat.le_of_ble_eq_true rfl)⟩ (Nat.le_of_ble_eq_true rfl) rfl rfl (fun r8 M9 => ?_)
      refine s_pop hX dX10_room_33 rfl ?_
      refine s_aload_n hX dX10_room_34 rfl ?_
      refine s_getI hX dX10_room_35 q_1333 rfl (fun v10 => ?_)
      refine s_ifne (tgt := 44) hX dX10_room_38 rfl ?_ ?_
      · refine s_bipush (v := (-2)) hX dX10_room_41 kb_m2 ?_
        exact s_iret hX hR dX10_room_43 (Nat.le_of_ble_eq_true rfl) (Nat.le_of_ble_eq_true rfl)
      · refine s_iconst (v := 1) hX dX10_room_44 kc_1 ?_
        refine s_istore3 hX dX10_room_45 (by first | exact trivial | exact rfl) (Nat.le_of_ble_eq_true rfl) ?_
        refine s_loop (stk := []) (fun (s : MemT × Int32) => [some (.ref a0), some (.int a1), some (.int a2), some (.int s.2)]) (fun (s : MemT × Int32) => s.1) (fun s B13 hB13 hI13 => ?_) n (M9, 1)
        obtain ⟨M11, v12⟩ := s
        dsimp only
        refine s_iload_n hX dX10_room_46 rfl ?_
        refine s_sipush (v := 10000) hX dX10_room_47 ks_10000 ?_
        refine s_icge (tgt := 98) hX dX10_room_50 rfl ?_ ?_
        · refine s_sipush (v := 9999) hX dX10_room_98 ks_9999 ?_
          exact s_inr hI13 (s_iret hX hR dX10_room_101 (Nat.le_of_ble_eq_true rfl) (Nat.le_of_ble_eq_true rfl))
        · refine s_aload_n hX dX10_room_53 rfl ?_
          refine s_getO hX dX10_room_54 q_1330 rfl (fun j14 => ?_)
          refine s_iconst (v := 2) hX dX10_room_57 kc_2 ?_
          refine s_iload_n hX dX10_room_58 rfl ?_
          refine s_iadd hX dX10_room_59 ?_
          refine s_dup2 hX dX10_room_60 rfl rfl ?_
          refine s_lald hX dX10_room_61 (fun v15 => ?_)
          refine s_lconst (v := 1) hX dX10_room_62 rfl ?_
          refine s_ladd hX dX10_room_63 ?_
          refine s_last hX dX10_room_64 (fun M16 => ?_)
          refine s_aload_n hX dX10_room_65 rfl ?_
          refine s_aload_n hX dX10_room_66 rfl ?_
          refine s_iload_n hX dX10_room_67 rfl ?_
          refine s_callVi (ck1 := 0) (sk1 := 0) (ci := 8) hX dX10_room_68 k_X10_fraction q_1598 (c_X10_fraction n M16 a0 a1) (by decide) rfl rfl rfl ⟨Nat.le_of_ble_eq_true rfl, Nat.le_of_ble_eq_true rfl⟩ ⟨(Nat.le_of_ble_eq_true rfl), (Nat.le_of_ble_eq_true rfl)⟩ (Nat.le_of_ble_eq_true rfl) rfl rfl (fun r17 M18 => ?_)
          refine s_aload_n hX dX10_room_71 rfl ?_
          refine s_getO hX dX10_room_72 q_1323 rfl (fun j19 => ?_)
          refine s_iconst (v := 2) hX dX10_room_75 kc_2 ?_
          refine s_iald hX dX10_room_76 (fun v20 => ?_)
          refine s_callVi (ck1 := 0) (sk1 := 0) (ci := 8) hX dX10_room_77 k_X10_back1 q_1617 (c_X10_back1 n M18 a0 r17 v20) (by decide) rfl rfl rfl ⟨Nat.le_of_ble_eq_true rfl, Nat.le_of_ble_eq_true rfl⟩ ⟨(Nat.le_of_ble_eq_true rfl), (Nat.le_of_ble_eq_true rfl)⟩ (Nat.le_of_ble_eq_true rfl) rfl rfl (fun r21 M22 => ?_)
          refine s_pop hX dX10_room_80 rfl ?_
          refine s_aload_n hX dX10_room_81 rfl ?_
          refine s_getI hX dX10_room_82 q_1333 rfl (fun v23 => ?_)
          refine s_ifne (tgt := 92) hX dX10_room_85 rfl ?_ ?_
          · refine s_iload_n hX dX10_room_88 rfl ?_
            refine s_iconst (v := 1) hX dX10_room_89 kc_1 ?_
            refine s_isub hX dX10_room_90 ?_
            exact s_inr hI13 (s_iret hX hR dX10_room_91 (Nat.le_of_ble_eq_true rfl) (Nat.le_of_ble_eq_true rfl))
          · refine s_iinc3 (v := v12 + 1) hX dX10_room_92 rfl (by first | exact trivial | exact rfl) (Nat.le_of_ble_eq_true rfl) ?_
            refine s_goto (tgt := 46) hX dX10_room_95 rfl ?_
            exact s_back hB13
abbrev rm_X10_baseNow : Room := { frames := 6, cells := 0, slots := 0, locals := 147 }
theorem k_X10_baseNow : KYV yX10_baseNow cX10_baseNow 2 (some .int) 1 := ⟨⟨q_1787, q_9, by decide +kernel, by decide +kernel, by decide +kernel⟩, q_1786, p_105⟩
set_option maxHeartbeats 4000000 in
set_option maxRecDepth 100000 in
theorem c_X10_baseNow (n : Nat) (M0 : MemT) (a0 : Nat) (a1 : Int32) : Ct iI yX10_baseNow cX10_baseNow 2 (some .int) rm_X10_baseNow [.ref a0, .int a1] M0 (g_X10_baseNow n M0 a0 a1) := by
  unfold g_X10_baseNow
  refine ct_intro RX10 0 [some (.ref a0), some (.int a1)] rfl (by decide +kernel) rfl (Nat.le_of_ble_eq_true rfl) (fun X A hX hnm hR => ?_)
  refine s_aload_n hX dX10_baseNow_0 rfl ?_
  refine s_iload_n hX dX10_baseNow_1 rfl ?_
  refine s_callVi (ck1 := 0) (sk1 := 0) (ci := 8) hX dX10_baseNow_2 k_X10_isThrough q_1686 (c_X10_isThrough n M0 a0 a1) (by decide) rfl rfl rfl ⟨Nat.le_of_ble_eq_true rfl, Nat.le_of_ble_eq_true rfl⟩ ⟨(Nat.le_of_ble_eq_true rfl), (Nat.le_of_ble_eq_true rfl)⟩ (Nat.le_of_ble_eq_true rfl) rfl rfl (fun r1 M2 => ?_)
  refine s_ifeq (tgt := 18) hX dX10_baseNow_5 rfl ?_ ?_
  · refine s_aload_n hX dX10_baseNow_18 rfl ?_
    refine s_iload_n hX dX10_baseNow_19 rfl ?_
    refine s_aload_n hX dX10_baseNow_20 rfl ?_
    refine s_iload_n hX dX10_baseNow_21 rfl ?_
    refine s_iconst (v := 2) hX dX10_baseNow_22 kc_2 ?_
    refine s_callVi (ck1 := 0) (sk1 := 0) (ci := 8) hX dX10_baseNow_23 k_X10_at q_1550 (c_X10_at n M2 a0 a1 2) (by decide) rfl rfl rfl ⟨Nat.le_of_ble_eq_true rfl, Nat.le_of_ble_eq_true rfl⟩ ⟨(Nat.le_of_ble_eq_true rfl), (Nat.le_of_ble_eq_true rfl)⟩ (Nat.le_of_ble_eq_true rfl) rfl rfl (fun r5 M6 => ?_)
    refine s_callVi (ck1 := 0) (sk1 := 0) (ci := 8) hX dX10_baseNow_26 k_X10_worthBy q_1645 (c_X10_worthBy n M6 a0 a1 r5) (by decide) rfl rfl rfl ⟨Nat.le_of_ble_eq_true rfl, Nat.le_of_ble_eq_true rfl⟩ ⟨(Nat.le_of_ble_eq_true rfl), (Nat.le_of_ble_eq_true rfl)⟩ (Nat.le_of_ble_eq_true rfl) rfl rfl (fun r7 M8 => ?_)
    exact s_iret hX hR dX10_baseNow_29 (Nat.le_of_ble_eq_true rfl) (Nat.le_of_ble_eq_true rfl)
  · refine s_aload_n hX dX10_baseNow_8 rfl ?_
    refine s_iload_n hX dX10_baseNow_9 rfl ?_
    refine s_bipush (v := 6) hX dX10_baseNow_10 kb_6 ?_
    refine s_callVi (ck1 := 0) (sk1 := 0) (ci := 8) hX dX10_baseNow_12 k_X10_at q_1550 (c_X10_at n M2 a0 a1 6) (by decide) rfl rfl rfl ⟨Nat.le_of_ble_eq_true rfl, Nat.le_of_ble_eq_true rfl⟩ ⟨(Nat.le_of_ble_eq_true rfl), (Nat.le_of_ble_eq_true rfl)⟩ (Nat.le_of_ble_eq_true rfl) rfl rfl (fun r3 M4 => ?_)
    refine s_goto (tgt := 29) hX dX10_baseNow_15 rfl ?_
    exact s_iret hX hR dX10_baseNow_29 (Nat.le_of_ble_eq_true rfl) (Nat.le_of_ble_eq_true rfl)
abbrev rm_X10_would : Room := { frames := 7, cells := 0, slots := 0, locals := 168 }
theorem k_X10_would : KYV yX10_would cX10_would 3 (some .int) 2 := ⟨⟨q_1783, q_9, by decide +kernel, by decide +kernel, by decide +kernel⟩, q_1781, q_1782⟩
set_option maxHeartbeats 4000000 in
set_option maxRecDepth 100000 in
theorem c_X10_would (n : Nat) (M0 : MemT) (a0 : Nat) (a1 : Int32) (a2 : Int32) : Ct iI yX10_would cX10_would 3 (some .int) rm_X10_would [.ref a0, .int a1, .int a2] M0 (g_X10_would n M0 a0 a1 a2) := by
  unfold g_X10_would
  refine ct_intro RX10 0 [some (.ref a0), some (.int a1), some (.int a2)] rfl (by decide +kernel) rfl (Nat.le_of_ble_eq_true rfl) (fun X A hX hnm hR => ?_)
  refine s_aload_n hX dX10_would_0 rfl ?_
  refine s_iconst (v := 0) hX dX10_would_1 kc_0 ?_
  refine s_putI hX dX10_would_2 q_1308 rfl rfl (fun M1 => ?_)
  refine s_aload_n hX dX10_would_5 rfl ?_
  refine s_iload_n hX dX10_would_6 rfl ?_
  refine s_callVi (ck1 := 0) (sk1 := 0) (ci := 8) hX dX10_would_7 k_X10_isAsset q_1542 (c_X10_isAsset n M1 a0 a1) (by decide) rfl rfl rfl ⟨Nat.le_of_ble_eq_true rfl, Nat.le_of_ble_eq_true rfl⟩ ⟨(Nat.le_of_ble_eq_true rfl), (Nat.le_of_ble_eq_true rfl)⟩ (Nat.le_of_ble_eq_true rfl) rfl rfl (fun r2 M3 => ?_)
  refine s_ifeq (tgt := 30) hX dX10_would_10 rfl ?_ ?_
  · refine s_ldcw hX dX10_would_30 q_1714 ?_
    exact s_iret hX hR dX10_would_33 (Nat.le_of_ble_eq_true rfl) (Nat.le_of_ble_eq_true rfl)
  · refine s_iload_n hX dX10_would_13 rfl ?_
    refine s_iconst (v := 0) hX dX10_would_14 kc_0 ?_
    refine s_iconst (v := 1) hX dX10_would_15 kc_1 ?_
    refine s_callSi (ck1 := 0) (sk1 := 0) hX dX10_would_16 k_X10_isIn q_1447 (c_X10_isIn n M3 a2 0 1) rfl rfl ⟨Nat.le_of_ble_eq_true rfl, Nat.le_of_ble_eq_true rfl⟩ ⟨(Nat.le_of_ble_eq_true rfl), (Nat.le_of_ble_eq_true rfl)⟩ (Nat.le_of_ble_eq_true rfl) rfl rfl (fun r4 M5 => ?_)
    refine s_ifeq (tgt := 30) hX dX10_would_19 rfl ?_ ?_
    · refine s_ldcw hX dX10_would_30 q_1714 ?_
      exact s_iret hX hR dX10_would_33 (Nat.le_of_ble_eq_true rfl) (Nat.le_of_ble_eq_true rfl)
    · refine s_aload_n hX dX10_would_22 rfl ?_
      refine s_iload_n hX dX10_would_23 rfl ?_
      refine s_callVi (ck1 := 0) (sk1 := 0) (ci := 8) hX dX10_would_24 k_X10_isGone q_1546 (c_X10_isGone n M5 a0 a1) (by decide) rfl rfl rfl ⟨Nat.le_of_ble_eq_true rfl, Nat.le_of_ble_eq_true rfl⟩ ⟨(Nat.le_of_ble_eq_true rfl), (Nat.le_of_ble_eq_true rfl)⟩ (Nat.le_of_ble_eq_true rfl) rfl rfl (fun r6 M7 => ?_)
      refine s_ifeq (tgt := 34) hX dX10_would_27 rfl ?_ ?_
      · refine s_aload_n hX dX10_would_34 rfl ?_
        refine s_iload_n hX dX10_would_35 rfl ?_
        refine s_aload_n hX dX10_would_36 rfl ?_
        refine s_iload_n hX dX10_would_37 rfl ?_
        refine s_callVi (ck1 := 0) (sk1 := 0) (ci := 8) hX dX10_would_38 k_X10_behindOf q_1562 (c_X10_behindOf n M7 a0 a1) (by decide) rfl rfl rfl ⟨Nat.le_of_ble_eq_true rfl, Nat.le_of_ble_eq_true rfl⟩ ⟨(Nat.le_of_ble_eq_true rfl), (Nat.le_of_ble_eq_true rfl)⟩ (Nat.le_of_ble_eq_true rfl) rfl rfl (fun r8 M9 => ?_)
        refine s_iload_n hX dX10_would_41 rfl ?_
        refine s_aload_n hX dX10_would_42 rfl ?_
        refine s_iload_n hX dX10_would_43 rfl ?_
        refine s_callVi (ck1 := 0) (sk1 := 0) (ci := 8) hX dX10_would_44 k_X10_baseNow q_1784 (c_X10_baseNow n M9 a0 a1) (by decide) rfl rfl rfl ⟨Nat.le_of_ble_eq_true rfl, Nat.le_of_ble_eq_true rfl⟩ ⟨(Nat.le_of_ble_eq_true rfl), (Nat.le_of_ble_eq_true rfl)⟩ (Nat.le_of_ble_eq_true rfl) rfl rfl (fun r10 M11 => ?_)
        refine s_callVj (ck1 := 0) (sk1 := 0) (ci := 8) hX dX10_would_47 k_X10_lastBy q_1670 (c_X10_lastBy n M11 a0 a1 r8 a2 r10) (by decide) rfl rfl rfl ⟨Nat.le_of_ble_eq_true rfl, Nat.le_of_ble_eq_true rfl⟩ ⟨(Nat.le_of_ble_eq_true rfl), (Nat.le_of_ble_eq_true rfl)⟩ (Nat.le_of_ble_eq_true rfl) rfl rfl (fun r12 M13 => ?_)
        refine s_l2i hX dX10_would_50 ?_
        exact s_iret hX hR dX10_would_51 (Nat.le_of_ble_eq_true rfl) (Nat.le_of_ble_eq_true rfl)
      · refine s_ldcw hX dX10_would_30 q_1714 ?_
        exact s_iret hX hR dX10_would_33 (Nat.le_of_ble_eq_true rfl) (Nat.le_of_ble_eq_true rfl)
abbrev rm_X10_bestWait : Room := { frames := 7, cells := 0, slots := 0, locals := 168 }
theorem k_X10_bestWait : KYV yX10_bestWait cX10_bestWait 12 (some .int) 2 := ⟨⟨q_1791, q_9, by decide +kernel, by decide +kernel, by decide +kernel⟩, q_1789, q_1790⟩
set_option maxHeartbeats 4000000 in
set_option maxRecDepth 100000 in
theorem c_X10_bestWait (n : Nat) (M0 : MemT) (a0 : Nat) (a1 : Int32) (a2 : Int32) : Ct iI yX10_bestWait cX10_bestWait 12 (some .int) rm_X10_bestWait [.ref a0, .int a1, .int a2] M0 (g_X10_bestWait n M0 a0 a1 a2) := by
  unfold g_X10_bestWait
  refine ct_intro RX10 9 [some (.ref a0), some (.int a1), some (.int a2), none, none, none, none, none, none, none, none, none] rfl (by decide +kernel) rfl (Nat.le_of_ble_eq_true rfl) (fun X A hX hnm hR => ?_)
  refine s_aload_n hX dX10_bestWait_0 rfl ?_
  refine s_iconst (v := 0) hX dX10_bestWait_1 kc_0 ?_
  refine s_putI hX dX10_bestWait_2 q_1308 rfl rfl (fun M1 => ?_)
  refine s_aload_n hX dX10_bestWait_5 rfl ?_
  refine s_iload_n hX dX10_bestWait_6 rfl ?_
  refine s_callVi (ck1 := 0) (sk1 := 0) (ci := 8) hX dX10_bestWait_7 k_X10_isAsset q_1542 (c_X10_isAsset n M1 a0 a1) (by decide) rfl rfl rfl ⟨Nat.le_of_ble_eq_true rfl, Nat.le_of_ble_eq_true rfl⟩ ⟨(Nat.le_of_ble_eq_true rfl), (Nat.le_of_ble_eq_true rfl)⟩ (Nat.le_of_ble_eq_true rfl) rfl rfl (fun r2 M3 => ?_)
  refine s_ifeq (tgt := 22) hX dX10_bestWait_10 rfl ?_ ?_
  · refine s_iconst (v := (-1)) hX dX10_bestWait_22 kc_m1 ?_
    exact s_iret hX hR dX10_bestWait_23 (Nat.le_of_ble_eq_true rfl) (Nat.le_of_ble_eq_true rfl)
  · refine s_iload_n hX dX10_bestWait_13 rfl ?_
    refine s_iconst (v := 0) hX dX10_bestWait_14 kc_0 ?_
    refine s_iconst (v := 1) hX dX10_bestWait_15 kc_1 ?_
    refine s_callSi (ck1 := 0) (sk1 := 0) hX dX10_bestWait_16 k_X10_isIn q_1447 (c_X10_isIn n M3 a2 0 1) rfl rfl ⟨Nat.le_of_ble_eq_true rfl, Nat.le_of_ble_eq_true rfl⟩ ⟨(Nat.le_of_ble_eq_true rfl), (Nat.le_of_ble_eq_true rfl)⟩ (Nat.le_of_ble_eq_true rfl) rfl rfl (fun r4 M5 => ?_)
    refine s_ifne (tgt := 24) hX dX10_bestWait_19 rfl ?_ ?_
    · refine s_iconst (v := (-1)) hX dX10_bestWait_22 kc_m1 ?_
      exact s_iret hX hR dX10_bestWait_23 (Nat.le_of_ble_eq_true rfl) (Nat.le_of_ble_eq_true rfl)
    · refine s_aload_n hX dX10_bestWait_24 rfl ?_
      refine s_iload_n hX dX10_bestWait_25 rfl ?_
      refine s_callVi (ck1 := 0) (sk1 := 0) (ci := 8) hX dX10_bestWait_26 k_X10_isGone q_1546 (c_X10_isGone n M5 a0 a1) (by decide) rfl rfl rfl ⟨Nat.le_of_ble_eq_true rfl, Nat.le_of_ble_eq_true rfl⟩ ⟨(Nat.le_of_ble_eq_true rfl), (Nat.le_of_ble_eq_true rfl)⟩ (Nat.le_of_ble_eq_true rfl) rfl rfl (fun r6 M7 => ?_)
      refine s_ifeq (tgt := 35) hX dX10_bestWait_29 rfl ?_ ?_
      · refine s_aload_n hX dX10_bestWait_35 rfl ?_
        refine s_iload_n hX dX10_bestWait_36 rfl ?_
        refine s_callVi (ck1 := 0) (sk1 := 0) (ci := 8) hX dX10_bestWait_37 k_X10_baseNow q_1784 (c_X10_baseNow n M7 a0 a1) (by decide) rfl rfl rfl ⟨Nat.le_of_ble_eq_true rfl, Nat.le_of_ble_eq_true rfl⟩ ⟨(Nat.le_of_ble_eq_true rfl), (Nat.le_of_ble_eq_true rfl)⟩ (Nat.le_of_ble_eq_true rfl) rfl rfl (fun r8 M9 => ?_)
        refine s_istore3 hX dX10_bestWait_40 (by first | exact trivial | exact rfl) (Nat.le_of_ble_eq_true rfl) ?_
        refine s_aload_n hX dX10_bestWait_41 rfl ?_
        refine s_iload_n hX dX10_bestWait_42 rfl ?_
        refine s_aload_n hX dX10_bestWait_43 rfl ?_
        refine s_iload_n hX dX10_bestWait_44 rfl ?_
        refine s_aload_n hX dX10_bestWait_45 rfl ?_
        refine s_iload_n hX dX10_bestWait_46 rfl ?_
        refine s_iconst (v := 2) hX dX10_bestWait_47 kc_2 ?_
        refine s_callVi (ck1 := 0) (sk1 := 0) (ci := 8) hX dX10_bestWait_48 k_X10_at q_1550 (c_X10_at n M9 a0 a1 2) (by decide) rfl rfl rfl ⟨Nat.le_of_ble_eq_true rfl, Nat.le_of_ble_eq_true rfl⟩ ⟨(Nat.le_of_ble_eq_true rfl), (Nat.le_of_ble_eq_true rfl)⟩ (Nat.le_of_ble_eq_true rfl) rfl rfl (fun r10 M11 => ?_)
        refine s_callVi (ck1 := 0) (sk1 := 0) (ci := 8) hX dX10_bestWait_51 k_X10_worthBy q_1645 (c_X10_worthBy n M11 a0 a1 r10) (by decide) rfl rfl rfl ⟨Nat.le_of_ble_eq_true rfl, Nat.le_of_ble_eq_true rfl⟩ ⟨(Nat.le_of_ble_eq_true rfl), (Nat.le_of_ble_eq_true rfl)⟩ (Nat.le_of_ble_eq_true rfl) rfl rfl (fun r12 M13 => ?_)
        refine s_iload_n hX dX10_bestWait_54 rfl ?_
        refine s_callVj (ck1 := 0) (sk1 := 0) (ci := 8) hX dX10_bestWait_55 k_X10_adjustedBy q_1662 (c_X10_adjustedBy n M13 a0 a1 r12 r8) (by decide) rfl rfl rfl ⟨Nat.le_of_ble_eq_true rfl, Nat.le_of_ble_eq_true rfl⟩ ⟨(Nat.le_of_ble_eq_true rfl), (Nat.le_of_ble_eq_true rfl)⟩ (Nat.le_of_ble_eq_true rfl) rfl rfl (fun r14 M15 => ?_)
        refine s_lstore4 hX dX10_bestWait_58 (by first | exact trivial | exact rfl) (Nat.le_of_ble_eq_true rfl) ?_
        refine s_iconst (v := 0) hX dX10_bestWait_60 kc_0 ?_
        refine s_istore6 hX dX10_bestWait_61 (by first | exact trivial | exact rfl) (Nat.le_of_ble_eq_true rfl) ?_
        refine s_lconst (v := 0) hX dX10_bestWait_63 rfl ?_
        refine s_lstore7 hX dX10_bestWait_64 (by first | exact trivial | exact rfl) (Nat.le_of_ble_eq_true rfl) ?_
        refine s_iconst (v := 0) hX dX10_bestWait_66 kc_0 ?_
        refine s_istore9 hX dX10_bestWait_67 (by first | exact trivial | exact rfl) (Nat.le_of_ble_eq_true rfl) ?_
        refine s_loopE (stk := []) (fun (s : MemT × Int32 × Int64 × Int32) => [some (.ref a0), some (.int a1), some (.int a2), some (.int r8), some (.long r14), none, some (.int s.2.1), some (.long s.2.2.1), none, some (.int s.2.2.2), none, none]) (fun (s : MemT × Int32 × Int64 × Int32) => s.1) 148 (fun (s : MemT × Int32 × Int64 × Int32) => [some (.ref a0), some (.int a1), some (.int a2), some (.int r8), some (.long r14), none, some (.int s.2.1), some (.long s.2.2.1), none, some (.int s.2.2.2), none, none]) (fun s B20 hB20 hE20 => ?_) (fun s => ?_) n (M15, 0, 0, 0)
        · obtain ⟨M16, v17, v18, v19⟩ := s
          dsimp only
          refine s_iload hX dX10_bestWait_69 rfl ?_
          refine s_aload_n hX dX10_bestWait_71 rfl ?_
          refine s_iload_n hX dX10_bestWait_72 rfl ?_
          refine s_callVi (ck1 := 0) (sk1 := 0) (ci := 8) hX dX10_bestWait_73 k_X10_behindOf q_1562 (c_X10_behindOf n M16 a0 a1) (by decide) rfl rfl rfl ⟨Nat.le_of_ble_eq_true rfl, Nat.le_of_ble_eq_true rfl⟩ ⟨(Nat.le_of_ble_eq_true rfl), (Nat.le_of_ble_eq_true rfl)⟩ (Nat.le_of_ble_eq_true rfl) rfl rfl (fun r21 M22 => ?_)
          refine s_icgt (tgt := 148) hX dX10_bestWait_76 rfl ?_ ?_
          · exact s_exit hE20
          · refine s_lload hX dX10_bestWait_79 rfl ?_
            refine s_aload_n hX dX10_bestWait_81 rfl ?_
            refine s_iload_n hX dX10_bestWait_82 rfl ?_
            refine s_callVi (ck1 := 0) (sk1 := 0) (ci := 8) hX dX10_bestWait_83 k_X10_isThrough q_1686 (c_X10_isThrough n M22 a0 a1) (by decide) rfl rfl rfl ⟨Nat.le_of_ble_eq_true rfl, Nat.le_of_ble_eq_true rfl⟩ ⟨(Nat.le_of_ble_eq_true rfl), (Nat.le_of_ble_eq_true rfl)⟩ (Nat.le_of_ble_eq_true rfl) rfl rfl (fun r23 M24 => ?_)
            refine s_jp (fun (s : MemT × Int32) => [some (.ref a0), some (.int a1), some (.int a2), some (.int r8), some (.long r14), none, some (.int v17), some (.long v18), none, some (.int v19), none, none]) (fun (s : MemT × Int32) => [.int s.2, .long r14]) (fun (s : MemT × Int32) => s.1) 0 0 98 (fun s => ?_) (fun K25 hK25 => ?_)
            · obtain ⟨M26, v27⟩ := s
              dsimp only
              refine s_i2l hX dX10_bestWait_98 ?_
              refine s_lmul hX dX10_bestWait_99 ?_
              refine s_aload_n hX dX10_bestWait_100 rfl ?_
              refine s_iload_n hX dX10_bestWait_101 rfl ?_
              refine s_aload_n hX dX10_bestWait_102 rfl ?_
              refine s_iload_n hX dX10_bestWait_103 rfl ?_
              refine s_callVi (ck1 := 0) (sk1 := 0) (ci := 8) hX dX10_bestWait_104 k_X10_behindOf q_1562 (c_X10_behindOf n M26 a0 a1) (by decide) rfl rfl rfl ⟨Nat.le_of_ble_eq_true rfl, Nat.le_of_ble_eq_true rfl⟩ ⟨(Nat.le_of_ble_eq_true rfl), (Nat.le_of_ble_eq_true rfl)⟩ (Nat.le_of_ble_eq_true rfl) rfl rfl (fun r28 M29 => ?_)
              refine s_iload hX dX10_bestWait_107 rfl ?_
              refine s_isub hX dX10_bestWait_109 ?_
              refine s_iload_n hX dX10_bestWait_110 rfl ?_
              refine s_iload_n hX dX10_bestWait_111 rfl ?_
              refine s_callVj (ck1 := 0) (sk1 := 0) (ci := 8) hX dX10_bestWait_112 k_X10_lastBy q_1670 (c_X10_lastBy n M29 a0 a1 (r28 - v19) a2 r8) (by decide) rfl rfl rfl ⟨Nat.le_of_ble_eq_true rfl, Nat.le_of_ble_eq_true rfl⟩ ⟨(Nat.le_of_ble_eq_true rfl), (Nat.le_of_ble_eq_true rfl)⟩ (Nat.le_of_ble_eq_true rfl) rfl rfl (fun r30 M31 => ?_)
              refine s_ladd hX dX10_bestWait_115 ?_
              refine s_lstore10 hX dX10_bestWait_116 (by first | exact trivial | exact rfl) (Nat.le_of_ble_eq_true rfl) ?_
              refine s_iload hX dX10_bestWait_118 rfl ?_
              refine s_jp (fun (s : MemT) => [some (.ref a0), some (.int a1), some (.int a2), some (.int r8), some (.long r14), none, some (.int v17), some (.long v18), none, some (.int v19), some (.long ((r14 * (Int32.toInt64 v27)) + r30)), none]) (fun (s : MemT) => []) (fun (s : MemT) => s) 0 0 134 (fun s => ?_) (fun K32 hK32 => ?_)
              · revert s
                intro M33
                try dsimp only
                refine s_iload hX dX10_bestWait_134 rfl ?_
                refine s_istore6 hX dX10_bestWait_136 (by first | exact trivial | exact rfl) (Nat.le_of_ble_eq_true rfl) ?_
                refine s_lload hX dX10_bestWait_138 rfl ?_
                refine s_lstore7 hX dX10_bestWait_140 (by first | exact trivial | exact rfl) (Nat.le_of_ble_eq_true rfl) ?_
                refine s_iinc9 (v := v19 + 1) hX dX10_bestWait_142 rfl (by first | exact trivial | exact rfl) (Nat.le_of_ble_eq_true rfl) ?_
                refine s_goto (tgt := 69) hX dX10_bestWait_145 rfl ?_
                refine s_forget (loc1 := [some (.ref a0), some (.int a1), some (.int a2), some (.int r8), some (.long r14), none, some (.int v19), some (.long ((r14 * (Int32.toInt64 v27)) + r30)), none, some (.int (v19 + 1)), none, none]) ⟨rfl, rfl, rfl, rfl, rfl, rfl, rfl, rfl, trivial⟩ ?_
                exact s_back hB20
              · refine s_ifle (tgt := 134) hX dX10_bestWait_120 rfl ?_ ?_
                · exact hK32 _
                · refine s_lload hX dX10_bestWait_123 rfl ?_
                  refine s_lload hX dX10_bestWait_125 rfl ?_
                  refine s_lcmp hX dX10_bestWait_127 ?_
                  refine s_ifgt (tgt := 134) hX dX10_bestWait_128 rfl ?_ ?_
                  · exact hK32 _
                  · refine s_goto (tgt := 142) hX dX10_bestWait_131 rfl ?_
                    refine s_iinc9 (v := v19 + 1) hX dX10_bestWait_142 rfl (by first | exact trivial | exact rfl) (Nat.le_of_ble_eq_true rfl) ?_
                    refine s_goto (tgt := 69) hX dX10_bestWait_145 rfl ?_
                    refine s_forget (loc1 := [some (.ref a0), some (.int a1), some (.int a2), some (.int r8), some (.long r14), none, some (.int v17), some (.long v18), none, some (.int (v19 + 1)), none, none]) ⟨rfl, rfl, rfl, rfl, rfl, rfl, rfl, rfl, trivial⟩ ?_
                    exact s_back hB20
            · refine s_ifeq (tgt := 96) hX dX10_bestWait_86 rfl ?_ ?_
              · refine s_iload hX dX10_bestWait_96 rfl ?_
                exact hK25 _
              · refine s_iload hX dX10_bestWait_89 rfl ?_
                refine s_iconst (v := 1) hX dX10_bestWait_91 kc_1 ?_
                refine s_iadd hX dX10_bestWait_92 ?_
                refine s_goto (tgt := 98) hX dX10_bestWait_93 rfl ?_
                exact hK25 _
        · obtain ⟨M34, v35, v36, v37⟩ := s
          dsimp only
          refine s_iload hX dX10_bestWait_148 rfl ?_
          exact s_iret hX hR dX10_bestWait_150 (Nat.le_of_ble_eq_true rfl) (Nat.le_of_ble_eq_true rfl)
      · refine s_bipush (v := (-2)) hX dX10_bestWait_32 kb_m2 ?_
        exact s_iret hX hR dX10_bestWait_34 (Nat.le_of_ble_eq_true rfl) (Nat.le_of_ble_eq_true rfl)
abbrev rm_X10_project : Room := { frames := 7, cells := 0, slots := 0, locals := 168 }
theorem k_X10_project : KYV yX10_project cX10_project 6 (some .int) 2 := ⟨⟨q_1795, q_9, by decide +kernel, by decide +kernel, by decide +kernel⟩, q_1793, q_1794⟩
set_option maxHeartbeats 4000000 in
set_option maxRecDepth 100000 in
theorem c_X10_project (n : Nat) (M0 : MemT) (a0 : Nat) (a1 : Int32) (a2 : Int32) : Ct iI yX10_project cX10_project 6 (some .int) rm_X10_project [.ref a0, .int a1, .int a2] M0 (g_X10_project n M0 a0 a1 a2) := by
  unfold g_X10_project
  refine ct_intro RX10 3 [some (.ref a0), some (.int a1), some (.int a2), none, none, none] rfl (by decide +kernel) rfl (Nat.le_of_ble_eq_true rfl) (fun X A hX hnm hR => ?_)
  refine s_aload_n hX dX10_project_0 rfl ?_
  refine s_iconst (v := 0) hX dX10_project_1 kc_0 ?_
  refine s_putI hX dX10_project_2 q_1308 rfl rfl (fun M1 => ?_)
  refine s_aload_n hX dX10_project_5 rfl ?_
  refine s_iload_n hX dX10_project_6 rfl ?_
  refine s_callVi (ck1 := 0) (sk1 := 0) (ci := 8) hX dX10_project_7 k_X10_isAsset q_1542 (c_X10_isAsset n M1 a0 a1) (by decide) rfl rfl rfl ⟨Nat.le_of_ble_eq_true rfl, Nat.le_of_ble_eq_true rfl⟩ ⟨(Nat.le_of_ble_eq_true rfl), (Nat.le_of_ble_eq_true rfl)⟩ (Nat.le_of_ble_eq_true rfl) rfl rfl (fun r2 M3 => ?_)
  refine s_ifeq (tgt := 36) hX dX10_project_10 rfl ?_ ?_
  · refine s_ldcw hX dX10_project_36 q_1714 ?_
    exact s_iret hX hR dX10_project_39 (Nat.le_of_ble_eq_true rfl) (Nat.le_of_ble_eq_true rfl)
  · refine s_aload_n hX dX10_project_13 rfl ?_
    refine s_iload_n hX dX10_project_14 rfl ?_
    refine s_callVi (ck1 := 0) (sk1 := 0) (ci := 8) hX dX10_project_15 k_X10_isGone q_1546 (c_X10_isGone n M3 a0 a1) (by decide) rfl rfl rfl ⟨Nat.le_of_ble_eq_true rfl, Nat.le_of_ble_eq_true rfl⟩ ⟨(Nat.le_of_ble_eq_true rfl), (Nat.le_of_ble_eq_true rfl)⟩ (Nat.le_of_ble_eq_true rfl) rfl rfl (fun r4 M5 => ?_)
    refine s_ifne (tgt := 36) hX dX10_project_18 rfl ?_ ?_
    · refine s_iload_n hX dX10_project_21 rfl ?_
      refine s_iconst (v := 1) hX dX10_project_22 kc_1 ?_
      refine s_aload_n hX dX10_project_23 rfl ?_
      refine s_iload_n hX dX10_project_24 rfl ?_
      refine s_callVi (ck1 := 0) (sk1 := 0) (ci := 8) hX dX10_project_25 k_X10_behindOf q_1562 (c_X10_behindOf n M5 a0 a1) (by decide) rfl rfl rfl ⟨Nat.le_of_ble_eq_true rfl, Nat.le_of_ble_eq_true rfl⟩ ⟨(Nat.le_of_ble_eq_true rfl), (Nat.le_of_ble_eq_true rfl)⟩ (Nat.le_of_ble_eq_true rfl) rfl rfl (fun r6 M7 => ?_)
      refine s_iconst (v := 1) hX dX10_project_28 kc_1 ?_
      refine s_iadd hX dX10_project_29 ?_
      refine s_callSi (ck1 := 0) (sk1 := 0) hX dX10_project_30 k_X10_isIn q_1447 (c_X10_isIn n M7 a2 1 (r6 + 1)) rfl rfl ⟨Nat.le_of_ble_eq_true rfl, Nat.le_of_ble_eq_true rfl⟩ ⟨(Nat.le_of_ble_eq_true rfl), (Nat.le_of_ble_eq_true rfl)⟩ (Nat.le_of_ble_eq_true rfl) rfl rfl (fun r8 M9 => ?_)
      refine s_ifne (tgt := 40) hX dX10_project_33 rfl ?_ ?_
      · refine s_ldcw hX dX10_project_36 q_1714 ?_
        exact s_iret hX hR dX10_project_39 (Nat.le_of_ble_eq_true rfl) (Nat.le_of_ble_eq_true rfl)
      · refine s_aload_n hX dX10_project_40 rfl ?_
        refine s_iload_n hX dX10_project_41 rfl ?_
        refine s_callVi (ck1 := 0) (sk1 := 0) (ci := 8) hX dX10_project_42 k_X10_baseNow q_1784 (c_X10_baseNow n M9 a0 a1) (by decide) rfl rfl rfl ⟨Nat.le_of_ble_eq_true rfl, Nat.le_of_ble_eq_true rfl⟩ ⟨(Nat.le_of_ble_eq_true rfl), (Nat.le_of_ble_eq_true rfl)⟩ (Nat.le_of_ble_eq_true rfl) rfl rfl (fun r10 M11 => ?_)
        refine s_istore3 hX dX10_project_45 (by first | exact trivial | exact rfl) (Nat.le_of_ble_eq_true rfl) ?_
        refine s_aload_n hX dX10_project_46 rfl ?_
        refine s_iload_n hX dX10_project_47 rfl ?_
        refine s_aload_n hX dX10_project_48 rfl ?_
        refine s_iload_n hX dX10_project_49 rfl ?_
        refine s_aload_n hX dX10_project_50 rfl ?_
        refine s_iload_n hX dX10_project_51 rfl ?_
        refine s_iconst (v := 2) hX dX10_project_52 kc_2 ?_
        refine s_callVi (ck1 := 0) (sk1 := 0) (ci := 8) hX dX10_project_53 k_X10_at q_1550 (c_X10_at n M11 a0 a1 2) (by decide) rfl rfl rfl ⟨Nat.le_of_ble_eq_true rfl, Nat.le_of_ble_eq_true rfl⟩ ⟨(Nat.le_of_ble_eq_true rfl), (Nat.le_of_ble_eq_true rfl)⟩ (Nat.le_of_ble_eq_true rfl) rfl rfl (fun r12 M13 => ?_)
        refine s_callVi (ck1 := 0) (sk1 := 0) (ci := 8) hX dX10_project_56 k_X10_worthBy q_1645 (c_X10_worthBy n M13 a0 a1 r12) (by decide) rfl rfl rfl ⟨Nat.le_of_ble_eq_true rfl, Nat.le_of_ble_eq_true rfl⟩ ⟨(Nat.le_of_ble_eq_true rfl), (Nat.le_of_ble_eq_true rfl)⟩ (Nat.le_of_ble_eq_true rfl) rfl rfl (fun r14 M15 => ?_)
        refine s_iload_n hX dX10_project_59 rfl ?_
        refine s_callVj (ck1 := 0) (sk1 := 0) (ci := 8) hX dX10_project_60 k_X10_adjustedBy q_1662 (c_X10_adjustedBy n M15 a0 a1 r14 r10) (by decide) rfl rfl rfl ⟨Nat.le_of_ble_eq_true rfl, Nat.le_of_ble_eq_true rfl⟩ ⟨(Nat.le_of_ble_eq_true rfl), (Nat.le_of_ble_eq_true rfl)⟩ (Nat.le_of_ble_eq_true rfl) rfl rfl (fun r16 M17 => ?_)
        refine s_lstore4 hX dX10_project_63 (by first | exact trivial | exact rfl) (Nat.le_of_ble_eq_true rfl) ?_
        refine s_aload_n hX dX10_project_65 rfl ?_
        refine s_iload_n hX dX10_project_66 rfl ?_
        refine s_callVi (ck1 := 0) (sk1 := 0) (ci := 8) hX dX10_project_67 k_X10_isThrough q_1686 (c_X10_isThrough n M17 a0 a1) (by decide) rfl rfl rfl ⟨Nat.le_of_ble_eq_true rfl, Nat.le_of_ble_eq_true rfl⟩ ⟨(Nat.le_of_ble_eq_true rfl), (Nat.le_of_ble_eq_true rfl)⟩ (Nat.le_of_ble_eq_true rfl) rfl rfl (fun r18 M19 => ?_)
        refine s_ifeq (tgt := 90) hX dX10_project_70 rfl ?_ ?_
        · refine s_aload_n hX dX10_project_90 rfl ?_
          refine s_iload_n hX dX10_project_91 rfl ?_
          refine s_iload_n hX dX10_project_92 rfl ?_
          refine s_callVj (ck1 := 0) (sk1 := 0) (ci := 8) hX dX10_project_93 k_X10_firstTaken q_1658 (c_X10_firstTaken n M19 a0 a1 r10) (by decide) rfl rfl rfl ⟨Nat.le_of_ble_eq_true rfl, Nat.le_of_ble_eq_true rfl⟩ ⟨(Nat.le_of_ble_eq_true rfl), (Nat.le_of_ble_eq_true rfl)⟩ (Nat.le_of_ble_eq_true rfl) rfl rfl (fun r22 M23 => ?_)
          refine s_iload_n hX dX10_project_96 rfl ?_
          refine s_iconst (v := 1) hX dX10_project_97 kc_1 ?_
          refine s_isub hX dX10_project_98 ?_
          refine s_i2l hX dX10_project_99 ?_
          refine s_lload hX dX10_project_100 rfl ?_
          refine s_lmul hX dX10_project_102 ?_
          refine s_ladd hX dX10_project_103 ?_
          refine s_l2i hX dX10_project_104 ?_
          exact s_iret hX hR dX10_project_105 (Nat.le_of_ble_eq_true rfl) (Nat.le_of_ble_eq_true rfl)
        · refine s_aload_n hX dX10_project_73 rfl ?_
          refine s_iload_n hX dX10_project_74 rfl ?_
          refine s_bipush (v := 10) hX dX10_project_75 kb_10 ?_
          refine s_callVi (ck1 := 0) (sk1 := 0) (ci := 8) hX dX10_project_77 k_X10_at q_1550 (c_X10_at n M19 a0 a1 10) (by decide) rfl rfl rfl ⟨Nat.le_of_ble_eq_true rfl, Nat.le_of_ble_eq_true rfl⟩ ⟨(Nat.le_of_ble_eq_true rfl), (Nat.le_of_ble_eq_true rfl)⟩ (Nat.le_of_ble_eq_true rfl) rfl rfl (fun r20 M21 => ?_)
          refine s_i2l hX dX10_project_80 ?_
          refine s_iload_n hX dX10_project_81 rfl ?_
          refine s_i2l hX dX10_project_82 ?_
          refine s_lload hX dX10_project_83 rfl ?_
          refine s_lmul hX dX10_project_85 ?_
          refine s_ladd hX dX10_project_86 ?_
          refine s_goto (tgt := 104) hX dX10_project_87 rfl ?_
          refine s_l2i hX dX10_project_104 ?_
          exact s_iret hX hR dX10_project_105 (Nat.le_of_ble_eq_true rfl) (Nat.le_of_ble_eq_true rfl)
    · refine s_ldcw hX dX10_project_36 q_1714 ?_
      exact s_iret hX hR dX10_project_39 (Nat.le_of_ble_eq_true rfl) (Nat.le_of_ble_eq_true rfl)
abbrev rm_X10_ifUse : Room := { frames := 6, cells := 0, slots := 0, locals := 147 }
theorem k_X10_ifUse : KYV yX10_ifUse cX10_ifUse 3 (some .int) 2 := ⟨⟨q_1799, q_9, by decide +kernel, by decide +kernel, by decide +kernel⟩, q_1797, q_1798⟩
set_option maxHeartbeats 4000000 in
set_option maxRecDepth 100000 in
theorem c_X10_ifUse (n : Nat) (M0 : MemT) (a0 : Nat) (a1 : Int32) (a2 : Int32) : Ct iI yX10_ifUse cX10_ifUse 3 (some .int) rm_X10_ifUse [.ref a0, .int a1, .int a2] M0 (g_X10_ifUse n M0 a0 a1 a2) := by
  unfold g_X10_ifUse
  refine ct_intro RX10 0 [some (.ref a0), some (.int a1), some (.int a2)] rfl (by decide +kernel) rfl (Nat.le_of_ble_eq_true rfl) (fun X A hX hnm hR => ?_)
  refine s_aload_n hX dX10_ifUse_0 rfl ?_
  refine s_iconst (v := 0) hX dX10_ifUse_1 kc_0 ?_
  refine s_putI hX dX10_ifUse_2 q_1308 rfl rfl (fun M1 => ?_)
  refine s_aload_n hX dX10_ifUse_5 rfl ?_
  refine s_iload_n hX dX10_ifUse_6 rfl ?_
  refine s_callVi (ck1 := 0) (sk1 := 0) (ci := 8) hX dX10_ifUse_7 k_X10_isAsset q_1542 (c_X10_isAsset n M1 a0 a1) (by decide) rfl rfl rfl ⟨Nat.le_of_ble_eq_true rfl, Nat.le_of_ble_eq_true rfl⟩ ⟨(Nat.le_of_ble_eq_true rfl), (Nat.le_of_ble_eq_true rfl)⟩ (Nat.le_of_ble_eq_true rfl) rfl rfl (fun r2 M3 => ?_)
  refine s_ifeq (tgt := 38) hX dX10_ifUse_10 rfl ?_ ?_
  · refine s_ldcw hX dX10_ifUse_38 q_1714 ?_
    exact s_iret hX hR dX10_ifUse_41 (Nat.le_of_ble_eq_true rfl) (Nat.le_of_ble_eq_true rfl)
  · refine s_iload_n hX dX10_ifUse_13 rfl ?_
    refine s_iconst (v := 0) hX dX10_ifUse_14 kc_0 ?_
    refine s_iconst (v := 2) hX dX10_ifUse_15 kc_2 ?_
    refine s_callSi (ck1 := 0) (sk1 := 0) hX dX10_ifUse_16 k_X10_isIn q_1447 (c_X10_isIn n M3 a2 0 2) rfl rfl ⟨Nat.le_of_ble_eq_true rfl, Nat.le_of_ble_eq_true rfl⟩ ⟨(Nat.le_of_ble_eq_true rfl), (Nat.le_of_ble_eq_true rfl)⟩ (Nat.le_of_ble_eq_true rfl) rfl rfl (fun r4 M5 => ?_)
    refine s_ifeq (tgt := 38) hX dX10_ifUse_19 rfl ?_ ?_
    · refine s_ldcw hX dX10_ifUse_38 q_1714 ?_
      exact s_iret hX hR dX10_ifUse_41 (Nat.le_of_ble_eq_true rfl) (Nat.le_of_ble_eq_true rfl)
    · refine s_aload_n hX dX10_ifUse_22 rfl ?_
      refine s_iload_n hX dX10_ifUse_23 rfl ?_
      refine s_callVi (ck1 := 0) (sk1 := 0) (ci := 8) hX dX10_ifUse_24 k_X10_isGone q_1546 (c_X10_isGone n M5 a0 a1) (by decide) rfl rfl rfl ⟨Nat.le_of_ble_eq_true rfl, Nat.le_of_ble_eq_true rfl⟩ ⟨(Nat.le_of_ble_eq_true rfl), (Nat.le_of_ble_eq_true rfl)⟩ (Nat.le_of_ble_eq_true rfl) rfl rfl (fun r6 M7 => ?_)
      refine s_ifne (tgt := 38) hX dX10_ifUse_27 rfl ?_ ?_
      · refine s_aload_n hX dX10_ifUse_30 rfl ?_
        refine s_iload_n hX dX10_ifUse_31 rfl ?_
        refine s_callVi (ck1 := 0) (sk1 := 0) (ci := 8) hX dX10_ifUse_32 k_X10_isThrough q_1686 (c_X10_isThrough n M7 a0 a1) (by decide) rfl rfl rfl ⟨Nat.le_of_ble_eq_true rfl, Nat.le_of_ble_eq_true rfl⟩ ⟨(Nat.le_of_ble_eq_true rfl), (Nat.le_of_ble_eq_true rfl)⟩ (Nat.le_of_ble_eq_true rfl) rfl rfl (fun r8 M9 => ?_)
        refine s_ifne (tgt := 42) hX dX10_ifUse_35 rfl ?_ ?_
        · refine s_ldcw hX dX10_ifUse_38 q_1714 ?_
          exact s_iret hX hR dX10_ifUse_41 (Nat.le_of_ble_eq_true rfl) (Nat.le_of_ble_eq_true rfl)
        · refine s_aload_n hX dX10_ifUse_42 rfl ?_
          refine s_iload_n hX dX10_ifUse_43 rfl ?_
          refine s_iload_n hX dX10_ifUse_44 rfl ?_
          refine s_callVi (ck1 := 0) (sk1 := 0) (ci := 8) hX dX10_ifUse_45 k_X10_worthBy q_1645 (c_X10_worthBy n M9 a0 a1 a2) (by decide) rfl rfl rfl ⟨Nat.le_of_ble_eq_true rfl, Nat.le_of_ble_eq_true rfl⟩ ⟨(Nat.le_of_ble_eq_true rfl), (Nat.le_of_ble_eq_true rfl)⟩ (Nat.le_of_ble_eq_true rfl) rfl rfl (fun r10 M11 => ?_)
          exact s_iret hX hR dX10_ifUse_48 (Nat.le_of_ble_eq_true rfl) (Nat.le_of_ble_eq_true rfl)
      · refine s_ldcw hX dX10_ifUse_38 q_1714 ?_
        exact s_iret hX hR dX10_ifUse_41 (Nat.le_of_ble_eq_true rfl) (Nat.le_of_ble_eq_true rfl)
abbrev rm_X10_owners : Room := { frames := 2, cells := 0, slots := 0, locals := 43 }
theorem k_X10_owners : KYV yX10_owners cX10_owners 5 (some .int) 1 := ⟨⟨q_1803, q_9, by decide +kernel, by decide +kernel, by decide +kernel⟩, q_1801, q_1802⟩
set_option maxHeartbeats 4000000 in
set_option maxRecDepth 100000 in
theorem c_X10_owners (n : Nat) (M0 : MemT) (a0 : Nat) (a1 : Int32) : Ct iI yX10_owners cX10_owners 5 (some .int) rm_X10_owners [.ref a0, .int a1] M0 (g_X10_owners n M0 a0 a1) := by
  unfold g_X10_owners
  refine ct_intro RX10 3 [some (.ref a0), some (.int a1), none, none, none] rfl (by decide +kernel) rfl (Nat.le_of_ble_eq_true rfl) (fun X A hX hnm hR => ?_)
  refine s_aload_n hX dX10_owners_0 rfl ?_
  refine s_iconst (v := 0) hX dX10_owners_1 kc_0 ?_
  refine s_putI hX dX10_owners_2 q_1308 rfl rfl (fun M1 => ?_)
  refine s_aload_n hX dX10_owners_5 rfl ?_
  refine s_iload_n hX dX10_owners_6 rfl ?_
  refine s_callVi (ck1 := 0) (sk1 := 0) (ci := 8) hX dX10_owners_7 k_X10_isAsset q_1542 (c_X10_isAsset n M1 a0 a1) (by decide) rfl rfl rfl ⟨Nat.le_of_ble_eq_true rfl, Nat.le_of_ble_eq_true rfl⟩ ⟨(Nat.le_of_ble_eq_true rfl), (Nat.le_of_ble_eq_true rfl)⟩ (Nat.le_of_ble_eq_true rfl) rfl rfl (fun r2 M3 => ?_)
  refine s_ifne (tgt := 15) hX dX10_owners_10 rfl ?_ ?_
  · refine s_iconst (v := (-1)) hX dX10_owners_13 kc_m1 ?_
    exact s_iret hX hR dX10_owners_14 (Nat.le_of_ble_eq_true rfl) (Nat.le_of_ble_eq_true rfl)
  · refine s_aload_n hX dX10_owners_15 rfl ?_
    refine s_iload_n hX dX10_owners_16 rfl ?_
    refine s_bipush (v := 9) hX dX10_owners_17 kb_9 ?_
    refine s_callVi (ck1 := 0) (sk1 := 0) (ci := 8) hX dX10_owners_19 k_X10_at q_1550 (c_X10_at n M3 a0 a1 9) (by decide) rfl rfl rfl ⟨Nat.le_of_ble_eq_true rfl, Nat.le_of_ble_eq_true rfl⟩ ⟨(Nat.le_of_ble_eq_true rfl), (Nat.le_of_ble_eq_true rfl)⟩ (Nat.le_of_ble_eq_true rfl) rfl rfl (fun r4 M5 => ?_)
    refine s_iconst (v := 1) hX dX10_owners_22 kc_1 ?_
    refine s_jp (fun (s : MemT × Int32) => [some (.ref a0), some (.int a1), none, none, none]) (fun (s : MemT × Int32) => [.int s.2]) (fun (s : MemT × Int32) => s.1) 0 0 38 (fun s => ?_) (fun K6 hK6 => ?_)
    · obtain ⟨M7, v8⟩ := s
      dsimp only
      refine s_istore2 hX dX10_owners_38 (by first | exact trivial | exact rfl) (Nat.le_of_ble_eq_true rfl) ?_
      refine s_iconst (v := 0) hX dX10_owners_39 kc_0 ?_
      refine s_istore3 hX dX10_owners_40 (by first | exact trivial | exact rfl) (Nat.le_of_ble_eq_true rfl) ?_
      refine s_loopE (stk := []) (fun (s : MemT × Int32 × Int32) => [some (.ref a0), some (.int a1), some (.int s.2.1), some (.int s.2.2), none]) (fun (s : MemT × Int32 × Int32) => s.1) 72 (fun (s : MemT × Int32 × Int32) => [some (.ref a0), some (.int a1), some (.int s.2.1), some (.int s.2.2), none]) (fun s B12 hB12 hE12 => ?_) (fun s => ?_) n (M7, v8, 0)
      · obtain ⟨M9, v10, v11⟩ := s
        dsimp only
        refine s_iload_n hX dX10_owners_41 rfl ?_
        refine s_aload_n hX dX10_owners_42 rfl ?_
        refine s_iload_n hX dX10_owners_43 rfl ?_
        refine s_bipush (v := 47) hX dX10_owners_44 kb_47 ?_
        refine s_callVi (ck1 := 0) (sk1 := 0) (ci := 8) hX dX10_owners_46 k_X10_at q_1550 (c_X10_at n M9 a0 a1 47) (by decide) rfl rfl rfl ⟨Nat.le_of_ble_eq_true rfl, Nat.le_of_ble_eq_true rfl⟩ ⟨(Nat.le_of_ble_eq_true rfl), (Nat.le_of_ble_eq_true rfl)⟩ (Nat.le_of_ble_eq_true rfl) rfl rfl (fun r13 M14 => ?_)
        refine s_icge (tgt := 72) hX dX10_owners_49 rfl ?_ ?_
        · exact s_exit hE12
        · refine s_iload_n hX dX10_owners_52 rfl ?_
          refine s_iconst (v := 1) hX dX10_owners_53 kc_1 ?_
          refine s_aload_n hX dX10_owners_54 rfl ?_
          refine s_iload_n hX dX10_owners_55 rfl ?_
          refine s_bipush (v := 37) hX dX10_owners_56 kb_37 ?_
          refine s_iload_n hX dX10_owners_58 rfl ?_
          refine s_iadd hX dX10_owners_59 ?_
          refine s_callVi (ck1 := 0) (sk1 := 0) (ci := 8) hX dX10_owners_60 k_X10_at q_1550 (c_X10_at n M14 a0 a1 (37 + v11)) (by decide) rfl rfl rfl ⟨Nat.le_of_ble_eq_true rfl, Nat.le_of_ble_eq_true rfl⟩ ⟨(Nat.le_of_ble_eq_true rfl), (Nat.le_of_ble_eq_true rfl)⟩ (Nat.le_of_ble_eq_true rfl) rfl rfl (fun r15 M16 => ?_)
          refine s_ishl hX dX10_owners_63 ?_
          refine s_ior hX dX10_owners_64 ?_
          refine s_istore2 hX dX10_owners_65 (by first | exact trivial | exact rfl) (Nat.le_of_ble_eq_true rfl) ?_
          refine s_iinc3 (v := v11 + 1) hX dX10_owners_66 rfl (by first | exact trivial | exact rfl) (Nat.le_of_ble_eq_true rfl) ?_
          refine s_goto (tgt := 41) hX dX10_owners_69 rfl ?_
          exact s_back hB12
      · obtain ⟨M17, v18, v19⟩ := s
        dsimp only
        refine s_iconst (v := 0) hX dX10_owners_72 kc_0 ?_
        refine s_istore3 hX dX10_owners_73 (by first | exact trivial | exact rfl) (Nat.le_of_ble_eq_true rfl) ?_
        refine s_iconst (v := 0) hX dX10_owners_74 kc_0 ?_
        refine s_istore4 hX dX10_owners_75 (by first | exact trivial | exact rfl) (Nat.le_of_ble_eq_true rfl) ?_
        refine s_loopE (stk := []) (fun (s : MemT × Int32 × Int32) => [some (.ref a0), some (.int a1), some (.int v18), some (.int s.2.1), some (.int s.2.2)]) (fun (s : MemT × Int32 × Int32) => s.1) 98 (fun (s : MemT × Int32 × Int32) => [some (.ref a0), some (.int a1), some (.int v18), some (.int s.2.1), some (.int s.2.2)]) (fun s B23 hB23 hE23 => ?_) (fun s => ?_) n (M17, 0, 0)
        · obtain ⟨M20, v21, v22⟩ := s
          dsimp only
          refine s_iload hX dX10_owners_77 rfl ?_
          refine s_iconst (v := 4) hX dX10_owners_79 kc_4 ?_
          refine s_icge (tgt := 98) hX dX10_owners_80 rfl ?_ ?_
          · exact s_exit hE23
          · refine s_iload_n hX dX10_owners_83 rfl ?_
            refine s_iload_n hX dX10_owners_84 rfl ?_
            refine s_iload hX dX10_owners_85 rfl ?_
            refine s_ishr hX dX10_owners_87 ?_
            refine s_iconst (v := 1) hX dX10_owners_88 kc_1 ?_
            refine s_iand hX dX10_owners_89 ?_
            refine s_iadd hX dX10_owners_90 ?_
            refine s_istore3 hX dX10_owners_91 (by first | exact trivial | exact rfl) (Nat.le_of_ble_eq_true rfl) ?_
            refine s_iinc4 (v := v22 + 1) hX dX10_owners_92 rfl (by first | exact trivial | exact rfl) (Nat.le_of_ble_eq_true rfl) ?_
            refine s_goto (tgt := 77) hX dX10_owners_95 rfl ?_
            exact s_back hB23
        · obtain ⟨M24, v25, v26⟩ := s
          dsimp only
          refine s_iload_n hX dX10_owners_98 rfl ?_
          exact s_iret hX hR dX10_owners_99 (Nat.le_of_ble_eq_true rfl) (Nat.le_of_ble_eq_true rfl)
    · refine s_icne (tgt := 30) hX dX10_owners_23 rfl ?_ ?_
      · refine s_iconst (v := 0) hX dX10_owners_26 kc_0 ?_
        refine s_goto (tgt := 38) hX dX10_owners_27 rfl ?_
        exact hK6 _
      · refine s_iconst (v := 1) hX dX10_owners_30 kc_1 ?_
        refine s_aload_n hX dX10_owners_31 rfl ?_
        refine s_iload_n hX dX10_owners_32 rfl ?_
        refine s_iconst (v := 0) hX dX10_owners_33 kc_0 ?_
        refine s_callVi (ck1 := 0) (sk1 := 0) (ci := 8) hX dX10_owners_34 k_X10_at q_1550 (c_X10_at n M5 a0 a1 0) (by decide) rfl rfl rfl ⟨Nat.le_of_ble_eq_true rfl, Nat.le_of_ble_eq_true rfl⟩ ⟨(Nat.le_of_ble_eq_true rfl), (Nat.le_of_ble_eq_true rfl)⟩ (Nat.le_of_ble_eq_true rfl) rfl rfl (fun r27 M28 => ?_)
        refine s_ishl hX dX10_owners_37 ?_
        exact hK6 _
abbrev rm_X10_even : Room := { frames := 4, cells := 0, slots := 0, locals := 96 }
theorem k_X10_even : KYV yX10_even cX10_even 4 (some .int) 2 := ⟨⟨q_1807, q_9, by decide +kernel, by decide +kernel, by decide +kernel⟩, q_1805, q_1806⟩
set_option maxHeartbeats 4000000 in
set_option maxRecDepth 100000 in
theorem c_X10_even (n : Nat) (M0 : MemT) (a0 : Nat) (a1 : Int32) (a2 : Int32) : Ct iI yX10_even cX10_even 4 (some .int) rm_X10_even [.ref a0, .int a1, .int a2] M0 (g_X10_even n M0 a0 a1 a2) := by
  unfold g_X10_even
  refine ct_intro RX10 1 [some (.ref a0), some (.int a1), some (.int a2), none] rfl (by decide +kernel) rfl (Nat.le_of_ble_eq_true rfl) (fun X A hX hnm hR => ?_)
  refine s_aload_n hX dX10_even_0 rfl ?_
  refine s_iconst (v := 0) hX dX10_even_1 kc_0 ?_
  refine s_putI hX dX10_even_2 q_1308 rfl rfl (fun M1 => ?_)
  refine s_aload_n hX dX10_even_5 rfl ?_
  refine s_iload_n hX dX10_even_6 rfl ?_
  refine s_callVi (ck1 := 0) (sk1 := 0) (ci := 8) hX dX10_even_7 k_X10_isAsset q_1542 (c_X10_isAsset n M1 a0 a1) (by decide) rfl rfl rfl ⟨Nat.le_of_ble_eq_true rfl, Nat.le_of_ble_eq_true rfl⟩ ⟨(Nat.le_of_ble_eq_true rfl), (Nat.le_of_ble_eq_true rfl)⟩ (Nat.le_of_ble_eq_true rfl) rfl rfl (fun r2 M3 => ?_)
  refine s_ifeq (tgt := 25) hX dX10_even_10 rfl ?_ ?_
  · refine s_iconst (v := (-1)) hX dX10_even_25 kc_m1 ?_
    exact s_iret hX hR dX10_even_26 (Nat.le_of_ble_eq_true rfl) (Nat.le_of_ble_eq_true rfl)
  · refine s_iload_n hX dX10_even_13 rfl ?_
    refine s_ldcw hX dX10_even_14 q_1808 ?_
    refine s_ldc hX dX10_even_17 q_1426 ?_
    refine s_callSi (ck1 := 0) (sk1 := 0) hX dX10_even_19 k_X10_isIn q_1447 (c_X10_isIn n M3 a2 ((-99999)) 99999) rfl rfl ⟨Nat.le_of_ble_eq_true rfl, Nat.le_of_ble_eq_true rfl⟩ ⟨(Nat.le_of_ble_eq_true rfl), (Nat.le_of_ble_eq_true rfl)⟩ (Nat.le_of_ble_eq_true rfl) rfl rfl (fun r4 M5 => ?_)
    refine s_ifne (tgt := 27) hX dX10_even_22 rfl ?_ ?_
    · refine s_iconst (v := (-1)) hX dX10_even_25 kc_m1 ?_
      exact s_iret hX hR dX10_even_26 (Nat.le_of_ble_eq_true rfl) (Nat.le_of_ble_eq_true rfl)
    · refine s_aload_n hX dX10_even_27 rfl ?_
      refine s_iload_n hX dX10_even_28 rfl ?_
      refine s_callVi (ck1 := 0) (sk1 := 0) (ci := 8) hX dX10_even_29 k_X10_isThrough q_1686 (c_X10_isThrough n M5 a0 a1) (by decide) rfl rfl rfl ⟨Nat.le_of_ble_eq_true rfl, Nat.le_of_ble_eq_true rfl⟩ ⟨(Nat.le_of_ble_eq_true rfl), (Nat.le_of_ble_eq_true rfl)⟩ (Nat.le_of_ble_eq_true rfl) rfl rfl (fun r6 M7 => ?_)
      refine s_ifne (tgt := 38) hX dX10_even_32 rfl ?_ ?_
      · refine s_bipush (v := (-3)) hX dX10_even_35 kb_m3 ?_
        exact s_iret hX hR dX10_even_37 (Nat.le_of_ble_eq_true rfl) (Nat.le_of_ble_eq_true rfl)
      · refine s_iconst (v := 0) hX dX10_even_38 kc_0 ?_
        refine s_istore3 hX dX10_even_39 (by first | exact trivial | exact rfl) (Nat.le_of_ble_eq_true rfl) ?_
        refine s_loop (stk := []) (fun (s : MemT × Int32) => [some (.ref a0), some (.int a1), some (.int a2), some (.int s.2)]) (fun (s : MemT × Int32) => s.1) (fun s B10 hB10 hI10 => ?_) n (M7, 0)
        obtain ⟨M8, v9⟩ := s
        dsimp only
        refine s_iload_n hX dX10_even_40 rfl ?_
        refine s_aload_n hX dX10_even_41 rfl ?_
        refine s_getO hX dX10_even_42 q_1323 rfl (fun j11 => ?_)
        refine s_iconst (v := 1) hX dX10_even_45 kc_1 ?_
        refine s_iald hX dX10_even_46 (fun v12 => ?_)
        refine s_icgt (tgt := 77) hX dX10_even_47 rfl ?_ ?_
        · refine s_bipush (v := (-2)) hX dX10_even_77 kb_m2 ?_
          exact s_inr hI10 (s_iret hX hR dX10_even_79 (Nat.le_of_ble_eq_true rfl) (Nat.le_of_ble_eq_true rfl))
        · refine s_aload_n hX dX10_even_50 rfl ?_
          refine s_iload_n hX dX10_even_51 rfl ?_
          refine s_iload_n hX dX10_even_52 rfl ?_
          refine s_aload_n hX dX10_even_53 rfl ?_
          refine s_iload_n hX dX10_even_54 rfl ?_
          refine s_bipush (v := 6) hX dX10_even_55 kb_6 ?_
          refine s_callVi (ck1 := 0) (sk1 := 0) (ci := 8) hX dX10_even_57 k_X10_at q_1550 (c_X10_at n M8 a0 a1 6) (by decide) rfl rfl rfl ⟨Nat.le_of_ble_eq_true rfl, Nat.le_of_ble_eq_true rfl⟩ ⟨(Nat.le_of_ble_eq_true rfl), (Nat.le_of_ble_eq_true rfl)⟩ (Nat.le_of_ble_eq_true rfl) rfl rfl (fun r13 M14 => ?_)
          refine s_callVj (ck1 := 0) (sk1 := 0) (ci := 8) hX dX10_even_60 k_X10_adjustedBy q_1662 (c_X10_adjustedBy n M14 a0 a1 v9 r13) (by decide) rfl rfl rfl ⟨Nat.le_of_ble_eq_true rfl, Nat.le_of_ble_eq_true rfl⟩ ⟨(Nat.le_of_ble_eq_true rfl), (Nat.le_of_ble_eq_true rfl)⟩ (Nat.le_of_ble_eq_true rfl) rfl rfl (fun r15 M16 => ?_)
          refine s_iload_n hX dX10_even_63 rfl ?_
          refine s_i2l hX dX10_even_64 ?_
          refine s_lcmp hX dX10_even_65 ?_
          refine s_iflt (tgt := 71) hX dX10_even_66 rfl ?_ ?_
          · refine s_iinc3 (v := v9 + 1) hX dX10_even_71 rfl (by first | exact trivial | exact rfl) (Nat.le_of_ble_eq_true rfl) ?_
            refine s_goto (tgt := 40) hX dX10_even_74 rfl ?_
            exact s_back hB10
          · refine s_iload_n hX dX10_even_69 rfl ?_
            exact s_inr hI10 (s_iret hX hR dX10_even_70 (Nat.le_of_ble_eq_true rfl) (Nat.le_of_ble_eq_true rfl))
abbrev rm_X10_worth : Room := { frames := 6, cells := 0, slots := 0, locals := 147 }
theorem k_X10_worth : KYV yX10_worth cX10_worth 2 (some .int) 1 := ⟨⟨q_1812, q_9, by decide +kernel, by decide +kernel, by decide +kernel⟩, q_1810, q_1811⟩
set_option maxHeartbeats 4000000 in
set_option maxRecDepth 100000 in
theorem c_X10_worth (n : Nat) (M0 : MemT) (a0 : Nat) (a1 : Int32) : Ct iI yX10_worth cX10_worth 2 (some .int) rm_X10_worth [.ref a0, .int a1] M0 (g_X10_worth n M0 a0 a1) := by
  unfold g_X10_worth
  refine ct_intro RX10 0 [some (.ref a0), some (.int a1)] rfl (by decide +kernel) rfl (Nat.le_of_ble_eq_true rfl) (fun X A hX hnm hR => ?_)
  refine s_aload_n hX dX10_worth_0 rfl ?_
  refine s_iconst (v := 0) hX dX10_worth_1 kc_0 ?_
  refine s_putI hX dX10_worth_2 q_1308 rfl rfl (fun M1 => ?_)
  refine s_aload_n hX dX10_worth_5 rfl ?_
  refine s_iload_n hX dX10_worth_6 rfl ?_
  refine s_callVi (ck1 := 0) (sk1 := 0) (ci := 8) hX dX10_worth_7 k_X10_isAsset q_1542 (c_X10_isAsset n M1 a0 a1) (by decide) rfl rfl rfl ⟨Nat.le_of_ble_eq_true rfl, Nat.le_of_ble_eq_true rfl⟩ ⟨(Nat.le_of_ble_eq_true rfl), (Nat.le_of_ble_eq_true rfl)⟩ (Nat.le_of_ble_eq_true rfl) rfl rfl (fun r2 M3 => ?_)
  refine s_ifne (tgt := 15) hX dX10_worth_10 rfl ?_ ?_
  · refine s_iconst (v := (-1)) hX dX10_worth_13 kc_m1 ?_
    exact s_iret hX hR dX10_worth_14 (Nat.le_of_ble_eq_true rfl) (Nat.le_of_ble_eq_true rfl)
  · refine s_aload_n hX dX10_worth_15 rfl ?_
    refine s_iload_n hX dX10_worth_16 rfl ?_
    refine s_bipush (v := 9) hX dX10_worth_17 kb_9 ?_
    refine s_callVi (ck1 := 0) (sk1 := 0) (ci := 8) hX dX10_worth_19 k_X10_at q_1550 (c_X10_at n M3 a0 a1 9) (by decide) rfl rfl rfl ⟨Nat.le_of_ble_eq_true rfl, Nat.le_of_ble_eq_true rfl⟩ ⟨(Nat.le_of_ble_eq_true rfl), (Nat.le_of_ble_eq_true rfl)⟩ (Nat.le_of_ble_eq_true rfl) rfl rfl (fun r4 M5 => ?_)
    refine s_iconst (v := 1) hX dX10_worth_22 kc_1 ?_
    refine s_icne (tgt := 31) hX dX10_worth_23 rfl ?_ ?_
    · refine s_bipush (v := (-2)) hX dX10_worth_26 kb_m2 ?_
      refine s_goto (tgt := 42) hX dX10_worth_28 rfl ?_
      exact s_iret hX hR dX10_worth_42 (Nat.le_of_ble_eq_true rfl) (Nat.le_of_ble_eq_true rfl)
    · refine s_aload_n hX dX10_worth_31 rfl ?_
      refine s_iload_n hX dX10_worth_32 rfl ?_
      refine s_aload_n hX dX10_worth_33 rfl ?_
      refine s_iload_n hX dX10_worth_34 rfl ?_
      refine s_iconst (v := 2) hX dX10_worth_35 kc_2 ?_
      refine s_callVi (ck1 := 0) (sk1 := 0) (ci := 8) hX dX10_worth_36 k_X10_at q_1550 (c_X10_at n M5 a0 a1 2) (by decide) rfl rfl rfl ⟨Nat.le_of_ble_eq_true rfl, Nat.le_of_ble_eq_true rfl⟩ ⟨(Nat.le_of_ble_eq_true rfl), (Nat.le_of_ble_eq_true rfl)⟩ (Nat.le_of_ble_eq_true rfl) rfl rfl (fun r6 M7 => ?_)
      refine s_callVi (ck1 := 0) (sk1 := 0) (ci := 8) hX dX10_worth_39 k_X10_worthBy q_1645 (c_X10_worthBy n M7 a0 a1 r6) (by decide) rfl rfl rfl ⟨Nat.le_of_ble_eq_true rfl, Nat.le_of_ble_eq_true rfl⟩ ⟨(Nat.le_of_ble_eq_true rfl), (Nat.le_of_ble_eq_true rfl)⟩ (Nat.le_of_ble_eq_true rfl) rfl rfl (fun r8 M9 => ?_)
      exact s_iret hX hR dX10_worth_42 (Nat.le_of_ble_eq_true rfl) (Nat.le_of_ble_eq_true rfl)
abbrev rm_X10_asNow : Room := { frames := 1, cells := 0, slots := 0, locals := 23 }
theorem k_X10_asNow : KYV yX10_asNow cX10_asNow 1 none 0 := ⟨⟨q_1820, q_9, by decide +kernel, by decide +kernel, by decide +kernel⟩, q_1819, p_106⟩
set_option maxHeartbeats 4000000 in
set_option maxRecDepth 100000 in
theorem c_X10_asNow (n : Nat) (M0 : MemT) (a0 : Nat) : Ct iU yX10_asNow cX10_asNow 1 none rm_X10_asNow [.ref a0] M0 (g_X10_asNow n M0 a0) := by
  unfold g_X10_asNow
  refine ct_intro RX10 0 [some (.ref a0)] rfl (by decide +kernel) rfl (Nat.le_of_ble_eq_true rfl) (fun X A hX hnm hR => ?_)
  refine s_aload_n hX dX10_asNow_0 rfl ?_
  refine s_iconst (v := 0) hX dX10_asNow_1 kc_0 ?_
  refine s_iconst (v := 1) hX dX10_asNow_2 kc_1 ?_
  refine s_callVu (ck1 := 0) (sk1 := 0) (ci := 8) hX dX10_asNow_3 k_X10_copyBank q_1494 (c_X10_copyBank n M0 a0 0 1) (by decide) rfl rfl rfl ⟨Nat.le_of_ble_eq_true rfl, Nat.le_of_ble_eq_true rfl⟩ ⟨(Nat.le_of_ble_eq_true rfl), (Nat.le_of_ble_eq_true rfl)⟩ (Nat.le_of_ble_eq_true rfl) rfl rfl (fun r1 M2 => ?_)
  refine s_aload_n hX dX10_asNow_6 rfl ?_
  refine s_iconst (v := 1) hX dX10_asNow_7 kc_1 ?_
  refine s_putI hX dX10_asNow_8 q_1327 rfl rfl (fun M3 => ?_)
  exact s_vret hX hR dX10_asNow_11 (Nat.le_of_ble_eq_true rfl) (Nat.le_of_ble_eq_true rfl)
abbrev rm_X10_tried : Room := { frames := 9, cells := 0, slots := 0, locals := 223 }
theorem k_X10_tried : KYV yX10_tried cX10_tried 6 (some .int) 3 := ⟨⟨q_1816, q_9, by decide +kernel, by decide +kernel, by decide +kernel⟩, q_1814, q_1815⟩
set_option maxHeartbeats 4000000 in
set_option maxRecDepth 100000 in
theorem c_X10_tried (n : Nat) (M0 : MemT) (a0 : Nat) (a1 : Int32) (a2 : Int32) (a3 : Int32) : Ct iI yX10_tried cX10_tried 6 (some .int) rm_X10_tried [.ref a0, .int a1, .int a2, .int a3] M0 (g_X10_tried n M0 a0 a1 a2 a3) := by
  unfold g_X10_tried
  refine ct_intro RX10 2 [some (.ref a0), some (.int a1), some (.int a2), some (.int a3), none, none] rfl (by decide +kernel) rfl (Nat.le_of_ble_eq_true rfl) (fun X A hX hnm hR => ?_)
  refine s_aload_n hX dX10_tried_0 rfl ?_
  refine s_iconst (v := 0) hX dX10_tried_1 kc_0 ?_
  refine s_putI hX dX10_tried_2 q_1308 rfl rfl (fun M1 => ?_)
  refine s_iload_n hX dX10_tried_5 rfl ?_
  refine s_iconst (v := 1) hX dX10_tried_6 kc_1 ?_
  refine s_bipush (v := 16) hX dX10_tried_7 kb_16 ?_
  refine s_callSi (ck1 := 0) (sk1 := 0) hX dX10_tried_9 k_X10_isIn q_1447 (c_X10_isIn n M1 a1 1 16) rfl rfl ⟨Nat.le_of_ble_eq_true rfl, Nat.le_of_ble_eq_true rfl⟩ ⟨(Nat.le_of_ble_eq_true rfl), (Nat.le_of_ble_eq_true rfl)⟩ (Nat.le_of_ble_eq_true rfl) rfl rfl (fun r2 M3 => ?_)
  refine s_ifeq (tgt := 44) hX dX10_tried_12 rfl ?_ ?_
  · refine s_ldcw hX dX10_tried_44 q_1714 ?_
    exact s_iret hX hR dX10_tried_47 (Nat.le_of_ble_eq_true rfl) (Nat.le_of_ble_eq_true rfl)
  · refine s_aload_n hX dX10_tried_15 rfl ?_
    refine s_iload_n hX dX10_tried_16 rfl ?_
    refine s_callVi (ck1 := 0) (sk1 := 0) (ci := 8) hX dX10_tried_17 k_X10_isTrader q_1510 (c_X10_isTrader n M3 a0 a2) (by decide) rfl rfl rfl ⟨Nat.le_of_ble_eq_true rfl, Nat.le_of_ble_eq_true rfl⟩ ⟨(Nat.le_of_ble_eq_true rfl), (Nat.le_of_ble_eq_true rfl)⟩ (Nat.le_of_ble_eq_true rfl) rfl rfl (fun r4 M5 => ?_)
    refine s_ifeq (tgt := 44) hX dX10_tried_20 rfl ?_ ?_
    · refine s_ldcw hX dX10_tried_44 q_1714 ?_
      exact s_iret hX hR dX10_tried_47 (Nat.le_of_ble_eq_true rfl) (Nat.le_of_ble_eq_true rfl)
    · refine s_iload_n hX dX10_tried_23 rfl ?_
      refine s_iconst (v := 0) hX dX10_tried_24 kc_0 ?_
      refine s_iconst (v := 3) hX dX10_tried_25 kc_3 ?_
      refine s_callSi (ck1 := 0) (sk1 := 0) hX dX10_tried_26 k_X10_isIn q_1447 (c_X10_isIn n M5 a3 0 3) rfl rfl ⟨Nat.le_of_ble_eq_true rfl, Nat.le_of_ble_eq_true rfl⟩ ⟨(Nat.le_of_ble_eq_true rfl), (Nat.le_of_ble_eq_true rfl)⟩ (Nat.le_of_ble_eq_true rfl) rfl rfl (fun r6 M7 => ?_)
      refine s_ifeq (tgt := 44) hX dX10_tried_29 rfl ?_ ?_
      · refine s_ldcw hX dX10_tried_44 q_1714 ?_
        exact s_iret hX hR dX10_tried_47 (Nat.le_of_ble_eq_true rfl) (Nat.le_of_ble_eq_true rfl)
      · refine s_aload_n hX dX10_tried_32 rfl ?_
        refine s_iconst (v := 0) hX dX10_tried_33 kc_0 ?_
        refine s_callVi (ck1 := 0) (sk1 := 0) (ci := 8) hX dX10_tried_34 k_X10_of q_1286 (c_X10_of n M7 a0 0) (by decide) rfl rfl rfl ⟨Nat.le_of_ble_eq_true rfl, Nat.le_of_ble_eq_true rfl⟩ ⟨(Nat.le_of_ble_eq_true rfl), (Nat.le_of_ble_eq_true rfl)⟩ (Nat.le_of_ble_eq_true rfl) rfl rfl (fun r8 M9 => ?_)
        refine s_iload_n hX dX10_tried_37 rfl ?_
        refine s_iadd hX dX10_tried_38 ?_
        refine s_bipush (v := 63) hX dX10_tried_39 kb_63 ?_
        refine s_icle (tgt := 48) hX dX10_tried_41 rfl ?_ ?_
        · refine s_aload_n hX dX10_tried_48 rfl ?_
          refine s_callVu (ck1 := 0) (sk1 := 0) (ci := 8) hX dX10_tried_49 k_X10_asNow q_1817 (c_X10_asNow n M9 a0) (by decide) rfl rfl rfl ⟨Nat.le_of_ble_eq_true rfl, Nat.le_of_ble_eq_true rfl⟩ ⟨(Nat.le_of_ble_eq_true rfl), (Nat.le_of_ble_eq_true rfl)⟩ (Nat.le_of_ble_eq_true rfl) rfl rfl (fun r10 M11 => ?_)
          refine s_aload_n hX dX10_tried_52 rfl ?_
          refine s_sipush (v := 2068) hX dX10_tried_53 ks_2068 ?_
          refine s_iconst (v := 4) hX dX10_tried_56 kc_4 ?_
          refine s_iload_n hX dX10_tried_57 rfl ?_
          refine s_imul hX dX10_tried_58 ?_
          refine s_iadd hX dX10_tried_59 ?_
          refine s_iload_n hX dX10_tried_60 rfl ?_
          refine s_iadd hX dX10_tried_61 ?_
          refine s_callVi (ck1 := 0) (sk1 := 0) (ci := 8) hX dX10_tried_62 k_X10_of q_1286 (c_X10_of n M11 a0 ((2068 + (4 * a2)) + a3)) (by decide) rfl rfl rfl ⟨Nat.le_of_ble_eq_true rfl, Nat.le_of_ble_eq_true rfl⟩ ⟨(Nat.le_of_ble_eq_true rfl), (Nat.le_of_ble_eq_true rfl)⟩ (Nat.le_of_ble_eq_true rfl) rfl rfl (fun r12 M13 => ?_)
          refine s_istore4 hX dX10_tried_65 (by first | exact trivial | exact rfl) (Nat.le_of_ble_eq_true rfl) ?_
          refine s_iconst (v := 0) hX dX10_tried_67 kc_0 ?_
          refine s_istore5 hX dX10_tried_68 (by first | exact trivial | exact rfl) (Nat.le_of_ble_eq_true rfl) ?_
          refine s_loopE (stk := []) (fun (s : MemT × Int32) => [some (.ref a0), some (.int a1), some (.int a2), some (.int a3), some (.int r12), some (.int s.2)]) (fun (s : MemT × Int32) => s.1) 86 (fun (s : MemT × Int32) => [some (.ref a0), some (.int a1), some (.int a2), some (.int a3), some (.int r12), some (.int s.2)]) (fun s B16 hB16 hE16 => ?_) (fun s => ?_) n (M13, 0)
          · obtain ⟨M14, v15⟩ := s
            dsimp only
            refine s_iload hX dX10_tried_70 rfl ?_
            refine s_iload_n hX dX10_tried_72 rfl ?_
            refine s_icge (tgt := 86) hX dX10_tried_73 rfl ?_ ?_
            · exact s_exit hE16
            · refine s_aload_n hX dX10_tried_76 rfl ?_
              refine s_callVu (ck1 := 0) (sk1 := 0) (ci := 8) hX dX10_tried_77 k_X10_closesQuarter q_1574 (c_X10_closesQuarter n M14 a0) (by decide) rfl rfl rfl ⟨Nat.le_of_ble_eq_true rfl, Nat.le_of_ble_eq_true rfl⟩ ⟨(Nat.le_of_ble_eq_true rfl), (Nat.le_of_ble_eq_true rfl)⟩ (Nat.le_of_ble_eq_true rfl) rfl rfl (fun r17 M18 => ?_)
              refine s_iinc5 (v := v15 + 1) hX dX10_tried_80 rfl (by first | exact trivial | exact rfl) (Nat.le_of_ble_eq_true rfl) ?_
              refine s_goto (tgt := 70) hX dX10_tried_83 rfl ?_
              exact s_back hB16
          · obtain ⟨M19, v20⟩ := s
            dsimp only
            refine s_aload_n hX dX10_tried_86 rfl ?_
            refine s_sipush (v := 2068) hX dX10_tried_87 ks_2068 ?_
            refine s_iconst (v := 4) hX dX10_tried_90 kc_4 ?_
            refine s_iload_n hX dX10_tried_91 rfl ?_
            refine s_imul hX dX10_tried_92 ?_
            refine s_iadd hX dX10_tried_93 ?_
            refine s_iload_n hX dX10_tried_94 rfl ?_
            refine s_iadd hX dX10_tried_95 ?_
            refine s_callVi (ck1 := 0) (sk1 := 0) (ci := 8) hX dX10_tried_96 k_X10_of q_1286 (c_X10_of n M19 a0 ((2068 + (4 * a2)) + a3)) (by decide) rfl rfl rfl ⟨Nat.le_of_ble_eq_true rfl, Nat.le_of_ble_eq_true rfl⟩ ⟨(Nat.le_of_ble_eq_true rfl), (Nat.le_of_ble_eq_true rfl)⟩ (Nat.le_of_ble_eq_true rfl) rfl rfl (fun r21 M22 => ?_)
            refine s_iload hX dX10_tried_99 rfl ?_
            refine s_isub hX dX10_tried_101 ?_
            refine s_istore5 hX dX10_tried_102 (by first | exact trivial | exact rfl) (Nat.le_of_ble_eq_true rfl) ?_
            refine s_aload_n hX dX10_tried_104 rfl ?_
            refine s_iconst (v := 0) hX dX10_tried_105 kc_0 ?_
            refine s_putI hX dX10_tried_106 q_1327 rfl rfl (fun M23 => ?_)
            refine s_iload hX dX10_tried_109 rfl ?_
            exact s_iret hX hR dX10_tried_111 (Nat.le_of_ble_eq_true rfl) (Nat.le_of_ble_eq_true rfl)
        · refine s_ldcw hX dX10_tried_44 q_1714 ?_
          exact s_iret hX hR dX10_tried_47 (Nat.le_of_ble_eq_true rfl) (Nat.le_of_ble_eq_true rfl)
abbrev rm_X10_draw : Room := { frames := 0, cells := 0, slots := 0, locals := 0 }
theorem k_X10_draw : KYV yX10_draw cX10_draw 2 (some .int) 1 := ⟨⟨q_1832, q_9, by decide +kernel, by decide +kernel, by decide +kernel⟩, q_1831, p_108⟩
set_option maxHeartbeats 4000000 in
set_option maxRecDepth 100000 in
theorem c_X10_draw (n : Nat) (M0 : MemT) (a0 : Nat) (a1 : Int32) : Ct iI yX10_draw cX10_draw 2 (some .int) rm_X10_draw [.ref a0, .int a1] M0 (g_X10_draw n M0 a0 a1) := by
  unfold g_X10_draw
  refine ct_intro RX10 0 [some (.ref a0), some (.int a1)] rfl (by decide +kernel) rfl (Nat.le_of_ble_eq_true rfl) (fun X A hX hnm hR => ?_)
  refine s_aload_n hX dX10_draw_0 rfl ?_
  refine s_aload_n hX dX10_draw_1 rfl ?_
  refine s_getJ hX dX10_draw_2 q_1334 rfl (fun v1 => ?_)
  refine s_ldc2 hX dX10_draw_5 q_1833 ?_
  refine s_lmul hX dX10_draw_8 ?_
  refine s_ldc2 hX dX10_draw_9 q_1834 ?_
  refine s_ladd hX dX10_draw_12 ?_
  refine s_ldc2 hX dX10_draw_13 q_1835 ?_
  refine s_land hX dX10_draw_16 ?_
  refine s_putJ hX dX10_draw_17 q_1334 rfl rfl (fun M2 => ?_)
  refine s_aload_n hX dX10_draw_20 rfl ?_
  refine s_getJ hX dX10_draw_21 q_1334 rfl (fun v3 => ?_)
  refine s_ldc2 hX dX10_draw_24 q_1836 ?_
  refine s_ldiv hX dX10_draw_27 ?_
  refine s_iload_n hX dX10_draw_28 rfl ?_
  refine s_i2l hX dX10_draw_29 ?_
  refine s_lrem hX dX10_draw_30 ?_
  refine s_l2i hX dX10_draw_31 ?_
  exact s_iret hX hR dX10_draw_32 (Nat.le_of_ble_eq_true rfl) (Nat.le_of_ble_eq_true rfl)
abbrev rm_X10_totalOf : Room := { frames := 1, cells := 0, slots := 0, locals := 21 }
theorem k_X10_totalOf : KYV yX10_totalOf cX10_totalOf 2 (some .int) 1 := ⟨⟨q_1828, q_9, by decide +kernel, by decide +kernel, by decide +kernel⟩, q_1827, p_107⟩
set_option maxHeartbeats 4000000 in
set_option maxRecDepth 100000 in
theorem c_X10_totalOf (n : Nat) (M0 : MemT) (a0 : Nat) (a1 : Int32) : Ct iI yX10_totalOf cX10_totalOf 2 (some .int) rm_X10_totalOf [.ref a0, .int a1] M0 (g_X10_totalOf n M0 a0 a1) := by
  unfold g_X10_totalOf
  refine ct_intro RX10 0 [some (.ref a0), some (.int a1)] rfl (by decide +kernel) rfl (Nat.le_of_ble_eq_true rfl) (fun X A hX hnm hR => ?_)
  refine s_aload_n hX dX10_totalOf_0 rfl ?_
  refine s_sipush (v := 2068) hX dX10_totalOf_1 ks_2068 ?_
  refine s_iconst (v := 4) hX dX10_totalOf_4 kc_4 ?_
  refine s_iload_n hX dX10_totalOf_5 rfl ?_
  refine s_imul hX dX10_totalOf_6 ?_
  refine s_iadd hX dX10_totalOf_7 ?_
  refine s_callVi (ck1 := 0) (sk1 := 0) (ci := 8) hX dX10_totalOf_8 k_X10_of q_1286 (c_X10_of n M0 a0 (2068 + (4 * a1))) (by decide) rfl rfl rfl ⟨Nat.le_of_ble_eq_true rfl, Nat.le_of_ble_eq_true rfl⟩ ⟨(Nat.le_of_ble_eq_true rfl), (Nat.le_of_ble_eq_true rfl)⟩ (Nat.le_of_ble_eq_true rfl) rfl rfl (fun r1 M2 => ?_)
  refine s_aload_n hX dX10_totalOf_11 rfl ?_
  refine s_sipush (v := 2068) hX dX10_totalOf_12 ks_2068 ?_
  refine s_iconst (v := 4) hX dX10_totalOf_15 kc_4 ?_
  refine s_iload_n hX dX10_totalOf_16 rfl ?_
  refine s_imul hX dX10_totalOf_17 ?_
  refine s_iadd hX dX10_totalOf_18 ?_
  refine s_iconst (v := 1) hX dX10_totalOf_19 kc_1 ?_
  refine s_iadd hX dX10_totalOf_20 ?_
  refine s_callVi (ck1 := 0) (sk1 := 0) (ci := 8) hX dX10_totalOf_21 k_X10_of q_1286 (c_X10_of n M2 a0 ((2068 + (4 * a1)) + 1)) (by decide) rfl rfl rfl ⟨Nat.le_of_ble_eq_true rfl, Nat.le_of_ble_eq_true rfl⟩ ⟨(Nat.le_of_ble_eq_true rfl), (Nat.le_of_ble_eq_true rfl)⟩ (Nat.le_of_ble_eq_true rfl) rfl rfl (fun r3 M4 => ?_)
  refine s_iadd hX dX10_totalOf_24 ?_
  refine s_aload_n hX dX10_totalOf_25 rfl ?_
  refine s_sipush (v := 2068) hX dX10_totalOf_26 ks_2068 ?_
  refine s_iconst (v := 4) hX dX10_totalOf_29 kc_4 ?_
  refine s_iload_n hX dX10_totalOf_30 rfl ?_
  refine s_imul hX dX10_totalOf_31 ?_
  refine s_iadd hX dX10_totalOf_32 ?_
  refine s_iconst (v := 2) hX dX10_totalOf_33 kc_2 ?_
  refine s_iadd hX dX10_totalOf_34 ?_
  refine s_callVi (ck1 := 0) (sk1 := 0) (ci := 8) hX dX10_totalOf_35 k_X10_of q_1286 (c_X10_of n M4 a0 ((2068 + (4 * a1)) + 2)) (by decide) rfl rfl rfl ⟨Nat.le_of_ble_eq_true rfl, Nat.le_of_ble_eq_true rfl⟩ ⟨(Nat.le_of_ble_eq_true rfl), (Nat.le_of_ble_eq_true rfl)⟩ (Nat.le_of_ble_eq_true rfl) rfl rfl (fun r5 M6 => ?_)
  refine s_iadd hX dX10_totalOf_38 ?_
  refine s_aload_n hX dX10_totalOf_39 rfl ?_
  refine s_sipush (v := 2068) hX dX10_totalOf_40 ks_2068 ?_
  refine s_iconst (v := 4) hX dX10_totalOf_43 kc_4 ?_
  refine s_iload_n hX dX10_totalOf_44 rfl ?_
  refine s_imul hX dX10_totalOf_45 ?_
  refine s_iadd hX dX10_totalOf_46 ?_
  refine s_iconst (v := 3) hX dX10_totalOf_47 kc_3 ?_
  refine s_iadd hX dX10_totalOf_48 ?_
  refine s_callVi (ck1 := 0) (sk1 := 0) (ci := 8) hX dX10_totalOf_49 k_X10_of q_1286 (c_X10_of n M6 a0 ((2068 + (4 * a1)) + 3)) (by decide) rfl rfl rfl ⟨Nat.le_of_ble_eq_true rfl, Nat.le_of_ble_eq_true rfl⟩ ⟨(Nat.le_of_ble_eq_true rfl), (Nat.le_of_ble_eq_true rfl)⟩ (Nat.le_of_ble_eq_true rfl) rfl rfl (fun r7 M8 => ?_)
  refine s_iadd hX dX10_totalOf_52 ?_
  exact s_iret hX hR dX10_totalOf_53 (Nat.le_of_ble_eq_true rfl) (Nat.le_of_ble_eq_true rfl)
abbrev rm_X10_chance : Room := { frames := 9, cells := 0, slots := 0, locals := 223 }
theorem k_X10_chance : KYV yX10_chance cX10_chance 6 (some .int) 3 := ⟨⟨q_1824, q_9, by decide +kernel, by decide +kernel, by decide +kernel⟩, q_1822, q_1823⟩
set_option maxHeartbeats 4000000 in
set_option maxRecDepth 100000 in
theorem c_X10_chance (n : Nat) (M0 : MemT) (a0 : Nat) (a1 : Int32) (a2 : Int32) (a3 : Int32) : Ct iI yX10_chance cX10_chance 6 (some .int) rm_X10_chance [.ref a0, .int a1, .int a2, .int a3] M0 (g_X10_chance n M0 a0 a1 a2 a3) := by
  unfold g_X10_chance
  refine ct_intro RX10 2 [some (.ref a0), some (.int a1), some (.int a2), some (.int a3), none, none] rfl (by decide +kernel) rfl (Nat.le_of_ble_eq_true rfl) (fun X A hX hnm hR => ?_)
  refine s_aload_n hX dX10_chance_0 rfl ?_
  refine s_iconst (v := 0) hX dX10_chance_1 kc_0 ?_
  refine s_putI hX dX10_chance_2 q_1308 rfl rfl (fun M1 => ?_)
  refine s_iload_n hX dX10_chance_5 rfl ?_
  refine s_iconst (v := (-1)) hX dX10_chance_6 kc_m1 ?_
  refine s_iclt (tgt := 40) hX dX10_chance_7 rfl ?_ ?_
  · refine s_ldcw hX dX10_chance_40 q_1714 ?_
    exact s_iret hX hR dX10_chance_43 (Nat.le_of_ble_eq_true rfl) (Nat.le_of_ble_eq_true rfl)
  · refine s_iload_n hX dX10_chance_10 rfl ?_
    refine s_iconst (v := 1) hX dX10_chance_11 kc_1 ?_
    refine s_bipush (v := 8) hX dX10_chance_12 kb_8 ?_
    refine s_callSi (ck1 := 0) (sk1 := 0) hX dX10_chance_14 k_X10_isIn q_1447 (c_X10_isIn n M1 a2 1 8) rfl rfl ⟨Nat.le_of_ble_eq_true rfl, Nat.le_of_ble_eq_true rfl⟩ ⟨(Nat.le_of_ble_eq_true rfl), (Nat.le_of_ble_eq_true rfl)⟩ (Nat.le_of_ble_eq_true rfl) rfl rfl (fun r2 M3 => ?_)
    refine s_ifeq (tgt := 40) hX dX10_chance_17 rfl ?_ ?_
    · refine s_ldcw hX dX10_chance_40 q_1714 ?_
      exact s_iret hX hR dX10_chance_43 (Nat.le_of_ble_eq_true rfl) (Nat.le_of_ble_eq_true rfl)
    · refine s_aload_n hX dX10_chance_20 rfl ?_
      refine s_iload_n hX dX10_chance_21 rfl ?_
      refine s_callVi (ck1 := 0) (sk1 := 0) (ci := 8) hX dX10_chance_22 k_X10_isTrader q_1510 (c_X10_isTrader n M3 a0 a3) (by decide) rfl rfl rfl ⟨Nat.le_of_ble_eq_true rfl, Nat.le_of_ble_eq_true rfl⟩ ⟨(Nat.le_of_ble_eq_true rfl), (Nat.le_of_ble_eq_true rfl)⟩ (Nat.le_of_ble_eq_true rfl) rfl rfl (fun r4 M5 => ?_)
      refine s_ifeq (tgt := 40) hX dX10_chance_25 rfl ?_ ?_
      · refine s_ldcw hX dX10_chance_40 q_1714 ?_
        exact s_iret hX hR dX10_chance_43 (Nat.le_of_ble_eq_true rfl) (Nat.le_of_ble_eq_true rfl)
      · refine s_aload_n hX dX10_chance_28 rfl ?_
        refine s_iconst (v := 0) hX dX10_chance_29 kc_0 ?_
        refine s_callVi (ck1 := 0) (sk1 := 0) (ci := 8) hX dX10_chance_30 k_X10_of q_1286 (c_X10_of n M5 a0 0) (by decide) rfl rfl rfl ⟨Nat.le_of_ble_eq_true rfl, Nat.le_of_ble_eq_true rfl⟩ ⟨(Nat.le_of_ble_eq_true rfl), (Nat.le_of_ble_eq_true rfl)⟩ (Nat.le_of_ble_eq_true rfl) rfl rfl (fun r6 M7 => ?_)
        refine s_iload_n hX dX10_chance_33 rfl ?_
        refine s_iadd hX dX10_chance_34 ?_
        refine s_bipush (v := 63) hX dX10_chance_35 kb_63 ?_
        refine s_icle (tgt := 44) hX dX10_chance_37 rfl ?_ ?_
        · refine s_aload_n hX dX10_chance_44 rfl ?_
          refine s_iload_n hX dX10_chance_45 rfl ?_
          refine s_jp (fun (s : MemT × Int64) => [some (.ref a0), some (.int a1), some (.int a2), some (.int a3), none, none]) (fun (s : MemT × Int64) => [.long s.2, .ref a0]) (fun (s : MemT × Int64) => s.1) 0 0 61 (fun s => ?_) (fun K8 hK8 => ?_)
          · obtain ⟨M9, v10⟩ := s
            dsimp only
            refine s_putJ hX dX10_chance_61 q_1334 rfl rfl (fun M11 => ?_)
            refine s_aload_n hX dX10_chance_64 rfl ?_
            refine s_callVu (ck1 := 0) (sk1 := 0) (ci := 8) hX dX10_chance_65 k_X10_asNow q_1817 (c_X10_asNow n M11 a0) (by decide) rfl rfl rfl ⟨Nat.le_of_ble_eq_true rfl, Nat.le_of_ble_eq_true rfl⟩ ⟨(Nat.le_of_ble_eq_true rfl), (Nat.le_of_ble_eq_true rfl)⟩ (Nat.le_of_ble_eq_true rfl) rfl rfl (fun r12 M13 => ?_)
            refine s_aload_n hX dX10_chance_68 rfl ?_
            refine s_iload_n hX dX10_chance_69 rfl ?_
            refine s_callVi (ck1 := 0) (sk1 := 0) (ci := 8) hX dX10_chance_70 k_X10_totalOf q_1825 (c_X10_totalOf n M13 a0 a3) (by decide) rfl rfl rfl ⟨Nat.le_of_ble_eq_true rfl, Nat.le_of_ble_eq_true rfl⟩ ⟨(Nat.le_of_ble_eq_true rfl), (Nat.le_of_ble_eq_true rfl)⟩ (Nat.le_of_ble_eq_true rfl) rfl rfl (fun r14 M15 => ?_)
            refine s_istore4 hX dX10_chance_73 (by first | exact trivial | exact rfl) (Nat.le_of_ble_eq_true rfl) ?_
            refine s_iconst (v := 0) hX dX10_chance_75 kc_0 ?_
            refine s_istore5 hX dX10_chance_76 (by first | exact trivial | exact rfl) (Nat.le_of_ble_eq_true rfl) ?_
            refine s_loopE (stk := []) (fun (s : MemT × Int32) => [some (.ref a0), some (.int a1), some (.int a2), some (.int a3), some (.int r14), some (.int s.2)]) (fun (s : MemT × Int32) => s.1) 138 (fun (s : MemT × Int32) => [some (.ref a0), some (.int a1), some (.int a2), some (.int a3), some (.int r14), some (.int s.2)]) (fun s B18 hB18 hE18 => ?_) (fun s => ?_) n (M15, 0)
            · obtain ⟨M16, v17⟩ := s
              dsimp only
              refine s_iload hX dX10_chance_78 rfl ?_
              refine s_iload_n hX dX10_chance_80 rfl ?_
              refine s_icge (tgt := 138) hX dX10_chance_81 rfl ?_ ?_
              · exact s_exit hE18
              · refine s_aload_n hX dX10_chance_84 rfl ?_
                refine s_aload_n hX dX10_chance_85 rfl ?_
                refine s_iload_n hX dX10_chance_86 rfl ?_
                refine s_aload_n hX dX10_chance_87 rfl ?_
                refine s_iconst (v := 0) hX dX10_chance_88 kc_0 ?_
                refine s_callVi (ck1 := 0) (sk1 := 0) (ci := 8) hX dX10_chance_89 k_X10_of q_1286 (c_X10_of n M16 a0 0) (by decide) rfl rfl rfl ⟨Nat.le_of_ble_eq_true rfl, Nat.le_of_ble_eq_true rfl⟩ ⟨(Nat.le_of_ble_eq_true rfl), (Nat.le_of_ble_eq_true rfl)⟩ (Nat.le_of_ble_eq_true rfl) rfl rfl (fun r19 M20 => ?_)
                refine s_iconst (v := 0) hX dX10_chance_92 kc_0 ?_
                refine s_callVi (ck1 := 0) (sk1 := 0) (ci := 8) hX dX10_chance_93 k_X10_sumAt q_1290 (c_X10_sumAt n M20 a0 a3 r19 0) (by decide) rfl rfl rfl ⟨Nat.le_of_ble_eq_true rfl, Nat.le_of_ble_eq_true rfl⟩ ⟨(Nat.le_of_ble_eq_true rfl), (Nat.le_of_ble_eq_true rfl)⟩ (Nat.le_of_ble_eq_true rfl) rfl rfl (fun r21 M22 => ?_)
                refine s_aload_n hX dX10_chance_96 rfl ?_
                refine s_sipush (v := 1000) hX dX10_chance_97 ks_1000 ?_
                refine s_callVi (ck1 := 0) (sk1 := 0) (ci := 8) hX dX10_chance_100 k_X10_draw q_1829 (c_X10_draw n M22 a0 1000) (by decide) rfl rfl rfl ⟨Nat.le_of_ble_eq_true rfl, Nat.le_of_ble_eq_true rfl⟩ ⟨(Nat.le_of_ble_eq_true rfl), (Nat.le_of_ble_eq_true rfl)⟩ (Nat.le_of_ble_eq_true rfl) rfl rfl (fun r23 M24 => ?_)
                refine s_callVu (ck1 := 0) (sk1 := 0) (ci := 8) hX dX10_chance_103 k_X10_add q_1294 (c_X10_add n M24 a0 r21 r23) (by decide) rfl rfl rfl ⟨Nat.le_of_ble_eq_true rfl, Nat.le_of_ble_eq_true rfl⟩ ⟨(Nat.le_of_ble_eq_true rfl), (Nat.le_of_ble_eq_true rfl)⟩ (Nat.le_of_ble_eq_true rfl) rfl rfl (fun r25 M26 => ?_)
                refine s_aload_n hX dX10_chance_106 rfl ?_
                refine s_aload_n hX dX10_chance_107 rfl ?_
                refine s_iload_n hX dX10_chance_108 rfl ?_
                refine s_aload_n hX dX10_chance_109 rfl ?_
                refine s_iconst (v := 0) hX dX10_chance_110 kc_0 ?_
                refine s_callVi (ck1 := 0) (sk1 := 0) (ci := 8) hX dX10_chance_111 k_X10_of q_1286 (c_X10_of n M26 a0 0) (by decide) rfl rfl rfl ⟨Nat.le_of_ble_eq_true rfl, Nat.le_of_ble_eq_true rfl⟩ ⟨(Nat.le_of_ble_eq_true rfl), (Nat.le_of_ble_eq_true rfl)⟩ (Nat.le_of_ble_eq_true rfl) rfl rfl (fun r27 M28 => ?_)
                refine s_iconst (v := 1) hX dX10_chance_114 kc_1 ?_
                refine s_callVi (ck1 := 0) (sk1 := 0) (ci := 8) hX dX10_chance_115 k_X10_sumAt q_1290 (c_X10_sumAt n M28 a0 a3 r27 1) (by decide) rfl rfl rfl ⟨Nat.le_of_ble_eq_true rfl, Nat.le_of_ble_eq_true rfl⟩ ⟨(Nat.le_of_ble_eq_true rfl), (Nat.le_of_ble_eq_true rfl)⟩ (Nat.le_of_ble_eq_true rfl) rfl rfl (fun r29 M30 => ?_)
                refine s_aload_n hX dX10_chance_118 rfl ?_
                refine s_sipush (v := 1000) hX dX10_chance_119 ks_1000 ?_
                refine s_callVi (ck1 := 0) (sk1 := 0) (ci := 8) hX dX10_chance_122 k_X10_draw q_1829 (c_X10_draw n M30 a0 1000) (by decide) rfl rfl rfl ⟨Nat.le_of_ble_eq_true rfl, Nat.le_of_ble_eq_true rfl⟩ ⟨(Nat.le_of_ble_eq_true rfl), (Nat.le_of_ble_eq_true rfl)⟩ (Nat.le_of_ble_eq_true rfl) rfl rfl (fun r31 M32 => ?_)
                refine s_callVu (ck1 := 0) (sk1 := 0) (ci := 8) hX dX10_chance_125 k_X10_add q_1294 (c_X10_add n M32 a0 r29 r31) (by decide) rfl rfl rfl ⟨Nat.le_of_ble_eq_true rfl, Nat.le_of_ble_eq_true rfl⟩ ⟨(Nat.le_of_ble_eq_true rfl), (Nat.le_of_ble_eq_true rfl)⟩ (Nat.le_of_ble_eq_true rfl) rfl rfl (fun r33 M34 => ?_)
                refine s_aload_n hX dX10_chance_128 rfl ?_
                refine s_callVu (ck1 := 0) (sk1 := 0) (ci := 8) hX dX10_chance_129 k_X10_closesQuarter q_1574 (c_X10_closesQuarter n M34 a0) (by decide) rfl rfl rfl ⟨Nat.le_of_ble_eq_true rfl, Nat.le_of_ble_eq_true rfl⟩ ⟨(Nat.le_of_ble_eq_true rfl), (Nat.le_of_ble_eq_true rfl)⟩ (Nat.le_of_ble_eq_true rfl) rfl rfl (fun r35 M36 => ?_)
                refine s_iinc5 (v := v17 + 1) hX dX10_chance_132 rfl (by first | exact trivial | exact rfl) (Nat.le_of_ble_eq_true rfl) ?_
                refine s_goto (tgt := 78) hX dX10_chance_135 rfl ?_
                exact s_back hB18
            · obtain ⟨M37, v38⟩ := s
              dsimp only
              refine s_aload_n hX dX10_chance_138 rfl ?_
              refine s_iload_n hX dX10_chance_139 rfl ?_
              refine s_callVi (ck1 := 0) (sk1 := 0) (ci := 8) hX dX10_chance_140 k_X10_totalOf q_1825 (c_X10_totalOf n M37 a0 a3) (by decide) rfl rfl rfl ⟨Nat.le_of_ble_eq_true rfl, Nat.le_of_ble_eq_true rfl⟩ ⟨(Nat.le_of_ble_eq_true rfl), (Nat.le_of_ble_eq_true rfl)⟩ (Nat.le_of_ble_eq_true rfl) rfl rfl (fun r39 M40 => ?_)
              refine s_iload hX dX10_chance_143 rfl ?_
              refine s_isub hX dX10_chance_145 ?_
              refine s_istore5 hX dX10_chance_146 (by first | exact trivial | exact rfl) (Nat.le_of_ble_eq_true rfl) ?_
              refine s_aload_n hX dX10_chance_148 rfl ?_
              refine s_iconst (v := 0) hX dX10_chance_149 kc_0 ?_
              refine s_putI hX dX10_chance_150 q_1327 rfl rfl (fun M41 => ?_)
              refine s_iload hX dX10_chance_153 rfl ?_
              exact s_iret hX hR dX10_chance_155 (Nat.le_of_ble_eq_true rfl) (Nat.le_of_ble_eq_true rfl)
          · refine s_ifge (tgt := 59) hX dX10_chance_46 rfl ?_ ?_
            · refine s_iload_n hX dX10_chance_59 rfl ?_
              refine s_i2l hX dX10_chance_60 ?_
              exact hK8 _
            · refine s_aload_n hX dX10_chance_49 rfl ?_
              refine s_getO hX dX10_chance_50 q_1323 rfl (fun j42 => ?_)
              refine s_iconst (v := 3) hX dX10_chance_53 kc_3 ?_
              refine s_iald hX dX10_chance_54 (fun v43 => ?_)
              refine s_i2l hX dX10_chance_55 ?_
              refine s_goto (tgt := 61) hX dX10_chance_56 rfl ?_
              exact hK8 _
        · refine s_ldcw hX dX10_chance_40 q_1714 ?_
          exact s_iret hX hR dX10_chance_43 (Nat.le_of_ble_eq_true rfl) (Nat.le_of_ble_eq_true rfl)
