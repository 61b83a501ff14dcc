abbrev rm_X7_traderNamed : Room := { frames := 0, cells := 0, slots := 0, locals := 0 }
theorem k_X7_traderNamed : KYV yX7_traderNamed cX7_traderNamed 3 (some .int) 1 := ⟨⟨q_573, q_3, by decide +kernel, by decide +kernel, by decide +kernel⟩, q_571, q_572⟩
set_option maxHeartbeats 4000000 in
set_option maxRecDepth 100000 in
theorem c_X7_traderNamed (n : Nat) (M0 : MemT) (a0 : Nat) (a1 : Int32) : Ct iI yX7_traderNamed cX7_traderNamed 3 (some .int) rm_X7_traderNamed [.ref a0, .int a1] M0 (g_X7_traderNamed n M0 a0 a1) := by
  unfold g_X7_traderNamed
  refine ct_intro RX7 1 [some (.ref a0), some (.int a1), none] rfl (by decide +kernel) rfl (Nat.le_of_ble_eq_true rfl) (fun X A hX hnm hR => ?_)
  refine s_iconst (v := 0) hX dX7_traderNamed_0 kc_0 ?_
  refine s_istore2 hX dX7_traderNamed_1 (by first | exact trivial | exact rfl) (Nat.le_of_ble_eq_true rfl) ?_
  refine s_loop (stk := []) (fun (s : MemT × Int32) => [some (.ref a0), some (.int a1), some (.int s.2)]) (fun (s : MemT × Int32) => s.1) (fun s B3 hB3 hI3 => ?_) n (M0, 0)
  obtain ⟨M1, v2⟩ := s
  dsimp only
  refine s_iload_n hX dX7_traderNamed_2 rfl ?_
  refine s_aload_n hX dX7_traderNamed_3 rfl ?_
  refine s_getI hX dX7_traderNamed_4 q_101 rfl (fun v4 => ?_)
  refine s_icge (tgt := 28) hX dX7_traderNamed_7 rfl ?_ ?_
  · refine s_iconst (v := (-1)) hX dX7_traderNamed_28 kc_m1 ?_
    exact s_inr hI3 (s_iret hX hR dX7_traderNamed_29 (Nat.le_of_ble_eq_true rfl) (Nat.le_of_ble_eq_true rfl))
  · refine s_aload_n hX dX7_traderNamed_10 rfl ?_
    refine s_getO hX dX7_traderNamed_11 q_105 rfl (fun j5 => ?_)
    refine s_iload_n hX dX7_traderNamed_14 rfl ?_
    refine s_iald hX dX7_traderNamed_15 (fun v6 => ?_)
    refine s_iload_n hX dX7_traderNamed_16 rfl ?_
    refine s_icne (tgt := 22) hX dX7_traderNamed_17 rfl ?_ ?_
    · refine s_iload_n hX dX7_traderNamed_20 rfl ?_
      exact s_inr hI3 (s_iret hX hR dX7_traderNamed_21 (Nat.le_of_ble_eq_true rfl) (Nat.le_of_ble_eq_true rfl))
    · refine s_iinc2 (v := v2 + 1) hX dX7_traderNamed_22 rfl (by first | exact trivial | exact rfl) (Nat.le_of_ble_eq_true rfl) ?_
      refine s_goto (tgt := 2) hX dX7_traderNamed_25 rfl ?_
      exact s_back hB3
abbrev rm_X5_takeTrader : Room := { frames := 6, cells := 0, slots := 0, locals := 133 }
theorem k_X5_takeTrader : KYV yX5_takeTrader cX5_takeTrader 1 (some .boolean) 0 := ⟨⟨q_596, q_2, by decide +kernel, by decide +kernel, by decide +kernel⟩, q_595, p_11⟩
set_option maxHeartbeats 4000000 in
set_option maxRecDepth 100000 in
theorem c_X5_takeTrader (n : Nat) (M0 : MemT) (a0 : Nat) : Ct iI yX5_takeTrader cX5_takeTrader 1 (some .boolean) rm_X5_takeTrader [.ref a0] M0 (g_X5_takeTrader n M0 a0) := by
  unfold g_X5_takeTrader
  refine ct_intro RX5 0 [some (.ref a0)] rfl (by decide +kernel) rfl (Nat.le_of_ble_eq_true rfl) (fun X A hX hnm hR => ?_)
  refine s_aload_n hX dX5_takeTrader_0 rfl ?_
  refine s_callVi (ck1 := 0) (sk1 := 0) (ci := 4) hX dX5_takeTrader_1 k_X5_takeName q_566 (c_X5_takeName n M0 a0) (by decide) rfl rfl rfl ⟨Nat.le_of_ble_eq_true rfl, Nat.le_of_ble_eq_true rfl⟩ ⟨(Nat.le_of_ble_eq_true rfl), (Nat.le_of_ble_eq_true rfl)⟩ (Nat.le_of_ble_eq_true rfl) rfl rfl (fun r1 M2 => ?_)
  refine s_ifne (tgt := 9) hX dX5_takeTrader_4 rfl ?_ ?_
  · refine s_iconst (v := 0) hX dX5_takeTrader_7 kc_0 ?_
    exact s_zret hX hR dX5_takeTrader_8 (Nat.le_of_ble_eq_true rfl) (Nat.le_of_ble_eq_true rfl)
  · refine s_aload_n hX dX5_takeTrader_9 rfl ?_
    refine s_aload_n hX dX5_takeTrader_10 rfl ?_
    refine s_getO hX dX5_takeTrader_11 q_45 rfl (fun j3 => ?_)
    refine s_aload_n hX dX5_takeTrader_14 rfl ?_
    refine s_getI hX dX5_takeTrader_15 q_49 rfl (fun v4 => ?_)
    refine s_callVi (ck1 := 0) (sk1 := 0) (ci := 6) hX dX5_takeTrader_18 k_X7_traderNamed q_570 (c_X7_traderNamed n M2 j3 v4) (by decide) rfl rfl rfl ⟨Nat.le_of_ble_eq_true rfl, Nat.le_of_ble_eq_true rfl⟩ ⟨(Nat.le_of_ble_eq_true rfl), (Nat.le_of_ble_eq_true rfl)⟩ (Nat.le_of_ble_eq_true rfl) rfl rfl (fun r5 M6 => ?_)
    refine s_putI hX dX5_takeTrader_21 q_50 rfl rfl (fun M7 => ?_)
    refine s_aload_n hX dX5_takeTrader_24 rfl ?_
    refine s_getI hX dX5_takeTrader_25 q_50 rfl (fun v8 => ?_)
    refine s_iconst (v := (-1)) hX dX5_takeTrader_28 kc_m1 ?_
    refine s_icne (tgt := 44) hX dX5_takeTrader_29 rfl ?_ ?_
    · refine s_aload_n hX dX5_takeTrader_32 rfl ?_
      refine s_iconst (v := 4) hX dX5_takeTrader_33 kc_4 ?_
      refine s_aload_n hX dX5_takeTrader_34 rfl ?_
      refine s_getI hX dX5_takeTrader_35 q_47 rfl (fun v9 => ?_)
      refine s_callVi (ck1 := 0) (sk1 := 0) (ci := 4) hX dX5_takeTrader_38 k_X5_fail q_546 (c_X5_fail n M7 a0 4 v9) (by decide) rfl rfl rfl ⟨Nat.le_of_ble_eq_true rfl, Nat.le_of_ble_eq_true rfl⟩ ⟨(Nat.le_of_ble_eq_true rfl), (Nat.le_of_ble_eq_true rfl)⟩ (Nat.le_of_ble_eq_true rfl) rfl rfl (fun r10 M11 => ?_)
      refine s_ifeq (tgt := 48) hX dX5_takeTrader_41 rfl ?_ ?_
      · refine s_iconst (v := 0) hX dX5_takeTrader_48 kc_0 ?_
        exact s_zret hX hR dX5_takeTrader_49 (Nat.le_of_ble_eq_true rfl) (Nat.le_of_ble_eq_true rfl)
      · refine s_iconst (v := 1) hX dX5_takeTrader_44 kc_1 ?_
        refine s_goto (tgt := 49) hX dX5_takeTrader_45 rfl ?_
        exact s_zret hX hR dX5_takeTrader_49 (Nat.le_of_ble_eq_true rfl) (Nat.le_of_ble_eq_true rfl)
    · refine s_iconst (v := 1) hX dX5_takeTrader_44 kc_1 ?_
      refine s_goto (tgt := 49) hX dX5_takeTrader_45 rfl ?_
      exact s_zret hX hR dX5_takeTrader_49 (Nat.le_of_ble_eq_true rfl) (Nat.le_of_ble_eq_true rfl)
abbrev rm_X5_readHead : Room := { frames := 7, cells := 0, slots := 0, locals := 153 }
theorem k_X5_readHead : KYV yX5_readHead cX5_readHead 2 (some .boolean) 0 := ⟨⟨q_592, q_2, by decide +kernel, by decide +kernel, by decide +kernel⟩, q_591, p_10⟩
set_option maxHeartbeats 4000000 in
set_option maxRecDepth 100000 in
theorem c_X5_readHead (n : Nat) (M0 : MemT) (a0 : Nat) : Ct iI yX5_readHead cX5_readHead 2 (some .boolean) rm_X5_readHead [.ref a0] M0 (g_X5_readHead n M0 a0) := by
  unfold g_X5_readHead
  refine ct_intro RX5 1 [some (.ref a0), none] rfl (by decide +kernel) rfl (Nat.le_of_ble_eq_true rfl) (fun X A hX hnm hR => ?_)
  refine s_aload_n hX dX5_readHead_0 rfl ?_
  refine s_callVi (ck1 := 0) (sk1 := 0) (ci := 4) hX dX5_readHead_1 k_X5_takeTrader q_593 (c_X5_takeTrader n M0 a0) (by decide) rfl rfl rfl ⟨Nat.le_of_ble_eq_true rfl, Nat.le_of_ble_eq_true rfl⟩ ⟨(Nat.le_of_ble_eq_true rfl), (Nat.le_of_ble_eq_true rfl)⟩ (Nat.le_of_ble_eq_true rfl) rfl rfl (fun r1 M2 => ?_)
  refine s_ifeq (tgt := 42) hX dX5_readHead_4 rfl ?_ ?_
  · refine s_iconst (v := 0) hX dX5_readHead_42 kc_0 ?_
    exact s_zret hX hR dX5_readHead_43 (Nat.le_of_ble_eq_true rfl) (Nat.le_of_ble_eq_true rfl)
  · refine s_aload_n hX dX5_readHead_7 rfl ?_
    refine s_aload_n hX dX5_readHead_8 rfl ?_
    refine s_getO hX dX5_readHead_9 q_53 rfl (fun j3 => ?_)
    refine s_aload_n hX dX5_readHead_12 rfl ?_
    refine s_getI hX dX5_readHead_13 q_50 rfl (fun v4 => ?_)
    refine s_zald hX dX5_readHead_16 (fun v5 => ?_)
    refine s_jp (fun (s : MemT × Int32) => [some (.ref a0), none]) (fun (s : MemT × Int32) => [.int s.2, .ref a0]) (fun (s : MemT × Int32) => s.1) 0 0 25 (fun s => ?_) (fun K6 hK6 => ?_)
    · obtain ⟨M7, v8⟩ := s
      dsimp only
      refine s_callVi (ck1 := 0) (sk1 := 0) (ci := 4) hX dX5_readHead_25 k_X5_isNew q_574 (c_X5_isNew n M7 a0 v8) (by decide) rfl rfl rfl ⟨Nat.le_of_ble_eq_true rfl, Nat.le_of_ble_eq_true rfl⟩ ⟨(Nat.le_of_ble_eq_true rfl), (Nat.le_of_ble_eq_true rfl)⟩ (Nat.le_of_ble_eq_true rfl) rfl rfl (fun r9 M10 => ?_)
      refine s_ifeq (tgt := 42) hX dX5_readHead_28 rfl ?_ ?_
      · refine s_iconst (v := 0) hX dX5_readHead_42 kc_0 ?_
        exact s_zret hX hR dX5_readHead_43 (Nat.le_of_ble_eq_true rfl) (Nat.le_of_ble_eq_true rfl)
      · refine s_aload_n hX dX5_readHead_31 rfl ?_
        refine s_iconst (v := 0) hX dX5_readHead_32 kc_0 ?_
        refine s_sipush (v := 999) hX dX5_readHead_33 ks_999 ?_
        refine s_callVi (ck1 := 0) (sk1 := 0) (ci := 4) hX dX5_readHead_36 k_X5_takeNumber q_578 (c_X5_takeNumber n M10 a0 0 999) (by decide) rfl rfl rfl ⟨Nat.le_of_ble_eq_true rfl, Nat.le_of_ble_eq_true rfl⟩ ⟨(Nat.le_of_ble_eq_true rfl), (Nat.le_of_ble_eq_true rfl)⟩ (Nat.le_of_ble_eq_true rfl) rfl rfl (fun r11 M12 => ?_)
        refine s_ifne (tgt := 44) hX dX5_readHead_39 rfl ?_ ?_
        · refine s_iconst (v := 0) hX dX5_readHead_42 kc_0 ?_
          exact s_zret hX hR dX5_readHead_43 (Nat.le_of_ble_eq_true rfl) (Nat.le_of_ble_eq_true rfl)
        · refine s_aload_n hX dX5_readHead_44 rfl ?_
          refine s_getI hX dX5_readHead_45 q_49 rfl (fun v13 => ?_)
          refine s_istore1 hX dX5_readHead_48 (by first | exact trivial | exact rfl) (Nat.le_of_ble_eq_true rfl) ?_
          refine s_aload_n hX dX5_readHead_49 rfl ?_
          refine s_iload_n hX dX5_readHead_50 rfl ?_
          refine s_sipush (v := 999) hX dX5_readHead_51 ks_999 ?_
          refine s_callVi (ck1 := 0) (sk1 := 0) (ci := 4) hX dX5_readHead_54 k_X5_takeNumber q_578 (c_X5_takeNumber n M12 a0 v13 999) (by decide) rfl rfl rfl ⟨Nat.le_of_ble_eq_true rfl, Nat.le_of_ble_eq_true rfl⟩ ⟨(Nat.le_of_ble_eq_true rfl), (Nat.le_of_ble_eq_true rfl)⟩ (Nat.le_of_ble_eq_true rfl) rfl rfl (fun r14 M15 => ?_)
          refine s_ifne (tgt := 62) hX dX5_readHead_57 rfl ?_ ?_
          · refine s_iconst (v := 0) hX dX5_readHead_60 kc_0 ?_
            exact s_zret hX hR dX5_readHead_61 (Nat.le_of_ble_eq_true rfl) (Nat.le_of_ble_eq_true rfl)
          · refine s_aload_n hX dX5_readHead_62 rfl ?_
            refine s_getO hX dX5_readHead_63 q_45 rfl (fun j16 => ?_)
            refine s_getO hX dX5_readHead_66 q_118 rfl (fun j17 => ?_)
            refine s_aload_n hX dX5_readHead_69 rfl ?_
            refine s_getI hX dX5_readHead_70 q_50 rfl (fun v18 => ?_)
            refine s_iload_n hX dX5_readHead_73 rfl ?_
            refine s_iast hX dX5_readHead_74 (fun M19 => ?_)
            refine s_aload_n hX dX5_readHead_75 rfl ?_
            refine s_getO hX dX5_readHead_76 q_45 rfl (fun j20 => ?_)
            refine s_getO hX dX5_readHead_79 q_121 rfl (fun j21 => ?_)
            refine s_aload_n hX dX5_readHead_82 rfl ?_
            refine s_getI hX dX5_readHead_83 q_50 rfl (fun v22 => ?_)
            refine s_aload_n hX dX5_readHead_86 rfl ?_
            refine s_getI hX dX5_readHead_87 q_49 rfl (fun v23 => ?_)
            refine s_iast hX dX5_readHead_90 (fun M24 => ?_)
            refine s_aload_n hX dX5_readHead_91 rfl ?_
            refine s_getO hX dX5_readHead_92 q_53 rfl (fun j25 => ?_)
            refine s_aload_n hX dX5_readHead_95 rfl ?_
            refine s_getI hX dX5_readHead_96 q_50 rfl (fun v26 => ?_)
            refine s_iconst (v := 1) hX dX5_readHead_99 kc_1 ?_
            refine s_zast hX dX5_readHead_100 (fun M27 => ?_)
            refine s_iconst (v := 1) hX dX5_readHead_101 kc_1 ?_
            exact s_zret hX hR dX5_readHead_102 (Nat.le_of_ble_eq_true rfl) (Nat.le_of_ble_eq_true rfl)
    · refine s_ifne (tgt := 24) hX dX5_readHead_17 rfl ?_ ?_
      · refine s_iconst (v := 1) hX dX5_readHead_20 kc_1 ?_
        refine s_goto (tgt := 25) hX dX5_readHead_21 rfl ?_
        exact hK6 _
      · refine s_iconst (v := 0) hX dX5_readHead_24 kc_0 ?_
        exact hK6 _
abbrev rm_X5_readLimit : Room := { frames := 3, cells := 0, slots := 0, locals := 64 }
theorem k_X5_readLimit : KYV yX5_readLimit cX5_readLimit 1 (some .boolean) 0 := ⟨⟨q_618, q_2, by decide +kernel, by decide +kernel, by decide +kernel⟩, q_617, p_15⟩
set_option maxHeartbeats 4000000 in
set_option maxRecDepth 100000 in
theorem c_X5_readLimit (n : Nat) (M0 : MemT) (a0 : Nat) : Ct iI yX5_readLimit cX5_readLimit 1 (some .boolean) rm_X5_readLimit [.ref a0] M0 (g_X5_readLimit n M0 a0) := by
  unfold g_X5_readLimit
  refine ct_intro RX5 0 [some (.ref a0)] rfl (by decide +kernel) rfl (Nat.le_of_ble_eq_true rfl) (fun X A hX hnm hR => ?_)
  refine s_aload_n hX dX5_readLimit_0 rfl ?_
  refine s_aload_n hX dX5_readLimit_1 rfl ?_
  refine s_getI hX dX5_readLimit_2 q_56 rfl (fun v1 => ?_)
  refine s_jp (fun (s : MemT × Int32) => [some (.ref a0)]) (fun (s : MemT × Int32) => [.int s.2, .ref a0]) (fun (s : MemT × Int32) => s.1) 0 0 13 (fun s => ?_) (fun K2 hK2 => ?_)
  · obtain ⟨M3, v4⟩ := s
    dsimp only
    refine s_callVi (ck1 := 0) (sk1 := 0) (ci := 4) hX dX5_readLimit_13 k_X5_isNew q_574 (c_X5_isNew n M3 a0 v4) (by decide) rfl rfl rfl ⟨Nat.le_of_ble_eq_true rfl, Nat.le_of_ble_eq_true rfl⟩ ⟨(Nat.le_of_ble_eq_true rfl), (Nat.le_of_ble_eq_true rfl)⟩ (Nat.le_of_ble_eq_true rfl) rfl rfl (fun r5 M6 => ?_)
    refine s_ifeq (tgt := 30) hX dX5_readLimit_16 rfl ?_ ?_
    · refine s_iconst (v := 0) hX dX5_readLimit_30 kc_0 ?_
      exact s_zret hX hR dX5_readLimit_31 (Nat.le_of_ble_eq_true rfl) (Nat.le_of_ble_eq_true rfl)
    · refine s_aload_n hX dX5_readLimit_19 rfl ?_
      refine s_iconst (v := 0) hX dX5_readLimit_20 kc_0 ?_
      refine s_sipush (v := 9999) hX dX5_readLimit_21 ks_9999 ?_
      refine s_callVi (ck1 := 0) (sk1 := 0) (ci := 4) hX dX5_readLimit_24 k_X5_takeNumber q_578 (c_X5_takeNumber n M6 a0 0 9999) (by decide) rfl rfl rfl ⟨Nat.le_of_ble_eq_true rfl, Nat.le_of_ble_eq_true rfl⟩ ⟨(Nat.le_of_ble_eq_true rfl), (Nat.le_of_ble_eq_true rfl)⟩ (Nat.le_of_ble_eq_true rfl) rfl rfl (fun r7 M8 => ?_)
      refine s_ifne (tgt := 32) hX dX5_readLimit_27 rfl ?_ ?_
      · refine s_iconst (v := 0) hX dX5_readLimit_30 kc_0 ?_
        exact s_zret hX hR dX5_readLimit_31 (Nat.le_of_ble_eq_true rfl) (Nat.le_of_ble_eq_true rfl)
      · refine s_aload_n hX dX5_readLimit_32 rfl ?_
        refine s_getO hX dX5_readLimit_33 q_45 rfl (fun j9 => ?_)
        refine s_aload_n hX dX5_readLimit_36 rfl ?_
        refine s_getI hX dX5_readLimit_37 q_49 rfl (fun v10 => ?_)
        refine s_putI hX dX5_readLimit_40 q_132 rfl rfl (fun M11 => ?_)
        refine s_aload_n hX dX5_readLimit_43 rfl ?_
        refine s_iconst (v := 1) hX dX5_readLimit_44 kc_1 ?_
        refine s_putZ hX dX5_readLimit_45 q_56 rfl rfl (fun M12 => ?_)
        refine s_iconst (v := 1) hX dX5_readLimit_48 kc_1 ?_
        exact s_zret hX hR dX5_readLimit_49 (Nat.le_of_ble_eq_true rfl) (Nat.le_of_ble_eq_true rfl)
  · refine s_ifne (tgt := 12) hX dX5_readLimit_5 rfl ?_ ?_
    · refine s_iconst (v := 1) hX dX5_readLimit_8 kc_1 ?_
      refine s_goto (tgt := 13) hX dX5_readLimit_9 rfl ?_
      exact hK2 _
    · refine s_iconst (v := 0) hX dX5_readLimit_12 kc_0 ?_
      exact hK2 _
abbrev rm_X5_readRound : Room := { frames := 5, cells := 0, slots := 0, locals := 113 }
theorem k_X5_readRound : KYV yX5_readRound cX5_readRound 2 (some .boolean) 0 := ⟨⟨q_604, q_2, by decide +kernel, by decide +kernel, by decide +kernel⟩, q_603, p_13⟩
set_option maxHeartbeats 4000000 in
set_option maxRecDepth 100000 in
theorem c_X5_readRound (n : Nat) (M0 : MemT) (a0 : Nat) : Ct iI yX5_readRound cX5_readRound 2 (some .boolean) rm_X5_readRound [.ref a0] M0 (g_X5_readRound n M0 a0) := by
  unfold g_X5_readRound
  refine ct_intro RX5 1 [some (.ref a0), none] rfl (by decide +kernel) rfl (Nat.le_of_ble_eq_true rfl) (fun X A hX hnm hR => ?_)
  refine s_aload_n hX dX5_readRound_0 rfl ?_
  refine s_aload_n hX dX5_readRound_1 rfl ?_
  refine s_getI hX dX5_readRound_2 q_54 rfl (fun v1 => ?_)
  refine s_jp (fun (s : MemT × Int32) => [some (.ref a0), none]) (fun (s : MemT × Int32) => [.int s.2, .ref a0]) (fun (s : MemT × Int32) => s.1) 0 0 13 (fun s => ?_) (fun K2 hK2 => ?_)
  · obtain ⟨M3, v4⟩ := s
    dsimp only
    refine s_callVi (ck1 := 0) (sk1 := 0) (ci := 4) hX dX5_readRound_13 k_X5_isNew q_574 (c_X5_isNew n M3 a0 v4) (by decide) rfl rfl rfl ⟨Nat.le_of_ble_eq_true rfl, Nat.le_of_ble_eq_true rfl⟩ ⟨(Nat.le_of_ble_eq_true rfl), (Nat.le_of_ble_eq_true rfl)⟩ (Nat.le_of_ble_eq_true rfl) rfl rfl (fun r5 M6 => ?_)
    refine s_ifne (tgt := 21) hX dX5_readRound_16 rfl ?_ ?_
    · refine s_iconst (v := 0) hX dX5_readRound_19 kc_0 ?_
      exact s_zret hX hR dX5_readRound_20 (Nat.le_of_ble_eq_true rfl) (Nat.le_of_ble_eq_true rfl)
    · refine s_aload_n hX dX5_readRound_21 rfl ?_
      refine s_callVu (ck1 := 0) (sk1 := 0) (ci := 4) hX dX5_readRound_22 k_X5_takeToken q_475 (c_X5_takeToken n M6 a0) (by decide) rfl rfl rfl ⟨Nat.le_of_ble_eq_true rfl, Nat.le_of_ble_eq_true rfl⟩ ⟨(Nat.le_of_ble_eq_true rfl), (Nat.le_of_ble_eq_true rfl)⟩ (Nat.le_of_ble_eq_true rfl) rfl rfl (fun r7 M8 => ?_)
      refine s_aload_n hX dX5_readRound_25 rfl ?_
      refine s_getI hX dX5_readRound_26 q_46 rfl (fun v9 => ?_)
      refine s_iconst (v := 1) hX dX5_readRound_29 kc_1 ?_
      refine s_jp (fun (s : MemT × Option Nat) => [some (.ref a0), none]) (fun (s : MemT × Option Nat) => [kv s.2]) (fun (s : MemT × Option Nat) => s.1) 0 0 52 (fun s => ?_) (fun K10 hK10 => ?_)
      · obtain ⟨M11, v12⟩ := s
        dsimp only
        refine s_kstK_n (r := v12) hX dX5_readRound_52 rfl (Nat.le_of_ble_eq_true rfl) (by first | exact trivial | exact rfl) ?_
        show Sim _ _ _ _ _ _ _ [some (.ref a0), some (kv v12)] _ _
        refine s_kloadK_n (r := v12) hX dX5_readRound_53 rfl ?_
        refine s_gsK (k := 10) hX dX5_readRound_54 (hX.2.2.2.2.2.2.2.1.1 10 (by decide)).1 (by decide) q_605 ?_
        refine s_acneK (tgt := 71) hX (by decide) dX5_readRound_57 rfl ?_ ?_
        · refine s_aload_n hX dX5_readRound_60 rfl ?_
          refine s_getO hX dX5_readRound_61 q_45 rfl (fun j13 => ?_)
          refine s_iconst (v := 0) hX dX5_readRound_64 kc_0 ?_
          refine s_putI hX dX5_readRound_65 q_124 rfl rfl (fun M14 => ?_)
          refine s_goto (tgt := 117) hX dX5_readRound_68 rfl ?_
          refine s_aload_n hX dX5_readRound_117 rfl ?_
          refine s_iconst (v := 1) hX dX5_readRound_118 kc_1 ?_
          refine s_putZ hX dX5_readRound_119 q_54 rfl rfl (fun M15 => ?_)
          refine s_iconst (v := 1) hX dX5_readRound_122 kc_1 ?_
          exact s_zret hX hR dX5_readRound_123 (Nat.le_of_ble_eq_true rfl) (Nat.le_of_ble_eq_true rfl)
        · refine s_kloadK_n (r := v12) hX dX5_readRound_71 rfl ?_
          refine s_gsK (k := 11) hX dX5_readRound_72 (hX.2.2.2.2.2.2.2.1.1 11 (by decide)).1 (by decide) q_607 ?_
          refine s_acneK (tgt := 89) hX (by decide) dX5_readRound_75 rfl ?_ ?_
          · refine s_aload_n hX dX5_readRound_78 rfl ?_
            refine s_getO hX dX5_readRound_79 q_45 rfl (fun j16 => ?_)
            refine s_iconst (v := 1) hX dX5_readRound_82 kc_1 ?_
            refine s_putI hX dX5_readRound_83 q_124 rfl rfl (fun M17 => ?_)
            refine s_goto (tgt := 117) hX dX5_readRound_86 rfl ?_
            refine s_aload_n hX dX5_readRound_117 rfl ?_
            refine s_iconst (v := 1) hX dX5_readRound_118 kc_1 ?_
            refine s_putZ hX dX5_readRound_119 q_54 rfl rfl (fun M18 => ?_)
            refine s_iconst (v := 1) hX dX5_readRound_122 kc_1 ?_
            exact s_zret hX hR dX5_readRound_123 (Nat.le_of_ble_eq_true rfl) (Nat.le_of_ble_eq_true rfl)
          · refine s_kloadK_n (r := v12) hX dX5_readRound_89 rfl ?_
            refine s_gsK (k := 12) hX dX5_readRound_90 (hX.2.2.2.2.2.2.2.1.1 12 (by decide)).1 (by decide) q_609 ?_
            refine s_acneK (tgt := 107) hX (by decide) dX5_readRound_93 rfl ?_ ?_
            · refine s_aload_n hX dX5_readRound_96 rfl ?_
              refine s_getO hX dX5_readRound_97 q_45 rfl (fun j19 => ?_)
              refine s_iconst (v := 2) hX dX5_readRound_100 kc_2 ?_
              refine s_putI hX dX5_readRound_101 q_124 rfl rfl (fun M20 => ?_)
              refine s_goto (tgt := 117) hX dX5_readRound_104 rfl ?_
              refine s_aload_n hX dX5_readRound_117 rfl ?_
              refine s_iconst (v := 1) hX dX5_readRound_118 kc_1 ?_
              refine s_putZ hX dX5_readRound_119 q_54 rfl rfl (fun M21 => ?_)
              refine s_iconst (v := 1) hX dX5_readRound_122 kc_1 ?_
              exact s_zret hX hR dX5_readRound_123 (Nat.le_of_ble_eq_true rfl) (Nat.le_of_ble_eq_true rfl)
            · refine s_aload_n hX dX5_readRound_107 rfl ?_
              refine s_iconst (v := 1) hX dX5_readRound_108 kc_1 ?_
              refine s_aload_n hX dX5_readRound_109 rfl ?_
              refine s_getI hX dX5_readRound_110 q_47 rfl (fun v22 => ?_)
              refine s_callVi (ck1 := 0) (sk1 := 0) (ci := 4) hX dX5_readRound_113 k_X5_fail q_546 (c_X5_fail n M11 a0 1 v22) (by decide) rfl rfl rfl ⟨Nat.le_of_ble_eq_true rfl, Nat.le_of_ble_eq_true rfl⟩ ⟨(Nat.le_of_ble_eq_true rfl), (Nat.le_of_ble_eq_true rfl)⟩ (Nat.le_of_ble_eq_true rfl) rfl rfl (fun r23 M24 => ?_)
              exact s_zret hX hR dX5_readRound_116 (Nat.le_of_ble_eq_true rfl) (Nat.le_of_ble_eq_true rfl)
      · refine s_icne (tgt := 51) hX dX5_readRound_30 rfl ?_ ?_
        · refine s_aload_n hX dX5_readRound_33 rfl ?_
          refine s_getO hX dX5_readRound_34 q_43 rfl (fun j25 => ?_)
          refine s_aload_n hX dX5_readRound_37 rfl ?_
          refine s_getI hX dX5_readRound_38 q_47 rfl (fun v26 => ?_)
          refine s_aload_n hX dX5_readRound_41 rfl ?_
          refine s_getI hX dX5_readRound_42 q_48 rfl (fun v27 => ?_)
          refine s_callSk (ck1 := 0) (sk1 := 0) hX dX5_readRound_45 k_X8_at q_493 (c_X8_at n M8 j25 v26 v27) rfl rfl ⟨Nat.le_of_ble_eq_true rfl, Nat.le_of_ble_eq_true rfl⟩ ⟨(Nat.le_of_ble_eq_true rfl), (Nat.le_of_ble_eq_true rfl)⟩ (Nat.le_of_ble_eq_true rfl) rfl rfl (fun r28 M29 => ?_)
          refine s_goto (tgt := 52) hX dX5_readRound_48 rfl ?_
          exact hK10 _
        · refine s_null hX dX5_readRound_51 ?_
          exact hK10 _
  · refine s_ifne (tgt := 12) hX dX5_readRound_5 rfl ?_ ?_
    · refine s_iconst (v := 1) hX dX5_readRound_8 kc_1 ?_
      refine s_goto (tgt := 13) hX dX5_readRound_9 rfl ?_
      exact hK2 _
    · refine s_iconst (v := 0) hX dX5_readRound_12 kc_0 ?_
      exact hK2 _
abbrev rm_X5_readSeed : Room := { frames := 3, cells := 0, slots := 0, locals := 64 }
theorem k_X5_readSeed : KYV yX5_readSeed cX5_readSeed 1 (some .boolean) 0 := ⟨⟨q_622, q_2, by decide +kernel, by decide +kernel, by decide +kernel⟩, q_621, p_16⟩
set_option maxHeartbeats 4000000 in
set_option maxRecDepth 100000 in
theorem c_X5_readSeed (n : Nat) (M0 : MemT) (a0 : Nat) : Ct iI yX5_readSeed cX5_readSeed 1 (some .boolean) rm_X5_readSeed [.ref a0] M0 (g_X5_readSeed n M0 a0) := by
  unfold g_X5_readSeed
  refine ct_intro RX5 0 [some (.ref a0)] rfl (by decide +kernel) rfl (Nat.le_of_ble_eq_true rfl) (fun X A hX hnm hR => ?_)
  refine s_aload_n hX dX5_readSeed_0 rfl ?_
  refine s_aload_n hX dX5_readSeed_1 rfl ?_
  refine s_getI hX dX5_readSeed_2 q_57 rfl (fun v1 => ?_)
  refine s_jp (fun (s : MemT × Int32) => [some (.ref a0)]) (fun (s : MemT × Int32) => [.int s.2, .ref a0]) (fun (s : MemT × Int32) => s.1) 0 0 13 (fun s => ?_) (fun K2 hK2 => ?_)
  · obtain ⟨M3, v4⟩ := s
    dsimp only
    refine s_callVi (ck1 := 0) (sk1 := 0) (ci := 4) hX dX5_readSeed_13 k_X5_isNew q_574 (c_X5_isNew n M3 a0 v4) (by decide) rfl rfl rfl ⟨Nat.le_of_ble_eq_true rfl, Nat.le_of_ble_eq_true rfl⟩ ⟨(Nat.le_of_ble_eq_true rfl), (Nat.le_of_ble_eq_true rfl)⟩ (Nat.le_of_ble_eq_true rfl) rfl rfl (fun r5 M6 => ?_)
    refine s_ifeq (tgt := 29) hX dX5_readSeed_16 rfl ?_ ?_
    · refine s_iconst (v := 0) hX dX5_readSeed_29 kc_0 ?_
      exact s_zret hX hR dX5_readSeed_30 (Nat.le_of_ble_eq_true rfl) (Nat.le_of_ble_eq_true rfl)
    · refine s_aload_n hX dX5_readSeed_19 rfl ?_
      refine s_iconst (v := 0) hX dX5_readSeed_20 kc_0 ?_
      refine s_ldc hX dX5_readSeed_21 q_623 ?_
      refine s_callVi (ck1 := 0) (sk1 := 0) (ci := 4) hX dX5_readSeed_23 k_X5_takeNumber q_578 (c_X5_takeNumber n M6 a0 0 99999) (by decide) rfl rfl rfl ⟨Nat.le_of_ble_eq_true rfl, Nat.le_of_ble_eq_true rfl⟩ ⟨(Nat.le_of_ble_eq_true rfl), (Nat.le_of_ble_eq_true rfl)⟩ (Nat.le_of_ble_eq_true rfl) rfl rfl (fun r7 M8 => ?_)
      refine s_ifne (tgt := 31) hX dX5_readSeed_26 rfl ?_ ?_
      · refine s_iconst (v := 0) hX dX5_readSeed_29 kc_0 ?_
        exact s_zret hX hR dX5_readSeed_30 (Nat.le_of_ble_eq_true rfl) (Nat.le_of_ble_eq_true rfl)
      · refine s_aload_n hX dX5_readSeed_31 rfl ?_
        refine s_getO hX dX5_readSeed_32 q_45 rfl (fun j9 => ?_)
        refine s_aload_n hX dX5_readSeed_35 rfl ?_
        refine s_getI hX dX5_readSeed_36 q_49 rfl (fun v10 => ?_)
        refine s_putI hX dX5_readSeed_39 q_135 rfl rfl (fun M11 => ?_)
        refine s_aload_n hX dX5_readSeed_42 rfl ?_
        refine s_iconst (v := 1) hX dX5_readSeed_43 kc_1 ?_
        refine s_putZ hX dX5_readSeed_44 q_57 rfl rfl (fun M12 => ?_)
        refine s_iconst (v := 1) hX dX5_readSeed_47 kc_1 ?_
        exact s_zret hX hR dX5_readSeed_48 (Nat.le_of_ble_eq_true rfl) (Nat.le_of_ble_eq_true rfl)
  · refine s_ifne (tgt := 12) hX dX5_readSeed_5 rfl ?_ ?_
    · refine s_iconst (v := 1) hX dX5_readSeed_8 kc_1 ?_
      refine s_goto (tgt := 13) hX dX5_readSeed_9 rfl ?_
      exact hK2 _
    · refine s_iconst (v := 0) hX dX5_readSeed_12 kc_0 ?_
      exact hK2 _
abbrev rm_X5_readStart : Room := { frames := 7, cells := 0, slots := 0, locals := 153 }
theorem k_X5_readStart : KYV yX5_readStart cX5_readStart 1 (some .boolean) 0 := ⟨⟨q_600, q_2, by decide +kernel, by decide +kernel, by decide +kernel⟩, q_599, p_12⟩
set_option maxHeartbeats 4000000 in
set_option maxRecDepth 100000 in
theorem c_X5_readStart (n : Nat) (M0 : MemT) (a0 : Nat) : Ct iI yX5_readStart cX5_readStart 1 (some .boolean) rm_X5_readStart [.ref a0] M0 (g_X5_readStart n M0 a0) := by
  unfold g_X5_readStart
  refine ct_intro RX5 0 [some (.ref a0)] rfl (by decide +kernel) rfl (Nat.le_of_ble_eq_true rfl) (fun X A hX hnm hR => ?_)
  refine s_aload_n hX dX5_readStart_0 rfl ?_
  refine s_callVi (ck1 := 0) (sk1 := 0) (ci := 4) hX dX5_readStart_1 k_X5_takeTrader q_593 (c_X5_takeTrader n M0 a0) (by decide) rfl rfl rfl ⟨Nat.le_of_ble_eq_true rfl, Nat.le_of_ble_eq_true rfl⟩ ⟨(Nat.le_of_ble_eq_true rfl), (Nat.le_of_ble_eq_true rfl)⟩ (Nat.le_of_ble_eq_true rfl) rfl rfl (fun r1 M2 => ?_)
  refine s_ifeq (tgt := 47) hX dX5_readStart_4 rfl ?_ ?_
  · refine s_iconst (v := 0) hX dX5_readStart_47 kc_0 ?_
    exact s_zret hX hR dX5_readStart_48 (Nat.le_of_ble_eq_true rfl) (Nat.le_of_ble_eq_true rfl)
  · refine s_aload_n hX dX5_readStart_7 rfl ?_
    refine s_aload_n hX dX5_readStart_8 rfl ?_
    refine s_getO hX dX5_readStart_9 q_45 rfl (fun j3 => ?_)
    refine s_getO hX dX5_readStart_12 q_114 rfl (fun j4 => ?_)
    refine s_aload_n hX dX5_readStart_15 rfl ?_
    refine s_getI hX dX5_readStart_16 q_50 rfl (fun v5 => ?_)
    refine s_iald hX dX5_readStart_19 (fun v6 => ?_)
    refine s_bipush (v := (-2)) hX dX5_readStart_20 kb_m2 ?_
    refine s_jp (fun (s : MemT × Int32) => [some (.ref a0)]) (fun (s : MemT × Int32) => [.int s.2, .ref a0]) (fun (s : MemT × Int32) => s.1) 0 0 30 (fun s => ?_) (fun K7 hK7 => ?_)
    · obtain ⟨M8, v9⟩ := s
      dsimp only
      refine s_callVi (ck1 := 0) (sk1 := 0) (ci := 4) hX dX5_readStart_30 k_X5_isNew q_574 (c_X5_isNew n M8 a0 v9) (by decide) rfl rfl rfl ⟨Nat.le_of_ble_eq_true rfl, Nat.le_of_ble_eq_true rfl⟩ ⟨(Nat.le_of_ble_eq_true rfl), (Nat.le_of_ble_eq_true rfl)⟩ (Nat.le_of_ble_eq_true rfl) rfl rfl (fun r10 M11 => ?_)
      refine s_ifeq (tgt := 47) hX dX5_readStart_33 rfl ?_ ?_
      · refine s_iconst (v := 0) hX dX5_readStart_47 kc_0 ?_
        exact s_zret hX hR dX5_readStart_48 (Nat.le_of_ble_eq_true rfl) (Nat.le_of_ble_eq_true rfl)
      · refine s_aload_n hX dX5_readStart_36 rfl ?_
        refine s_iconst (v := 0) hX dX5_readStart_37 kc_0 ?_
        refine s_sipush (v := 1000) hX dX5_readStart_38 ks_1000 ?_
        refine s_callVi (ck1 := 0) (sk1 := 0) (ci := 4) hX dX5_readStart_41 k_X5_takeNumber q_578 (c_X5_takeNumber n M11 a0 0 1000) (by decide) rfl rfl rfl ⟨Nat.le_of_ble_eq_true rfl, Nat.le_of_ble_eq_true rfl⟩ ⟨(Nat.le_of_ble_eq_true rfl), (Nat.le_of_ble_eq_true rfl)⟩ (Nat.le_of_ble_eq_true rfl) rfl rfl (fun r12 M13 => ?_)
        refine s_ifne (tgt := 49) hX dX5_readStart_44 rfl ?_ ?_
        · refine s_iconst (v := 0) hX dX5_readStart_47 kc_0 ?_
          exact s_zret hX hR dX5_readStart_48 (Nat.le_of_ble_eq_true rfl) (Nat.le_of_ble_eq_true rfl)
        · refine s_aload_n hX dX5_readStart_49 rfl ?_
          refine s_getO hX dX5_readStart_50 q_45 rfl (fun j14 => ?_)
          refine s_getO hX dX5_readStart_53 q_114 rfl (fun j15 => ?_)
          refine s_aload_n hX dX5_readStart_56 rfl ?_
          refine s_getI hX dX5_readStart_57 q_50 rfl (fun v16 => ?_)
          refine s_aload_n hX dX5_readStart_60 rfl ?_
          refine s_getI hX dX5_readStart_61 q_49 rfl (fun v17 => ?_)
          refine s_iast hX dX5_readStart_64 (fun M18 => ?_)
          refine s_iconst (v := 1) hX dX5_readStart_65 kc_1 ?_
          exact s_zret hX hR dX5_readStart_66 (Nat.le_of_ble_eq_true rfl) (Nat.le_of_ble_eq_true rfl)
    · refine s_icne (tgt := 29) hX dX5_readStart_22 rfl ?_ ?_
      · refine s_iconst (v := 1) hX dX5_readStart_25 kc_1 ?_
        refine s_goto (tgt := 30) hX dX5_readStart_26 rfl ?_
        exact hK7 _
      · refine s_iconst (v := 0) hX dX5_readStart_29 kc_0 ?_
        exact hK7 _
abbrev rm_X5_readStep : Room := { frames := 3, cells := 0, slots := 0, locals := 64 }
theorem k_X5_readStep : KYV yX5_readStep cX5_readStep 1 (some .boolean) 0 := ⟨⟨q_614, q_2, by decide +kernel, by decide +kernel, by decide +kernel⟩, q_613, p_14⟩
set_option maxHeartbeats 4000000 in
set_option maxRecDepth 100000 in
theorem c_X5_readStep (n : Nat) (M0 : MemT) (a0 : Nat) : Ct iI yX5_readStep cX5_readStep 1 (some .boolean) rm_X5_readStep [.ref a0] M0 (g_X5_readStep n M0 a0) := by
  unfold g_X5_readStep
  refine ct_intro RX5 0 [some (.ref a0)] rfl (by decide +kernel) rfl (Nat.le_of_ble_eq_true rfl) (fun X A hX hnm hR => ?_)
  refine s_aload_n hX dX5_readStep_0 rfl ?_
  refine s_aload_n hX dX5_readStep_1 rfl ?_
  refine s_getI hX dX5_readStep_2 q_55 rfl (fun v1 => ?_)
  refine s_jp (fun (s : MemT × Int32) => [some (.ref a0)]) (fun (s : MemT × Int32) => [.int s.2, .ref a0]) (fun (s : MemT × Int32) => s.1) 0 0 13 (fun s => ?_) (fun K2 hK2 => ?_)
  · obtain ⟨M3, v4⟩ := s
    dsimp only
    refine s_callVi (ck1 := 0) (sk1 := 0) (ci := 4) hX dX5_readStep_13 k_X5_isNew q_574 (c_X5_isNew n M3 a0 v4) (by decide) rfl rfl rfl ⟨Nat.le_of_ble_eq_true rfl, Nat.le_of_ble_eq_true rfl⟩ ⟨(Nat.le_of_ble_eq_true rfl), (Nat.le_of_ble_eq_true rfl)⟩ (Nat.le_of_ble_eq_true rfl) rfl rfl (fun r5 M6 => ?_)
    refine s_ifeq (tgt := 31) hX dX5_readStep_16 rfl ?_ ?_
    · refine s_iconst (v := 0) hX dX5_readStep_31 kc_0 ?_
      exact s_zret hX hR dX5_readStep_32 (Nat.le_of_ble_eq_true rfl) (Nat.le_of_ble_eq_true rfl)
    · refine s_aload_n hX dX5_readStep_19 rfl ?_
      refine s_bipush (v := 10) hX dX5_readStep_20 kb_10 ?_
      refine s_sipush (v := 1000) hX dX5_readStep_22 ks_1000 ?_
      refine s_callVi (ck1 := 0) (sk1 := 0) (ci := 4) hX dX5_readStep_25 k_X5_takeNumber q_578 (c_X5_takeNumber n M6 a0 10 1000) (by decide) rfl rfl rfl ⟨Nat.le_of_ble_eq_true rfl, Nat.le_of_ble_eq_true rfl⟩ ⟨(Nat.le_of_ble_eq_true rfl), (Nat.le_of_ble_eq_true rfl)⟩ (Nat.le_of_ble_eq_true rfl) rfl rfl (fun r7 M8 => ?_)
      refine s_ifne (tgt := 33) hX dX5_readStep_28 rfl ?_ ?_
      · refine s_iconst (v := 0) hX dX5_readStep_31 kc_0 ?_
        exact s_zret hX hR dX5_readStep_32 (Nat.le_of_ble_eq_true rfl) (Nat.le_of_ble_eq_true rfl)
      · refine s_aload_n hX dX5_readStep_33 rfl ?_
        refine s_getO hX dX5_readStep_34 q_45 rfl (fun j9 => ?_)
        refine s_aload_n hX dX5_readStep_37 rfl ?_
        refine s_getI hX dX5_readStep_38 q_49 rfl (fun v10 => ?_)
        refine s_putI hX dX5_readStep_41 q_128 rfl rfl (fun M11 => ?_)
        refine s_aload_n hX dX5_readStep_44 rfl ?_
        refine s_iconst (v := 1) hX dX5_readStep_45 kc_1 ?_
        refine s_putZ hX dX5_readStep_46 q_55 rfl rfl (fun M12 => ?_)
        refine s_iconst (v := 1) hX dX5_readStep_49 kc_1 ?_
        exact s_zret hX hR dX5_readStep_50 (Nat.le_of_ble_eq_true rfl) (Nat.le_of_ble_eq_true rfl)
  · refine s_ifne (tgt := 12) hX dX5_readStep_5 rfl ?_ ?_
    · refine s_iconst (v := 1) hX dX5_readStep_8 kc_1 ?_
      refine s_goto (tgt := 13) hX dX5_readStep_9 rfl ?_
      exact hK2 _
    · refine s_iconst (v := 0) hX dX5_readStep_12 kc_0 ?_
      exact hK2 _
abbrev rm_X7_addTrader : Room := { frames := 0, cells := 0, slots := 0, locals := 0 }
theorem k_X7_addTrader : KYV yX7_addTrader cX7_addTrader 4 none 3 := ⟨⟨q_588, q_3, by decide +kernel, by decide +kernel, by decide +kernel⟩, q_586, q_587⟩
set_option maxHeartbeats 4000000 in
set_option maxRecDepth 100000 in
theorem c_X7_addTrader (n : Nat) (M0 : MemT) (a0 : Nat) (a1 : Int32) (a2 : Int32) (a3 : Int32) : Ct iU yX7_addTrader cX7_addTrader 4 none rm_X7_addTrader [.ref a0, .int a1, .int a2, .int a3] M0 (g_X7_addTrader n M0 a0 a1 a2 a3) := by
  unfold g_X7_addTrader
  refine ct_intro RX7 0 [some (.ref a0), some (.int a1), some (.int a2), some (.int a3)] rfl (by decide +kernel) rfl (Nat.le_of_ble_eq_true rfl) (fun X A hX hnm hR => ?_)
  refine s_aload_n hX dX7_addTrader_0 rfl ?_
  refine s_getI hX dX7_addTrader_1 q_101 rfl (fun v1 => ?_)
  refine s_iconst (v := 4) hX dX7_addTrader_4 kc_4 ?_
  refine s_iclt (tgt := 9) hX dX7_addTrader_5 rfl ?_ ?_
  · refine s_aload_n hX dX7_addTrader_9 rfl ?_
    refine s_getO hX dX7_addTrader_10 q_105 rfl (fun j2 => ?_)
    refine s_aload_n hX dX7_addTrader_13 rfl ?_
    refine s_getI hX dX7_addTrader_14 q_101 rfl (fun v3 => ?_)
    refine s_iload_n hX dX7_addTrader_17 rfl ?_
    refine s_iast hX dX7_addTrader_18 (fun M4 => ?_)
    refine s_aload_n hX dX7_addTrader_19 rfl ?_
    refine s_getO hX dX7_addTrader_20 q_106 rfl (fun j5 => ?_)
    refine s_aload_n hX dX7_addTrader_23 rfl ?_
    refine s_getI hX dX7_addTrader_24 q_101 rfl (fun v6 => ?_)
    refine s_iload_n hX dX7_addTrader_27 rfl ?_
    refine s_iast hX dX7_addTrader_28 (fun M7 => ?_)
    refine s_aload_n hX dX7_addTrader_29 rfl ?_
    refine s_getO hX dX7_addTrader_30 q_109 rfl (fun j8 => ?_)
    refine s_aload_n hX dX7_addTrader_33 rfl ?_
    refine s_getI hX dX7_addTrader_34 q_101 rfl (fun v9 => ?_)
    refine s_iload_n hX dX7_addTrader_37 rfl ?_
    refine s_iast hX dX7_addTrader_38 (fun M10 => ?_)
    refine s_aload_n hX dX7_addTrader_39 rfl ?_
    refine s_getO hX dX7_addTrader_40 q_112 rfl (fun j11 => ?_)
    refine s_aload_n hX dX7_addTrader_43 rfl ?_
    refine s_getI hX dX7_addTrader_44 q_101 rfl (fun v12 => ?_)
    refine s_bipush (v := (-2)) hX dX7_addTrader_47 kb_m2 ?_
    refine s_iast hX dX7_addTrader_49 (fun M13 => ?_)
    refine s_aload_n hX dX7_addTrader_50 rfl ?_
    refine s_getO hX dX7_addTrader_51 q_116 rfl (fun j14 => ?_)
    refine s_aload_n hX dX7_addTrader_54 rfl ?_
    refine s_getI hX dX7_addTrader_55 q_101 rfl (fun v15 => ?_)
    refine s_iconst (v := 0) hX dX7_addTrader_58 kc_0 ?_
    refine s_iast hX dX7_addTrader_59 (fun M16 => ?_)
    refine s_aload_n hX dX7_addTrader_60 rfl ?_
    refine s_getO hX dX7_addTrader_61 q_119 rfl (fun j17 => ?_)
    refine s_aload_n hX dX7_addTrader_64 rfl ?_
    refine s_getI hX dX7_addTrader_65 q_101 rfl (fun v18 => ?_)
    refine s_iconst (v := 0) hX dX7_addTrader_68 kc_0 ?_
    refine s_iast hX dX7_addTrader_69 (fun M19 => ?_)
    refine s_aload_n hX dX7_addTrader_70 rfl ?_
    refine s_dup hX dX7_addTrader_71 rfl ?_
    refine s_getI hX dX7_addTrader_72 q_101 rfl (fun v20 => ?_)
    refine s_iconst (v := 1) hX dX7_addTrader_75 kc_1 ?_
    refine s_iadd hX dX7_addTrader_76 ?_
    refine s_putI hX dX7_addTrader_77 q_101 rfl rfl (fun M21 => ?_)
    exact s_vret hX hR dX7_addTrader_80 (Nat.le_of_ble_eq_true rfl) (Nat.le_of_ble_eq_true rfl)
  · exact s_vret hX hR dX7_addTrader_8 (Nat.le_of_ble_eq_true rfl) (Nat.le_of_ble_eq_true rfl)
abbrev rm_X5_readTrader : Room := { frames := 6, cells := 0, slots := 0, locals := 133 }
theorem k_X5_readTrader : KYV yX5_readTrader cX5_readTrader 3 (some .boolean) 0 := ⟨⟨q_561, q_2, by decide +kernel, by decide +kernel, by decide +kernel⟩, q_560, p_5⟩
set_option maxHeartbeats 4000000 in
set_option maxRecDepth 100000 in
theorem c_X5_readTrader (n : Nat) (M0 : MemT) (a0 : Nat) : Ct iI yX5_readTrader cX5_readTrader 3 (some .boolean) rm_X5_readTrader [.ref a0] M0 (g_X5_readTrader n M0 a0) := by
  unfold g_X5_readTrader
  refine ct_intro RX5 2 [some (.ref a0), none, none] rfl (by decide +kernel) rfl (Nat.le_of_ble_eq_true rfl) (fun X A hX hnm hR => ?_)
  refine s_aload_n hX dX5_readTrader_0 rfl ?_
  refine s_aload_n hX dX5_readTrader_1 rfl ?_
  refine s_getO hX dX5_readTrader_2 q_45 rfl (fun j1 => ?_)
  refine s_getI hX dX5_readTrader_5 q_102 rfl (fun v2 => ?_)
  refine s_iconst (v := 4) hX dX5_readTrader_8 kc_4 ?_
  refine s_callVi (ck1 := 0) (sk1 := 0) (ci := 4) hX dX5_readTrader_9 k_X5_isRoom q_562 (c_X5_isRoom n M0 a0 v2 4) (by decide) rfl rfl rfl ⟨Nat.le_of_ble_eq_true rfl, Nat.le_of_ble_eq_true rfl⟩ ⟨(Nat.le_of_ble_eq_true rfl), (Nat.le_of_ble_eq_true rfl)⟩ (Nat.le_of_ble_eq_true rfl) rfl rfl (fun r3 M4 => ?_)
  refine s_ifeq (tgt := 22) hX dX5_readTrader_12 rfl ?_ ?_
  · refine s_iconst (v := 0) hX dX5_readTrader_22 kc_0 ?_
    exact s_zret hX hR dX5_readTrader_23 (Nat.le_of_ble_eq_true rfl) (Nat.le_of_ble_eq_true rfl)
  · refine s_aload_n hX dX5_readTrader_15 rfl ?_
    refine s_callVi (ck1 := 0) (sk1 := 0) (ci := 4) hX dX5_readTrader_16 k_X5_takeName q_566 (c_X5_takeName n M4 a0) (by decide) rfl rfl rfl ⟨Nat.le_of_ble_eq_true rfl, Nat.le_of_ble_eq_true rfl⟩ ⟨(Nat.le_of_ble_eq_true rfl), (Nat.le_of_ble_eq_true rfl)⟩ (Nat.le_of_ble_eq_true rfl) rfl rfl (fun r5 M6 => ?_)
    refine s_ifne (tgt := 24) hX dX5_readTrader_19 rfl ?_ ?_
    · refine s_iconst (v := 0) hX dX5_readTrader_22 kc_0 ?_
      exact s_zret hX hR dX5_readTrader_23 (Nat.le_of_ble_eq_true rfl) (Nat.le_of_ble_eq_true rfl)
    · refine s_aload_n hX dX5_readTrader_24 rfl ?_
      refine s_getI hX dX5_readTrader_25 q_49 rfl (fun v7 => ?_)
      refine s_istore1 hX dX5_readTrader_28 (by first | exact trivial | exact rfl) (Nat.le_of_ble_eq_true rfl) ?_
      refine s_aload_n hX dX5_readTrader_29 rfl ?_
      refine s_aload_n hX dX5_readTrader_30 rfl ?_
      refine s_getO hX dX5_readTrader_31 q_45 rfl (fun j8 => ?_)
      refine s_iload_n hX dX5_readTrader_34 rfl ?_
      refine s_callVi (ck1 := 0) (sk1 := 0) (ci := 6) hX dX5_readTrader_35 k_X7_traderNamed q_570 (c_X7_traderNamed n M6 j8 v7) (by decide) rfl rfl rfl ⟨Nat.le_of_ble_eq_true rfl, Nat.le_of_ble_eq_true rfl⟩ ⟨(Nat.le_of_ble_eq_true rfl), (Nat.le_of_ble_eq_true rfl)⟩ (Nat.le_of_ble_eq_true rfl) rfl rfl (fun r9 M10 => ?_)
      refine s_iconst (v := (-1)) hX dX5_readTrader_38 kc_m1 ?_
      refine s_jp (fun (s : MemT × Int32) => [some (.ref a0), some (.int v7), none]) (fun (s : MemT × Int32) => [.int s.2, .ref a0]) (fun (s : MemT × Int32) => s.1) 0 0 47 (fun s => ?_) (fun K11 hK11 => ?_)
      · obtain ⟨M12, v13⟩ := s
        dsimp only
        refine s_callVi (ck1 := 0) (sk1 := 0) (ci := 4) hX dX5_readTrader_47 k_X5_isNew q_574 (c_X5_isNew n M12 a0 v13) (by decide) rfl rfl rfl ⟨Nat.le_of_ble_eq_true rfl, Nat.le_of_ble_eq_true rfl⟩ ⟨(Nat.le_of_ble_eq_true rfl), (Nat.le_of_ble_eq_true rfl)⟩ (Nat.le_of_ble_eq_true rfl) rfl rfl (fun r14 M15 => ?_)
        refine s_ifeq (tgt := 62) hX dX5_readTrader_50 rfl ?_ ?_
        · refine s_iconst (v := 0) hX dX5_readTrader_62 kc_0 ?_
          exact s_zret hX hR dX5_readTrader_63 (Nat.le_of_ble_eq_true rfl) (Nat.le_of_ble_eq_true rfl)
        · refine s_aload_n hX dX5_readTrader_53 rfl ?_
          refine s_iconst (v := 0) hX dX5_readTrader_54 kc_0 ?_
          refine s_iconst (v := 2) hX dX5_readTrader_55 kc_2 ?_
          refine s_callVi (ck1 := 0) (sk1 := 0) (ci := 4) hX dX5_readTrader_56 k_X5_takeNumber q_578 (c_X5_takeNumber n M15 a0 0 2) (by decide) rfl rfl rfl ⟨Nat.le_of_ble_eq_true rfl, Nat.le_of_ble_eq_true rfl⟩ ⟨(Nat.le_of_ble_eq_true rfl), (Nat.le_of_ble_eq_true rfl)⟩ (Nat.le_of_ble_eq_true rfl) rfl rfl (fun r16 M17 => ?_)
          refine s_ifne (tgt := 64) hX dX5_readTrader_59 rfl ?_ ?_
          · refine s_iconst (v := 0) hX dX5_readTrader_62 kc_0 ?_
            exact s_zret hX hR dX5_readTrader_63 (Nat.le_of_ble_eq_true rfl) (Nat.le_of_ble_eq_true rfl)
          · refine s_aload_n hX dX5_readTrader_64 rfl ?_
            refine s_getI hX dX5_readTrader_65 q_49 rfl (fun v18 => ?_)
            refine s_istore2 hX dX5_readTrader_68 (by first | exact trivial | exact rfl) (Nat.le_of_ble_eq_true rfl) ?_
            refine s_aload_n hX dX5_readTrader_69 rfl ?_
            refine s_iconst (v := 0) hX dX5_readTrader_70 kc_0 ?_
            refine s_iconst (v := 1) hX dX5_readTrader_71 kc_1 ?_
            refine s_callVi (ck1 := 0) (sk1 := 0) (ci := 4) hX dX5_readTrader_72 k_X5_takeNumber q_578 (c_X5_takeNumber n M17 a0 0 1) (by decide) rfl rfl rfl ⟨Nat.le_of_ble_eq_true rfl, Nat.le_of_ble_eq_true rfl⟩ ⟨(Nat.le_of_ble_eq_true rfl), (Nat.le_of_ble_eq_true rfl)⟩ (Nat.le_of_ble_eq_true rfl) rfl rfl (fun r19 M20 => ?_)
            refine s_ifne (tgt := 80) hX dX5_readTrader_75 rfl ?_ ?_
            · refine s_iconst (v := 0) hX dX5_readTrader_78 kc_0 ?_
              exact s_zret hX hR dX5_readTrader_79 (Nat.le_of_ble_eq_true rfl) (Nat.le_of_ble_eq_true rfl)
            · refine s_aload_n hX dX5_readTrader_80 rfl ?_
              refine s_getO hX dX5_readTrader_81 q_53 rfl (fun j21 => ?_)
              refine s_aload_n hX dX5_readTrader_84 rfl ?_
              refine s_getO hX dX5_readTrader_85 q_45 rfl (fun j22 => ?_)
              refine s_getI hX dX5_readTrader_88 q_102 rfl (fun v23 => ?_)
              refine s_iconst (v := 0) hX dX5_readTrader_91 kc_0 ?_
              refine s_zast hX dX5_readTrader_92 (fun M24 => ?_)
              refine s_aload_n hX dX5_readTrader_93 rfl ?_
              refine s_getO hX dX5_readTrader_94 q_45 rfl (fun j25 => ?_)
              refine s_iload_n hX dX5_readTrader_97 rfl ?_
              refine s_iload_n hX dX5_readTrader_98 rfl ?_
              refine s_aload_n hX dX5_readTrader_99 rfl ?_
              refine s_getI hX dX5_readTrader_100 q_49 rfl (fun v26 => ?_)
              refine s_callVu (ck1 := 0) (sk1 := 0) (ci := 6) hX dX5_readTrader_103 k_X7_addTrader q_585 (c_X7_addTrader n M24 j25 v7 v18 v26) (by decide) rfl rfl rfl ⟨Nat.le_of_ble_eq_true rfl, Nat.le_of_ble_eq_true rfl⟩ ⟨(Nat.le_of_ble_eq_true rfl), (Nat.le_of_ble_eq_true rfl)⟩ (Nat.le_of_ble_eq_true rfl) rfl rfl (fun r27 M28 => ?_)
              refine s_iconst (v := 1) hX dX5_readTrader_106 kc_1 ?_
              exact s_zret hX hR dX5_readTrader_107 (Nat.le_of_ble_eq_true rfl) (Nat.le_of_ble_eq_true rfl)
      · refine s_icne (tgt := 46) hX dX5_readTrader_39 rfl ?_ ?_
        · refine s_iconst (v := 1) hX dX5_readTrader_42 kc_1 ?_
          refine s_goto (tgt := 47) hX dX5_readTrader_43 rfl ?_
          exact hK11 _
        · refine s_iconst (v := 0) hX dX5_readTrader_46 kc_0 ?_
          exact hK11 _
abbrev rm_X5_takeDeal : Room := { frames := 7, cells := 0, slots := 0, locals := 153 }
theorem k_X5_takeDeal : KYV yX5_takeDeal cX5_takeDeal 2 (some .boolean) 1 := ⟨⟨q_627, q_2, by decide +kernel, by decide +kernel, by decide +kernel⟩, q_626, p_17⟩
set_option maxHeartbeats 4000000 in
set_option maxRecDepth 100000 in
theorem c_X5_takeDeal (n : Nat) (M0 : MemT) (a0 : Nat) (a1 : Int32) : Ct iI yX5_takeDeal cX5_takeDeal 2 (some .boolean) rm_X5_takeDeal [.ref a0, .int a1] M0 (g_X5_takeDeal n M0 a0 a1) := by
  unfold g_X5_takeDeal
  refine ct_intro RX5 0 [some (.ref a0), some (.int a1)] rfl (by decide +kernel) rfl (Nat.le_of_ble_eq_true rfl) (fun X A hX hnm hR => ?_)
  refine s_aload_n hX dX5_takeDeal_0 rfl ?_
  refine s_callVi (ck1 := 0) (sk1 := 0) (ci := 4) hX dX5_takeDeal_1 k_X5_takeTrader q_593 (c_X5_takeTrader n M0 a0) (by decide) rfl rfl rfl ⟨Nat.le_of_ble_eq_true rfl, Nat.le_of_ble_eq_true rfl⟩ ⟨(Nat.le_of_ble_eq_true rfl), (Nat.le_of_ble_eq_true rfl)⟩ (Nat.le_of_ble_eq_true rfl) rfl rfl (fun r1 M2 => ?_)
  refine s_ifeq (tgt := 17) hX dX5_takeDeal_4 rfl ?_ ?_
  · refine s_iconst (v := 0) hX dX5_takeDeal_17 kc_0 ?_
    exact s_zret hX hR dX5_takeDeal_18 (Nat.le_of_ble_eq_true rfl) (Nat.le_of_ble_eq_true rfl)
  · refine s_aload_n hX dX5_takeDeal_7 rfl ?_
    refine s_iconst (v := 0) hX dX5_takeDeal_8 kc_0 ?_
    refine s_bipush (v := 63) hX dX5_takeDeal_9 kb_63 ?_
    refine s_callVi (ck1 := 0) (sk1 := 0) (ci := 4) hX dX5_takeDeal_11 k_X5_takeNumber q_578 (c_X5_takeNumber n M2 a0 0 63) (by decide) rfl rfl rfl ⟨Nat.le_of_ble_eq_true rfl, Nat.le_of_ble_eq_true rfl⟩ ⟨(Nat.le_of_ble_eq_true rfl), (Nat.le_of_ble_eq_true rfl)⟩ (Nat.le_of_ble_eq_true rfl) rfl rfl (fun r3 M4 => ?_)
    refine s_ifne (tgt := 19) hX dX5_takeDeal_14 rfl ?_ ?_
    · refine s_iconst (v := 0) hX dX5_takeDeal_17 kc_0 ?_
      exact s_zret hX hR dX5_takeDeal_18 (Nat.le_of_ble_eq_true rfl) (Nat.le_of_ble_eq_true rfl)
    · refine s_aload_n hX dX5_takeDeal_19 rfl ?_
      refine s_aload_n hX dX5_takeDeal_20 rfl ?_
      refine s_getI hX dX5_takeDeal_21 q_49 rfl (fun v5 => ?_)
      refine s_putI hX dX5_takeDeal_24 q_51 rfl rfl (fun M6 => ?_)
      refine s_aload_n hX dX5_takeDeal_27 rfl ?_
      refine s_iconst (v := 0) hX dX5_takeDeal_28 kc_0 ?_
      refine s_iload_n hX dX5_takeDeal_29 rfl ?_
      refine s_iconst (v := 1) hX dX5_takeDeal_30 kc_1 ?_
      refine s_isub hX dX5_takeDeal_31 ?_
      refine s_callVi (ck1 := 0) (sk1 := 0) (ci := 4) hX dX5_takeDeal_32 k_X5_takeNumber q_578 (c_X5_takeNumber n M6 a0 0 (a1 - 1)) (by decide) rfl rfl rfl ⟨Nat.le_of_ble_eq_true rfl, Nat.le_of_ble_eq_true rfl⟩ ⟨(Nat.le_of_ble_eq_true rfl), (Nat.le_of_ble_eq_true rfl)⟩ (Nat.le_of_ble_eq_true rfl) rfl rfl (fun r7 M8 => ?_)
      refine s_ifne (tgt := 40) hX dX5_takeDeal_35 rfl ?_ ?_
      · refine s_iconst (v := 0) hX dX5_takeDeal_38 kc_0 ?_
        exact s_zret hX hR dX5_takeDeal_39 (Nat.le_of_ble_eq_true rfl) (Nat.le_of_ble_eq_true rfl)
      · refine s_aload_n hX dX5_takeDeal_40 rfl ?_
        refine s_aload_n hX dX5_takeDeal_41 rfl ?_
        refine s_getI hX dX5_takeDeal_42 q_49 rfl (fun v9 => ?_)
        refine s_putI hX dX5_takeDeal_45 q_52 rfl rfl (fun M10 => ?_)
        refine s_iconst (v := 1) hX dX5_takeDeal_48 kc_1 ?_
        exact s_zret hX hR dX5_takeDeal_49 (Nat.le_of_ble_eq_true rfl) (Nat.le_of_ble_eq_true rfl)
abbrev rm_X5_readLine : Room := { frames := 8, cells := 0, slots := 0, locals := 174 }
theorem k_X5_readLine : KYV yX5_readLine cX5_readLine 3 (some .boolean) 0 := ⟨⟨q_492, q_2, by decide +kernel, by decide +kernel, by decide +kernel⟩, q_491, p_3⟩
set_option maxHeartbeats 4000000 in
set_option maxRecDepth 100000 in
theorem c_X5_readLine (n : Nat) (M0 : MemT) (a0 : Nat) : Ct iI yX5_readLine cX5_readLine 3 (some .boolean) rm_X5_readLine [.ref a0] M0 (g_X5_readLine n M0 a0) := by
  unfold g_X5_readLine
  refine ct_intro RX5 2 [some (.ref a0), none, none] rfl (by decide +kernel) rfl (Nat.le_of_ble_eq_true rfl) (fun X A hX hnm hR => ?_)
  refine s_aload_n hX dX5_readLine_0 rfl ?_
  refine s_getI hX dX5_readLine_1 q_46 rfl (fun v1 => ?_)
  refine s_iconst (v := 1) hX dX5_readLine_4 kc_1 ?_
  refine s_jp (fun (s : MemT × Option Nat) => [some (.ref a0), none, none]) (fun (s : MemT × Option Nat) => [kv s.2]) (fun (s : MemT × Option Nat) => s.1) 0 0 27 (fun s => ?_) (fun K2 hK2 => ?_)
  · obtain ⟨M3, v4⟩ := s
    dsimp only
    refine s_kstK_n (r := v4) hX dX5_readLine_27 rfl (Nat.le_of_ble_eq_true rfl) (by first | exact trivial | exact rfl) ?_
    show Sim _ _ _ _ _ _ _ [some (.ref a0), some (kv v4), none] _ _
    refine s_kloadK_n (r := v4) hX dX5_readLine_28 rfl ?_
    refine s_ifnnK (tgt := 42) hX dX5_readLine_29 rfl (fun e6 => ?_) (fun k5 e6 => ?_)
    · subst e6
      refine s_aload_n hX dX5_readLine_32 rfl ?_
      refine s_iconst (v := 1) hX dX5_readLine_33 kc_1 ?_
      refine s_aload_n hX dX5_readLine_34 rfl ?_
      refine s_getI hX dX5_readLine_35 q_47 rfl (fun v7 => ?_)
      refine s_callVi (ck1 := 0) (sk1 := 0) (ci := 4) hX dX5_readLine_38 k_X5_fail q_546 (c_X5_fail n M3 a0 1 v7) (by decide) rfl rfl rfl ⟨Nat.le_of_ble_eq_true rfl, Nat.le_of_ble_eq_true rfl⟩ ⟨(Nat.le_of_ble_eq_true rfl), (Nat.le_of_ble_eq_true rfl)⟩ (Nat.le_of_ble_eq_true rfl) rfl rfl (fun r8 M9 => ?_)
      exact s_zret hX hR dX5_readLine_41 (Nat.le_of_ble_eq_true rfl) (Nat.le_of_ble_eq_true rfl)
    · subst e6
      refine s_swm hX dX5_readLine_42 dX5_readLine_45 dX5_readLine_46 dX5_readLine_49 rfl q_550 q_552 (Nat.le_of_ble_eq_true rfl) (Nat.le_of_ble_eq_true rfl) (Nat.le_of_ble_eq_true rfl) (Nat.le_of_ble_eq_true rfl) (Nat.le_of_ble_eq_true rfl) ?_
      refine s_jp (fun (s : MemT × Int32) => [some (.ref a0), some (kv ((some k5))), some (.int s.2)]) (fun (s : MemT × Int32) => []) (fun (s : MemT × Int32) => s.1) 0 0 289 (fun s => ?_) (fun K10 hK10 => ?_)
      · obtain ⟨M11, v12⟩ := s
        dsimp only
        refine s_iload_n hX dX5_readLine_289 rfl ?_
        refine s_ifne (tgt := 295) hX dX5_readLine_290 rfl ?_ ?_
        · refine s_iconst (v := 0) hX dX5_readLine_293 kc_0 ?_
          exact s_zret hX hR dX5_readLine_294 (Nat.le_of_ble_eq_true rfl) (Nat.le_of_ble_eq_true rfl)
        · refine s_aload_n hX dX5_readLine_295 rfl ?_
          refine s_callVu (ck1 := 0) (sk1 := 0) (ci := 4) hX dX5_readLine_296 k_X5_takeToken q_475 (c_X5_takeToken n M11 a0) (by decide) rfl rfl rfl ⟨Nat.le_of_ble_eq_true rfl, Nat.le_of_ble_eq_true rfl⟩ ⟨(Nat.le_of_ble_eq_true rfl), (Nat.le_of_ble_eq_true rfl)⟩ (Nat.le_of_ble_eq_true rfl) rfl rfl (fun r13 M14 => ?_)
          refine s_aload_n hX dX5_readLine_299 rfl ?_
          refine s_getI hX dX5_readLine_300 q_46 rfl (fun v15 => ?_)
          refine s_iconst (v := 3) hX dX5_readLine_303 kc_3 ?_
          refine s_iceq (tgt := 319) hX dX5_readLine_304 rfl ?_ ?_
          · refine s_iconst (v := 1) hX dX5_readLine_319 kc_1 ?_
            refine s_goto (tgt := 324) hX dX5_readLine_320 rfl ?_
            exact s_zret hX hR dX5_readLine_324 (Nat.le_of_ble_eq_true rfl) (Nat.le_of_ble_eq_true rfl)
          · refine s_aload_n hX dX5_readLine_307 rfl ?_
            refine s_iconst (v := 1) hX dX5_readLine_308 kc_1 ?_
            refine s_aload_n hX dX5_readLine_309 rfl ?_
            refine s_getI hX dX5_readLine_310 q_47 rfl (fun v16 => ?_)
            refine s_callVi (ck1 := 0) (sk1 := 0) (ci := 4) hX dX5_readLine_313 k_X5_fail q_546 (c_X5_fail n M14 a0 1 v16) (by decide) rfl rfl rfl ⟨Nat.le_of_ble_eq_true rfl, Nat.le_of_ble_eq_true rfl⟩ ⟨(Nat.le_of_ble_eq_true rfl), (Nat.le_of_ble_eq_true rfl)⟩ (Nat.le_of_ble_eq_true rfl) rfl rfl (fun r17 M18 => ?_)
            refine s_ifeq (tgt := 323) hX dX5_readLine_316 rfl ?_ ?_
            · refine s_iconst (v := 0) hX dX5_readLine_323 kc_0 ?_
              exact s_zret hX hR dX5_readLine_324 (Nat.le_of_ble_eq_true rfl) (Nat.le_of_ble_eq_true rfl)
            · refine s_iconst (v := 1) hX dX5_readLine_319 kc_1 ?_
              refine s_goto (tgt := 324) hX dX5_readLine_320 rfl ?_
              exact s_zret hX hR dX5_readLine_324 (Nat.le_of_ble_eq_true rfl) (Nat.le_of_ble_eq_true rfl)
      · have b19 := sw_0 (wSm k5) 1
        refine s_swC (tgt := 104) (v := 1) 1 hX dX5_readLine_50 b19 (by decide) ⟨by decide, by decide⟩ rfl rfl ?_ (fun b22 => ?_)
        · refine s_aload_n hX dX5_readLine_104 rfl ?_
          refine s_callVi (ck1 := 0) (sk1 := 0) (ci := 4) hX dX5_readLine_105 k_X5_readTrader q_558 (c_X5_readTrader n M3 a0) (by decide) rfl rfl rfl ⟨Nat.le_of_ble_eq_true rfl, Nat.le_of_ble_eq_true rfl⟩ ⟨(Nat.le_of_ble_eq_true rfl), (Nat.le_of_ble_eq_true rfl)⟩ (Nat.le_of_ble_eq_true rfl) rfl rfl (fun r20 M21 => ?_)
          refine s_istore2 hX dX5_readLine_108 (by first | exact trivial | exact rfl) (Nat.le_of_ble_eq_true rfl) ?_
          refine s_goto (tgt := 289) hX dX5_readLine_109 rfl ?_
          exact hK10 _
        refine s_swC (tgt := 112) (v := 2) 2 hX dX5_readLine_50 b22 (by decide) ⟨by decide, by decide⟩ rfl rfl ?_ (fun b25 => ?_)
        · refine s_aload_n hX dX5_readLine_112 rfl ?_
          refine s_callVi (ck1 := 0) (sk1 := 0) (ci := 4) hX dX5_readLine_113 k_X5_readHead q_589 (c_X5_readHead n M3 a0) (by decide) rfl rfl rfl ⟨Nat.le_of_ble_eq_true rfl, Nat.le_of_ble_eq_true rfl⟩ ⟨(Nat.le_of_ble_eq_true rfl), (Nat.le_of_ble_eq_true rfl)⟩ (Nat.le_of_ble_eq_true rfl) rfl rfl (fun r23 M24 => ?_)
          refine s_istore2 hX dX5_readLine_116 (by first | exact trivial | exact rfl) (Nat.le_of_ble_eq_true rfl) ?_
          refine s_goto (tgt := 289) hX dX5_readLine_117 rfl ?_
          exact hK10 _
        refine s_swC (tgt := 120) (v := 3) 3 hX dX5_readLine_50 b25 (by decide) ⟨by decide, by decide⟩ rfl rfl ?_ (fun b28 => ?_)
        · refine s_aload_n hX dX5_readLine_120 rfl ?_
          refine s_callVi (ck1 := 0) (sk1 := 0) (ci := 4) hX dX5_readLine_121 k_X5_readStart q_597 (c_X5_readStart n M3 a0) (by decide) rfl rfl rfl ⟨Nat.le_of_ble_eq_true rfl, Nat.le_of_ble_eq_true rfl⟩ ⟨(Nat.le_of_ble_eq_true rfl), (Nat.le_of_ble_eq_true rfl)⟩ (Nat.le_of_ble_eq_true rfl) rfl rfl (fun r26 M27 => ?_)
          refine s_istore2 hX dX5_readLine_124 (by first | exact trivial | exact rfl) (Nat.le_of_ble_eq_true rfl) ?_
          refine s_goto (tgt := 289) hX dX5_readLine_125 rfl ?_
          exact hK10 _
        refine s_swC (tgt := 128) (v := 4) 4 hX dX5_readLine_50 b28 (by decide) ⟨by decide, by decide⟩ rfl rfl ?_ (fun b31 => ?_)
        · refine s_aload_n hX dX5_readLine_128 rfl ?_
          refine s_callVi (ck1 := 0) (sk1 := 0) (ci := 4) hX dX5_readLine_129 k_X5_readRound q_601 (c_X5_readRound n M3 a0) (by decide) rfl rfl rfl ⟨Nat.le_of_ble_eq_true rfl, Nat.le_of_ble_eq_true rfl⟩ ⟨(Nat.le_of_ble_eq_true rfl), (Nat.le_of_ble_eq_true rfl)⟩ (Nat.le_of_ble_eq_true rfl) rfl rfl (fun r29 M30 => ?_)
          refine s_istore2 hX dX5_readLine_132 (by first | exact trivial | exact rfl) (Nat.le_of_ble_eq_true rfl) ?_
          refine s_goto (tgt := 289) hX dX5_readLine_133 rfl ?_
          exact hK10 _
        refine s_swC (tgt := 136) (v := 5) 5 hX dX5_readLine_50 b31 (by decide) ⟨by decide, by decide⟩ rfl rfl ?_ (fun b34 => ?_)
        · refine s_aload_n hX dX5_readLine_136 rfl ?_
          refine s_callVi (ck1 := 0) (sk1 := 0) (ci := 4) hX dX5_readLine_137 k_X5_readStep q_611 (c_X5_readStep n M3 a0) (by decide) rfl rfl rfl ⟨Nat.le_of_ble_eq_true rfl, Nat.le_of_ble_eq_true rfl⟩ ⟨(Nat.le_of_ble_eq_true rfl), (Nat.le_of_ble_eq_true rfl)⟩ (Nat.le_of_ble_eq_true rfl) rfl rfl (fun r32 M33 => ?_)
          refine s_istore2 hX dX5_readLine_140 (by first | exact trivial | exact rfl) (Nat.le_of_ble_eq_true rfl) ?_
          refine s_goto (tgt := 289) hX dX5_readLine_141 rfl ?_
          exact hK10 _
        refine s_swC (tgt := 144) (v := 6) 6 hX dX5_readLine_50 b34 (by decide) ⟨by decide, by decide⟩ rfl rfl ?_ (fun b37 => ?_)
        · refine s_aload_n hX dX5_readLine_144 rfl ?_
          refine s_callVi (ck1 := 0) (sk1 := 0) (ci := 4) hX dX5_readLine_145 k_X5_readLimit q_615 (c_X5_readLimit n M3 a0) (by decide) rfl rfl rfl ⟨Nat.le_of_ble_eq_true rfl, Nat.le_of_ble_eq_true rfl⟩ ⟨(Nat.le_of_ble_eq_true rfl), (Nat.le_of_ble_eq_true rfl)⟩ (Nat.le_of_ble_eq_true rfl) rfl rfl (fun r35 M36 => ?_)
          refine s_istore2 hX dX5_readLine_148 (by first | exact trivial | exact rfl) (Nat.le_of_ble_eq_true rfl) ?_
          refine s_goto (tgt := 289) hX dX5_readLine_149 rfl ?_
          exact hK10 _
        refine s_swC (tgt := 152) (v := 7) 7 hX dX5_readLine_50 b37 (by decide) ⟨by decide, by decide⟩ rfl rfl ?_ (fun b40 => ?_)
        · refine s_aload_n hX dX5_readLine_152 rfl ?_
          refine s_callVi (ck1 := 0) (sk1 := 0) (ci := 4) hX dX5_readLine_153 k_X5_readSeed q_619 (c_X5_readSeed n M3 a0) (by decide) rfl rfl rfl ⟨Nat.le_of_ble_eq_true rfl, Nat.le_of_ble_eq_true rfl⟩ ⟨(Nat.le_of_ble_eq_true rfl), (Nat.le_of_ble_eq_true rfl)⟩ (Nat.le_of_ble_eq_true rfl) rfl rfl (fun r38 M39 => ?_)
          refine s_istore2 hX dX5_readLine_156 (by first | exact trivial | exact rfl) (Nat.le_of_ble_eq_true rfl) ?_
          refine s_goto (tgt := 289) hX dX5_readLine_157 rfl ?_
          exact hK10 _
        refine s_swC (tgt := 160) (v := 8) 8 hX dX5_readLine_50 b40 (by decide) ⟨by decide, by decide⟩ rfl rfl ?_ (fun b54 => ?_)
        · refine s_aload_n hX dX5_readLine_160 rfl ?_
          refine s_aload_n hX dX5_readLine_161 rfl ?_
          refine s_getO hX dX5_readLine_162 q_45 rfl (fun j41 => ?_)
          refine s_getI hX dX5_readLine_165 q_139 rfl (fun v42 => ?_)
          refine s_bipush (v := 12) hX dX5_readLine_168 kb_12 ?_
          refine s_callVi (ck1 := 0) (sk1 := 0) (ci := 4) hX dX5_readLine_170 k_X5_isRoom q_562 (c_X5_isRoom n M3 a0 v42 12) (by decide) rfl rfl rfl ⟨Nat.le_of_ble_eq_true rfl, Nat.le_of_ble_eq_true rfl⟩ ⟨(Nat.le_of_ble_eq_true rfl), (Nat.le_of_ble_eq_true rfl)⟩ (Nat.le_of_ble_eq_true rfl) rfl rfl (fun r43 M44 => ?_)
          refine s_jp (fun (s : MemT × Int32) => [some (.ref a0), some (kv ((some k5))), none]) (fun (s : MemT × Int32) => [.int s.2]) (fun (s : MemT × Int32) => s.1) 0 0 196 (fun s => ?_) (fun K45 hK45 => ?_)
          · obtain ⟨M46, v47⟩ := s
            dsimp only
            refine s_istore2 hX dX5_readLine_196 (by first | exact trivial | exact rfl) (Nat.le_of_ble_eq_true rfl) ?_
            refine s_goto (tgt := 289) hX dX5_readLine_197 rfl ?_
            exact hK10 _
          · refine s_jp (fun (s : MemT) => [some (.ref a0), some (kv ((some k5))), none]) (fun (s : MemT) => []) (fun (s : MemT) => s) 0 0 195 (fun s => ?_) (fun K48 hK48 => ?_)
            · revert s
              intro M49
              try dsimp only
              refine s_iconst (v := 0) hX dX5_readLine_195 kc_0 ?_
              exact hK45 _
            · refine s_ifeq (tgt := 195) hX dX5_readLine_173 rfl ?_ ?_
              · exact hK48 _
              · refine s_aload_n hX dX5_readLine_176 rfl ?_
                refine s_iconst (v := 2) hX dX5_readLine_177 kc_2 ?_
                refine s_callVi (ck1 := 0) (sk1 := 0) (ci := 4) hX dX5_readLine_178 k_X5_takeDeal q_624 (c_X5_takeDeal n M44 a0 2) (by decide) rfl rfl rfl ⟨Nat.le_of_ble_eq_true rfl, Nat.le_of_ble_eq_true rfl⟩ ⟨(Nat.le_of_ble_eq_true rfl), (Nat.le_of_ble_eq_true rfl)⟩ (Nat.le_of_ble_eq_true rfl) rfl rfl (fun r50 M51 => ?_)
                refine s_ifeq (tgt := 195) hX dX5_readLine_181 rfl ?_ ?_
                · exact hK48 _
                · refine s_aload_n hX dX5_readLine_184 rfl ?_
                  refine s_callVi (ck1 := 0) (sk1 := 0) (ci := 4) hX dX5_readLine_185 k_X5_endSale q_628 (c_X5_endSale n M51 a0) (by decide) rfl rfl rfl ⟨Nat.le_of_ble_eq_true rfl, Nat.le_of_ble_eq_true rfl⟩ ⟨(Nat.le_of_ble_eq_true rfl), (Nat.le_of_ble_eq_true rfl)⟩ (Nat.le_of_ble_eq_true rfl) rfl rfl (fun r52 M53 => ?_)
                  refine s_ifeq (tgt := 195) hX dX5_readLine_188 rfl ?_ ?_
                  · exact hK48 _
                  · refine s_iconst (v := 1) hX dX5_readLine_191 kc_1 ?_
                    refine s_goto (tgt := 196) hX dX5_readLine_192 rfl ?_
                    exact hK45 _
        refine s_swC (tgt := 200) (v := 9) 9 hX dX5_readLine_50 b54 (by decide) ⟨by decide, by decide⟩ rfl rfl ?_ (fun b68 => ?_)
        · refine s_aload_n hX dX5_readLine_200 rfl ?_
          refine s_aload_n hX dX5_readLine_201 rfl ?_
          refine s_getO hX dX5_readLine_202 q_45 rfl (fun j55 => ?_)
          refine s_getI hX dX5_readLine_205 q_143 rfl (fun v56 => ?_)
          refine s_bipush (v := 12) hX dX5_readLine_208 kb_12 ?_
          refine s_callVi (ck1 := 0) (sk1 := 0) (ci := 4) hX dX5_readLine_210 k_X5_isRoom q_562 (c_X5_isRoom n M3 a0 v56 12) (by decide) rfl rfl rfl ⟨Nat.le_of_ble_eq_true rfl, Nat.le_of_ble_eq_true rfl⟩ ⟨(Nat.le_of_ble_eq_true rfl), (Nat.le_of_ble_eq_true rfl)⟩ (Nat.le_of_ble_eq_true rfl) rfl rfl (fun r57 M58 => ?_)
          refine s_jp (fun (s : MemT × Int32) => [some (.ref a0), some (kv ((some k5))), none]) (fun (s : MemT × Int32) => [.int s.2]) (fun (s : MemT × Int32) => s.1) 0 0 236 (fun s => ?_) (fun K59 hK59 => ?_)
          · obtain ⟨M60, v61⟩ := s
            dsimp only
            refine s_istore2 hX dX5_readLine_236 (by first | exact trivial | exact rfl) (Nat.le_of_ble_eq_true rfl) ?_
            refine s_goto (tgt := 289) hX dX5_readLine_237 rfl ?_
            exact hK10 _
          · refine s_jp (fun (s : MemT) => [some (.ref a0), some (kv ((some k5))), none]) (fun (s : MemT) => []) (fun (s : MemT) => s) 0 0 235 (fun s => ?_) (fun K62 hK62 => ?_)
            · revert s
              intro M63
              try dsimp only
              refine s_iconst (v := 0) hX dX5_readLine_235 kc_0 ?_
              exact hK59 _
            · refine s_ifeq (tgt := 235) hX dX5_readLine_213 rfl ?_ ?_
              · exact hK62 _
              · refine s_aload_n hX dX5_readLine_216 rfl ?_
                refine s_iconst (v := 3) hX dX5_readLine_217 kc_3 ?_
                refine s_callVi (ck1 := 0) (sk1 := 0) (ci := 4) hX dX5_readLine_218 k_X5_takeDeal q_624 (c_X5_takeDeal n M58 a0 3) (by decide) rfl rfl rfl ⟨Nat.le_of_ble_eq_true rfl, Nat.le_of_ble_eq_true rfl⟩ ⟨(Nat.le_of_ble_eq_true rfl), (Nat.le_of_ble_eq_true rfl)⟩ (Nat.le_of_ble_eq_true rfl) rfl rfl (fun r64 M65 => ?_)
                refine s_ifeq (tgt := 235) hX dX5_readLine_221 rfl ?_ ?_
                · exact hK62 _
                · refine s_aload_n hX dX5_readLine_224 rfl ?_
                  refine s_callVi (ck1 := 0) (sk1 := 0) (ci := 4) hX dX5_readLine_225 k_X5_endBuy q_640 (c_X5_endBuy n M65 a0) (by decide) rfl rfl rfl ⟨Nat.le_of_ble_eq_true rfl, Nat.le_of_ble_eq_true rfl⟩ ⟨(Nat.le_of_ble_eq_true rfl), (Nat.le_of_ble_eq_true rfl)⟩ (Nat.le_of_ble_eq_true rfl) rfl rfl (fun r66 M67 => ?_)
                  refine s_ifeq (tgt := 235) hX dX5_readLine_228 rfl ?_ ?_
                  · exact hK62 _
                  · refine s_iconst (v := 1) hX dX5_readLine_231 kc_1 ?_
                    refine s_goto (tgt := 236) hX dX5_readLine_232 rfl ?_
                    exact hK59 _
        refine s_swC (tgt := 240) (v := 10) 10 hX dX5_readLine_50 b68 (by decide) ⟨by decide, by decide⟩ rfl rfl ?_ (fun b82 => ?_)
        · refine s_aload_n hX dX5_readLine_240 rfl ?_
          refine s_aload_n hX dX5_readLine_241 rfl ?_
          refine s_getO hX dX5_readLine_242 q_45 rfl (fun j69 => ?_)
          refine s_getI hX dX5_readLine_245 q_149 rfl (fun v70 => ?_)
          refine s_iconst (v := 4) hX dX5_readLine_248 kc_4 ?_
          refine s_callVi (ck1 := 0) (sk1 := 0) (ci := 4) hX dX5_readLine_249 k_X5_isRoom q_562 (c_X5_isRoom n M3 a0 v70 4) (by decide) rfl rfl rfl ⟨Nat.le_of_ble_eq_true rfl, Nat.le_of_ble_eq_true rfl⟩ ⟨(Nat.le_of_ble_eq_true rfl), (Nat.le_of_ble_eq_true rfl)⟩ (Nat.le_of_ble_eq_true rfl) rfl rfl (fun r71 M72 => ?_)
          refine s_jp (fun (s : MemT × Int32) => [some (.ref a0), some (kv ((some k5))), none]) (fun (s : MemT × Int32) => [.int s.2]) (fun (s : MemT × Int32) => s.1) 0 0 275 (fun s => ?_) (fun K73 hK73 => ?_)
          · obtain ⟨M74, v75⟩ := s
            dsimp only
            refine s_istore2 hX dX5_readLine_275 (by first | exact trivial | exact rfl) (Nat.le_of_ble_eq_true rfl) ?_
            refine s_goto (tgt := 289) hX dX5_readLine_276 rfl ?_
            exact hK10 _
          · refine s_jp (fun (s : MemT) => [some (.ref a0), some (kv ((some k5))), none]) (fun (s : MemT) => []) (fun (s : MemT) => s) 0 0 274 (fun s => ?_) (fun K76 hK76 => ?_)
            · revert s
              intro M77
              try dsimp only
              refine s_iconst (v := 0) hX dX5_readLine_274 kc_0 ?_
              exact hK73 _
            · refine s_ifeq (tgt := 274) hX dX5_readLine_252 rfl ?_ ?_
              · exact hK76 _
              · refine s_aload_n hX dX5_readLine_255 rfl ?_
                refine s_iconst (v := 3) hX dX5_readLine_256 kc_3 ?_
                refine s_callVi (ck1 := 0) (sk1 := 0) (ci := 4) hX dX5_readLine_257 k_X5_takeDeal q_624 (c_X5_takeDeal n M72 a0 3) (by decide) rfl rfl rfl ⟨Nat.le_of_ble_eq_true rfl, Nat.le_of_ble_eq_true rfl⟩ ⟨(Nat.le_of_ble_eq_true rfl), (Nat.le_of_ble_eq_true rfl)⟩ (Nat.le_of_ble_eq_true rfl) rfl rfl (fun r78 M79 => ?_)
                refine s_ifeq (tgt := 274) hX dX5_readLine_260 rfl ?_ ?_
                · exact hK76 _
                · refine s_aload_n hX dX5_readLine_263 rfl ?_
                  refine s_callVi (ck1 := 0) (sk1 := 0) (ci := 4) hX dX5_readLine_264 k_X5_endAsset q_648 (c_X5_endAsset n M79 a0) (by decide) rfl rfl rfl ⟨Nat.le_of_ble_eq_true rfl, Nat.le_of_ble_eq_true rfl⟩ ⟨(Nat.le_of_ble_eq_true rfl), (Nat.le_of_ble_eq_true rfl)⟩ (Nat.le_of_ble_eq_true rfl) rfl rfl (fun r80 M81 => ?_)
                  refine s_ifeq (tgt := 274) hX dX5_readLine_267 rfl ?_ ?_
                  · exact hK76 _
                  · refine s_iconst (v := 1) hX dX5_readLine_270 kc_1 ?_
                    refine s_goto (tgt := 275) hX dX5_readLine_271 rfl ?_
                    exact hK73 _
        refine s_swD (tgt := 279) 11 hX dX5_readLine_50 b82 rfl rfl ?_
        refine s_aload_n hX dX5_readLine_279 rfl ?_
        refine s_iconst (v := 1) hX dX5_readLine_280 kc_1 ?_
        refine s_aload_n hX dX5_readLine_281 rfl ?_
        refine s_getI hX dX5_readLine_282 q_47 rfl (fun v83 => ?_)
        refine s_callVi (ck1 := 0) (sk1 := 0) (ci := 4) hX dX5_readLine_285 k_X5_fail q_546 (c_X5_fail n M3 a0 1 v83) (by decide) rfl rfl rfl ⟨Nat.le_of_ble_eq_true rfl, Nat.le_of_ble_eq_true rfl⟩ ⟨(Nat.le_of_ble_eq_true rfl), (Nat.le_of_ble_eq_true rfl)⟩ (Nat.le_of_ble_eq_true rfl) rfl rfl (fun r84 M85 => ?_)
        refine s_istore2 hX dX5_readLine_288 (by first | exact trivial | exact rfl) (Nat.le_of_ble_eq_true rfl) ?_
        exact hK10 _
  · refine s_icne (tgt := 26) hX dX5_readLine_5 rfl ?_ ?_
    · refine s_aload_n hX dX5_readLine_8 rfl ?_
      refine s_getO hX dX5_readLine_9 q_43 rfl (fun j86 => ?_)
      refine s_aload_n hX dX5_readLine_12 rfl ?_
      refine s_getI hX dX5_readLine_13 q_47 rfl (fun v87 => ?_)
      refine s_aload_n hX dX5_readLine_16 rfl ?_
      refine s_getI hX dX5_readLine_17 q_48 rfl (fun v88 => ?_)
      refine s_callSk (ck1 := 0) (sk1 := 0) hX dX5_readLine_20 k_X8_at q_493 (c_X8_at n M0 j86 v87 v88) rfl rfl ⟨Nat.le_of_ble_eq_true rfl, Nat.le_of_ble_eq_true rfl⟩ ⟨(Nat.le_of_ble_eq_true rfl), (Nat.le_of_ble_eq_true rfl)⟩ (Nat.le_of_ble_eq_true rfl) rfl rfl (fun r89 M90 => ?_)
      refine s_goto (tgt := 27) hX dX5_readLine_23 rfl ?_
      exact hK2 _
    · refine s_null hX dX5_readLine_26 ?_
      exact hK2 _
abbrev rm_X5_read : Room := { frames := 9, cells := 0, slots := 0, locals := 196 }
theorem k_X5_read : KYV yX5_read cX5_read 5 (some .int) 3 := ⟨⟨q_463, q_2, by decide +kernel, by decide +kernel, by decide +kernel⟩, q_461, q_462⟩
set_option maxHeartbeats 4000000 in
set_option maxRecDepth 100000 in
theorem c_X5_read (n : Nat) (M0 : MemT) (a0 : Nat) (a1 : Nat) (a2 : Int32) (a3 : Nat) : Ct iI yX5_read cX5_read 5 (some .int) rm_X5_read [.ref a0, .ref a1, .int a2, .ref a3] M0 (g_X5_read n M0 a0 a1 a2 a3) := by
  unfold g_X5_read
  refine ct_intro RX5 1 [some (.ref a0), some (.ref a1), some (.int a2), some (.ref a3), none] rfl (by decide +kernel) rfl (Nat.le_of_ble_eq_true rfl) (fun X A hX hnm hR => ?_)
  refine s_aload_n hX dX5_read_0 rfl ?_
  refine s_aload_n hX dX5_read_1 rfl ?_
  refine s_iload_n hX dX5_read_2 rfl ?_
  refine s_aload_n hX dX5_read_3 rfl ?_
  refine s_callVu (ck1 := 0) (sk1 := 0) (ci := 4) hX dX5_read_4 k_X5_begin q_464 (c_X5_begin n M0 a0 a1 a2 a3) (by decide) rfl rfl rfl ⟨Nat.le_of_ble_eq_true rfl, Nat.le_of_ble_eq_true rfl⟩ ⟨(Nat.le_of_ble_eq_true rfl), (Nat.le_of_ble_eq_true rfl)⟩ (Nat.le_of_ble_eq_true rfl) rfl rfl (fun r1 M2 => ?_)
  refine s_iconst (v := 0) hX dX5_read_7 kc_0 ?_
  refine s_istore4 hX dX5_read_8 (by first | exact trivial | exact rfl) (Nat.le_of_ble_eq_true rfl) ?_
  refine s_loop (stk := []) (fun (s : MemT × Int32) => [some (.ref a0), some (.ref a1), some (.int a2), some (.ref a3), some (.int s.2)]) (fun (s : MemT × Int32) => s.1) (fun s B5 hB5 hI5 => ?_) n (M2, 0)
  obtain ⟨M3, v4⟩ := s
  dsimp only
  refine s_iload hX dX5_read_10 rfl ?_
  refine s_sipush (v := 700) hX dX5_read_12 ks_700 ?_
  refine s_icgt (tgt := 47) hX dX5_read_15 rfl ?_ ?_
  · refine s_iconst (v := (-1)) hX dX5_read_47 kc_m1 ?_
    exact s_inr hI5 (s_iret hX hR dX5_read_48 (Nat.le_of_ble_eq_true rfl) (Nat.le_of_ble_eq_true rfl))
  · refine s_aload_n hX dX5_read_18 rfl ?_
    refine s_callVu (ck1 := 0) (sk1 := 0) (ci := 4) hX dX5_read_19 k_X5_takeToken q_475 (c_X5_takeToken n M3 a0) (by decide) rfl rfl rfl ⟨Nat.le_of_ble_eq_true rfl, Nat.le_of_ble_eq_true rfl⟩ ⟨(Nat.le_of_ble_eq_true rfl), (Nat.le_of_ble_eq_true rfl)⟩ (Nat.le_of_ble_eq_true rfl) rfl rfl (fun r6 M7 => ?_)
    refine s_aload_n hX dX5_read_22 rfl ?_
    refine s_getI hX dX5_read_23 q_46 rfl (fun v8 => ?_)
    refine s_ifne (tgt := 32) hX dX5_read_26 rfl ?_ ?_
    · refine s_iload hX dX5_read_29 rfl ?_
      exact s_inr hI5 (s_iret hX hR dX5_read_31 (Nat.le_of_ble_eq_true rfl) (Nat.le_of_ble_eq_true rfl))
    · refine s_aload_n hX dX5_read_32 rfl ?_
      refine s_callVi (ck1 := 0) (sk1 := 0) (ci := 4) hX dX5_read_33 k_X5_readLine q_489 (c_X5_readLine n M7 a0) (by decide) rfl rfl rfl ⟨Nat.le_of_ble_eq_true rfl, Nat.le_of_ble_eq_true rfl⟩ ⟨(Nat.le_of_ble_eq_true rfl), (Nat.le_of_ble_eq_true rfl)⟩ (Nat.le_of_ble_eq_true rfl) rfl rfl (fun r9 M10 => ?_)
      refine s_ifne (tgt := 41) hX dX5_read_36 rfl ?_ ?_
      · refine s_iconst (v := (-1)) hX dX5_read_39 kc_m1 ?_
        exact s_inr hI5 (s_iret hX hR dX5_read_40 (Nat.le_of_ble_eq_true rfl) (Nat.le_of_ble_eq_true rfl))
      · refine s_iinc4 (v := v4 + 1) hX dX5_read_41 rfl (by first | exact trivial | exact rfl) (Nat.le_of_ble_eq_true rfl) ?_
        refine s_goto (tgt := 10) hX dX5_read_44 rfl ?_
        exact s_back hB5
abbrev rm_X6_fractionWithSales : Room := { frames := 3, cells := 0, slots := 0, locals := 73 }
theorem k_X6_fractionWithSales : KYV yX6_fractionWithSales cX6_fractionWithSales 2 (some .int) 1 := ⟨⟨q_1051, q_7, by decide +kernel, by decide +kernel, by decide +kernel⟩, q_1049, q_1050⟩
set_option maxHeartbeats 4000000 in
set_option maxRecDepth 100000 in
theorem c_X6_fractionWithSales (n : Nat) (M0 : MemT) (a0 : Nat) (a1 : Int32) : Ct iI yX6_fractionWithSales cX6_fractionWithSales 2 (some .int) rm_X6_fractionWithSales [.ref a0, .int a1] M0 (g_X6_fractionWithSales n M0 a0 a1) := by
  unfold g_X6_fractionWithSales
  refine ct_intro RX6 0 [some (.ref a0), some (.int a1)] rfl (by decide +kernel) rfl (Nat.le_of_ble_eq_true rfl) (fun X A hX hnm hR => ?_)
  refine s_aload_n hX dX6_fractionWithSales_0 rfl ?_
  refine s_aload_n hX dX6_fractionWithSales_1 rfl ?_
  refine s_getO hX dX6_fractionWithSales_2 q_355 rfl (fun j1 => ?_)
  refine s_iconst (v := 0) hX dX6_fractionWithSales_5 kc_0 ?_
  refine s_lald hX dX6_fractionWithSales_6 (fun v2 => ?_)
  refine s_iload_n hX dX6_fractionWithSales_7 rfl ?_
  refine s_i2l hX dX6_fractionWithSales_8 ?_
  refine s_ladd hX dX6_fractionWithSales_9 ?_
  refine s_aload_n hX dX6_fractionWithSales_10 rfl ?_
  refine s_getO hX dX6_fractionWithSales_11 q_355 rfl (fun j3 => ?_)
  refine s_iconst (v := 0) hX dX6_fractionWithSales_14 kc_0 ?_
  refine s_lald hX dX6_fractionWithSales_15 (fun v4 => ?_)
  refine s_iload_n hX dX6_fractionWithSales_16 rfl ?_
  refine s_i2l hX dX6_fractionWithSales_17 ?_
  refine s_ladd hX dX6_fractionWithSales_18 ?_
  refine s_aload_n hX dX6_fractionWithSales_19 rfl ?_
  refine s_getO hX dX6_fractionWithSales_20 q_355 rfl (fun j5 => ?_)
  refine s_iconst (v := 1) hX dX6_fractionWithSales_23 kc_1 ?_
  refine s_lald hX dX6_fractionWithSales_24 (fun v6 => ?_)
  refine s_ladd hX dX6_fractionWithSales_25 ?_
  refine s_callVi (ck1 := 0) (sk1 := 0) (ci := 5) hX dX6_fractionWithSales_26 k_X6_fractionOf q_825 (c_X6_fractionOf n M0 a0 (v2 + (Int32.toInt64 a1)) ((v4 + (Int32.toInt64 a1)) + v6)) (by decide) rfl rfl rfl ⟨Nat.le_of_ble_eq_true rfl, Nat.le_of_ble_eq_true rfl⟩ ⟨(Nat.le_of_ble_eq_true rfl), (Nat.le_of_ble_eq_true rfl)⟩ (Nat.le_of_ble_eq_true rfl) rfl rfl (fun r7 M8 => ?_)
  exact s_iret hX hR dX6_fractionWithSales_29 (Nat.le_of_ble_eq_true rfl) (Nat.le_of_ble_eq_true rfl)
abbrev rm_X6_isSmall : Room := { frames := 3, cells := 0, slots := 0, locals := 72 }
theorem k_X6_isSmall : KYV yX6_isSmall cX6_isSmall 2 (some .boolean) 1 := ⟨⟨q_956, q_7, by decide +kernel, by decide +kernel, by decide +kernel⟩, q_954, q_955⟩
set_option maxHeartbeats 4000000 in
set_option maxRecDepth 100000 in
theorem c_X6_isSmall (n : Nat) (M0 : MemT) (a0 : Nat) (a1 : Int32) : Ct iI yX6_isSmall cX6_isSmall 2 (some .boolean) rm_X6_isSmall [.ref a0, .int a1] M0 (g_X6_isSmall n M0 a0 a1) := by
  unfold g_X6_isSmall
  refine ct_intro RX6 0 [some (.ref a0), some (.int a1)] rfl (by decide +kernel) rfl (Nat.le_of_ble_eq_true rfl) (fun X A hX hnm hR => ?_)
  refine s_aload_n hX dX6_isSmall_0 rfl ?_
  refine s_aload_n hX dX6_isSmall_1 rfl ?_
  refine s_iload_n hX dX6_isSmall_2 rfl ?_
  refine s_callVj (ck1 := 0) (sk1 := 0) (ci := 5) hX dX6_isSmall_3 k_X6_leftBy q_840 (c_X6_leftBy n M0 a0 a1) (by decide) rfl rfl rfl ⟨Nat.le_of_ble_eq_true rfl, Nat.le_of_ble_eq_true rfl⟩ ⟨(Nat.le_of_ble_eq_true rfl), (Nat.le_of_ble_eq_true rfl)⟩ (Nat.le_of_ble_eq_true rfl) rfl rfl (fun r1 M2 => ?_)
  refine s_callVi (ck1 := 0) (sk1 := 0) (ci := 5) hX dX6_isSmall_6 k_X6_isSmallLeft q_844 (c_X6_isSmallLeft n M2 a0 r1) (by decide) rfl rfl rfl ⟨Nat.le_of_ble_eq_true rfl, Nat.le_of_ble_eq_true rfl⟩ ⟨(Nat.le_of_ble_eq_true rfl), (Nat.le_of_ble_eq_true rfl)⟩ (Nat.le_of_ble_eq_true rfl) rfl rfl (fun r3 M4 => ?_)
  exact s_zret hX hR dX6_isSmall_9 (Nat.le_of_ble_eq_true rfl) (Nat.le_of_ble_eq_true rfl)
abbrev rm_X6_leastLimit : Room := { frames := 3, cells := 0, slots := 0, locals := 72 }
theorem k_X6_leastLimit : KYV yX6_leastLimit cX6_leastLimit 4 (some .int) 1 := ⟨⟨q_1025, q_7, by decide +kernel, by decide +kernel, by decide +kernel⟩, q_1023, q_1024⟩
set_option maxHeartbeats 4000000 in
set_option maxRecDepth 100000 in
theorem c_X6_leastLimit (n : Nat) (M0 : MemT) (a0 : Nat) (a1 : Int32) : Ct iI yX6_leastLimit cX6_leastLimit 4 (some .int) rm_X6_leastLimit [.ref a0, .int a1] M0 (g_X6_leastLimit n M0 a0 a1) := by
  unfold g_X6_leastLimit
  refine ct_intro RX6 2 [some (.ref a0), some (.int a1), none, none] rfl (by decide +kernel) rfl (Nat.le_of_ble_eq_true rfl) (fun X A hX hnm hR => ?_)
  refine s_aload_n hX dX6_leastLimit_0 rfl ?_
  refine s_iload_n hX dX6_leastLimit_1 rfl ?_
  refine s_callVj (ck1 := 0) (sk1 := 0) (ci := 5) hX dX6_leastLimit_2 k_X6_leftBy q_840 (c_X6_leftBy n M0 a0 a1) (by decide) rfl rfl rfl ⟨Nat.le_of_ble_eq_true rfl, Nat.le_of_ble_eq_true rfl⟩ ⟨(Nat.le_of_ble_eq_true rfl), (Nat.le_of_ble_eq_true rfl)⟩ (Nat.le_of_ble_eq_true rfl) rfl rfl (fun r1 M2 => ?_)
  refine s_lstore2 hX dX6_leastLimit_5 (by first | exact trivial | exact rfl) (Nat.le_of_ble_eq_true rfl) ?_
  refine s_ldc2 hX dX6_leastLimit_6 q_848 ?_
  refine s_lload_n hX dX6_leastLimit_9 rfl ?_
  refine s_lmul hX dX6_leastLimit_10 ?_
  refine s_aload_n hX dX6_leastLimit_11 rfl ?_
  refine s_callVj (ck1 := 0) (sk1 := 0) (ci := 5) hX dX6_leastLimit_12 k_X6_allTax q_849 (c_X6_allTax n M2 a0) (by decide) rfl rfl rfl ⟨Nat.le_of_ble_eq_true rfl, Nat.le_of_ble_eq_true rfl⟩ ⟨(Nat.le_of_ble_eq_true rfl), (Nat.le_of_ble_eq_true rfl)⟩ (Nat.le_of_ble_eq_true rfl) rfl rfl (fun r3 M4 => ?_)
  refine s_lcmp hX dX6_leastLimit_15 ?_
  refine s_ifgt (tgt := 24) hX dX6_leastLimit_16 rfl ?_ ?_
  · refine s_bipush (v := (-2)) hX dX6_leastLimit_24 kb_m2 ?_
    exact s_iret hX hR dX6_leastLimit_26 (Nat.le_of_ble_eq_true rfl) (Nat.le_of_ble_eq_true rfl)
  · refine s_lload_n hX dX6_leastLimit_19 rfl ?_
    refine s_l2i hX dX6_leastLimit_20 ?_
    refine s_goto (tgt := 26) hX dX6_leastLimit_21 rfl ?_
    exact s_iret hX hR dX6_leastLimit_26 (Nat.le_of_ble_eq_true rfl) (Nat.le_of_ble_eq_true rfl)
abbrev rm_X9_init : Room := { frames := 4, cells := 148, slots := 6396, locals := 81 }
theorem k_X9_init : KYI yX9_init cX9_init 1 0 := ⟨⟨q_29, q_1, by decide +kernel, by decide +kernel, by decide +kernel⟩, rfl, q_28⟩
set_option maxHeartbeats 4000000 in
set_option maxRecDepth 100000 in
theorem c_X9_init (n : Nat) (M0 : MemT) (a0 : Nat) : Ct iU yX9_init cX9_init 1 none rm_X9_init [.ref a0] M0 (g_X9_init n M0 a0) := by
  unfold g_X9_init
  refine ct_intro RX9 0 [some (.ref a0)] rfl (by decide +kernel) rfl (Nat.le_of_ble_eq_true rfl) (fun X A hX hnm hR => ?_)
  refine s_aload_n hX dX9_init_0 rfl ?_
  refine s_objInit hX dX9_init_1 q_30 q_31 q_32 (Nat.le_of_ble_eq_true rfl) (Nat.le_of_ble_eq_true rfl) ?_
  refine s_aload_n hX dX9_init_4 rfl ?_
  refine s_sipush (v := 700) hX dX9_init_5 ks_700 ?_
  refine s_newaB (N := 700) (ck1 := 1) (sk1 := 700) hX dX9_init_8 q_93 (by decide) (by decide) (by decide) (Nat.le_of_ble_eq_true rfl) (Nat.le_of_ble_eq_true rfl) rfl rfl (fun j1 M2 => ?_)
  refine s_putOF hX dX9_init_10 q_420 rfl rfl hnm rfl (fun M3 => ?_)
  refine s_aload_n hX dX9_init_13 rfl ?_
  refine s_new (ck1 := 2) (sk1 := 717) hX dX9_init_14 (by decide) q_33 q_34 q_2 (Nat.le_of_ble_eq_true rfl) (Nat.le_of_ble_eq_true rfl) rfl rfl (fun j4 M5 => ?_)
  refine s_dup hX dX9_init_17 rfl ?_
  refine s_callINu (ck1 := 3) (sk1 := 721) hX dX9_init_18 k_X5_init nx_35 (c_X5_init n M5 j4) rfl rfl ⟨Nat.le_of_ble_eq_true rfl, Nat.le_of_ble_eq_true rfl⟩ ⟨(Nat.le_of_ble_eq_true rfl), (Nat.le_of_ble_eq_true rfl)⟩ (Nat.le_of_ble_eq_true rfl) rfl rfl (fun r6 M7 => ?_)
  refine s_putOF hX dX9_init_21 q_422 rfl rfl hnm rfl (fun M8 => ?_)
  refine s_aload_n hX dX9_init_24 rfl ?_
  refine s_new (ck1 := 4) (sk1 := 737) hX dX9_init_25 (by decide) q_95 q_96 q_3 (Nat.le_of_ble_eq_true rfl) (Nat.le_of_ble_eq_true rfl) rfl rfl (fun j9 M10 => ?_)
  refine s_dup hX dX9_init_28 rfl ?_
  refine s_callINu (ck1 := 12) (sk1 := 877) hX dX9_init_29 k_X7_init nx_97 (c_X7_init n M10 j9) rfl rfl ⟨Nat.le_of_ble_eq_true rfl, Nat.le_of_ble_eq_true rfl⟩ ⟨(Nat.le_of_ble_eq_true rfl), (Nat.le_of_ble_eq_true rfl)⟩ (Nat.le_of_ble_eq_true rfl) rfl rfl (fun r11 M12 => ?_)
  refine s_putO hX dX9_init_32 q_423 rfl rfl (fun M13 => ?_)
  refine s_aload_n hX dX9_init_35 rfl ?_
  refine s_new (ck1 := 13) (sk1 := 880) hX dX9_init_36 (by decide) q_187 q_188 q_4 (Nat.le_of_ble_eq_true rfl) (Nat.le_of_ble_eq_true rfl) rfl rfl (fun j14 M15 => ?_)
  refine s_dup hX dX9_init_39 rfl ?_
  refine s_callINu (ck1 := 79) (sk1 := 3625) hX dX9_init_40 k_X3_init nx_189 (c_X3_init n M15 j14) rfl rfl ⟨Nat.le_of_ble_eq_true rfl, Nat.le_of_ble_eq_true rfl⟩ ⟨(Nat.le_of_ble_eq_true rfl), (Nat.le_of_ble_eq_true rfl)⟩ (Nat.le_of_ble_eq_true rfl) rfl rfl (fun r16 M17 => ?_)
  refine s_putOF hX dX9_init_43 q_424 rfl rfl hnm rfl (fun M18 => ?_)
  refine s_aload_n hX dX9_init_46 rfl ?_
  refine s_new (ck1 := 80) (sk1 := 3628) hX dX9_init_47 (by decide) q_187 q_188 q_4 (Nat.le_of_ble_eq_true rfl) (Nat.le_of_ble_eq_true rfl) rfl rfl (fun j19 M20 => ?_)
  refine s_dup hX dX9_init_50 rfl ?_
  refine s_callINu (ck1 := 146) (sk1 := 6373) hX dX9_init_51 k_X3_init nx_189 (c_X3_init n M20 j19) rfl rfl ⟨Nat.le_of_ble_eq_true rfl, Nat.le_of_ble_eq_true rfl⟩ ⟨(Nat.le_of_ble_eq_true rfl), (Nat.le_of_ble_eq_true rfl)⟩ (Nat.le_of_ble_eq_true rfl) rfl rfl (fun r21 M22 => ?_)
  refine s_putOF hX dX9_init_54 q_425 rfl rfl hnm rfl (fun M23 => ?_)
  refine s_aload_n hX dX9_init_57 rfl ?_
  refine s_new (ck1 := 147) (sk1 := 6376) hX dX9_init_58 (by decide) q_401 q_402 q_8 (Nat.le_of_ble_eq_true rfl) (Nat.le_of_ble_eq_true rfl) rfl rfl (fun j24 M25 => ?_)
  refine s_dup hX dX9_init_61 rfl ?_
  refine s_callINu (ck1 := 148) (sk1 := 6396) hX dX9_init_62 k_X4_init nx_403 (c_X4_init n M25 j24) rfl rfl ⟨Nat.le_of_ble_eq_true rfl, Nat.le_of_ble_eq_true rfl⟩ ⟨(Nat.le_of_ble_eq_true rfl), (Nat.le_of_ble_eq_true rfl)⟩ (Nat.le_of_ble_eq_true rfl) rfl rfl (fun r26 M27 => ?_)
  refine s_putOF hX dX9_init_65 q_426 rfl rfl hnm rfl (fun M28 => ?_)
  exact s_vret hX hR dX9_init_68 (Nat.le_of_ble_eq_true rfl) (Nat.le_of_ble_eq_true rfl)
abbrev rm_X9_addFourBytes : Room := { frames := 0, cells := 0, slots := 0, locals := 0 }
theorem k_X9_addFourBytes : KYV yX9_addFourBytes cX9_addFourBytes 3 none 1 := ⟨⟨q_455, q_1, by decide +kernel, by decide +kernel, by decide +kernel⟩, q_454, p_0⟩
set_option maxHeartbeats 4000000 in
set_option maxRecDepth 100000 in
theorem c_X9_addFourBytes (n : Nat) (M0 : MemT) (a0 : Nat) (a1 : Int32) : Ct iU yX9_addFourBytes cX9_addFourBytes 3 none rm_X9_addFourBytes [.ref a0, .int a1] M0 (g_X9_addFourBytes n M0 a0 a1) := by
  unfold g_X9_addFourBytes
  refine ct_intro RX9 1 [some (.ref a0), some (.int a1), none] rfl (by decide +kernel) rfl (Nat.le_of_ble_eq_true rfl) (fun X A hX hnm hR => ?_)
  refine s_bipush (v := 24) hX dX9_addFourBytes_0 kb_24 ?_
  refine s_istore2 hX dX9_addFourBytes_2 (by first | exact trivial | exact rfl) (Nat.le_of_ble_eq_true rfl) ?_
  refine s_loopE (stk := []) (fun (s : MemT × Int32) => [some (.ref a0), some (.int a1), some (.int s.2)]) (fun (s : MemT × Int32) => s.1) 48 (fun (s : MemT × Int32) => [some (.ref a0), some (.int a1), some (.int s.2)]) (fun s B3 hB3 hE3 => ?_) (fun s => ?_) n (M0, 24)
  · obtain ⟨M1, v2⟩ := s
    dsimp only
    refine s_iload_n hX dX9_addFourBytes_3 rfl ?_
    refine s_iflt (tgt := 48) hX dX9_addFourBytes_4 rfl ?_ ?_
    · exact s_exit hE3
    · refine s_aload_n hX dX9_addFourBytes_7 rfl ?_
      refine s_getI hX dX9_addFourBytes_8 q_421 rfl (fun v4 => ?_)
      refine s_aload_n hX dX9_addFourBytes_11 rfl ?_
      refine s_getO hX dX9_addFourBytes_12 q_420 rfl (fun j5 => ?_)
      refine s_alen hX dX9_addFourBytes_15 (fun v6 => ?_)
      refine s_icge (tgt := 42) hX dX9_addFourBytes_16 rfl ?_ ?_
      · refine s_iinc2 (v := v2 + (-8)) hX dX9_addFourBytes_42 rfl (by first | exact trivial | exact rfl) (Nat.le_of_ble_eq_true rfl) ?_
        refine s_goto (tgt := 3) hX dX9_addFourBytes_45 rfl ?_
        exact s_back hB3
      · refine s_aload_n hX dX9_addFourBytes_19 rfl ?_
        refine s_getO hX dX9_addFourBytes_20 q_420 rfl (fun j7 => ?_)
        refine s_aload_n hX dX9_addFourBytes_23 rfl ?_
        refine s_getI hX dX9_addFourBytes_24 q_421 rfl (fun v8 => ?_)
        refine s_iload_n hX dX9_addFourBytes_27 rfl ?_
        refine s_iload_n hX dX9_addFourBytes_28 rfl ?_
        refine s_ishr hX dX9_addFourBytes_29 ?_
        refine s_i2b hX dX9_addFourBytes_30 ?_
        refine s_bast hX dX9_addFourBytes_31 (fun M9 => ?_)
        refine s_aload_n hX dX9_addFourBytes_32 rfl ?_
        refine s_dup hX dX9_addFourBytes_33 rfl ?_
        refine s_getI hX dX9_addFourBytes_34 q_421 rfl (fun v10 => ?_)
        refine s_iconst (v := 1) hX dX9_addFourBytes_37 kc_1 ?_
        refine s_iadd hX dX9_addFourBytes_38 ?_
        refine s_putI hX dX9_addFourBytes_39 q_421 rfl rfl (fun M11 => ?_)
        refine s_iinc2 (v := v2 + (-8)) hX dX9_addFourBytes_42 rfl (by first | exact trivial | exact rfl) (Nat.le_of_ble_eq_true rfl) ?_
        refine s_goto (tgt := 3) hX dX9_addFourBytes_45 rfl ?_
        exact s_back hB3
  · obtain ⟨M12, v13⟩ := s
    dsimp only
    exact s_vret hX hR dX9_addFourBytes_48 (Nat.le_of_ble_eq_true rfl) (Nat.le_of_ble_eq_true rfl)
abbrev rm_X9_feed : Room := { frames := 1, cells := 0, slots := 0, locals := 22 }
theorem k_X9_feed : KYV yX9_feed cX9_feed 6 (some .int) 5 := ⟨⟨q_451, q_1, by decide +kernel, by decide +kernel, by decide +kernel⟩, q_449, q_450⟩
set_option maxHeartbeats 4000000 in
set_option maxRecDepth 100000 in
theorem c_X9_feed (n : Nat) (M0 : MemT) (a0 : Nat) (a1 : Int32) (a2 : Int32) (a3 : Int32) (a4 : Int32) (a5 : Int32) : Ct iI yX9_feed cX9_feed 6 (some .int) rm_X9_feed [.ref a0, .int a1, .int a2, .int a3, .int a4, .int a5] M0 (g_X9_feed n M0 a0 a1 a2 a3 a4 a5) := by
  unfold g_X9_feed
  refine ct_intro RX9 0 [some (.ref a0), some (.int a1), some (.int a2), some (.int a3), some (.int a4), some (.int a5)] rfl (by decide +kernel) rfl (Nat.le_of_ble_eq_true rfl) (fun X A hX hnm hR => ?_)
  refine s_aload_n hX dX9_feed_0 rfl ?_
  refine s_getI hX dX9_feed_1 q_421 rfl (fun v1 => ?_)
  refine s_bipush (v := 20) hX dX9_feed_4 kb_20 ?_
  refine s_iadd hX dX9_feed_6 ?_
  refine s_sipush (v := 700) hX dX9_feed_7 ks_700 ?_
  refine s_icle (tgt := 15) hX dX9_feed_10 rfl ?_ ?_
  · refine s_aload_n hX dX9_feed_15 rfl ?_
    refine s_iload_n hX dX9_feed_16 rfl ?_
    refine s_callVu (ck1 := 0) (sk1 := 0) (ci := 7) hX dX9_feed_17 k_X9_addFourBytes q_452 (c_X9_addFourBytes n M0 a0 a1) (by decide) rfl rfl rfl ⟨Nat.le_of_ble_eq_true rfl, Nat.le_of_ble_eq_true rfl⟩ ⟨(Nat.le_of_ble_eq_true rfl), (Nat.le_of_ble_eq_true rfl)⟩ (Nat.le_of_ble_eq_true rfl) rfl rfl (fun r2 M3 => ?_)
    refine s_aload_n hX dX9_feed_20 rfl ?_
    refine s_iload_n hX dX9_feed_21 rfl ?_
    refine s_callVu (ck1 := 0) (sk1 := 0) (ci := 7) hX dX9_feed_22 k_X9_addFourBytes q_452 (c_X9_addFourBytes n M3 a0 a2) (by decide) rfl rfl rfl ⟨Nat.le_of_ble_eq_true rfl, Nat.le_of_ble_eq_true rfl⟩ ⟨(Nat.le_of_ble_eq_true rfl), (Nat.le_of_ble_eq_true rfl)⟩ (Nat.le_of_ble_eq_true rfl) rfl rfl (fun r4 M5 => ?_)
    refine s_aload_n hX dX9_feed_25 rfl ?_
    refine s_iload_n hX dX9_feed_26 rfl ?_
    refine s_callVu (ck1 := 0) (sk1 := 0) (ci := 7) hX dX9_feed_27 k_X9_addFourBytes q_452 (c_X9_addFourBytes n M5 a0 a3) (by decide) rfl rfl rfl ⟨Nat.le_of_ble_eq_true rfl, Nat.le_of_ble_eq_true rfl⟩ ⟨(Nat.le_of_ble_eq_true rfl), (Nat.le_of_ble_eq_true rfl)⟩ (Nat.le_of_ble_eq_true rfl) rfl rfl (fun r6 M7 => ?_)
    refine s_aload_n hX dX9_feed_30 rfl ?_
    refine s_iload hX dX9_feed_31 rfl ?_
    refine s_callVu (ck1 := 0) (sk1 := 0) (ci := 7) hX dX9_feed_33 k_X9_addFourBytes q_452 (c_X9_addFourBytes n M7 a0 a4) (by decide) rfl rfl rfl ⟨Nat.le_of_ble_eq_true rfl, Nat.le_of_ble_eq_true rfl⟩ ⟨(Nat.le_of_ble_eq_true rfl), (Nat.le_of_ble_eq_true rfl)⟩ (Nat.le_of_ble_eq_true rfl) rfl rfl (fun r8 M9 => ?_)
    refine s_aload_n hX dX9_feed_36 rfl ?_
    refine s_iload hX dX9_feed_37 rfl ?_
    refine s_callVu (ck1 := 0) (sk1 := 0) (ci := 7) hX dX9_feed_39 k_X9_addFourBytes q_452 (c_X9_addFourBytes n M9 a0 a5) (by decide) rfl rfl rfl ⟨Nat.le_of_ble_eq_true rfl, Nat.le_of_ble_eq_true rfl⟩ ⟨(Nat.le_of_ble_eq_true rfl), (Nat.le_of_ble_eq_true rfl)⟩ (Nat.le_of_ble_eq_true rfl) rfl rfl (fun r10 M11 => ?_)
    refine s_aload_n hX dX9_feed_42 rfl ?_
    refine s_getI hX dX9_feed_43 q_421 rfl (fun v12 => ?_)
    exact s_iret hX hR dX9_feed_46 (Nat.le_of_ble_eq_true rfl) (Nat.le_of_ble_eq_true rfl)
  · refine s_iconst (v := (-1)) hX dX9_feed_13 kc_m1 ?_
    exact s_iret hX hR dX9_feed_14 (Nat.le_of_ble_eq_true rfl) (Nat.le_of_ble_eq_true rfl)
abbrev rm_X9_text : Room := { frames := 10, cells := 0, slots := 0, locals := 220 }
theorem k_X9_text : KYV yX9_text cX9_text 4 (some .int) 1 := ⟨⟨q_459, q_1, by decide +kernel, by decide +kernel, by decide +kernel⟩, q_457, q_458⟩
set_option maxHeartbeats 4000000 in
set_option maxRecDepth 100000 in
theorem c_X9_text (n : Nat) (M0 : MemT) (a0 : Nat) (a1 : Int32) : Ct iI yX9_text cX9_text 4 (some .int) rm_X9_text [.ref a0, .int a1] M0 (g_X9_text n M0 a0 a1) := by
  unfold g_X9_text
  refine ct_intro RX9 2 [some (.ref a0), some (.int a1), none, none] rfl (by decide +kernel) rfl (Nat.le_of_ble_eq_true rfl) (fun X A hX hnm hR => ?_)
  refine s_iload_n hX dX9_text_0 rfl ?_
  refine s_iflt (tgt := 12) hX dX9_text_1 rfl ?_ ?_
  · refine s_bipush (v := (-2)) hX dX9_text_12 kb_m2 ?_
    exact s_iret hX hR dX9_text_14 (Nat.le_of_ble_eq_true rfl) (Nat.le_of_ble_eq_true rfl)
  · refine s_iload_n hX dX9_text_4 rfl ?_
    refine s_aload_n hX dX9_text_5 rfl ?_
    refine s_getI hX dX9_text_6 q_421 rfl (fun v1 => ?_)
    refine s_icle (tgt := 15) hX dX9_text_9 rfl ?_ ?_
    · refine s_aload_n hX dX9_text_15 rfl ?_
      refine s_iconst (v := 0) hX dX9_text_16 kc_0 ?_
      refine s_putI hX dX9_text_17 q_421 rfl rfl (fun M2 => ?_)
      refine s_aload_n hX dX9_text_20 rfl ?_
      refine s_getO hX dX9_text_21 q_422 rfl (fun j3 => ?_)
      refine s_aload_n hX dX9_text_24 rfl ?_
      refine s_getO hX dX9_text_25 q_420 rfl (fun j4 => ?_)
      refine s_iload_n hX dX9_text_28 rfl ?_
      refine s_aload_n hX dX9_text_29 rfl ?_
      refine s_getO hX dX9_text_30 q_423 rfl (fun j5 => ?_)
      refine s_callVi (ck1 := 0) (sk1 := 0) (ci := 4) hX dX9_text_33 k_X5_read q_460 (c_X5_read n M2 j3 j4 a1 j5) (by decide) rfl rfl rfl ⟨Nat.le_of_ble_eq_true rfl, Nat.le_of_ble_eq_true rfl⟩ ⟨(Nat.le_of_ble_eq_true rfl), (Nat.le_of_ble_eq_true rfl)⟩ (Nat.le_of_ble_eq_true rfl) rfl rfl (fun r6 M7 => ?_)
      refine s_istore2 hX dX9_text_36 (by first | exact trivial | exact rfl) (Nat.le_of_ble_eq_true rfl) ?_
      refine s_iload_n hX dX9_text_37 rfl ?_
      refine s_iconst (v := (-1)) hX dX9_text_38 kc_m1 ?_
      refine s_iceq (tgt := 78) hX dX9_text_39 rfl ?_ ?_
      · refine s_iload_n hX dX9_text_78 rfl ?_
        exact s_iret hX hR dX9_text_79 (Nat.le_of_ble_eq_true rfl) (Nat.le_of_ble_eq_true rfl)
      · refine s_aload_n hX dX9_text_42 rfl ?_
        refine s_getO hX dX9_text_43 q_423 rfl (fun j8 => ?_)
        refine s_astore3 hX dX9_text_46 (by first | exact trivial | exact rfl) (Nat.le_of_ble_eq_true rfl) ?_
        refine s_aload_n hX dX9_text_47 rfl ?_
        refine s_aload_n hX dX9_text_48 rfl ?_
        refine s_getO hX dX9_text_49 q_424 rfl (fun j9 => ?_)
        refine s_getO hX dX9_text_52 q_390 rfl (fun j10 => ?_)
        refine s_putO hX dX9_text_55 q_423 rfl rfl (fun M11 => ?_)
        refine s_aload_n hX dX9_text_58 rfl ?_
        refine s_getO hX dX9_text_59 q_424 rfl (fun j12 => ?_)
        refine s_aload_n hX dX9_text_62 rfl ?_
        refine s_callVu (ck1 := 0) (sk1 := 0) (ci := 2) hX dX9_text_63 k_X3_open q_659 (c_X3_open n M11 j12 j8) (by decide) rfl rfl rfl ⟨Nat.le_of_ble_eq_true rfl, Nat.le_of_ble_eq_true rfl⟩ ⟨(Nat.le_of_ble_eq_true rfl), (Nat.le_of_ble_eq_true rfl)⟩ (Nat.le_of_ble_eq_true rfl) rfl rfl (fun r13 M14 => ?_)
        refine s_aload_n hX dX9_text_66 rfl ?_
        refine s_getO hX dX9_text_67 q_426 rfl (fun j15 => ?_)
        refine s_callVu (ck1 := 0) (sk1 := 0) (ci := 3) hX dX9_text_70 k_X4_clear q_694 (c_X4_clear n M14 j15) (by decide) rfl rfl rfl ⟨Nat.le_of_ble_eq_true rfl, Nat.le_of_ble_eq_true rfl⟩ ⟨(Nat.le_of_ble_eq_true rfl), (Nat.le_of_ble_eq_true rfl)⟩ (Nat.le_of_ble_eq_true rfl) rfl rfl (fun r16 M17 => ?_)
        refine s_aload_n hX dX9_text_73 rfl ?_
        refine s_iconst (v := 0) hX dX9_text_74 kc_0 ?_
        refine s_putZ hX dX9_text_75 q_428 rfl rfl (fun M18 => ?_)
        refine s_iload_n hX dX9_text_78 rfl ?_
        exact s_iret hX hR dX9_text_79 (Nat.le_of_ble_eq_true rfl) (Nat.le_of_ble_eq_true rfl)
    · refine s_bipush (v := (-2)) hX dX9_text_12 kb_m2 ?_
      exact s_iret hX hR dX9_text_14 (Nat.le_of_ble_eq_true rfl) (Nat.le_of_ble_eq_true rfl)
abbrev rm_X9_fault : Room := { frames := 0, cells := 0, slots := 0, locals := 0 }
theorem k_X9_fault : KYV yX9_fault cX9_fault 2 (some .int) 1 := ⟨⟨q_701, q_1, by decide +kernel, by decide +kernel, by decide +kernel⟩, q_699, q_700⟩
set_option maxHeartbeats 4000000 in
set_option maxRecDepth 100000 in
theorem c_X9_fault (n : Nat) (M0 : MemT) (a0 : Nat) (a1 : Int32) : Ct iI yX9_fault cX9_fault 2 (some .int) rm_X9_fault [.ref a0, .int a1] M0 (g_X9_fault n M0 a0 a1) := by
  unfold g_X9_fault
  refine ct_intro RX9 0 [some (.ref a0), some (.int a1)] rfl (by decide +kernel) rfl (Nat.le_of_ble_eq_true rfl) (fun X A hX hnm hR => ?_)
  refine s_iload_n hX dX9_fault_0 rfl ?_
  refine s_look2 (t0 := 28) (t1 := 36) (t2 := 44) hX dX9_fault_1 rfl rfl rfl ?_ ?_ ?_
  · refine s_aload_n hX dX9_fault_28 rfl ?_
    refine s_getO hX dX9_fault_29 q_422 rfl (fun j1 => ?_)
    refine s_getI hX dX9_fault_32 q_40 rfl (fun v2 => ?_)
    exact s_iret hX hR dX9_fault_35 (Nat.le_of_ble_eq_true rfl) (Nat.le_of_ble_eq_true rfl)
  · refine s_aload_n hX dX9_fault_36 rfl ?_
    refine s_getO hX dX9_fault_37 q_422 rfl (fun j3 => ?_)
    refine s_getI hX dX9_fault_40 q_42 rfl (fun v4 => ?_)
    exact s_iret hX hR dX9_fault_43 (Nat.le_of_ble_eq_true rfl) (Nat.le_of_ble_eq_true rfl)
  · refine s_iconst (v := (-1)) hX dX9_fault_44 kc_m1 ?_
    exact s_iret hX hR dX9_fault_45 (Nat.le_of_ble_eq_true rfl) (Nat.le_of_ble_eq_true rfl)
abbrev rm_X9_named : Room := { frames := 1, cells := 0, slots := 0, locals := 22 }
theorem k_X9_named : KYV yX9_named cX9_named 2 (some .int) 1 := ⟨⟨q_705, q_1, by decide +kernel, by decide +kernel, by decide +kernel⟩, q_703, q_704⟩
set_option maxHeartbeats 4000000 in
set_option maxRecDepth 100000 in
theorem c_X9_named (n : Nat) (M0 : MemT) (a0 : Nat) (a1 : Int32) : Ct iI yX9_named cX9_named 2 (some .int) rm_X9_named [.ref a0, .int a1] M0 (g_X9_named n M0 a0 a1) := by
  unfold g_X9_named
  refine ct_intro RX9 0 [some (.ref a0), some (.int a1)] rfl (by decide +kernel) rfl (Nat.le_of_ble_eq_true rfl) (fun X A hX hnm hR => ?_)
  refine s_aload_n hX dX9_named_0 rfl ?_
  refine s_getO hX dX9_named_1 q_424 rfl (fun j1 => ?_)
  refine s_getO hX dX9_named_4 q_390 rfl (fun j2 => ?_)
  refine s_iload_n hX dX9_named_7 rfl ?_
  refine s_callVi (ck1 := 0) (sk1 := 0) (ci := 6) hX dX9_named_8 k_X7_traderNamed q_706 (c_X7_traderNamed n M0 j2 a1) (by decide) rfl rfl rfl ⟨Nat.le_of_ble_eq_true rfl, Nat.le_of_ble_eq_true rfl⟩ ⟨(Nat.le_of_ble_eq_true rfl), (Nat.le_of_ble_eq_true rfl)⟩ (Nat.le_of_ble_eq_true rfl) rfl rfl (fun r3 M4 => ?_)
  exact s_iret hX hR dX9_named_11 (Nat.le_of_ble_eq_true rfl) (Nat.le_of_ble_eq_true rfl)
abbrev rm_X9_isAsset : Room := { frames := 1, cells := 0, slots := 0, locals := 22 }
theorem k_X9_isAsset : KYV yX9_isAsset cX9_isAsset 2 (some .boolean) 1 := ⟨⟨q_714, q_1, by decide +kernel, by decide +kernel, by decide +kernel⟩, q_713, p_23⟩
set_option maxHeartbeats 4000000 in
set_option maxRecDepth 100000 in
theorem c_X9_isAsset (n : Nat) (M0 : MemT) (a0 : Nat) (a1 : Int32) : Ct iI yX9_isAsset cX9_isAsset 2 (some .boolean) rm_X9_isAsset [.ref a0, .int a1] M0 (g_X9_isAsset n M0 a0 a1) := by
  unfold g_X9_isAsset
  refine ct_intro RX9 0 [some (.ref a0), some (.int a1)] rfl (by decide +kernel) rfl (Nat.le_of_ble_eq_true rfl) (fun X A hX hnm hR => ?_)
  refine s_iload_n hX dX9_isAsset_0 rfl ?_
  refine s_iconst (v := 0) hX dX9_isAsset_1 kc_0 ?_
  refine s_aload_n hX dX9_isAsset_2 rfl ?_
  refine s_getO hX dX9_isAsset_3 q_424 rfl (fun j1 => ?_)
  refine s_getO hX dX9_isAsset_6 q_392 rfl (fun j2 => ?_)
  refine s_getI hX dX9_isAsset_9 q_305 rfl (fun v3 => ?_)
  refine s_iconst (v := 1) hX dX9_isAsset_12 kc_1 ?_
  refine s_isub hX dX9_isAsset_13 ?_
  refine s_callSi (ck1 := 0) (sk1 := 0) hX dX9_isAsset_14 k_X9_isIn q_715 (c_X9_isIn n M0 a1 0 (v3 - 1)) rfl rfl ⟨Nat.le_of_ble_eq_true rfl, Nat.le_of_ble_eq_true rfl⟩ ⟨(Nat.le_of_ble_eq_true rfl), (Nat.le_of_ble_eq_true rfl)⟩ (Nat.le_of_ble_eq_true rfl) rfl rfl (fun r4 M5 => ?_)
  exact s_zret hX hR dX9_isAsset_17 (Nat.le_of_ble_eq_true rfl) (Nat.le_of_ble_eq_true rfl)
abbrev rm_X9_asset : Room := { frames := 2, cells := 0, slots := 0, locals := 43 }
theorem k_X9_asset : KYV yX9_asset cX9_asset 4 (some .int) 2 := ⟨⟨q_710, q_1, by decide +kernel, by decide +kernel, by decide +kernel⟩, q_708, q_709⟩
set_option maxHeartbeats 4000000 in
set_option maxRecDepth 100000 in
theorem c_X9_asset (n : Nat) (M0 : MemT) (a0 : Nat) (a1 : Int32) (a2 : Int32) : Ct iI yX9_asset cX9_asset 4 (some .int) rm_X9_asset [.ref a0, .int a1, .int a2] M0 (g_X9_asset n M0 a0 a1 a2) := by
  unfold g_X9_asset
  refine ct_intro RX9 1 [some (.ref a0), some (.int a1), some (.int a2), none] rfl (by decide +kernel) rfl (Nat.le_of_ble_eq_true rfl) (fun X A hX hnm hR => ?_)
  refine s_aload_n hX dX9_asset_0 rfl ?_
  refine s_iload_n hX dX9_asset_1 rfl ?_
  refine s_callVi (ck1 := 0) (sk1 := 0) (ci := 7) hX dX9_asset_2 k_X9_isAsset q_711 (c_X9_isAsset n M0 a0 a1) (by decide) rfl rfl rfl ⟨Nat.le_of_ble_eq_true rfl, Nat.le_of_ble_eq_true rfl⟩ ⟨(Nat.le_of_ble_eq_true rfl), (Nat.le_of_ble_eq_true rfl)⟩ (Nat.le_of_ble_eq_true rfl) rfl rfl (fun r1 M2 => ?_)
  refine s_ifne (tgt := 10) hX dX9_asset_5 rfl ?_ ?_
  · refine s_iconst (v := (-1)) hX dX9_asset_8 kc_m1 ?_
    exact s_iret hX hR dX9_asset_9 (Nat.le_of_ble_eq_true rfl) (Nat.le_of_ble_eq_true rfl)
  · refine s_aload_n hX dX9_asset_10 rfl ?_
    refine s_getO hX dX9_asset_11 q_424 rfl (fun j3 => ?_)
    refine s_getO hX dX9_asset_14 q_392 rfl (fun j4 => ?_)
    refine s_getO hX dX9_asset_17 q_316 rfl (fun j5 => ?_)
    refine s_iload_n hX dX9_asset_20 rfl ?_
    refine s_aald14 hX dX9_asset_21 (fun j6 => ?_)
    refine s_astore3 hX dX9_asset_22 (by first | exact trivial | exact rfl) (Nat.le_of_ble_eq_true rfl) ?_
    refine s_iload_n hX dX9_asset_23 rfl ?_
    have b7 := sw_0 a2 0
    refine s_swC (tgt := 80) (v := 0) 0 hX dX9_asset_24 b7 (by decide) ⟨by decide, by decide⟩ rfl rfl ?_ (fun b9 => ?_)
    · refine s_aload_n hX dX9_asset_80 rfl ?_
      refine s_getI hX dX9_asset_81 q_209 rfl (fun v8 => ?_)
      exact s_iret hX hR dX9_asset_84 (Nat.le_of_ble_eq_true rfl) (Nat.le_of_ble_eq_true rfl)
    refine s_swC (tgt := 85) (v := 1) 1 hX dX9_asset_24 b9 (by decide) ⟨by decide, by decide⟩ rfl rfl ?_ (fun b11 => ?_)
    · refine s_aload_n hX dX9_asset_85 rfl ?_
      refine s_getI hX dX9_asset_86 q_216 rfl (fun v10 => ?_)
      exact s_iret hX hR dX9_asset_89 (Nat.le_of_ble_eq_true rfl) (Nat.le_of_ble_eq_true rfl)
    refine s_swC (tgt := 90) (v := 2) 2 hX dX9_asset_24 b11 (by decide) ⟨by decide, by decide⟩ rfl rfl ?_ (fun b13 => ?_)
    · refine s_aload_n hX dX9_asset_90 rfl ?_
      refine s_getI hX dX9_asset_91 q_219 rfl (fun v12 => ?_)
      exact s_iret hX hR dX9_asset_94 (Nat.le_of_ble_eq_true rfl) (Nat.le_of_ble_eq_true rfl)
    refine s_swC (tgt := 95) (v := 3) 3 hX dX9_asset_24 b13 (by decide) ⟨by decide, by decide⟩ rfl rfl ?_ (fun b15 => ?_)
    · refine s_aload_n hX dX9_asset_95 rfl ?_
      refine s_getI hX dX9_asset_96 q_222 rfl (fun v14 => ?_)
      exact s_iret hX hR dX9_asset_99 (Nat.le_of_ble_eq_true rfl) (Nat.le_of_ble_eq_true rfl)
    refine s_swC (tgt := 100) (v := 4) 4 hX dX9_asset_24 b15 (by decide) ⟨by decide, by decide⟩ rfl rfl ?_ (fun b17 => ?_)
    · refine s_aload_n hX dX9_asset_100 rfl ?_
      refine s_getI hX dX9_asset_101 q_225 rfl (fun v16 => ?_)
      exact s_iret hX hR dX9_asset_104 (Nat.le_of_ble_eq_true rfl) (Nat.le_of_ble_eq_true rfl)
    refine s_swC (tgt := 105) (v := 5) 5 hX dX9_asset_24 b17 (by decide) ⟨by decide, by decide⟩ rfl rfl ?_ (fun b20 => ?_)
    · refine s_aload_n hX dX9_asset_105 rfl ?_
      refine s_getI hX dX9_asset_106 q_252 rfl (fun v18 => ?_)
      refine s_ifle (tgt := 119) hX dX9_asset_109 rfl ?_ ?_
      · refine s_bipush (v := (-2)) hX dX9_asset_119 kb_m2 ?_
        exact s_iret hX hR dX9_asset_121 (Nat.le_of_ble_eq_true rfl) (Nat.le_of_ble_eq_true rfl)
      · refine s_aload_n hX dX9_asset_112 rfl ?_
        refine s_getI hX dX9_asset_113 q_237 rfl (fun v19 => ?_)
        refine s_goto (tgt := 121) hX dX9_asset_116 rfl ?_
        exact s_iret hX hR dX9_asset_121 (Nat.le_of_ble_eq_true rfl) (Nat.le_of_ble_eq_true rfl)
    refine s_swC (tgt := 122) (v := 6) 6 hX dX9_asset_24 b20 (by decide) ⟨by decide, by decide⟩ rfl rfl ?_ (fun b22 => ?_)
    · refine s_aload_n hX dX9_asset_122 rfl ?_
      refine s_getI hX dX9_asset_123 q_227 rfl (fun v21 => ?_)
      exact s_iret hX hR dX9_asset_126 (Nat.le_of_ble_eq_true rfl) (Nat.le_of_ble_eq_true rfl)
    refine s_swC (tgt := 127) (v := 7) 7 hX dX9_asset_24 b22 (by decide) ⟨by decide, by decide⟩ rfl rfl ?_ (fun b24 => ?_)
    · refine s_aload_n hX dX9_asset_127 rfl ?_
      refine s_getI hX dX9_asset_128 q_233 rfl (fun v23 => ?_)
      refine s_ifeq (tgt := 138) hX dX9_asset_131 rfl ?_ ?_
      · refine s_iconst (v := 0) hX dX9_asset_138 kc_0 ?_
        exact s_iret hX hR dX9_asset_139 (Nat.le_of_ble_eq_true rfl) (Nat.le_of_ble_eq_true rfl)
      · refine s_iconst (v := 1) hX dX9_asset_134 kc_1 ?_
        refine s_goto (tgt := 139) hX dX9_asset_135 rfl ?_
        exact s_iret hX hR dX9_asset_139 (Nat.le_of_ble_eq_true rfl) (Nat.le_of_ble_eq_true rfl)
    refine s_swC (tgt := 140) (v := 8) 8 hX dX9_asset_24 b24 (by decide) ⟨by decide, by decide⟩ rfl rfl ?_ (fun b26 => ?_)
    · refine s_aload_n hX dX9_asset_140 rfl ?_
      refine s_getI hX dX9_asset_141 q_213 rfl (fun v25 => ?_)
      exact s_iret hX hR dX9_asset_144 (Nat.le_of_ble_eq_true rfl) (Nat.le_of_ble_eq_true rfl)
    refine s_swC (tgt := 145) (v := 9) 9 hX dX9_asset_24 b26 (by decide) ⟨by decide, by decide⟩ rfl rfl ?_ (fun b29 => ?_)
    · refine s_aload_n hX dX9_asset_145 rfl ?_
      refine s_getI hX dX9_asset_146 q_252 rfl (fun v27 => ?_)
      refine s_ifle (tgt := 159) hX dX9_asset_149 rfl ?_ ?_
      · refine s_bipush (v := (-2)) hX dX9_asset_159 kb_m2 ?_
        exact s_iret hX hR dX9_asset_161 (Nat.le_of_ble_eq_true rfl) (Nat.le_of_ble_eq_true rfl)
      · refine s_aload_n hX dX9_asset_152 rfl ?_
        refine s_getI hX dX9_asset_153 q_240 rfl (fun v28 => ?_)
        refine s_goto (tgt := 161) hX dX9_asset_156 rfl ?_
        exact s_iret hX hR dX9_asset_161 (Nat.le_of_ble_eq_true rfl) (Nat.le_of_ble_eq_true rfl)
    refine s_swD (tgt := 162) 10 hX dX9_asset_24 b29 rfl rfl ?_
    refine s_iconst (v := (-1)) hX dX9_asset_162 kc_m1 ?_
    exact s_iret hX hR dX9_asset_163 (Nat.le_of_ble_eq_true rfl) (Nat.le_of_ble_eq_true rfl)
