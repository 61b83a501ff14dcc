abbrev rm_X10_hand : Room := { frames := 3, cells := 0, slots := 0, locals := 64 }
theorem k_X10_hand : KYV yX10_hand cX10_hand 4 (some .int) 2 := ⟨⟨q_1569, q_9, by decide +kernel, by decide +kernel, by decide +kernel⟩, q_1567, q_1568⟩
set_option maxHeartbeats 4000000 in
set_option maxRecDepth 100000 in
theorem c_X10_hand (n : Nat) (M0 : MemT) (a0 : Nat) (a1 : Int32) (a2 : Int32) : Ct iI yX10_hand cX10_hand 4 (some .int) rm_X10_hand [.ref a0, .int a1, .int a2] M0 (g_X10_hand n M0 a0 a1 a2) := by
  unfold g_X10_hand
  refine ct_intro RX10 1 [some (.ref a0), some (.int a1), some (.int a2), none] rfl (by decide +kernel) rfl (Nat.le_of_ble_eq_true rfl) (fun X A hX hnm hR => ?_)
  refine s_aload_n hX dX10_hand_0 rfl ?_
  refine s_iconst (v := 0) hX dX10_hand_1 kc_0 ?_
  refine s_putI hX dX10_hand_2 q_1308 rfl rfl (fun M1 => ?_)
  refine s_aload_n hX dX10_hand_5 rfl ?_
  refine s_iload_n hX dX10_hand_6 rfl ?_
  refine s_callVi (ck1 := 0) (sk1 := 0) (ci := 8) hX dX10_hand_7 k_X10_isAsset q_1542 (c_X10_isAsset n M1 a0 a1) (by decide) rfl rfl rfl ⟨Nat.le_of_ble_eq_true rfl, Nat.le_of_ble_eq_true rfl⟩ ⟨(Nat.le_of_ble_eq_true rfl), (Nat.le_of_ble_eq_true rfl)⟩ (Nat.le_of_ble_eq_true rfl) rfl rfl (fun r2 M3 => ?_)
  refine s_ifeq (tgt := 21) hX dX10_hand_10 rfl ?_ ?_
  · refine s_iconst (v := (-1)) hX dX10_hand_21 kc_m1 ?_
    exact s_iret hX hR dX10_hand_22 (Nat.le_of_ble_eq_true rfl) (Nat.le_of_ble_eq_true rfl)
  · refine s_aload_n hX dX10_hand_13 rfl ?_
    refine s_iload_n hX dX10_hand_14 rfl ?_
    refine s_callVi (ck1 := 0) (sk1 := 0) (ci := 8) hX dX10_hand_15 k_X10_isTrader q_1510 (c_X10_isTrader n M3 a0 a2) (by decide) rfl rfl rfl ⟨Nat.le_of_ble_eq_true rfl, Nat.le_of_ble_eq_true rfl⟩ ⟨(Nat.le_of_ble_eq_true rfl), (Nat.le_of_ble_eq_true rfl)⟩ (Nat.le_of_ble_eq_true rfl) rfl rfl (fun r4 M5 => ?_)
    refine s_ifne (tgt := 23) hX dX10_hand_18 rfl ?_ ?_
    · refine s_iconst (v := (-1)) hX dX10_hand_21 kc_m1 ?_
      exact s_iret hX hR dX10_hand_22 (Nat.le_of_ble_eq_true rfl) (Nat.le_of_ble_eq_true rfl)
    · refine s_aload_n hX dX10_hand_23 rfl ?_
      refine s_iload_n hX dX10_hand_24 rfl ?_
      refine s_callVi (ck1 := 0) (sk1 := 0) (ci := 8) hX dX10_hand_25 k_X10_isGone q_1546 (c_X10_isGone n M5 a0 a1) (by decide) rfl rfl rfl ⟨Nat.le_of_ble_eq_true rfl, Nat.le_of_ble_eq_true rfl⟩ ⟨(Nat.le_of_ble_eq_true rfl), (Nat.le_of_ble_eq_true rfl)⟩ (Nat.le_of_ble_eq_true rfl) rfl rfl (fun r6 M7 => ?_)
      refine s_ifeq (tgt := 34) hX dX10_hand_28 rfl ?_ ?_
      · refine s_aload_n hX dX10_hand_34 rfl ?_
        refine s_callVu (ck1 := 0) (sk1 := 0) (ci := 8) hX dX10_hand_35 k_X10_canUndo q_1514 (c_X10_canUndo n M7 a0) (by decide) rfl rfl rfl ⟨Nat.le_of_ble_eq_true rfl, Nat.le_of_ble_eq_true rfl⟩ ⟨(Nat.le_of_ble_eq_true rfl), (Nat.le_of_ble_eq_true rfl)⟩ (Nat.le_of_ble_eq_true rfl) rfl rfl (fun r8 M9 => ?_)
        refine s_aload_n hX dX10_hand_38 rfl ?_
        refine s_iload_n hX dX10_hand_39 rfl ?_
        refine s_iconst (v := 1) hX dX10_hand_40 kc_1 ?_
        refine s_callVi (ck1 := 0) (sk1 := 0) (ci := 8) hX dX10_hand_41 k_X10_at q_1550 (c_X10_at n M9 a0 a1 1) (by decide) rfl rfl rfl ⟨Nat.le_of_ble_eq_true rfl, Nat.le_of_ble_eq_true rfl⟩ ⟨(Nat.le_of_ble_eq_true rfl), (Nat.le_of_ble_eq_true rfl)⟩ (Nat.le_of_ble_eq_true rfl) rfl rfl (fun r10 M11 => ?_)
        refine s_istore3 hX dX10_hand_44 (by first | exact trivial | exact rfl) (Nat.le_of_ble_eq_true rfl) ?_
        refine s_aload_n hX dX10_hand_45 rfl ?_
        refine s_iload_n hX dX10_hand_46 rfl ?_
        refine s_iconst (v := 1) hX dX10_hand_47 kc_1 ?_
        refine s_iload_n hX dX10_hand_48 rfl ?_
        refine s_callVu (ck1 := 0) (sk1 := 0) (ci := 8) hX dX10_hand_49 k_X10_put q_1302 (c_X10_put n M11 a0 a1 1 a2) (by decide) rfl rfl rfl ⟨Nat.le_of_ble_eq_true rfl, Nat.le_of_ble_eq_true rfl⟩ ⟨(Nat.le_of_ble_eq_true rfl), (Nat.le_of_ble_eq_true rfl)⟩ (Nat.le_of_ble_eq_true rfl) rfl rfl (fun r12 M13 => ?_)
        refine s_iload_n hX dX10_hand_52 rfl ?_
        exact s_iret hX hR dX10_hand_53 (Nat.le_of_ble_eq_true rfl) (Nat.le_of_ble_eq_true rfl)
      · refine s_bipush (v := (-2)) hX dX10_hand_31 kb_m2 ?_
        exact s_iret hX hR dX10_hand_33 (Nat.le_of_ble_eq_true rfl) (Nat.le_of_ble_eq_true rfl)
abbrev rm_X10_close : Room := { frames := 9, cells := 0, slots := 0, locals := 223 }
theorem k_X10_close : KYV yX10_close cX10_close 4 (some .int) 1 := ⟨⟨q_1573, q_9, by decide +kernel, by decide +kernel, by decide +kernel⟩, q_1571, q_1572⟩
set_option maxHeartbeats 4000000 in
set_option maxRecDepth 100000 in
theorem c_X10_close (n : Nat) (M0 : MemT) (a0 : Nat) (a1 : Int32) : Ct iI yX10_close cX10_close 4 (some .int) rm_X10_close [.ref a0, .int a1] M0 (g_X10_close n M0 a0 a1) := by
  unfold g_X10_close
  refine ct_intro RX10 2 [some (.ref a0), some (.int a1), none, none] rfl (by decide +kernel) rfl (Nat.le_of_ble_eq_true rfl) (fun X A hX hnm hR => ?_)
  refine s_aload_n hX dX10_close_0 rfl ?_
  refine s_iconst (v := 0) hX dX10_close_1 kc_0 ?_
  refine s_putI hX dX10_close_2 q_1308 rfl rfl (fun M1 => ?_)
  refine s_iload_n hX dX10_close_5 rfl ?_
  refine s_iconst (v := 1) hX dX10_close_6 kc_1 ?_
  refine s_bipush (v := 16) hX dX10_close_7 kb_16 ?_
  refine s_callSi (ck1 := 0) (sk1 := 0) hX dX10_close_9 k_X10_isIn q_1447 (c_X10_isIn n M1 a1 1 16) rfl rfl ⟨Nat.le_of_ble_eq_true rfl, Nat.le_of_ble_eq_true rfl⟩ ⟨(Nat.le_of_ble_eq_true rfl), (Nat.le_of_ble_eq_true rfl)⟩ (Nat.le_of_ble_eq_true rfl) rfl rfl (fun r2 M3 => ?_)
  refine s_ifne (tgt := 17) hX dX10_close_12 rfl ?_ ?_
  · refine s_iconst (v := (-1)) hX dX10_close_15 kc_m1 ?_
    exact s_iret hX hR dX10_close_16 (Nat.le_of_ble_eq_true rfl) (Nat.le_of_ble_eq_true rfl)
  · refine s_aload_n hX dX10_close_17 rfl ?_
    refine s_iconst (v := 0) hX dX10_close_18 kc_0 ?_
    refine s_callVi (ck1 := 0) (sk1 := 0) (ci := 8) hX dX10_close_19 k_X10_of q_1286 (c_X10_of n M3 a0 0) (by decide) rfl rfl rfl ⟨Nat.le_of_ble_eq_true rfl, Nat.le_of_ble_eq_true rfl⟩ ⟨(Nat.le_of_ble_eq_true rfl), (Nat.le_of_ble_eq_true rfl)⟩ (Nat.le_of_ble_eq_true rfl) rfl rfl (fun r4 M5 => ?_)
    refine s_iload_n hX dX10_close_22 rfl ?_
    refine s_iadd hX dX10_close_23 ?_
    refine s_bipush (v := 63) hX dX10_close_24 kb_63 ?_
    refine s_icle (tgt := 32) hX dX10_close_26 rfl ?_ ?_
    · refine s_aload_n hX dX10_close_32 rfl ?_
      refine s_callVu (ck1 := 0) (sk1 := 0) (ci := 8) hX dX10_close_33 k_X10_canUndo q_1514 (c_X10_canUndo n M5 a0) (by decide) rfl rfl rfl ⟨Nat.le_of_ble_eq_true rfl, Nat.le_of_ble_eq_true rfl⟩ ⟨(Nat.le_of_ble_eq_true rfl), (Nat.le_of_ble_eq_true rfl)⟩ (Nat.le_of_ble_eq_true rfl) rfl rfl (fun r6 M7 => ?_)
      refine s_aload_n hX dX10_close_36 rfl ?_
      refine s_sipush (v := 1866) hX dX10_close_37 ks_1866 ?_
      refine s_callVi (ck1 := 0) (sk1 := 0) (ci := 8) hX dX10_close_40 k_X10_of q_1286 (c_X10_of n M7 a0 1866) (by decide) rfl rfl rfl ⟨Nat.le_of_ble_eq_true rfl, Nat.le_of_ble_eq_true rfl⟩ ⟨(Nat.le_of_ble_eq_true rfl), (Nat.le_of_ble_eq_true rfl)⟩ (Nat.le_of_ble_eq_true rfl) rfl rfl (fun r8 M9 => ?_)
      refine s_istore2 hX dX10_close_43 (by first | exact trivial | exact rfl) (Nat.le_of_ble_eq_true rfl) ?_
      refine s_iconst (v := 0) hX dX10_close_44 kc_0 ?_
      refine s_istore3 hX dX10_close_45 (by first | exact trivial | exact rfl) (Nat.le_of_ble_eq_true rfl) ?_
      refine s_loopE (stk := []) (fun (s : MemT × Int32) => [some (.ref a0), some (.int a1), some (.int r8), some (.int s.2)]) (fun (s : MemT × Int32) => s.1) 61 (fun (s : MemT × Int32) => [some (.ref a0), some (.int a1), some (.int r8), some (.int s.2)]) (fun s B12 hB12 hE12 => ?_) (fun s => ?_) n (M9, 0)
      · obtain ⟨M10, v11⟩ := s
        dsimp only
        refine s_iload_n hX dX10_close_46 rfl ?_
        refine s_iload_n hX dX10_close_47 rfl ?_
        refine s_icge (tgt := 61) hX dX10_close_48 rfl ?_ ?_
        · exact s_exit hE12
        · refine s_aload_n hX dX10_close_51 rfl ?_
          refine s_callVu (ck1 := 0) (sk1 := 0) (ci := 8) hX dX10_close_52 k_X10_closesQuarter q_1574 (c_X10_closesQuarter n M10 a0) (by decide) rfl rfl rfl ⟨Nat.le_of_ble_eq_true rfl, Nat.le_of_ble_eq_true rfl⟩ ⟨(Nat.le_of_ble_eq_true rfl), (Nat.le_of_ble_eq_true rfl)⟩ (Nat.le_of_ble_eq_true rfl) rfl rfl (fun r13 M14 => ?_)
          refine s_iinc3 (v := v11 + 1) hX dX10_close_55 rfl (by first | exact trivial | exact rfl) (Nat.le_of_ble_eq_true rfl) ?_
          refine s_goto (tgt := 46) hX dX10_close_58 rfl ?_
          exact s_back hB12
      · obtain ⟨M15, v16⟩ := s
        dsimp only
        refine s_aload_n hX dX10_close_61 rfl ?_
        refine s_sipush (v := 1866) hX dX10_close_62 ks_1866 ?_
        refine s_callVi (ck1 := 0) (sk1 := 0) (ci := 8) hX dX10_close_65 k_X10_of q_1286 (c_X10_of n M15 a0 1866) (by decide) rfl rfl rfl ⟨Nat.le_of_ble_eq_true rfl, Nat.le_of_ble_eq_true rfl⟩ ⟨(Nat.le_of_ble_eq_true rfl), (Nat.le_of_ble_eq_true rfl)⟩ (Nat.le_of_ble_eq_true rfl) rfl rfl (fun r17 M18 => ?_)
        refine s_iload_n hX dX10_close_68 rfl ?_
        refine s_isub hX dX10_close_69 ?_
        exact s_iret hX hR dX10_close_70 (Nat.le_of_ble_eq_true rfl) (Nat.le_of_ble_eq_true rfl)
    · refine s_bipush (v := (-2)) hX dX10_close_29 kb_m2 ?_
      exact s_iret hX hR dX10_close_31 (Nat.le_of_ble_eq_true rfl) (Nat.le_of_ble_eq_true rfl)
abbrev rm_X10_fails : Room := { frames := 0, cells := 0, slots := 0, locals := 0 }
theorem k_X10_fails : KYV yX10_fails cX10_fails 2 (some .int) 1 := ⟨⟨q_1681, q_9, by decide +kernel, by decide +kernel, by decide +kernel⟩, q_1680, p_100⟩
set_option maxHeartbeats 4000000 in
set_option maxRecDepth 100000 in
theorem c_X10_fails (n : Nat) (M0 : MemT) (a0 : Nat) (a1 : Int32) : Ct iI yX10_fails cX10_fails 2 (some .int) rm_X10_fails [.ref a0, .int a1] M0 (g_X10_fails n M0 a0 a1) := by
  unfold g_X10_fails
  refine ct_intro RX10 0 [some (.ref a0), some (.int a1)] rfl (by decide +kernel) rfl (Nat.le_of_ble_eq_true rfl) (fun X A hX hnm hR => ?_)
  refine s_aload_n hX dX10_fails_0 rfl ?_
  refine s_iload_n hX dX10_fails_1 rfl ?_
  refine s_putI hX dX10_fails_2 q_1308 rfl rfl (fun M1 => ?_)
  refine s_iconst (v := 0) hX dX10_fails_5 kc_0 ?_
  exact s_iret hX hR dX10_fails_6 (Nat.le_of_ble_eq_true rfl) (Nat.le_of_ble_eq_true rfl)
abbrev rm_X10_trader : Room := { frames := 2, cells := 0, slots := 0, locals := 43 }
theorem k_X10_trader : KYV yX10_trader cX10_trader 5 (some .int) 2 := ⟨⟨q_1677, q_9, by decide +kernel, by decide +kernel, by decide +kernel⟩, q_1675, q_1676⟩
set_option maxHeartbeats 4000000 in
set_option maxRecDepth 100000 in
theorem c_X10_trader (n : Nat) (M0 : MemT) (a0 : Nat) (a1 : Int32) (a2 : Int32) : Ct iI yX10_trader cX10_trader 5 (some .int) rm_X10_trader [.ref a0, .int a1, .int a2] M0 (g_X10_trader n M0 a0 a1 a2) := by
  unfold g_X10_trader
  refine ct_intro RX10 2 [some (.ref a0), some (.int a1), some (.int a2), none, none] rfl (by decide +kernel) rfl (Nat.le_of_ble_eq_true rfl) (fun X A hX hnm hR => ?_)
  refine s_aload_n hX dX10_trader_0 rfl ?_
  refine s_iconst (v := 0) hX dX10_trader_1 kc_0 ?_
  refine s_putI hX dX10_trader_2 q_1308 rfl rfl (fun M1 => ?_)
  refine s_aload_n hX dX10_trader_5 rfl ?_
  refine s_iload_n hX dX10_trader_6 rfl ?_
  refine s_callVi (ck1 := 0) (sk1 := 0) (ci := 8) hX dX10_trader_7 k_X10_isTrader q_1510 (c_X10_isTrader n M1 a0 a1) (by decide) rfl rfl rfl ⟨Nat.le_of_ble_eq_true rfl, Nat.le_of_ble_eq_true rfl⟩ ⟨(Nat.le_of_ble_eq_true rfl), (Nat.le_of_ble_eq_true rfl)⟩ (Nat.le_of_ble_eq_true rfl) rfl rfl (fun r2 M3 => ?_)
  refine s_ifne (tgt := 19) hX dX10_trader_10 rfl ?_ ?_
  · refine s_aload_n hX dX10_trader_13 rfl ?_
    refine s_iconst (v := 1) hX dX10_trader_14 kc_1 ?_
    refine s_callVi (ck1 := 0) (sk1 := 0) (ci := 8) hX dX10_trader_15 k_X10_fails q_1678 (c_X10_fails n M3 a0 1) (by decide) rfl rfl rfl ⟨Nat.le_of_ble_eq_true rfl, Nat.le_of_ble_eq_true rfl⟩ ⟨(Nat.le_of_ble_eq_true rfl), (Nat.le_of_ble_eq_true rfl)⟩ (Nat.le_of_ble_eq_true rfl) rfl rfl (fun r4 M5 => ?_)
    exact s_iret hX hR dX10_trader_18 (Nat.le_of_ble_eq_true rfl) (Nat.le_of_ble_eq_true rfl)
  · refine s_iload_n hX dX10_trader_19 rfl ?_
    have b6 := sw_0 a2 0
    refine s_swC (tgt := 60) (v := 0) 0 hX dX10_trader_20 b6 (by decide) ⟨by decide, by decide⟩ rfl rfl ?_ (fun b9 => ?_)
    · refine s_aload_n hX dX10_trader_60 rfl ?_
      refine s_iload_n hX dX10_trader_61 rfl ?_
      refine s_iconst (v := 1) hX dX10_trader_62 kc_1 ?_
      refine s_callVi (ck1 := 0) (sk1 := 0) (ci := 8) hX dX10_trader_63 k_X10_told1 q_1278 (c_X10_told1 n M3 a0 a1 1) (by decide) rfl rfl rfl ⟨Nat.le_of_ble_eq_true rfl, Nat.le_of_ble_eq_true rfl⟩ ⟨(Nat.le_of_ble_eq_true rfl), (Nat.le_of_ble_eq_true rfl)⟩ (Nat.le_of_ble_eq_true rfl) rfl rfl (fun r7 M8 => ?_)
      exact s_iret hX hR dX10_trader_66 (Nat.le_of_ble_eq_true rfl) (Nat.le_of_ble_eq_true rfl)
    refine s_swC (tgt := 67) (v := 1) 1 hX dX10_trader_20 b9 (by decide) ⟨by decide, by decide⟩ rfl rfl ?_ (fun b12 => ?_)
    · refine s_aload_n hX dX10_trader_67 rfl ?_
      refine s_iload_n hX dX10_trader_68 rfl ?_
      refine s_iconst (v := 2) hX dX10_trader_69 kc_2 ?_
      refine s_callVi (ck1 := 0) (sk1 := 0) (ci := 8) hX dX10_trader_70 k_X10_told1 q_1278 (c_X10_told1 n M3 a0 a1 2) (by decide) rfl rfl rfl ⟨Nat.le_of_ble_eq_true rfl, Nat.le_of_ble_eq_true rfl⟩ ⟨(Nat.le_of_ble_eq_true rfl), (Nat.le_of_ble_eq_true rfl)⟩ (Nat.le_of_ble_eq_true rfl) rfl rfl (fun r10 M11 => ?_)
      exact s_iret hX hR dX10_trader_73 (Nat.le_of_ble_eq_true rfl) (Nat.le_of_ble_eq_true rfl)
    refine s_swC (tgt := 74) (v := 2) 2 hX dX10_trader_20 b12 (by decide) ⟨by decide, by decide⟩ rfl rfl ?_ (fun b15 => ?_)
    · refine s_aload_n hX dX10_trader_74 rfl ?_
      refine s_sipush (v := 1281) hX dX10_trader_75 ks_1281 ?_
      refine s_iconst (v := 2) hX dX10_trader_78 kc_2 ?_
      refine s_iload_n hX dX10_trader_79 rfl ?_
      refine s_imul hX dX10_trader_80 ?_
      refine s_iadd hX dX10_trader_81 ?_
      refine s_callVi (ck1 := 0) (sk1 := 0) (ci := 8) hX dX10_trader_82 k_X10_of q_1286 (c_X10_of n M3 a0 (1281 + (2 * a1))) (by decide) rfl rfl rfl ⟨Nat.le_of_ble_eq_true rfl, Nat.le_of_ble_eq_true rfl⟩ ⟨(Nat.le_of_ble_eq_true rfl), (Nat.le_of_ble_eq_true rfl)⟩ (Nat.le_of_ble_eq_true rfl) rfl rfl (fun r13 M14 => ?_)
      exact s_iret hX hR dX10_trader_85 (Nat.le_of_ble_eq_true rfl) (Nat.le_of_ble_eq_true rfl)
    refine s_swC (tgt := 86) (v := 3) 3 hX dX10_trader_20 b15 (by decide) ⟨by decide, by decide⟩ rfl rfl ?_ (fun b18 => ?_)
    · refine s_aload_n hX dX10_trader_86 rfl ?_
      refine s_sipush (v := 1281) hX dX10_trader_87 ks_1281 ?_
      refine s_iconst (v := 2) hX dX10_trader_90 kc_2 ?_
      refine s_iload_n hX dX10_trader_91 rfl ?_
      refine s_imul hX dX10_trader_92 ?_
      refine s_iadd hX dX10_trader_93 ?_
      refine s_iconst (v := 1) hX dX10_trader_94 kc_1 ?_
      refine s_iadd hX dX10_trader_95 ?_
      refine s_callVi (ck1 := 0) (sk1 := 0) (ci := 8) hX dX10_trader_96 k_X10_of q_1286 (c_X10_of n M3 a0 ((1281 + (2 * a1)) + 1)) (by decide) rfl rfl rfl ⟨Nat.le_of_ble_eq_true rfl, Nat.le_of_ble_eq_true rfl⟩ ⟨(Nat.le_of_ble_eq_true rfl), (Nat.le_of_ble_eq_true rfl)⟩ (Nat.le_of_ble_eq_true rfl) rfl rfl (fun r16 M17 => ?_)
      exact s_iret hX hR dX10_trader_99 (Nat.le_of_ble_eq_true rfl) (Nat.le_of_ble_eq_true rfl)
    refine s_swC (tgt := 100) (v := 4) 4 hX dX10_trader_20 b18 (by decide) ⟨by decide, by decide⟩ rfl rfl ?_ (fun b23 => ?_)
    · refine s_aload_n hX dX10_trader_100 rfl ?_
      refine s_iload_n hX dX10_trader_101 rfl ?_
      refine s_bipush (v := 6) hX dX10_trader_102 kb_6 ?_
      refine s_callVi (ck1 := 0) (sk1 := 0) (ci := 8) hX dX10_trader_104 k_X10_told1 q_1278 (c_X10_told1 n M3 a0 a1 6) (by decide) rfl rfl rfl ⟨Nat.le_of_ble_eq_true rfl, Nat.le_of_ble_eq_true rfl⟩ ⟨(Nat.le_of_ble_eq_true rfl), (Nat.le_of_ble_eq_true rfl)⟩ (Nat.le_of_ble_eq_true rfl) rfl rfl (fun r19 M20 => ?_)
      refine s_iconst (v := 1) hX dX10_trader_107 kc_1 ?_
      refine s_icne (tgt := 121) hX dX10_trader_108 rfl ?_ ?_
      · refine s_aload_n hX dX10_trader_111 rfl ?_
        refine s_iload_n hX dX10_trader_112 rfl ?_
        refine s_bipush (v := 7) hX dX10_trader_113 kb_7 ?_
        refine s_callVi (ck1 := 0) (sk1 := 0) (ci := 8) hX dX10_trader_115 k_X10_told1 q_1278 (c_X10_told1 n M20 a0 a1 7) (by decide) rfl rfl rfl ⟨Nat.le_of_ble_eq_true rfl, Nat.le_of_ble_eq_true rfl⟩ ⟨(Nat.le_of_ble_eq_true rfl), (Nat.le_of_ble_eq_true rfl)⟩ (Nat.le_of_ble_eq_true rfl) rfl rfl (fun r21 M22 => ?_)
        refine s_goto (tgt := 123) hX dX10_trader_118 rfl ?_
        exact s_iret hX hR dX10_trader_123 (Nat.le_of_ble_eq_true rfl) (Nat.le_of_ble_eq_true rfl)
      · refine s_bipush (v := (-2)) hX dX10_trader_121 kb_m2 ?_
        exact s_iret hX hR dX10_trader_123 (Nat.le_of_ble_eq_true rfl) (Nat.le_of_ble_eq_true rfl)
    refine s_swC (tgt := 124) (v := 5) 5 hX dX10_trader_20 b23 (by decide) ⟨by decide, by decide⟩ rfl rfl ?_ (fun b37 => ?_)
    · refine s_iconst (v := 0) hX dX10_trader_124 kc_0 ?_
      refine s_istore3 hX dX10_trader_125 (by first | exact trivial | exact rfl) (Nat.le_of_ble_eq_true rfl) ?_
      refine s_iconst (v := 0) hX dX10_trader_126 kc_0 ?_
      refine s_istore4 hX dX10_trader_127 (by first | exact trivial | exact rfl) (Nat.le_of_ble_eq_true rfl) ?_
      refine s_loopE (stk := []) (fun (s : MemT × Int32 × Int32) => [some (.ref a0), some (.int a1), some (.int a2), some (.int s.2.1), some (.int s.2.2)]) (fun (s : MemT × Int32 × Int32) => s.1) 180 (fun (s : MemT × Int32 × Int32) => [some (.ref a0), some (.int a1), some (.int a2), some (.int s.2.1), some (.int s.2.2)]) (fun s B27 hB27 hE27 => ?_) (fun s => ?_) n (M3, 0, 0)
      · obtain ⟨M24, v25, v26⟩ := s
        dsimp only
        refine s_iload hX dX10_trader_129 rfl ?_
        refine s_aload_n hX dX10_trader_131 rfl ?_
        refine s_sipush (v := 1865) hX dX10_trader_132 ks_1865 ?_
        refine s_callVi (ck1 := 0) (sk1 := 0) (ci := 8) hX dX10_trader_135 k_X10_of q_1286 (c_X10_of n M24 a0 1865) (by decide) rfl rfl rfl ⟨Nat.le_of_ble_eq_true rfl, Nat.le_of_ble_eq_true rfl⟩ ⟨(Nat.le_of_ble_eq_true rfl), (Nat.le_of_ble_eq_true rfl)⟩ (Nat.le_of_ble_eq_true rfl) rfl rfl (fun r28 M29 => ?_)
        refine s_icge (tgt := 180) hX dX10_trader_138 rfl ?_ ?_
        · exact s_exit hE27
        · refine s_iload_n hX dX10_trader_141 rfl ?_
          refine s_aload_n hX dX10_trader_142 rfl ?_
          refine s_iload hX dX10_trader_143 rfl ?_
          refine s_iconst (v := 0) hX dX10_trader_145 kc_0 ?_
          refine s_callVi (ck1 := 0) (sk1 := 0) (ci := 8) hX dX10_trader_146 k_X10_at q_1550 (c_X10_at n M29 a0 v26 0) (by decide) rfl rfl rfl ⟨Nat.le_of_ble_eq_true rfl, Nat.le_of_ble_eq_true rfl⟩ ⟨(Nat.le_of_ble_eq_true rfl), (Nat.le_of_ble_eq_true rfl)⟩ (Nat.le_of_ble_eq_true rfl) rfl rfl (fun r30 M31 => ?_)
          refine s_iload_n hX dX10_trader_149 rfl ?_
          refine s_icne (tgt := 171) hX dX10_trader_150 rfl ?_ ?_
          · refine s_aload_n hX dX10_trader_153 rfl ?_
            refine s_iload hX dX10_trader_154 rfl ?_
            refine s_bipush (v := 9) hX dX10_trader_156 kb_9 ?_
            refine s_callVi (ck1 := 0) (sk1 := 0) (ci := 8) hX dX10_trader_158 k_X10_at q_1550 (c_X10_at n M31 a0 v26 9) (by decide) rfl rfl rfl ⟨Nat.le_of_ble_eq_true rfl, Nat.le_of_ble_eq_true rfl⟩ ⟨(Nat.le_of_ble_eq_true rfl), (Nat.le_of_ble_eq_true rfl)⟩ (Nat.le_of_ble_eq_true rfl) rfl rfl (fun r32 M33 => ?_)
            refine s_ifne (tgt := 171) hX dX10_trader_161 rfl ?_ ?_
            · refine s_iconst (v := 1) hX dX10_trader_164 kc_1 ?_
              refine s_iload hX dX10_trader_165 rfl ?_
              refine s_ishl hX dX10_trader_167 ?_
              refine s_goto (tgt := 172) hX dX10_trader_168 rfl ?_
              refine s_ior hX dX10_trader_172 ?_
              refine s_istore3 hX dX10_trader_173 (by first | exact trivial | exact rfl) (Nat.le_of_ble_eq_true rfl) ?_
              refine s_iinc4 (v := v26 + 1) hX dX10_trader_174 rfl (by first | exact trivial | exact rfl) (Nat.le_of_ble_eq_true rfl) ?_
              refine s_goto (tgt := 129) hX dX10_trader_177 rfl ?_
              exact s_back hB27
            · refine s_iconst (v := 0) hX dX10_trader_171 kc_0 ?_
              refine s_ior hX dX10_trader_172 ?_
              refine s_istore3 hX dX10_trader_173 (by first | exact trivial | exact rfl) (Nat.le_of_ble_eq_true rfl) ?_
              refine s_iinc4 (v := v26 + 1) hX dX10_trader_174 rfl (by first | exact trivial | exact rfl) (Nat.le_of_ble_eq_true rfl) ?_
              refine s_goto (tgt := 129) hX dX10_trader_177 rfl ?_
              exact s_back hB27
          · refine s_iconst (v := 0) hX dX10_trader_171 kc_0 ?_
            refine s_ior hX dX10_trader_172 ?_
            refine s_istore3 hX dX10_trader_173 (by first | exact trivial | exact rfl) (Nat.le_of_ble_eq_true rfl) ?_
            refine s_iinc4 (v := v26 + 1) hX dX10_trader_174 rfl (by first | exact trivial | exact rfl) (Nat.le_of_ble_eq_true rfl) ?_
            refine s_goto (tgt := 129) hX dX10_trader_177 rfl ?_
            exact s_back hB27
      · obtain ⟨M34, v35, v36⟩ := s
        dsimp only
        refine s_iload_n hX dX10_trader_180 rfl ?_
        exact s_iret hX hR dX10_trader_181 (Nat.le_of_ble_eq_true rfl) (Nat.le_of_ble_eq_true rfl)
    refine s_swD (tgt := 182) 6 hX dX10_trader_20 b37 rfl rfl ?_
    refine s_aload_n hX dX10_trader_182 rfl ?_
    refine s_iconst (v := 2) hX dX10_trader_183 kc_2 ?_
    refine s_callVi (ck1 := 0) (sk1 := 0) (ci := 8) hX dX10_trader_184 k_X10_fails q_1678 (c_X10_fails n M3 a0 2) (by decide) rfl rfl rfl ⟨Nat.le_of_ble_eq_true rfl, Nat.le_of_ble_eq_true rfl⟩ ⟨(Nat.le_of_ble_eq_true rfl), (Nat.le_of_ble_eq_true rfl)⟩ (Nat.le_of_ble_eq_true rfl) rfl rfl (fun r38 M39 => ?_)
    exact s_iret hX hR dX10_trader_187 (Nat.le_of_ble_eq_true rfl) (Nat.le_of_ble_eq_true rfl)
abbrev rm_X10_isThrough : Room := { frames := 2, cells := 0, slots := 0, locals := 43 }
theorem k_X10_isThrough : KYV yX10_isThrough cX10_isThrough 2 (some .boolean) 1 := ⟨⟨q_1689, q_9, by decide +kernel, by decide +kernel, by decide +kernel⟩, q_1688, p_101⟩
set_option maxHeartbeats 4000000 in
set_option maxRecDepth 100000 in
theorem c_X10_isThrough (n : Nat) (M0 : MemT) (a0 : Nat) (a1 : Int32) : Ct iI yX10_isThrough cX10_isThrough 2 (some .boolean) rm_X10_isThrough [.ref a0, .int a1] M0 (g_X10_isThrough n M0 a0 a1) := by
  unfold g_X10_isThrough
  refine ct_intro RX10 0 [some (.ref a0), some (.int a1)] rfl (by decide +kernel) rfl (Nat.le_of_ble_eq_true rfl) (fun X A hX hnm hR => ?_)
  refine s_aload_n hX dX10_isThrough_0 rfl ?_
  refine s_iload_n hX dX10_isThrough_1 rfl ?_
  refine s_bipush (v := 47) hX dX10_isThrough_2 kb_47 ?_
  refine s_callVi (ck1 := 0) (sk1 := 0) (ci := 8) hX dX10_isThrough_4 k_X10_at q_1550 (c_X10_at n M0 a0 a1 47) (by decide) rfl rfl rfl ⟨Nat.le_of_ble_eq_true rfl, Nat.le_of_ble_eq_true rfl⟩ ⟨(Nat.le_of_ble_eq_true rfl), (Nat.le_of_ble_eq_true rfl)⟩ (Nat.le_of_ble_eq_true rfl) rfl rfl (fun r1 M2 => ?_)
  refine s_ifle (tgt := 14) hX dX10_isThrough_7 rfl ?_ ?_
  · refine s_iconst (v := 0) hX dX10_isThrough_14 kc_0 ?_
    exact s_zret hX hR dX10_isThrough_15 (Nat.le_of_ble_eq_true rfl) (Nat.le_of_ble_eq_true rfl)
  · refine s_iconst (v := 1) hX dX10_isThrough_10 kc_1 ?_
    refine s_goto (tgt := 15) hX dX10_isThrough_11 rfl ?_
    exact s_zret hX hR dX10_isThrough_15 (Nat.le_of_ble_eq_true rfl) (Nat.le_of_ble_eq_true rfl)
abbrev rm_X10_asset : Room := { frames := 4, cells := 0, slots := 0, locals := 95 }
theorem k_X10_asset : KYV yX10_asset cX10_asset 3 (some .int) 2 := ⟨⟨q_1685, q_9, by decide +kernel, by decide +kernel, by decide +kernel⟩, q_1683, q_1684⟩
set_option maxHeartbeats 4000000 in
set_option maxRecDepth 100000 in
theorem c_X10_asset (n : Nat) (M0 : MemT) (a0 : Nat) (a1 : Int32) (a2 : Int32) : Ct iI yX10_asset cX10_asset 3 (some .int) rm_X10_asset [.ref a0, .int a1, .int a2] M0 (g_X10_asset n M0 a0 a1 a2) := by
  unfold g_X10_asset
  refine ct_intro RX10 0 [some (.ref a0), some (.int a1), some (.int a2)] rfl (by decide +kernel) rfl (Nat.le_of_ble_eq_true rfl) (fun X A hX hnm hR => ?_)
  refine s_aload_n hX dX10_asset_0 rfl ?_
  refine s_iconst (v := 0) hX dX10_asset_1 kc_0 ?_
  refine s_putI hX dX10_asset_2 q_1308 rfl rfl (fun M1 => ?_)
  refine s_aload_n hX dX10_asset_5 rfl ?_
  refine s_iload_n hX dX10_asset_6 rfl ?_
  refine s_callVi (ck1 := 0) (sk1 := 0) (ci := 8) hX dX10_asset_7 k_X10_isAsset q_1542 (c_X10_isAsset n M1 a0 a1) (by decide) rfl rfl rfl ⟨Nat.le_of_ble_eq_true rfl, Nat.le_of_ble_eq_true rfl⟩ ⟨(Nat.le_of_ble_eq_true rfl), (Nat.le_of_ble_eq_true rfl)⟩ (Nat.le_of_ble_eq_true rfl) rfl rfl (fun r2 M3 => ?_)
  refine s_ifne (tgt := 15) hX dX10_asset_10 rfl ?_ ?_
  · refine s_iconst (v := (-1)) hX dX10_asset_13 kc_m1 ?_
    exact s_iret hX hR dX10_asset_14 (Nat.le_of_ble_eq_true rfl) (Nat.le_of_ble_eq_true rfl)
  · refine s_iload_n hX dX10_asset_15 rfl ?_
    have b4 := sw_0 a2 0
    refine s_swC (tgt := 72) (v := 0) 0 hX dX10_asset_16 b4 (by decide) ⟨by decide, by decide⟩ rfl rfl ?_ (fun b7 => ?_)
    · refine s_aload_n hX dX10_asset_72 rfl ?_
      refine s_iload_n hX dX10_asset_73 rfl ?_
      refine s_iconst (v := 0) hX dX10_asset_74 kc_0 ?_
      refine s_callVi (ck1 := 0) (sk1 := 0) (ci := 8) hX dX10_asset_75 k_X10_at q_1550 (c_X10_at n M3 a0 a1 0) (by decide) rfl rfl rfl ⟨Nat.le_of_ble_eq_true rfl, Nat.le_of_ble_eq_true rfl⟩ ⟨(Nat.le_of_ble_eq_true rfl), (Nat.le_of_ble_eq_true rfl)⟩ (Nat.le_of_ble_eq_true rfl) rfl rfl (fun r5 M6 => ?_)
      exact s_iret hX hR dX10_asset_78 (Nat.le_of_ble_eq_true rfl) (Nat.le_of_ble_eq_true rfl)
    refine s_swC (tgt := 79) (v := 1) 1 hX dX10_asset_16 b7 (by decide) ⟨by decide, by decide⟩ rfl rfl ?_ (fun b10 => ?_)
    · refine s_aload_n hX dX10_asset_79 rfl ?_
      refine s_iload_n hX dX10_asset_80 rfl ?_
      refine s_iconst (v := 2) hX dX10_asset_81 kc_2 ?_
      refine s_callVi (ck1 := 0) (sk1 := 0) (ci := 8) hX dX10_asset_82 k_X10_at q_1550 (c_X10_at n M3 a0 a1 2) (by decide) rfl rfl rfl ⟨Nat.le_of_ble_eq_true rfl, Nat.le_of_ble_eq_true rfl⟩ ⟨(Nat.le_of_ble_eq_true rfl), (Nat.le_of_ble_eq_true rfl)⟩ (Nat.le_of_ble_eq_true rfl) rfl rfl (fun r8 M9 => ?_)
      exact s_iret hX hR dX10_asset_85 (Nat.le_of_ble_eq_true rfl) (Nat.le_of_ble_eq_true rfl)
    refine s_swC (tgt := 86) (v := 2) 2 hX dX10_asset_16 b10 (by decide) ⟨by decide, by decide⟩ rfl rfl ?_ (fun b13 => ?_)
    · refine s_aload_n hX dX10_asset_86 rfl ?_
      refine s_iload_n hX dX10_asset_87 rfl ?_
      refine s_iconst (v := 3) hX dX10_asset_88 kc_3 ?_
      refine s_callVi (ck1 := 0) (sk1 := 0) (ci := 8) hX dX10_asset_89 k_X10_at q_1550 (c_X10_at n M3 a0 a1 3) (by decide) rfl rfl rfl ⟨Nat.le_of_ble_eq_true rfl, Nat.le_of_ble_eq_true rfl⟩ ⟨(Nat.le_of_ble_eq_true rfl), (Nat.le_of_ble_eq_true rfl)⟩ (Nat.le_of_ble_eq_true rfl) rfl rfl (fun r11 M12 => ?_)
      exact s_iret hX hR dX10_asset_92 (Nat.le_of_ble_eq_true rfl) (Nat.le_of_ble_eq_true rfl)
    refine s_swC (tgt := 93) (v := 3) 3 hX dX10_asset_16 b13 (by decide) ⟨by decide, by decide⟩ rfl rfl ?_ (fun b16 => ?_)
    · refine s_aload_n hX dX10_asset_93 rfl ?_
      refine s_iload_n hX dX10_asset_94 rfl ?_
      refine s_iconst (v := 4) hX dX10_asset_95 kc_4 ?_
      refine s_callVi (ck1 := 0) (sk1 := 0) (ci := 8) hX dX10_asset_96 k_X10_at q_1550 (c_X10_at n M3 a0 a1 4) (by decide) rfl rfl rfl ⟨Nat.le_of_ble_eq_true rfl, Nat.le_of_ble_eq_true rfl⟩ ⟨(Nat.le_of_ble_eq_true rfl), (Nat.le_of_ble_eq_true rfl)⟩ (Nat.le_of_ble_eq_true rfl) rfl rfl (fun r14 M15 => ?_)
      exact s_iret hX hR dX10_asset_99 (Nat.le_of_ble_eq_true rfl) (Nat.le_of_ble_eq_true rfl)
    refine s_swC (tgt := 100) (v := 4) 4 hX dX10_asset_16 b16 (by decide) ⟨by decide, by decide⟩ rfl rfl ?_ (fun b19 => ?_)
    · refine s_aload_n hX dX10_asset_100 rfl ?_
      refine s_iload_n hX dX10_asset_101 rfl ?_
      refine s_iconst (v := 5) hX dX10_asset_102 kc_5 ?_
      refine s_callVi (ck1 := 0) (sk1 := 0) (ci := 8) hX dX10_asset_103 k_X10_at q_1550 (c_X10_at n M3 a0 a1 5) (by decide) rfl rfl rfl ⟨Nat.le_of_ble_eq_true rfl, Nat.le_of_ble_eq_true rfl⟩ ⟨(Nat.le_of_ble_eq_true rfl), (Nat.le_of_ble_eq_true rfl)⟩ (Nat.le_of_ble_eq_true rfl) rfl rfl (fun r17 M18 => ?_)
      exact s_iret hX hR dX10_asset_106 (Nat.le_of_ble_eq_true rfl) (Nat.le_of_ble_eq_true rfl)
    refine s_swC (tgt := 107) (v := 5) 5 hX dX10_asset_16 b19 (by decide) ⟨by decide, by decide⟩ rfl rfl ?_ (fun b24 => ?_)
    · refine s_aload_n hX dX10_asset_107 rfl ?_
      refine s_iload_n hX dX10_asset_108 rfl ?_
      refine s_callVi (ck1 := 0) (sk1 := 0) (ci := 8) hX dX10_asset_109 k_X10_isThrough q_1686 (c_X10_isThrough n M3 a0 a1) (by decide) rfl rfl rfl ⟨Nat.le_of_ble_eq_true rfl, Nat.le_of_ble_eq_true rfl⟩ ⟨(Nat.le_of_ble_eq_true rfl), (Nat.le_of_ble_eq_true rfl)⟩ (Nat.le_of_ble_eq_true rfl) rfl rfl (fun r20 M21 => ?_)
      refine s_ifeq (tgt := 125) hX dX10_asset_112 rfl ?_ ?_
      · refine s_bipush (v := (-2)) hX dX10_asset_125 kb_m2 ?_
        exact s_iret hX hR dX10_asset_127 (Nat.le_of_ble_eq_true rfl) (Nat.le_of_ble_eq_true rfl)
      · refine s_aload_n hX dX10_asset_115 rfl ?_
        refine s_iload_n hX dX10_asset_116 rfl ?_
        refine s_bipush (v := 6) hX dX10_asset_117 kb_6 ?_
        refine s_callVi (ck1 := 0) (sk1 := 0) (ci := 8) hX dX10_asset_119 k_X10_at q_1550 (c_X10_at n M21 a0 a1 6) (by decide) rfl rfl rfl ⟨Nat.le_of_ble_eq_true rfl, Nat.le_of_ble_eq_true rfl⟩ ⟨(Nat.le_of_ble_eq_true rfl), (Nat.le_of_ble_eq_true rfl)⟩ (Nat.le_of_ble_eq_true rfl) rfl rfl (fun r22 M23 => ?_)
        refine s_goto (tgt := 127) hX dX10_asset_122 rfl ?_
        exact s_iret hX hR dX10_asset_127 (Nat.le_of_ble_eq_true rfl) (Nat.le_of_ble_eq_true rfl)
    refine s_swC (tgt := 128) (v := 6) 6 hX dX10_asset_16 b24 (by decide) ⟨by decide, by decide⟩ rfl rfl ?_ (fun b29 => ?_)
    · refine s_aload_n hX dX10_asset_128 rfl ?_
      refine s_iload_n hX dX10_asset_129 rfl ?_
      refine s_bipush (v := 7) hX dX10_asset_130 kb_7 ?_
      refine s_callVi (ck1 := 0) (sk1 := 0) (ci := 8) hX dX10_asset_132 k_X10_at q_1550 (c_X10_at n M3 a0 a1 7) (by decide) rfl rfl rfl ⟨Nat.le_of_ble_eq_true rfl, Nat.le_of_ble_eq_true rfl⟩ ⟨(Nat.le_of_ble_eq_true rfl), (Nat.le_of_ble_eq_true rfl)⟩ (Nat.le_of_ble_eq_true rfl) rfl rfl (fun r25 M26 => ?_)
      refine s_ifle (tgt := 150) hX dX10_asset_135 rfl ?_ ?_
      · refine s_bipush (v := (-2)) hX dX10_asset_150 kb_m2 ?_
        exact s_iret hX hR dX10_asset_152 (Nat.le_of_ble_eq_true rfl) (Nat.le_of_ble_eq_true rfl)
      · refine s_aload_n hX dX10_asset_138 rfl ?_
        refine s_iload_n hX dX10_asset_139 rfl ?_
        refine s_bipush (v := 7) hX dX10_asset_140 kb_7 ?_
        refine s_callVi (ck1 := 0) (sk1 := 0) (ci := 8) hX dX10_asset_142 k_X10_at q_1550 (c_X10_at n M26 a0 a1 7) (by decide) rfl rfl rfl ⟨Nat.le_of_ble_eq_true rfl, Nat.le_of_ble_eq_true rfl⟩ ⟨(Nat.le_of_ble_eq_true rfl), (Nat.le_of_ble_eq_true rfl)⟩ (Nat.le_of_ble_eq_true rfl) rfl rfl (fun r27 M28 => ?_)
        refine s_iconst (v := 1) hX dX10_asset_145 kc_1 ?_
        refine s_isub hX dX10_asset_146 ?_
        refine s_goto (tgt := 152) hX dX10_asset_147 rfl ?_
        exact s_iret hX hR dX10_asset_152 (Nat.le_of_ble_eq_true rfl) (Nat.le_of_ble_eq_true rfl)
    refine s_swC (tgt := 153) (v := 7) 7 hX dX10_asset_16 b29 (by decide) ⟨by decide, by decide⟩ rfl rfl ?_ (fun b32 => ?_)
    · refine s_aload_n hX dX10_asset_153 rfl ?_
      refine s_iload_n hX dX10_asset_154 rfl ?_
      refine s_bipush (v := 9) hX dX10_asset_155 kb_9 ?_
      refine s_callVi (ck1 := 0) (sk1 := 0) (ci := 8) hX dX10_asset_157 k_X10_at q_1550 (c_X10_at n M3 a0 a1 9) (by decide) rfl rfl rfl ⟨Nat.le_of_ble_eq_true rfl, Nat.le_of_ble_eq_true rfl⟩ ⟨(Nat.le_of_ble_eq_true rfl), (Nat.le_of_ble_eq_true rfl)⟩ (Nat.le_of_ble_eq_true rfl) rfl rfl (fun r30 M31 => ?_)
      exact s_iret hX hR dX10_asset_160 (Nat.le_of_ble_eq_true rfl) (Nat.le_of_ble_eq_true rfl)
    refine s_swC (tgt := 161) (v := 8) 8 hX dX10_asset_16 b32 (by decide) ⟨by decide, by decide⟩ rfl rfl ?_ (fun b35 => ?_)
    · refine s_aload_n hX dX10_asset_161 rfl ?_
      refine s_iload_n hX dX10_asset_162 rfl ?_
      refine s_iconst (v := 1) hX dX10_asset_163 kc_1 ?_
      refine s_callVi (ck1 := 0) (sk1 := 0) (ci := 8) hX dX10_asset_164 k_X10_at q_1550 (c_X10_at n M3 a0 a1 1) (by decide) rfl rfl rfl ⟨Nat.le_of_ble_eq_true rfl, Nat.le_of_ble_eq_true rfl⟩ ⟨(Nat.le_of_ble_eq_true rfl), (Nat.le_of_ble_eq_true rfl)⟩ (Nat.le_of_ble_eq_true rfl) rfl rfl (fun r33 M34 => ?_)
      exact s_iret hX hR dX10_asset_167 (Nat.le_of_ble_eq_true rfl) (Nat.le_of_ble_eq_true rfl)
    refine s_swC (tgt := 168) (v := 9) 9 hX dX10_asset_16 b35 (by decide) ⟨by decide, by decide⟩ rfl rfl ?_ (fun b42 => ?_)
    · refine s_aload_n hX dX10_asset_168 rfl ?_
      refine s_iload_n hX dX10_asset_169 rfl ?_
      refine s_callVi (ck1 := 0) (sk1 := 0) (ci := 8) hX dX10_asset_170 k_X10_isThrough q_1686 (c_X10_isThrough n M3 a0 a1) (by decide) rfl rfl rfl ⟨Nat.le_of_ble_eq_true rfl, Nat.le_of_ble_eq_true rfl⟩ ⟨(Nat.le_of_ble_eq_true rfl), (Nat.le_of_ble_eq_true rfl)⟩ (Nat.le_of_ble_eq_true rfl) rfl rfl (fun r36 M37 => ?_)
      refine s_ifeq (tgt := 192) hX dX10_asset_173 rfl ?_ ?_
      · refine s_bipush (v := (-2)) hX dX10_asset_192 kb_m2 ?_
        exact s_iret hX hR dX10_asset_194 (Nat.le_of_ble_eq_true rfl) (Nat.le_of_ble_eq_true rfl)
      · refine s_aload_n hX dX10_asset_176 rfl ?_
        refine s_iload_n hX dX10_asset_177 rfl ?_
        refine s_aload_n hX dX10_asset_178 rfl ?_
        refine s_iload_n hX dX10_asset_179 rfl ?_
        refine s_bipush (v := 6) hX dX10_asset_180 kb_6 ?_
        refine s_callVi (ck1 := 0) (sk1 := 0) (ci := 8) hX dX10_asset_182 k_X10_at q_1550 (c_X10_at n M37 a0 a1 6) (by decide) rfl rfl rfl ⟨Nat.le_of_ble_eq_true rfl, Nat.le_of_ble_eq_true rfl⟩ ⟨(Nat.le_of_ble_eq_true rfl), (Nat.le_of_ble_eq_true rfl)⟩ (Nat.le_of_ble_eq_true rfl) rfl rfl (fun r38 M39 => ?_)
        refine s_callVj (ck1 := 0) (sk1 := 0) (ci := 8) hX dX10_asset_185 k_X10_firstTaken q_1658 (c_X10_firstTaken n M39 a0 a1 r38) (by decide) rfl rfl rfl ⟨Nat.le_of_ble_eq_true rfl, Nat.le_of_ble_eq_true rfl⟩ ⟨(Nat.le_of_ble_eq_true rfl), (Nat.le_of_ble_eq_true rfl)⟩ (Nat.le_of_ble_eq_true rfl) rfl rfl (fun r40 M41 => ?_)
        refine s_l2i hX dX10_asset_188 ?_
        refine s_goto (tgt := 194) hX dX10_asset_189 rfl ?_
        exact s_iret hX hR dX10_asset_194 (Nat.le_of_ble_eq_true rfl) (Nat.le_of_ble_eq_true rfl)
    refine s_swD (tgt := 195) 10 hX dX10_asset_16 b42 rfl rfl ?_
    refine s_iconst (v := (-1)) hX dX10_asset_195 kc_m1 ?_
    exact s_iret hX hR dX10_asset_196 (Nat.le_of_ble_eq_true rfl) (Nat.le_of_ble_eq_true rfl)
abbrev rm_X10_sum : Room := { frames := 1, cells := 0, slots := 0, locals := 23 }
theorem k_X10_sum : KYV yX10_sum cX10_sum 4 (some .int) 3 := ⟨⟨q_1693, q_9, by decide +kernel, by decide +kernel, by decide +kernel⟩, q_1691, q_1692⟩
set_option maxHeartbeats 4000000 in
set_option maxRecDepth 100000 in
theorem c_X10_sum (n : Nat) (M0 : MemT) (a0 : Nat) (a1 : Int32) (a2 : Int32) (a3 : Int32) : Ct iI yX10_sum cX10_sum 4 (some .int) rm_X10_sum [.ref a0, .int a1, .int a2, .int a3] M0 (g_X10_sum n M0 a0 a1 a2 a3) := by
  unfold g_X10_sum
  refine ct_intro RX10 0 [some (.ref a0), some (.int a1), some (.int a2), some (.int a3)] rfl (by decide +kernel) rfl (Nat.le_of_ble_eq_true rfl) (fun X A hX hnm hR => ?_)
  refine s_aload_n hX dX10_sum_0 rfl ?_
  refine s_iconst (v := 0) hX dX10_sum_1 kc_0 ?_
  refine s_putI hX dX10_sum_2 q_1308 rfl rfl (fun M1 => ?_)
  refine s_aload_n hX dX10_sum_5 rfl ?_
  refine s_iload_n hX dX10_sum_6 rfl ?_
  refine s_callVi (ck1 := 0) (sk1 := 0) (ci := 8) hX dX10_sum_7 k_X10_isTrader q_1510 (c_X10_isTrader n M1 a0 a1) (by decide) rfl rfl rfl ⟨Nat.le_of_ble_eq_true rfl, Nat.le_of_ble_eq_true rfl⟩ ⟨(Nat.le_of_ble_eq_true rfl), (Nat.le_of_ble_eq_true rfl)⟩ (Nat.le_of_ble_eq_true rfl) rfl rfl (fun r2 M3 => ?_)
  refine s_ifeq (tgt := 44) hX dX10_sum_10 rfl ?_ ?_
  · refine s_iconst (v := (-1)) hX dX10_sum_44 kc_m1 ?_
    exact s_iret hX hR dX10_sum_45 (Nat.le_of_ble_eq_true rfl) (Nat.le_of_ble_eq_true rfl)
  · refine s_aload_n hX dX10_sum_13 rfl ?_
    refine s_iload_n hX dX10_sum_14 rfl ?_
    refine s_callVi (ck1 := 0) (sk1 := 0) (ci := 8) hX dX10_sum_15 k_X10_isQuarter q_1694 (c_X10_isQuarter n M3 a0 a2) (by decide) rfl rfl rfl ⟨Nat.le_of_ble_eq_true rfl, Nat.le_of_ble_eq_true rfl⟩ ⟨(Nat.le_of_ble_eq_true rfl), (Nat.le_of_ble_eq_true rfl)⟩ (Nat.le_of_ble_eq_true rfl) rfl rfl (fun r4 M5 => ?_)
    refine s_ifeq (tgt := 44) hX dX10_sum_18 rfl ?_ ?_
    · refine s_iconst (v := (-1)) hX dX10_sum_44 kc_m1 ?_
      exact s_iret hX hR dX10_sum_45 (Nat.le_of_ble_eq_true rfl) (Nat.le_of_ble_eq_true rfl)
    · refine s_iload_n hX dX10_sum_21 rfl ?_
      refine s_iconst (v := 0) hX dX10_sum_22 kc_0 ?_
      refine s_iconst (v := 4) hX dX10_sum_23 kc_4 ?_
      refine s_callSi (ck1 := 0) (sk1 := 0) hX dX10_sum_24 k_X10_isIn q_1447 (c_X10_isIn n M5 a3 0 4) rfl rfl ⟨Nat.le_of_ble_eq_true rfl, Nat.le_of_ble_eq_true rfl⟩ ⟨(Nat.le_of_ble_eq_true rfl), (Nat.le_of_ble_eq_true rfl)⟩ (Nat.le_of_ble_eq_true rfl) rfl rfl (fun r6 M7 => ?_)
      refine s_ifeq (tgt := 44) hX dX10_sum_27 rfl ?_ ?_
      · refine s_iconst (v := (-1)) hX dX10_sum_44 kc_m1 ?_
        exact s_iret hX hR dX10_sum_45 (Nat.le_of_ble_eq_true rfl) (Nat.le_of_ble_eq_true rfl)
      · refine s_aload_n hX dX10_sum_30 rfl ?_
        refine s_aload_n hX dX10_sum_31 rfl ?_
        refine s_iload_n hX dX10_sum_32 rfl ?_
        refine s_iload_n hX dX10_sum_33 rfl ?_
        refine s_iload_n hX dX10_sum_34 rfl ?_
        refine s_callVi (ck1 := 0) (sk1 := 0) (ci := 8) hX dX10_sum_35 k_X10_sumAt q_1290 (c_X10_sumAt n M7 a0 a1 a2 a3) (by decide) rfl rfl rfl ⟨Nat.le_of_ble_eq_true rfl, Nat.le_of_ble_eq_true rfl⟩ ⟨(Nat.le_of_ble_eq_true rfl), (Nat.le_of_ble_eq_true rfl)⟩ (Nat.le_of_ble_eq_true rfl) rfl rfl (fun r8 M9 => ?_)
        refine s_callVi (ck1 := 0) (sk1 := 0) (ci := 8) hX dX10_sum_38 k_X10_of q_1286 (c_X10_of n M9 a0 r8) (by decide) rfl rfl rfl ⟨Nat.le_of_ble_eq_true rfl, Nat.le_of_ble_eq_true rfl⟩ ⟨(Nat.le_of_ble_eq_true rfl), (Nat.le_of_ble_eq_true rfl)⟩ (Nat.le_of_ble_eq_true rfl) rfl rfl (fun r10 M11 => ?_)
        refine s_goto (tgt := 45) hX dX10_sum_41 rfl ?_
        exact s_iret hX hR dX10_sum_45 (Nat.le_of_ble_eq_true rfl) (Nat.le_of_ble_eq_true rfl)
abbrev rm_X10_provisional : Room := { frames := 5, cells := 0, slots := 0, locals := 121 }
theorem k_X10_provisional : KYV yX10_provisional cX10_provisional 3 (some .int) 2 := ⟨⟨q_1701, q_9, by decide +kernel, by decide +kernel, by decide +kernel⟩, q_1699, q_1700⟩
set_option maxHeartbeats 4000000 in
set_option maxRecDepth 100000 in
theorem c_X10_provisional (n : Nat) (M0 : MemT) (a0 : Nat) (a1 : Int32) (a2 : Int32) : Ct iI yX10_provisional cX10_provisional 3 (some .int) rm_X10_provisional [.ref a0, .int a1, .int a2] M0 (g_X10_provisional n M0 a0 a1 a2) := by
  unfold g_X10_provisional
  refine ct_intro RX10 0 [some (.ref a0), some (.int a1), some (.int a2)] rfl (by decide +kernel) rfl (Nat.le_of_ble_eq_true rfl) (fun X A hX hnm hR => ?_)
  refine s_aload_n hX dX10_provisional_0 rfl ?_
  refine s_iconst (v := 0) hX dX10_provisional_1 kc_0 ?_
  refine s_putI hX dX10_provisional_2 q_1308 rfl rfl (fun M1 => ?_)
  refine s_aload_n hX dX10_provisional_5 rfl ?_
  refine s_iload_n hX dX10_provisional_6 rfl ?_
  refine s_callVi (ck1 := 0) (sk1 := 0) (ci := 8) hX dX10_provisional_7 k_X10_isTrader q_1510 (c_X10_isTrader n M1 a0 a1) (by decide) rfl rfl rfl ⟨Nat.le_of_ble_eq_true rfl, Nat.le_of_ble_eq_true rfl⟩ ⟨(Nat.le_of_ble_eq_true rfl), (Nat.le_of_ble_eq_true rfl)⟩ (Nat.le_of_ble_eq_true rfl) rfl rfl (fun r2 M3 => ?_)
  refine s_ifeq (tgt := 21) hX dX10_provisional_10 rfl ?_ ?_
  · refine s_iconst (v := (-1)) hX dX10_provisional_21 kc_m1 ?_
    exact s_iret hX hR dX10_provisional_22 (Nat.le_of_ble_eq_true rfl) (Nat.le_of_ble_eq_true rfl)
  · refine s_aload_n hX dX10_provisional_13 rfl ?_
    refine s_iload_n hX dX10_provisional_14 rfl ?_
    refine s_callVi (ck1 := 0) (sk1 := 0) (ci := 8) hX dX10_provisional_15 k_X10_isQuarter q_1694 (c_X10_isQuarter n M3 a0 a2) (by decide) rfl rfl rfl ⟨Nat.le_of_ble_eq_true rfl, Nat.le_of_ble_eq_true rfl⟩ ⟨(Nat.le_of_ble_eq_true rfl), (Nat.le_of_ble_eq_true rfl)⟩ (Nat.le_of_ble_eq_true rfl) rfl rfl (fun r4 M5 => ?_)
    refine s_ifne (tgt := 23) hX dX10_provisional_18 rfl ?_ ?_
    · refine s_iconst (v := (-1)) hX dX10_provisional_21 kc_m1 ?_
      exact s_iret hX hR dX10_provisional_22 (Nat.le_of_ble_eq_true rfl) (Nat.le_of_ble_eq_true rfl)
    · refine s_iload_n hX dX10_provisional_23 rfl ?_
      refine s_aload_n hX dX10_provisional_24 rfl ?_
      refine s_iconst (v := 0) hX dX10_provisional_25 kc_0 ?_
      refine s_callVi (ck1 := 0) (sk1 := 0) (ci := 8) hX dX10_provisional_26 k_X10_of q_1286 (c_X10_of n M5 a0 0) (by decide) rfl rfl rfl ⟨Nat.le_of_ble_eq_true rfl, Nat.le_of_ble_eq_true rfl⟩ ⟨(Nat.le_of_ble_eq_true rfl), (Nat.le_of_ble_eq_true rfl)⟩ (Nat.le_of_ble_eq_true rfl) rfl rfl (fun r6 M7 => ?_)
      refine s_icle (tgt := 35) hX dX10_provisional_29 rfl ?_ ?_
      · refine s_iload_n hX dX10_provisional_35 rfl ?_
        refine s_aload_n hX dX10_provisional_36 rfl ?_
        refine s_iconst (v := 0) hX dX10_provisional_37 kc_0 ?_
        refine s_callVi (ck1 := 0) (sk1 := 0) (ci := 8) hX dX10_provisional_38 k_X10_of q_1286 (c_X10_of n M7 a0 0) (by decide) rfl rfl rfl ⟨Nat.le_of_ble_eq_true rfl, Nat.le_of_ble_eq_true rfl⟩ ⟨(Nat.le_of_ble_eq_true rfl), (Nat.le_of_ble_eq_true rfl)⟩ (Nat.le_of_ble_eq_true rfl) rfl rfl (fun r8 M9 => ?_)
        refine s_icge (tgt := 61) hX dX10_provisional_41 rfl ?_ ?_
        · refine s_aload_n hX dX10_provisional_61 rfl ?_
          refine s_iload_n hX dX10_provisional_62 rfl ?_
          refine s_iload_n hX dX10_provisional_63 rfl ?_
          refine s_aload_n hX dX10_provisional_64 rfl ?_
          refine s_iload_n hX dX10_provisional_65 rfl ?_
          refine s_iconst (v := 2) hX dX10_provisional_66 kc_2 ?_
          refine s_callVi (ck1 := 0) (sk1 := 0) (ci := 8) hX dX10_provisional_67 k_X10_told1 q_1278 (c_X10_told1 n M9 a0 a1 2) (by decide) rfl rfl rfl ⟨Nat.le_of_ble_eq_true rfl, Nat.le_of_ble_eq_true rfl⟩ ⟨(Nat.le_of_ble_eq_true rfl), (Nat.le_of_ble_eq_true rfl)⟩ (Nat.le_of_ble_eq_true rfl) rfl rfl (fun r12 M13 => ?_)
          refine s_callVi (ck1 := 0) (sk1 := 0) (ci := 8) hX dX10_provisional_70 k_X10_provisionalBy q_1578 (c_X10_provisionalBy n M13 a0 a1 a2 r12) (by decide) rfl rfl rfl ⟨Nat.le_of_ble_eq_true rfl, Nat.le_of_ble_eq_true rfl⟩ ⟨(Nat.le_of_ble_eq_true rfl), (Nat.le_of_ble_eq_true rfl)⟩ (Nat.le_of_ble_eq_true rfl) rfl rfl (fun r14 M15 => ?_)
          exact s_iret hX hR dX10_provisional_73 (Nat.le_of_ble_eq_true rfl) (Nat.le_of_ble_eq_true rfl)
        · refine s_aload_n hX dX10_provisional_44 rfl ?_
          refine s_sipush (v := 1289) hX dX10_provisional_45 ks_1289 ?_
          refine s_bipush (v := 64) hX dX10_provisional_48 kb_64 ?_
          refine s_iload_n hX dX10_provisional_50 rfl ?_
          refine s_imul hX dX10_provisional_51 ?_
          refine s_iadd hX dX10_provisional_52 ?_
          refine s_iload_n hX dX10_provisional_53 rfl ?_
          refine s_iadd hX dX10_provisional_54 ?_
          refine s_callVi (ck1 := 0) (sk1 := 0) (ci := 8) hX dX10_provisional_55 k_X10_of q_1286 (c_X10_of n M9 a0 ((1289 + (64 * a1)) + a2)) (by decide) rfl rfl rfl ⟨Nat.le_of_ble_eq_true rfl, Nat.le_of_ble_eq_true rfl⟩ ⟨(Nat.le_of_ble_eq_true rfl), (Nat.le_of_ble_eq_true rfl)⟩ (Nat.le_of_ble_eq_true rfl) rfl rfl (fun r10 M11 => ?_)
          refine s_goto (tgt := 73) hX dX10_provisional_58 rfl ?_
          exact s_iret hX hR dX10_provisional_73 (Nat.le_of_ble_eq_true rfl) (Nat.le_of_ble_eq_true rfl)
      · refine s_bipush (v := (-2)) hX dX10_provisional_32 kb_m2 ?_
        exact s_iret hX hR dX10_provisional_34 (Nat.le_of_ble_eq_true rfl) (Nat.le_of_ble_eq_true rfl)
abbrev rm_X10_recovered : Room := { frames := 1, cells := 0, slots := 0, locals := 21 }
theorem k_X10_recovered : KYV yX10_recovered cX10_recovered 3 (some .int) 2 := ⟨⟨q_1705, q_9, by decide +kernel, by decide +kernel, by decide +kernel⟩, q_1703, q_1704⟩
set_option maxHeartbeats 4000000 in
set_option maxRecDepth 100000 in
theorem c_X10_recovered (n : Nat) (M0 : MemT) (a0 : Nat) (a1 : Int32) (a2 : Int32) : Ct iI yX10_recovered cX10_recovered 3 (some .int) rm_X10_recovered [.ref a0, .int a1, .int a2] M0 (g_X10_recovered n M0 a0 a1 a2) := by
  unfold g_X10_recovered
  refine ct_intro RX10 0 [some (.ref a0), some (.int a1), some (.int a2)] rfl (by decide +kernel) rfl (Nat.le_of_ble_eq_true rfl) (fun X A hX hnm hR => ?_)
  refine s_aload_n hX dX10_recovered_0 rfl ?_
  refine s_iconst (v := 0) hX dX10_recovered_1 kc_0 ?_
  refine s_putI hX dX10_recovered_2 q_1308 rfl rfl (fun M1 => ?_)
  refine s_aload_n hX dX10_recovered_5 rfl ?_
  refine s_iload_n hX dX10_recovered_6 rfl ?_
  refine s_callVi (ck1 := 0) (sk1 := 0) (ci := 8) hX dX10_recovered_7 k_X10_isTrader q_1510 (c_X10_isTrader n M1 a0 a1) (by decide) rfl rfl rfl ⟨Nat.le_of_ble_eq_true rfl, Nat.le_of_ble_eq_true rfl⟩ ⟨(Nat.le_of_ble_eq_true rfl), (Nat.le_of_ble_eq_true rfl)⟩ (Nat.le_of_ble_eq_true rfl) rfl rfl (fun r2 M3 => ?_)
  refine s_ifeq (tgt := 21) hX dX10_recovered_10 rfl ?_ ?_
  · refine s_iconst (v := (-1)) hX dX10_recovered_21 kc_m1 ?_
    exact s_iret hX hR dX10_recovered_22 (Nat.le_of_ble_eq_true rfl) (Nat.le_of_ble_eq_true rfl)
  · refine s_aload_n hX dX10_recovered_13 rfl ?_
    refine s_iload_n hX dX10_recovered_14 rfl ?_
    refine s_callVi (ck1 := 0) (sk1 := 0) (ci := 8) hX dX10_recovered_15 k_X10_isQuarter q_1694 (c_X10_isQuarter n M3 a0 a2) (by decide) rfl rfl rfl ⟨Nat.le_of_ble_eq_true rfl, Nat.le_of_ble_eq_true rfl⟩ ⟨(Nat.le_of_ble_eq_true rfl), (Nat.le_of_ble_eq_true rfl)⟩ (Nat.le_of_ble_eq_true rfl) rfl rfl (fun r4 M5 => ?_)
    refine s_ifne (tgt := 23) hX dX10_recovered_18 rfl ?_ ?_
    · refine s_iconst (v := (-1)) hX dX10_recovered_21 kc_m1 ?_
      exact s_iret hX hR dX10_recovered_22 (Nat.le_of_ble_eq_true rfl) (Nat.le_of_ble_eq_true rfl)
    · refine s_iload_n hX dX10_recovered_23 rfl ?_
      refine s_aload_n hX dX10_recovered_24 rfl ?_
      refine s_iconst (v := 0) hX dX10_recovered_25 kc_0 ?_
      refine s_callVi (ck1 := 0) (sk1 := 0) (ci := 8) hX dX10_recovered_26 k_X10_of q_1286 (c_X10_of n M5 a0 0) (by decide) rfl rfl rfl ⟨Nat.le_of_ble_eq_true rfl, Nat.le_of_ble_eq_true rfl⟩ ⟨(Nat.le_of_ble_eq_true rfl), (Nat.le_of_ble_eq_true rfl)⟩ (Nat.le_of_ble_eq_true rfl) rfl rfl (fun r6 M7 => ?_)
      refine s_icge (tgt := 49) hX dX10_recovered_29 rfl ?_ ?_
      · refine s_bipush (v := (-2)) hX dX10_recovered_49 kb_m2 ?_
        exact s_iret hX hR dX10_recovered_51 (Nat.le_of_ble_eq_true rfl) (Nat.le_of_ble_eq_true rfl)
      · refine s_aload_n hX dX10_recovered_32 rfl ?_
        refine s_sipush (v := 1545) hX dX10_recovered_33 ks_1545 ?_
        refine s_bipush (v := 64) hX dX10_recovered_36 kb_64 ?_
        refine s_iload_n hX dX10_recovered_38 rfl ?_
        refine s_imul hX dX10_recovered_39 ?_
        refine s_iadd hX dX10_recovered_40 ?_
        refine s_iload_n hX dX10_recovered_41 rfl ?_
        refine s_iadd hX dX10_recovered_42 ?_
        refine s_callVi (ck1 := 0) (sk1 := 0) (ci := 8) hX dX10_recovered_43 k_X10_of q_1286 (c_X10_of n M7 a0 ((1545 + (64 * a1)) + a2)) (by decide) rfl rfl rfl ⟨Nat.le_of_ble_eq_true rfl, Nat.le_of_ble_eq_true rfl⟩ ⟨(Nat.le_of_ble_eq_true rfl), (Nat.le_of_ble_eq_true rfl)⟩ (Nat.le_of_ble_eq_true rfl) rfl rfl (fun r8 M9 => ?_)
        refine s_goto (tgt := 51) hX dX10_recovered_46 rfl ?_
        exact s_iret hX hR dX10_recovered_51 (Nat.le_of_ble_eq_true rfl) (Nat.le_of_ble_eq_true rfl)
abbrev rm_X10_isYear : Room := { frames := 2, cells := 0, slots := 0, locals := 41 }
theorem k_X10_isYear : KYV yX10_isYear cX10_isYear 3 (some .boolean) 2 := ⟨⟨q_1713, q_9, by decide +kernel, by decide +kernel, by decide +kernel⟩, q_1712, p_103⟩
set_option maxHeartbeats 4000000 in
set_option maxRecDepth 100000 in
theorem c_X10_isYear (n : Nat) (M0 : MemT) (a0 : Nat) (a1 : Int32) (a2 : Int32) : Ct iI yX10_isYear cX10_isYear 3 (some .boolean) rm_X10_isYear [.ref a0, .int a1, .int a2] M0 (g_X10_isYear n M0 a0 a1 a2) := by
  unfold g_X10_isYear
  refine ct_intro RX10 0 [some (.ref a0), some (.int a1), some (.int a2)] rfl (by decide +kernel) rfl (Nat.le_of_ble_eq_true rfl) (fun X A hX hnm hR => ?_)
  refine s_aload_n hX dX10_isYear_0 rfl ?_
  refine s_iload_n hX dX10_isYear_1 rfl ?_
  refine s_callVi (ck1 := 0) (sk1 := 0) (ci := 8) hX dX10_isYear_2 k_X10_isTrader q_1510 (c_X10_isTrader n M0 a0 a1) (by decide) rfl rfl rfl ⟨Nat.le_of_ble_eq_true rfl, Nat.le_of_ble_eq_true rfl⟩ ⟨(Nat.le_of_ble_eq_true rfl), (Nat.le_of_ble_eq_true rfl)⟩ (Nat.le_of_ble_eq_true rfl) rfl rfl (fun r1 M2 => ?_)
  refine s_ifeq (tgt := 24) hX dX10_isYear_5 rfl ?_ ?_
  · refine s_iconst (v := 0) hX dX10_isYear_24 kc_0 ?_
    exact s_zret hX hR dX10_isYear_25 (Nat.le_of_ble_eq_true rfl) (Nat.le_of_ble_eq_true rfl)
  · refine s_iload_n hX dX10_isYear_8 rfl ?_
    refine s_iflt (tgt := 24) hX dX10_isYear_9 rfl ?_ ?_
    · refine s_iconst (v := 0) hX dX10_isYear_24 kc_0 ?_
      exact s_zret hX hR dX10_isYear_25 (Nat.le_of_ble_eq_true rfl) (Nat.le_of_ble_eq_true rfl)
    · refine s_iload_n hX dX10_isYear_12 rfl ?_
      refine s_aload_n hX dX10_isYear_13 rfl ?_
      refine s_callVi (ck1 := 0) (sk1 := 0) (ci := 8) hX dX10_isYear_14 k_X10_year q_1526 (c_X10_year n M2 a0) (by decide) rfl rfl rfl ⟨Nat.le_of_ble_eq_true rfl, Nat.le_of_ble_eq_true rfl⟩ ⟨(Nat.le_of_ble_eq_true rfl), (Nat.le_of_ble_eq_true rfl)⟩ (Nat.le_of_ble_eq_true rfl) rfl rfl (fun r3 M4 => ?_)
      refine s_icgt (tgt := 24) hX dX10_isYear_17 rfl ?_ ?_
      · refine s_iconst (v := 0) hX dX10_isYear_24 kc_0 ?_
        exact s_zret hX hR dX10_isYear_25 (Nat.le_of_ble_eq_true rfl) (Nat.le_of_ble_eq_true rfl)
      · refine s_iconst (v := 1) hX dX10_isYear_20 kc_1 ?_
        refine s_goto (tgt := 25) hX dX10_isYear_21 rfl ?_
        exact s_zret hX hR dX10_isYear_25 (Nat.le_of_ble_eq_true rfl) (Nat.le_of_ble_eq_true rfl)
abbrev rm_X10_backOf : Room := { frames := 5, cells := 0, slots := 0, locals := 119 }
theorem k_X10_backOf : KYV yX10_backOf cX10_backOf 3 (some .int) 2 := ⟨⟨q_1718, q_9, by decide +kernel, by decide +kernel, by decide +kernel⟩, q_1717, p_104⟩
set_option maxHeartbeats 4000000 in
set_option maxRecDepth 100000 in
theorem c_X10_backOf (n : Nat) (M0 : MemT) (a0 : Nat) (a1 : Int32) (a2 : Int32) : Ct iI yX10_backOf cX10_backOf 3 (some .int) rm_X10_backOf [.ref a0, .int a1, .int a2] M0 (g_X10_backOf n M0 a0 a1 a2) := by
  unfold g_X10_backOf
  refine ct_intro RX10 0 [some (.ref a0), some (.int a1), some (.int a2)] rfl (by decide +kernel) rfl (Nat.le_of_ble_eq_true rfl) (fun X A hX hnm hR => ?_)
  refine s_aload_n hX dX10_backOf_0 rfl ?_
  refine s_aload_n hX dX10_backOf_1 rfl ?_
  refine s_iload_n hX dX10_backOf_2 rfl ?_
  refine s_iload_n hX dX10_backOf_3 rfl ?_
  refine s_callVi (ck1 := 0) (sk1 := 0) (ci := 8) hX dX10_backOf_4 k_X10_annualOf q_1649 (c_X10_annualOf n M0 a0 a1 a2) (by decide) rfl rfl rfl ⟨Nat.le_of_ble_eq_true rfl, Nat.le_of_ble_eq_true rfl⟩ ⟨(Nat.le_of_ble_eq_true rfl), (Nat.le_of_ble_eq_true rfl)⟩ (Nat.le_of_ble_eq_true rfl) rfl rfl (fun r1 M2 => ?_)
  refine s_aload_n hX dX10_backOf_7 rfl ?_
  refine s_getO hX dX10_backOf_8 q_1323 rfl (fun j3 => ?_)
  refine s_iconst (v := 2) hX dX10_backOf_11 kc_2 ?_
  refine s_iald hX dX10_backOf_12 (fun v4 => ?_)
  refine s_callVi (ck1 := 0) (sk1 := 0) (ci := 8) hX dX10_backOf_13 k_X10_back1 q_1617 (c_X10_back1 n M2 a0 r1 v4) (by decide) rfl rfl rfl ⟨Nat.le_of_ble_eq_true rfl, Nat.le_of_ble_eq_true rfl⟩ ⟨(Nat.le_of_ble_eq_true rfl), (Nat.le_of_ble_eq_true rfl)⟩ (Nat.le_of_ble_eq_true rfl) rfl rfl (fun r5 M6 => ?_)
  exact s_iret hX hR dX10_backOf_16 (Nat.le_of_ble_eq_true rfl) (Nat.le_of_ble_eq_true rfl)
abbrev rm_X10_annual : Room := { frames := 6, cells := 0, slots := 0, locals := 141 }
theorem k_X10_annual : KYV yX10_annual cX10_annual 5 (some .int) 3 := ⟨⟨q_1709, q_9, by decide +kernel, by decide +kernel, by decide +kernel⟩, q_1707, q_1708⟩
set_option maxHeartbeats 4000000 in
set_option maxRecDepth 100000 in
theorem c_X10_annual (n : Nat) (M0 : MemT) (a0 : Nat) (a1 : Int32) (a2 : Int32) (a3 : Int32) : Ct iI yX10_annual cX10_annual 5 (some .int) rm_X10_annual [.ref a0, .int a1, .int a2, .int a3] M0 (g_X10_annual n M0 a0 a1 a2 a3) := by
  unfold g_X10_annual
  refine ct_intro RX10 1 [some (.ref a0), some (.int a1), some (.int a2), some (.int a3), none] rfl (by decide +kernel) rfl (Nat.le_of_ble_eq_true rfl) (fun X A hX hnm hR => ?_)
  refine s_aload_n hX dX10_annual_0 rfl ?_
  refine s_iconst (v := 0) hX dX10_annual_1 kc_0 ?_
  refine s_putI hX dX10_annual_2 q_1308 rfl rfl (fun M1 => ?_)
  refine s_aload_n hX dX10_annual_5 rfl ?_
  refine s_iload_n hX dX10_annual_6 rfl ?_
  refine s_iload_n hX dX10_annual_7 rfl ?_
  refine s_callVi (ck1 := 0) (sk1 := 0) (ci := 8) hX dX10_annual_8 k_X10_isYear q_1710 (c_X10_isYear n M1 a0 a1 a2) (by decide) rfl rfl rfl ⟨Nat.le_of_ble_eq_true rfl, Nat.le_of_ble_eq_true rfl⟩ ⟨(Nat.le_of_ble_eq_true rfl), (Nat.le_of_ble_eq_true rfl)⟩ (Nat.le_of_ble_eq_true rfl) rfl rfl (fun r2 M3 => ?_)
  refine s_ifeq (tgt := 23) hX dX10_annual_11 rfl ?_ ?_
  · refine s_ldcw hX dX10_annual_23 q_1714 ?_
    exact s_iret hX hR dX10_annual_26 (Nat.le_of_ble_eq_true rfl) (Nat.le_of_ble_eq_true rfl)
  · refine s_iload_n hX dX10_annual_14 rfl ?_
    refine s_iconst (v := 0) hX dX10_annual_15 kc_0 ?_
    refine s_iconst (v := 3) hX dX10_annual_16 kc_3 ?_
    refine s_callSi (ck1 := 0) (sk1 := 0) hX dX10_annual_17 k_X10_isIn q_1447 (c_X10_isIn n M3 a3 0 3) rfl rfl ⟨Nat.le_of_ble_eq_true rfl, Nat.le_of_ble_eq_true rfl⟩ ⟨(Nat.le_of_ble_eq_true rfl), (Nat.le_of_ble_eq_true rfl)⟩ (Nat.le_of_ble_eq_true rfl) rfl rfl (fun r4 M5 => ?_)
    refine s_ifne (tgt := 27) hX dX10_annual_20 rfl ?_ ?_
    · refine s_ldcw hX dX10_annual_23 q_1714 ?_
      exact s_iret hX hR dX10_annual_26 (Nat.le_of_ble_eq_true rfl) (Nat.le_of_ble_eq_true rfl)
    · refine s_iload_n hX dX10_annual_27 rfl ?_
      refine s_ifne (tgt := 38) hX dX10_annual_28 rfl ?_ ?_
      · refine s_aload_n hX dX10_annual_31 rfl ?_
        refine s_iload_n hX dX10_annual_32 rfl ?_
        refine s_iload_n hX dX10_annual_33 rfl ?_
        refine s_callVi (ck1 := 0) (sk1 := 0) (ci := 8) hX dX10_annual_34 k_X10_annualOf q_1649 (c_X10_annualOf n M5 a0 a1 a2) (by decide) rfl rfl rfl ⟨Nat.le_of_ble_eq_true rfl, Nat.le_of_ble_eq_true rfl⟩ ⟨(Nat.le_of_ble_eq_true rfl), (Nat.le_of_ble_eq_true rfl)⟩ (Nat.le_of_ble_eq_true rfl) rfl rfl (fun r6 M7 => ?_)
        exact s_iret hX hR dX10_annual_37 (Nat.le_of_ble_eq_true rfl) (Nat.le_of_ble_eq_true rfl)
      · refine s_aload_n hX dX10_annual_38 rfl ?_
        refine s_iload_n hX dX10_annual_39 rfl ?_
        refine s_iload_n hX dX10_annual_40 rfl ?_
        refine s_callVi (ck1 := 0) (sk1 := 0) (ci := 8) hX dX10_annual_41 k_X10_backOf q_1715 (c_X10_backOf n M5 a0 a1 a2) (by decide) rfl rfl rfl ⟨Nat.le_of_ble_eq_true rfl, Nat.le_of_ble_eq_true rfl⟩ ⟨(Nat.le_of_ble_eq_true rfl), (Nat.le_of_ble_eq_true rfl)⟩ (Nat.le_of_ble_eq_true rfl) rfl rfl (fun r8 M9 => ?_)
        refine s_istore4 hX dX10_annual_44 (by first | exact trivial | exact rfl) (Nat.le_of_ble_eq_true rfl) ?_
        refine s_iload_n hX dX10_annual_46 rfl ?_
        refine s_iconst (v := 1) hX dX10_annual_47 kc_1 ?_
        refine s_icne (tgt := 56) hX dX10_annual_48 rfl ?_ ?_
        · refine s_iload hX dX10_annual_51 rfl ?_
          refine s_goto (tgt := 85) hX dX10_annual_53 rfl ?_
          exact s_iret hX hR dX10_annual_85 (Nat.le_of_ble_eq_true rfl) (Nat.le_of_ble_eq_true rfl)
        · refine s_iload_n hX dX10_annual_56 rfl ?_
          refine s_iconst (v := 2) hX dX10_annual_57 kc_2 ?_
          refine s_icne (tgt := 76) hX dX10_annual_58 rfl ?_ ?_
          · refine s_aload_n hX dX10_annual_61 rfl ?_
            refine s_getI hX dX10_annual_62 q_1333 rfl (fun v10 => ?_)
            refine s_ifeq (tgt := 72) hX dX10_annual_65 rfl ?_ ?_
            · refine s_iconst (v := 0) hX dX10_annual_72 kc_0 ?_
              refine s_goto (tgt := 85) hX dX10_annual_73 rfl ?_
              exact s_iret hX hR dX10_annual_85 (Nat.le_of_ble_eq_true rfl) (Nat.le_of_ble_eq_true rfl)
            · refine s_iconst (v := 1) hX dX10_annual_68 kc_1 ?_
              refine s_goto (tgt := 85) hX dX10_annual_69 rfl ?_
              exact s_iret hX hR dX10_annual_85 (Nat.le_of_ble_eq_true rfl) (Nat.le_of_ble_eq_true rfl)
          · refine s_iload hX dX10_annual_76 rfl ?_
            refine s_aload_n hX dX10_annual_78 rfl ?_
            refine s_iload_n hX dX10_annual_79 rfl ?_
            refine s_iload_n hX dX10_annual_80 rfl ?_
            refine s_callVi (ck1 := 0) (sk1 := 0) (ci := 8) hX dX10_annual_81 k_X10_bookedIn q_1637 (c_X10_bookedIn n M9 a0 a1 a2) (by decide) rfl rfl rfl ⟨Nat.le_of_ble_eq_true rfl, Nat.le_of_ble_eq_true rfl⟩ ⟨(Nat.le_of_ble_eq_true rfl), (Nat.le_of_ble_eq_true rfl)⟩ (Nat.le_of_ble_eq_true rfl) rfl rfl (fun r11 M12 => ?_)
            refine s_isub hX dX10_annual_84 ?_
            exact s_iret hX hR dX10_annual_85 (Nat.le_of_ble_eq_true rfl) (Nat.le_of_ble_eq_true rfl)
abbrev rm_X10_interval : Room := { frames := 2, cells := 0, slots := 0, locals := 43 }
theorem k_X10_interval : KYV yX10_interval cX10_interval 4 (some .int) 3 := ⟨⟨q_1722, q_9, by decide +kernel, by decide +kernel, by decide +kernel⟩, q_1720, q_1721⟩
set_option maxHeartbeats 4000000 in
set_option maxRecDepth 100000 in
theorem c_X10_interval (n : Nat) (M0 : MemT) (a0 : Nat) (a1 : Int32) (a2 : Int32) (a3 : Int32) : Ct iI yX10_interval cX10_interval 4 (some .int) rm_X10_interval [.ref a0, .int a1, .int a2, .int a3] M0 (g_X10_interval n M0 a0 a1 a2 a3) := by
  unfold g_X10_interval
  refine ct_intro RX10 0 [some (.ref a0), some (.int a1), some (.int a2), some (.int a3)] rfl (by decide +kernel) rfl (Nat.le_of_ble_eq_true rfl) (fun X A hX hnm hR => ?_)
  refine s_aload_n hX dX10_interval_0 rfl ?_
  refine s_iconst (v := 0) hX dX10_interval_1 kc_0 ?_
  refine s_putI hX dX10_interval_2 q_1308 rfl rfl (fun M1 => ?_)
  refine s_aload_n hX dX10_interval_5 rfl ?_
  refine s_iload_n hX dX10_interval_6 rfl ?_
  refine s_callVi (ck1 := 0) (sk1 := 0) (ci := 8) hX dX10_interval_7 k_X10_isAsset q_1542 (c_X10_isAsset n M1 a0 a1) (by decide) rfl rfl rfl ⟨Nat.le_of_ble_eq_true rfl, Nat.le_of_ble_eq_true rfl⟩ ⟨(Nat.le_of_ble_eq_true rfl), (Nat.le_of_ble_eq_true rfl)⟩ (Nat.le_of_ble_eq_true rfl) rfl rfl (fun r2 M3 => ?_)
  refine s_ifeq (tgt := 49) hX dX10_interval_10 rfl ?_ ?_
  · refine s_ldcw hX dX10_interval_49 q_1714 ?_
    exact s_iret hX hR dX10_interval_52 (Nat.le_of_ble_eq_true rfl) (Nat.le_of_ble_eq_true rfl)
  · refine s_iload_n hX dX10_interval_13 rfl ?_
    refine s_iconst (v := 0) hX dX10_interval_14 kc_0 ?_
    refine s_aload_n hX dX10_interval_15 rfl ?_
    refine s_iload_n hX dX10_interval_16 rfl ?_
    refine s_iconst (v := 4) hX dX10_interval_17 kc_4 ?_
    refine s_callVi (ck1 := 0) (sk1 := 0) (ci := 8) hX dX10_interval_18 k_X10_at q_1550 (c_X10_at n M3 a0 a1 4) (by decide) rfl rfl rfl ⟨Nat.le_of_ble_eq_true rfl, Nat.le_of_ble_eq_true rfl⟩ ⟨(Nat.le_of_ble_eq_true rfl), (Nat.le_of_ble_eq_true rfl)⟩ (Nat.le_of_ble_eq_true rfl) rfl rfl (fun r4 M5 => ?_)
    refine s_iconst (v := 1) hX dX10_interval_21 kc_1 ?_
    refine s_isub hX dX10_interval_22 ?_
    refine s_callSi (ck1 := 0) (sk1 := 0) hX dX10_interval_23 k_X10_isIn q_1447 (c_X10_isIn n M5 a2 0 (r4 - 1)) rfl rfl ⟨Nat.le_of_ble_eq_true rfl, Nat.le_of_ble_eq_true rfl⟩ ⟨(Nat.le_of_ble_eq_true rfl), (Nat.le_of_ble_eq_true rfl)⟩ (Nat.le_of_ble_eq_true rfl) rfl rfl (fun r6 M7 => ?_)
    refine s_ifeq (tgt := 49) hX dX10_interval_26 rfl ?_ ?_
    · refine s_ldcw hX dX10_interval_49 q_1714 ?_
      exact s_iret hX hR dX10_interval_52 (Nat.le_of_ble_eq_true rfl) (Nat.le_of_ble_eq_true rfl)
    · refine s_iload_n hX dX10_interval_29 rfl ?_
      refine s_iconst (v := 0) hX dX10_interval_30 kc_0 ?_
      refine s_iconst (v := 3) hX dX10_interval_31 kc_3 ?_
      refine s_callSi (ck1 := 0) (sk1 := 0) hX dX10_interval_32 k_X10_isIn q_1447 (c_X10_isIn n M7 a3 0 3) rfl rfl ⟨Nat.le_of_ble_eq_true rfl, Nat.le_of_ble_eq_true rfl⟩ ⟨(Nat.le_of_ble_eq_true rfl), (Nat.le_of_ble_eq_true rfl)⟩ (Nat.le_of_ble_eq_true rfl) rfl rfl (fun r8 M9 => ?_)
      refine s_ifeq (tgt := 49) hX dX10_interval_35 rfl ?_ ?_
      · refine s_ldcw hX dX10_interval_49 q_1714 ?_
        exact s_iret hX hR dX10_interval_52 (Nat.le_of_ble_eq_true rfl) (Nat.le_of_ble_eq_true rfl)
      · refine s_iload_n hX dX10_interval_38 rfl ?_
        refine s_aload_n hX dX10_interval_39 rfl ?_
        refine s_iload_n hX dX10_interval_40 rfl ?_
        refine s_bipush (v := 47) hX dX10_interval_41 kb_47 ?_
        refine s_callVi (ck1 := 0) (sk1 := 0) (ci := 8) hX dX10_interval_43 k_X10_at q_1550 (c_X10_at n M9 a0 a1 47) (by decide) rfl rfl rfl ⟨Nat.le_of_ble_eq_true rfl, Nat.le_of_ble_eq_true rfl⟩ ⟨(Nat.le_of_ble_eq_true rfl), (Nat.le_of_ble_eq_true rfl)⟩ (Nat.le_of_ble_eq_true rfl) rfl rfl (fun r10 M11 => ?_)
        refine s_iclt (tgt := 53) hX dX10_interval_46 rfl ?_ ?_
        · refine s_iload_n hX dX10_interval_53 rfl ?_
          refine s_ifne (tgt := 70) hX dX10_interval_54 rfl ?_ ?_
          · refine s_aload_n hX dX10_interval_57 rfl ?_
            refine s_iload_n hX dX10_interval_58 rfl ?_
            refine s_iconst (v := 5) hX dX10_interval_59 kc_5 ?_
            refine s_callVi (ck1 := 0) (sk1 := 0) (ci := 8) hX dX10_interval_60 k_X10_at q_1550 (c_X10_at n M11 a0 a1 5) (by decide) rfl rfl rfl ⟨Nat.le_of_ble_eq_true rfl, Nat.le_of_ble_eq_true rfl⟩ ⟨(Nat.le_of_ble_eq_true rfl), (Nat.le_of_ble_eq_true rfl)⟩ (Nat.le_of_ble_eq_true rfl) rfl rfl (fun r12 M13 => ?_)
            refine s_iconst (v := 4) hX dX10_interval_63 kc_4 ?_
            refine s_idiv hX dX10_interval_64 ?_
            refine s_iload_n hX dX10_interval_65 rfl ?_
            refine s_iadd hX dX10_interval_66 ?_
            refine s_goto (tgt := 113) hX dX10_interval_67 rfl ?_
            exact s_iret hX hR dX10_interval_113 (Nat.le_of_ble_eq_true rfl) (Nat.le_of_ble_eq_true rfl)
          · refine s_iload_n hX dX10_interval_70 rfl ?_
            refine s_iconst (v := 1) hX dX10_interval_71 kc_1 ?_
            refine s_icne (tgt := 87) hX dX10_interval_72 rfl ?_ ?_
            · refine s_aload_n hX dX10_interval_75 rfl ?_
              refine s_iload_n hX dX10_interval_76 rfl ?_
              refine s_bipush (v := 17) hX dX10_interval_77 kb_17 ?_
              refine s_iload_n hX dX10_interval_79 rfl ?_
              refine s_iadd hX dX10_interval_80 ?_
              refine s_callVi (ck1 := 0) (sk1 := 0) (ci := 8) hX dX10_interval_81 k_X10_at q_1550 (c_X10_at n M11 a0 a1 (17 + a2)) (by decide) rfl rfl rfl ⟨Nat.le_of_ble_eq_true rfl, Nat.le_of_ble_eq_true rfl⟩ ⟨(Nat.le_of_ble_eq_true rfl), (Nat.le_of_ble_eq_true rfl)⟩ (Nat.le_of_ble_eq_true rfl) rfl rfl (fun r14 M15 => ?_)
              refine s_goto (tgt := 113) hX dX10_interval_84 rfl ?_
              exact s_iret hX hR dX10_interval_113 (Nat.le_of_ble_eq_true rfl) (Nat.le_of_ble_eq_true rfl)
            · refine s_iload_n hX dX10_interval_87 rfl ?_
              refine s_iconst (v := 2) hX dX10_interval_88 kc_2 ?_
              refine s_icne (tgt := 104) hX dX10_interval_89 rfl ?_ ?_
              · refine s_aload_n hX dX10_interval_92 rfl ?_
                refine s_iload_n hX dX10_interval_93 rfl ?_
                refine s_bipush (v := 27) hX dX10_interval_94 kb_27 ?_
                refine s_iload_n hX dX10_interval_96 rfl ?_
                refine s_iadd hX dX10_interval_97 ?_
                refine s_callVi (ck1 := 0) (sk1 := 0) (ci := 8) hX dX10_interval_98 k_X10_at q_1550 (c_X10_at n M11 a0 a1 (27 + a2)) (by decide) rfl rfl rfl ⟨Nat.le_of_ble_eq_true rfl, Nat.le_of_ble_eq_true rfl⟩ ⟨(Nat.le_of_ble_eq_true rfl), (Nat.le_of_ble_eq_true rfl)⟩ (Nat.le_of_ble_eq_true rfl) rfl rfl (fun r16 M17 => ?_)
                refine s_goto (tgt := 113) hX dX10_interval_101 rfl ?_
                exact s_iret hX hR dX10_interval_113 (Nat.le_of_ble_eq_true rfl) (Nat.le_of_ble_eq_true rfl)
              · refine s_aload_n hX dX10_interval_104 rfl ?_
                refine s_iload_n hX dX10_interval_105 rfl ?_
                refine s_bipush (v := 37) hX dX10_interval_106 kb_37 ?_
                refine s_iload_n hX dX10_interval_108 rfl ?_
                refine s_iadd hX dX10_interval_109 ?_
                refine s_callVi (ck1 := 0) (sk1 := 0) (ci := 8) hX dX10_interval_110 k_X10_at q_1550 (c_X10_at n M11 a0 a1 (37 + a2)) (by decide) rfl rfl rfl ⟨Nat.le_of_ble_eq_true rfl, Nat.le_of_ble_eq_true rfl⟩ ⟨(Nat.le_of_ble_eq_true rfl), (Nat.le_of_ble_eq_true rfl)⟩ (Nat.le_of_ble_eq_true rfl) rfl rfl (fun r18 M19 => ?_)
                exact s_iret hX hR dX10_interval_113 (Nat.le_of_ble_eq_true rfl) (Nat.le_of_ble_eq_true rfl)
        · refine s_ldcw hX dX10_interval_49 q_1714 ?_
          exact s_iret hX hR dX10_interval_52 (Nat.le_of_ble_eq_true rfl) (Nat.le_of_ble_eq_true rfl)
abbrev rm_X10_taken : Room := { frames := 2, cells := 0, slots := 0, locals := 43 }
theorem k_X10_taken : KYV yX10_taken cX10_taken 2 (some .int) 1 := ⟨⟨q_1726, q_9, by decide +kernel, by decide +kernel, by decide +kernel⟩, q_1724, q_1725⟩
set_option maxHeartbeats 4000000 in
set_option maxRecDepth 100000 in
theorem c_X10_taken (n : Nat) (M0 : MemT) (a0 : Nat) (a1 : Int32) : Ct iI yX10_taken cX10_taken 2 (some .int) rm_X10_taken [.ref a0, .int a1] M0 (g_X10_taken n M0 a0 a1) := by
  unfold g_X10_taken
  refine ct_intro RX10 0 [some (.ref a0), some (.int a1)] rfl (by decide +kernel) rfl (Nat.le_of_ble_eq_true rfl) (fun X A hX hnm hR => ?_)
  refine s_aload_n hX dX10_taken_0 rfl ?_
  refine s_iconst (v := 0) hX dX10_taken_1 kc_0 ?_
  refine s_putI hX dX10_taken_2 q_1308 rfl rfl (fun M1 => ?_)
  refine s_aload_n hX dX10_taken_5 rfl ?_
  refine s_iload_n hX dX10_taken_6 rfl ?_
  refine s_callVi (ck1 := 0) (sk1 := 0) (ci := 8) hX dX10_taken_7 k_X10_isAsset q_1542 (c_X10_isAsset n M1 a0 a1) (by decide) rfl rfl rfl ⟨Nat.le_of_ble_eq_true rfl, Nat.le_of_ble_eq_true rfl⟩ ⟨(Nat.le_of_ble_eq_true rfl), (Nat.le_of_ble_eq_true rfl)⟩ (Nat.le_of_ble_eq_true rfl) rfl rfl (fun r2 M3 => ?_)
  refine s_ifeq (tgt := 23) hX dX10_taken_10 rfl ?_ ?_
  · refine s_ldcw hX dX10_taken_23 q_1714 ?_
    exact s_iret hX hR dX10_taken_26 (Nat.le_of_ble_eq_true rfl) (Nat.le_of_ble_eq_true rfl)
  · refine s_aload_n hX dX10_taken_13 rfl ?_
    refine s_iload_n hX dX10_taken_14 rfl ?_
    refine s_bipush (v := 10) hX dX10_taken_15 kb_10 ?_
    refine s_callVi (ck1 := 0) (sk1 := 0) (ci := 8) hX dX10_taken_17 k_X10_at q_1550 (c_X10_at n M3 a0 a1 10) (by decide) rfl rfl rfl ⟨Nat.le_of_ble_eq_true rfl, Nat.le_of_ble_eq_true rfl⟩ ⟨(Nat.le_of_ble_eq_true rfl), (Nat.le_of_ble_eq_true rfl)⟩ (Nat.le_of_ble_eq_true rfl) rfl rfl (fun r4 M5 => ?_)
    refine s_goto (tgt := 26) hX dX10_taken_20 rfl ?_
    exact s_iret hX hR dX10_taken_26 (Nat.le_of_ble_eq_true rfl) (Nat.le_of_ble_eq_true rfl)
abbrev rm_X10_last : Room := { frames := 2, cells := 0, slots := 0, locals := 43 }
theorem k_X10_last : KYV yX10_last cX10_last 2 (some .int) 1 := ⟨⟨q_1730, q_9, by decide +kernel, by decide +kernel, by decide +kernel⟩, q_1728, q_1729⟩
set_option maxHeartbeats 4000000 in
set_option maxRecDepth 100000 in
theorem c_X10_last (n : Nat) (M0 : MemT) (a0 : Nat) (a1 : Int32) : Ct iI yX10_last cX10_last 2 (some .int) rm_X10_last [.ref a0, .int a1] M0 (g_X10_last n M0 a0 a1) := by
  unfold g_X10_last
  refine ct_intro RX10 0 [some (.ref a0), some (.int a1)] rfl (by decide +kernel) rfl (Nat.le_of_ble_eq_true rfl) (fun X A hX hnm hR => ?_)
  refine s_aload_n hX dX10_last_0 rfl ?_
  refine s_iconst (v := 0) hX dX10_last_1 kc_0 ?_
  refine s_putI hX dX10_last_2 q_1308 rfl rfl (fun M1 => ?_)
  refine s_aload_n hX dX10_last_5 rfl ?_
  refine s_iload_n hX dX10_last_6 rfl ?_
  refine s_callVi (ck1 := 0) (sk1 := 0) (ci := 8) hX dX10_last_7 k_X10_isAsset q_1542 (c_X10_isAsset n M1 a0 a1) (by decide) rfl rfl rfl ⟨Nat.le_of_ble_eq_true rfl, Nat.le_of_ble_eq_true rfl⟩ ⟨(Nat.le_of_ble_eq_true rfl), (Nat.le_of_ble_eq_true rfl)⟩ (Nat.le_of_ble_eq_true rfl) rfl rfl (fun r2 M3 => ?_)
  refine s_ifeq (tgt := 34) hX dX10_last_10 rfl ?_ ?_
  · refine s_ldcw hX dX10_last_34 q_1714 ?_
    exact s_iret hX hR dX10_last_37 (Nat.le_of_ble_eq_true rfl) (Nat.le_of_ble_eq_true rfl)
  · refine s_aload_n hX dX10_last_13 rfl ?_
    refine s_iload_n hX dX10_last_14 rfl ?_
    refine s_bipush (v := 11) hX dX10_last_15 kb_11 ?_
    refine s_callVi (ck1 := 0) (sk1 := 0) (ci := 8) hX dX10_last_17 k_X10_at q_1550 (c_X10_at n M3 a0 a1 11) (by decide) rfl rfl rfl ⟨Nat.le_of_ble_eq_true rfl, Nat.le_of_ble_eq_true rfl⟩ ⟨(Nat.le_of_ble_eq_true rfl), (Nat.le_of_ble_eq_true rfl)⟩ (Nat.le_of_ble_eq_true rfl) rfl rfl (fun r4 M5 => ?_)
    refine s_iconst (v := 1) hX dX10_last_20 kc_1 ?_
    refine s_icne (tgt := 34) hX dX10_last_21 rfl ?_ ?_
    · refine s_aload_n hX dX10_last_24 rfl ?_
      refine s_iload_n hX dX10_last_25 rfl ?_
      refine s_bipush (v := 12) hX dX10_last_26 kb_12 ?_
      refine s_callVi (ck1 := 0) (sk1 := 0) (ci := 8) hX dX10_last_28 k_X10_at q_1550 (c_X10_at n M5 a0 a1 12) (by decide) rfl rfl rfl ⟨Nat.le_of_ble_eq_true rfl, Nat.le_of_ble_eq_true rfl⟩ ⟨(Nat.le_of_ble_eq_true rfl), (Nat.le_of_ble_eq_true rfl)⟩ (Nat.le_of_ble_eq_true rfl) rfl rfl (fun r6 M7 => ?_)
      refine s_goto (tgt := 37) hX dX10_last_31 rfl ?_
      exact s_iret hX hR dX10_last_37 (Nat.le_of_ble_eq_true rfl) (Nat.le_of_ble_eq_true rfl)
    · refine s_ldcw hX dX10_last_34 q_1714 ?_
      exact s_iret hX hR dX10_last_37 (Nat.le_of_ble_eq_true rfl) (Nat.le_of_ble_eq_true rfl)
abbrev rm_X10_booked : Room := { frames := 1, cells := 0, slots := 0, locals := 22 }
theorem k_X10_booked : KYV yX10_booked cX10_booked 3 (some .int) 2 := ⟨⟨q_1734, q_9, by decide +kernel, by decide +kernel, by decide +kernel⟩, q_1732, q_1733⟩
set_option maxHeartbeats 4000000 in
set_option maxRecDepth 100000 in
theorem c_X10_booked (n : Nat) (M0 : MemT) (a0 : Nat) (a1 : Int32) (a2 : Int32) : Ct iI yX10_booked cX10_booked 3 (some .int) rm_X10_booked [.ref a0, .int a1, .int a2] M0 (g_X10_booked n M0 a0 a1 a2) := by
  unfold g_X10_booked
  refine ct_intro RX10 0 [some (.ref a0), some (.int a1), some (.int a2)] rfl (by decide +kernel) rfl (Nat.le_of_ble_eq_true rfl) (fun X A hX hnm hR => ?_)
  refine s_aload_n hX dX10_booked_0 rfl ?_
  refine s_iconst (v := 0) hX dX10_booked_1 kc_0 ?_
  refine s_putI hX dX10_booked_2 q_1308 rfl rfl (fun M1 => ?_)
  refine s_iload_n hX dX10_booked_5 rfl ?_
  refine s_iflt (tgt := 45) hX dX10_booked_6 rfl ?_ ?_
  · refine s_ldcw hX dX10_booked_45 q_1714 ?_
    exact s_iret hX hR dX10_booked_48 (Nat.le_of_ble_eq_true rfl) (Nat.le_of_ble_eq_true rfl)
  · refine s_iload_n hX dX10_booked_9 rfl ?_
    refine s_aload_n hX dX10_booked_10 rfl ?_
    refine s_sipush (v := 1867) hX dX10_booked_11 ks_1867 ?_
    refine s_callVi (ck1 := 0) (sk1 := 0) (ci := 8) hX dX10_booked_14 k_X10_of q_1286 (c_X10_of n M1 a0 1867) (by decide) rfl rfl rfl ⟨Nat.le_of_ble_eq_true rfl, Nat.le_of_ble_eq_true rfl⟩ ⟨(Nat.le_of_ble_eq_true rfl), (Nat.le_of_ble_eq_true rfl)⟩ (Nat.le_of_ble_eq_true rfl) rfl rfl (fun r2 M3 => ?_)
    refine s_icge (tgt := 45) hX dX10_booked_17 rfl ?_ ?_
    · refine s_ldcw hX dX10_booked_45 q_1714 ?_
      exact s_iret hX hR dX10_booked_48 (Nat.le_of_ble_eq_true rfl) (Nat.le_of_ble_eq_true rfl)
    · refine s_iload_n hX dX10_booked_20 rfl ?_
      refine s_iconst (v := 0) hX dX10_booked_21 kc_0 ?_
      refine s_iconst (v := 4) hX dX10_booked_22 kc_4 ?_
      refine s_callSi (ck1 := 0) (sk1 := 0) hX dX10_booked_23 k_X10_isIn q_1447 (c_X10_isIn n M3 a2 0 4) rfl rfl ⟨Nat.le_of_ble_eq_true rfl, Nat.le_of_ble_eq_true rfl⟩ ⟨(Nat.le_of_ble_eq_true rfl), (Nat.le_of_ble_eq_true rfl)⟩ (Nat.le_of_ble_eq_true rfl) rfl rfl (fun r4 M5 => ?_)
      refine s_ifeq (tgt := 45) hX dX10_booked_26 rfl ?_ ?_
      · refine s_ldcw hX dX10_booked_45 q_1714 ?_
        exact s_iret hX hR dX10_booked_48 (Nat.le_of_ble_eq_true rfl) (Nat.le_of_ble_eq_true rfl)
      · refine s_aload_n hX dX10_booked_29 rfl ?_
        refine s_sipush (v := 1868) hX dX10_booked_30 ks_1868 ?_
        refine s_iconst (v := 5) hX dX10_booked_33 kc_5 ?_
        refine s_iload_n hX dX10_booked_34 rfl ?_
        refine s_imul hX dX10_booked_35 ?_
        refine s_iadd hX dX10_booked_36 ?_
        refine s_iload_n hX dX10_booked_37 rfl ?_
        refine s_iadd hX dX10_booked_38 ?_
        refine s_callVi (ck1 := 0) (sk1 := 0) (ci := 8) hX dX10_booked_39 k_X10_of q_1286 (c_X10_of n M5 a0 ((1868 + (5 * a1)) + a2)) (by decide) rfl rfl rfl ⟨Nat.le_of_ble_eq_true rfl, Nat.le_of_ble_eq_true rfl⟩ ⟨(Nat.le_of_ble_eq_true rfl), (Nat.le_of_ble_eq_true rfl)⟩ (Nat.le_of_ble_eq_true rfl) rfl rfl (fun r6 M7 => ?_)
        refine s_goto (tgt := 48) hX dX10_booked_42 rfl ?_
        exact s_iret hX hR dX10_booked_48 (Nat.le_of_ble_eq_true rfl) (Nat.le_of_ble_eq_true rfl)
abbrev rm_X10_total : Room := { frames := 1, cells := 0, slots := 0, locals := 22 }
theorem k_X10_total : KYV yX10_total cX10_total 3 (some .int) 2 := ⟨⟨q_1738, q_9, by decide +kernel, by decide +kernel, by decide +kernel⟩, q_1736, q_1737⟩
set_option maxHeartbeats 4000000 in
set_option maxRecDepth 100000 in
theorem c_X10_total (n : Nat) (M0 : MemT) (a0 : Nat) (a1 : Int32) (a2 : Int32) : Ct iI yX10_total cX10_total 3 (some .int) rm_X10_total [.ref a0, .int a1, .int a2] M0 (g_X10_total n M0 a0 a1 a2) := by
  unfold g_X10_total
  refine ct_intro RX10 0 [some (.ref a0), some (.int a1), some (.int a2)] rfl (by decide +kernel) rfl (Nat.le_of_ble_eq_true rfl) (fun X A hX hnm hR => ?_)
  refine s_aload_n hX dX10_total_0 rfl ?_
  refine s_iconst (v := 0) hX dX10_total_1 kc_0 ?_
  refine s_putI hX dX10_total_2 q_1308 rfl rfl (fun M1 => ?_)
  refine s_aload_n hX dX10_total_5 rfl ?_
  refine s_iload_n hX dX10_total_6 rfl ?_
  refine s_callVi (ck1 := 0) (sk1 := 0) (ci := 8) hX dX10_total_7 k_X10_isTrader q_1510 (c_X10_isTrader n M1 a0 a1) (by decide) rfl rfl rfl ⟨Nat.le_of_ble_eq_true rfl, Nat.le_of_ble_eq_true rfl⟩ ⟨(Nat.le_of_ble_eq_true rfl), (Nat.le_of_ble_eq_true rfl)⟩ (Nat.le_of_ble_eq_true rfl) rfl rfl (fun r2 M3 => ?_)
  refine s_ifeq (tgt := 38) hX dX10_total_10 rfl ?_ ?_
  · refine s_ldcw hX dX10_total_38 q_1714 ?_
    exact s_iret hX hR dX10_total_41 (Nat.le_of_ble_eq_true rfl) (Nat.le_of_ble_eq_true rfl)
  · refine s_iload_n hX dX10_total_13 rfl ?_
    refine s_iconst (v := 0) hX dX10_total_14 kc_0 ?_
    refine s_iconst (v := 3) hX dX10_total_15 kc_3 ?_
    refine s_callSi (ck1 := 0) (sk1 := 0) hX dX10_total_16 k_X10_isIn q_1447 (c_X10_isIn n M3 a2 0 3) rfl rfl ⟨Nat.le_of_ble_eq_true rfl, Nat.le_of_ble_eq_true rfl⟩ ⟨(Nat.le_of_ble_eq_true rfl), (Nat.le_of_ble_eq_true rfl)⟩ (Nat.le_of_ble_eq_true rfl) rfl rfl (fun r4 M5 => ?_)
    refine s_ifeq (tgt := 38) hX dX10_total_19 rfl ?_ ?_
    · refine s_ldcw hX dX10_total_38 q_1714 ?_
      exact s_iret hX hR dX10_total_41 (Nat.le_of_ble_eq_true rfl) (Nat.le_of_ble_eq_true rfl)
    · refine s_aload_n hX dX10_total_22 rfl ?_
      refine s_sipush (v := 2068) hX dX10_total_23 ks_2068 ?_
      refine s_iconst (v := 4) hX dX10_total_26 kc_4 ?_
      refine s_iload_n hX dX10_total_27 rfl ?_
      refine s_imul hX dX10_total_28 ?_
      refine s_iadd hX dX10_total_29 ?_
      refine s_iload_n hX dX10_total_30 rfl ?_
      refine s_iadd hX dX10_total_31 ?_
      refine s_callVi (ck1 := 0) (sk1 := 0) (ci := 8) hX dX10_total_32 k_X10_of q_1286 (c_X10_of n M5 a0 ((2068 + (4 * a1)) + a2)) (by decide) rfl rfl rfl ⟨Nat.le_of_ble_eq_true rfl, Nat.le_of_ble_eq_true rfl⟩ ⟨(Nat.le_of_ble_eq_true rfl), (Nat.le_of_ble_eq_true rfl)⟩ (Nat.le_of_ble_eq_true rfl) rfl rfl (fun r6 M7 => ?_)
      refine s_goto (tgt := 41) hX dX10_total_35 rfl ?_
      exact s_iret hX hR dX10_total_41 (Nat.le_of_ble_eq_true rfl) (Nat.le_of_ble_eq_true rfl)
abbrev rm_X10_by : Room := { frames := 3, cells := 0, slots := 0, locals := 79 }
theorem k_X10_by : KYV yX10_by cX10_by 6 (some .int) 5 := ⟨⟨q_1742, q_9, by decide +kernel, by decide +kernel, by decide +kernel⟩, q_1740, q_1741⟩
set_option maxHeartbeats 4000000 in
set_option maxRecDepth 100000 in
theorem c_X10_by (n : Nat) (M0 : MemT) (a0 : Nat) (a1 : Int32) (a2 : Int32) (a3 : Int32) (a4 : Int32) (a5 : Int32) : Ct iI yX10_by cX10_by 6 (some .int) rm_X10_by [.ref a0, .int a1, .int a2, .int a3, .int a4, .int a5] M0 (g_X10_by n M0 a0 a1 a2 a3 a4 a5) := by
  unfold g_X10_by
  refine ct_intro RX10 0 [some (.ref a0), some (.int a1), some (.int a2), some (.int a3), some (.int a4), some (.int a5)] rfl (by decide +kernel) rfl (Nat.le_of_ble_eq_true rfl) (fun X A hX hnm hR => ?_)
  refine s_aload_n hX dX10_by_0 rfl ?_
  refine s_iconst (v := 0) hX dX10_by_1 kc_0 ?_
  refine s_putI hX dX10_by_2 q_1308 rfl rfl (fun M1 => ?_)
  refine s_aload_n hX dX10_by_5 rfl ?_
  refine s_iload_n hX dX10_by_6 rfl ?_
  refine s_iload_n hX dX10_by_7 rfl ?_
  refine s_callVi (ck1 := 0) (sk1 := 0) (ci := 8) hX dX10_by_8 k_X10_isYear q_1710 (c_X10_isYear n M1 a0 a1 a2) (by decide) rfl rfl rfl ⟨Nat.le_of_ble_eq_true rfl, Nat.le_of_ble_eq_true rfl⟩ ⟨(Nat.le_of_ble_eq_true rfl), (Nat.le_of_ble_eq_true rfl)⟩ (Nat.le_of_ble_eq_true rfl) rfl rfl (fun r2 M3 => ?_)
  refine s_ifeq (tgt := 46) hX dX10_by_11 rfl ?_ ?_
  · refine s_ldcw hX dX10_by_46 q_1714 ?_
    exact s_iret hX hR dX10_by_49 (Nat.le_of_ble_eq_true rfl) (Nat.le_of_ble_eq_true rfl)
  · refine s_iload_n hX dX10_by_14 rfl ?_
    refine s_iconst (v := 0) hX dX10_by_15 kc_0 ?_
    refine s_iconst (v := 2) hX dX10_by_16 kc_2 ?_
    refine s_callSi (ck1 := 0) (sk1 := 0) hX dX10_by_17 k_X10_isIn q_1447 (c_X10_isIn n M3 a3 0 2) rfl rfl ⟨Nat.le_of_ble_eq_true rfl, Nat.le_of_ble_eq_true rfl⟩ ⟨(Nat.le_of_ble_eq_true rfl), (Nat.le_of_ble_eq_true rfl)⟩ (Nat.le_of_ble_eq_true rfl) rfl rfl (fun r4 M5 => ?_)
    refine s_ifeq (tgt := 46) hX dX10_by_20 rfl ?_ ?_
    · refine s_ldcw hX dX10_by_46 q_1714 ?_
      exact s_iret hX hR dX10_by_49 (Nat.le_of_ble_eq_true rfl) (Nat.le_of_ble_eq_true rfl)
    · refine s_iload hX dX10_by_23 rfl ?_
      refine s_iconst (v := 0) hX dX10_by_25 kc_0 ?_
      refine s_iconst (v := 2) hX dX10_by_26 kc_2 ?_
      refine s_callSi (ck1 := 0) (sk1 := 0) hX dX10_by_27 k_X10_isIn q_1447 (c_X10_isIn n M5 a4 0 2) rfl rfl ⟨Nat.le_of_ble_eq_true rfl, Nat.le_of_ble_eq_true rfl⟩ ⟨(Nat.le_of_ble_eq_true rfl), (Nat.le_of_ble_eq_true rfl)⟩ (Nat.le_of_ble_eq_true rfl) rfl rfl (fun r6 M7 => ?_)
      refine s_ifeq (tgt := 46) hX dX10_by_30 rfl ?_ ?_
      · refine s_ldcw hX dX10_by_46 q_1714 ?_
        exact s_iret hX hR dX10_by_49 (Nat.le_of_ble_eq_true rfl) (Nat.le_of_ble_eq_true rfl)
      · refine s_iload hX dX10_by_33 rfl ?_
        refine s_bipush (v := 10) hX dX10_by_35 kb_10 ?_
        refine s_sipush (v := 1000) hX dX10_by_37 ks_1000 ?_
        refine s_callSi (ck1 := 0) (sk1 := 0) hX dX10_by_40 k_X10_isIn q_1447 (c_X10_isIn n M7 a5 10 1000) rfl rfl ⟨Nat.le_of_ble_eq_true rfl, Nat.le_of_ble_eq_true rfl⟩ ⟨(Nat.le_of_ble_eq_true rfl), (Nat.le_of_ble_eq_true rfl)⟩ (Nat.le_of_ble_eq_true rfl) rfl rfl (fun r8 M9 => ?_)
        refine s_ifne (tgt := 50) hX dX10_by_43 rfl ?_ ?_
        · refine s_ldcw hX dX10_by_46 q_1714 ?_
          exact s_iret hX hR dX10_by_49 (Nat.le_of_ble_eq_true rfl) (Nat.le_of_ble_eq_true rfl)
        · refine s_aload_n hX dX10_by_50 rfl ?_
          refine s_iload_n hX dX10_by_51 rfl ?_
          refine s_iload_n hX dX10_by_52 rfl ?_
          refine s_callVu (ck1 := 0) (sk1 := 0) (ci := 8) hX dX10_by_53 k_X10_layYear q_1633 (c_X10_layYear n M9 a0 a1 a2) (by decide) rfl rfl rfl ⟨Nat.le_of_ble_eq_true rfl, Nat.le_of_ble_eq_true rfl⟩ ⟨(Nat.le_of_ble_eq_true rfl), (Nat.le_of_ble_eq_true rfl)⟩ (Nat.le_of_ble_eq_true rfl) rfl rfl (fun r10 M11 => ?_)
          refine s_aload_n hX dX10_by_56 rfl ?_
          refine s_aload_n hX dX10_by_57 rfl ?_
          refine s_iload hX dX10_by_58 rfl ?_
          refine s_iload_n hX dX10_by_60 rfl ?_
          refine s_iload hX dX10_by_61 rfl ?_
          refine s_callVi (ck1 := 0) (sk1 := 0) (ci := 8) hX dX10_by_63 k_X10_fractionBy q_1602 (c_X10_fractionBy n M11 a0 a4 a3 a5) (by decide) rfl rfl rfl ⟨Nat.le_of_ble_eq_true rfl, Nat.le_of_ble_eq_true rfl⟩ ⟨(Nat.le_of_ble_eq_true rfl), (Nat.le_of_ble_eq_true rfl)⟩ (Nat.le_of_ble_eq_true rfl) rfl rfl (fun r12 M13 => ?_)
          refine s_iload_n hX dX10_by_66 rfl ?_
          refine s_iload hX dX10_by_67 rfl ?_
          refine s_aload_n hX dX10_by_69 rfl ?_
          refine s_getO hX dX10_by_70 q_1323 rfl (fun j14 => ?_)
          refine s_iconst (v := 2) hX dX10_by_73 kc_2 ?_
          refine s_iald hX dX10_by_74 (fun v15 => ?_)
          refine s_callVi (ck1 := 0) (sk1 := 0) (ci := 8) hX dX10_by_75 k_X10_backBy q_1621 (c_X10_backBy n M13 a0 r12 a3 a5 v15) (by decide) rfl rfl rfl ⟨Nat.le_of_ble_eq_true rfl, Nat.le_of_ble_eq_true rfl⟩ ⟨(Nat.le_of_ble_eq_true rfl), (Nat.le_of_ble_eq_true rfl)⟩ (Nat.le_of_ble_eq_true rfl) rfl rfl (fun r16 M17 => ?_)
          exact s_iret hX hR dX10_by_78 (Nat.le_of_ble_eq_true rfl) (Nat.le_of_ble_eq_true rfl)
abbrev rm_X10_bestMethod : Room := { frames := 4, cells := 0, slots := 0, locals := 101 }
theorem k_X10_bestMethod : KYV yX10_bestMethod cX10_bestMethod 7 (some .int) 2 := ⟨⟨q_1746, q_9, by decide +kernel, by decide +kernel, by decide +kernel⟩, q_1744, q_1745⟩
set_option maxHeartbeats 4000000 in
set_option maxRecDepth 100000 in
theorem c_X10_bestMethod (n : Nat) (M0 : MemT) (a0 : Nat) (a1 : Int32) (a2 : Int32) : Ct iI yX10_bestMethod cX10_bestMethod 7 (some .int) rm_X10_bestMethod [.ref a0, .int a1, .int a2] M0 (g_X10_bestMethod n M0 a0 a1 a2) := by
  unfold g_X10_bestMethod
  refine ct_intro RX10 4 [some (.ref a0), some (.int a1), some (.int a2), none, none, none, none] rfl (by decide +kernel) rfl (Nat.le_of_ble_eq_true rfl) (fun X A hX hnm hR => ?_)
  refine s_aload_n hX dX10_bestMethod_0 rfl ?_
  refine s_iconst (v := 0) hX dX10_bestMethod_1 kc_0 ?_
  refine s_putI hX dX10_bestMethod_2 q_1308 rfl rfl (fun M1 => ?_)
  refine s_aload_n hX dX10_bestMethod_5 rfl ?_
  refine s_iload_n hX dX10_bestMethod_6 rfl ?_
  refine s_callVi (ck1 := 0) (sk1 := 0) (ci := 8) hX dX10_bestMethod_7 k_X10_isTrader q_1510 (c_X10_isTrader n M1 a0 a1) (by decide) rfl rfl rfl ⟨Nat.le_of_ble_eq_true rfl, Nat.le_of_ble_eq_true rfl⟩ ⟨(Nat.le_of_ble_eq_true rfl), (Nat.le_of_ble_eq_true rfl)⟩ (Nat.le_of_ble_eq_true rfl) rfl rfl (fun r2 M3 => ?_)
  refine s_ifeq (tgt := 23) hX dX10_bestMethod_10 rfl ?_ ?_
  · refine s_iconst (v := (-1)) hX dX10_bestMethod_23 kc_m1 ?_
    exact s_iret hX hR dX10_bestMethod_24 (Nat.le_of_ble_eq_true rfl) (Nat.le_of_ble_eq_true rfl)
  · refine s_iload_n hX dX10_bestMethod_13 rfl ?_
    refine s_iconst (v := 0) hX dX10_bestMethod_14 kc_0 ?_
    refine s_bipush (v := 15) hX dX10_bestMethod_15 kb_15 ?_
    refine s_callSi (ck1 := 0) (sk1 := 0) hX dX10_bestMethod_17 k_X10_isIn q_1447 (c_X10_isIn n M3 a2 0 15) rfl rfl ⟨Nat.le_of_ble_eq_true rfl, Nat.le_of_ble_eq_true rfl⟩ ⟨(Nat.le_of_ble_eq_true rfl), (Nat.le_of_ble_eq_true rfl)⟩ (Nat.le_of_ble_eq_true rfl) rfl rfl (fun r4 M5 => ?_)
    refine s_ifne (tgt := 25) hX dX10_bestMethod_20 rfl ?_ ?_
    · refine s_iconst (v := (-1)) hX dX10_bestMethod_23 kc_m1 ?_
      exact s_iret hX hR dX10_bestMethod_24 (Nat.le_of_ble_eq_true rfl) (Nat.le_of_ble_eq_true rfl)
    · refine s_iload_n hX dX10_bestMethod_25 rfl ?_
      refine s_aload_n hX dX10_bestMethod_26 rfl ?_
      refine s_callVi (ck1 := 0) (sk1 := 0) (ci := 8) hX dX10_bestMethod_27 k_X10_year q_1526 (c_X10_year n M5 a0) (by decide) rfl rfl rfl ⟨Nat.le_of_ble_eq_true rfl, Nat.le_of_ble_eq_true rfl⟩ ⟨(Nat.le_of_ble_eq_true rfl), (Nat.le_of_ble_eq_true rfl)⟩ (Nat.le_of_ble_eq_true rfl) rfl rfl (fun r6 M7 => ?_)
      refine s_icle (tgt := 36) hX dX10_bestMethod_30 rfl ?_ ?_
      · refine s_iconst (v := 0) hX dX10_bestMethod_36 kc_0 ?_
        refine s_istore3 hX dX10_bestMethod_37 (by first | exact trivial | exact rfl) (Nat.le_of_ble_eq_true rfl) ?_
        refine s_iconst (v := 0) hX dX10_bestMethod_38 kc_0 ?_
        refine s_istore4 hX dX10_bestMethod_39 (by first | exact trivial | exact rfl) (Nat.le_of_ble_eq_true rfl) ?_
        refine s_aload_n hX dX10_bestMethod_41 rfl ?_
        refine s_iload_n hX dX10_bestMethod_42 rfl ?_
        refine s_iload_n hX dX10_bestMethod_43 rfl ?_
        refine s_callVu (ck1 := 0) (sk1 := 0) (ci := 8) hX dX10_bestMethod_44 k_X10_layYear q_1633 (c_X10_layYear n M7 a0 a1 a2) (by decide) rfl rfl rfl ⟨Nat.le_of_ble_eq_true rfl, Nat.le_of_ble_eq_true rfl⟩ ⟨(Nat.le_of_ble_eq_true rfl), (Nat.le_of_ble_eq_true rfl)⟩ (Nat.le_of_ble_eq_true rfl) rfl rfl (fun r8 M9 => ?_)
        refine s_iconst (v := 0) hX dX10_bestMethod_47 kc_0 ?_
        refine s_istore5 hX dX10_bestMethod_48 (by first | exact trivial | exact rfl) (Nat.le_of_ble_eq_true rfl) ?_
        refine s_loopE (stk := []) (fun (s : MemT × Int32 × Int32 × Int32) => [some (.ref a0), some (.int a1), some (.int a2), some (.int s.2.1), some (.int s.2.2.1), some (.int s.2.2.2), none]) (fun (s : MemT × Int32 × Int32 × Int32) => s.1) 132 (fun (s : MemT × Int32 × Int32 × Int32) => [some (.ref a0), some (.int a1), some (.int a2), some (.int s.2.1), some (.int s.2.2.1), some (.int s.2.2.2), none]) (fun s B14 hB14 hE14 => ?_) (fun s => ?_) n (M9, 0, 0, 0)
        · obtain ⟨M10, v11, v12, v13⟩ := s
          dsimp only
          refine s_iload hX dX10_bestMethod_50 rfl ?_
          refine s_iconst (v := 3) hX dX10_bestMethod_52 kc_3 ?_
          refine s_icge (tgt := 132) hX dX10_bestMethod_53 rfl ?_ ?_
          · exact s_exit hE14
          · refine s_aload_n hX dX10_bestMethod_56 rfl ?_
            refine s_aload_n hX dX10_bestMethod_57 rfl ?_
            refine s_iload hX dX10_bestMethod_58 rfl ?_
            refine s_aload_n hX dX10_bestMethod_60 rfl ?_
            refine s_getO hX dX10_bestMethod_61 q_1323 rfl (fun j15 => ?_)
            refine s_iconst (v := 0) hX dX10_bestMethod_64 kc_0 ?_
            refine s_iald hX dX10_bestMethod_65 (fun v16 => ?_)
            refine s_aload_n hX dX10_bestMethod_66 rfl ?_
            refine s_getO hX dX10_bestMethod_67 q_1323 rfl (fun j17 => ?_)
            refine s_iconst (v := 1) hX dX10_bestMethod_70 kc_1 ?_
            refine s_iald hX dX10_bestMethod_71 (fun v18 => ?_)
            refine s_callVi (ck1 := 0) (sk1 := 0) (ci := 8) hX dX10_bestMethod_72 k_X10_fractionBy q_1602 (c_X10_fractionBy n M10 a0 v13 v16 v18) (by decide) rfl rfl rfl ⟨Nat.le_of_ble_eq_true rfl, Nat.le_of_ble_eq_true rfl⟩ ⟨(Nat.le_of_ble_eq_true rfl), (Nat.le_of_ble_eq_true rfl)⟩ (Nat.le_of_ble_eq_true rfl) rfl rfl (fun r19 M20 => ?_)
            refine s_aload_n hX dX10_bestMethod_75 rfl ?_
            refine s_getO hX dX10_bestMethod_76 q_1323 rfl (fun j21 => ?_)
            refine s_iconst (v := 2) hX dX10_bestMethod_79 kc_2 ?_
            refine s_iald hX dX10_bestMethod_80 (fun v22 => ?_)
            refine s_callVi (ck1 := 0) (sk1 := 0) (ci := 8) hX dX10_bestMethod_81 k_X10_back1 q_1617 (c_X10_back1 n M20 a0 r19 v22) (by decide) rfl rfl rfl ⟨Nat.le_of_ble_eq_true rfl, Nat.le_of_ble_eq_true rfl⟩ ⟨(Nat.le_of_ble_eq_true rfl), (Nat.le_of_ble_eq_true rfl)⟩ (Nat.le_of_ble_eq_true rfl) rfl rfl (fun r23 M24 => ?_)
            refine s_istore6 hX dX10_bestMethod_84 (by first | exact trivial | exact rfl) (Nat.le_of_ble_eq_true rfl) ?_
            refine s_iload hX dX10_bestMethod_86 rfl ?_
            refine s_jp (fun (s : MemT × Int32) => [some (.ref a0), some (.int a1), some (.int a2), some (.int v11), some (.int v12), some (.int v13), some (.int r23)]) (fun (s : MemT × Int32) => [.int s.2]) (fun (s : MemT × Int32) => s.1) 0 0 104 (fun s => ?_) (fun K25 hK25 => ?_)
            · obtain ⟨M26, v27⟩ := s
              dsimp only
              refine s_istore3 hX dX10_bestMethod_104 (by first | exact trivial | exact rfl) (Nat.le_of_ble_eq_true rfl) ?_
              refine s_iload hX dX10_bestMethod_105 rfl ?_
              refine s_ifeq (tgt := 117) hX dX10_bestMethod_107 rfl ?_ ?_
              · refine s_iload hX dX10_bestMethod_117 rfl ?_
                refine s_goto (tgt := 124) hX dX10_bestMethod_119 rfl ?_
                refine s_istore4 hX dX10_bestMethod_124 (by first | exact trivial | exact rfl) (Nat.le_of_ble_eq_true rfl) ?_
                refine s_iinc5 (v := v13 + 1) hX dX10_bestMethod_126 rfl (by first | exact trivial | exact rfl) (Nat.le_of_ble_eq_true rfl) ?_
                refine s_goto (tgt := 50) hX dX10_bestMethod_129 rfl ?_
                refine s_forget (loc1 := [some (.ref a0), some (.int a1), some (.int a2), some (.int v27), some (.int r23), some (.int (v13 + 1)), none]) ⟨rfl, rfl, rfl, rfl, rfl, rfl, trivial⟩ ?_
                exact s_back hB14
              · refine s_iload hX dX10_bestMethod_110 rfl ?_
                refine s_iload hX dX10_bestMethod_112 rfl ?_
                refine s_icle (tgt := 122) hX dX10_bestMethod_114 rfl ?_ ?_
                · refine s_iload hX dX10_bestMethod_122 rfl ?_
                  refine s_istore4 hX dX10_bestMethod_124 (by first | exact trivial | exact rfl) (Nat.le_of_ble_eq_true rfl) ?_
                  refine s_iinc5 (v := v13 + 1) hX dX10_bestMethod_126 rfl (by first | exact trivial | exact rfl) (Nat.le_of_ble_eq_true rfl) ?_
                  refine s_goto (tgt := 50) hX dX10_bestMethod_129 rfl ?_
                  refine s_forget (loc1 := [some (.ref a0), some (.int a1), some (.int a2), some (.int v27), some (.int v12), some (.int (v13 + 1)), none]) ⟨rfl, rfl, rfl, rfl, rfl, rfl, trivial⟩ ?_
                  exact s_back hB14
                · refine s_iload hX dX10_bestMethod_117 rfl ?_
                  refine s_goto (tgt := 124) hX dX10_bestMethod_119 rfl ?_
                  refine s_istore4 hX dX10_bestMethod_124 (by first | exact trivial | exact rfl) (Nat.le_of_ble_eq_true rfl) ?_
                  refine s_iinc5 (v := v13 + 1) hX dX10_bestMethod_126 rfl (by first | exact trivial | exact rfl) (Nat.le_of_ble_eq_true rfl) ?_
                  refine s_goto (tgt := 50) hX dX10_bestMethod_129 rfl ?_
                  refine s_forget (loc1 := [some (.ref a0), some (.int a1), some (.int a2), some (.int v27), some (.int r23), some (.int (v13 + 1)), none]) ⟨rfl, rfl, rfl, rfl, rfl, rfl, trivial⟩ ?_
                  exact s_back hB14
            · refine s_jp (fun (s : MemT) => [some (.ref a0), some (.int a1), some (.int a2), some (.int v11), some (.int v12), some (.int v13), some (.int r23)]) (fun (s : MemT) => []) (fun (s : MemT) => s) 0 0 98 (fun s => ?_) (fun K28 hK28 => ?_)
              · revert s
                intro M29
                try dsimp only
                refine s_iload hX dX10_bestMethod_98 rfl ?_
                refine s_goto (tgt := 104) hX dX10_bestMethod_100 rfl ?_
                exact hK25 _
              · refine s_ifeq (tgt := 98) hX dX10_bestMethod_88 rfl ?_ ?_
                · exact hK28 _
                · refine s_iload hX dX10_bestMethod_91 rfl ?_
                  refine s_iload hX dX10_bestMethod_93 rfl ?_
                  refine s_icle (tgt := 103) hX dX10_bestMethod_95 rfl ?_ ?_
                  · refine s_iload_n hX dX10_bestMethod_103 rfl ?_
                    exact hK25 _
                  · exact hK28 _
        · obtain ⟨M30, v31, v32, v33⟩ := s
          dsimp only
          refine s_iload_n hX dX10_bestMethod_132 rfl ?_
          exact s_iret hX hR dX10_bestMethod_133 (Nat.le_of_ble_eq_true rfl) (Nat.le_of_ble_eq_true rfl)
      · refine s_bipush (v := (-2)) hX dX10_bestMethod_33 kb_m2 ?_
        exact s_iret hX hR dX10_bestMethod_35 (Nat.le_of_ble_eq_true rfl) (Nat.le_of_ble_eq_true rfl)
abbrev rm_X10_bestStep : Room := { frames := 3, cells := 0, slots := 0, locals := 79 }
theorem k_X10_bestStep : KYV yX10_bestStep cX10_bestStep 7 (some .int) 2 := ⟨⟨q_1750, q_9, by decide +kernel, by decide +kernel, by decide +kernel⟩, q_1748, q_1749⟩
set_option maxHeartbeats 4000000 in
set_option maxRecDepth 100000 in
theorem c_X10_bestStep (n : Nat) (M0 : MemT) (a0 : Nat) (a1 : Int32) (a2 : Int32) : Ct iI yX10_bestStep cX10_bestStep 7 (some .int) rm_X10_bestStep [.ref a0, .int a1, .int a2] M0 (g_X10_bestStep n M0 a0 a1 a2) := by
  unfold g_X10_bestStep
  refine ct_intro RX10 4 [some (.ref a0), some (.int a1), some (.int a2), none, none, none, none] rfl (by decide +kernel) rfl (Nat.le_of_ble_eq_true rfl) (fun X A hX hnm hR => ?_)
  refine s_aload_n hX dX10_bestStep_0 rfl ?_
  refine s_iconst (v := 0) hX dX10_bestStep_1 kc_0 ?_
  refine s_putI hX dX10_bestStep_2 q_1308 rfl rfl (fun M1 => ?_)
  refine s_aload_n hX dX10_bestStep_5 rfl ?_
  refine s_iload_n hX dX10_bestStep_6 rfl ?_
  refine s_callVi (ck1 := 0) (sk1 := 0) (ci := 8) hX dX10_bestStep_7 k_X10_isTrader q_1510 (c_X10_isTrader n M1 a0 a1) (by decide) rfl rfl rfl ⟨Nat.le_of_ble_eq_true rfl, Nat.le_of_ble_eq_true rfl⟩ ⟨(Nat.le_of_ble_eq_true rfl), (Nat.le_of_ble_eq_true rfl)⟩ (Nat.le_of_ble_eq_true rfl) rfl rfl (fun r2 M3 => ?_)
  refine s_ifeq (tgt := 23) hX dX10_bestStep_10 rfl ?_ ?_
  · refine s_iconst (v := (-1)) hX dX10_bestStep_23 kc_m1 ?_
    exact s_iret hX hR dX10_bestStep_24 (Nat.le_of_ble_eq_true rfl) (Nat.le_of_ble_eq_true rfl)
  · refine s_iload_n hX dX10_bestStep_13 rfl ?_
    refine s_iconst (v := 0) hX dX10_bestStep_14 kc_0 ?_
    refine s_bipush (v := 15) hX dX10_bestStep_15 kb_15 ?_
    refine s_callSi (ck1 := 0) (sk1 := 0) hX dX10_bestStep_17 k_X10_isIn q_1447 (c_X10_isIn n M3 a2 0 15) rfl rfl ⟨Nat.le_of_ble_eq_true rfl, Nat.le_of_ble_eq_true rfl⟩ ⟨(Nat.le_of_ble_eq_true rfl), (Nat.le_of_ble_eq_true rfl)⟩ (Nat.le_of_ble_eq_true rfl) rfl rfl (fun r4 M5 => ?_)
    refine s_ifne (tgt := 25) hX dX10_bestStep_20 rfl ?_ ?_
    · refine s_iconst (v := (-1)) hX dX10_bestStep_23 kc_m1 ?_
      exact s_iret hX hR dX10_bestStep_24 (Nat.le_of_ble_eq_true rfl) (Nat.le_of_ble_eq_true rfl)
    · refine s_iload_n hX dX10_bestStep_25 rfl ?_
      refine s_aload_n hX dX10_bestStep_26 rfl ?_
      refine s_callVi (ck1 := 0) (sk1 := 0) (ci := 8) hX dX10_bestStep_27 k_X10_year q_1526 (c_X10_year n M5 a0) (by decide) rfl rfl rfl ⟨Nat.le_of_ble_eq_true rfl, Nat.le_of_ble_eq_true rfl⟩ ⟨(Nat.le_of_ble_eq_true rfl), (Nat.le_of_ble_eq_true rfl)⟩ (Nat.le_of_ble_eq_true rfl) rfl rfl (fun r6 M7 => ?_)
      refine s_icle (tgt := 36) hX dX10_bestStep_30 rfl ?_ ?_
      · refine s_iconst (v := 0) hX dX10_bestStep_36 kc_0 ?_
        refine s_istore3 hX dX10_bestStep_37 (by first | exact trivial | exact rfl) (Nat.le_of_ble_eq_true rfl) ?_
        refine s_iconst (v := 0) hX dX10_bestStep_38 kc_0 ?_
        refine s_istore4 hX dX10_bestStep_39 (by first | exact trivial | exact rfl) (Nat.le_of_ble_eq_true rfl) ?_
        refine s_aload_n hX dX10_bestStep_41 rfl ?_
        refine s_iload_n hX dX10_bestStep_42 rfl ?_
        refine s_iload_n hX dX10_bestStep_43 rfl ?_
        refine s_callVu (ck1 := 0) (sk1 := 0) (ci := 8) hX dX10_bestStep_44 k_X10_layYear q_1633 (c_X10_layYear n M7 a0 a1 a2) (by decide) rfl rfl rfl ⟨Nat.le_of_ble_eq_true rfl, Nat.le_of_ble_eq_true rfl⟩ ⟨(Nat.le_of_ble_eq_true rfl), (Nat.le_of_ble_eq_true rfl)⟩ (Nat.le_of_ble_eq_true rfl) rfl rfl (fun r8 M9 => ?_)
        refine s_bipush (v := 10) hX dX10_bestStep_47 kb_10 ?_
        refine s_istore5 hX dX10_bestStep_49 (by first | exact trivial | exact rfl) (Nat.le_of_ble_eq_true rfl) ?_
        refine s_loopE (stk := []) (fun (s : MemT × Int32 × Int32 × Int32) => [some (.ref a0), some (.int a1), some (.int a2), some (.int s.2.1), some (.int s.2.2.1), some (.int s.2.2.2), none]) (fun (s : MemT × Int32 × Int32 × Int32) => s.1) 124 (fun (s : MemT × Int32 × Int32 × Int32) => [some (.ref a0), some (.int a1), some (.int a2), some (.int s.2.1), some (.int s.2.2.1), some (.int s.2.2.2), none]) (fun s B14 hB14 hE14 => ?_) (fun s => ?_) n (M9, 0, 0, 10)
        · obtain ⟨M10, v11, v12, v13⟩ := s
          dsimp only
          refine s_iload hX dX10_bestStep_51 rfl ?_
          refine s_sipush (v := 1000) hX dX10_bestStep_53 ks_1000 ?_
          refine s_icgt (tgt := 124) hX dX10_bestStep_56 rfl ?_ ?_
          · exact s_exit hE14
          · refine s_aload_n hX dX10_bestStep_59 rfl ?_
            refine s_aload_n hX dX10_bestStep_60 rfl ?_
            refine s_aload_n hX dX10_bestStep_61 rfl ?_
            refine s_iload_n hX dX10_bestStep_62 rfl ?_
            refine s_iconst (v := 1) hX dX10_bestStep_63 kc_1 ?_
            refine s_callVi (ck1 := 0) (sk1 := 0) (ci := 8) hX dX10_bestStep_64 k_X10_told1 q_1278 (c_X10_told1 n M10 a0 a1 1) (by decide) rfl rfl rfl ⟨Nat.le_of_ble_eq_true rfl, Nat.le_of_ble_eq_true rfl⟩ ⟨(Nat.le_of_ble_eq_true rfl), (Nat.le_of_ble_eq_true rfl)⟩ (Nat.le_of_ble_eq_true rfl) rfl rfl (fun r15 M16 => ?_)
            refine s_aload_n hX dX10_bestStep_67 rfl ?_
            refine s_getO hX dX10_bestStep_68 q_1323 rfl (fun j17 => ?_)
            refine s_iconst (v := 0) hX dX10_bestStep_71 kc_0 ?_
            refine s_iald hX dX10_bestStep_72 (fun v18 => ?_)
            refine s_iload hX dX10_bestStep_73 rfl ?_
            refine s_callVi (ck1 := 0) (sk1 := 0) (ci := 8) hX dX10_bestStep_75 k_X10_fractionBy q_1602 (c_X10_fractionBy n M16 a0 r15 v18 v13) (by decide) rfl rfl rfl ⟨Nat.le_of_ble_eq_true rfl, Nat.le_of_ble_eq_true rfl⟩ ⟨(Nat.le_of_ble_eq_true rfl), (Nat.le_of_ble_eq_true rfl)⟩ (Nat.le_of_ble_eq_true rfl) rfl rfl (fun r19 M20 => ?_)
            refine s_aload_n hX dX10_bestStep_78 rfl ?_
            refine s_getO hX dX10_bestStep_79 q_1323 rfl (fun j21 => ?_)
            refine s_iconst (v := 0) hX dX10_bestStep_82 kc_0 ?_
            refine s_iald hX dX10_bestStep_83 (fun v22 => ?_)
            refine s_iload hX dX10_bestStep_84 rfl ?_
            refine s_aload_n hX dX10_bestStep_86 rfl ?_
            refine s_getO hX dX10_bestStep_87 q_1323 rfl (fun j23 => ?_)
            refine s_iconst (v := 2) hX dX10_bestStep_90 kc_2 ?_
            refine s_iald hX dX10_bestStep_91 (fun v24 => ?_)
            refine s_callVi (ck1 := 0) (sk1 := 0) (ci := 8) hX dX10_bestStep_92 k_X10_backBy q_1621 (c_X10_backBy n M20 a0 r19 v22 v13 v24) (by decide) rfl rfl rfl ⟨Nat.le_of_ble_eq_true rfl, Nat.le_of_ble_eq_true rfl⟩ ⟨(Nat.le_of_ble_eq_true rfl), (Nat.le_of_ble_eq_true rfl)⟩ (Nat.le_of_ble_eq_true rfl) rfl rfl (fun r25 M26 => ?_)
            refine s_istore6 hX dX10_bestStep_95 (by first | exact trivial | exact rfl) (Nat.le_of_ble_eq_true rfl) ?_
            refine s_iload_n hX dX10_bestStep_97 rfl ?_
            refine s_jp (fun (s : MemT) => [some (.ref a0), some (.int a1), some (.int a2), some (.int v11), some (.int v12), some (.int v13), some (.int r25)]) (fun (s : MemT) => []) (fun (s : MemT) => s) 0 0 111 (fun s => ?_) (fun K27 hK27 => ?_)
            · revert s
              intro M28
              try dsimp only
              refine s_iload hX dX10_bestStep_111 rfl ?_
              refine s_istore3 hX dX10_bestStep_113 (by first | exact trivial | exact rfl) (Nat.le_of_ble_eq_true rfl) ?_
              refine s_iload hX dX10_bestStep_114 rfl ?_
              refine s_istore4 hX dX10_bestStep_116 (by first | exact trivial | exact rfl) (Nat.le_of_ble_eq_true rfl) ?_
              refine s_iinc5 (v := v13 + 1) hX dX10_bestStep_118 rfl (by first | exact trivial | exact rfl) (Nat.le_of_ble_eq_true rfl) ?_
              refine s_goto (tgt := 51) hX dX10_bestStep_121 rfl ?_
              refine s_forget (loc1 := [some (.ref a0), some (.int a1), some (.int a2), some (.int v13), some (.int r25), some (.int (v13 + 1)), none]) ⟨rfl, rfl, rfl, rfl, rfl, rfl, trivial⟩ ?_
              exact s_back hB14
            · refine s_ifle (tgt := 111) hX dX10_bestStep_98 rfl ?_ ?_
              · exact hK27 _
              · refine s_iload hX dX10_bestStep_101 rfl ?_
                refine s_iload hX dX10_bestStep_103 rfl ?_
                refine s_icgt (tgt := 111) hX dX10_bestStep_105 rfl ?_ ?_
                · exact hK27 _
                · refine s_goto (tgt := 118) hX dX10_bestStep_108 rfl ?_
                  refine s_iinc5 (v := v13 + 1) hX dX10_bestStep_118 rfl (by first | exact trivial | exact rfl) (Nat.le_of_ble_eq_true rfl) ?_
                  refine s_goto (tgt := 51) hX dX10_bestStep_121 rfl ?_
                  refine s_forget (loc1 := [some (.ref a0), some (.int a1), some (.int a2), some (.int v11), some (.int v12), some (.int (v13 + 1)), none]) ⟨rfl, rfl, rfl, rfl, rfl, rfl, trivial⟩ ?_
                  exact s_back hB14
        · obtain ⟨M29, v30, v31, v32⟩ := s
          dsimp only
          refine s_iload_n hX dX10_bestStep_124 rfl ?_
          exact s_iret hX hR dX10_bestStep_125 (Nat.le_of_ble_eq_true rfl) (Nat.le_of_ble_eq_true rfl)
      · refine s_bipush (v := (-2)) hX dX10_bestStep_33 kb_m2 ?_
        exact s_iret hX hR dX10_bestStep_35 (Nat.le_of_ble_eq_true rfl) (Nat.le_of_ble_eq_true rfl)
abbrev rm_X10_joint : Room := { frames := 4, cells := 0, slots := 0, locals := 101 }
theorem k_X10_joint : KYV yX10_joint cX10_joint 5 (some .int) 3 := ⟨⟨q_1754, q_9, by decide +kernel, by decide +kernel, by decide +kernel⟩, q_1752, q_1753⟩
set_option maxHeartbeats 4000000 in
set_option maxRecDepth 100000 in
theorem c_X10_joint (n : Nat) (M0 : MemT) (a0 : Nat) (a1 : Int32) (a2 : Int32) (a3 : Int32) : Ct iI yX10_joint cX10_joint 5 (some .int) rm_X10_joint [.ref a0, .int a1, .int a2, .int a3] M0 (g_X10_joint n M0 a0 a1 a2 a3) := by
  unfold g_X10_joint
  refine ct_intro RX10 1 [some (.ref a0), some (.int a1), some (.int a2), some (.int a3), none] rfl (by decide +kernel) rfl (Nat.le_of_ble_eq_true rfl) (fun X A hX hnm hR => ?_)
  refine s_aload_n hX dX10_joint_0 rfl ?_
  refine s_iconst (v := 0) hX dX10_joint_1 kc_0 ?_
  refine s_putI hX dX10_joint_2 q_1308 rfl rfl (fun M1 => ?_)
  refine s_aload_n hX dX10_joint_5 rfl ?_
  refine s_iload_n hX dX10_joint_6 rfl ?_
  refine s_iload_n hX dX10_joint_7 rfl ?_
  refine s_callVi (ck1 := 0) (sk1 := 0) (ci := 8) hX dX10_joint_8 k_X10_isYear q_1710 (c_X10_isYear n M1 a0 a1 a3) (by decide) rfl rfl rfl ⟨Nat.le_of_ble_eq_true rfl, Nat.le_of_ble_eq_true rfl⟩ ⟨(Nat.le_of_ble_eq_true rfl), (Nat.le_of_ble_eq_true rfl)⟩ (Nat.le_of_ble_eq_true rfl) rfl rfl (fun r2 M3 => ?_)
  refine s_ifeq (tgt := 27) hX dX10_joint_11 rfl ?_ ?_
  · refine s_ldcw hX dX10_joint_27 q_1714 ?_
    exact s_iret hX hR dX10_joint_30 (Nat.le_of_ble_eq_true rfl) (Nat.le_of_ble_eq_true rfl)
  · refine s_aload_n hX dX10_joint_14 rfl ?_
    refine s_iload_n hX dX10_joint_15 rfl ?_
    refine s_callVi (ck1 := 0) (sk1 := 0) (ci := 8) hX dX10_joint_16 k_X10_isTrader q_1510 (c_X10_isTrader n M3 a0 a2) (by decide) rfl rfl rfl ⟨Nat.le_of_ble_eq_true rfl, Nat.le_of_ble_eq_true rfl⟩ ⟨(Nat.le_of_ble_eq_true rfl), (Nat.le_of_ble_eq_true rfl)⟩ (Nat.le_of_ble_eq_true rfl) rfl rfl (fun r4 M5 => ?_)
    refine s_ifeq (tgt := 27) hX dX10_joint_19 rfl ?_ ?_
    · refine s_ldcw hX dX10_joint_27 q_1714 ?_
      exact s_iret hX hR dX10_joint_30 (Nat.le_of_ble_eq_true rfl) (Nat.le_of_ble_eq_true rfl)
    · refine s_iload_n hX dX10_joint_22 rfl ?_
      refine s_iload_n hX dX10_joint_23 rfl ?_
      refine s_icne (tgt := 31) hX dX10_joint_24 rfl ?_ ?_
      · refine s_ldcw hX dX10_joint_27 q_1714 ?_
        exact s_iret hX hR dX10_joint_30 (Nat.le_of_ble_eq_true rfl) (Nat.le_of_ble_eq_true rfl)
      · refine s_aload_n hX dX10_joint_31 rfl ?_
        refine s_iload_n hX dX10_joint_32 rfl ?_
        refine s_iload_n hX dX10_joint_33 rfl ?_
        refine s_callVu (ck1 := 0) (sk1 := 0) (ci := 8) hX dX10_joint_34 k_X10_layYear q_1633 (c_X10_layYear n M5 a0 a1 a3) (by decide) rfl rfl rfl ⟨Nat.le_of_ble_eq_true rfl, Nat.le_of_ble_eq_true rfl⟩ ⟨(Nat.le_of_ble_eq_true rfl), (Nat.le_of_ble_eq_true rfl)⟩ (Nat.le_of_ble_eq_true rfl) rfl rfl (fun r6 M7 => ?_)
        refine s_iconst (v := 4) hX dX10_joint_37 kc_4 ?_
        refine s_iload_n hX dX10_joint_38 rfl ?_
        refine s_imul hX dX10_joint_39 ?_
        refine s_istore4 hX dX10_joint_40 (by first | exact trivial | exact rfl) (Nat.le_of_ble_eq_true rfl) ?_
        refine s_loopE (stk := []) (fun (s : MemT × Int32) => [some (.ref a0), some (.int a1), some (.int a2), some (.int a3), some (.int s.2)]) (fun (s : MemT × Int32) => s.1) 65 (fun (s : MemT × Int32) => [some (.ref a0), some (.int a1), some (.int a2), some (.int a3), some (.int s.2)]) (fun s B10 hB10 hE10 => ?_) (fun s => ?_) n (M7, 4 * a3)
        · obtain ⟨M8, v9⟩ := s
          dsimp only
          refine s_iload hX dX10_joint_42 rfl ?_
          refine s_iconst (v := 4) hX dX10_joint_44 kc_4 ?_
          refine s_iload_n hX dX10_joint_45 rfl ?_
          refine s_imul hX dX10_joint_46 ?_
          refine s_iconst (v := 4) hX dX10_joint_47 kc_4 ?_
          refine s_iadd hX dX10_joint_48 ?_
          refine s_icge (tgt := 65) hX dX10_joint_49 rfl ?_ ?_
          · exact s_exit hE10
          · refine s_aload_n hX dX10_joint_52 rfl ?_
            refine s_iload_n hX dX10_joint_53 rfl ?_
            refine s_iload hX dX10_joint_54 rfl ?_
            refine s_callVu (ck1 := 0) (sk1 := 0) (ci := 8) hX dX10_joint_56 k_X10_addQuarter q_1590 (c_X10_addQuarter n M8 a0 a2 v9) (by decide) rfl rfl rfl ⟨Nat.le_of_ble_eq_true rfl, Nat.le_of_ble_eq_true rfl⟩ ⟨(Nat.le_of_ble_eq_true rfl), (Nat.le_of_ble_eq_true rfl)⟩ (Nat.le_of_ble_eq_true rfl) rfl rfl (fun r11 M12 => ?_)
            refine s_iinc4 (v := v9 + 1) hX dX10_joint_59 rfl (by first | exact trivial | exact rfl) (Nat.le_of_ble_eq_true rfl) ?_
            refine s_goto (tgt := 42) hX dX10_joint_62 rfl ?_
            exact s_back hB10
        · obtain ⟨M13, v14⟩ := s
          dsimp only
          refine s_aload_n hX dX10_joint_65 rfl ?_
          refine s_iload_n hX dX10_joint_66 rfl ?_
          refine s_callVu (ck1 := 0) (sk1 := 0) (ci := 8) hX dX10_joint_67 k_X10_addHeads q_1594 (c_X10_addHeads n M13 a0 a2) (by decide) rfl rfl rfl ⟨Nat.le_of_ble_eq_true rfl, Nat.le_of_ble_eq_true rfl⟩ ⟨(Nat.le_of_ble_eq_true rfl), (Nat.le_of_ble_eq_true rfl)⟩ (Nat.le_of_ble_eq_true rfl) rfl rfl (fun r15 M16 => ?_)
          refine s_aload_n hX dX10_joint_70 rfl ?_
          refine s_aload_n hX dX10_joint_71 rfl ?_
          refine s_iload_n hX dX10_joint_72 rfl ?_
          refine s_callVi (ck1 := 0) (sk1 := 0) (ci := 8) hX dX10_joint_73 k_X10_fraction q_1598 (c_X10_fraction n M16 a0 a1) (by decide) rfl rfl rfl ⟨Nat.le_of_ble_eq_true rfl, Nat.le_of_ble_eq_true rfl⟩ ⟨(Nat.le_of_ble_eq_true rfl), (Nat.le_of_ble_eq_true rfl)⟩ (Nat.le_of_ble_eq_true rfl) rfl rfl (fun r17 M18 => ?_)
          refine s_aload_n hX dX10_joint_76 rfl ?_
          refine s_getO hX dX10_joint_77 q_1323 rfl (fun j19 => ?_)
          refine s_iconst (v := 2) hX dX10_joint_80 kc_2 ?_
          refine s_iald hX dX10_joint_81 (fun v20 => ?_)
          refine s_callVi (ck1 := 0) (sk1 := 0) (ci := 8) hX dX10_joint_82 k_X10_back1 q_1617 (c_X10_back1 n M18 a0 r17 v20) (by decide) rfl rfl rfl ⟨Nat.le_of_ble_eq_true rfl, Nat.le_of_ble_eq_true rfl⟩ ⟨(Nat.le_of_ble_eq_true rfl), (Nat.le_of_ble_eq_true rfl)⟩ (Nat.le_of_ble_eq_true rfl) rfl rfl (fun r21 M22 => ?_)
          exact s_iret hX hR dX10_joint_85 (Nat.le_of_ble_eq_true rfl) (Nat.le_of_ble_eq_true rfl)
