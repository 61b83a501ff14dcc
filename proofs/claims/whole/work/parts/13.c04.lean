abbrev rm_X9_isTrader : Room := { frames := 1, cells := 0, slots := 0, locals := 22 }
theorem k_X9_isTrader : KYV yX9_isTrader cX9_isTrader 2 (some .boolean) 1 := ⟨⟨q_723, q_1, by decide +kernel, by decide +kernel, by decide +kernel⟩, q_722, p_24⟩
set_option maxHeartbeats 4000000 in
set_option maxRecDepth 100000 in
theorem c_X9_isTrader (n : Nat) (M0 : MemT) (a0 : Nat) (a1 : Int32) : Ct iI yX9_isTrader cX9_isTrader 2 (some .boolean) rm_X9_isTrader [.ref a0, .int a1] M0 (g_X9_isTrader n M0 a0 a1) := by
  unfold g_X9_isTrader
  refine ct_intro RX9 0 [some (.ref a0), some (.int a1)] rfl (by decide +kernel) rfl (Nat.le_of_ble_eq_true rfl) (fun X A hX hnm hR => ?_)
  refine s_iload_n hX dX9_isTrader_0 rfl ?_
  refine s_iconst (v := 0) hX dX9_isTrader_1 kc_0 ?_
  refine s_aload_n hX dX9_isTrader_2 rfl ?_
  refine s_getO hX dX9_isTrader_3 q_424 rfl (fun j1 => ?_)
  refine s_getO hX dX9_isTrader_6 q_390 rfl (fun j2 => ?_)
  refine s_getI hX dX9_isTrader_9 q_104 rfl (fun v3 => ?_)
  refine s_iconst (v := 1) hX dX9_isTrader_12 kc_1 ?_
  refine s_isub hX dX9_isTrader_13 ?_
  refine s_callSi (ck1 := 0) (sk1 := 0) hX dX9_isTrader_14 k_X9_isIn q_715 (c_X9_isIn n M0 a1 0 (v3 - 1)) rfl rfl ⟨Nat.le_of_ble_eq_true rfl, Nat.le_of_ble_eq_true rfl⟩ ⟨(Nat.le_of_ble_eq_true rfl), (Nat.le_of_ble_eq_true rfl)⟩ (Nat.le_of_ble_eq_true rfl) rfl rfl (fun r4 M5 => ?_)
  exact s_zret hX hR dX9_isTrader_17 (Nat.le_of_ble_eq_true rfl) (Nat.le_of_ble_eq_true rfl)
abbrev rm_X9_sale : Room := { frames := 5, cells := 55, slots := 2577, locals := 126 }
theorem k_X9_sale : KYV yX9_sale cX9_sale 4 (some .int) 3 := ⟨⟨q_719, q_1, by decide +kernel, by decide +kernel, by decide +kernel⟩, q_717, q_718⟩
set_option maxHeartbeats 4000000 in
set_option maxRecDepth 100000 in
theorem c_X9_sale (n : Nat) (M0 : MemT) (a0 : Nat) (a1 : Int32) (a2 : Int32) (a3 : Int32) : Ct iI yX9_sale cX9_sale 4 (some .int) rm_X9_sale [.ref a0, .int a1, .int a2, .int a3] M0 (g_X9_sale n M0 a0 a1 a2 a3) := by
  unfold g_X9_sale
  refine ct_intro RX9 0 [some (.ref a0), some (.int a1), some (.int a2), some (.int a3)] rfl (by decide +kernel) rfl (Nat.le_of_ble_eq_true rfl) (fun X A hX hnm hR => ?_)
  refine s_aload_n hX dX9_sale_0 rfl ?_
  refine s_iload_n hX dX9_sale_1 rfl ?_
  refine s_callVi (ck1 := 0) (sk1 := 0) (ci := 7) hX dX9_sale_2 k_X9_isTrader q_720 (c_X9_isTrader n M0 a0 a1) (by decide) rfl rfl rfl ⟨Nat.le_of_ble_eq_true rfl, Nat.le_of_ble_eq_true rfl⟩ ⟨(Nat.le_of_ble_eq_true rfl), (Nat.le_of_ble_eq_true rfl)⟩ (Nat.le_of_ble_eq_true rfl) rfl rfl (fun r1 M2 => ?_)
  refine s_ifeq (tgt := 27) hX dX9_sale_5 rfl ?_ ?_
  · refine s_iconst (v := (-1)) hX dX9_sale_27 kc_m1 ?_
    exact s_iret hX hR dX9_sale_28 (Nat.le_of_ble_eq_true rfl) (Nat.le_of_ble_eq_true rfl)
  · refine s_iload_n hX dX9_sale_8 rfl ?_
    refine s_iconst (v := 0) hX dX9_sale_9 kc_0 ?_
    refine s_iconst (v := 1) hX dX9_sale_10 kc_1 ?_
    refine s_callSi (ck1 := 0) (sk1 := 0) hX dX9_sale_11 k_X9_isIn q_715 (c_X9_isIn n M2 a2 0 1) rfl rfl ⟨Nat.le_of_ble_eq_true rfl, Nat.le_of_ble_eq_true rfl⟩ ⟨(Nat.le_of_ble_eq_true rfl), (Nat.le_of_ble_eq_true rfl)⟩ (Nat.le_of_ble_eq_true rfl) rfl rfl (fun r3 M4 => ?_)
    refine s_ifeq (tgt := 27) hX dX9_sale_14 rfl ?_ ?_
    · refine s_iconst (v := (-1)) hX dX9_sale_27 kc_m1 ?_
      exact s_iret hX hR dX9_sale_28 (Nat.le_of_ble_eq_true rfl) (Nat.le_of_ble_eq_true rfl)
    · refine s_iload_n hX dX9_sale_17 rfl ?_
      refine s_iconst (v := 1) hX dX9_sale_18 kc_1 ?_
      refine s_ldc hX dX9_sale_19 q_724 ?_
      refine s_callSi (ck1 := 0) (sk1 := 0) hX dX9_sale_21 k_X9_isIn q_715 (c_X9_isIn n M4 a3 1 99999) rfl rfl ⟨Nat.le_of_ble_eq_true rfl, Nat.le_of_ble_eq_true rfl⟩ ⟨(Nat.le_of_ble_eq_true rfl), (Nat.le_of_ble_eq_true rfl)⟩ (Nat.le_of_ble_eq_true rfl) rfl rfl (fun r5 M6 => ?_)
      refine s_ifne (tgt := 29) hX dX9_sale_24 rfl ?_ ?_
      · refine s_iconst (v := (-1)) hX dX9_sale_27 kc_m1 ?_
        exact s_iret hX hR dX9_sale_28 (Nat.le_of_ble_eq_true rfl) (Nat.le_of_ble_eq_true rfl)
      · refine s_aload_n hX dX9_sale_29 rfl ?_
        refine s_getO hX dX9_sale_30 q_426 rfl (fun j7 => ?_)
        refine s_aload_n hX dX9_sale_33 rfl ?_
        refine s_getO hX dX9_sale_34 q_424 rfl (fun j8 => ?_)
        refine s_getO hX dX9_sale_37 q_392 rfl (fun j9 => ?_)
        refine s_callVu (ck1 := 55) (sk1 := 2577) (ci := 3) hX dX9_sale_40 k_X4_add q_725 (c_X4_add n M6 j7 j9) (by decide) rfl rfl rfl ⟨Nat.le_of_ble_eq_true rfl, Nat.le_of_ble_eq_true rfl⟩ ⟨(Nat.le_of_ble_eq_true rfl), (Nat.le_of_ble_eq_true rfl)⟩ (Nat.le_of_ble_eq_true rfl) rfl rfl (fun r10 M11 => ?_)
        refine s_aload_n hX dX9_sale_43 rfl ?_
        refine s_getO hX dX9_sale_44 q_424 rfl (fun j12 => ?_)
        refine s_getO hX dX9_sale_47 q_392 rfl (fun j13 => ?_)
        refine s_iload_n hX dX9_sale_50 rfl ?_
        refine s_aload_n hX dX9_sale_51 rfl ?_
        refine s_getO hX dX9_sale_52 q_424 rfl (fun j14 => ?_)
        refine s_getO hX dX9_sale_55 q_392 rfl (fun j15 => ?_)
        refine s_getI hX dX9_sale_58 q_303 rfl (fun v16 => ?_)
        refine s_iload_n hX dX9_sale_61 rfl ?_
        refine s_iload_n hX dX9_sale_62 rfl ?_
        refine s_callVi (ck1 := 55) (sk1 := 2577) (ci := 1) hX dX9_sale_63 k_X2_addToSum q_740 (c_X2_addToSum n M11 j13 a1 v16 a2 a3) (by decide) rfl rfl rfl ⟨Nat.le_of_ble_eq_true rfl, Nat.le_of_ble_eq_true rfl⟩ ⟨(Nat.le_of_ble_eq_true rfl), (Nat.le_of_ble_eq_true rfl)⟩ (Nat.le_of_ble_eq_true rfl) rfl rfl (fun r17 M18 => ?_)
        exact s_iret hX hR dX9_sale_66 (Nat.le_of_ble_eq_true rfl) (Nat.le_of_ble_eq_true rfl)
abbrev rm_X9_buy : Room := { frames := 5, cells := 55, slots := 2577, locals := 126 }
theorem k_X9_buy : KYV yX9_buy cX9_buy 4 (some .int) 3 := ⟨⟨q_744, q_1, by decide +kernel, by decide +kernel, by decide +kernel⟩, q_742, q_743⟩
set_option maxHeartbeats 4000000 in
set_option maxRecDepth 100000 in
theorem c_X9_buy (n : Nat) (M0 : MemT) (a0 : Nat) (a1 : Int32) (a2 : Int32) (a3 : Int32) : Ct iI yX9_buy cX9_buy 4 (some .int) rm_X9_buy [.ref a0, .int a1, .int a2, .int a3] M0 (g_X9_buy n M0 a0 a1 a2 a3) := by
  unfold g_X9_buy
  refine ct_intro RX9 0 [some (.ref a0), some (.int a1), some (.int a2), some (.int a3)] rfl (by decide +kernel) rfl (Nat.le_of_ble_eq_true rfl) (fun X A hX hnm hR => ?_)
  refine s_aload_n hX dX9_buy_0 rfl ?_
  refine s_iload_n hX dX9_buy_1 rfl ?_
  refine s_callVi (ck1 := 0) (sk1 := 0) (ci := 7) hX dX9_buy_2 k_X9_isTrader q_720 (c_X9_isTrader n M0 a0 a1) (by decide) rfl rfl rfl ⟨Nat.le_of_ble_eq_true rfl, Nat.le_of_ble_eq_true rfl⟩ ⟨(Nat.le_of_ble_eq_true rfl), (Nat.le_of_ble_eq_true rfl)⟩ (Nat.le_of_ble_eq_true rfl) rfl rfl (fun r1 M2 => ?_)
  refine s_ifeq (tgt := 28) hX dX9_buy_5 rfl ?_ ?_
  · refine s_iconst (v := (-1)) hX dX9_buy_28 kc_m1 ?_
    exact s_iret hX hR dX9_buy_29 (Nat.le_of_ble_eq_true rfl) (Nat.le_of_ble_eq_true rfl)
  · refine s_iload_n hX dX9_buy_8 rfl ?_
    refine s_iconst (v := 0) hX dX9_buy_9 kc_0 ?_
    refine s_iconst (v := 2) hX dX9_buy_10 kc_2 ?_
    refine s_callSi (ck1 := 0) (sk1 := 0) hX dX9_buy_11 k_X9_isIn q_715 (c_X9_isIn n M2 a2 0 2) rfl rfl ⟨Nat.le_of_ble_eq_true rfl, Nat.le_of_ble_eq_true rfl⟩ ⟨(Nat.le_of_ble_eq_true rfl), (Nat.le_of_ble_eq_true rfl)⟩ (Nat.le_of_ble_eq_true rfl) rfl rfl (fun r3 M4 => ?_)
    refine s_ifeq (tgt := 28) hX dX9_buy_14 rfl ?_ ?_
    · refine s_iconst (v := (-1)) hX dX9_buy_28 kc_m1 ?_
      exact s_iret hX hR dX9_buy_29 (Nat.le_of_ble_eq_true rfl) (Nat.le_of_ble_eq_true rfl)
    · refine s_iload_n hX dX9_buy_17 rfl ?_
      refine s_iconst (v := 1) hX dX9_buy_18 kc_1 ?_
      refine s_sipush (v := 9999) hX dX9_buy_19 ks_9999 ?_
      refine s_callSi (ck1 := 0) (sk1 := 0) hX dX9_buy_22 k_X9_isIn q_715 (c_X9_isIn n M4 a3 1 9999) rfl rfl ⟨Nat.le_of_ble_eq_true rfl, Nat.le_of_ble_eq_true rfl⟩ ⟨(Nat.le_of_ble_eq_true rfl), (Nat.le_of_ble_eq_true rfl)⟩ (Nat.le_of_ble_eq_true rfl) rfl rfl (fun r5 M6 => ?_)
      refine s_ifne (tgt := 30) hX dX9_buy_25 rfl ?_ ?_
      · refine s_iconst (v := (-1)) hX dX9_buy_28 kc_m1 ?_
        exact s_iret hX hR dX9_buy_29 (Nat.le_of_ble_eq_true rfl) (Nat.le_of_ble_eq_true rfl)
      · refine s_aload_n hX dX9_buy_30 rfl ?_
        refine s_getO hX dX9_buy_31 q_426 rfl (fun j7 => ?_)
        refine s_aload_n hX dX9_buy_34 rfl ?_
        refine s_getO hX dX9_buy_35 q_424 rfl (fun j8 => ?_)
        refine s_getO hX dX9_buy_38 q_392 rfl (fun j9 => ?_)
        refine s_callVu (ck1 := 55) (sk1 := 2577) (ci := 3) hX dX9_buy_41 k_X4_add q_725 (c_X4_add n M6 j7 j9) (by decide) rfl rfl rfl ⟨Nat.le_of_ble_eq_true rfl, Nat.le_of_ble_eq_true rfl⟩ ⟨(Nat.le_of_ble_eq_true rfl), (Nat.le_of_ble_eq_true rfl)⟩ (Nat.le_of_ble_eq_true rfl) rfl rfl (fun r10 M11 => ?_)
        refine s_aload_n hX dX9_buy_44 rfl ?_
        refine s_getO hX dX9_buy_45 q_424 rfl (fun j12 => ?_)
        refine s_getO hX dX9_buy_48 q_392 rfl (fun j13 => ?_)
        refine s_iload_n hX dX9_buy_51 rfl ?_
        refine s_aload_n hX dX9_buy_52 rfl ?_
        refine s_getO hX dX9_buy_53 q_424 rfl (fun j14 => ?_)
        refine s_getO hX dX9_buy_56 q_392 rfl (fun j15 => ?_)
        refine s_getI hX dX9_buy_59 q_303 rfl (fun v16 => ?_)
        refine s_iconst (v := 2) hX dX9_buy_62 kc_2 ?_
        refine s_iload_n hX dX9_buy_63 rfl ?_
        refine s_iadd hX dX9_buy_64 ?_
        refine s_iload_n hX dX9_buy_65 rfl ?_
        refine s_callVi (ck1 := 55) (sk1 := 2577) (ci := 1) hX dX9_buy_66 k_X2_addToSum q_740 (c_X2_addToSum n M11 j13 a1 v16 (2 + a2) a3) (by decide) rfl rfl rfl ⟨Nat.le_of_ble_eq_true rfl, Nat.le_of_ble_eq_true rfl⟩ ⟨(Nat.le_of_ble_eq_true rfl), (Nat.le_of_ble_eq_true rfl)⟩ (Nat.le_of_ble_eq_true rfl) rfl rfl (fun r17 M18 => ?_)
        exact s_iret hX hR dX9_buy_69 (Nat.le_of_ble_eq_true rfl) (Nat.le_of_ble_eq_true rfl)
abbrev rm_X9_late : Room := { frames := 5, cells := 55, slots := 2577, locals := 126 }
theorem k_X9_late : KYV yX9_late cX9_late 6 (some .int) 4 := ⟨⟨q_748, q_1, by decide +kernel, by decide +kernel, by decide +kernel⟩, q_746, q_747⟩
set_option maxHeartbeats 4000000 in
set_option maxRecDepth 100000 in
theorem c_X9_late (n : Nat) (M0 : MemT) (a0 : Nat) (a1 : Int32) (a2 : Int32) (a3 : Int32) (a4 : Int32) : Ct iI yX9_late cX9_late 6 (some .int) rm_X9_late [.ref a0, .int a1, .int a2, .int a3, .int a4] M0 (g_X9_late n M0 a0 a1 a2 a3 a4) := by
  unfold g_X9_late
  refine ct_intro RX9 1 [some (.ref a0), some (.int a1), some (.int a2), some (.int a3), some (.int a4), none] rfl (by decide +kernel) rfl (Nat.le_of_ble_eq_true rfl) (fun X A hX hnm hR => ?_)
  refine s_aload_n hX dX9_late_0 rfl ?_
  refine s_getO hX dX9_late_1 q_424 rfl (fun j1 => ?_)
  refine s_getO hX dX9_late_4 q_392 rfl (fun j2 => ?_)
  refine s_getI hX dX9_late_7 q_303 rfl (fun v3 => ?_)
  refine s_iconst (v := 4) hX dX9_late_10 kc_4 ?_
  refine s_idiv hX dX9_late_11 ?_
  refine s_iconst (v := 4) hX dX9_late_12 kc_4 ?_
  refine s_imul hX dX9_late_13 ?_
  refine s_istore5 hX dX9_late_14 (by first | exact trivial | exact rfl) (Nat.le_of_ble_eq_true rfl) ?_
  refine s_aload_n hX dX9_late_16 rfl ?_
  refine s_iload_n hX dX9_late_17 rfl ?_
  refine s_callVi (ck1 := 0) (sk1 := 0) (ci := 7) hX dX9_late_18 k_X9_isTrader q_720 (c_X9_isTrader n M0 a0 a1) (by decide) rfl rfl rfl ⟨Nat.le_of_ble_eq_true rfl, Nat.le_of_ble_eq_true rfl⟩ ⟨(Nat.le_of_ble_eq_true rfl), (Nat.le_of_ble_eq_true rfl)⟩ (Nat.le_of_ble_eq_true rfl) rfl rfl (fun r4 M5 => ?_)
  refine s_ifeq (tgt := 66) hX dX9_late_21 rfl ?_ ?_
  · refine s_iconst (v := (-1)) hX dX9_late_66 kc_m1 ?_
    exact s_iret hX hR dX9_late_67 (Nat.le_of_ble_eq_true rfl) (Nat.le_of_ble_eq_true rfl)
  · refine s_iload_n hX dX9_late_24 rfl ?_
    refine s_iload hX dX9_late_25 rfl ?_
    refine s_aload_n hX dX9_late_27 rfl ?_
    refine s_getO hX dX9_late_28 q_424 rfl (fun j6 => ?_)
    refine s_getO hX dX9_late_31 q_392 rfl (fun j7 => ?_)
    refine s_getI hX dX9_late_34 q_303 rfl (fun v8 => ?_)
    refine s_iconst (v := 1) hX dX9_late_37 kc_1 ?_
    refine s_isub hX dX9_late_38 ?_
    refine s_callSi (ck1 := 0) (sk1 := 0) hX dX9_late_39 k_X9_isIn q_715 (c_X9_isIn n M5 a2 ((v3 / 4) * 4) (v8 - 1)) rfl rfl ⟨Nat.le_of_ble_eq_true rfl, Nat.le_of_ble_eq_true rfl⟩ ⟨(Nat.le_of_ble_eq_true rfl), (Nat.le_of_ble_eq_true rfl)⟩ (Nat.le_of_ble_eq_true rfl) rfl rfl (fun r9 M10 => ?_)
    refine s_ifeq (tgt := 66) hX dX9_late_42 rfl ?_ ?_
    · refine s_iconst (v := (-1)) hX dX9_late_66 kc_m1 ?_
      exact s_iret hX hR dX9_late_67 (Nat.le_of_ble_eq_true rfl) (Nat.le_of_ble_eq_true rfl)
    · refine s_iload_n hX dX9_late_45 rfl ?_
      refine s_iconst (v := 0) hX dX9_late_46 kc_0 ?_
      refine s_iconst (v := 4) hX dX9_late_47 kc_4 ?_
      refine s_callSi (ck1 := 0) (sk1 := 0) hX dX9_late_48 k_X9_isIn q_715 (c_X9_isIn n M10 a3 0 4) rfl rfl ⟨Nat.le_of_ble_eq_true rfl, Nat.le_of_ble_eq_true rfl⟩ ⟨(Nat.le_of_ble_eq_true rfl), (Nat.le_of_ble_eq_true rfl)⟩ (Nat.le_of_ble_eq_true rfl) rfl rfl (fun r11 M12 => ?_)
      refine s_ifeq (tgt := 66) hX dX9_late_51 rfl ?_ ?_
      · refine s_iconst (v := (-1)) hX dX9_late_66 kc_m1 ?_
        exact s_iret hX hR dX9_late_67 (Nat.le_of_ble_eq_true rfl) (Nat.le_of_ble_eq_true rfl)
      · refine s_iload hX dX9_late_54 rfl ?_
        refine s_iconst (v := 1) hX dX9_late_56 kc_1 ?_
        refine s_sipush (v := 9999) hX dX9_late_57 ks_9999 ?_
        refine s_callSi (ck1 := 0) (sk1 := 0) hX dX9_late_60 k_X9_isIn q_715 (c_X9_isIn n M12 a4 1 9999) rfl rfl ⟨Nat.le_of_ble_eq_true rfl, Nat.le_of_ble_eq_true rfl⟩ ⟨(Nat.le_of_ble_eq_true rfl), (Nat.le_of_ble_eq_true rfl)⟩ (Nat.le_of_ble_eq_true rfl) rfl rfl (fun r13 M14 => ?_)
        refine s_ifne (tgt := 68) hX dX9_late_63 rfl ?_ ?_
        · refine s_iconst (v := (-1)) hX dX9_late_66 kc_m1 ?_
          exact s_iret hX hR dX9_late_67 (Nat.le_of_ble_eq_true rfl) (Nat.le_of_ble_eq_true rfl)
        · refine s_aload_n hX dX9_late_68 rfl ?_
          refine s_getO hX dX9_late_69 q_426 rfl (fun j15 => ?_)
          refine s_aload_n hX dX9_late_72 rfl ?_
          refine s_getO hX dX9_late_73 q_424 rfl (fun j16 => ?_)
          refine s_getO hX dX9_late_76 q_392 rfl (fun j17 => ?_)
          refine s_callVu (ck1 := 55) (sk1 := 2577) (ci := 3) hX dX9_late_79 k_X4_add q_725 (c_X4_add n M14 j15 j17) (by decide) rfl rfl rfl ⟨Nat.le_of_ble_eq_true rfl, Nat.le_of_ble_eq_true rfl⟩ ⟨(Nat.le_of_ble_eq_true rfl), (Nat.le_of_ble_eq_true rfl)⟩ (Nat.le_of_ble_eq_true rfl) rfl rfl (fun r18 M19 => ?_)
          refine s_aload_n hX dX9_late_82 rfl ?_
          refine s_getO hX dX9_late_83 q_424 rfl (fun j20 => ?_)
          refine s_getO hX dX9_late_86 q_392 rfl (fun j21 => ?_)
          refine s_iload_n hX dX9_late_89 rfl ?_
          refine s_iload_n hX dX9_late_90 rfl ?_
          refine s_iload_n hX dX9_late_91 rfl ?_
          refine s_iload hX dX9_late_92 rfl ?_
          refine s_callVi (ck1 := 55) (sk1 := 2577) (ci := 1) hX dX9_late_94 k_X2_addToSum q_740 (c_X2_addToSum n M19 j21 a1 a2 a3 a4) (by decide) rfl rfl rfl ⟨Nat.le_of_ble_eq_true rfl, Nat.le_of_ble_eq_true rfl⟩ ⟨(Nat.le_of_ble_eq_true rfl), (Nat.le_of_ble_eq_true rfl)⟩ (Nat.le_of_ble_eq_true rfl) rfl rfl (fun r22 M23 => ?_)
          exact s_iret hX hR dX9_late_97 (Nat.le_of_ble_eq_true rfl) (Nat.le_of_ble_eq_true rfl)
abbrev rm_X9_heads : Room := { frames := 5, cells := 55, slots := 2577, locals := 126 }
theorem k_X9_heads : KYV yX9_heads cX9_heads 4 (some .boolean) 3 := ⟨⟨q_752, q_1, by decide +kernel, by decide +kernel, by decide +kernel⟩, q_750, q_751⟩
set_option maxHeartbeats 4000000 in
set_option maxRecDepth 100000 in
theorem c_X9_heads (n : Nat) (M0 : MemT) (a0 : Nat) (a1 : Int32) (a2 : Int32) (a3 : Int32) : Ct iI yX9_heads cX9_heads 4 (some .boolean) rm_X9_heads [.ref a0, .int a1, .int a2, .int a3] M0 (g_X9_heads n M0 a0 a1 a2 a3) := by
  unfold g_X9_heads
  refine ct_intro RX9 0 [some (.ref a0), some (.int a1), some (.int a2), some (.int a3)] rfl (by decide +kernel) rfl (Nat.le_of_ble_eq_true rfl) (fun X A hX hnm hR => ?_)
  refine s_aload_n hX dX9_heads_0 rfl ?_
  refine s_iload_n hX dX9_heads_1 rfl ?_
  refine s_callVi (ck1 := 0) (sk1 := 0) (ci := 7) hX dX9_heads_2 k_X9_isTrader q_720 (c_X9_isTrader n M0 a0 a1) (by decide) rfl rfl rfl ⟨Nat.le_of_ble_eq_true rfl, Nat.le_of_ble_eq_true rfl⟩ ⟨(Nat.le_of_ble_eq_true rfl), (Nat.le_of_ble_eq_true rfl)⟩ (Nat.le_of_ble_eq_true rfl) rfl rfl (fun r1 M2 => ?_)
  refine s_ifeq (tgt := 28) hX dX9_heads_5 rfl ?_ ?_
  · refine s_iconst (v := 0) hX dX9_heads_28 kc_0 ?_
    exact s_zret hX hR dX9_heads_29 (Nat.le_of_ble_eq_true rfl) (Nat.le_of_ble_eq_true rfl)
  · refine s_iload_n hX dX9_heads_8 rfl ?_
    refine s_iconst (v := 0) hX dX9_heads_9 kc_0 ?_
    refine s_sipush (v := 999) hX dX9_heads_10 ks_999 ?_
    refine s_callSi (ck1 := 0) (sk1 := 0) hX dX9_heads_13 k_X9_isIn q_715 (c_X9_isIn n M2 a3 0 999) rfl rfl ⟨Nat.le_of_ble_eq_true rfl, Nat.le_of_ble_eq_true rfl⟩ ⟨(Nat.le_of_ble_eq_true rfl), (Nat.le_of_ble_eq_true rfl)⟩ (Nat.le_of_ble_eq_true rfl) rfl rfl (fun r3 M4 => ?_)
    refine s_ifeq (tgt := 28) hX dX9_heads_16 rfl ?_ ?_
    · refine s_iconst (v := 0) hX dX9_heads_28 kc_0 ?_
      exact s_zret hX hR dX9_heads_29 (Nat.le_of_ble_eq_true rfl) (Nat.le_of_ble_eq_true rfl)
    · refine s_iload_n hX dX9_heads_19 rfl ?_
      refine s_iconst (v := 0) hX dX9_heads_20 kc_0 ?_
      refine s_iload_n hX dX9_heads_21 rfl ?_
      refine s_callSi (ck1 := 0) (sk1 := 0) hX dX9_heads_22 k_X9_isIn q_715 (c_X9_isIn n M4 a2 0 a3) rfl rfl ⟨Nat.le_of_ble_eq_true rfl, Nat.le_of_ble_eq_true rfl⟩ ⟨(Nat.le_of_ble_eq_true rfl), (Nat.le_of_ble_eq_true rfl)⟩ (Nat.le_of_ble_eq_true rfl) rfl rfl (fun r5 M6 => ?_)
      refine s_ifne (tgt := 30) hX dX9_heads_25 rfl ?_ ?_
      · refine s_iconst (v := 0) hX dX9_heads_28 kc_0 ?_
        exact s_zret hX hR dX9_heads_29 (Nat.le_of_ble_eq_true rfl) (Nat.le_of_ble_eq_true rfl)
      · refine s_aload_n hX dX9_heads_30 rfl ?_
        refine s_getO hX dX9_heads_31 q_426 rfl (fun j7 => ?_)
        refine s_aload_n hX dX9_heads_34 rfl ?_
        refine s_getO hX dX9_heads_35 q_424 rfl (fun j8 => ?_)
        refine s_getO hX dX9_heads_38 q_392 rfl (fun j9 => ?_)
        refine s_callVu (ck1 := 55) (sk1 := 2577) (ci := 3) hX dX9_heads_41 k_X4_add q_725 (c_X4_add n M6 j7 j9) (by decide) rfl rfl rfl ⟨Nat.le_of_ble_eq_true rfl, Nat.le_of_ble_eq_true rfl⟩ ⟨(Nat.le_of_ble_eq_true rfl), (Nat.le_of_ble_eq_true rfl)⟩ (Nat.le_of_ble_eq_true rfl) rfl rfl (fun r10 M11 => ?_)
        refine s_aload_n hX dX9_heads_44 rfl ?_
        refine s_getO hX dX9_heads_45 q_424 rfl (fun j12 => ?_)
        refine s_getO hX dX9_heads_48 q_392 rfl (fun j13 => ?_)
        refine s_getO hX dX9_heads_51 q_311 rfl (fun j14 => ?_)
        refine s_iload_n hX dX9_heads_54 rfl ?_
        refine s_iload_n hX dX9_heads_55 rfl ?_
        refine s_iast hX dX9_heads_56 (fun M15 => ?_)
        refine s_aload_n hX dX9_heads_57 rfl ?_
        refine s_getO hX dX9_heads_58 q_424 rfl (fun j16 => ?_)
        refine s_getO hX dX9_heads_61 q_392 rfl (fun j17 => ?_)
        refine s_getO hX dX9_heads_64 q_314 rfl (fun j18 => ?_)
        refine s_iload_n hX dX9_heads_67 rfl ?_
        refine s_iload_n hX dX9_heads_68 rfl ?_
        refine s_iast hX dX9_heads_69 (fun M19 => ?_)
        refine s_iconst (v := 1) hX dX9_heads_70 kc_1 ?_
        exact s_zret hX hR dX9_heads_71 (Nat.le_of_ble_eq_true rfl) (Nat.le_of_ble_eq_true rfl)
abbrev rm_X9_acquire : Room := { frames := 5, cells := 55, slots := 2577, locals := 126 }
theorem k_X9_acquire : KYV yX9_acquire cX9_acquire 5 (some .int) 4 := ⟨⟨q_756, q_1, by decide +kernel, by decide +kernel, by decide +kernel⟩, q_754, q_755⟩
set_option maxHeartbeats 4000000 in
set_option maxRecDepth 100000 in
theorem c_X9_acquire (n : Nat) (M0 : MemT) (a0 : Nat) (a1 : Int32) (a2 : Int32) (a3 : Int32) (a4 : Int32) : Ct iI yX9_acquire cX9_acquire 5 (some .int) rm_X9_acquire [.ref a0, .int a1, .int a2, .int a3, .int a4] M0 (g_X9_acquire n M0 a0 a1 a2 a3 a4) := by
  unfold g_X9_acquire
  refine ct_intro RX9 0 [some (.ref a0), some (.int a1), some (.int a2), some (.int a3), some (.int a4)] rfl (by decide +kernel) rfl (Nat.le_of_ble_eq_true rfl) (fun X A hX hnm hR => ?_)
  refine s_aload_n hX dX9_acquire_0 rfl ?_
  refine s_iload_n hX dX9_acquire_1 rfl ?_
  refine s_callVi (ck1 := 0) (sk1 := 0) (ci := 7) hX dX9_acquire_2 k_X9_isTrader q_720 (c_X9_isTrader n M0 a0 a1) (by decide) rfl rfl rfl ⟨Nat.le_of_ble_eq_true rfl, Nat.le_of_ble_eq_true rfl⟩ ⟨(Nat.le_of_ble_eq_true rfl), (Nat.le_of_ble_eq_true rfl)⟩ (Nat.le_of_ble_eq_true rfl) rfl rfl (fun r1 M2 => ?_)
  refine s_ifeq (tgt := 35) hX dX9_acquire_5 rfl ?_ ?_
  · refine s_iconst (v := (-1)) hX dX9_acquire_35 kc_m1 ?_
    exact s_iret hX hR dX9_acquire_36 (Nat.le_of_ble_eq_true rfl) (Nat.le_of_ble_eq_true rfl)
  · refine s_iload_n hX dX9_acquire_8 rfl ?_
    refine s_iconst (v := 0) hX dX9_acquire_9 kc_0 ?_
    refine s_iconst (v := 2) hX dX9_acquire_10 kc_2 ?_
    refine s_callSi (ck1 := 0) (sk1 := 0) hX dX9_acquire_11 k_X9_isIn q_715 (c_X9_isIn n M2 a2 0 2) rfl rfl ⟨Nat.le_of_ble_eq_true rfl, Nat.le_of_ble_eq_true rfl⟩ ⟨(Nat.le_of_ble_eq_true rfl), (Nat.le_of_ble_eq_true rfl)⟩ (Nat.le_of_ble_eq_true rfl) rfl rfl (fun r3 M4 => ?_)
    refine s_ifeq (tgt := 35) hX dX9_acquire_14 rfl ?_ ?_
    · refine s_iconst (v := (-1)) hX dX9_acquire_35 kc_m1 ?_
      exact s_iret hX hR dX9_acquire_36 (Nat.le_of_ble_eq_true rfl) (Nat.le_of_ble_eq_true rfl)
    · refine s_iload_n hX dX9_acquire_17 rfl ?_
      refine s_iconst (v := 1) hX dX9_acquire_18 kc_1 ?_
      refine s_ldc hX dX9_acquire_19 q_724 ?_
      refine s_callSi (ck1 := 0) (sk1 := 0) hX dX9_acquire_21 k_X9_isIn q_715 (c_X9_isIn n M4 a3 1 99999) rfl rfl ⟨Nat.le_of_ble_eq_true rfl, Nat.le_of_ble_eq_true rfl⟩ ⟨(Nat.le_of_ble_eq_true rfl), (Nat.le_of_ble_eq_true rfl)⟩ (Nat.le_of_ble_eq_true rfl) rfl rfl (fun r5 M6 => ?_)
      refine s_ifeq (tgt := 35) hX dX9_acquire_24 rfl ?_ ?_
      · refine s_iconst (v := (-1)) hX dX9_acquire_35 kc_m1 ?_
        exact s_iret hX hR dX9_acquire_36 (Nat.le_of_ble_eq_true rfl) (Nat.le_of_ble_eq_true rfl)
      · refine s_iload hX dX9_acquire_27 rfl ?_
        refine s_callSi (ck1 := 0) (sk1 := 0) hX dX9_acquire_29 k_X9_isIntervals q_757 (c_X9_isIntervals n M6 a4) rfl rfl ⟨Nat.le_of_ble_eq_true rfl, Nat.le_of_ble_eq_true rfl⟩ ⟨(Nat.le_of_ble_eq_true rfl), (Nat.le_of_ble_eq_true rfl)⟩ (Nat.le_of_ble_eq_true rfl) rfl rfl (fun r7 M8 => ?_)
        refine s_ifne (tgt := 37) hX dX9_acquire_32 rfl ?_ ?_
        · refine s_iconst (v := (-1)) hX dX9_acquire_35 kc_m1 ?_
          exact s_iret hX hR dX9_acquire_36 (Nat.le_of_ble_eq_true rfl) (Nat.le_of_ble_eq_true rfl)
        · refine s_aload_n hX dX9_acquire_37 rfl ?_
          refine s_getO hX dX9_acquire_38 q_424 rfl (fun j9 => ?_)
          refine s_getO hX dX9_acquire_41 q_392 rfl (fun j10 => ?_)
          refine s_getI hX dX9_acquire_44 q_305 rfl (fun v11 => ?_)
          refine s_bipush (v := 8) hX dX9_acquire_47 kb_8 ?_
          refine s_iclt (tgt := 55) hX dX9_acquire_49 rfl ?_ ?_
          · refine s_aload_n hX dX9_acquire_55 rfl ?_
            refine s_getO hX dX9_acquire_56 q_426 rfl (fun j12 => ?_)
            refine s_aload_n hX dX9_acquire_59 rfl ?_
            refine s_getO hX dX9_acquire_60 q_424 rfl (fun j13 => ?_)
            refine s_getO hX dX9_acquire_63 q_392 rfl (fun j14 => ?_)
            refine s_callVu (ck1 := 55) (sk1 := 2577) (ci := 3) hX dX9_acquire_66 k_X4_add q_725 (c_X4_add n M8 j12 j14) (by decide) rfl rfl rfl ⟨Nat.le_of_ble_eq_true rfl, Nat.le_of_ble_eq_true rfl⟩ ⟨(Nat.le_of_ble_eq_true rfl), (Nat.le_of_ble_eq_true rfl)⟩ (Nat.le_of_ble_eq_true rfl) rfl rfl (fun r15 M16 => ?_)
            refine s_aload_n hX dX9_acquire_69 rfl ?_
            refine s_getO hX dX9_acquire_70 q_424 rfl (fun j17 => ?_)
            refine s_getO hX dX9_acquire_73 q_392 rfl (fun j18 => ?_)
            refine s_iload_n hX dX9_acquire_76 rfl ?_
            refine s_iload_n hX dX9_acquire_77 rfl ?_
            refine s_iload_n hX dX9_acquire_78 rfl ?_
            refine s_iload hX dX9_acquire_79 rfl ?_
            refine s_callVi (ck1 := 55) (sk1 := 2577) (ci := 1) hX dX9_acquire_81 k_X2_addAsset q_758 (c_X2_addAsset n M16 j18 a1 a2 a3 a4) (by decide) rfl rfl rfl ⟨Nat.le_of_ble_eq_true rfl, Nat.le_of_ble_eq_true rfl⟩ ⟨(Nat.le_of_ble_eq_true rfl), (Nat.le_of_ble_eq_true rfl)⟩ (Nat.le_of_ble_eq_true rfl) rfl rfl (fun r19 M20 => ?_)
            exact s_iret hX hR dX9_acquire_84 (Nat.le_of_ble_eq_true rfl) (Nat.le_of_ble_eq_true rfl)
          · refine s_bipush (v := (-2)) hX dX9_acquire_52 kb_m2 ?_
            exact s_iret hX hR dX9_acquire_54 (Nat.le_of_ble_eq_true rfl) (Nat.le_of_ble_eq_true rfl)
abbrev rm_X9_use : Room := { frames := 5, cells := 55, slots := 2577, locals := 126 }
theorem k_X9_use : KYV yX9_use cX9_use 3 (some .boolean) 2 := ⟨⟨q_762, q_1, by decide +kernel, by decide +kernel, by decide +kernel⟩, q_760, q_761⟩
set_option maxHeartbeats 4000000 in
set_option maxRecDepth 100000 in
theorem c_X9_use (n : Nat) (M0 : MemT) (a0 : Nat) (a1 : Int32) (a2 : Int32) : Ct iI yX9_use cX9_use 3 (some .boolean) rm_X9_use [.ref a0, .int a1, .int a2] M0 (g_X9_use n M0 a0 a1 a2) := by
  unfold g_X9_use
  refine ct_intro RX9 0 [some (.ref a0), some (.int a1), some (.int a2)] rfl (by decide +kernel) rfl (Nat.le_of_ble_eq_true rfl) (fun X A hX hnm hR => ?_)
  refine s_aload_n hX dX9_use_0 rfl ?_
  refine s_iload_n hX dX9_use_1 rfl ?_
  refine s_callVi (ck1 := 0) (sk1 := 0) (ci := 7) hX dX9_use_2 k_X9_isAsset q_711 (c_X9_isAsset n M0 a0 a1) (by decide) rfl rfl rfl ⟨Nat.le_of_ble_eq_true rfl, Nat.le_of_ble_eq_true rfl⟩ ⟨(Nat.le_of_ble_eq_true rfl), (Nat.le_of_ble_eq_true rfl)⟩ (Nat.le_of_ble_eq_true rfl) rfl rfl (fun r1 M2 => ?_)
  refine s_ifeq (tgt := 35) hX dX9_use_5 rfl ?_ ?_
  · refine s_iconst (v := 0) hX dX9_use_35 kc_0 ?_
    exact s_zret hX hR dX9_use_36 (Nat.le_of_ble_eq_true rfl) (Nat.le_of_ble_eq_true rfl)
  · refine s_iload_n hX dX9_use_8 rfl ?_
    refine s_iconst (v := 0) hX dX9_use_9 kc_0 ?_
    refine s_iconst (v := 2) hX dX9_use_10 kc_2 ?_
    refine s_callSi (ck1 := 0) (sk1 := 0) hX dX9_use_11 k_X9_isIn q_715 (c_X9_isIn n M2 a2 0 2) rfl rfl ⟨Nat.le_of_ble_eq_true rfl, Nat.le_of_ble_eq_true rfl⟩ ⟨(Nat.le_of_ble_eq_true rfl), (Nat.le_of_ble_eq_true rfl)⟩ (Nat.le_of_ble_eq_true rfl) rfl rfl (fun r3 M4 => ?_)
    refine s_ifeq (tgt := 35) hX dX9_use_14 rfl ?_ ?_
    · refine s_iconst (v := 0) hX dX9_use_35 kc_0 ?_
      exact s_zret hX hR dX9_use_36 (Nat.le_of_ble_eq_true rfl) (Nat.le_of_ble_eq_true rfl)
    · refine s_aload_n hX dX9_use_17 rfl ?_
      refine s_getO hX dX9_use_18 q_424 rfl (fun j5 => ?_)
      refine s_getO hX dX9_use_21 q_392 rfl (fun j6 => ?_)
      refine s_getO hX dX9_use_24 q_316 rfl (fun j7 => ?_)
      refine s_iload_n hX dX9_use_27 rfl ?_
      refine s_aald14 hX dX9_use_28 (fun j8 => ?_)
      refine s_callVi (ck1 := 0) (sk1 := 0) (ci := 0) hX dX9_use_29 k_X1_usesMayChange q_763 (c_X1_usesMayChange n M4 j8) (by decide) rfl rfl rfl ⟨Nat.le_of_ble_eq_true rfl, Nat.le_of_ble_eq_true rfl⟩ ⟨(Nat.le_of_ble_eq_true rfl), (Nat.le_of_ble_eq_true rfl)⟩ (Nat.le_of_ble_eq_true rfl) rfl rfl (fun r9 M10 => ?_)
      refine s_ifne (tgt := 37) hX dX9_use_32 rfl ?_ ?_
      · refine s_iconst (v := 0) hX dX9_use_35 kc_0 ?_
        exact s_zret hX hR dX9_use_36 (Nat.le_of_ble_eq_true rfl) (Nat.le_of_ble_eq_true rfl)
      · refine s_aload_n hX dX9_use_37 rfl ?_
        refine s_getO hX dX9_use_38 q_426 rfl (fun j11 => ?_)
        refine s_aload_n hX dX9_use_41 rfl ?_
        refine s_getO hX dX9_use_42 q_424 rfl (fun j12 => ?_)
        refine s_getO hX dX9_use_45 q_392 rfl (fun j13 => ?_)
        refine s_callVu (ck1 := 55) (sk1 := 2577) (ci := 3) hX dX9_use_48 k_X4_add q_725 (c_X4_add n M10 j11 j13) (by decide) rfl rfl rfl ⟨Nat.le_of_ble_eq_true rfl, Nat.le_of_ble_eq_true rfl⟩ ⟨(Nat.le_of_ble_eq_true rfl), (Nat.le_of_ble_eq_true rfl)⟩ (Nat.le_of_ble_eq_true rfl) rfl rfl (fun r14 M15 => ?_)
        refine s_aload_n hX dX9_use_51 rfl ?_
        refine s_getO hX dX9_use_52 q_424 rfl (fun j16 => ?_)
        refine s_getO hX dX9_use_55 q_392 rfl (fun j17 => ?_)
        refine s_getO hX dX9_use_58 q_316 rfl (fun j18 => ?_)
        refine s_iload_n hX dX9_use_61 rfl ?_
        refine s_aald14 hX dX9_use_62 (fun j19 => ?_)
        refine s_iload_n hX dX9_use_63 rfl ?_
        refine s_putI hX dX9_use_64 q_216 rfl rfl (fun M20 => ?_)
        refine s_iconst (v := 1) hX dX9_use_67 kc_1 ?_
        exact s_zret hX hR dX9_use_68 (Nat.le_of_ble_eq_true rfl) (Nat.le_of_ble_eq_true rfl)
abbrev rm_X9_sell : Room := { frames := 5, cells := 55, slots := 2577, locals := 126 }
theorem k_X9_sell : KYV yX9_sell cX9_sell 5 (some .int) 3 := ⟨⟨q_774, q_1, by decide +kernel, by decide +kernel, by decide +kernel⟩, q_772, q_773⟩
set_option maxHeartbeats 4000000 in
set_option maxRecDepth 100000 in
theorem c_X9_sell (n : Nat) (M0 : MemT) (a0 : Nat) (a1 : Int32) (a2 : Int32) (a3 : Int32) : Ct iI yX9_sell cX9_sell 5 (some .int) rm_X9_sell [.ref a0, .int a1, .int a2, .int a3] M0 (g_X9_sell n M0 a0 a1 a2 a3) := by
  unfold g_X9_sell
  refine ct_intro RX9 1 [some (.ref a0), some (.int a1), some (.int a2), some (.int a3), none] rfl (by decide +kernel) rfl (Nat.le_of_ble_eq_true rfl) (fun X A hX hnm hR => ?_)
  refine s_aload_n hX dX9_sell_0 rfl ?_
  refine s_iload_n hX dX9_sell_1 rfl ?_
  refine s_callVi (ck1 := 0) (sk1 := 0) (ci := 7) hX dX9_sell_2 k_X9_isAsset q_711 (c_X9_isAsset n M0 a0 a1) (by decide) rfl rfl rfl ⟨Nat.le_of_ble_eq_true rfl, Nat.le_of_ble_eq_true rfl⟩ ⟨(Nat.le_of_ble_eq_true rfl), (Nat.le_of_ble_eq_true rfl)⟩ (Nat.le_of_ble_eq_true rfl) rfl rfl (fun r1 M2 => ?_)
  refine s_ifeq (tgt := 36) hX dX9_sell_5 rfl ?_ ?_
  · refine s_iconst (v := (-1)) hX dX9_sell_36 kc_m1 ?_
    exact s_iret hX hR dX9_sell_37 (Nat.le_of_ble_eq_true rfl) (Nat.le_of_ble_eq_true rfl)
  · refine s_iload_n hX dX9_sell_8 rfl ?_
    refine s_iconst (v := 0) hX dX9_sell_9 kc_0 ?_
    refine s_iconst (v := 2) hX dX9_sell_10 kc_2 ?_
    refine s_callSi (ck1 := 0) (sk1 := 0) hX dX9_sell_11 k_X9_isIn q_715 (c_X9_isIn n M2 a2 0 2) rfl rfl ⟨Nat.le_of_ble_eq_true rfl, Nat.le_of_ble_eq_true rfl⟩ ⟨(Nat.le_of_ble_eq_true rfl), (Nat.le_of_ble_eq_true rfl)⟩ (Nat.le_of_ble_eq_true rfl) rfl rfl (fun r3 M4 => ?_)
    refine s_ifeq (tgt := 36) hX dX9_sell_14 rfl ?_ ?_
    · refine s_iconst (v := (-1)) hX dX9_sell_36 kc_m1 ?_
      exact s_iret hX hR dX9_sell_37 (Nat.le_of_ble_eq_true rfl) (Nat.le_of_ble_eq_true rfl)
    · refine s_iload_n hX dX9_sell_17 rfl ?_
      refine s_iconst (v := (-1)) hX dX9_sell_18 kc_m1 ?_
      refine s_iload_n hX dX9_sell_19 rfl ?_
      refine s_iconst (v := 2) hX dX9_sell_20 kc_2 ?_
      refine s_jp (fun (s : MemT × Int32) => [some (.ref a0), some (.int a1), some (.int a2), some (.int a3), none]) (fun (s : MemT × Int32) => [.int s.2, .int ((-1)), .int a3]) (fun (s : MemT × Int32) => s.1) 0 0 30 (fun s => ?_) (fun K5 hK5 => ?_)
      · obtain ⟨M6, v7⟩ := s
        dsimp only
        refine s_callSi (ck1 := 0) (sk1 := 0) hX dX9_sell_30 k_X9_isIn q_715 (c_X9_isIn n M6 a3 ((-1)) v7) rfl rfl ⟨Nat.le_of_ble_eq_true rfl, Nat.le_of_ble_eq_true rfl⟩ ⟨(Nat.le_of_ble_eq_true rfl), (Nat.le_of_ble_eq_true rfl)⟩ (Nat.le_of_ble_eq_true rfl) rfl rfl (fun r8 M9 => ?_)
        refine s_ifne (tgt := 38) hX dX9_sell_33 rfl ?_ ?_
        · refine s_iconst (v := (-1)) hX dX9_sell_36 kc_m1 ?_
          exact s_iret hX hR dX9_sell_37 (Nat.le_of_ble_eq_true rfl) (Nat.le_of_ble_eq_true rfl)
        · refine s_aload_n hX dX9_sell_38 rfl ?_
          refine s_getO hX dX9_sell_39 q_424 rfl (fun j10 => ?_)
          refine s_getO hX dX9_sell_42 q_392 rfl (fun j11 => ?_)
          refine s_getO hX dX9_sell_45 q_316 rfl (fun j12 => ?_)
          refine s_iload_n hX dX9_sell_48 rfl ?_
          refine s_aald14 hX dX9_sell_49 (fun j13 => ?_)
          refine s_astore4 hX dX9_sell_50 (by first | exact trivial | exact rfl) (Nat.le_of_ble_eq_true rfl) ?_
          refine s_aload hX dX9_sell_52 rfl ?_
          refine s_callVi (ck1 := 0) (sk1 := 0) (ci := 0) hX dX9_sell_54 k_X1_isFree q_775 (c_X1_isFree n M9 j13) (by decide) rfl rfl rfl ⟨Nat.le_of_ble_eq_true rfl, Nat.le_of_ble_eq_true rfl⟩ ⟨(Nat.le_of_ble_eq_true rfl), (Nat.le_of_ble_eq_true rfl)⟩ (Nat.le_of_ble_eq_true rfl) rfl rfl (fun r14 M15 => ?_)
          refine s_ifne (tgt := 63) hX dX9_sell_57 rfl ?_ ?_
          · refine s_bipush (v := (-2)) hX dX9_sell_60 kb_m2 ?_
            exact s_iret hX hR dX9_sell_62 (Nat.le_of_ble_eq_true rfl) (Nat.le_of_ble_eq_true rfl)
          · refine s_aload_n hX dX9_sell_63 rfl ?_
            refine s_getO hX dX9_sell_64 q_426 rfl (fun j16 => ?_)
            refine s_aload_n hX dX9_sell_67 rfl ?_
            refine s_getO hX dX9_sell_68 q_424 rfl (fun j17 => ?_)
            refine s_getO hX dX9_sell_71 q_392 rfl (fun j18 => ?_)
            refine s_callVu (ck1 := 55) (sk1 := 2577) (ci := 3) hX dX9_sell_74 k_X4_add q_725 (c_X4_add n M15 j16 j18) (by decide) rfl rfl rfl ⟨Nat.le_of_ble_eq_true rfl, Nat.le_of_ble_eq_true rfl⟩ ⟨(Nat.le_of_ble_eq_true rfl), (Nat.le_of_ble_eq_true rfl)⟩ (Nat.le_of_ble_eq_true rfl) rfl rfl (fun r19 M20 => ?_)
            refine s_aload hX dX9_sell_77 rfl ?_
            refine s_iload_n hX dX9_sell_79 rfl ?_
            refine s_putI hX dX9_sell_80 q_227 rfl rfl (fun M21 => ?_)
            refine s_aload hX dX9_sell_83 rfl ?_
            refine s_iload_n hX dX9_sell_85 rfl ?_
            refine s_putI hX dX9_sell_86 q_230 rfl rfl (fun M22 => ?_)
            refine s_aload hX dX9_sell_89 rfl ?_
            refine s_callVi (ck1 := 55) (sk1 := 2577) (ci := 0) hX dX9_sell_91 k_X1_intervalsBehind q_776 (c_X1_intervalsBehind n M22 j13) (by decide) rfl rfl rfl ⟨Nat.le_of_ble_eq_true rfl, Nat.le_of_ble_eq_true rfl⟩ ⟨(Nat.le_of_ble_eq_true rfl), (Nat.le_of_ble_eq_true rfl)⟩ (Nat.le_of_ble_eq_true rfl) rfl rfl (fun r23 M24 => ?_)
            exact s_iret hX hR dX9_sell_94 (Nat.le_of_ble_eq_true rfl) (Nat.le_of_ble_eq_true rfl)
      · refine s_icne (tgt := 28) hX dX9_sell_21 rfl ?_ ?_
        · refine s_iconst (v := (-1)) hX dX9_sell_24 kc_m1 ?_
          refine s_goto (tgt := 30) hX dX9_sell_25 rfl ?_
          exact hK5 _
        · refine s_ldc hX dX9_sell_28 q_724 ?_
          exact hK5 _
abbrev rm_X9_hand : Room := { frames := 5, cells := 55, slots := 2577, locals := 126 }
theorem k_X9_hand : KYV yX9_hand cX9_hand 5 (some .int) 2 := ⟨⟨q_783, q_1, by decide +kernel, by decide +kernel, by decide +kernel⟩, q_781, q_782⟩
set_option maxHeartbeats 4000000 in
set_option maxRecDepth 100000 in
theorem c_X9_hand (n : Nat) (M0 : MemT) (a0 : Nat) (a1 : Int32) (a2 : Int32) : Ct iI yX9_hand cX9_hand 5 (some .int) rm_X9_hand [.ref a0, .int a1, .int a2] M0 (g_X9_hand n M0 a0 a1 a2) := by
  unfold g_X9_hand
  refine ct_intro RX9 2 [some (.ref a0), some (.int a1), some (.int a2), none, none] rfl (by decide +kernel) rfl (Nat.le_of_ble_eq_true rfl) (fun X A hX hnm hR => ?_)
  refine s_aload_n hX dX9_hand_0 rfl ?_
  refine s_iload_n hX dX9_hand_1 rfl ?_
  refine s_callVi (ck1 := 0) (sk1 := 0) (ci := 7) hX dX9_hand_2 k_X9_isAsset q_711 (c_X9_isAsset n M0 a0 a1) (by decide) rfl rfl rfl ⟨Nat.le_of_ble_eq_true rfl, Nat.le_of_ble_eq_true rfl⟩ ⟨(Nat.le_of_ble_eq_true rfl), (Nat.le_of_ble_eq_true rfl)⟩ (Nat.le_of_ble_eq_true rfl) rfl rfl (fun r1 M2 => ?_)
  refine s_ifeq (tgt := 16) hX dX9_hand_5 rfl ?_ ?_
  · refine s_iconst (v := (-1)) hX dX9_hand_16 kc_m1 ?_
    exact s_iret hX hR dX9_hand_17 (Nat.le_of_ble_eq_true rfl) (Nat.le_of_ble_eq_true rfl)
  · refine s_aload_n hX dX9_hand_8 rfl ?_
    refine s_iload_n hX dX9_hand_9 rfl ?_
    refine s_callVi (ck1 := 0) (sk1 := 0) (ci := 7) hX dX9_hand_10 k_X9_isTrader q_720 (c_X9_isTrader n M2 a0 a2) (by decide) rfl rfl rfl ⟨Nat.le_of_ble_eq_true rfl, Nat.le_of_ble_eq_true rfl⟩ ⟨(Nat.le_of_ble_eq_true rfl), (Nat.le_of_ble_eq_true rfl)⟩ (Nat.le_of_ble_eq_true rfl) rfl rfl (fun r3 M4 => ?_)
    refine s_ifne (tgt := 18) hX dX9_hand_13 rfl ?_ ?_
    · refine s_iconst (v := (-1)) hX dX9_hand_16 kc_m1 ?_
      exact s_iret hX hR dX9_hand_17 (Nat.le_of_ble_eq_true rfl) (Nat.le_of_ble_eq_true rfl)
    · refine s_aload_n hX dX9_hand_18 rfl ?_
      refine s_getO hX dX9_hand_19 q_424 rfl (fun j5 => ?_)
      refine s_getO hX dX9_hand_22 q_392 rfl (fun j6 => ?_)
      refine s_getO hX dX9_hand_25 q_316 rfl (fun j7 => ?_)
      refine s_iload_n hX dX9_hand_28 rfl ?_
      refine s_aald14 hX dX9_hand_29 (fun j8 => ?_)
      refine s_astore3 hX dX9_hand_30 (by first | exact trivial | exact rfl) (Nat.le_of_ble_eq_true rfl) ?_
      refine s_aload_n hX dX9_hand_31 rfl ?_
      refine s_callVi (ck1 := 0) (sk1 := 0) (ci := 0) hX dX9_hand_32 k_X1_isFree q_775 (c_X1_isFree n M4 j8) (by decide) rfl rfl rfl ⟨Nat.le_of_ble_eq_true rfl, Nat.le_of_ble_eq_true rfl⟩ ⟨(Nat.le_of_ble_eq_true rfl), (Nat.le_of_ble_eq_true rfl)⟩ (Nat.le_of_ble_eq_true rfl) rfl rfl (fun r9 M10 => ?_)
      refine s_ifne (tgt := 41) hX dX9_hand_35 rfl ?_ ?_
      · refine s_bipush (v := (-2)) hX dX9_hand_38 kb_m2 ?_
        exact s_iret hX hR dX9_hand_40 (Nat.le_of_ble_eq_true rfl) (Nat.le_of_ble_eq_true rfl)
      · refine s_aload_n hX dX9_hand_41 rfl ?_
        refine s_getO hX dX9_hand_42 q_426 rfl (fun j11 => ?_)
        refine s_aload_n hX dX9_hand_45 rfl ?_
        refine s_getO hX dX9_hand_46 q_424 rfl (fun j12 => ?_)
        refine s_getO hX dX9_hand_49 q_392 rfl (fun j13 => ?_)
        refine s_callVu (ck1 := 55) (sk1 := 2577) (ci := 3) hX dX9_hand_52 k_X4_add q_725 (c_X4_add n M10 j11 j13) (by decide) rfl rfl rfl ⟨Nat.le_of_ble_eq_true rfl, Nat.le_of_ble_eq_true rfl⟩ ⟨(Nat.le_of_ble_eq_true rfl), (Nat.le_of_ble_eq_true rfl)⟩ (Nat.le_of_ble_eq_true rfl) rfl rfl (fun r14 M15 => ?_)
        refine s_aload_n hX dX9_hand_55 rfl ?_
        refine s_getI hX dX9_hand_56 q_213 rfl (fun v16 => ?_)
        refine s_istore4 hX dX9_hand_59 (by first | exact trivial | exact rfl) (Nat.le_of_ble_eq_true rfl) ?_
        refine s_aload_n hX dX9_hand_61 rfl ?_
        refine s_iload_n hX dX9_hand_62 rfl ?_
        refine s_putI hX dX9_hand_63 q_213 rfl rfl (fun M17 => ?_)
        refine s_iload hX dX9_hand_66 rfl ?_
        exact s_iret hX hR dX9_hand_68 (Nat.le_of_ble_eq_true rfl) (Nat.le_of_ble_eq_true rfl)
abbrev rm_X9_mayEnd : Room := { frames := 0, cells := 0, slots := 0, locals := 0 }
theorem k_X9_mayEnd : KYV yX9_mayEnd cX9_mayEnd 2 (some .boolean) 1 := ⟨⟨q_791, q_1, by decide +kernel, by decide +kernel, by decide +kernel⟩, q_790, p_25⟩
set_option maxHeartbeats 4000000 in
set_option maxRecDepth 100000 in
theorem c_X9_mayEnd (n : Nat) (M0 : MemT) (a0 : Nat) (a1 : Int32) : Ct iI yX9_mayEnd cX9_mayEnd 2 (some .boolean) rm_X9_mayEnd [.ref a0, .int a1] M0 (g_X9_mayEnd n M0 a0 a1) := by
  unfold g_X9_mayEnd
  refine ct_intro RX9 0 [some (.ref a0), some (.int a1)] rfl (by decide +kernel) rfl (Nat.le_of_ble_eq_true rfl) (fun X A hX hnm hR => ?_)
  refine s_aload_n hX dX9_mayEnd_0 rfl ?_
  refine s_getO hX dX9_mayEnd_1 q_424 rfl (fun j1 => ?_)
  refine s_getO hX dX9_mayEnd_4 q_392 rfl (fun j2 => ?_)
  refine s_getI hX dX9_mayEnd_7 q_303 rfl (fun v3 => ?_)
  refine s_iload_n hX dX9_mayEnd_10 rfl ?_
  refine s_iadd hX dX9_mayEnd_11 ?_
  refine s_bipush (v := 64) hX dX9_mayEnd_12 kb_64 ?_
  refine s_icge (tgt := 21) hX dX9_mayEnd_14 rfl ?_ ?_
  · refine s_iconst (v := 0) hX dX9_mayEnd_21 kc_0 ?_
    exact s_zret hX hR dX9_mayEnd_22 (Nat.le_of_ble_eq_true rfl) (Nat.le_of_ble_eq_true rfl)
  · refine s_iconst (v := 1) hX dX9_mayEnd_17 kc_1 ?_
    refine s_goto (tgt := 22) hX dX9_mayEnd_18 rfl ?_
    exact s_zret hX hR dX9_mayEnd_22 (Nat.le_of_ble_eq_true rfl) (Nat.le_of_ble_eq_true rfl)
abbrev rm_X9_close : Room := { frames := 7, cells := 55, slots := 2577, locals := 170 }
theorem k_X9_close : KYV yX9_close cX9_close 4 (some .int) 1 := ⟨⟨q_787, q_1, by decide +kernel, by decide +kernel, by decide +kernel⟩, q_785, q_786⟩
set_option maxHeartbeats 4000000 in
set_option maxRecDepth 100000 in
theorem c_X9_close (n : Nat) (M0 : MemT) (a0 : Nat) (a1 : Int32) : Ct iI yX9_close cX9_close 4 (some .int) rm_X9_close [.ref a0, .int a1] M0 (g_X9_close n M0 a0 a1) := by
  unfold g_X9_close
  refine ct_intro RX9 2 [some (.ref a0), some (.int a1), none, none] rfl (by decide +kernel) rfl (Nat.le_of_ble_eq_true rfl) (fun X A hX hnm hR => ?_)
  refine s_iload_n hX dX9_close_0 rfl ?_
  refine s_iconst (v := 1) hX dX9_close_1 kc_1 ?_
  refine s_bipush (v := 16) hX dX9_close_2 kb_16 ?_
  refine s_callSi (ck1 := 0) (sk1 := 0) hX dX9_close_4 k_X9_isIn q_715 (c_X9_isIn n M0 a1 1 16) rfl rfl ⟨Nat.le_of_ble_eq_true rfl, Nat.le_of_ble_eq_true rfl⟩ ⟨(Nat.le_of_ble_eq_true rfl), (Nat.le_of_ble_eq_true rfl)⟩ (Nat.le_of_ble_eq_true rfl) rfl rfl (fun r1 M2 => ?_)
  refine s_ifne (tgt := 12) hX dX9_close_7 rfl ?_ ?_
  · refine s_iconst (v := (-1)) hX dX9_close_10 kc_m1 ?_
    exact s_iret hX hR dX9_close_11 (Nat.le_of_ble_eq_true rfl) (Nat.le_of_ble_eq_true rfl)
  · refine s_aload_n hX dX9_close_12 rfl ?_
    refine s_iload_n hX dX9_close_13 rfl ?_
    refine s_callVi (ck1 := 0) (sk1 := 0) (ci := 7) hX dX9_close_14 k_X9_mayEnd q_788 (c_X9_mayEnd n M2 a0 a1) (by decide) rfl rfl rfl ⟨Nat.le_of_ble_eq_true rfl, Nat.le_of_ble_eq_true rfl⟩ ⟨(Nat.le_of_ble_eq_true rfl), (Nat.le_of_ble_eq_true rfl)⟩ (Nat.le_of_ble_eq_true rfl) rfl rfl (fun r3 M4 => ?_)
    refine s_ifne (tgt := 23) hX dX9_close_17 rfl ?_ ?_
    · refine s_bipush (v := (-2)) hX dX9_close_20 kb_m2 ?_
      exact s_iret hX hR dX9_close_22 (Nat.le_of_ble_eq_true rfl) (Nat.le_of_ble_eq_true rfl)
    · refine s_aload_n hX dX9_close_23 rfl ?_
      refine s_getO hX dX9_close_24 q_426 rfl (fun j5 => ?_)
      refine s_aload_n hX dX9_close_27 rfl ?_
      refine s_getO hX dX9_close_28 q_424 rfl (fun j6 => ?_)
      refine s_getO hX dX9_close_31 q_392 rfl (fun j7 => ?_)
      refine s_callVu (ck1 := 55) (sk1 := 2577) (ci := 3) hX dX9_close_34 k_X4_add q_725 (c_X4_add n M4 j5 j7) (by decide) rfl rfl rfl ⟨Nat.le_of_ble_eq_true rfl, Nat.le_of_ble_eq_true rfl⟩ ⟨(Nat.le_of_ble_eq_true rfl), (Nat.le_of_ble_eq_true rfl)⟩ (Nat.le_of_ble_eq_true rfl) rfl rfl (fun r8 M9 => ?_)
      refine s_aload_n hX dX9_close_37 rfl ?_
      refine s_getO hX dX9_close_38 q_424 rfl (fun j10 => ?_)
      refine s_getO hX dX9_close_41 q_392 rfl (fun j11 => ?_)
      refine s_getI hX dX9_close_44 q_308 rfl (fun v12 => ?_)
      refine s_istore2 hX dX9_close_47 (by first | exact trivial | exact rfl) (Nat.le_of_ble_eq_true rfl) ?_
      refine s_iconst (v := 0) hX dX9_close_48 kc_0 ?_
      refine s_istore3 hX dX9_close_49 (by first | exact trivial | exact rfl) (Nat.le_of_ble_eq_true rfl) ?_
      refine s_loopE (stk := []) (fun (s : MemT × Int32) => [some (.ref a0), some (.int a1), some (.int v12), some (.int s.2)]) (fun (s : MemT × Int32) => s.1) 68 (fun (s : MemT × Int32) => [some (.ref a0), some (.int a1), some (.int v12), some (.int s.2)]) (fun s B15 hB15 hE15 => ?_) (fun s => ?_) n (M9, 0)
      · obtain ⟨M13, v14⟩ := s
        dsimp only
        refine s_iload_n hX dX9_close_50 rfl ?_
        refine s_iload_n hX dX9_close_51 rfl ?_
        refine s_icge (tgt := 68) hX dX9_close_52 rfl ?_ ?_
        · exact s_exit hE15
        · refine s_aload_n hX dX9_close_55 rfl ?_
          refine s_getO hX dX9_close_56 q_424 rfl (fun j16 => ?_)
          refine s_callVu (ck1 := 55) (sk1 := 2577) (ci := 2) hX dX9_close_59 k_X3_endQuarter q_792 (c_X3_endQuarter n M13 j16) (by decide) rfl rfl rfl ⟨Nat.le_of_ble_eq_true rfl, Nat.le_of_ble_eq_true rfl⟩ ⟨(Nat.le_of_ble_eq_true rfl), (Nat.le_of_ble_eq_true rfl)⟩ (Nat.le_of_ble_eq_true rfl) rfl rfl (fun r17 M18 => ?_)
          refine s_iinc3 (v := v14 + 1) hX dX9_close_62 rfl (by first | exact trivial | exact rfl) (Nat.le_of_ble_eq_true rfl) ?_
          refine s_goto (tgt := 50) hX dX9_close_65 rfl ?_
          exact s_back hB15
      · obtain ⟨M19, v20⟩ := s
        dsimp only
        refine s_aload_n hX dX9_close_68 rfl ?_
        refine s_getO hX dX9_close_69 q_424 rfl (fun j21 => ?_)
        refine s_getO hX dX9_close_72 q_392 rfl (fun j22 => ?_)
        refine s_getI hX dX9_close_75 q_308 rfl (fun v23 => ?_)
        refine s_iload_n hX dX9_close_78 rfl ?_
        refine s_isub hX dX9_close_79 ?_
        exact s_iret hX hR dX9_close_80 (Nat.le_of_ble_eq_true rfl) (Nat.le_of_ble_eq_true rfl)
abbrev rm_X9_sum : Room := { frames := 2, cells := 0, slots := 0, locals := 43 }
theorem k_X9_sum : KYV yX9_sum cX9_sum 4 (some .int) 3 := ⟨⟨q_918, q_1, by decide +kernel, by decide +kernel, by decide +kernel⟩, q_916, q_917⟩
set_option maxHeartbeats 4000000 in
set_option maxRecDepth 100000 in
theorem c_X9_sum (n : Nat) (M0 : MemT) (a0 : Nat) (a1 : Int32) (a2 : Int32) (a3 : Int32) : Ct iI yX9_sum cX9_sum 4 (some .int) rm_X9_sum [.ref a0, .int a1, .int a2, .int a3] M0 (g_X9_sum n M0 a0 a1 a2 a3) := by
  unfold g_X9_sum
  refine ct_intro RX9 0 [some (.ref a0), some (.int a1), some (.int a2), some (.int a3)] rfl (by decide +kernel) rfl (Nat.le_of_ble_eq_true rfl) (fun X A hX hnm hR => ?_)
  refine s_aload_n hX dX9_sum_0 rfl ?_
  refine s_iload_n hX dX9_sum_1 rfl ?_
  refine s_callVi (ck1 := 0) (sk1 := 0) (ci := 7) hX dX9_sum_2 k_X9_isTrader q_720 (c_X9_isTrader n M0 a0 a1) (by decide) rfl rfl rfl ⟨Nat.le_of_ble_eq_true rfl, Nat.le_of_ble_eq_true rfl⟩ ⟨(Nat.le_of_ble_eq_true rfl), (Nat.le_of_ble_eq_true rfl)⟩ (Nat.le_of_ble_eq_true rfl) rfl rfl (fun r1 M2 => ?_)
  refine s_ifeq (tgt := 27) hX dX9_sum_5 rfl ?_ ?_
  · refine s_iconst (v := (-1)) hX dX9_sum_27 kc_m1 ?_
    exact s_iret hX hR dX9_sum_28 (Nat.le_of_ble_eq_true rfl) (Nat.le_of_ble_eq_true rfl)
  · refine s_iload_n hX dX9_sum_8 rfl ?_
    refine s_iconst (v := 0) hX dX9_sum_9 kc_0 ?_
    refine s_bipush (v := 63) hX dX9_sum_10 kb_63 ?_
    refine s_callSi (ck1 := 0) (sk1 := 0) hX dX9_sum_12 k_X9_isIn q_715 (c_X9_isIn n M2 a2 0 63) rfl rfl ⟨Nat.le_of_ble_eq_true rfl, Nat.le_of_ble_eq_true rfl⟩ ⟨(Nat.le_of_ble_eq_true rfl), (Nat.le_of_ble_eq_true rfl)⟩ (Nat.le_of_ble_eq_true rfl) rfl rfl (fun r3 M4 => ?_)
    refine s_ifeq (tgt := 27) hX dX9_sum_15 rfl ?_ ?_
    · refine s_iconst (v := (-1)) hX dX9_sum_27 kc_m1 ?_
      exact s_iret hX hR dX9_sum_28 (Nat.le_of_ble_eq_true rfl) (Nat.le_of_ble_eq_true rfl)
    · refine s_iload_n hX dX9_sum_18 rfl ?_
      refine s_iconst (v := 0) hX dX9_sum_19 kc_0 ?_
      refine s_iconst (v := 4) hX dX9_sum_20 kc_4 ?_
      refine s_callSi (ck1 := 0) (sk1 := 0) hX dX9_sum_21 k_X9_isIn q_715 (c_X9_isIn n M4 a3 0 4) rfl rfl ⟨Nat.le_of_ble_eq_true rfl, Nat.le_of_ble_eq_true rfl⟩ ⟨(Nat.le_of_ble_eq_true rfl), (Nat.le_of_ble_eq_true rfl)⟩ (Nat.le_of_ble_eq_true rfl) rfl rfl (fun r5 M6 => ?_)
      refine s_ifne (tgt := 29) hX dX9_sum_24 rfl ?_ ?_
      · refine s_iconst (v := (-1)) hX dX9_sum_27 kc_m1 ?_
        exact s_iret hX hR dX9_sum_28 (Nat.le_of_ble_eq_true rfl) (Nat.le_of_ble_eq_true rfl)
      · refine s_aload_n hX dX9_sum_29 rfl ?_
        refine s_getO hX dX9_sum_30 q_424 rfl (fun j7 => ?_)
        refine s_getO hX dX9_sum_33 q_392 rfl (fun j8 => ?_)
        refine s_iload_n hX dX9_sum_36 rfl ?_
        refine s_iload_n hX dX9_sum_37 rfl ?_
        refine s_iload_n hX dX9_sum_38 rfl ?_
        refine s_callVi (ck1 := 0) (sk1 := 0) (ci := 1) hX dX9_sum_39 k_X2_sumOf q_919 (c_X2_sumOf n M6 j8 a1 a2 a3) (by decide) rfl rfl rfl ⟨Nat.le_of_ble_eq_true rfl, Nat.le_of_ble_eq_true rfl⟩ ⟨(Nat.le_of_ble_eq_true rfl), (Nat.le_of_ble_eq_true rfl)⟩ (Nat.le_of_ble_eq_true rfl) rfl rfl (fun r9 M10 => ?_)
        exact s_iret hX hR dX9_sum_42 (Nat.le_of_ble_eq_true rfl) (Nat.le_of_ble_eq_true rfl)
abbrev rm_X9_provisional : Room := { frames := 5, cells := 0, slots := 0, locals := 117 }
theorem k_X9_provisional : KYV yX9_provisional cX9_provisional 3 (some .int) 2 := ⟨⟨q_923, q_1, by decide +kernel, by decide +kernel, by decide +kernel⟩, q_921, q_922⟩
set_option maxHeartbeats 4000000 in
set_option maxRecDepth 100000 in
theorem c_X9_provisional (n : Nat) (M0 : MemT) (a0 : Nat) (a1 : Int32) (a2 : Int32) : Ct iI yX9_provisional cX9_provisional 3 (some .int) rm_X9_provisional [.ref a0, .int a1, .int a2] M0 (g_X9_provisional n M0 a0 a1 a2) := by
  unfold g_X9_provisional
  refine ct_intro RX9 0 [some (.ref a0), some (.int a1), some (.int a2)] rfl (by decide +kernel) rfl (Nat.le_of_ble_eq_true rfl) (fun X A hX hnm hR => ?_)
  refine s_aload_n hX dX9_provisional_0 rfl ?_
  refine s_iload_n hX dX9_provisional_1 rfl ?_
  refine s_callVi (ck1 := 0) (sk1 := 0) (ci := 7) hX dX9_provisional_2 k_X9_isTrader q_720 (c_X9_isTrader n M0 a0 a1) (by decide) rfl rfl rfl ⟨Nat.le_of_ble_eq_true rfl, Nat.le_of_ble_eq_true rfl⟩ ⟨(Nat.le_of_ble_eq_true rfl), (Nat.le_of_ble_eq_true rfl)⟩ (Nat.le_of_ble_eq_true rfl) rfl rfl (fun r1 M2 => ?_)
  refine s_ifeq (tgt := 18) hX dX9_provisional_5 rfl ?_ ?_
  · refine s_iconst (v := (-1)) hX dX9_provisional_18 kc_m1 ?_
    exact s_iret hX hR dX9_provisional_19 (Nat.le_of_ble_eq_true rfl) (Nat.le_of_ble_eq_true rfl)
  · refine s_iload_n hX dX9_provisional_8 rfl ?_
    refine s_iconst (v := 0) hX dX9_provisional_9 kc_0 ?_
    refine s_bipush (v := 63) hX dX9_provisional_10 kb_63 ?_
    refine s_callSi (ck1 := 0) (sk1 := 0) hX dX9_provisional_12 k_X9_isIn q_715 (c_X9_isIn n M2 a2 0 63) rfl rfl ⟨Nat.le_of_ble_eq_true rfl, Nat.le_of_ble_eq_true rfl⟩ ⟨(Nat.le_of_ble_eq_true rfl), (Nat.le_of_ble_eq_true rfl)⟩ (Nat.le_of_ble_eq_true rfl) rfl rfl (fun r3 M4 => ?_)
    refine s_ifne (tgt := 20) hX dX9_provisional_15 rfl ?_ ?_
    · refine s_iconst (v := (-1)) hX dX9_provisional_18 kc_m1 ?_
      exact s_iret hX hR dX9_provisional_19 (Nat.le_of_ble_eq_true rfl) (Nat.le_of_ble_eq_true rfl)
    · refine s_iload_n hX dX9_provisional_20 rfl ?_
      refine s_aload_n hX dX9_provisional_21 rfl ?_
      refine s_getO hX dX9_provisional_22 q_424 rfl (fun j5 => ?_)
      refine s_getO hX dX9_provisional_25 q_392 rfl (fun j6 => ?_)
      refine s_getI hX dX9_provisional_28 q_303 rfl (fun v7 => ?_)
      refine s_icle (tgt := 37) hX dX9_provisional_31 rfl ?_ ?_
      · refine s_iload_n hX dX9_provisional_37 rfl ?_
        refine s_aload_n hX dX9_provisional_38 rfl ?_
        refine s_getO hX dX9_provisional_39 q_424 rfl (fun j8 => ?_)
        refine s_getO hX dX9_provisional_42 q_392 rfl (fun j9 => ?_)
        refine s_getI hX dX9_provisional_45 q_303 rfl (fun v10 => ?_)
        refine s_icge (tgt := 64) hX dX9_provisional_48 rfl ?_ ?_
        · refine s_aload_n hX dX9_provisional_64 rfl ?_
          refine s_getO hX dX9_provisional_65 q_424 rfl (fun j15 => ?_)
          refine s_iload_n hX dX9_provisional_68 rfl ?_
          refine s_iload_n hX dX9_provisional_69 rfl ?_
          refine s_aload_n hX dX9_provisional_70 rfl ?_
          refine s_getO hX dX9_provisional_71 q_424 rfl (fun j16 => ?_)
          refine s_getO hX dX9_provisional_74 q_390 rfl (fun j17 => ?_)
          refine s_getO hX dX9_provisional_77 q_110 rfl (fun j18 => ?_)
          refine s_iload_n hX dX9_provisional_80 rfl ?_
          refine s_iald hX dX9_provisional_81 (fun v19 => ?_)
          refine s_callVi (ck1 := 0) (sk1 := 0) (ci := 2) hX dX9_provisional_82 k_X3_fractionByBasis q_928 (c_X3_fractionByBasis n M4 j15 a1 a2 v19) (by decide) rfl rfl rfl ⟨Nat.le_of_ble_eq_true rfl, Nat.le_of_ble_eq_true rfl⟩ ⟨(Nat.le_of_ble_eq_true rfl), (Nat.le_of_ble_eq_true rfl)⟩ (Nat.le_of_ble_eq_true rfl) rfl rfl (fun r20 M21 => ?_)
          exact s_iret hX hR dX9_provisional_85 (Nat.le_of_ble_eq_true rfl) (Nat.le_of_ble_eq_true rfl)
        · refine s_aload_n hX dX9_provisional_51 rfl ?_
          refine s_getO hX dX9_provisional_52 q_424 rfl (fun j11 => ?_)
          refine s_getO hX dX9_provisional_55 q_392 rfl (fun j12 => ?_)
          refine s_iload_n hX dX9_provisional_58 rfl ?_
          refine s_iload_n hX dX9_provisional_59 rfl ?_
          refine s_callVi (ck1 := 0) (sk1 := 0) (ci := 1) hX dX9_provisional_60 k_X2_keptProvisional q_924 (c_X2_keptProvisional n M4 j12 a1 a2) (by decide) rfl rfl rfl ⟨Nat.le_of_ble_eq_true rfl, Nat.le_of_ble_eq_true rfl⟩ ⟨(Nat.le_of_ble_eq_true rfl), (Nat.le_of_ble_eq_true rfl)⟩ (Nat.le_of_ble_eq_true rfl) rfl rfl (fun r13 M14 => ?_)
          exact s_iret hX hR dX9_provisional_63 (Nat.le_of_ble_eq_true rfl) (Nat.le_of_ble_eq_true rfl)
      · refine s_bipush (v := (-2)) hX dX9_provisional_34 kb_m2 ?_
        exact s_iret hX hR dX9_provisional_36 (Nat.le_of_ble_eq_true rfl) (Nat.le_of_ble_eq_true rfl)
abbrev rm_X9_recovered : Room := { frames := 2, cells := 0, slots := 0, locals := 43 }
theorem k_X9_recovered : KYV yX9_recovered cX9_recovered 3 (some .int) 2 := ⟨⟨q_932, q_1, by decide +kernel, by decide +kernel, by decide +kernel⟩, q_930, q_931⟩
set_option maxHeartbeats 4000000 in
set_option maxRecDepth 100000 in
theorem c_X9_recovered (n : Nat) (M0 : MemT) (a0 : Nat) (a1 : Int32) (a2 : Int32) : Ct iI yX9_recovered cX9_recovered 3 (some .int) rm_X9_recovered [.ref a0, .int a1, .int a2] M0 (g_X9_recovered n M0 a0 a1 a2) := by
  unfold g_X9_recovered
  refine ct_intro RX9 0 [some (.ref a0), some (.int a1), some (.int a2)] rfl (by decide +kernel) rfl (Nat.le_of_ble_eq_true rfl) (fun X A hX hnm hR => ?_)
  refine s_aload_n hX dX9_recovered_0 rfl ?_
  refine s_iload_n hX dX9_recovered_1 rfl ?_
  refine s_callVi (ck1 := 0) (sk1 := 0) (ci := 7) hX dX9_recovered_2 k_X9_isTrader q_720 (c_X9_isTrader n M0 a0 a1) (by decide) rfl rfl rfl ⟨Nat.le_of_ble_eq_true rfl, Nat.le_of_ble_eq_true rfl⟩ ⟨(Nat.le_of_ble_eq_true rfl), (Nat.le_of_ble_eq_true rfl)⟩ (Nat.le_of_ble_eq_true rfl) rfl rfl (fun r1 M2 => ?_)
  refine s_ifeq (tgt := 18) hX dX9_recovered_5 rfl ?_ ?_
  · refine s_iconst (v := (-1)) hX dX9_recovered_18 kc_m1 ?_
    exact s_iret hX hR dX9_recovered_19 (Nat.le_of_ble_eq_true rfl) (Nat.le_of_ble_eq_true rfl)
  · refine s_iload_n hX dX9_recovered_8 rfl ?_
    refine s_iconst (v := 0) hX dX9_recovered_9 kc_0 ?_
    refine s_bipush (v := 63) hX dX9_recovered_10 kb_63 ?_
    refine s_callSi (ck1 := 0) (sk1 := 0) hX dX9_recovered_12 k_X9_isIn q_715 (c_X9_isIn n M2 a2 0 63) rfl rfl ⟨Nat.le_of_ble_eq_true rfl, Nat.le_of_ble_eq_true rfl⟩ ⟨(Nat.le_of_ble_eq_true rfl), (Nat.le_of_ble_eq_true rfl)⟩ (Nat.le_of_ble_eq_true rfl) rfl rfl (fun r3 M4 => ?_)
    refine s_ifne (tgt := 20) hX dX9_recovered_15 rfl ?_ ?_
    · refine s_iconst (v := (-1)) hX dX9_recovered_18 kc_m1 ?_
      exact s_iret hX hR dX9_recovered_19 (Nat.le_of_ble_eq_true rfl) (Nat.le_of_ble_eq_true rfl)
    · refine s_iload_n hX dX9_recovered_20 rfl ?_
      refine s_aload_n hX dX9_recovered_21 rfl ?_
      refine s_getO hX dX9_recovered_22 q_424 rfl (fun j5 => ?_)
      refine s_getO hX dX9_recovered_25 q_392 rfl (fun j6 => ?_)
      refine s_getI hX dX9_recovered_28 q_303 rfl (fun v7 => ?_)
      refine s_icge (tgt := 49) hX dX9_recovered_31 rfl ?_ ?_
      · refine s_bipush (v := (-2)) hX dX9_recovered_49 kb_m2 ?_
        exact s_iret hX hR dX9_recovered_51 (Nat.le_of_ble_eq_true rfl) (Nat.le_of_ble_eq_true rfl)
      · refine s_aload_n hX dX9_recovered_34 rfl ?_
        refine s_getO hX dX9_recovered_35 q_424 rfl (fun j8 => ?_)
        refine s_getO hX dX9_recovered_38 q_392 rfl (fun j9 => ?_)
        refine s_iload_n hX dX9_recovered_41 rfl ?_
        refine s_iload_n hX dX9_recovered_42 rfl ?_
        refine s_callVi (ck1 := 0) (sk1 := 0) (ci := 1) hX dX9_recovered_43 k_X2_recoveredIn q_933 (c_X2_recoveredIn n M4 j9 a1 a2) (by decide) rfl rfl rfl ⟨Nat.le_of_ble_eq_true rfl, Nat.le_of_ble_eq_true rfl⟩ ⟨(Nat.le_of_ble_eq_true rfl), (Nat.le_of_ble_eq_true rfl)⟩ (Nat.le_of_ble_eq_true rfl) rfl rfl (fun r10 M11 => ?_)
        refine s_goto (tgt := 51) hX dX9_recovered_46 rfl ?_
        exact s_iret hX hR dX9_recovered_51 (Nat.le_of_ble_eq_true rfl) (Nat.le_of_ble_eq_true rfl)
abbrev rm_X9_isBegun : Room := { frames := 1, cells := 0, slots := 0, locals := 22 }
theorem k_X9_isBegun : KYV yX9_isBegun cX9_isBegun 2 (some .boolean) 1 := ⟨⟨q_944, q_1, by decide +kernel, by decide +kernel, by decide +kernel⟩, q_943, p_37⟩
set_option maxHeartbeats 4000000 in
set_option maxRecDepth 100000 in
theorem c_X9_isBegun (n : Nat) (M0 : MemT) (a0 : Nat) (a1 : Int32) : Ct iI yX9_isBegun cX9_isBegun 2 (some .boolean) rm_X9_isBegun [.ref a0, .int a1] M0 (g_X9_isBegun n M0 a0 a1) := by
  unfold g_X9_isBegun
  refine ct_intro RX9 0 [some (.ref a0), some (.int a1)] rfl (by decide +kernel) rfl (Nat.le_of_ble_eq_true rfl) (fun X A hX hnm hR => ?_)
  refine s_iload_n hX dX9_isBegun_0 rfl ?_
  refine s_iconst (v := 0) hX dX9_isBegun_1 kc_0 ?_
  refine s_aload_n hX dX9_isBegun_2 rfl ?_
  refine s_getO hX dX9_isBegun_3 q_424 rfl (fun j1 => ?_)
  refine s_callVi (ck1 := 0) (sk1 := 0) (ci := 2) hX dX9_isBegun_6 k_X3_thisYear q_945 (c_X3_thisYear n M0 j1) (by decide) rfl rfl rfl ⟨Nat.le_of_ble_eq_true rfl, Nat.le_of_ble_eq_true rfl⟩ ⟨(Nat.le_of_ble_eq_true rfl), (Nat.le_of_ble_eq_true rfl)⟩ (Nat.le_of_ble_eq_true rfl) rfl rfl (fun r2 M3 => ?_)
  refine s_callSi (ck1 := 0) (sk1 := 0) hX dX9_isBegun_9 k_X9_isIn q_715 (c_X9_isIn n M3 a1 0 r2) rfl rfl ⟨Nat.le_of_ble_eq_true rfl, Nat.le_of_ble_eq_true rfl⟩ ⟨(Nat.le_of_ble_eq_true rfl), (Nat.le_of_ble_eq_true rfl)⟩ (Nat.le_of_ble_eq_true rfl) rfl rfl (fun r4 M5 => ?_)
  exact s_zret hX hR dX9_isBegun_12 (Nat.le_of_ble_eq_true rfl) (Nat.le_of_ble_eq_true rfl)
abbrev rm_X9_annual : Room := { frames := 7, cells := 0, slots := 0, locals := 160 }
theorem k_X9_annual : KYV yX9_annual cX9_annual 5 (some .int) 3 := ⟨⟨q_940, q_1, by decide +kernel, by decide +kernel, by decide +kernel⟩, q_938, q_939⟩
set_option maxHeartbeats 4000000 in
set_option maxRecDepth 100000 in
theorem c_X9_annual (n : Nat) (M0 : MemT) (a0 : Nat) (a1 : Int32) (a2 : Int32) (a3 : Int32) : Ct iI yX9_annual cX9_annual 5 (some .int) rm_X9_annual [.ref a0, .int a1, .int a2, .int a3] M0 (g_X9_annual n M0 a0 a1 a2 a3) := by
  unfold g_X9_annual
  refine ct_intro RX9 1 [some (.ref a0), some (.int a1), some (.int a2), some (.int a3), none] rfl (by decide +kernel) rfl (Nat.le_of_ble_eq_true rfl) (fun X A hX hnm hR => ?_)
  refine s_aload_n hX dX9_annual_0 rfl ?_
  refine s_iload_n hX dX9_annual_1 rfl ?_
  refine s_callVi (ck1 := 0) (sk1 := 0) (ci := 7) hX dX9_annual_2 k_X9_isTrader q_720 (c_X9_isTrader n M0 a0 a1) (by decide) rfl rfl rfl ⟨Nat.le_of_ble_eq_true rfl, Nat.le_of_ble_eq_true rfl⟩ ⟨(Nat.le_of_ble_eq_true rfl), (Nat.le_of_ble_eq_true rfl)⟩ (Nat.le_of_ble_eq_true rfl) rfl rfl (fun r1 M2 => ?_)
  refine s_ifeq (tgt := 16) hX dX9_annual_5 rfl ?_ ?_
  · refine s_ldc hX dX9_annual_16 q_946 ?_
    exact s_iret hX hR dX9_annual_18 (Nat.le_of_ble_eq_true rfl) (Nat.le_of_ble_eq_true rfl)
  · refine s_aload_n hX dX9_annual_8 rfl ?_
    refine s_iload_n hX dX9_annual_9 rfl ?_
    refine s_callVi (ck1 := 0) (sk1 := 0) (ci := 7) hX dX9_annual_10 k_X9_isBegun q_941 (c_X9_isBegun n M2 a0 a2) (by decide) rfl rfl rfl ⟨Nat.le_of_ble_eq_true rfl, Nat.le_of_ble_eq_true rfl⟩ ⟨(Nat.le_of_ble_eq_true rfl), (Nat.le_of_ble_eq_true rfl)⟩ (Nat.le_of_ble_eq_true rfl) rfl rfl (fun r3 M4 => ?_)
    refine s_ifne (tgt := 19) hX dX9_annual_13 rfl ?_ ?_
    · refine s_ldc hX dX9_annual_16 q_946 ?_
      exact s_iret hX hR dX9_annual_18 (Nat.le_of_ble_eq_true rfl) (Nat.le_of_ble_eq_true rfl)
    · refine s_aload_n hX dX9_annual_19 rfl ?_
      refine s_getO hX dX9_annual_20 q_424 rfl (fun j5 => ?_)
      refine s_iload_n hX dX9_annual_23 rfl ?_
      refine s_iload_n hX dX9_annual_24 rfl ?_
      refine s_callVi (ck1 := 0) (sk1 := 0) (ci := 2) hX dX9_annual_25 k_X3_annualFraction q_947 (c_X3_annualFraction n M4 j5 a1 a2) (by decide) rfl rfl rfl ⟨Nat.le_of_ble_eq_true rfl, Nat.le_of_ble_eq_true rfl⟩ ⟨(Nat.le_of_ble_eq_true rfl), (Nat.le_of_ble_eq_true rfl)⟩ (Nat.le_of_ble_eq_true rfl) rfl rfl (fun r6 M7 => ?_)
      refine s_istore4 hX dX9_annual_28 (by first | exact trivial | exact rfl) (Nat.le_of_ble_eq_true rfl) ?_
      refine s_iload_n hX dX9_annual_30 rfl ?_
      have b8 := sw_0 a3 0
      refine s_swC (tgt := 60) (v := 0) 0 hX dX9_annual_31 b8 (by decide) ⟨by decide, by decide⟩ rfl rfl ?_ (fun b9 => ?_)
      · refine s_iload hX dX9_annual_60 rfl ?_
        exact s_iret hX hR dX9_annual_62 (Nat.le_of_ble_eq_true rfl) (Nat.le_of_ble_eq_true rfl)
      refine s_swC (tgt := 63) (v := 1) 1 hX dX9_annual_31 b9 (by decide) ⟨by decide, by decide⟩ rfl rfl ?_ (fun b15 => ?_)
      · refine s_aload_n hX dX9_annual_63 rfl ?_
        refine s_getO hX dX9_annual_64 q_424 rfl (fun j10 => ?_)
        refine s_iload_n hX dX9_annual_67 rfl ?_
        refine s_iload_n hX dX9_annual_68 rfl ?_
        refine s_callVr (ck1 := 0) (sk1 := 0) (ci := 2) hX dX9_annual_69 k_X3_ofYear q_951 (c_X3_ofYear n M7 j10 a1 a2) (by decide) rfl rfl rfl ⟨Nat.le_of_ble_eq_true rfl, Nat.le_of_ble_eq_true rfl⟩ ⟨(Nat.le_of_ble_eq_true rfl), (Nat.le_of_ble_eq_true rfl)⟩ (Nat.le_of_ble_eq_true rfl) rfl rfl (fun r11 M12 => ?_)
        refine s_iload hX dX9_annual_72 rfl ?_
        refine s_callVi (ck1 := 0) (sk1 := 0) (ci := 5) hX dX9_annual_74 k_X6_backBy q_952 (c_X6_backBy n M12 r11 r6) (by decide) rfl rfl rfl ⟨Nat.le_of_ble_eq_true rfl, Nat.le_of_ble_eq_true rfl⟩ ⟨(Nat.le_of_ble_eq_true rfl), (Nat.le_of_ble_eq_true rfl)⟩ (Nat.le_of_ble_eq_true rfl) rfl rfl (fun r13 M14 => ?_)
        exact s_iret hX hR dX9_annual_77 (Nat.le_of_ble_eq_true rfl) (Nat.le_of_ble_eq_true rfl)
      refine s_swC (tgt := 78) (v := 2) 2 hX dX9_annual_31 b15 (by decide) ⟨by decide, by decide⟩ rfl rfl ?_ (fun b21 => ?_)
      · refine s_aload_n hX dX9_annual_78 rfl ?_
        refine s_getO hX dX9_annual_79 q_424 rfl (fun j16 => ?_)
        refine s_iload_n hX dX9_annual_82 rfl ?_
        refine s_iload_n hX dX9_annual_83 rfl ?_
        refine s_callVr (ck1 := 0) (sk1 := 0) (ci := 2) hX dX9_annual_84 k_X3_ofYear q_951 (c_X3_ofYear n M7 j16 a1 a2) (by decide) rfl rfl rfl ⟨Nat.le_of_ble_eq_true rfl, Nat.le_of_ble_eq_true rfl⟩ ⟨(Nat.le_of_ble_eq_true rfl), (Nat.le_of_ble_eq_true rfl)⟩ (Nat.le_of_ble_eq_true rfl) rfl rfl (fun r17 M18 => ?_)
        refine s_iload hX dX9_annual_87 rfl ?_
        refine s_callVi (ck1 := 0) (sk1 := 0) (ci := 5) hX dX9_annual_89 k_X6_isSmall q_953 (c_X6_isSmall n M18 r17 r6) (by decide) rfl rfl rfl ⟨Nat.le_of_ble_eq_true rfl, Nat.le_of_ble_eq_true rfl⟩ ⟨(Nat.le_of_ble_eq_true rfl), (Nat.le_of_ble_eq_true rfl)⟩ (Nat.le_of_ble_eq_true rfl) rfl rfl (fun r19 M20 => ?_)
        refine s_ifeq (tgt := 99) hX dX9_annual_92 rfl ?_ ?_
        · refine s_iconst (v := 0) hX dX9_annual_99 kc_0 ?_
          exact s_iret hX hR dX9_annual_100 (Nat.le_of_ble_eq_true rfl) (Nat.le_of_ble_eq_true rfl)
        · refine s_iconst (v := 1) hX dX9_annual_95 kc_1 ?_
          refine s_goto (tgt := 100) hX dX9_annual_96 rfl ?_
          exact s_iret hX hR dX9_annual_100 (Nat.le_of_ble_eq_true rfl) (Nat.le_of_ble_eq_true rfl)
      refine s_swC (tgt := 101) (v := 3) 3 hX dX9_annual_31 b21 (by decide) ⟨by decide, by decide⟩ rfl rfl ?_ (fun b25 => ?_)
      · refine s_aload_n hX dX9_annual_101 rfl ?_
        refine s_getO hX dX9_annual_102 q_424 rfl (fun j22 => ?_)
        refine s_iload_n hX dX9_annual_105 rfl ?_
        refine s_iload_n hX dX9_annual_106 rfl ?_
        refine s_callVi (ck1 := 0) (sk1 := 0) (ci := 2) hX dX9_annual_107 k_X3_trued q_957 (c_X3_trued n M7 j22 a1 a2) (by decide) rfl rfl rfl ⟨Nat.le_of_ble_eq_true rfl, Nat.le_of_ble_eq_true rfl⟩ ⟨(Nat.le_of_ble_eq_true rfl), (Nat.le_of_ble_eq_true rfl)⟩ (Nat.le_of_ble_eq_true rfl) rfl rfl (fun r23 M24 => ?_)
        exact s_iret hX hR dX9_annual_110 (Nat.le_of_ble_eq_true rfl) (Nat.le_of_ble_eq_true rfl)
      refine s_swD (tgt := 111) 4 hX dX9_annual_31 b25 rfl rfl ?_
      refine s_ldc hX dX9_annual_111 q_946 ?_
      exact s_iret hX hR dX9_annual_113 (Nat.le_of_ble_eq_true rfl) (Nat.le_of_ble_eq_true rfl)
abbrev rm_X9_interval : Room := { frames := 2, cells := 0, slots := 0, locals := 43 }
theorem k_X9_interval : KYV yX9_interval cX9_interval 5 (some .int) 3 := ⟨⟨q_969, q_1, by decide +kernel, by decide +kernel, by decide +kernel⟩, q_967, q_968⟩
set_option maxHeartbeats 4000000 in
set_option maxRecDepth 100000 in
theorem c_X9_interval (n : Nat) (M0 : MemT) (a0 : Nat) (a1 : Int32) (a2 : Int32) (a3 : Int32) : Ct iI yX9_interval cX9_interval 5 (some .int) rm_X9_interval [.ref a0, .int a1, .int a2, .int a3] M0 (g_X9_interval n M0 a0 a1 a2 a3) := by
  unfold g_X9_interval
  refine ct_intro RX9 1 [some (.ref a0), some (.int a1), some (.int a2), some (.int a3), none] rfl (by decide +kernel) rfl (Nat.le_of_ble_eq_true rfl) (fun X A hX hnm hR => ?_)
  refine s_aload_n hX dX9_interval_0 rfl ?_
  refine s_iload_n hX dX9_interval_1 rfl ?_
  refine s_callVi (ck1 := 0) (sk1 := 0) (ci := 7) hX dX9_interval_2 k_X9_isAsset q_711 (c_X9_isAsset n M0 a0 a1) (by decide) rfl rfl rfl ⟨Nat.le_of_ble_eq_true rfl, Nat.le_of_ble_eq_true rfl⟩ ⟨(Nat.le_of_ble_eq_true rfl), (Nat.le_of_ble_eq_true rfl)⟩ (Nat.le_of_ble_eq_true rfl) rfl rfl (fun r1 M2 => ?_)
  refine s_ifeq (tgt := 33) hX dX9_interval_5 rfl ?_ ?_
  · refine s_ldc hX dX9_interval_33 q_946 ?_
    exact s_iret hX hR dX9_interval_35 (Nat.le_of_ble_eq_true rfl) (Nat.le_of_ble_eq_true rfl)
  · refine s_iload_n hX dX9_interval_8 rfl ?_
    refine s_iconst (v := 0) hX dX9_interval_9 kc_0 ?_
    refine s_aload_n hX dX9_interval_10 rfl ?_
    refine s_getO hX dX9_interval_11 q_424 rfl (fun j3 => ?_)
    refine s_getO hX dX9_interval_14 q_392 rfl (fun j4 => ?_)
    refine s_getO hX dX9_interval_17 q_316 rfl (fun j5 => ?_)
    refine s_iload_n hX dX9_interval_20 rfl ?_
    refine s_aald14 hX dX9_interval_21 (fun j6 => ?_)
    refine s_getI hX dX9_interval_22 q_252 rfl (fun v7 => ?_)
    refine s_iconst (v := 1) hX dX9_interval_25 kc_1 ?_
    refine s_isub hX dX9_interval_26 ?_
    refine s_callSi (ck1 := 0) (sk1 := 0) hX dX9_interval_27 k_X9_isIn q_715 (c_X9_isIn n M2 a2 0 (v7 - 1)) rfl rfl ⟨Nat.le_of_ble_eq_true rfl, Nat.le_of_ble_eq_true rfl⟩ ⟨(Nat.le_of_ble_eq_true rfl), (Nat.le_of_ble_eq_true rfl)⟩ (Nat.le_of_ble_eq_true rfl) rfl rfl (fun r8 M9 => ?_)
    refine s_ifne (tgt := 36) hX dX9_interval_30 rfl ?_ ?_
    · refine s_ldc hX dX9_interval_33 q_946 ?_
      exact s_iret hX hR dX9_interval_35 (Nat.le_of_ble_eq_true rfl) (Nat.le_of_ble_eq_true rfl)
    · refine s_aload_n hX dX9_interval_36 rfl ?_
      refine s_getO hX dX9_interval_37 q_424 rfl (fun j10 => ?_)
      refine s_getO hX dX9_interval_40 q_392 rfl (fun j11 => ?_)
      refine s_getO hX dX9_interval_43 q_316 rfl (fun j12 => ?_)
      refine s_iload_n hX dX9_interval_46 rfl ?_
      refine s_aald14 hX dX9_interval_47 (fun j13 => ?_)
      refine s_astore4 hX dX9_interval_48 (by first | exact trivial | exact rfl) (Nat.le_of_ble_eq_true rfl) ?_
      refine s_iload_n hX dX9_interval_50 rfl ?_
      have b14 := sw_0 a3 0
      refine s_swC (tgt := 80) (v := 0) 0 hX dX9_interval_51 b14 (by decide) ⟨by decide, by decide⟩ rfl rfl ?_ (fun b16 => ?_)
      · refine s_aload hX dX9_interval_80 rfl ?_
        refine s_getI hX dX9_interval_82 q_225 rfl (fun v15 => ?_)
        refine s_iconst (v := 4) hX dX9_interval_85 kc_4 ?_
        refine s_idiv hX dX9_interval_86 ?_
        refine s_iload_n hX dX9_interval_87 rfl ?_
        refine s_iadd hX dX9_interval_88 ?_
        exact s_iret hX hR dX9_interval_89 (Nat.le_of_ble_eq_true rfl) (Nat.le_of_ble_eq_true rfl)
      refine s_swC (tgt := 90) (v := 1) 1 hX dX9_interval_51 b16 (by decide) ⟨by decide, by decide⟩ rfl rfl ?_ (fun b19 => ?_)
      · refine s_aload hX dX9_interval_90 rfl ?_
        refine s_getO hX dX9_interval_92 q_257 rfl (fun j17 => ?_)
        refine s_iload_n hX dX9_interval_95 rfl ?_
        refine s_iald hX dX9_interval_96 (fun v18 => ?_)
        exact s_iret hX hR dX9_interval_97 (Nat.le_of_ble_eq_true rfl) (Nat.le_of_ble_eq_true rfl)
      refine s_swC (tgt := 98) (v := 2) 2 hX dX9_interval_51 b19 (by decide) ⟨by decide, by decide⟩ rfl rfl ?_ (fun b22 => ?_)
      · refine s_aload hX dX9_interval_98 rfl ?_
        refine s_getO hX dX9_interval_100 q_259 rfl (fun j20 => ?_)
        refine s_iload_n hX dX9_interval_103 rfl ?_
        refine s_iald hX dX9_interval_104 (fun v21 => ?_)
        exact s_iret hX hR dX9_interval_105 (Nat.le_of_ble_eq_true rfl) (Nat.le_of_ble_eq_true rfl)
      refine s_swC (tgt := 106) (v := 3) 3 hX dX9_interval_51 b22 (by decide) ⟨by decide, by decide⟩ rfl rfl ?_ (fun b25 => ?_)
      · refine s_aload hX dX9_interval_106 rfl ?_
        refine s_getO hX dX9_interval_108 q_261 rfl (fun j23 => ?_)
        refine s_iload_n hX dX9_interval_111 rfl ?_
        refine s_iald hX dX9_interval_112 (fun v24 => ?_)
        exact s_iret hX hR dX9_interval_113 (Nat.le_of_ble_eq_true rfl) (Nat.le_of_ble_eq_true rfl)
      refine s_swD (tgt := 114) 4 hX dX9_interval_51 b25 rfl rfl ?_
      refine s_ldc hX dX9_interval_114 q_946 ?_
      exact s_iret hX hR dX9_interval_116 (Nat.le_of_ble_eq_true rfl) (Nat.le_of_ble_eq_true rfl)
abbrev rm_X9_taken : Room := { frames := 2, cells := 0, slots := 0, locals := 43 }
theorem k_X9_taken : KYV yX9_taken cX9_taken 2 (some .int) 1 := ⟨⟨q_973, q_1, by decide +kernel, by decide +kernel, by decide +kernel⟩, q_971, q_972⟩
set_option maxHeartbeats 4000000 in
set_option maxRecDepth 100000 in
theorem c_X9_taken (n : Nat) (M0 : MemT) (a0 : Nat) (a1 : Int32) : Ct iI yX9_taken cX9_taken 2 (some .int) rm_X9_taken [.ref a0, .int a1] M0 (g_X9_taken n M0 a0 a1) := by
  unfold g_X9_taken
  refine ct_intro RX9 0 [some (.ref a0), some (.int a1)] rfl (by decide +kernel) rfl (Nat.le_of_ble_eq_true rfl) (fun X A hX hnm hR => ?_)
  refine s_aload_n hX dX9_taken_0 rfl ?_
  refine s_iload_n hX dX9_taken_1 rfl ?_
  refine s_callVi (ck1 := 0) (sk1 := 0) (ci := 7) hX dX9_taken_2 k_X9_isAsset q_711 (c_X9_isAsset n M0 a0 a1) (by decide) rfl rfl rfl ⟨Nat.le_of_ble_eq_true rfl, Nat.le_of_ble_eq_true rfl⟩ ⟨(Nat.le_of_ble_eq_true rfl), (Nat.le_of_ble_eq_true rfl)⟩ (Nat.le_of_ble_eq_true rfl) rfl rfl (fun r1 M2 => ?_)
  refine s_ifeq (tgt := 26) hX dX9_taken_5 rfl ?_ ?_
  · refine s_ldc hX dX9_taken_26 q_946 ?_
    exact s_iret hX hR dX9_taken_28 (Nat.le_of_ble_eq_true rfl) (Nat.le_of_ble_eq_true rfl)
  · refine s_aload_n hX dX9_taken_8 rfl ?_
    refine s_getO hX dX9_taken_9 q_424 rfl (fun j3 => ?_)
    refine s_getO hX dX9_taken_12 q_392 rfl (fun j4 => ?_)
    refine s_getO hX dX9_taken_15 q_316 rfl (fun j5 => ?_)
    refine s_iload_n hX dX9_taken_18 rfl ?_
    refine s_aald14 hX dX9_taken_19 (fun j6 => ?_)
    refine s_getI hX dX9_taken_20 q_244 rfl (fun v7 => ?_)
    refine s_goto (tgt := 28) hX dX9_taken_23 rfl ?_
    exact s_iret hX hR dX9_taken_28 (Nat.le_of_ble_eq_true rfl) (Nat.le_of_ble_eq_true rfl)
abbrev rm_X9_last : Room := { frames := 2, cells := 0, slots := 0, locals := 43 }
theorem k_X9_last : KYV yX9_last cX9_last 2 (some .int) 1 := ⟨⟨q_977, q_1, by decide +kernel, by decide +kernel, by decide +kernel⟩, q_975, q_976⟩
set_option maxHeartbeats 4000000 in
set_option maxRecDepth 100000 in
theorem c_X9_last (n : Nat) (M0 : MemT) (a0 : Nat) (a1 : Int32) : Ct iI yX9_last cX9_last 2 (some .int) rm_X9_last [.ref a0, .int a1] M0 (g_X9_last n M0 a0 a1) := by
  unfold g_X9_last
  refine ct_intro RX9 0 [some (.ref a0), some (.int a1)] rfl (by decide +kernel) rfl (Nat.le_of_ble_eq_true rfl) (fun X A hX hnm hR => ?_)
  refine s_aload_n hX dX9_last_0 rfl ?_
  refine s_iload_n hX dX9_last_1 rfl ?_
  refine s_callVi (ck1 := 0) (sk1 := 0) (ci := 7) hX dX9_last_2 k_X9_isAsset q_711 (c_X9_isAsset n M0 a0 a1) (by decide) rfl rfl rfl ⟨Nat.le_of_ble_eq_true rfl, Nat.le_of_ble_eq_true rfl⟩ ⟨(Nat.le_of_ble_eq_true rfl), (Nat.le_of_ble_eq_true rfl)⟩ (Nat.le_of_ble_eq_true rfl) rfl rfl (fun r1 M2 => ?_)
  refine s_ifeq (tgt := 26) hX dX9_last_5 rfl ?_ ?_
  · refine s_ldc hX dX9_last_26 q_946 ?_
    exact s_iret hX hR dX9_last_28 (Nat.le_of_ble_eq_true rfl) (Nat.le_of_ble_eq_true rfl)
  · refine s_aload_n hX dX9_last_8 rfl ?_
    refine s_getO hX dX9_last_9 q_424 rfl (fun j3 => ?_)
    refine s_getO hX dX9_last_12 q_392 rfl (fun j4 => ?_)
    refine s_getO hX dX9_last_15 q_316 rfl (fun j5 => ?_)
    refine s_iload_n hX dX9_last_18 rfl ?_
    refine s_aald14 hX dX9_last_19 (fun j6 => ?_)
    refine s_getI hX dX9_last_20 q_247 rfl (fun v7 => ?_)
    refine s_ifne (tgt := 29) hX dX9_last_23 rfl ?_ ?_
    · refine s_ldc hX dX9_last_26 q_946 ?_
      exact s_iret hX hR dX9_last_28 (Nat.le_of_ble_eq_true rfl) (Nat.le_of_ble_eq_true rfl)
    · refine s_aload_n hX dX9_last_29 rfl ?_
      refine s_getO hX dX9_last_30 q_424 rfl (fun j8 => ?_)
      refine s_getO hX dX9_last_33 q_392 rfl (fun j9 => ?_)
      refine s_getO hX dX9_last_36 q_316 rfl (fun j10 => ?_)
      refine s_iload_n hX dX9_last_39 rfl ?_
      refine s_aald14 hX dX9_last_40 (fun j11 => ?_)
      refine s_getI hX dX9_last_41 q_250 rfl (fun v12 => ?_)
      exact s_iret hX hR dX9_last_44 (Nat.le_of_ble_eq_true rfl) (Nat.le_of_ble_eq_true rfl)
abbrev rm_X9_booked : Room := { frames := 1, cells := 0, slots := 0, locals := 22 }
theorem k_X9_booked : KYV yX9_booked cX9_booked 4 (some .int) 2 := ⟨⟨q_981, q_1, by decide +kernel, by decide +kernel, by decide +kernel⟩, q_979, q_980⟩
set_option maxHeartbeats 4000000 in
set_option maxRecDepth 100000 in
theorem c_X9_booked (n : Nat) (M0 : MemT) (a0 : Nat) (a1 : Int32) (a2 : Int32) : Ct iI yX9_booked cX9_booked 4 (some .int) rm_X9_booked [.ref a0, .int a1, .int a2] M0 (g_X9_booked n M0 a0 a1 a2) := by
  unfold g_X9_booked
  refine ct_intro RX9 1 [some (.ref a0), some (.int a1), some (.int a2), none] rfl (by decide +kernel) rfl (Nat.le_of_ble_eq_true rfl) (fun X A hX hnm hR => ?_)
  refine s_aload_n hX dX9_booked_0 rfl ?_
  refine s_getO hX dX9_booked_1 q_424 rfl (fun j1 => ?_)
  refine s_getO hX dX9_booked_4 q_392 rfl (fun j2 => ?_)
  refine s_getI hX dX9_booked_7 q_308 rfl (fun v3 => ?_)
  refine s_bipush (v := 40) hX dX9_booked_10 kb_40 ?_
  refine s_mmin hX dX9_booked_12 q_673 q_469 q_10 q_470 (Nat.le_of_ble_eq_true rfl) (Nat.le_of_ble_eq_true rfl) (Nat.le_of_ble_eq_true rfl) (Nat.le_of_ble_eq_true rfl) ?_
  refine s_istore3 hX dX9_booked_15 (by first | exact trivial | exact rfl) (Nat.le_of_ble_eq_true rfl) ?_
  refine s_iload_n hX dX9_booked_16 rfl ?_
  refine s_iconst (v := 0) hX dX9_booked_17 kc_0 ?_
  refine s_iload_n hX dX9_booked_18 rfl ?_
  refine s_iconst (v := 1) hX dX9_booked_19 kc_1 ?_
  refine s_isub hX dX9_booked_20 ?_
  refine s_callSi (ck1 := 0) (sk1 := 0) hX dX9_booked_21 k_X9_isIn q_715 (c_X9_isIn n M0 a1 0 ((if 40 < v3 then 40 else v3) - 1)) rfl rfl ⟨Nat.le_of_ble_eq_true rfl, Nat.le_of_ble_eq_true rfl⟩ ⟨(Nat.le_of_ble_eq_true rfl), (Nat.le_of_ble_eq_true rfl)⟩ (Nat.le_of_ble_eq_true rfl) rfl rfl (fun r4 M5 => ?_)
  refine s_ifeq (tgt := 36) hX dX9_booked_24 rfl ?_ ?_
  · refine s_ldc hX dX9_booked_36 q_946 ?_
    exact s_iret hX hR dX9_booked_38 (Nat.le_of_ble_eq_true rfl) (Nat.le_of_ble_eq_true rfl)
  · refine s_iload_n hX dX9_booked_27 rfl ?_
    refine s_iconst (v := 0) hX dX9_booked_28 kc_0 ?_
    refine s_iconst (v := 4) hX dX9_booked_29 kc_4 ?_
    refine s_callSi (ck1 := 0) (sk1 := 0) hX dX9_booked_30 k_X9_isIn q_715 (c_X9_isIn n M5 a2 0 4) rfl rfl ⟨Nat.le_of_ble_eq_true rfl, Nat.le_of_ble_eq_true rfl⟩ ⟨(Nat.le_of_ble_eq_true rfl), (Nat.le_of_ble_eq_true rfl)⟩ (Nat.le_of_ble_eq_true rfl) rfl rfl (fun r6 M7 => ?_)
    refine s_ifne (tgt := 39) hX dX9_booked_33 rfl ?_ ?_
    · refine s_ldc hX dX9_booked_36 q_946 ?_
      exact s_iret hX hR dX9_booked_38 (Nat.le_of_ble_eq_true rfl) (Nat.le_of_ble_eq_true rfl)
    · refine s_aload_n hX dX9_booked_39 rfl ?_
      refine s_getO hX dX9_booked_40 q_424 rfl (fun j8 => ?_)
      refine s_getO hX dX9_booked_43 q_392 rfl (fun j9 => ?_)
      refine s_iload_n hX dX9_booked_46 rfl ?_
      refine s_iload_n hX dX9_booked_47 rfl ?_
      refine s_callVi (ck1 := 0) (sk1 := 0) (ci := 1) hX dX9_booked_48 k_X2_entryPart q_982 (c_X2_entryPart n M7 j9 a1 a2) (by decide) rfl rfl rfl ⟨Nat.le_of_ble_eq_true rfl, Nat.le_of_ble_eq_true rfl⟩ ⟨(Nat.le_of_ble_eq_true rfl), (Nat.le_of_ble_eq_true rfl)⟩ (Nat.le_of_ble_eq_true rfl) rfl rfl (fun r10 M11 => ?_)
      exact s_iret hX hR dX9_booked_51 (Nat.le_of_ble_eq_true rfl) (Nat.le_of_ble_eq_true rfl)
abbrev rm_X9_total : Room := { frames := 2, cells := 0, slots := 0, locals := 43 }
theorem k_X9_total : KYV yX9_total cX9_total 3 (some .int) 2 := ⟨⟨q_989, q_1, by decide +kernel, by decide +kernel, by decide +kernel⟩, q_987, q_988⟩
set_option maxHeartbeats 4000000 in
set_option maxRecDepth 100000 in
theorem c_X9_total (n : Nat) (M0 : MemT) (a0 : Nat) (a1 : Int32) (a2 : Int32) : Ct iI yX9_total cX9_total 3 (some .int) rm_X9_total [.ref a0, .int a1, .int a2] M0 (g_X9_total n M0 a0 a1 a2) := by
  unfold g_X9_total
  refine ct_intro RX9 0 [some (.ref a0), some (.int a1), some (.int a2)] rfl (by decide +kernel) rfl (Nat.le_of_ble_eq_true rfl) (fun X A hX hnm hR => ?_)
  refine s_aload_n hX dX9_total_0 rfl ?_
  refine s_iload_n hX dX9_total_1 rfl ?_
  refine s_callVi (ck1 := 0) (sk1 := 0) (ci := 7) hX dX9_total_2 k_X9_isTrader q_720 (c_X9_isTrader n M0 a0 a1) (by decide) rfl rfl rfl ⟨Nat.le_of_ble_eq_true rfl, Nat.le_of_ble_eq_true rfl⟩ ⟨(Nat.le_of_ble_eq_true rfl), (Nat.le_of_ble_eq_true rfl)⟩ (Nat.le_of_ble_eq_true rfl) rfl rfl (fun r1 M2 => ?_)
  refine s_ifeq (tgt := 17) hX dX9_total_5 rfl ?_ ?_
  · refine s_ldc hX dX9_total_17 q_946 ?_
    exact s_iret hX hR dX9_total_19 (Nat.le_of_ble_eq_true rfl) (Nat.le_of_ble_eq_true rfl)
  · refine s_iload_n hX dX9_total_8 rfl ?_
    refine s_iconst (v := 0) hX dX9_total_9 kc_0 ?_
    refine s_iconst (v := 3) hX dX9_total_10 kc_3 ?_
    refine s_callSi (ck1 := 0) (sk1 := 0) hX dX9_total_11 k_X9_isIn q_715 (c_X9_isIn n M2 a2 0 3) rfl rfl ⟨Nat.le_of_ble_eq_true rfl, Nat.le_of_ble_eq_true rfl⟩ ⟨(Nat.le_of_ble_eq_true rfl), (Nat.le_of_ble_eq_true rfl)⟩ (Nat.le_of_ble_eq_true rfl) rfl rfl (fun r3 M4 => ?_)
    refine s_ifne (tgt := 20) hX dX9_total_14 rfl ?_ ?_
    · refine s_ldc hX dX9_total_17 q_946 ?_
      exact s_iret hX hR dX9_total_19 (Nat.le_of_ble_eq_true rfl) (Nat.le_of_ble_eq_true rfl)
    · refine s_aload_n hX dX9_total_20 rfl ?_
      refine s_getO hX dX9_total_21 q_424 rfl (fun j5 => ?_)
      refine s_getO hX dX9_total_24 q_392 rfl (fun j6 => ?_)
      refine s_iload_n hX dX9_total_27 rfl ?_
      refine s_iload_n hX dX9_total_28 rfl ?_
      refine s_callVi (ck1 := 0) (sk1 := 0) (ci := 1) hX dX9_total_29 k_X2_totalOf q_990 (c_X2_totalOf n M4 j6 a1 a2) (by decide) rfl rfl rfl ⟨Nat.le_of_ble_eq_true rfl, Nat.le_of_ble_eq_true rfl⟩ ⟨(Nat.le_of_ble_eq_true rfl), (Nat.le_of_ble_eq_true rfl)⟩ (Nat.le_of_ble_eq_true rfl) rfl rfl (fun r7 M8 => ?_)
      exact s_iret hX hR dX9_total_32 (Nat.le_of_ble_eq_true rfl) (Nat.le_of_ble_eq_true rfl)
abbrev rm_X9_by : Room := { frames := 4, cells := 0, slots := 0, locals := 95 }
theorem k_X9_by : KYV yX9_by cX9_by 7 (some .int) 5 := ⟨⟨q_997, q_1, by decide +kernel, by decide +kernel, by decide +kernel⟩, q_995, q_996⟩
set_option maxHeartbeats 4000000 in
set_option maxRecDepth 100000 in
theorem c_X9_by (n : Nat) (M0 : MemT) (a0 : Nat) (a1 : Int32) (a2 : Int32) (a3 : Int32) (a4 : Int32) (a5 : Int32) : Ct iI yX9_by cX9_by 7 (some .int) rm_X9_by [.ref a0, .int a1, .int a2, .int a3, .int a4, .int a5] M0 (g_X9_by n M0 a0 a1 a2 a3 a4 a5) := by
  unfold g_X9_by
  refine ct_intro RX9 1 [some (.ref a0), some (.int a1), some (.int a2), some (.int a3), some (.int a4), some (.int a5), none] rfl (by decide +kernel) rfl (Nat.le_of_ble_eq_true rfl) (fun X A hX hnm hR => ?_)
  refine s_aload_n hX dX9_by_0 rfl ?_
  refine s_iload_n hX dX9_by_1 rfl ?_
  refine s_callVi (ck1 := 0) (sk1 := 0) (ci := 7) hX dX9_by_2 k_X9_isTrader q_720 (c_X9_isTrader n M0 a0 a1) (by decide) rfl rfl rfl ⟨Nat.le_of_ble_eq_true rfl, Nat.le_of_ble_eq_true rfl⟩ ⟨(Nat.le_of_ble_eq_true rfl), (Nat.le_of_ble_eq_true rfl)⟩ (Nat.le_of_ble_eq_true rfl) rfl rfl (fun r1 M2 => ?_)
  refine s_ifeq (tgt := 48) hX dX9_by_5 rfl ?_ ?_
  · refine s_ldc hX dX9_by_48 q_946 ?_
    exact s_iret hX hR dX9_by_50 (Nat.le_of_ble_eq_true rfl) (Nat.le_of_ble_eq_true rfl)
  · refine s_aload_n hX dX9_by_8 rfl ?_
    refine s_iload_n hX dX9_by_9 rfl ?_
    refine s_callVi (ck1 := 0) (sk1 := 0) (ci := 7) hX dX9_by_10 k_X9_isBegun q_941 (c_X9_isBegun n M2 a0 a2) (by decide) rfl rfl rfl ⟨Nat.le_of_ble_eq_true rfl, Nat.le_of_ble_eq_true rfl⟩ ⟨(Nat.le_of_ble_eq_true rfl), (Nat.le_of_ble_eq_true rfl)⟩ (Nat.le_of_ble_eq_true rfl) rfl rfl (fun r3 M4 => ?_)
    refine s_ifeq (tgt := 48) hX dX9_by_13 rfl ?_ ?_
    · refine s_ldc hX dX9_by_48 q_946 ?_
      exact s_iret hX hR dX9_by_50 (Nat.le_of_ble_eq_true rfl) (Nat.le_of_ble_eq_true rfl)
    · refine s_iload_n hX dX9_by_16 rfl ?_
      refine s_iconst (v := 0) hX dX9_by_17 kc_0 ?_
      refine s_iconst (v := 2) hX dX9_by_18 kc_2 ?_
      refine s_callSi (ck1 := 0) (sk1 := 0) hX dX9_by_19 k_X9_isIn q_715 (c_X9_isIn n M4 a3 0 2) rfl rfl ⟨Nat.le_of_ble_eq_true rfl, Nat.le_of_ble_eq_true rfl⟩ ⟨(Nat.le_of_ble_eq_true rfl), (Nat.le_of_ble_eq_true rfl)⟩ (Nat.le_of_ble_eq_true rfl) rfl rfl (fun r5 M6 => ?_)
      refine s_ifeq (tgt := 48) hX dX9_by_22 rfl ?_ ?_
      · refine s_ldc hX dX9_by_48 q_946 ?_
        exact s_iret hX hR dX9_by_50 (Nat.le_of_ble_eq_true rfl) (Nat.le_of_ble_eq_true rfl)
      · refine s_iload hX dX9_by_25 rfl ?_
        refine s_iconst (v := 0) hX dX9_by_27 kc_0 ?_
        refine s_iconst (v := 2) hX dX9_by_28 kc_2 ?_
        refine s_callSi (ck1 := 0) (sk1 := 0) hX dX9_by_29 k_X9_isIn q_715 (c_X9_isIn n M6 a4 0 2) rfl rfl ⟨Nat.le_of_ble_eq_true rfl, Nat.le_of_ble_eq_true rfl⟩ ⟨(Nat.le_of_ble_eq_true rfl), (Nat.le_of_ble_eq_true rfl)⟩ (Nat.le_of_ble_eq_true rfl) rfl rfl (fun r7 M8 => ?_)
        refine s_ifeq (tgt := 48) hX dX9_by_32 rfl ?_ ?_
        · refine s_ldc hX dX9_by_48 q_946 ?_
          exact s_iret hX hR dX9_by_50 (Nat.le_of_ble_eq_true rfl) (Nat.le_of_ble_eq_true rfl)
        · refine s_iload hX dX9_by_35 rfl ?_
          refine s_bipush (v := 10) hX dX9_by_37 kb_10 ?_
          refine s_sipush (v := 1000) hX dX9_by_39 ks_1000 ?_
          refine s_callSi (ck1 := 0) (sk1 := 0) hX dX9_by_42 k_X9_isIn q_715 (c_X9_isIn n M8 a5 10 1000) rfl rfl ⟨Nat.le_of_ble_eq_true rfl, Nat.le_of_ble_eq_true rfl⟩ ⟨(Nat.le_of_ble_eq_true rfl), (Nat.le_of_ble_eq_true rfl)⟩ (Nat.le_of_ble_eq_true rfl) rfl rfl (fun r9 M10 => ?_)
          refine s_ifne (tgt := 51) hX dX9_by_45 rfl ?_ ?_
          · refine s_ldc hX dX9_by_48 q_946 ?_
            exact s_iret hX hR dX9_by_50 (Nat.le_of_ble_eq_true rfl) (Nat.le_of_ble_eq_true rfl)
          · refine s_aload_n hX dX9_by_51 rfl ?_
            refine s_getO hX dX9_by_52 q_424 rfl (fun j11 => ?_)
            refine s_iload_n hX dX9_by_55 rfl ?_
            refine s_iload_n hX dX9_by_56 rfl ?_
            refine s_callVr (ck1 := 0) (sk1 := 0) (ci := 2) hX dX9_by_57 k_X3_ofYear q_951 (c_X3_ofYear n M10 j11 a1 a2) (by decide) rfl rfl rfl ⟨Nat.le_of_ble_eq_true rfl, Nat.le_of_ble_eq_true rfl⟩ ⟨(Nat.le_of_ble_eq_true rfl), (Nat.le_of_ble_eq_true rfl)⟩ (Nat.le_of_ble_eq_true rfl) rfl rfl (fun r12 M13 => ?_)
            refine s_astore6 hX dX9_by_60 (by first | exact trivial | exact rfl) (Nat.le_of_ble_eq_true rfl) ?_
            refine s_aload hX dX9_by_62 rfl ?_
            refine s_iload_n hX dX9_by_64 rfl ?_
            refine s_putI hX dX9_by_65 q_364 rfl rfl (fun M14 => ?_)
            refine s_aload hX dX9_by_68 rfl ?_
            refine s_iload hX dX9_by_70 rfl ?_
            refine s_putI hX dX9_by_72 q_367 rfl rfl (fun M15 => ?_)
            refine s_aload hX dX9_by_75 rfl ?_
            refine s_iload hX dX9_by_77 rfl ?_
            refine s_putI hX dX9_by_79 q_370 rfl rfl (fun M16 => ?_)
            refine s_aload hX dX9_by_82 rfl ?_
            refine s_aload hX dX9_by_84 rfl ?_
            refine s_callVi (ck1 := 0) (sk1 := 0) (ci := 5) hX dX9_by_86 k_X6_fraction q_998 (c_X6_fraction n M16 r12) (by decide) rfl rfl rfl ⟨Nat.le_of_ble_eq_true rfl, Nat.le_of_ble_eq_true rfl⟩ ⟨(Nat.le_of_ble_eq_true rfl), (Nat.le_of_ble_eq_true rfl)⟩ (Nat.le_of_ble_eq_true rfl) rfl rfl (fun r17 M18 => ?_)
            refine s_callVi (ck1 := 0) (sk1 := 0) (ci := 5) hX dX9_by_89 k_X6_backBy q_952 (c_X6_backBy n M18 r12 r17) (by decide) rfl rfl rfl ⟨Nat.le_of_ble_eq_true rfl, Nat.le_of_ble_eq_true rfl⟩ ⟨(Nat.le_of_ble_eq_true rfl), (Nat.le_of_ble_eq_true rfl)⟩ (Nat.le_of_ble_eq_true rfl) rfl rfl (fun r19 M20 => ?_)
            exact s_iret hX hR dX9_by_92 (Nat.le_of_ble_eq_true rfl) (Nat.le_of_ble_eq_true rfl)
abbrev rm_X9_isYear : Room := { frames := 1, cells := 0, slots := 0, locals := 22 }
theorem k_X9_isYear : KYS yX9_isYear cX9_isYear 1 (some .boolean) 1 := ⟨⟨q_1005, q_1, by decide +kernel, by decide +kernel, by decide +kernel⟩, q_1004⟩
set_option maxHeartbeats 4000000 in
set_option maxRecDepth 100000 in
theorem c_X9_isYear (n : Nat) (M0 : MemT) (a0 : Int32) : Ct iI yX9_isYear cX9_isYear 1 (some .boolean) rm_X9_isYear [.int a0] M0 (g_X9_isYear n M0 a0) := by
  unfold g_X9_isYear
  refine ct_intro RX9 0 [some (.int a0)] rfl (by decide +kernel) rfl (Nat.le_of_ble_eq_true rfl) (fun X A hX hnm hR => ?_)
  refine s_iload_n hX dX9_isYear_0 rfl ?_
  refine s_iconst (v := 0) hX dX9_isYear_1 kc_0 ?_
  refine s_bipush (v := 15) hX dX9_isYear_2 kb_15 ?_
  refine s_callSi (ck1 := 0) (sk1 := 0) hX dX9_isYear_4 k_X9_isIn q_715 (c_X9_isIn n M0 a0 0 15) rfl rfl ⟨Nat.le_of_ble_eq_true rfl, Nat.le_of_ble_eq_true rfl⟩ ⟨(Nat.le_of_ble_eq_true rfl), (Nat.le_of_ble_eq_true rfl)⟩ (Nat.le_of_ble_eq_true rfl) rfl rfl (fun r1 M2 => ?_)
  exact s_zret hX hR dX9_isYear_7 (Nat.le_of_ble_eq_true rfl) (Nat.le_of_ble_eq_true rfl)
abbrev rm_X9_bestMethod : Room := { frames := 4, cells := 0, slots := 0, locals := 95 }
theorem k_X9_bestMethod : KYV yX9_bestMethod cX9_bestMethod 8 (some .int) 2 := ⟨⟨q_1002, q_1, by decide +kernel, by decide +kernel, by decide +kernel⟩, q_1000, q_1001⟩
set_option maxHeartbeats 4000000 in
set_option maxRecDepth 100000 in
theorem c_X9_bestMethod (n : Nat) (M0 : MemT) (a0 : Nat) (a1 : Int32) (a2 : Int32) : Ct iI yX9_bestMethod cX9_bestMethod 8 (some .int) rm_X9_bestMethod [.ref a0, .int a1, .int a2] M0 (g_X9_bestMethod n M0 a0 a1 a2) := by
  unfold g_X9_bestMethod
  refine ct_intro RX9 5 [some (.ref a0), some (.int a1), some (.int a2), none, none, none, none, none] rfl (by decide +kernel) rfl (Nat.le_of_ble_eq_true rfl) (fun X A hX hnm hR => ?_)
  refine s_aload_n hX dX9_bestMethod_0 rfl ?_
  refine s_iload_n hX dX9_bestMethod_1 rfl ?_
  refine s_callVi (ck1 := 0) (sk1 := 0) (ci := 7) hX dX9_bestMethod_2 k_X9_isTrader q_720 (c_X9_isTrader n M0 a0 a1) (by decide) rfl rfl rfl ⟨Nat.le_of_ble_eq_true rfl, Nat.le_of_ble_eq_true rfl⟩ ⟨(Nat.le_of_ble_eq_true rfl), (Nat.le_of_ble_eq_true rfl)⟩ (Nat.le_of_ble_eq_true rfl) rfl rfl (fun r1 M2 => ?_)
  refine s_ifeq (tgt := 15) hX dX9_bestMethod_5 rfl ?_ ?_
  · refine s_iconst (v := (-1)) hX dX9_bestMethod_15 kc_m1 ?_
    exact s_iret hX hR dX9_bestMethod_16 (Nat.le_of_ble_eq_true rfl) (Nat.le_of_ble_eq_true rfl)
  · refine s_iload_n hX dX9_bestMethod_8 rfl ?_
    refine s_callSi (ck1 := 0) (sk1 := 0) hX dX9_bestMethod_9 k_X9_isYear q_1003 (c_X9_isYear n M2 a2) rfl rfl ⟨Nat.le_of_ble_eq_true rfl, Nat.le_of_ble_eq_true rfl⟩ ⟨(Nat.le_of_ble_eq_true rfl), (Nat.le_of_ble_eq_true rfl)⟩ (Nat.le_of_ble_eq_true rfl) rfl rfl (fun r3 M4 => ?_)
    refine s_ifne (tgt := 17) hX dX9_bestMethod_12 rfl ?_ ?_
    · refine s_iconst (v := (-1)) hX dX9_bestMethod_15 kc_m1 ?_
      exact s_iret hX hR dX9_bestMethod_16 (Nat.le_of_ble_eq_true rfl) (Nat.le_of_ble_eq_true rfl)
    · refine s_aload_n hX dX9_bestMethod_17 rfl ?_
      refine s_iload_n hX dX9_bestMethod_18 rfl ?_
      refine s_callVi (ck1 := 0) (sk1 := 0) (ci := 7) hX dX9_bestMethod_19 k_X9_isBegun q_941 (c_X9_isBegun n M4 a0 a2) (by decide) rfl rfl rfl ⟨Nat.le_of_ble_eq_true rfl, Nat.le_of_ble_eq_true rfl⟩ ⟨(Nat.le_of_ble_eq_true rfl), (Nat.le_of_ble_eq_true rfl)⟩ (Nat.le_of_ble_eq_true rfl) rfl rfl (fun r5 M6 => ?_)
      refine s_ifne (tgt := 28) hX dX9_bestMethod_22 rfl ?_ ?_
      · refine s_bipush (v := (-2)) hX dX9_bestMethod_25 kb_m2 ?_
        exact s_iret hX hR dX9_bestMethod_27 (Nat.le_of_ble_eq_true rfl) (Nat.le_of_ble_eq_true rfl)
      · refine s_aload_n hX dX9_bestMethod_28 rfl ?_
        refine s_getO hX dX9_bestMethod_29 q_424 rfl (fun j7 => ?_)
        refine s_iload_n hX dX9_bestMethod_32 rfl ?_
        refine s_iload_n hX dX9_bestMethod_33 rfl ?_
        refine s_callVr (ck1 := 0) (sk1 := 0) (ci := 2) hX dX9_bestMethod_34 k_X3_ofYear q_951 (c_X3_ofYear n M6 j7 a1 a2) (by decide) rfl rfl rfl ⟨Nat.le_of_ble_eq_true rfl, Nat.le_of_ble_eq_true rfl⟩ ⟨(Nat.le_of_ble_eq_true rfl), (Nat.le_of_ble_eq_true rfl)⟩ (Nat.le_of_ble_eq_true rfl) rfl rfl (fun r8 M9 => ?_)
        refine s_astore3 hX dX9_bestMethod_37 (by first | exact trivial | exact rfl) (Nat.le_of_ble_eq_true rfl) ?_
        refine s_iconst (v := 0) hX dX9_bestMethod_38 kc_0 ?_
        refine s_istore4 hX dX9_bestMethod_39 (by first | exact trivial | exact rfl) (Nat.le_of_ble_eq_true rfl) ?_
        refine s_iconst (v := (-1)) hX dX9_bestMethod_41 kc_m1 ?_
        refine s_istore5 hX dX9_bestMethod_42 (by first | exact trivial | exact rfl) (Nat.le_of_ble_eq_true rfl) ?_
        refine s_iconst (v := 0) hX dX9_bestMethod_44 kc_0 ?_
        refine s_istore6 hX dX9_bestMethod_45 (by first | exact trivial | exact rfl) (Nat.le_of_ble_eq_true rfl) ?_
        refine s_loopE (stk := []) (fun (s : MemT × Int32 × Int32 × Int32) => [some (.ref a0), some (.int a1), some (.int a2), some (.ref r8), some (.int s.2.1), some (.int s.2.2.1), some (.int s.2.2.2), none]) (fun (s : MemT × Int32 × Int32 × Int32) => s.1) 90 (fun (s : MemT × Int32 × Int32 × Int32) => [some (.ref a0), some (.int a1), some (.int a2), some (.ref r8), some (.int s.2.1), some (.int s.2.2.1), some (.int s.2.2.2), none]) (fun s B14 hB14 hE14 => ?_) (fun s => ?_) n (M9, 0, (-1), 0)
        · obtain ⟨M10, v11, v12, v13⟩ := s
          dsimp only
          refine s_iload hX dX9_bestMethod_47 rfl ?_
          refine s_iconst (v := 3) hX dX9_bestMethod_49 kc_3 ?_
          refine s_icge (tgt := 90) hX dX9_bestMethod_50 rfl ?_ ?_
          · exact s_exit hE14
          · refine s_aload_n hX dX9_bestMethod_53 rfl ?_
            refine s_iload hX dX9_bestMethod_54 rfl ?_
            refine s_putI hX dX9_bestMethod_56 q_367 rfl rfl (fun M15 => ?_)
            refine s_aload_n hX dX9_bestMethod_59 rfl ?_
            refine s_aload_n hX dX9_bestMethod_60 rfl ?_
            refine s_callVi (ck1 := 0) (sk1 := 0) (ci := 5) hX dX9_bestMethod_61 k_X6_fraction q_998 (c_X6_fraction n M15 r8) (by decide) rfl rfl rfl ⟨Nat.le_of_ble_eq_true rfl, Nat.le_of_ble_eq_true rfl⟩ ⟨(Nat.le_of_ble_eq_true rfl), (Nat.le_of_ble_eq_true rfl)⟩ (Nat.le_of_ble_eq_true rfl) rfl rfl (fun r16 M17 => ?_)
            refine s_callVi (ck1 := 0) (sk1 := 0) (ci := 5) hX dX9_bestMethod_64 k_X6_backBy q_952 (c_X6_backBy n M17 r8 r16) (by decide) rfl rfl rfl ⟨Nat.le_of_ble_eq_true rfl, Nat.le_of_ble_eq_true rfl⟩ ⟨(Nat.le_of_ble_eq_true rfl), (Nat.le_of_ble_eq_true rfl)⟩ (Nat.le_of_ble_eq_true rfl) rfl rfl (fun r18 M19 => ?_)
            refine s_istore7 hX dX9_bestMethod_67 (by first | exact trivial | exact rfl) (Nat.le_of_ble_eq_true rfl) ?_
            refine s_iload hX dX9_bestMethod_69 rfl ?_
            refine s_iload hX dX9_bestMethod_71 rfl ?_
            refine s_icle (tgt := 84) hX dX9_bestMethod_73 rfl ?_ ?_
            · refine s_iinc6 (v := v13 + 1) hX dX9_bestMethod_84 rfl (by first | exact trivial | exact rfl) (Nat.le_of_ble_eq_true rfl) ?_
              refine s_goto (tgt := 47) hX dX9_bestMethod_87 rfl ?_
              refine s_forget (loc1 := [some (.ref a0), some (.int a1), some (.int a2), some (.ref r8), some (.int v11), some (.int v12), some (.int (v13 + 1)), none]) ⟨rfl, rfl, rfl, rfl, rfl, rfl, rfl, trivial⟩ ?_
              exact s_back hB14
            · refine s_iload hX dX9_bestMethod_76 rfl ?_
              refine s_istore5 hX dX9_bestMethod_78 (by first | exact trivial | exact rfl) (Nat.le_of_ble_eq_true rfl) ?_
              refine s_iload hX dX9_bestMethod_80 rfl ?_
              refine s_istore4 hX dX9_bestMethod_82 (by first | exact trivial | exact rfl) (Nat.le_of_ble_eq_true rfl) ?_
              refine s_iinc6 (v := v13 + 1) hX dX9_bestMethod_84 rfl (by first | exact trivial | exact rfl) (Nat.le_of_ble_eq_true rfl) ?_
              refine s_goto (tgt := 47) hX dX9_bestMethod_87 rfl ?_
              refine s_forget (loc1 := [some (.ref a0), some (.int a1), some (.int a2), some (.ref r8), some (.int v13), some (.int r18), some (.int (v13 + 1)), none]) ⟨rfl, rfl, rfl, rfl, rfl, rfl, rfl, trivial⟩ ?_
              exact s_back hB14
        · obtain ⟨M20, v21, v22, v23⟩ := s
          dsimp only
          refine s_iload hX dX9_bestMethod_90 rfl ?_
          exact s_iret hX hR dX9_bestMethod_92 (Nat.le_of_ble_eq_true rfl) (Nat.le_of_ble_eq_true rfl)
abbrev rm_X9_bestStep : Room := { frames := 4, cells := 0, slots := 0, locals := 95 }
theorem k_X9_bestStep : KYV yX9_bestStep cX9_bestStep 8 (some .int) 2 := ⟨⟨q_1009, q_1, by decide +kernel, by decide +kernel, by decide +kernel⟩, q_1007, q_1008⟩
set_option maxHeartbeats 4000000 in
set_option maxRecDepth 100000 in
theorem c_X9_bestStep (n : Nat) (M0 : MemT) (a0 : Nat) (a1 : Int32) (a2 : Int32) : Ct iI yX9_bestStep cX9_bestStep 8 (some .int) rm_X9_bestStep [.ref a0, .int a1, .int a2] M0 (g_X9_bestStep n M0 a0 a1 a2) := by
  unfold g_X9_bestStep
  refine ct_intro RX9 5 [some (.ref a0), some (.int a1), some (.int a2), none, none, none, none, none] rfl (by decide +kernel) rfl (Nat.le_of_ble_eq_true rfl) (fun X A hX hnm hR => ?_)
  refine s_aload_n hX dX9_bestStep_0 rfl ?_
  refine s_iload_n hX dX9_bestStep_1 rfl ?_
  refine s_callVi (ck1 := 0) (sk1 := 0) (ci := 7) hX dX9_bestStep_2 k_X9_isTrader q_720 (c_X9_isTrader n M0 a0 a1) (by decide) rfl rfl rfl ⟨Nat.le_of_ble_eq_true rfl, Nat.le_of_ble_eq_true rfl⟩ ⟨(Nat.le_of_ble_eq_true rfl), (Nat.le_of_ble_eq_true rfl)⟩ (Nat.le_of_ble_eq_true rfl) rfl rfl (fun r1 M2 => ?_)
  refine s_ifeq (tgt := 15) hX dX9_bestStep_5 rfl ?_ ?_
  · refine s_iconst (v := (-1)) hX dX9_bestStep_15 kc_m1 ?_
    exact s_iret hX hR dX9_bestStep_16 (Nat.le_of_ble_eq_true rfl) (Nat.le_of_ble_eq_true rfl)
  · refine s_iload_n hX dX9_bestStep_8 rfl ?_
    refine s_callSi (ck1 := 0) (sk1 := 0) hX dX9_bestStep_9 k_X9_isYear q_1003 (c_X9_isYear n M2 a2) rfl rfl ⟨Nat.le_of_ble_eq_true rfl, Nat.le_of_ble_eq_true rfl⟩ ⟨(Nat.le_of_ble_eq_true rfl), (Nat.le_of_ble_eq_true rfl)⟩ (Nat.le_of_ble_eq_true rfl) rfl rfl (fun r3 M4 => ?_)
    refine s_ifne (tgt := 17) hX dX9_bestStep_12 rfl ?_ ?_
    · refine s_iconst (v := (-1)) hX dX9_bestStep_15 kc_m1 ?_
      exact s_iret hX hR dX9_bestStep_16 (Nat.le_of_ble_eq_true rfl) (Nat.le_of_ble_eq_true rfl)
    · refine s_aload_n hX dX9_bestStep_17 rfl ?_
      refine s_iload_n hX dX9_bestStep_18 rfl ?_
      refine s_callVi (ck1 := 0) (sk1 := 0) (ci := 7) hX dX9_bestStep_19 k_X9_isBegun q_941 (c_X9_isBegun n M4 a0 a2) (by decide) rfl rfl rfl ⟨Nat.le_of_ble_eq_true rfl, Nat.le_of_ble_eq_true rfl⟩ ⟨(Nat.le_of_ble_eq_true rfl), (Nat.le_of_ble_eq_true rfl)⟩ (Nat.le_of_ble_eq_true rfl) rfl rfl (fun r5 M6 => ?_)
      refine s_ifne (tgt := 28) hX dX9_bestStep_22 rfl ?_ ?_
      · refine s_bipush (v := (-2)) hX dX9_bestStep_25 kb_m2 ?_
        exact s_iret hX hR dX9_bestStep_27 (Nat.le_of_ble_eq_true rfl) (Nat.le_of_ble_eq_true rfl)
      · refine s_aload_n hX dX9_bestStep_28 rfl ?_
        refine s_getO hX dX9_bestStep_29 q_424 rfl (fun j7 => ?_)
        refine s_iload_n hX dX9_bestStep_32 rfl ?_
        refine s_iload_n hX dX9_bestStep_33 rfl ?_
        refine s_callVr (ck1 := 0) (sk1 := 0) (ci := 2) hX dX9_bestStep_34 k_X3_ofYear q_951 (c_X3_ofYear n M6 j7 a1 a2) (by decide) rfl rfl rfl ⟨Nat.le_of_ble_eq_true rfl, Nat.le_of_ble_eq_true rfl⟩ ⟨(Nat.le_of_ble_eq_true rfl), (Nat.le_of_ble_eq_true rfl)⟩ (Nat.le_of_ble_eq_true rfl) rfl rfl (fun r8 M9 => ?_)
        refine s_astore3 hX dX9_bestStep_37 (by first | exact trivial | exact rfl) (Nat.le_of_ble_eq_true rfl) ?_
        refine s_bipush (v := 10) hX dX9_bestStep_38 kb_10 ?_
        refine s_istore4 hX dX9_bestStep_40 (by first | exact trivial | exact rfl) (Nat.le_of_ble_eq_true rfl) ?_
        refine s_iconst (v := (-1)) hX dX9_bestStep_42 kc_m1 ?_
        refine s_istore5 hX dX9_bestStep_43 (by first | exact trivial | exact rfl) (Nat.le_of_ble_eq_true rfl) ?_
        refine s_bipush (v := 10) hX dX9_bestStep_45 kb_10 ?_
        refine s_istore6 hX dX9_bestStep_47 (by first | exact trivial | exact rfl) (Nat.le_of_ble_eq_true rfl) ?_
        refine s_loopE (stk := []) (fun (s : MemT × Int32 × Int32 × Int32) => [some (.ref a0), some (.int a1), some (.int a2), some (.ref r8), some (.int s.2.1), some (.int s.2.2.1), some (.int s.2.2.2), none]) (fun (s : MemT × Int32 × Int32 × Int32) => s.1) 94 (fun (s : MemT × Int32 × Int32 × Int32) => [some (.ref a0), some (.int a1), some (.int a2), some (.ref r8), some (.int s.2.1), some (.int s.2.2.1), some (.int s.2.2.2), none]) (fun s B14 hB14 hE14 => ?_) (fun s => ?_) n (M9, 10, (-1), 10)
        · obtain ⟨M10, v11, v12, v13⟩ := s
          dsimp only
          refine s_iload hX dX9_bestStep_49 rfl ?_
          refine s_sipush (v := 1000) hX dX9_bestStep_51 ks_1000 ?_
          refine s_icgt (tgt := 94) hX dX9_bestStep_54 rfl ?_ ?_
          · exact s_exit hE14
          · refine s_aload_n hX dX9_bestStep_57 rfl ?_
            refine s_iload hX dX9_bestStep_58 rfl ?_
            refine s_putI hX dX9_bestStep_60 q_370 rfl rfl (fun M15 => ?_)
            refine s_aload_n hX dX9_bestStep_63 rfl ?_
            refine s_aload_n hX dX9_bestStep_64 rfl ?_
            refine s_callVi (ck1 := 0) (sk1 := 0) (ci := 5) hX dX9_bestStep_65 k_X6_fraction q_998 (c_X6_fraction n M15 r8) (by decide) rfl rfl rfl ⟨Nat.le_of_ble_eq_true rfl, Nat.le_of_ble_eq_true rfl⟩ ⟨(Nat.le_of_ble_eq_true rfl), (Nat.le_of_ble_eq_true rfl)⟩ (Nat.le_of_ble_eq_true rfl) rfl rfl (fun r16 M17 => ?_)
            refine s_callVi (ck1 := 0) (sk1 := 0) (ci := 5) hX dX9_bestStep_68 k_X6_backBy q_952 (c_X6_backBy n M17 r8 r16) (by decide) rfl rfl rfl ⟨Nat.le_of_ble_eq_true rfl, Nat.le_of_ble_eq_true rfl⟩ ⟨(Nat.le_of_ble_eq_true rfl), (Nat.le_of_ble_eq_true rfl)⟩ (Nat.le_of_ble_eq_true rfl) rfl rfl (fun r18 M19 => ?_)
            refine s_istore7 hX dX9_bestStep_71 (by first | exact trivial | exact rfl) (Nat.le_of_ble_eq_true rfl) ?_
            refine s_iload hX dX9_bestStep_73 rfl ?_
            refine s_iload hX dX9_bestStep_75 rfl ?_
            refine s_icle (tgt := 88) hX dX9_bestStep_77 rfl ?_ ?_
            · refine s_iinc6 (v := v13 + 1) hX dX9_bestStep_88 rfl (by first | exact trivial | exact rfl) (Nat.le_of_ble_eq_true rfl) ?_
              refine s_goto (tgt := 49) hX dX9_bestStep_91 rfl ?_
              refine s_forget (loc1 := [some (.ref a0), some (.int a1), some (.int a2), some (.ref r8), some (.int v11), some (.int v12), some (.int (v13 + 1)), none]) ⟨rfl, rfl, rfl, rfl, rfl, rfl, rfl, trivial⟩ ?_
              exact s_back hB14
            · refine s_iload hX dX9_bestStep_80 rfl ?_
              refine s_istore5 hX dX9_bestStep_82 (by first | exact trivial | exact rfl) (Nat.le_of_ble_eq_true rfl) ?_
              refine s_iload hX dX9_bestStep_84 rfl ?_
              refine s_istore4 hX dX9_bestStep_86 (by first | exact trivial | exact rfl) (Nat.le_of_ble_eq_true rfl) ?_
              refine s_iinc6 (v := v13 + 1) hX dX9_bestStep_88 rfl (by first | exact trivial | exact rfl) (Nat.le_of_ble_eq_true rfl) ?_
              refine s_goto (tgt := 49) hX dX9_bestStep_91 rfl ?_
              refine s_forget (loc1 := [some (.ref a0), some (.int a1), some (.int a2), some (.ref r8), some (.int v13), some (.int r18), some (.int (v13 + 1)), none]) ⟨rfl, rfl, rfl, rfl, rfl, rfl, rfl, trivial⟩ ?_
              exact s_back hB14
        · obtain ⟨M20, v21, v22, v23⟩ := s
          dsimp only
          refine s_iload hX dX9_bestStep_94 rfl ?_
          exact s_iret hX hR dX9_bestStep_96 (Nat.le_of_ble_eq_true rfl) (Nat.le_of_ble_eq_true rfl)
abbrev rm_X9_joint : Room := { frames := 4, cells := 0, slots := 0, locals := 95 }
theorem k_X9_joint : KYV yX9_joint cX9_joint 5 (some .int) 3 := ⟨⟨q_1013, q_1, by decide +kernel, by decide +kernel, by decide +kernel⟩, q_1011, q_1012⟩
set_option maxHeartbeats 4000000 in
set_option maxRecDepth 100000 in
theorem c_X9_joint (n : Nat) (M0 : MemT) (a0 : Nat) (a1 : Int32) (a2 : Int32) (a3 : Int32) : Ct iI yX9_joint cX9_joint 5 (some .int) rm_X9_joint [.ref a0, .int a1, .int a2, .int a3] M0 (g_X9_joint n M0 a0 a1 a2 a3) := by
  unfold g_X9_joint
  refine ct_intro RX9 1 [some (.ref a0), some (.int a1), some (.int a2), some (.int a3), none] rfl (by decide +kernel) rfl (Nat.le_of_ble_eq_true rfl) (fun X A hX hnm hR => ?_)
  refine s_aload_n hX dX9_joint_0 rfl ?_
  refine s_iload_n hX dX9_joint_1 rfl ?_
  refine s_callVi (ck1 := 0) (sk1 := 0) (ci := 7) hX dX9_joint_2 k_X9_isTrader q_720 (c_X9_isTrader n M0 a0 a1) (by decide) rfl rfl rfl ⟨Nat.le_of_ble_eq_true rfl, Nat.le_of_ble_eq_true rfl⟩ ⟨(Nat.le_of_ble_eq_true rfl), (Nat.le_of_ble_eq_true rfl)⟩ (Nat.le_of_ble_eq_true rfl) rfl rfl (fun r1 M2 => ?_)
  refine s_ifeq (tgt := 29) hX dX9_joint_5 rfl ?_ ?_
  · refine s_ldc hX dX9_joint_29 q_946 ?_
    exact s_iret hX hR dX9_joint_31 (Nat.le_of_ble_eq_true rfl) (Nat.le_of_ble_eq_true rfl)
  · refine s_aload_n hX dX9_joint_8 rfl ?_
    refine s_iload_n hX dX9_joint_9 rfl ?_
    refine s_callVi (ck1 := 0) (sk1 := 0) (ci := 7) hX dX9_joint_10 k_X9_isTrader q_720 (c_X9_isTrader n M2 a0 a2) (by decide) rfl rfl rfl ⟨Nat.le_of_ble_eq_true rfl, Nat.le_of_ble_eq_true rfl⟩ ⟨(Nat.le_of_ble_eq_true rfl), (Nat.le_of_ble_eq_true rfl)⟩ (Nat.le_of_ble_eq_true rfl) rfl rfl (fun r3 M4 => ?_)
    refine s_ifeq (tgt := 29) hX dX9_joint_13 rfl ?_ ?_
    · refine s_ldc hX dX9_joint_29 q_946 ?_
      exact s_iret hX hR dX9_joint_31 (Nat.le_of_ble_eq_true rfl) (Nat.le_of_ble_eq_true rfl)
    · refine s_iload_n hX dX9_joint_16 rfl ?_
      refine s_iload_n hX dX9_joint_17 rfl ?_
      refine s_iceq (tgt := 29) hX dX9_joint_18 rfl ?_ ?_
      · refine s_ldc hX dX9_joint_29 q_946 ?_
        exact s_iret hX hR dX9_joint_31 (Nat.le_of_ble_eq_true rfl) (Nat.le_of_ble_eq_true rfl)
      · refine s_aload_n hX dX9_joint_21 rfl ?_
        refine s_iload_n hX dX9_joint_22 rfl ?_
        refine s_callVi (ck1 := 0) (sk1 := 0) (ci := 7) hX dX9_joint_23 k_X9_isBegun q_941 (c_X9_isBegun n M4 a0 a3) (by decide) rfl rfl rfl ⟨Nat.le_of_ble_eq_true rfl, Nat.le_of_ble_eq_true rfl⟩ ⟨(Nat.le_of_ble_eq_true rfl), (Nat.le_of_ble_eq_true rfl)⟩ (Nat.le_of_ble_eq_true rfl) rfl rfl (fun r5 M6 => ?_)
        refine s_ifne (tgt := 32) hX dX9_joint_26 rfl ?_ ?_
        · refine s_ldc hX dX9_joint_29 q_946 ?_
          exact s_iret hX hR dX9_joint_31 (Nat.le_of_ble_eq_true rfl) (Nat.le_of_ble_eq_true rfl)
        · refine s_aload_n hX dX9_joint_32 rfl ?_
          refine s_getO hX dX9_joint_33 q_424 rfl (fun j7 => ?_)
          refine s_iload_n hX dX9_joint_36 rfl ?_
          refine s_iload_n hX dX9_joint_37 rfl ?_
          refine s_callVr (ck1 := 0) (sk1 := 0) (ci := 2) hX dX9_joint_38 k_X3_ofYear q_951 (c_X3_ofYear n M6 j7 a1 a3) (by decide) rfl rfl rfl ⟨Nat.le_of_ble_eq_true rfl, Nat.le_of_ble_eq_true rfl⟩ ⟨(Nat.le_of_ble_eq_true rfl), (Nat.le_of_ble_eq_true rfl)⟩ (Nat.le_of_ble_eq_true rfl) rfl rfl (fun r8 M9 => ?_)
          refine s_astore4 hX dX9_joint_41 (by first | exact trivial | exact rfl) (Nat.le_of_ble_eq_true rfl) ?_
          refine s_aload_n hX dX9_joint_43 rfl ?_
          refine s_getO hX dX9_joint_44 q_424 rfl (fun j10 => ?_)
          refine s_iload_n hX dX9_joint_47 rfl ?_
          refine s_iload_n hX dX9_joint_48 rfl ?_
          refine s_callVu (ck1 := 0) (sk1 := 0) (ci := 2) hX dX9_joint_49 k_X3_joinYear q_1014 (c_X3_joinYear n M9 j10 a2 a3) (by decide) rfl rfl rfl ⟨Nat.le_of_ble_eq_true rfl, Nat.le_of_ble_eq_true rfl⟩ ⟨(Nat.le_of_ble_eq_true rfl), (Nat.le_of_ble_eq_true rfl)⟩ (Nat.le_of_ble_eq_true rfl) rfl rfl (fun r11 M12 => ?_)
          refine s_aload hX dX9_joint_52 rfl ?_
          refine s_aload hX dX9_joint_54 rfl ?_
          refine s_callVi (ck1 := 0) (sk1 := 0) (ci := 5) hX dX9_joint_56 k_X6_fraction q_998 (c_X6_fraction n M12 r8) (by decide) rfl rfl rfl ⟨Nat.le_of_ble_eq_true rfl, Nat.le_of_ble_eq_true rfl⟩ ⟨(Nat.le_of_ble_eq_true rfl), (Nat.le_of_ble_eq_true rfl)⟩ (Nat.le_of_ble_eq_true rfl) rfl rfl (fun r13 M14 => ?_)
          refine s_callVi (ck1 := 0) (sk1 := 0) (ci := 5) hX dX9_joint_59 k_X6_backBy q_952 (c_X6_backBy n M14 r8 r13) (by decide) rfl rfl rfl ⟨Nat.le_of_ble_eq_true rfl, Nat.le_of_ble_eq_true rfl⟩ ⟨(Nat.le_of_ble_eq_true rfl), (Nat.le_of_ble_eq_true rfl)⟩ (Nat.le_of_ble_eq_true rfl) rfl rfl (fun r15 M16 => ?_)
          exact s_iret hX hR dX9_joint_62 (Nat.le_of_ble_eq_true rfl) (Nat.le_of_ble_eq_true rfl)
