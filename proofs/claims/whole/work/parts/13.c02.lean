abbrev rm_X3_worthNow : Room := { frames := 5, cells := 0, slots := 0, locals := 115 }
theorem k_X3_worthNow : KYV yX3_worthNow cX3_worthNow 3 (some .int) 2 := ⟨⟨q_1071, q_4, by decide +kernel, by decide +kernel, by decide +kernel⟩, q_1069, q_1070⟩
set_option maxHeartbeats 4000000 in
set_option maxRecDepth 100000 in
theorem c_X3_worthNow (n : Nat) (M0 : MemT) (a0 : Nat) (a1 : Nat) (a2 : Int32) : Ct iI yX3_worthNow cX3_worthNow 3 (some .int) rm_X3_worthNow [.ref a0, .ref a1, .int a2] M0 (g_X3_worthNow n M0 a0 a1 a2) := by
  unfold g_X3_worthNow
  refine ct_intro RX3 0 [some (.ref a0), some (.ref a1), some (.int a2)] rfl (by decide +kernel) rfl (Nat.le_of_ble_eq_true rfl) (fun X A hX hnm hR => ?_)
  refine s_aload_n hX dX3_worthNow_0 rfl ?_
  refine s_aload_n hX dX3_worthNow_1 rfl ?_
  refine s_iload_n hX dX3_worthNow_2 rfl ?_
  refine s_aload_n hX dX3_worthNow_3 rfl ?_
  refine s_aload_n hX dX3_worthNow_4 rfl ?_
  refine s_getI hX dX3_worthNow_5 q_210 rfl (fun v1 => ?_)
  refine s_aload_n hX dX3_worthNow_8 rfl ?_
  refine s_callVi (ck1 := 0) (sk1 := 0) (ci := 2) hX dX3_worthNow_9 k_X3_thisYear q_865 (c_X3_thisYear n M0 a0) (by decide) rfl rfl rfl ⟨Nat.le_of_ble_eq_true rfl, Nat.le_of_ble_eq_true rfl⟩ ⟨(Nat.le_of_ble_eq_true rfl), (Nat.le_of_ble_eq_true rfl)⟩ (Nat.le_of_ble_eq_true rfl) rfl rfl (fun r2 M3 => ?_)
  refine s_callVi (ck1 := 0) (sk1 := 0) (ci := 2) hX dX3_worthNow_12 k_X3_annualFraction q_965 (c_X3_annualFraction n M3 a0 v1 r2) (by decide) rfl rfl rfl ⟨Nat.le_of_ble_eq_true rfl, Nat.le_of_ble_eq_true rfl⟩ ⟨(Nat.le_of_ble_eq_true rfl), (Nat.le_of_ble_eq_true rfl)⟩ (Nat.le_of_ble_eq_true rfl) rfl rfl (fun r4 M5 => ?_)
  refine s_callVi (ck1 := 0) (sk1 := 0) (ci := 2) hX dX3_worthNow_15 k_X3_worthBy q_885 (c_X3_worthBy n M5 a0 a1 a2 r4) (by decide) rfl rfl rfl ⟨Nat.le_of_ble_eq_true rfl, Nat.le_of_ble_eq_true rfl⟩ ⟨(Nat.le_of_ble_eq_true rfl), (Nat.le_of_ble_eq_true rfl)⟩ (Nat.le_of_ble_eq_true rfl) rfl rfl (fun r6 M7 => ?_)
  exact s_iret hX hR dX3_worthNow_18 (Nat.le_of_ble_eq_true rfl) (Nat.le_of_ble_eq_true rfl)
abbrev rm_X3_baseNow : Room := { frames := 6, cells := 0, slots := 0, locals := 137 }
theorem k_X3_baseNow : KYV yX3_baseNow cX3_baseNow 2 (some .int) 1 := ⟨⟨q_1067, q_4, by decide +kernel, by decide +kernel, by decide +kernel⟩, q_1065, q_1066⟩
set_option maxHeartbeats 4000000 in
set_option maxRecDepth 100000 in
theorem c_X3_baseNow (n : Nat) (M0 : MemT) (a0 : Nat) (a1 : Nat) : Ct iI yX3_baseNow cX3_baseNow 2 (some .int) rm_X3_baseNow [.ref a0, .ref a1] M0 (g_X3_baseNow n M0 a0 a1) := by
  unfold g_X3_baseNow
  refine ct_intro RX3 0 [some (.ref a0), some (.ref a1)] rfl (by decide +kernel) rfl (Nat.le_of_ble_eq_true rfl) (fun X A hX hnm hR => ?_)
  refine s_aload_n hX dX3_baseNow_0 rfl ?_
  refine s_getI hX dX3_baseNow_1 q_253 rfl (fun v1 => ?_)
  refine s_ifle (tgt := 14) hX dX3_baseNow_4 rfl ?_ ?_
  · refine s_aload_n hX dX3_baseNow_14 rfl ?_
    refine s_aload_n hX dX3_baseNow_15 rfl ?_
    refine s_aload_n hX dX3_baseNow_16 rfl ?_
    refine s_getI hX dX3_baseNow_17 q_217 rfl (fun v3 => ?_)
    refine s_callVi (ck1 := 0) (sk1 := 0) (ci := 2) hX dX3_baseNow_20 k_X3_worthNow q_1068 (c_X3_worthNow n M0 a0 a1 v3) (by decide) rfl rfl rfl ⟨Nat.le_of_ble_eq_true rfl, Nat.le_of_ble_eq_true rfl⟩ ⟨(Nat.le_of_ble_eq_true rfl), (Nat.le_of_ble_eq_true rfl)⟩ (Nat.le_of_ble_eq_true rfl) rfl rfl (fun r4 M5 => ?_)
    exact s_iret hX hR dX3_baseNow_23 (Nat.le_of_ble_eq_true rfl) (Nat.le_of_ble_eq_true rfl)
  · refine s_aload_n hX dX3_baseNow_7 rfl ?_
    refine s_getI hX dX3_baseNow_8 q_238 rfl (fun v2 => ?_)
    refine s_goto (tgt := 23) hX dX3_baseNow_11 rfl ?_
    exact s_iret hX hR dX3_baseNow_23 (Nat.le_of_ble_eq_true rfl) (Nat.le_of_ble_eq_true rfl)
abbrev rm_X4_init : Room := { frames := 1, cells := 1, slots := 20, locals := 20 }
theorem k_X4_init : KYI yX4_init cX4_init 1 0 := ⟨⟨q_405, q_8, by decide +kernel, by decide +kernel, by decide +kernel⟩, rfl, q_404⟩
set_option maxHeartbeats 4000000 in
set_option maxRecDepth 100000 in
theorem c_X4_init (n : Nat) (M0 : MemT) (a0 : Nat) : Ct iU yX4_init cX4_init 1 none rm_X4_init [.ref a0] M0 (g_X4_init n M0 a0) := by
  unfold g_X4_init
  refine ct_intro RX4 0 [some (.ref a0)] rfl (by decide +kernel) rfl (Nat.le_of_ble_eq_true rfl) (fun X A hX hnm hR => ?_)
  refine s_aload_n hX dX4_init_0 rfl ?_
  refine s_objInit hX dX4_init_1 q_406 q_31 q_32 (Nat.le_of_ble_eq_true rfl) (Nat.le_of_ble_eq_true rfl) ?_
  refine s_aload_n hX dX4_init_4 rfl ?_
  refine s_bipush (v := 20) hX dX4_init_5 kb_20 ?_
  refine s_newa15 (N := 20) (ck1 := 1) (sk1 := 20) hX dX4_init_7 q_407 (by decide) (by decide) (by decide) (Nat.le_of_ble_eq_true rfl) (Nat.le_of_ble_eq_true rfl) rfl rfl (fun j1 M2 => ?_)
  refine s_putOF hX dX4_init_10 q_412 rfl rfl hnm rfl (fun M3 => ?_)
  exact s_vret hX hR dX4_init_13 (Nat.le_of_ble_eq_true rfl) (Nat.le_of_ble_eq_true rfl)
abbrev rm_X4_clear : Room := { frames := 0, cells := 0, slots := 0, locals := 0 }
theorem k_X4_clear : KYV yX4_clear cX4_clear 1 none 0 := ⟨⟨q_697, q_8, by decide +kernel, by decide +kernel, by decide +kernel⟩, q_695, q_696⟩
set_option maxHeartbeats 4000000 in
set_option maxRecDepth 100000 in
theorem c_X4_clear (n : Nat) (M0 : MemT) (a0 : Nat) : Ct iU yX4_clear cX4_clear 1 none rm_X4_clear [.ref a0] M0 (g_X4_clear n M0 a0) := by
  unfold g_X4_clear
  refine ct_intro RX4 0 [some (.ref a0)] rfl (by decide +kernel) rfl (Nat.le_of_ble_eq_true rfl) (fun X A hX hnm hR => ?_)
  refine s_aload_n hX dX4_clear_0 rfl ?_
  refine s_iconst (v := 0) hX dX4_clear_1 kc_0 ?_
  refine s_putI hX dX4_clear_2 q_409 rfl rfl (fun M1 => ?_)
  exact s_vret hX hR dX4_clear_5 (Nat.le_of_ble_eq_true rfl) (Nat.le_of_ble_eq_true rfl)
abbrev rm_X4_add : Room := { frames := 4, cells := 55, slots := 2577, locals := 104 }
theorem k_X4_add : KYV yX4_add cX4_add 3 none 1 := ⟨⟨q_728, q_8, by decide +kernel, by decide +kernel, by decide +kernel⟩, q_726, q_727⟩
set_option maxHeartbeats 4000000 in
set_option maxRecDepth 100000 in
theorem c_X4_add (n : Nat) (M0 : MemT) (a0 : Nat) (a1 : Nat) : Ct iU yX4_add cX4_add 3 none rm_X4_add [.ref a0, .ref a1] M0 (g_X4_add n M0 a0 a1) := by
  unfold g_X4_add
  refine ct_intro RX4 1 [some (.ref a0), some (.ref a1), none] rfl (by decide +kernel) rfl (Nat.le_of_ble_eq_true rfl) (fun X A hX hnm hR => ?_)
  refine s_aload_n hX dX4_add_0 rfl ?_
  refine s_getI hX dX4_add_1 q_411 rfl (fun v1 => ?_)
  refine s_aload_n hX dX4_add_4 rfl ?_
  refine s_getI hX dX4_add_5 q_409 rfl (fun v2 => ?_)
  refine s_iadd hX dX4_add_8 ?_
  refine s_bipush (v := 20) hX dX4_add_9 kb_20 ?_
  refine s_irem hX dX4_add_11 ?_
  refine s_istore2 hX dX4_add_12 (by first | exact trivial | exact rfl) (Nat.le_of_ble_eq_true rfl) ?_
  refine s_aload_n hX dX4_add_13 rfl ?_
  refine s_getO hX dX4_add_14 q_412 rfl (fun j3 => ?_)
  refine s_iload_n hX dX4_add_17 rfl ?_
  refine s_aaldV15 hX dX4_add_18 (fun j4 => ?_)
  refine s_jp (fun (s : MemT) => [some (.ref a0), some (.ref a1), some (.int ((v1 + v2) - (v1 + v2) / 20 * 20))]) (fun (s : MemT) => []) (fun (s : MemT) => s) 55 2577 35 (fun s => ?_) (fun K5 hK5 => ?_)
  · revert s
    intro M6
    try dsimp only
    refine s_aload_n hX dX4_add_35 rfl ?_
    refine s_getO hX dX4_add_36 q_412 rfl (fun j7 => ?_)
    refine s_iload_n hX dX4_add_39 rfl ?_
    refine s_aald15 hX dX4_add_40 (fun j8 => ?_)
    refine s_aload_n hX dX4_add_41 rfl ?_
    refine s_callVu (ck1 := 55) (sk1 := 2577) (ci := 1) hX dX4_add_42 k_X2_copyFrom q_730 (c_X2_copyFrom n M6 j8 a1) (by decide) rfl rfl rfl ⟨Nat.le_of_ble_eq_true rfl, Nat.le_of_ble_eq_true rfl⟩ ⟨(Nat.le_of_ble_eq_true rfl), (Nat.le_of_ble_eq_true rfl)⟩ (Nat.le_of_ble_eq_true rfl) rfl rfl (fun r9 M10 => ?_)
    refine s_aload_n hX dX4_add_45 rfl ?_
    refine s_getI hX dX4_add_46 q_409 rfl (fun v11 => ?_)
    refine s_bipush (v := 20) hX dX4_add_49 kb_20 ?_
    refine s_icge (tgt := 67) hX dX4_add_51 rfl ?_ ?_
    · refine s_aload_n hX dX4_add_67 rfl ?_
      refine s_aload_n hX dX4_add_68 rfl ?_
      refine s_getI hX dX4_add_69 q_411 rfl (fun v14 => ?_)
      refine s_iconst (v := 1) hX dX4_add_72 kc_1 ?_
      refine s_iadd hX dX4_add_73 ?_
      refine s_bipush (v := 20) hX dX4_add_74 kb_20 ?_
      refine s_irem hX dX4_add_76 ?_
      refine s_putI hX dX4_add_77 q_411 rfl rfl (fun M15 => ?_)
      exact s_vret hX hR dX4_add_80 (Nat.le_of_ble_eq_true rfl) (Nat.le_of_ble_eq_true rfl)
    · refine s_aload_n hX dX4_add_54 rfl ?_
      refine s_dup hX dX4_add_55 rfl ?_
      refine s_getI hX dX4_add_56 q_409 rfl (fun v12 => ?_)
      refine s_iconst (v := 1) hX dX4_add_59 kc_1 ?_
      refine s_iadd hX dX4_add_60 ?_
      refine s_putI hX dX4_add_61 q_409 rfl rfl (fun M13 => ?_)
      refine s_goto (tgt := 80) hX dX4_add_64 rfl ?_
      exact s_vret hX hR dX4_add_80 (Nat.le_of_ble_eq_true rfl) (Nat.le_of_ble_eq_true rfl)
  · refine s_ifnonnull (tgt := 35) hX dX4_add_19 rfl (fun e23 => ?_) (fun j22 e23 => ?_)
    · refine s_aload_n hX dX4_add_22 rfl ?_
      refine s_getO hX dX4_add_23 q_412 rfl (fun j16 => ?_)
      refine s_iload_n hX dX4_add_26 rfl ?_
      refine s_new (ck1 := 1) (sk1 := 12) hX dX4_add_27 (by decide) q_407 q_196 q_5 (Nat.le_of_ble_eq_true rfl) (Nat.le_of_ble_eq_true rfl) rfl rfl (fun j17 M18 => ?_)
      refine s_dup hX dX4_add_30 rfl ?_
      refine s_callIu (ck1 := 55) (sk1 := 2577) hX dX4_add_31 k_X2_init q_729 (c_X2_init n M18 j17) rfl rfl ⟨Nat.le_of_ble_eq_true rfl, Nat.le_of_ble_eq_true rfl⟩ ⟨(Nat.le_of_ble_eq_true rfl), (Nat.le_of_ble_eq_true rfl)⟩ (Nat.le_of_ble_eq_true rfl) rfl rfl (fun r19 M20 => ?_)
      refine s_aast15 hX dX4_add_34 (fun M21 => ?_)
      exact hK5 _
    · refine s_widen (ck1 := 55) (sk1 := 2577) (Nat.le_of_ble_eq_true rfl) (Nat.le_of_ble_eq_true rfl) ?_
      exact hK5 _
abbrev rm_X4_bringBack : Room := { frames := 4, cells := 0, slots := 0, locals := 104 }
theorem k_X4_bringBack : KYV yX4_bringBack cX4_bringBack 3 (some .boolean) 1 := ⟨⟨q_1141, q_8, by decide +kernel, by decide +kernel, by decide +kernel⟩, q_1139, q_1140⟩
set_option maxHeartbeats 4000000 in
set_option maxRecDepth 100000 in
theorem c_X4_bringBack (n : Nat) (M0 : MemT) (a0 : Nat) (a1 : Nat) : Ct iI yX4_bringBack cX4_bringBack 3 (some .boolean) rm_X4_bringBack [.ref a0, .ref a1] M0 (g_X4_bringBack n M0 a0 a1) := by
  unfold g_X4_bringBack
  refine ct_intro RX4 1 [some (.ref a0), some (.ref a1), none] rfl (by decide +kernel) rfl (Nat.le_of_ble_eq_true rfl) (fun X A hX hnm hR => ?_)
  refine s_aload_n hX dX4_bringBack_0 rfl ?_
  refine s_getI hX dX4_bringBack_1 q_409 rfl (fun v1 => ?_)
  refine s_ifne (tgt := 9) hX dX4_bringBack_4 rfl ?_ ?_
  · refine s_iconst (v := 0) hX dX4_bringBack_7 kc_0 ?_
    exact s_zret hX hR dX4_bringBack_8 (Nat.le_of_ble_eq_true rfl) (Nat.le_of_ble_eq_true rfl)
  · refine s_aload_n hX dX4_bringBack_9 rfl ?_
    refine s_getI hX dX4_bringBack_10 q_411 rfl (fun v2 => ?_)
    refine s_aload_n hX dX4_bringBack_13 rfl ?_
    refine s_getI hX dX4_bringBack_14 q_409 rfl (fun v3 => ?_)
    refine s_iadd hX dX4_bringBack_17 ?_
    refine s_iconst (v := 1) hX dX4_bringBack_18 kc_1 ?_
    refine s_isub hX dX4_bringBack_19 ?_
    refine s_bipush (v := 20) hX dX4_bringBack_20 kb_20 ?_
    refine s_irem hX dX4_bringBack_22 ?_
    refine s_istore2 hX dX4_bringBack_23 (by first | exact trivial | exact rfl) (Nat.le_of_ble_eq_true rfl) ?_
    refine s_aload_n hX dX4_bringBack_24 rfl ?_
    refine s_getO hX dX4_bringBack_25 q_412 rfl (fun j4 => ?_)
    refine s_iload_n hX dX4_bringBack_28 rfl ?_
    refine s_aaldV15 hX dX4_bringBack_29 (fun j5 => ?_)
    refine s_ifnonnull (tgt := 35) hX dX4_bringBack_30 rfl (fun e13 => ?_) (fun j6 e13 => ?_)
    · refine s_iconst (v := 0) hX dX4_bringBack_33 kc_0 ?_
      exact s_zret hX hR dX4_bringBack_34 (Nat.le_of_ble_eq_true rfl) (Nat.le_of_ble_eq_true rfl)
    · refine s_aload_n hX dX4_bringBack_35 rfl ?_
      refine s_aload_n hX dX4_bringBack_36 rfl ?_
      refine s_getO hX dX4_bringBack_37 q_412 rfl (fun j7 => ?_)
      refine s_iload_n hX dX4_bringBack_40 rfl ?_
      refine s_aald15 hX dX4_bringBack_41 (fun j8 => ?_)
      refine s_callVu (ck1 := 0) (sk1 := 0) (ci := 1) hX dX4_bringBack_42 k_X2_copyFrom q_730 (c_X2_copyFrom n M0 a1 j8) (by decide) rfl rfl rfl ⟨Nat.le_of_ble_eq_true rfl, Nat.le_of_ble_eq_true rfl⟩ ⟨(Nat.le_of_ble_eq_true rfl), (Nat.le_of_ble_eq_true rfl)⟩ (Nat.le_of_ble_eq_true rfl) rfl rfl (fun r9 M10 => ?_)
      refine s_aload_n hX dX4_bringBack_45 rfl ?_
      refine s_dup hX dX4_bringBack_46 rfl ?_
      refine s_getI hX dX4_bringBack_47 q_409 rfl (fun v11 => ?_)
      refine s_iconst (v := 1) hX dX4_bringBack_50 kc_1 ?_
      refine s_isub hX dX4_bringBack_51 ?_
      refine s_putI hX dX4_bringBack_52 q_409 rfl rfl (fun M12 => ?_)
      refine s_iconst (v := 1) hX dX4_bringBack_55 kc_1 ?_
      exact s_zret hX hR dX4_bringBack_56 (Nat.le_of_ble_eq_true rfl) (Nat.le_of_ble_eq_true rfl)
abbrev rm_X5_init : Room := { frames := 1, cells := 1, slots := 4, locals := 20 }
theorem k_X5_init : KYI yX5_init cX5_init 1 0 := ⟨⟨q_37, q_2, by decide +kernel, by decide +kernel, by decide +kernel⟩, rfl, q_36⟩
set_option maxHeartbeats 4000000 in
set_option maxRecDepth 100000 in
theorem c_X5_init (n : Nat) (M0 : MemT) (a0 : Nat) : Ct iU yX5_init cX5_init 1 none rm_X5_init [.ref a0] M0 (g_X5_init n M0 a0) := by
  unfold g_X5_init
  refine ct_intro RX5 0 [some (.ref a0)] rfl (by decide +kernel) rfl (Nat.le_of_ble_eq_true rfl) (fun X A hX hnm hR => ?_)
  refine s_aload_n hX dX5_init_0 rfl ?_
  refine s_objInit hX dX5_init_1 q_38 q_31 q_32 (Nat.le_of_ble_eq_true rfl) (Nat.le_of_ble_eq_true rfl) ?_
  refine s_aload_n hX dX5_init_4 rfl ?_
  refine s_iconst (v := (-1)) hX dX5_init_5 kc_m1 ?_
  refine s_putI hX dX5_init_6 q_41 rfl rfl (fun M1 => ?_)
  refine s_aload_n hX dX5_init_9 rfl ?_
  refine s_iconst (v := 4) hX dX5_init_10 kc_4 ?_
  refine s_newaZ (N := 4) (ck1 := 1) (sk1 := 4) hX dX5_init_11 q_94 (by decide) (by decide) (by decide) (Nat.le_of_ble_eq_true rfl) (Nat.le_of_ble_eq_true rfl) rfl rfl (fun j2 M3 => ?_)
  refine s_putOF hX dX5_init_13 q_53 rfl rfl hnm rfl (fun M4 => ?_)
  exact s_vret hX hR dX5_init_16 (Nat.le_of_ble_eq_true rfl) (Nat.le_of_ble_eq_true rfl)
abbrev rm_X7_clear : Room := { frames := 0, cells := 0, slots := 0, locals := 0 }
theorem k_X7_clear : KYV yX7_clear cX7_clear 1 none 0 := ⟨⟨q_474, q_3, by decide +kernel, by decide +kernel, by decide +kernel⟩, q_472, q_473⟩
set_option maxHeartbeats 4000000 in
set_option maxRecDepth 100000 in
theorem c_X7_clear (n : Nat) (M0 : MemT) (a0 : Nat) : Ct iU yX7_clear cX7_clear 1 none rm_X7_clear [.ref a0] M0 (g_X7_clear n M0 a0) := by
  unfold g_X7_clear
  refine ct_intro RX7 0 [some (.ref a0)] rfl (by decide +kernel) rfl (Nat.le_of_ble_eq_true rfl) (fun X A hX hnm hR => ?_)
  refine s_aload_n hX dX7_clear_0 rfl ?_
  refine s_iconst (v := 0) hX dX7_clear_1 kc_0 ?_
  refine s_putI hX dX7_clear_2 q_101 rfl rfl (fun M1 => ?_)
  refine s_aload_n hX dX7_clear_5 rfl ?_
  refine s_iconst (v := 0) hX dX7_clear_6 kc_0 ?_
  refine s_putI hX dX7_clear_7 q_122 rfl rfl (fun M2 => ?_)
  refine s_aload_n hX dX7_clear_10 rfl ?_
  refine s_bipush (v := 100) hX dX7_clear_11 kb_100 ?_
  refine s_putI hX dX7_clear_13 q_126 rfl rfl (fun M3 => ?_)
  refine s_aload_n hX dX7_clear_16 rfl ?_
  refine s_iconst (v := 0) hX dX7_clear_17 kc_0 ?_
  refine s_putI hX dX7_clear_18 q_130 rfl rfl (fun M4 => ?_)
  refine s_aload_n hX dX7_clear_21 rfl ?_
  refine s_iconst (v := 0) hX dX7_clear_22 kc_0 ?_
  refine s_putI hX dX7_clear_23 q_134 rfl rfl (fun M5 => ?_)
  refine s_aload_n hX dX7_clear_26 rfl ?_
  refine s_iconst (v := 0) hX dX7_clear_27 kc_0 ?_
  refine s_putI hX dX7_clear_28 q_137 rfl rfl (fun M6 => ?_)
  refine s_aload_n hX dX7_clear_31 rfl ?_
  refine s_iconst (v := 0) hX dX7_clear_32 kc_0 ?_
  refine s_putI hX dX7_clear_33 q_141 rfl rfl (fun M7 => ?_)
  refine s_aload_n hX dX7_clear_36 rfl ?_
  refine s_iconst (v := 0) hX dX7_clear_37 kc_0 ?_
  refine s_putI hX dX7_clear_38 q_147 rfl rfl (fun M8 => ?_)
  exact s_vret hX hR dX7_clear_41 (Nat.le_of_ble_eq_true rfl) (Nat.le_of_ble_eq_true rfl)
abbrev rm_X5_begin : Room := { frames := 1, cells := 0, slots := 0, locals := 21 }
theorem k_X5_begin : KYV yX5_begin cX5_begin 4 none 3 := ⟨⟨q_467, q_2, by decide +kernel, by decide +kernel, by decide +kernel⟩, q_466, p_1⟩
set_option maxHeartbeats 4000000 in
set_option maxRecDepth 100000 in
theorem c_X5_begin (n : Nat) (M0 : MemT) (a0 : Nat) (a1 : Nat) (a2 : Int32) (a3 : Nat) : Ct iU yX5_begin cX5_begin 4 none rm_X5_begin [.ref a0, .ref a1, .int a2, .ref a3] M0 (g_X5_begin n M0 a0 a1 a2 a3) := by
  unfold g_X5_begin
  refine ct_intro RX5 0 [some (.ref a0), some (.ref a1), some (.int a2), some (.ref a3)] rfl (by decide +kernel) rfl (Nat.le_of_ble_eq_true rfl) (fun X A hX hnm hR => ?_)
  refine s_aload_n hX dX5_begin_0 rfl ?_
  refine s_aload_n hX dX5_begin_1 rfl ?_
  refine s_putO hX dX5_begin_2 q_43 rfl rfl (fun M1 => ?_)
  refine s_aload_n hX dX5_begin_5 rfl ?_
  refine s_iload_n hX dX5_begin_6 rfl ?_
  refine s_aload_n hX dX5_begin_7 rfl ?_
  refine s_alen hX dX5_begin_8 (fun v2 => ?_)
  refine s_mmin hX dX5_begin_9 q_468 q_469 q_10 q_470 (Nat.le_of_ble_eq_true rfl) (Nat.le_of_ble_eq_true rfl) (Nat.le_of_ble_eq_true rfl) (Nat.le_of_ble_eq_true rfl) ?_
  refine s_putI hX dX5_begin_12 q_44 rfl rfl (fun M3 => ?_)
  refine s_aload_n hX dX5_begin_15 rfl ?_
  refine s_aload_n hX dX5_begin_16 rfl ?_
  refine s_putO hX dX5_begin_17 q_45 rfl rfl (fun M4 => ?_)
  refine s_aload_n hX dX5_begin_20 rfl ?_
  refine s_getO hX dX5_begin_21 q_45 rfl (fun j5 => ?_)
  refine s_callVu (ck1 := 0) (sk1 := 0) (ci := 6) hX dX5_begin_24 k_X7_clear q_471 (c_X7_clear n M4 j5) (by decide) rfl rfl rfl ⟨Nat.le_of_ble_eq_true rfl, Nat.le_of_ble_eq_true rfl⟩ ⟨(Nat.le_of_ble_eq_true rfl), (Nat.le_of_ble_eq_true rfl)⟩ (Nat.le_of_ble_eq_true rfl) rfl rfl (fun r6 M7 => ?_)
  refine s_aload_n hX dX5_begin_27 rfl ?_
  refine s_iconst (v := 0) hX dX5_begin_28 kc_0 ?_
  refine s_putI hX dX5_begin_29 q_48 rfl rfl (fun M8 => ?_)
  refine s_aload_n hX dX5_begin_32 rfl ?_
  refine s_iconst (v := 0) hX dX5_begin_33 kc_0 ?_
  refine s_putI hX dX5_begin_34 q_39 rfl rfl (fun M9 => ?_)
  refine s_aload_n hX dX5_begin_37 rfl ?_
  refine s_iconst (v := (-1)) hX dX5_begin_38 kc_m1 ?_
  refine s_putI hX dX5_begin_39 q_41 rfl rfl (fun M10 => ?_)
  refine s_aload_n hX dX5_begin_42 rfl ?_
  refine s_iconst (v := 0) hX dX5_begin_43 kc_0 ?_
  refine s_putZ hX dX5_begin_44 q_54 rfl rfl (fun M11 => ?_)
  refine s_aload_n hX dX5_begin_47 rfl ?_
  refine s_iconst (v := 0) hX dX5_begin_48 kc_0 ?_
  refine s_putZ hX dX5_begin_49 q_55 rfl rfl (fun M12 => ?_)
  refine s_aload_n hX dX5_begin_52 rfl ?_
  refine s_iconst (v := 0) hX dX5_begin_53 kc_0 ?_
  refine s_putZ hX dX5_begin_54 q_56 rfl rfl (fun M13 => ?_)
  refine s_aload_n hX dX5_begin_57 rfl ?_
  refine s_iconst (v := 0) hX dX5_begin_58 kc_0 ?_
  refine s_putZ hX dX5_begin_59 q_57 rfl rfl (fun M14 => ?_)
  exact s_vret hX hR dX5_begin_62 (Nat.le_of_ble_eq_true rfl) (Nat.le_of_ble_eq_true rfl)
abbrev rm_X5_fail : Room := { frames := 0, cells := 0, slots := 0, locals := 0 }
theorem k_X5_fail : KYV yX5_fail cX5_fail 3 (some .boolean) 2 := ⟨⟨q_549, q_2, by decide +kernel, by decide +kernel, by decide +kernel⟩, q_548, p_4⟩
set_option maxHeartbeats 4000000 in
set_option maxRecDepth 100000 in
theorem c_X5_fail (n : Nat) (M0 : MemT) (a0 : Nat) (a1 : Int32) (a2 : Int32) : Ct iI yX5_fail cX5_fail 3 (some .boolean) rm_X5_fail [.ref a0, .int a1, .int a2] M0 (g_X5_fail n M0 a0 a1 a2) := by
  unfold g_X5_fail
  refine ct_intro RX5 0 [some (.ref a0), some (.int a1), some (.int a2)] rfl (by decide +kernel) rfl (Nat.le_of_ble_eq_true rfl) (fun X A hX hnm hR => ?_)
  refine s_aload_n hX dX5_fail_0 rfl ?_
  refine s_iload_n hX dX5_fail_1 rfl ?_
  refine s_putI hX dX5_fail_2 q_39 rfl rfl (fun M1 => ?_)
  refine s_aload_n hX dX5_fail_5 rfl ?_
  refine s_iload_n hX dX5_fail_6 rfl ?_
  refine s_putI hX dX5_fail_7 q_41 rfl rfl (fun M2 => ?_)
  refine s_iconst (v := 0) hX dX5_fail_10 kc_0 ?_
  exact s_zret hX hR dX5_fail_11 (Nat.le_of_ble_eq_true rfl) (Nat.le_of_ble_eq_true rfl)
abbrev rm_X5_isBlank : Room := { frames := 0, cells := 0, slots := 0, locals := 0 }
theorem k_X5_isBlank : KYS yX5_isBlank cX5_isBlank 1 (some .boolean) 1 := ⟨⟨q_481, q_2, by decide +kernel, by decide +kernel, by decide +kernel⟩, q_480⟩
set_option maxHeartbeats 4000000 in
set_option maxRecDepth 100000 in
theorem c_X5_isBlank (n : Nat) (M0 : MemT) (a0 : Int32) : Ct iI yX5_isBlank cX5_isBlank 1 (some .boolean) rm_X5_isBlank [.int a0] M0 (g_X5_isBlank n M0 a0) := by
  unfold g_X5_isBlank
  refine ct_intro RX5 0 [some (.int a0)] rfl (by decide +kernel) rfl (Nat.le_of_ble_eq_true rfl) (fun X A hX hnm hR => ?_)
  refine s_iload_n hX dX5_isBlank_0 rfl ?_
  refine s_bipush (v := 10) hX dX5_isBlank_1 kb_10 ?_
  refine s_iceq (tgt := 12) hX dX5_isBlank_3 rfl ?_ ?_
  · refine s_iconst (v := 1) hX dX5_isBlank_12 kc_1 ?_
    refine s_goto (tgt := 17) hX dX5_isBlank_13 rfl ?_
    exact s_zret hX hR dX5_isBlank_17 (Nat.le_of_ble_eq_true rfl) (Nat.le_of_ble_eq_true rfl)
  · refine s_iload_n hX dX5_isBlank_6 rfl ?_
    refine s_bipush (v := 32) hX dX5_isBlank_7 kb_32 ?_
    refine s_icne (tgt := 16) hX dX5_isBlank_9 rfl ?_ ?_
    · refine s_iconst (v := 1) hX dX5_isBlank_12 kc_1 ?_
      refine s_goto (tgt := 17) hX dX5_isBlank_13 rfl ?_
      exact s_zret hX hR dX5_isBlank_17 (Nat.le_of_ble_eq_true rfl) (Nat.le_of_ble_eq_true rfl)
    · refine s_iconst (v := 0) hX dX5_isBlank_16 kc_0 ?_
      exact s_zret hX hR dX5_isBlank_17 (Nat.le_of_ble_eq_true rfl) (Nat.le_of_ble_eq_true rfl)
abbrev rm_X5_isDigit : Room := { frames := 0, cells := 0, slots := 0, locals := 0 }
theorem k_X5_isDigit : KYS yX5_isDigit cX5_isDigit 1 (some .boolean) 1 := ⟨⟨q_487, q_2, by decide +kernel, by decide +kernel, by decide +kernel⟩, q_486⟩
set_option maxHeartbeats 4000000 in
set_option maxRecDepth 100000 in
theorem c_X5_isDigit (n : Nat) (M0 : MemT) (a0 : Int32) : Ct iI yX5_isDigit cX5_isDigit 1 (some .boolean) rm_X5_isDigit [.int a0] M0 (g_X5_isDigit n M0 a0) := by
  unfold g_X5_isDigit
  refine ct_intro RX5 0 [some (.int a0)] rfl (by decide +kernel) rfl (Nat.le_of_ble_eq_true rfl) (fun X A hX hnm hR => ?_)
  refine s_iload_n hX dX5_isDigit_0 rfl ?_
  refine s_bipush (v := 48) hX dX5_isDigit_1 kb_48 ?_
  refine s_iclt (tgt := 16) hX dX5_isDigit_3 rfl ?_ ?_
  · refine s_iconst (v := 0) hX dX5_isDigit_16 kc_0 ?_
    exact s_zret hX hR dX5_isDigit_17 (Nat.le_of_ble_eq_true rfl) (Nat.le_of_ble_eq_true rfl)
  · refine s_iload_n hX dX5_isDigit_6 rfl ?_
    refine s_bipush (v := 57) hX dX5_isDigit_7 kb_57 ?_
    refine s_icgt (tgt := 16) hX dX5_isDigit_9 rfl ?_ ?_
    · refine s_iconst (v := 0) hX dX5_isDigit_16 kc_0 ?_
      exact s_zret hX hR dX5_isDigit_17 (Nat.le_of_ble_eq_true rfl) (Nat.le_of_ble_eq_true rfl)
    · refine s_iconst (v := 1) hX dX5_isDigit_12 kc_1 ?_
      refine s_goto (tgt := 17) hX dX5_isDigit_13 rfl ?_
      exact s_zret hX hR dX5_isDigit_17 (Nat.le_of_ble_eq_true rfl) (Nat.le_of_ble_eq_true rfl)
abbrev rm_X5_isLetter : Room := { frames := 0, cells := 0, slots := 0, locals := 0 }
theorem k_X5_isLetter : KYS yX5_isLetter cX5_isLetter 1 (some .boolean) 1 := ⟨⟨q_484, q_2, by decide +kernel, by decide +kernel, by decide +kernel⟩, q_483⟩
set_option maxHeartbeats 4000000 in
set_option maxRecDepth 100000 in
theorem c_X5_isLetter (n : Nat) (M0 : MemT) (a0 : Int32) : Ct iI yX5_isLetter cX5_isLetter 1 (some .boolean) rm_X5_isLetter [.int a0] M0 (g_X5_isLetter n M0 a0) := by
  unfold g_X5_isLetter
  refine ct_intro RX5 0 [some (.int a0)] rfl (by decide +kernel) rfl (Nat.le_of_ble_eq_true rfl) (fun X A hX hnm hR => ?_)
  refine s_iload_n hX dX5_isLetter_0 rfl ?_
  refine s_bipush (v := 97) hX dX5_isLetter_1 kb_97 ?_
  refine s_iclt (tgt := 16) hX dX5_isLetter_3 rfl ?_ ?_
  · refine s_iconst (v := 0) hX dX5_isLetter_16 kc_0 ?_
    exact s_zret hX hR dX5_isLetter_17 (Nat.le_of_ble_eq_true rfl) (Nat.le_of_ble_eq_true rfl)
  · refine s_iload_n hX dX5_isLetter_6 rfl ?_
    refine s_bipush (v := 122) hX dX5_isLetter_7 kb_122 ?_
    refine s_icgt (tgt := 16) hX dX5_isLetter_9 rfl ?_ ?_
    · refine s_iconst (v := 0) hX dX5_isLetter_16 kc_0 ?_
      exact s_zret hX hR dX5_isLetter_17 (Nat.le_of_ble_eq_true rfl) (Nat.le_of_ble_eq_true rfl)
    · refine s_iconst (v := 1) hX dX5_isLetter_12 kc_1 ?_
      refine s_goto (tgt := 17) hX dX5_isLetter_13 rfl ?_
      exact s_zret hX hR dX5_isLetter_17 (Nat.le_of_ble_eq_true rfl) (Nat.le_of_ble_eq_true rfl)
abbrev rm_X5_takeToken : Room := { frames := 1, cells := 0, slots := 0, locals := 21 }
theorem k_X5_takeToken : KYV yX5_takeToken cX5_takeToken 2 none 0 := ⟨⟨q_478, q_2, by decide +kernel, by decide +kernel, by decide +kernel⟩, q_477, p_2⟩
set_option maxHeartbeats 4000000 in
set_option maxRecDepth 100000 in
theorem c_X5_takeToken (n : Nat) (M0 : MemT) (a0 : Nat) : Ct iU yX5_takeToken cX5_takeToken 2 none rm_X5_takeToken [.ref a0] M0 (g_X5_takeToken n M0 a0) := by
  unfold g_X5_takeToken
  refine ct_intro RX5 1 [some (.ref a0), none] rfl (by decide +kernel) rfl (Nat.le_of_ble_eq_true rfl) (fun X A hX hnm hR => ?_)
  refine s_aload_n hX dX5_takeToken_0 rfl ?_
  refine s_aload_n hX dX5_takeToken_1 rfl ?_
  refine s_getI hX dX5_takeToken_2 q_48 rfl (fun v1 => ?_)
  refine s_putI hX dX5_takeToken_5 q_47 rfl rfl (fun M2 => ?_)
  refine s_loopE (stk := []) (fun (s : MemT) => [some (.ref a0), none]) (fun (s : MemT) => s) 47 (fun (s : MemT) => [some (.ref a0), none]) (fun s B4 hB4 hE4 => ?_) (fun s => ?_) n M2
  · obtain ⟨M3, e4⟩ : ∃ z, z = s := ⟨_, rfl⟩
    subst e4
    try dsimp only
    refine s_aload_n hX dX5_takeToken_8 rfl ?_
    refine s_getI hX dX5_takeToken_9 q_47 rfl (fun v5 => ?_)
    refine s_aload_n hX dX5_takeToken_12 rfl ?_
    refine s_getI hX dX5_takeToken_13 q_44 rfl (fun v6 => ?_)
    refine s_icge (tgt := 47) hX dX5_takeToken_16 rfl ?_ ?_
    · exact s_exit hE4
    · refine s_aload_n hX dX5_takeToken_19 rfl ?_
      refine s_getO hX dX5_takeToken_20 q_43 rfl (fun j7 => ?_)
      refine s_aload_n hX dX5_takeToken_23 rfl ?_
      refine s_getI hX dX5_takeToken_24 q_47 rfl (fun v8 => ?_)
      refine s_bald hX dX5_takeToken_27 (fun v9 => ?_)
      refine s_callSi (ck1 := 0) (sk1 := 0) hX dX5_takeToken_28 k_X5_isBlank q_479 (c_X5_isBlank n M3 v9) rfl rfl ⟨Nat.le_of_ble_eq_true rfl, Nat.le_of_ble_eq_true rfl⟩ ⟨(Nat.le_of_ble_eq_true rfl), (Nat.le_of_ble_eq_true rfl)⟩ (Nat.le_of_ble_eq_true rfl) rfl rfl (fun r10 M11 => ?_)
      refine s_ifeq (tgt := 47) hX dX5_takeToken_31 rfl ?_ ?_
      · exact s_exit hE4
      · refine s_aload_n hX dX5_takeToken_34 rfl ?_
        refine s_dup hX dX5_takeToken_35 rfl ?_
        refine s_getI hX dX5_takeToken_36 q_47 rfl (fun v12 => ?_)
        refine s_iconst (v := 1) hX dX5_takeToken_39 kc_1 ?_
        refine s_iadd hX dX5_takeToken_40 ?_
        refine s_putI hX dX5_takeToken_41 q_47 rfl rfl (fun M13 => ?_)
        refine s_goto (tgt := 8) hX dX5_takeToken_44 rfl ?_
        exact s_back hB4
  · obtain ⟨M14, e4⟩ : ∃ z, z = s := ⟨_, rfl⟩
    subst e4
    try dsimp only
    refine s_aload_n hX dX5_takeToken_47 rfl ?_
    refine s_aload_n hX dX5_takeToken_48 rfl ?_
    refine s_getI hX dX5_takeToken_49 q_47 rfl (fun v15 => ?_)
    refine s_putI hX dX5_takeToken_52 q_48 rfl rfl (fun M16 => ?_)
    refine s_aload_n hX dX5_takeToken_55 rfl ?_
    refine s_iconst (v := 0) hX dX5_takeToken_56 kc_0 ?_
    refine s_putI hX dX5_takeToken_57 q_49 rfl rfl (fun M17 => ?_)
    refine s_aload_n hX dX5_takeToken_60 rfl ?_
    refine s_getI hX dX5_takeToken_61 q_47 rfl (fun v18 => ?_)
    refine s_aload_n hX dX5_takeToken_64 rfl ?_
    refine s_getI hX dX5_takeToken_65 q_44 rfl (fun v19 => ?_)
    refine s_iclt (tgt := 79) hX dX5_takeToken_68 rfl ?_ ?_
    · refine s_aload_n hX dX5_takeToken_79 rfl ?_
      refine s_getO hX dX5_takeToken_80 q_43 rfl (fun j21 => ?_)
      refine s_aload_n hX dX5_takeToken_83 rfl ?_
      refine s_getI hX dX5_takeToken_84 q_47 rfl (fun v22 => ?_)
      refine s_bald hX dX5_takeToken_87 (fun v23 => ?_)
      refine s_callSi (ck1 := 0) (sk1 := 0) hX dX5_takeToken_88 k_X5_isLetter q_482 (c_X5_isLetter n M17 v23) rfl rfl ⟨Nat.le_of_ble_eq_true rfl, Nat.le_of_ble_eq_true rfl⟩ ⟨(Nat.le_of_ble_eq_true rfl), (Nat.le_of_ble_eq_true rfl)⟩ (Nat.le_of_ble_eq_true rfl) rfl rfl (fun r24 M25 => ?_)
      refine s_ifeq (tgt := 180) hX dX5_takeToken_91 rfl ?_ ?_
      · refine s_aload_n hX dX5_takeToken_180 rfl ?_
        refine s_getO hX dX5_takeToken_181 q_43 rfl (fun j49 => ?_)
        refine s_aload_n hX dX5_takeToken_184 rfl ?_
        refine s_getI hX dX5_takeToken_185 q_47 rfl (fun v50 => ?_)
        refine s_bald hX dX5_takeToken_188 (fun v51 => ?_)
        refine s_callSi (ck1 := 0) (sk1 := 0) hX dX5_takeToken_189 k_X5_isDigit q_485 (c_X5_isDigit n M25 v51) rfl rfl ⟨Nat.le_of_ble_eq_true rfl, Nat.le_of_ble_eq_true rfl⟩ ⟨(Nat.le_of_ble_eq_true rfl), (Nat.le_of_ble_eq_true rfl)⟩ (Nat.le_of_ble_eq_true rfl) rfl rfl (fun r52 M53 => ?_)
        refine s_ifeq (tgt := 268) hX dX5_takeToken_192 rfl ?_ ?_
        · refine s_aload_n hX dX5_takeToken_268 rfl ?_
          refine s_aload_n hX dX5_takeToken_269 rfl ?_
          refine s_getO hX dX5_takeToken_270 q_43 rfl (fun j72 => ?_)
          refine s_aload_n hX dX5_takeToken_273 rfl ?_
          refine s_getI hX dX5_takeToken_274 q_47 rfl (fun v73 => ?_)
          refine s_bald hX dX5_takeToken_277 (fun v74 => ?_)
          refine s_bipush (v := 59) hX dX5_takeToken_278 kb_59 ?_
          refine s_jp (fun (s : MemT × Int32) => [some (.ref a0), none]) (fun (s : MemT × Int32) => [.int s.2, .ref a0]) (fun (s : MemT × Int32) => s.1) 0 0 288 (fun s => ?_) (fun K75 hK75 => ?_)
          · obtain ⟨M76, v77⟩ := s
            dsimp only
            refine s_putI hX dX5_takeToken_288 q_46 rfl rfl (fun M78 => ?_)
            refine s_aload_n hX dX5_takeToken_291 rfl ?_
            refine s_dup hX dX5_takeToken_292 rfl ?_
            refine s_getI hX dX5_takeToken_293 q_48 rfl (fun v79 => ?_)
            refine s_iconst (v := 1) hX dX5_takeToken_296 kc_1 ?_
            refine s_iadd hX dX5_takeToken_297 ?_
            refine s_putI hX dX5_takeToken_298 q_48 rfl rfl (fun M80 => ?_)
            exact s_vret hX hR dX5_takeToken_301 (Nat.le_of_ble_eq_true rfl) (Nat.le_of_ble_eq_true rfl)
          · refine s_icne (tgt := 287) hX dX5_takeToken_280 rfl ?_ ?_
            · refine s_iconst (v := 3) hX dX5_takeToken_283 kc_3 ?_
              refine s_goto (tgt := 288) hX dX5_takeToken_284 rfl ?_
              exact hK75 _
            · refine s_iconst (v := 4) hX dX5_takeToken_287 kc_4 ?_
              exact hK75 _
        · refine s_aload_n hX dX5_takeToken_195 rfl ?_
          refine s_iconst (v := 2) hX dX5_takeToken_196 kc_2 ?_
          refine s_putI hX dX5_takeToken_197 q_46 rfl rfl (fun M54 => ?_)
          refine s_loopE (stk := []) (fun (s : MemT) => [some (.ref a0), none]) (fun (s : MemT) => s) 301 (fun (s : MemT) => [some (.ref a0), none]) (fun s B56 hB56 hE56 => ?_) (fun s => ?_) n M54
          · obtain ⟨M55, e56⟩ : ∃ z, z = s := ⟨_, rfl⟩
            subst e56
            try dsimp only
            refine s_aload_n hX dX5_takeToken_200 rfl ?_
            refine s_getI hX dX5_takeToken_201 q_48 rfl (fun v57 => ?_)
            refine s_aload_n hX dX5_takeToken_204 rfl ?_
            refine s_getI hX dX5_takeToken_205 q_44 rfl (fun v58 => ?_)
            refine s_icge (tgt := 301) hX dX5_takeToken_208 rfl ?_ ?_
            · exact s_exit hE56
            · refine s_aload_n hX dX5_takeToken_211 rfl ?_
              refine s_getO hX dX5_takeToken_212 q_43 rfl (fun j59 => ?_)
              refine s_aload_n hX dX5_takeToken_215 rfl ?_
              refine s_getI hX dX5_takeToken_216 q_48 rfl (fun v60 => ?_)
              refine s_bald hX dX5_takeToken_219 (fun v61 => ?_)
              refine s_callSi (ck1 := 0) (sk1 := 0) hX dX5_takeToken_220 k_X5_isDigit q_485 (c_X5_isDigit n M55 v61) rfl rfl ⟨Nat.le_of_ble_eq_true rfl, Nat.le_of_ble_eq_true rfl⟩ ⟨(Nat.le_of_ble_eq_true rfl), (Nat.le_of_ble_eq_true rfl)⟩ (Nat.le_of_ble_eq_true rfl) rfl rfl (fun r62 M63 => ?_)
              refine s_ifeq (tgt := 301) hX dX5_takeToken_223 rfl ?_ ?_
              · exact s_exit hE56
              · refine s_aload_n hX dX5_takeToken_226 rfl ?_
                refine s_ldc hX dX5_takeToken_227 q_488 ?_
                refine s_aload_n hX dX5_takeToken_229 rfl ?_
                refine s_getI hX dX5_takeToken_230 q_49 rfl (fun v64 => ?_)
                refine s_bipush (v := 10) hX dX5_takeToken_233 kb_10 ?_
                refine s_imul hX dX5_takeToken_235 ?_
                refine s_aload_n hX dX5_takeToken_236 rfl ?_
                refine s_getO hX dX5_takeToken_237 q_43 rfl (fun j65 => ?_)
                refine s_aload_n hX dX5_takeToken_240 rfl ?_
                refine s_getI hX dX5_takeToken_241 q_48 rfl (fun v66 => ?_)
                refine s_bald hX dX5_takeToken_244 (fun v67 => ?_)
                refine s_bipush (v := 48) hX dX5_takeToken_245 kb_48 ?_
                refine s_isub hX dX5_takeToken_247 ?_
                refine s_iadd hX dX5_takeToken_248 ?_
                refine s_mmin hX dX5_takeToken_249 q_468 q_469 q_10 q_470 (Nat.le_of_ble_eq_true rfl) (Nat.le_of_ble_eq_true rfl) (Nat.le_of_ble_eq_true rfl) (Nat.le_of_ble_eq_true rfl) ?_
                refine s_putI hX dX5_takeToken_252 q_49 rfl rfl (fun M68 => ?_)
                refine s_aload_n hX dX5_takeToken_255 rfl ?_
                refine s_dup hX dX5_takeToken_256 rfl ?_
                refine s_getI hX dX5_takeToken_257 q_48 rfl (fun v69 => ?_)
                refine s_iconst (v := 1) hX dX5_takeToken_260 kc_1 ?_
                refine s_iadd hX dX5_takeToken_261 ?_
                refine s_putI hX dX5_takeToken_262 q_48 rfl rfl (fun M70 => ?_)
                refine s_goto (tgt := 200) hX dX5_takeToken_265 rfl ?_
                exact s_back hB56
          · obtain ⟨M71, e56⟩ : ∃ z, z = s := ⟨_, rfl⟩
            subst e56
            try dsimp only
            exact s_vret hX hR dX5_takeToken_301 (Nat.le_of_ble_eq_true rfl) (Nat.le_of_ble_eq_true rfl)
      · refine s_aload_n hX dX5_takeToken_94 rfl ?_
        refine s_iconst (v := 1) hX dX5_takeToken_95 kc_1 ?_
        refine s_putI hX dX5_takeToken_96 q_46 rfl rfl (fun M26 => ?_)
        refine s_bipush (v := 25) hX dX5_takeToken_99 kb_25 ?_
        refine s_istore1 hX dX5_takeToken_101 (by first | exact trivial | exact rfl) (Nat.le_of_ble_eq_true rfl) ?_
        refine s_loopE (stk := []) (fun (s : MemT × Int32) => [some (.ref a0), some (.int s.2)]) (fun (s : MemT × Int32) => s.1) 177 (fun (s : MemT × Int32) => [some (.ref a0), some (.int s.2)]) (fun s B29 hB29 hE29 => ?_) (fun s => ?_) n (M26, 25)
        · obtain ⟨M27, v28⟩ := s
          dsimp only
          refine s_aload_n hX dX5_takeToken_102 rfl ?_
          refine s_getI hX dX5_takeToken_103 q_48 rfl (fun v30 => ?_)
          refine s_aload_n hX dX5_takeToken_106 rfl ?_
          refine s_getI hX dX5_takeToken_107 q_44 rfl (fun v31 => ?_)
          refine s_icge (tgt := 177) hX dX5_takeToken_110 rfl ?_ ?_
          · exact s_exit hE29
          · refine s_aload_n hX dX5_takeToken_113 rfl ?_
            refine s_getO hX dX5_takeToken_114 q_43 rfl (fun j32 => ?_)
            refine s_aload_n hX dX5_takeToken_117 rfl ?_
            refine s_getI hX dX5_takeToken_118 q_48 rfl (fun v33 => ?_)
            refine s_bald hX dX5_takeToken_121 (fun v34 => ?_)
            refine s_callSi (ck1 := 0) (sk1 := 0) hX dX5_takeToken_122 k_X5_isLetter q_482 (c_X5_isLetter n M27 v34) rfl rfl ⟨Nat.le_of_ble_eq_true rfl, Nat.le_of_ble_eq_true rfl⟩ ⟨(Nat.le_of_ble_eq_true rfl), (Nat.le_of_ble_eq_true rfl)⟩ (Nat.le_of_ble_eq_true rfl) rfl rfl (fun r35 M36 => ?_)
            refine s_ifeq (tgt := 177) hX dX5_takeToken_125 rfl ?_ ?_
            · exact s_exit hE29
            · refine s_aload_n hX dX5_takeToken_128 rfl ?_
              refine s_dup hX dX5_takeToken_129 rfl ?_
              refine s_getI hX dX5_takeToken_130 q_49 rfl (fun v37 => ?_)
              refine s_iload_n hX dX5_takeToken_133 rfl ?_
              refine s_jp (fun (s : MemT × Int32) => [some (.ref a0), some (.int v28)]) (fun (s : MemT × Int32) => [.int s.2, .int v37, .ref a0]) (fun (s : MemT × Int32) => s.1) 0 0 157 (fun s => ?_) (fun K38 hK38 => ?_)
              · obtain ⟨M39, v40⟩ := s
                dsimp only
                refine s_ior hX dX5_takeToken_157 ?_
                refine s_putI hX dX5_takeToken_158 q_49 rfl rfl (fun M41 => ?_)
                refine s_aload_n hX dX5_takeToken_161 rfl ?_
                refine s_dup hX dX5_takeToken_162 rfl ?_
                refine s_getI hX dX5_takeToken_163 q_48 rfl (fun v42 => ?_)
                refine s_iconst (v := 1) hX dX5_takeToken_166 kc_1 ?_
                refine s_iadd hX dX5_takeToken_167 ?_
                refine s_putI hX dX5_takeToken_168 q_48 rfl rfl (fun M43 => ?_)
                refine s_iinc1 (v := v28 + (-5)) hX dX5_takeToken_171 rfl (by first | exact trivial | exact rfl) (Nat.le_of_ble_eq_true rfl) ?_
                refine s_goto (tgt := 102) hX dX5_takeToken_174 rfl ?_
                exact s_back hB29
              · refine s_iflt (tgt := 156) hX dX5_takeToken_134 rfl ?_ ?_
                · refine s_iconst (v := 0) hX dX5_takeToken_156 kc_0 ?_
                  exact hK38 _
                · refine s_aload_n hX dX5_takeToken_137 rfl ?_
                  refine s_getO hX dX5_takeToken_138 q_43 rfl (fun j44 => ?_)
                  refine s_aload_n hX dX5_takeToken_141 rfl ?_
                  refine s_getI hX dX5_takeToken_142 q_48 rfl (fun v45 => ?_)
                  refine s_bald hX dX5_takeToken_145 (fun v46 => ?_)
                  refine s_bipush (v := 97) hX dX5_takeToken_146 kb_97 ?_
                  refine s_isub hX dX5_takeToken_148 ?_
                  refine s_iconst (v := 1) hX dX5_takeToken_149 kc_1 ?_
                  refine s_iadd hX dX5_takeToken_150 ?_
                  refine s_iload_n hX dX5_takeToken_151 rfl ?_
                  refine s_ishl hX dX5_takeToken_152 ?_
                  refine s_goto (tgt := 157) hX dX5_takeToken_153 rfl ?_
                  exact hK38 _
        · obtain ⟨M47, v48⟩ := s
          dsimp only
          refine s_goto (tgt := 301) hX dX5_takeToken_177 rfl ?_
          exact s_vret hX hR dX5_takeToken_301 (Nat.le_of_ble_eq_true rfl) (Nat.le_of_ble_eq_true rfl)
    · refine s_aload_n hX dX5_takeToken_71 rfl ?_
      refine s_iconst (v := 0) hX dX5_takeToken_72 kc_0 ?_
      refine s_putI hX dX5_takeToken_73 q_46 rfl rfl (fun M20 => ?_)
      refine s_goto (tgt := 301) hX dX5_takeToken_76 rfl ?_
      exact s_vret hX hR dX5_takeToken_301 (Nat.le_of_ble_eq_true rfl) (Nat.le_of_ble_eq_true rfl)
abbrev rm_X9_isIn : Room := { frames := 0, cells := 0, slots := 0, locals := 0 }
theorem k_X9_isIn : KYS yX9_isIn cX9_isIn 3 (some .boolean) 3 := ⟨⟨q_584, q_1, by decide +kernel, by decide +kernel, by decide +kernel⟩, q_583⟩
set_option maxHeartbeats 4000000 in
set_option maxRecDepth 100000 in
theorem c_X9_isIn (n : Nat) (M0 : MemT) (a0 : Int32) (a1 : Int32) (a2 : Int32) : Ct iI yX9_isIn cX9_isIn 3 (some .boolean) rm_X9_isIn [.int a0, .int a1, .int a2] M0 (g_X9_isIn n M0 a0 a1 a2) := by
  unfold g_X9_isIn
  refine ct_intro RX9 0 [some (.int a0), some (.int a1), some (.int a2)] rfl (by decide +kernel) rfl (Nat.le_of_ble_eq_true rfl) (fun X A hX hnm hR => ?_)
  refine s_iload_n hX dX9_isIn_0 rfl ?_
  refine s_iload_n hX dX9_isIn_1 rfl ?_
  refine s_iclt (tgt := 14) hX dX9_isIn_2 rfl ?_ ?_
  · refine s_iconst (v := 0) hX dX9_isIn_14 kc_0 ?_
    exact s_zret hX hR dX9_isIn_15 (Nat.le_of_ble_eq_true rfl) (Nat.le_of_ble_eq_true rfl)
  · refine s_iload_n hX dX9_isIn_5 rfl ?_
    refine s_iload_n hX dX9_isIn_6 rfl ?_
    refine s_icgt (tgt := 14) hX dX9_isIn_7 rfl ?_ ?_
    · refine s_iconst (v := 0) hX dX9_isIn_14 kc_0 ?_
      exact s_zret hX hR dX9_isIn_15 (Nat.le_of_ble_eq_true rfl) (Nat.le_of_ble_eq_true rfl)
    · refine s_iconst (v := 1) hX dX9_isIn_10 kc_1 ?_
      refine s_goto (tgt := 15) hX dX9_isIn_11 rfl ?_
      exact s_zret hX hR dX9_isIn_15 (Nat.le_of_ble_eq_true rfl) (Nat.le_of_ble_eq_true rfl)
abbrev rm_X5_takeNumber : Room := { frames := 2, cells := 0, slots := 0, locals := 42 }
theorem k_X5_takeNumber : KYV yX5_takeNumber cX5_takeNumber 3 (some .boolean) 2 := ⟨⟨q_581, q_2, by decide +kernel, by decide +kernel, by decide +kernel⟩, q_580, p_9⟩
set_option maxHeartbeats 4000000 in
set_option maxRecDepth 100000 in
theorem c_X5_takeNumber (n : Nat) (M0 : MemT) (a0 : Nat) (a1 : Int32) (a2 : Int32) : Ct iI yX5_takeNumber cX5_takeNumber 3 (some .boolean) rm_X5_takeNumber [.ref a0, .int a1, .int a2] M0 (g_X5_takeNumber n M0 a0 a1 a2) := by
  unfold g_X5_takeNumber
  refine ct_intro RX5 0 [some (.ref a0), some (.int a1), some (.int a2)] rfl (by decide +kernel) rfl (Nat.le_of_ble_eq_true rfl) (fun X A hX hnm hR => ?_)
  refine s_aload_n hX dX5_takeNumber_0 rfl ?_
  refine s_callVu (ck1 := 0) (sk1 := 0) (ci := 4) hX dX5_takeNumber_1 k_X5_takeToken q_475 (c_X5_takeToken n M0 a0) (by decide) rfl rfl rfl ⟨Nat.le_of_ble_eq_true rfl, Nat.le_of_ble_eq_true rfl⟩ ⟨(Nat.le_of_ble_eq_true rfl), (Nat.le_of_ble_eq_true rfl)⟩ (Nat.le_of_ble_eq_true rfl) rfl rfl (fun r1 M2 => ?_)
  refine s_aload_n hX dX5_takeNumber_4 rfl ?_
  refine s_getI hX dX5_takeNumber_5 q_46 rfl (fun v3 => ?_)
  refine s_iconst (v := 2) hX dX5_takeNumber_8 kc_2 ?_
  refine s_iceq (tgt := 22) hX dX5_takeNumber_9 rfl ?_ ?_
  · refine s_aload_n hX dX5_takeNumber_22 rfl ?_
    refine s_getI hX dX5_takeNumber_23 q_49 rfl (fun v7 => ?_)
    refine s_iload_n hX dX5_takeNumber_26 rfl ?_
    refine s_iload_n hX dX5_takeNumber_27 rfl ?_
    refine s_callSNi (ck1 := 0) (sk1 := 0) hX dX5_takeNumber_28 k_X9_isIn nx_582 (c_X9_isIn n M2 v7 a1 a2) rfl rfl ⟨Nat.le_of_ble_eq_true rfl, Nat.le_of_ble_eq_true rfl⟩ ⟨(Nat.le_of_ble_eq_true rfl), (Nat.le_of_ble_eq_true rfl)⟩ (Nat.le_of_ble_eq_true rfl) rfl rfl (fun r8 M9 => ?_)
    refine s_ifne (tgt := 46) hX dX5_takeNumber_31 rfl ?_ ?_
    · refine s_aload_n hX dX5_takeNumber_34 rfl ?_
      refine s_iconst (v := 2) hX dX5_takeNumber_35 kc_2 ?_
      refine s_aload_n hX dX5_takeNumber_36 rfl ?_
      refine s_getI hX dX5_takeNumber_37 q_47 rfl (fun v10 => ?_)
      refine s_callVi (ck1 := 0) (sk1 := 0) (ci := 4) hX dX5_takeNumber_40 k_X5_fail q_546 (c_X5_fail n M9 a0 2 v10) (by decide) rfl rfl rfl ⟨Nat.le_of_ble_eq_true rfl, Nat.le_of_ble_eq_true rfl⟩ ⟨(Nat.le_of_ble_eq_true rfl), (Nat.le_of_ble_eq_true rfl)⟩ (Nat.le_of_ble_eq_true rfl) rfl rfl (fun r11 M12 => ?_)
      refine s_ifeq (tgt := 50) hX dX5_takeNumber_43 rfl ?_ ?_
      · refine s_iconst (v := 0) hX dX5_takeNumber_50 kc_0 ?_
        exact s_zret hX hR dX5_takeNumber_51 (Nat.le_of_ble_eq_true rfl) (Nat.le_of_ble_eq_true rfl)
      · refine s_iconst (v := 1) hX dX5_takeNumber_46 kc_1 ?_
        refine s_goto (tgt := 51) hX dX5_takeNumber_47 rfl ?_
        exact s_zret hX hR dX5_takeNumber_51 (Nat.le_of_ble_eq_true rfl) (Nat.le_of_ble_eq_true rfl)
    · refine s_iconst (v := 1) hX dX5_takeNumber_46 kc_1 ?_
      refine s_goto (tgt := 51) hX dX5_takeNumber_47 rfl ?_
      exact s_zret hX hR dX5_takeNumber_51 (Nat.le_of_ble_eq_true rfl) (Nat.le_of_ble_eq_true rfl)
  · refine s_aload_n hX dX5_takeNumber_12 rfl ?_
    refine s_iconst (v := 1) hX dX5_takeNumber_13 kc_1 ?_
    refine s_aload_n hX dX5_takeNumber_14 rfl ?_
    refine s_getI hX dX5_takeNumber_15 q_47 rfl (fun v4 => ?_)
    refine s_callVi (ck1 := 0) (sk1 := 0) (ci := 4) hX dX5_takeNumber_18 k_X5_fail q_546 (c_X5_fail n M2 a0 1 v4) (by decide) rfl rfl rfl ⟨Nat.le_of_ble_eq_true rfl, Nat.le_of_ble_eq_true rfl⟩ ⟨(Nat.le_of_ble_eq_true rfl), (Nat.le_of_ble_eq_true rfl)⟩ (Nat.le_of_ble_eq_true rfl) rfl rfl (fun r5 M6 => ?_)
    exact s_zret hX hR dX5_takeNumber_21 (Nat.le_of_ble_eq_true rfl) (Nat.le_of_ble_eq_true rfl)
abbrev rm_X7_addAsset : Room := { frames := 0, cells := 0, slots := 0, locals := 0 }
theorem k_X7_addAsset : KYV yX7_addAsset cX7_addAsset 7 none 5 := ⟨⟨q_658, q_3, by decide +kernel, by decide +kernel, by decide +kernel⟩, q_656, q_657⟩
set_option maxHeartbeats 4000000 in
set_option maxRecDepth 100000 in
theorem c_X7_addAsset (n : Nat) (M0 : MemT) (a0 : Nat) (a1 : Int32) (a2 : Int32) (a3 : Int32) (a4 : Int32) (a5 : Int32) : Ct iU yX7_addAsset cX7_addAsset 7 none rm_X7_addAsset [.ref a0, .int a1, .int a2, .int a3, .int a4, .int a5] M0 (g_X7_addAsset n M0 a0 a1 a2 a3 a4 a5) := by
  unfold g_X7_addAsset
  refine ct_intro RX7 1 [some (.ref a0), some (.int a1), some (.int a2), some (.int a3), some (.int a4), some (.int a5), none] rfl (by decide +kernel) rfl (Nat.le_of_ble_eq_true rfl) (fun X A hX hnm hR => ?_)
  refine s_aload_n hX dX7_addAsset_0 rfl ?_
  refine s_getI hX dX7_addAsset_1 q_147 rfl (fun v1 => ?_)
  refine s_iconst (v := 5) hX dX7_addAsset_4 kc_5 ?_
  refine s_imul hX dX7_addAsset_5 ?_
  refine s_istore6 hX dX7_addAsset_6 (by first | exact trivial | exact rfl) (Nat.le_of_ble_eq_true rfl) ?_
  refine s_iload hX dX7_addAsset_8 rfl ?_
  refine s_iconst (v := 5) hX dX7_addAsset_10 kc_5 ?_
  refine s_iadd hX dX7_addAsset_11 ?_
  refine s_aload_n hX dX7_addAsset_12 rfl ?_
  refine s_getO hX dX7_addAsset_13 q_151 rfl (fun j2 => ?_)
  refine s_alen hX dX7_addAsset_16 (fun v3 => ?_)
  refine s_icle (tgt := 21) hX dX7_addAsset_17 rfl ?_ ?_
  · refine s_aload_n hX dX7_addAsset_21 rfl ?_
    refine s_getO hX dX7_addAsset_22 q_151 rfl (fun j4 => ?_)
    refine s_iload hX dX7_addAsset_25 rfl ?_
    refine s_iload_n hX dX7_addAsset_27 rfl ?_
    refine s_iast hX dX7_addAsset_28 (fun M5 => ?_)
    refine s_aload_n hX dX7_addAsset_29 rfl ?_
    refine s_getO hX dX7_addAsset_30 q_151 rfl (fun j6 => ?_)
    refine s_iload hX dX7_addAsset_33 rfl ?_
    refine s_iconst (v := 1) hX dX7_addAsset_35 kc_1 ?_
    refine s_iadd hX dX7_addAsset_36 ?_
    refine s_iload_n hX dX7_addAsset_37 rfl ?_
    refine s_iast hX dX7_addAsset_38 (fun M7 => ?_)
    refine s_aload_n hX dX7_addAsset_39 rfl ?_
    refine s_getO hX dX7_addAsset_40 q_151 rfl (fun j8 => ?_)
    refine s_iload hX dX7_addAsset_43 rfl ?_
    refine s_iconst (v := 2) hX dX7_addAsset_45 kc_2 ?_
    refine s_iadd hX dX7_addAsset_46 ?_
    refine s_iload_n hX dX7_addAsset_47 rfl ?_
    refine s_iast hX dX7_addAsset_48 (fun M9 => ?_)
    refine s_aload_n hX dX7_addAsset_49 rfl ?_
    refine s_getO hX dX7_addAsset_50 q_151 rfl (fun j10 => ?_)
    refine s_iload hX dX7_addAsset_53 rfl ?_
    refine s_iconst (v := 3) hX dX7_addAsset_55 kc_3 ?_
    refine s_iadd hX dX7_addAsset_56 ?_
    refine s_iload hX dX7_addAsset_57 rfl ?_
    refine s_iast hX dX7_addAsset_59 (fun M11 => ?_)
    refine s_aload_n hX dX7_addAsset_60 rfl ?_
    refine s_getO hX dX7_addAsset_61 q_151 rfl (fun j12 => ?_)
    refine s_iload hX dX7_addAsset_64 rfl ?_
    refine s_iconst (v := 4) hX dX7_addAsset_66 kc_4 ?_
    refine s_iadd hX dX7_addAsset_67 ?_
    refine s_iload hX dX7_addAsset_68 rfl ?_
    refine s_iast hX dX7_addAsset_70 (fun M13 => ?_)
    refine s_aload_n hX dX7_addAsset_71 rfl ?_
    refine s_dup hX dX7_addAsset_72 rfl ?_
    refine s_getI hX dX7_addAsset_73 q_147 rfl (fun v14 => ?_)
    refine s_iconst (v := 1) hX dX7_addAsset_76 kc_1 ?_
    refine s_iadd hX dX7_addAsset_77 ?_
    refine s_putI hX dX7_addAsset_78 q_147 rfl rfl (fun M15 => ?_)
    exact s_vret hX hR dX7_addAsset_81 (Nat.le_of_ble_eq_true rfl) (Nat.le_of_ble_eq_true rfl)
  · exact s_vret hX hR dX7_addAsset_20 (Nat.le_of_ble_eq_true rfl) (Nat.le_of_ble_eq_true rfl)
abbrev rm_X9_isIntervals : Room := { frames := 0, cells := 0, slots := 0, locals := 0 }
theorem k_X9_isIntervals : KYS yX9_isIntervals cX9_isIntervals 1 (some .boolean) 1 := ⟨⟨q_654, q_1, by decide +kernel, by decide +kernel, by decide +kernel⟩, q_653⟩
set_option maxHeartbeats 4000000 in
set_option maxRecDepth 100000 in
theorem c_X9_isIntervals (n : Nat) (M0 : MemT) (a0 : Int32) : Ct iI yX9_isIntervals cX9_isIntervals 1 (some .boolean) rm_X9_isIntervals [.int a0] M0 (g_X9_isIntervals n M0 a0) := by
  unfold g_X9_isIntervals
  refine ct_intro RX9 0 [some (.int a0)] rfl (by decide +kernel) rfl (Nat.le_of_ble_eq_true rfl) (fun X A hX hnm hR => ?_)
  refine s_iload_n hX dX9_isIntervals_0 rfl ?_
  refine s_iconst (v := 5) hX dX9_isIntervals_1 kc_5 ?_
  refine s_iceq (tgt := 11) hX dX9_isIntervals_2 rfl ?_ ?_
  · refine s_iconst (v := 1) hX dX9_isIntervals_11 kc_1 ?_
    refine s_goto (tgt := 16) hX dX9_isIntervals_12 rfl ?_
    exact s_zret hX hR dX9_isIntervals_16 (Nat.le_of_ble_eq_true rfl) (Nat.le_of_ble_eq_true rfl)
  · refine s_iload_n hX dX9_isIntervals_5 rfl ?_
    refine s_bipush (v := 10) hX dX9_isIntervals_6 kb_10 ?_
    refine s_icne (tgt := 15) hX dX9_isIntervals_8 rfl ?_ ?_
    · refine s_iconst (v := 1) hX dX9_isIntervals_11 kc_1 ?_
      refine s_goto (tgt := 16) hX dX9_isIntervals_12 rfl ?_
      exact s_zret hX hR dX9_isIntervals_16 (Nat.le_of_ble_eq_true rfl) (Nat.le_of_ble_eq_true rfl)
    · refine s_iconst (v := 0) hX dX9_isIntervals_15 kc_0 ?_
      exact s_zret hX hR dX9_isIntervals_16 (Nat.le_of_ble_eq_true rfl) (Nat.le_of_ble_eq_true rfl)
abbrev rm_X5_endAsset : Room := { frames := 3, cells := 0, slots := 0, locals := 64 }
theorem k_X5_endAsset : KYV yX5_endAsset cX5_endAsset 2 (some .boolean) 0 := ⟨⟨q_651, q_2, by decide +kernel, by decide +kernel, by decide +kernel⟩, q_650, p_21⟩
set_option maxHeartbeats 4000000 in
set_option maxRecDepth 100000 in
theorem c_X5_endAsset (n : Nat) (M0 : MemT) (a0 : Nat) : Ct iI yX5_endAsset cX5_endAsset 2 (some .boolean) rm_X5_endAsset [.ref a0] M0 (g_X5_endAsset n M0 a0) := by
  unfold g_X5_endAsset
  refine ct_intro RX5 1 [some (.ref a0), none] rfl (by decide +kernel) rfl (Nat.le_of_ble_eq_true rfl) (fun X A hX hnm hR => ?_)
  refine s_aload_n hX dX5_endAsset_0 rfl ?_
  refine s_iconst (v := 1) hX dX5_endAsset_1 kc_1 ?_
  refine s_sipush (v := 9999) hX dX5_endAsset_2 ks_9999 ?_
  refine s_callVi (ck1 := 0) (sk1 := 0) (ci := 4) hX dX5_endAsset_5 k_X5_takeNumber q_578 (c_X5_takeNumber n M0 a0 1 9999) (by decide) rfl rfl rfl ⟨Nat.le_of_ble_eq_true rfl, Nat.le_of_ble_eq_true rfl⟩ ⟨(Nat.le_of_ble_eq_true rfl), (Nat.le_of_ble_eq_true rfl)⟩ (Nat.le_of_ble_eq_true rfl) rfl rfl (fun r1 M2 => ?_)
  refine s_ifne (tgt := 13) hX dX5_endAsset_8 rfl ?_ ?_
  · refine s_iconst (v := 0) hX dX5_endAsset_11 kc_0 ?_
    exact s_zret hX hR dX5_endAsset_12 (Nat.le_of_ble_eq_true rfl) (Nat.le_of_ble_eq_true rfl)
  · refine s_aload_n hX dX5_endAsset_13 rfl ?_
    refine s_getI hX dX5_endAsset_14 q_49 rfl (fun v3 => ?_)
    refine s_istore1 hX dX5_endAsset_17 (by first | exact trivial | exact rfl) (Nat.le_of_ble_eq_true rfl) ?_
    refine s_aload_n hX dX5_endAsset_18 rfl ?_
    refine s_iconst (v := 0) hX dX5_endAsset_19 kc_0 ?_
    refine s_bipush (v := 10) hX dX5_endAsset_20 kb_10 ?_
    refine s_callVi (ck1 := 0) (sk1 := 0) (ci := 4) hX dX5_endAsset_22 k_X5_takeNumber q_578 (c_X5_takeNumber n M2 a0 0 10) (by decide) rfl rfl rfl ⟨Nat.le_of_ble_eq_true rfl, Nat.le_of_ble_eq_true rfl⟩ ⟨(Nat.le_of_ble_eq_true rfl), (Nat.le_of_ble_eq_true rfl)⟩ (Nat.le_of_ble_eq_true rfl) rfl rfl (fun r4 M5 => ?_)
    refine s_ifne (tgt := 30) hX dX5_endAsset_25 rfl ?_ ?_
    · refine s_iconst (v := 0) hX dX5_endAsset_28 kc_0 ?_
      exact s_zret hX hR dX5_endAsset_29 (Nat.le_of_ble_eq_true rfl) (Nat.le_of_ble_eq_true rfl)
    · refine s_aload_n hX dX5_endAsset_30 rfl ?_
      refine s_getI hX dX5_endAsset_31 q_49 rfl (fun v6 => ?_)
      refine s_callSNi (ck1 := 0) (sk1 := 0) hX dX5_endAsset_34 k_X9_isIntervals nx_652 (c_X9_isIntervals n M5 v6) rfl rfl ⟨Nat.le_of_ble_eq_true rfl, Nat.le_of_ble_eq_true rfl⟩ ⟨(Nat.le_of_ble_eq_true rfl), (Nat.le_of_ble_eq_true rfl)⟩ (Nat.le_of_ble_eq_true rfl) rfl rfl (fun r7 M8 => ?_)
      refine s_ifne (tgt := 50) hX dX5_endAsset_37 rfl ?_ ?_
      · refine s_aload_n hX dX5_endAsset_40 rfl ?_
        refine s_iconst (v := 2) hX dX5_endAsset_41 kc_2 ?_
        refine s_aload_n hX dX5_endAsset_42 rfl ?_
        refine s_getI hX dX5_endAsset_43 q_47 rfl (fun v9 => ?_)
        refine s_callVi (ck1 := 0) (sk1 := 0) (ci := 4) hX dX5_endAsset_46 k_X5_fail q_546 (c_X5_fail n M8 a0 2 v9) (by decide) rfl rfl rfl ⟨Nat.le_of_ble_eq_true rfl, Nat.le_of_ble_eq_true rfl⟩ ⟨(Nat.le_of_ble_eq_true rfl), (Nat.le_of_ble_eq_true rfl)⟩ (Nat.le_of_ble_eq_true rfl) rfl rfl (fun r10 M11 => ?_)
        exact s_zret hX hR dX5_endAsset_49 (Nat.le_of_ble_eq_true rfl) (Nat.le_of_ble_eq_true rfl)
      · refine s_aload_n hX dX5_endAsset_50 rfl ?_
        refine s_getO hX dX5_endAsset_51 q_45 rfl (fun j12 => ?_)
        refine s_aload_n hX dX5_endAsset_54 rfl ?_
        refine s_getI hX dX5_endAsset_55 q_50 rfl (fun v13 => ?_)
        refine s_aload_n hX dX5_endAsset_58 rfl ?_
        refine s_getI hX dX5_endAsset_59 q_51 rfl (fun v14 => ?_)
        refine s_aload_n hX dX5_endAsset_62 rfl ?_
        refine s_getI hX dX5_endAsset_63 q_52 rfl (fun v15 => ?_)
        refine s_iload_n hX dX5_endAsset_66 rfl ?_
        refine s_aload_n hX dX5_endAsset_67 rfl ?_
        refine s_getI hX dX5_endAsset_68 q_49 rfl (fun v16 => ?_)
        refine s_callVu (ck1 := 0) (sk1 := 0) (ci := 6) hX dX5_endAsset_71 k_X7_addAsset q_655 (c_X7_addAsset n M8 j12 v13 v14 v15 v3 v16) (by decide) rfl rfl rfl ⟨Nat.le_of_ble_eq_true rfl, Nat.le_of_ble_eq_true rfl⟩ ⟨(Nat.le_of_ble_eq_true rfl), (Nat.le_of_ble_eq_true rfl)⟩ (Nat.le_of_ble_eq_true rfl) rfl rfl (fun r17 M18 => ?_)
        refine s_iconst (v := 1) hX dX5_endAsset_74 kc_1 ?_
        exact s_zret hX hR dX5_endAsset_75 (Nat.le_of_ble_eq_true rfl) (Nat.le_of_ble_eq_true rfl)
abbrev rm_X7_addMove : Room := { frames := 0, cells := 0, slots := 0, locals := 0 }
theorem k_X7_addMove : KYV yX7_addMove cX7_addMove 6 none 4 := ⟨⟨q_639, q_3, by decide +kernel, by decide +kernel, by decide +kernel⟩, q_638, p_19⟩
set_option maxHeartbeats 4000000 in
set_option maxRecDepth 100000 in
theorem c_X7_addMove (n : Nat) (M0 : MemT) (a0 : Nat) (a1 : Int32) (a2 : Int32) (a3 : Int32) (a4 : Int32) : Ct iU yX7_addMove cX7_addMove 6 none rm_X7_addMove [.ref a0, .int a1, .int a2, .int a3, .int a4] M0 (g_X7_addMove n M0 a0 a1 a2 a3 a4) := by
  unfold g_X7_addMove
  refine ct_intro RX7 1 [some (.ref a0), some (.int a1), some (.int a2), some (.int a3), some (.int a4), none] rfl (by decide +kernel) rfl (Nat.le_of_ble_eq_true rfl) (fun X A hX hnm hR => ?_)
  refine s_aload_n hX dX7_addMove_0 rfl ?_
  refine s_getI hX dX7_addMove_1 q_137 rfl (fun v1 => ?_)
  refine s_aload_n hX dX7_addMove_4 rfl ?_
  refine s_getI hX dX7_addMove_5 q_141 rfl (fun v2 => ?_)
  refine s_iadd hX dX7_addMove_8 ?_
  refine s_iconst (v := 4) hX dX7_addMove_9 kc_4 ?_
  refine s_imul hX dX7_addMove_10 ?_
  refine s_istore5 hX dX7_addMove_11 (by first | exact trivial | exact rfl) (Nat.le_of_ble_eq_true rfl) ?_
  refine s_iload hX dX7_addMove_13 rfl ?_
  refine s_iconst (v := 4) hX dX7_addMove_15 kc_4 ?_
  refine s_iadd hX dX7_addMove_16 ?_
  refine s_aload_n hX dX7_addMove_17 rfl ?_
  refine s_getO hX dX7_addMove_18 q_145 rfl (fun j3 => ?_)
  refine s_alen hX dX7_addMove_21 (fun v4 => ?_)
  refine s_icle (tgt := 26) hX dX7_addMove_22 rfl ?_ ?_
  · refine s_aload_n hX dX7_addMove_26 rfl ?_
    refine s_getO hX dX7_addMove_27 q_145 rfl (fun j5 => ?_)
    refine s_iload hX dX7_addMove_30 rfl ?_
    refine s_iload_n hX dX7_addMove_32 rfl ?_
    refine s_iast hX dX7_addMove_33 (fun M6 => ?_)
    refine s_aload_n hX dX7_addMove_34 rfl ?_
    refine s_getO hX dX7_addMove_35 q_145 rfl (fun j7 => ?_)
    refine s_iload hX dX7_addMove_38 rfl ?_
    refine s_iconst (v := 1) hX dX7_addMove_40 kc_1 ?_
    refine s_iadd hX dX7_addMove_41 ?_
    refine s_iload_n hX dX7_addMove_42 rfl ?_
    refine s_iast hX dX7_addMove_43 (fun M8 => ?_)
    refine s_aload_n hX dX7_addMove_44 rfl ?_
    refine s_getO hX dX7_addMove_45 q_145 rfl (fun j9 => ?_)
    refine s_iload hX dX7_addMove_48 rfl ?_
    refine s_iconst (v := 2) hX dX7_addMove_50 kc_2 ?_
    refine s_iadd hX dX7_addMove_51 ?_
    refine s_iload_n hX dX7_addMove_52 rfl ?_
    refine s_iast hX dX7_addMove_53 (fun M10 => ?_)
    refine s_aload_n hX dX7_addMove_54 rfl ?_
    refine s_getO hX dX7_addMove_55 q_145 rfl (fun j11 => ?_)
    refine s_iload hX dX7_addMove_58 rfl ?_
    refine s_iconst (v := 3) hX dX7_addMove_60 kc_3 ?_
    refine s_iadd hX dX7_addMove_61 ?_
    refine s_iload hX dX7_addMove_62 rfl ?_
    refine s_iast hX dX7_addMove_64 (fun M12 => ?_)
    exact s_vret hX hR dX7_addMove_65 (Nat.le_of_ble_eq_true rfl) (Nat.le_of_ble_eq_true rfl)
  · exact s_vret hX hR dX7_addMove_25 (Nat.le_of_ble_eq_true rfl) (Nat.le_of_ble_eq_true rfl)
abbrev rm_X7_addBuy : Room := { frames := 1, cells := 0, slots := 0, locals := 25 }
theorem k_X7_addBuy : KYV yX7_addBuy cX7_addBuy 5 none 4 := ⟨⟨q_647, q_3, by decide +kernel, by decide +kernel, by decide +kernel⟩, q_645, q_646⟩
set_option maxHeartbeats 4000000 in
set_option maxRecDepth 100000 in
theorem c_X7_addBuy (n : Nat) (M0 : MemT) (a0 : Nat) (a1 : Int32) (a2 : Int32) (a3 : Int32) (a4 : Int32) : Ct iU yX7_addBuy cX7_addBuy 5 none rm_X7_addBuy [.ref a0, .int a1, .int a2, .int a3, .int a4] M0 (g_X7_addBuy n M0 a0 a1 a2 a3 a4) := by
  unfold g_X7_addBuy
  refine ct_intro RX7 0 [some (.ref a0), some (.int a1), some (.int a2), some (.int a3), some (.int a4)] rfl (by decide +kernel) rfl (Nat.le_of_ble_eq_true rfl) (fun X A hX hnm hR => ?_)
  refine s_aload_n hX dX7_addBuy_0 rfl ?_
  refine s_iload_n hX dX7_addBuy_1 rfl ?_
  refine s_iload_n hX dX7_addBuy_2 rfl ?_
  refine s_iconst (v := 2) hX dX7_addBuy_3 kc_2 ?_
  refine s_iload_n hX dX7_addBuy_4 rfl ?_
  refine s_iadd hX dX7_addBuy_5 ?_
  refine s_iload hX dX7_addBuy_6 rfl ?_
  refine s_callVu (ck1 := 0) (sk1 := 0) (ci := 6) hX dX7_addBuy_8 k_X7_addMove q_636 (c_X7_addMove n M0 a0 a1 a2 (2 + a3) a4) (by decide) rfl rfl rfl ⟨Nat.le_of_ble_eq_true rfl, Nat.le_of_ble_eq_true rfl⟩ ⟨(Nat.le_of_ble_eq_true rfl), (Nat.le_of_ble_eq_true rfl)⟩ (Nat.le_of_ble_eq_true rfl) rfl rfl (fun r1 M2 => ?_)
  refine s_aload_n hX dX7_addBuy_11 rfl ?_
  refine s_dup hX dX7_addBuy_12 rfl ?_
  refine s_getI hX dX7_addBuy_13 q_141 rfl (fun v3 => ?_)
  refine s_iconst (v := 1) hX dX7_addBuy_16 kc_1 ?_
  refine s_iadd hX dX7_addBuy_17 ?_
  refine s_putI hX dX7_addBuy_18 q_141 rfl rfl (fun M4 => ?_)
  exact s_vret hX hR dX7_addBuy_21 (Nat.le_of_ble_eq_true rfl) (Nat.le_of_ble_eq_true rfl)
abbrev rm_X5_endBuy : Room := { frames := 3, cells := 0, slots := 0, locals := 64 }
theorem k_X5_endBuy : KYV yX5_endBuy cX5_endBuy 1 (some .boolean) 0 := ⟨⟨q_643, q_2, by decide +kernel, by decide +kernel, by decide +kernel⟩, q_642, p_20⟩
set_option maxHeartbeats 4000000 in
set_option maxRecDepth 100000 in
theorem c_X5_endBuy (n : Nat) (M0 : MemT) (a0 : Nat) : Ct iI yX5_endBuy cX5_endBuy 1 (some .boolean) rm_X5_endBuy [.ref a0] M0 (g_X5_endBuy n M0 a0) := by
  unfold g_X5_endBuy
  refine ct_intro RX5 0 [some (.ref a0)] rfl (by decide +kernel) rfl (Nat.le_of_ble_eq_true rfl) (fun X A hX hnm hR => ?_)
  refine s_aload_n hX dX5_endBuy_0 rfl ?_
  refine s_iconst (v := 1) hX dX5_endBuy_1 kc_1 ?_
  refine s_sipush (v := 9999) hX dX5_endBuy_2 ks_9999 ?_
  refine s_callVi (ck1 := 0) (sk1 := 0) (ci := 4) hX dX5_endBuy_5 k_X5_takeNumber q_578 (c_X5_takeNumber n M0 a0 1 9999) (by decide) rfl rfl rfl ⟨Nat.le_of_ble_eq_true rfl, Nat.le_of_ble_eq_true rfl⟩ ⟨(Nat.le_of_ble_eq_true rfl), (Nat.le_of_ble_eq_true rfl)⟩ (Nat.le_of_ble_eq_true rfl) rfl rfl (fun r1 M2 => ?_)
  refine s_ifne (tgt := 13) hX dX5_endBuy_8 rfl ?_ ?_
  · refine s_iconst (v := 0) hX dX5_endBuy_11 kc_0 ?_
    exact s_zret hX hR dX5_endBuy_12 (Nat.le_of_ble_eq_true rfl) (Nat.le_of_ble_eq_true rfl)
  · refine s_aload_n hX dX5_endBuy_13 rfl ?_
    refine s_getO hX dX5_endBuy_14 q_45 rfl (fun j3 => ?_)
    refine s_aload_n hX dX5_endBuy_17 rfl ?_
    refine s_getI hX dX5_endBuy_18 q_50 rfl (fun v4 => ?_)
    refine s_aload_n hX dX5_endBuy_21 rfl ?_
    refine s_getI hX dX5_endBuy_22 q_51 rfl (fun v5 => ?_)
    refine s_aload_n hX dX5_endBuy_25 rfl ?_
    refine s_getI hX dX5_endBuy_26 q_52 rfl (fun v6 => ?_)
    refine s_aload_n hX dX5_endBuy_29 rfl ?_
    refine s_getI hX dX5_endBuy_30 q_49 rfl (fun v7 => ?_)
    refine s_callVu (ck1 := 0) (sk1 := 0) (ci := 6) hX dX5_endBuy_33 k_X7_addBuy q_644 (c_X7_addBuy n M2 j3 v4 v5 v6 v7) (by decide) rfl rfl rfl ⟨Nat.le_of_ble_eq_true rfl, Nat.le_of_ble_eq_true rfl⟩ ⟨(Nat.le_of_ble_eq_true rfl), (Nat.le_of_ble_eq_true rfl)⟩ (Nat.le_of_ble_eq_true rfl) rfl rfl (fun r8 M9 => ?_)
    refine s_iconst (v := 1) hX dX5_endBuy_36 kc_1 ?_
    exact s_zret hX hR dX5_endBuy_37 (Nat.le_of_ble_eq_true rfl) (Nat.le_of_ble_eq_true rfl)
abbrev rm_X7_addSale : Room := { frames := 1, cells := 0, slots := 0, locals := 25 }
theorem k_X7_addSale : KYV yX7_addSale cX7_addSale 5 none 4 := ⟨⟨q_635, q_3, by decide +kernel, by decide +kernel, by decide +kernel⟩, q_633, q_634⟩
set_option maxHeartbeats 4000000 in
set_option maxRecDepth 100000 in
theorem c_X7_addSale (n : Nat) (M0 : MemT) (a0 : Nat) (a1 : Int32) (a2 : Int32) (a3 : Int32) (a4 : Int32) : Ct iU yX7_addSale cX7_addSale 5 none rm_X7_addSale [.ref a0, .int a1, .int a2, .int a3, .int a4] M0 (g_X7_addSale n M0 a0 a1 a2 a3 a4) := by
  unfold g_X7_addSale
  refine ct_intro RX7 0 [some (.ref a0), some (.int a1), some (.int a2), some (.int a3), some (.int a4)] rfl (by decide +kernel) rfl (Nat.le_of_ble_eq_true rfl) (fun X A hX hnm hR => ?_)
  refine s_aload_n hX dX7_addSale_0 rfl ?_
  refine s_iload_n hX dX7_addSale_1 rfl ?_
  refine s_iload_n hX dX7_addSale_2 rfl ?_
  refine s_iload_n hX dX7_addSale_3 rfl ?_
  refine s_iload hX dX7_addSale_4 rfl ?_
  refine s_callVu (ck1 := 0) (sk1 := 0) (ci := 6) hX dX7_addSale_6 k_X7_addMove q_636 (c_X7_addMove n M0 a0 a1 a2 a3 a4) (by decide) rfl rfl rfl ⟨Nat.le_of_ble_eq_true rfl, Nat.le_of_ble_eq_true rfl⟩ ⟨(Nat.le_of_ble_eq_true rfl), (Nat.le_of_ble_eq_true rfl)⟩ (Nat.le_of_ble_eq_true rfl) rfl rfl (fun r1 M2 => ?_)
  refine s_aload_n hX dX7_addSale_9 rfl ?_
  refine s_dup hX dX7_addSale_10 rfl ?_
  refine s_getI hX dX7_addSale_11 q_137 rfl (fun v3 => ?_)
  refine s_iconst (v := 1) hX dX7_addSale_14 kc_1 ?_
  refine s_iadd hX dX7_addSale_15 ?_
  refine s_putI hX dX7_addSale_16 q_137 rfl rfl (fun M4 => ?_)
  exact s_vret hX hR dX7_addSale_19 (Nat.le_of_ble_eq_true rfl) (Nat.le_of_ble_eq_true rfl)
abbrev rm_X5_endSale : Room := { frames := 3, cells := 0, slots := 0, locals := 64 }
theorem k_X5_endSale : KYV yX5_endSale cX5_endSale 1 (some .boolean) 0 := ⟨⟨q_631, q_2, by decide +kernel, by decide +kernel, by decide +kernel⟩, q_630, p_18⟩
set_option maxHeartbeats 4000000 in
set_option maxRecDepth 100000 in
theorem c_X5_endSale (n : Nat) (M0 : MemT) (a0 : Nat) : Ct iI yX5_endSale cX5_endSale 1 (some .boolean) rm_X5_endSale [.ref a0] M0 (g_X5_endSale n M0 a0) := by
  unfold g_X5_endSale
  refine ct_intro RX5 0 [some (.ref a0)] rfl (by decide +kernel) rfl (Nat.le_of_ble_eq_true rfl) (fun X A hX hnm hR => ?_)
  refine s_aload_n hX dX5_endSale_0 rfl ?_
  refine s_iconst (v := 1) hX dX5_endSale_1 kc_1 ?_
  refine s_ldc hX dX5_endSale_2 q_623 ?_
  refine s_callVi (ck1 := 0) (sk1 := 0) (ci := 4) hX dX5_endSale_4 k_X5_takeNumber q_578 (c_X5_takeNumber n M0 a0 1 99999) (by decide) rfl rfl rfl ⟨Nat.le_of_ble_eq_true rfl, Nat.le_of_ble_eq_true rfl⟩ ⟨(Nat.le_of_ble_eq_true rfl), (Nat.le_of_ble_eq_true rfl)⟩ (Nat.le_of_ble_eq_true rfl) rfl rfl (fun r1 M2 => ?_)
  refine s_ifne (tgt := 12) hX dX5_endSale_7 rfl ?_ ?_
  · refine s_iconst (v := 0) hX dX5_endSale_10 kc_0 ?_
    exact s_zret hX hR dX5_endSale_11 (Nat.le_of_ble_eq_true rfl) (Nat.le_of_ble_eq_true rfl)
  · refine s_aload_n hX dX5_endSale_12 rfl ?_
    refine s_getO hX dX5_endSale_13 q_45 rfl (fun j3 => ?_)
    refine s_aload_n hX dX5_endSale_16 rfl ?_
    refine s_getI hX dX5_endSale_17 q_50 rfl (fun v4 => ?_)
    refine s_aload_n hX dX5_endSale_20 rfl ?_
    refine s_getI hX dX5_endSale_21 q_51 rfl (fun v5 => ?_)
    refine s_aload_n hX dX5_endSale_24 rfl ?_
    refine s_getI hX dX5_endSale_25 q_52 rfl (fun v6 => ?_)
    refine s_aload_n hX dX5_endSale_28 rfl ?_
    refine s_getI hX dX5_endSale_29 q_49 rfl (fun v7 => ?_)
    refine s_callVu (ck1 := 0) (sk1 := 0) (ci := 6) hX dX5_endSale_32 k_X7_addSale q_632 (c_X7_addSale n M2 j3 v4 v5 v6 v7) (by decide) rfl rfl rfl ⟨Nat.le_of_ble_eq_true rfl, Nat.le_of_ble_eq_true rfl⟩ ⟨(Nat.le_of_ble_eq_true rfl), (Nat.le_of_ble_eq_true rfl)⟩ (Nat.le_of_ble_eq_true rfl) rfl rfl (fun r8 M9 => ?_)
    refine s_iconst (v := 1) hX dX5_endSale_35 kc_1 ?_
    exact s_zret hX hR dX5_endSale_36 (Nat.le_of_ble_eq_true rfl) (Nat.le_of_ble_eq_true rfl)
abbrev rm_X5_isRoom : Room := { frames := 1, cells := 0, slots := 0, locals := 22 }
theorem k_X5_isRoom : KYV yX5_isRoom cX5_isRoom 3 (some .boolean) 2 := ⟨⟨q_565, q_2, by decide +kernel, by decide +kernel, by decide +kernel⟩, q_564, p_6⟩
set_option maxHeartbeats 4000000 in
set_option maxRecDepth 100000 in
theorem c_X5_isRoom (n : Nat) (M0 : MemT) (a0 : Nat) (a1 : Int32) (a2 : Int32) : Ct iI yX5_isRoom cX5_isRoom 3 (some .boolean) rm_X5_isRoom [.ref a0, .int a1, .int a2] M0 (g_X5_isRoom n M0 a0 a1 a2) := by
  unfold g_X5_isRoom
  refine ct_intro RX5 0 [some (.ref a0), some (.int a1), some (.int a2)] rfl (by decide +kernel) rfl (Nat.le_of_ble_eq_true rfl) (fun X A hX hnm hR => ?_)
  refine s_iload_n hX dX5_isRoom_0 rfl ?_
  refine s_iload_n hX dX5_isRoom_1 rfl ?_
  refine s_iclt (tgt := 17) hX dX5_isRoom_2 rfl ?_ ?_
  · refine s_iconst (v := 1) hX dX5_isRoom_17 kc_1 ?_
    refine s_goto (tgt := 22) hX dX5_isRoom_18 rfl ?_
    exact s_zret hX hR dX5_isRoom_22 (Nat.le_of_ble_eq_true rfl) (Nat.le_of_ble_eq_true rfl)
  · refine s_aload_n hX dX5_isRoom_5 rfl ?_
    refine s_iconst (v := 2) hX dX5_isRoom_6 kc_2 ?_
    refine s_aload_n hX dX5_isRoom_7 rfl ?_
    refine s_getI hX dX5_isRoom_8 q_47 rfl (fun v1 => ?_)
    refine s_callVi (ck1 := 0) (sk1 := 0) (ci := 4) hX dX5_isRoom_11 k_X5_fail q_546 (c_X5_fail n M0 a0 2 v1) (by decide) rfl rfl rfl ⟨Nat.le_of_ble_eq_true rfl, Nat.le_of_ble_eq_true rfl⟩ ⟨(Nat.le_of_ble_eq_true rfl), (Nat.le_of_ble_eq_true rfl)⟩ (Nat.le_of_ble_eq_true rfl) rfl rfl (fun r2 M3 => ?_)
    refine s_ifeq (tgt := 21) hX dX5_isRoom_14 rfl ?_ ?_
    · refine s_iconst (v := 0) hX dX5_isRoom_21 kc_0 ?_
      exact s_zret hX hR dX5_isRoom_22 (Nat.le_of_ble_eq_true rfl) (Nat.le_of_ble_eq_true rfl)
    · refine s_iconst (v := 1) hX dX5_isRoom_17 kc_1 ?_
      refine s_goto (tgt := 22) hX dX5_isRoom_18 rfl ?_
      exact s_zret hX hR dX5_isRoom_22 (Nat.le_of_ble_eq_true rfl) (Nat.le_of_ble_eq_true rfl)
abbrev rm_X5_isNew : Room := { frames := 1, cells := 0, slots := 0, locals := 22 }
theorem k_X5_isNew : KYV yX5_isNew cX5_isNew 2 (some .boolean) 1 := ⟨⟨q_577, q_2, by decide +kernel, by decide +kernel, by decide +kernel⟩, q_576, p_8⟩
set_option maxHeartbeats 4000000 in
set_option maxRecDepth 100000 in
theorem c_X5_isNew (n : Nat) (M0 : MemT) (a0 : Nat) (a1 : Int32) : Ct iI yX5_isNew cX5_isNew 2 (some .boolean) rm_X5_isNew [.ref a0, .int a1] M0 (g_X5_isNew n M0 a0 a1) := by
  unfold g_X5_isNew
  refine ct_intro RX5 0 [some (.ref a0), some (.int a1)] rfl (by decide +kernel) rfl (Nat.le_of_ble_eq_true rfl) (fun X A hX hnm hR => ?_)
  refine s_iload_n hX dX5_isNew_0 rfl ?_
  refine s_ifne (tgt := 16) hX dX5_isNew_1 rfl ?_ ?_
  · refine s_aload_n hX dX5_isNew_4 rfl ?_
    refine s_iconst (v := 3) hX dX5_isNew_5 kc_3 ?_
    refine s_aload_n hX dX5_isNew_6 rfl ?_
    refine s_getI hX dX5_isNew_7 q_47 rfl (fun v1 => ?_)
    refine s_callVi (ck1 := 0) (sk1 := 0) (ci := 4) hX dX5_isNew_10 k_X5_fail q_546 (c_X5_fail n M0 a0 3 v1) (by decide) rfl rfl rfl ⟨Nat.le_of_ble_eq_true rfl, Nat.le_of_ble_eq_true rfl⟩ ⟨(Nat.le_of_ble_eq_true rfl), (Nat.le_of_ble_eq_true rfl)⟩ (Nat.le_of_ble_eq_true rfl) rfl rfl (fun r2 M3 => ?_)
    refine s_ifeq (tgt := 20) hX dX5_isNew_13 rfl ?_ ?_
    · refine s_iconst (v := 0) hX dX5_isNew_20 kc_0 ?_
      exact s_zret hX hR dX5_isNew_21 (Nat.le_of_ble_eq_true rfl) (Nat.le_of_ble_eq_true rfl)
    · refine s_iconst (v := 1) hX dX5_isNew_16 kc_1 ?_
      refine s_goto (tgt := 21) hX dX5_isNew_17 rfl ?_
      exact s_zret hX hR dX5_isNew_21 (Nat.le_of_ble_eq_true rfl) (Nat.le_of_ble_eq_true rfl)
  · refine s_iconst (v := 1) hX dX5_isNew_16 kc_1 ?_
    refine s_goto (tgt := 21) hX dX5_isNew_17 rfl ?_
    exact s_zret hX hR dX5_isNew_21 (Nat.le_of_ble_eq_true rfl) (Nat.le_of_ble_eq_true rfl)
abbrev rm_J0_isLatin1_aae02 : Room := { frames := 0, cells := 0, slots := 0, locals := 0 }
theorem k_J0_isLatin1_aae02 : KYV yJ0_isLatin1_aae02 cJ0_isLatin1_aae02 1 (some .boolean) 0 := ⟨⟨q_515, q_13, by decide +kernel, by decide +kernel, by decide +kernel⟩, q_513, q_514⟩
set_option maxHeartbeats 4000000 in
set_option maxRecDepth 100000 in
theorem c_J0_isLatin1_aae02 (n : Nat) (M0 : MemT) (a0 : Nat) : Ct iI yJ0_isLatin1_aae02 cJ0_isLatin1_aae02 1 (some .boolean) rm_J0_isLatin1_aae02 [kv (some (20 + a0))] M0 (g_J0_isLatin1_aae02 n M0 a0) := by
  unfold g_J0_isLatin1_aae02
  refine ct_intro RJ0 0 [some (kv ((some (20 + a0))))] rfl (by decide +kernel) rfl (Nat.le_of_ble_eq_true rfl) (fun X A hX hnm hR => ?_)
  refine s_gsI (v := 1) hX dJ0_isLatin1_aae02_0 hX.cf.2.2.2.2.2.2.2.1 q_506 ?_
  refine s_ifeq (tgt := 17) hX dJ0_isLatin1_aae02_3 rfl ?_ ?_
  · refine s_iconst (v := 0) hX dJ0_isLatin1_aae02_17 kc_0 ?_
    exact s_zret hX hR dJ0_isLatin1_aae02_18 (Nat.le_of_ble_eq_true rfl) (Nat.le_of_ble_eq_true rfl)
  · refine s_kloadK_n (r := (some (20 + a0))) hX dJ0_isLatin1_aae02_6 rfl ?_
    refine s_kcoder (k := a0) hX dJ0_isLatin1_aae02_7 q_1862 ?_
    refine s_ifne (tgt := 17) hX dJ0_isLatin1_aae02_10 rfl ?_ ?_
    · refine s_iconst (v := 1) hX dJ0_isLatin1_aae02_13 kc_1 ?_
      refine s_goto (tgt := 18) hX dJ0_isLatin1_aae02_14 rfl ?_
      exact s_zret hX hR dJ0_isLatin1_aae02_18 (Nat.le_of_ble_eq_true rfl) (Nat.le_of_ble_eq_true rfl)
    · refine s_iconst (v := 0) hX dJ0_isLatin1_aae02_17 kc_0 ?_
      exact s_zret hX hR dJ0_isLatin1_aae02_18 (Nat.le_of_ble_eq_true rfl) (Nat.le_of_ble_eq_true rfl)
abbrev rm_J3_checkIndex_8e157 : Room := { frames := 0, cells := 0, slots := 0, locals := 0 }
theorem k_J3_checkIndex_8e157 : KYS yJ3_checkIndex_8e157 cJ3_checkIndex_8e157 3 (some .int) 3 := ⟨⟨q_526, q_15, by decide +kernel, by decide +kernel, by decide +kernel⟩, q_525⟩
set_option maxHeartbeats 4000000 in
set_option maxRecDepth 100000 in
theorem c_J3_checkIndex_8e157 (n : Nat) (M0 : MemT) (a0 : Int32) (a1 : Int32) (a2 : Option Nat) : Ct iI yJ3_checkIndex_8e157 cJ3_checkIndex_8e157 3 (some .int) rm_J3_checkIndex_8e157 [.int a0, .int a1, kv a2] M0 (g_J3_checkIndex_8e157 n M0 a0 a1 a2) := by
  unfold g_J3_checkIndex_8e157
  refine ct_intro RJ3 0 [some (.int a0), some (.int a1), some (kv a2)] rfl (by decide +kernel) (by cases a2 <;> rfl) (by cases a2 <;> exact Nat.le_of_ble_eq_true rfl) (fun X A hX hnm hR => ?_)
  refine s_iload_n hX dJ3_checkIndex_8e157_0 rfl ?_
  refine s_iflt (tgt := 9) hX dJ3_checkIndex_8e157_1 rfl ?_ ?_
  · exact s_none
  · refine s_iload_n hX dJ3_checkIndex_8e157_4 rfl ?_
    refine s_iload_n hX dJ3_checkIndex_8e157_5 rfl ?_
    refine s_iclt (tgt := 16) hX dJ3_checkIndex_8e157_6 rfl ?_ ?_
    · refine s_iload_n hX dJ3_checkIndex_8e157_16 rfl ?_
      exact s_iret hX hR dJ3_checkIndex_8e157_17 (Nat.le_of_ble_eq_true rfl) (Nat.le_of_ble_eq_true rfl)
    · exact s_none
abbrev rm_J0_checkIndex_df160 : Room := { frames := 1, cells := 0, slots := 0, locals := 22 }
theorem k_J0_checkIndex_df160 : KYS yJ0_checkIndex_df160 cJ0_checkIndex_df160 2 none 2 := ⟨⟨q_521, q_13, by decide +kernel, by decide +kernel, by decide +kernel⟩, q_520⟩
set_option maxHeartbeats 4000000 in
set_option maxRecDepth 100000 in
theorem c_J0_checkIndex_df160 (n : Nat) (M0 : MemT) (a0 : Int32) (a1 : Int32) : Ct iU yJ0_checkIndex_df160 cJ0_checkIndex_df160 2 none rm_J0_checkIndex_df160 [.int a0, .int a1] M0 (g_J0_checkIndex_df160 n M0 a0 a1) := by
  unfold g_J0_checkIndex_df160
  refine ct_intro RJ0 0 [some (.int a0), some (.int a1)] rfl (by decide +kernel) rfl (Nat.le_of_ble_eq_true rfl) (fun X A hX hnm hR => ?_)
  refine s_iload_n hX dJ0_checkIndex_df160_0 rfl ?_
  refine s_iload_n hX dJ0_checkIndex_df160_1 rfl ?_
  refine s_gsZ hX dJ0_checkIndex_df160_2 q_522 (fun z1 => ?_)
  refine s_callSi (ck1 := 0) (sk1 := 0) hX dJ0_checkIndex_df160_5 k_J3_checkIndex_8e157 q_524 (c_J3_checkIndex_8e157 n M0 a0 a1 z1) rfl rfl ⟨Nat.le_of_ble_eq_true rfl, Nat.le_of_ble_eq_true rfl⟩ ⟨(Nat.le_of_ble_eq_true rfl), (Nat.le_of_ble_eq_true rfl)⟩ (Nat.le_of_ble_eq_true rfl) rfl rfl (fun r2 M3 => ?_)
  refine s_pop hX dJ0_checkIndex_df160_8 rfl ?_
  exact s_vret hX hR dJ0_checkIndex_df160_9 (Nat.le_of_ble_eq_true rfl) (Nat.le_of_ble_eq_true rfl)
abbrev rm_J1_charAt_3b067 : Room := { frames := 2, cells := 0, slots := 0, locals := 43 }
theorem k_J1_charAt_3b067 : KYS yJ1_charAt_3b067 cJ1_charAt_3b067 2 (some .char) 2 := ⟨⟨q_518, q_14, by decide +kernel, by decide +kernel, by decide +kernel⟩, q_517⟩
set_option maxHeartbeats 4000000 in
set_option maxRecDepth 100000 in
theorem c_J1_charAt_3b067 (n : Nat) (M0 : MemT) (a0 : Nat) (a1 : Int32) : Ct iI yJ1_charAt_3b067 cJ1_charAt_3b067 2 (some .char) rm_J1_charAt_3b067 [kv (some (40 + a0)), .int a1] M0 (g_J1_charAt_3b067 n M0 a0 a1) := by
  unfold g_J1_charAt_3b067
  refine ct_intro RJ1 0 [some (kv ((some (40 + a0)))), some (.int a1)] rfl (by decide +kernel) rfl (Nat.le_of_ble_eq_true rfl) (fun X A hX hnm hR => ?_)
  refine s_iload_n hX dJ1_charAt_3b067_0 rfl ?_
  refine s_kloadK_n (r := (some (40 + a0))) hX dJ1_charAt_3b067_1 rfl ?_
  refine s_kblen (k := a0) hX dJ1_charAt_3b067_2 ?_
  refine s_callSu (ck1 := 0) (sk1 := 0) hX dJ1_charAt_3b067_3 k_J0_checkIndex_df160 q_519 (c_J0_checkIndex_df160 n M0 a1 (nI (wLen.getD a0 0))) rfl rfl ⟨Nat.le_of_ble_eq_true rfl, Nat.le_of_ble_eq_true rfl⟩ ⟨(Nat.le_of_ble_eq_true rfl), (Nat.le_of_ble_eq_true rfl)⟩ (Nat.le_of_ble_eq_true rfl) rfl rfl (fun r1 M2 => ?_)
  refine s_kloadK_n (r := (some (40 + a0))) hX dJ1_charAt_3b067_6 rfl ?_
  refine s_iload_n hX dJ1_charAt_3b067_7 rfl ?_
  refine s_kbald (k := a0) hX dJ1_charAt_3b067_8 ?_
  refine s_sipush (v := 255) hX dJ1_charAt_3b067_9 ks_255 ?_
  refine s_iand hX dJ1_charAt_3b067_12 ?_
  refine s_i2c hX dJ1_charAt_3b067_13 ?_
  exact s_cret hX hR dJ1_charAt_3b067_14 (Nat.le_of_ble_eq_true rfl) (Nat.le_of_ble_eq_true rfl)
abbrev rm_J0_charAt_5068e : Room := { frames := 3, cells := 0, slots := 0, locals := 64 }
theorem k_J0_charAt_5068e : KYV yJ0_charAt_5068e cJ0_charAt_5068e 2 (some .char) 1 := ⟨⟨q_511, q_13, by decide +kernel, by decide +kernel, by decide +kernel⟩, q_509, q_510⟩
set_option maxHeartbeats 4000000 in
set_option maxRecDepth 100000 in
theorem c_J0_charAt_5068e (n : Nat) (M0 : MemT) (a0 : Nat) (a1 : Int32) : Ct iI yJ0_charAt_5068e cJ0_charAt_5068e 2 (some .char) rm_J0_charAt_5068e [kv (some (20 + a0)), .int a1] M0 (g_J0_charAt_5068e n M0 a0 a1) := by
  unfold g_J0_charAt_5068e
  refine ct_intro RJ0 0 [some (kv ((some (20 + a0)))), some (.int a1)] rfl (by decide +kernel) rfl (Nat.le_of_ble_eq_true rfl) (fun X A hX hnm hR => ?_)
  refine s_kloadK_n (r := (some (20 + a0))) hX dJ0_charAt_5068e_0 rfl ?_
  refine s_callK (ck1 := 0) (sk1 := 0) (k := a0) hX dJ0_charAt_5068e_1 k_J0_isLatin1_aae02 q_512 (c_J0_isLatin1_aae02 n M0 a0) rfl rfl rfl ⟨Nat.le_of_ble_eq_true rfl, Nat.le_of_ble_eq_true rfl⟩ ⟨(Nat.le_of_ble_eq_true rfl), (Nat.le_of_ble_eq_true rfl)⟩ (Nat.le_of_ble_eq_true rfl) rfl rfl (fun r1 M2 => ?_)
  refine s_ifeq (tgt := 16) hX dJ0_charAt_5068e_4 rfl ?_ ?_
  · exact s_none
  · refine s_kloadK_n (r := (some (20 + a0))) hX dJ0_charAt_5068e_7 rfl ?_
    refine s_kvalue (k := a0) hX dJ0_charAt_5068e_8 q_1861 ?_
    refine s_iload_n hX dJ0_charAt_5068e_11 rfl ?_
    refine s_callSi (ck1 := 0) (sk1 := 0) hX dJ0_charAt_5068e_12 k_J1_charAt_3b067 q_516 (c_J1_charAt_3b067 n M2 a0 a1) rfl rfl ⟨Nat.le_of_ble_eq_true rfl, Nat.le_of_ble_eq_true rfl⟩ ⟨(Nat.le_of_ble_eq_true rfl), (Nat.le_of_ble_eq_true rfl)⟩ (Nat.le_of_ble_eq_true rfl) rfl rfl (fun r3 M4 => ?_)
    exact s_cret hX hR dJ0_charAt_5068e_15 (Nat.le_of_ble_eq_true rfl) (Nat.le_of_ble_eq_true rfl)
abbrev rm_J0_coder_7d493 : Room := { frames := 0, cells := 0, slots := 0, locals := 0 }
theorem k_J0_coder_7d493 : KYV yJ0_coder_7d493 cJ0_coder_7d493 1 (some .byte) 0 := ⟨⟨q_505, q_13, by decide +kernel, by decide +kernel, by decide +kernel⟩, q_503, q_504⟩
set_option maxHeartbeats 4000000 in
set_option maxRecDepth 100000 in
theorem c_J0_coder_7d493 (n : Nat) (M0 : MemT) (a0 : Nat) : Ct iI yJ0_coder_7d493 cJ0_coder_7d493 1 (some .byte) rm_J0_coder_7d493 [kv (some (20 + a0))] M0 (g_J0_coder_7d493 n M0 a0) := by
  unfold g_J0_coder_7d493
  refine ct_intro RJ0 0 [some (kv ((some (20 + a0))))] rfl (by decide +kernel) rfl (Nat.le_of_ble_eq_true rfl) (fun X A hX hnm hR => ?_)
  refine s_gsI (v := 1) hX dJ0_coder_7d493_0 hX.cf.2.2.2.2.2.2.2.1 q_506 ?_
  refine s_ifeq (tgt := 13) hX dJ0_coder_7d493_3 rfl ?_ ?_
  · refine s_iconst (v := 1) hX dJ0_coder_7d493_13 kc_1 ?_
    exact s_bret hX hR dJ0_coder_7d493_14 (Nat.le_of_ble_eq_true rfl) (Nat.le_of_ble_eq_true rfl)
  · refine s_kloadK_n (r := (some (20 + a0))) hX dJ0_coder_7d493_6 rfl ?_
    refine s_kcoder (k := a0) hX dJ0_coder_7d493_7 q_1862 ?_
    refine s_goto (tgt := 14) hX dJ0_coder_7d493_10 rfl ?_
    exact s_bret hX hR dJ0_coder_7d493_14 (Nat.le_of_ble_eq_true rfl) (Nat.le_of_ble_eq_true rfl)
abbrev rm_J0_length_8abf5 : Room := { frames := 1, cells := 0, slots := 0, locals := 20 }
theorem k_J0_length_8abf5 : KYV yJ0_length_8abf5 cJ0_length_8abf5 1 (some .int) 0 := ⟨⟨q_501, q_13, by decide +kernel, by decide +kernel, by decide +kernel⟩, q_499, q_500⟩
set_option maxHeartbeats 4000000 in
set_option maxRecDepth 100000 in
theorem c_J0_length_8abf5 (n : Nat) (M0 : MemT) (a0 : Nat) : Ct iI yJ0_length_8abf5 cJ0_length_8abf5 1 (some .int) rm_J0_length_8abf5 [kv (some (20 + a0))] M0 (g_J0_length_8abf5 n M0 a0) := by
  unfold g_J0_length_8abf5
  refine ct_intro RJ0 0 [some (kv ((some (20 + a0))))] rfl (by decide +kernel) rfl (Nat.le_of_ble_eq_true rfl) (fun X A hX hnm hR => ?_)
  refine s_kloadK_n (r := (some (20 + a0))) hX dJ0_length_8abf5_0 rfl ?_
  refine s_kvalue (k := a0) hX dJ0_length_8abf5_1 q_1861 ?_
  refine s_kblen (k := a0) hX dJ0_length_8abf5_4 ?_
  refine s_kloadK_n (r := (some (20 + a0))) hX dJ0_length_8abf5_5 rfl ?_
  refine s_callK (ck1 := 0) (sk1 := 0) (k := a0) hX dJ0_length_8abf5_6 k_J0_coder_7d493 q_502 (c_J0_coder_7d493 n M0 a0) rfl rfl rfl ⟨Nat.le_of_ble_eq_true rfl, Nat.le_of_ble_eq_true rfl⟩ ⟨(Nat.le_of_ble_eq_true rfl), (Nat.le_of_ble_eq_true rfl)⟩ (Nat.le_of_ble_eq_true rfl) rfl rfl (fun r1 M2 => ?_)
  refine s_ishr hX dJ0_length_8abf5_9 ?_
  exact s_iret hX hR dJ0_length_8abf5_10 (Nat.le_of_ble_eq_true rfl) (Nat.le_of_ble_eq_true rfl)
abbrev rm_X8_at : Room := { frames := 4, cells := 0, slots := 0, locals := 85 }
theorem k_X8_at : KYS yX8_at cX8_at 9 (some (.object "ExemptDesk$Word")) 3 := ⟨⟨q_495, q_12, by decide +kernel, by decide +kernel, by decide +kernel⟩, q_494⟩
set_option maxHeartbeats 4000000 in
set_option maxRecDepth 100000 in
theorem c_X8_at (n : Nat) (M0 : MemT) (a0 : Nat) (a1 : Int32) (a2 : Int32) : Ct iK yX8_at cX8_at 9 (some (.object "ExemptDesk$Word")) rm_X8_at [.ref a0, .int a1, .int a2] M0 (g_X8_at n M0 a0 a1 a2) := by
  unfold g_X8_at
  refine ct_intro RX8 6 [some (.ref a0), some (.int a1), some (.int a2), none, none, none, none, none, none] rfl (by decide +kernel) rfl (Nat.le_of_ble_eq_true rfl) (fun X A hX hnm hR => ?_)
  refine s_iload_n hX dX8_at_0 rfl ?_
  refine s_iflt (tgt := 10) hX dX8_at_1 rfl ?_ ?_
  · refine s_null hX dX8_at_10 ?_
    exact s_aretK0 hX hR dX8_at_11 (Nat.le_of_ble_eq_true rfl) (Nat.le_of_ble_eq_true rfl)
  · refine s_iload_n hX dX8_at_4 rfl ?_
    refine s_aload_n hX dX8_at_5 rfl ?_
    refine s_alen hX dX8_at_6 (fun v1 => ?_)
    refine s_icle (tgt := 12) hX dX8_at_7 rfl ?_ ?_
    · refine s_gsK (k := 13) hX dX8_at_12 hX.cf.2.2.1 (by decide) q_496 ?_
      refine s_kstK_n (r := some 13) hX dX8_at_15 rfl (Nat.le_of_ble_eq_true rfl) (by first | exact trivial | exact rfl) ?_
      show Sim _ _ _ _ _ _ _ [some (.ref a0), some (.int a1), some (.int a2), some (kv ((some 13))), none, none, none, none, none] _ _
      refine s_kloadK_n (r := (some 13)) hX dX8_at_16 rfl ?_
      refine s_kalen hX dX8_at_17 ?_
      refine s_istore4 hX dX8_at_18 (by first | exact trivial | exact rfl) (Nat.le_of_ble_eq_true rfl) ?_
      refine s_iconst (v := 0) hX dX8_at_20 kc_0 ?_
      refine s_istore5 hX dX8_at_21 (by first | exact trivial | exact rfl) (Nat.le_of_ble_eq_true rfl) ?_
      refine s_loop (stk := []) (fun (s : MemT × Int32) => [some (.ref a0), some (.int a1), some (.int a2), some (kv ((some 13))), some (.int 13), some (.int s.2), none, none, none]) (fun (s : MemT × Int32) => s.1) (fun s B4 hB4 hI4 => ?_) n (M0, 0)
      obtain ⟨M2, v3⟩ := s
      dsimp only
      refine s_iload hX dX8_at_23 rfl ?_
      refine s_iload hX dX8_at_25 rfl ?_
      refine s_icge (tgt := 124) hX dX8_at_27 rfl ?_ ?_
      · refine s_null hX dX8_at_124 ?_
        exact s_inr hI4 (s_aretK0 hX hR dX8_at_125 (Nat.le_of_ble_eq_true rfl) (Nat.le_of_ble_eq_true rfl))
      · refine s_kloadK_n (r := (some 13)) hX dX8_at_30 rfl ?_
        refine s_iload hX dX8_at_31 rfl ?_
        refine s_kaald hX dX8_at_33 ?_
        refine s_kstK (r := (some (Int32.toNatClampNeg v3))) hX dX8_at_34 (Nat.le_of_ble_eq_true rfl) (by first | exact trivial | exact rfl) ?_
        show Sim _ _ _ _ _ _ _ [some (.ref a0), some (.int a1), some (.int a2), some (kv ((some 13))), some (.int 13), some (.int v3), some (kv ((some (Int32.toNatClampNeg v3)))), none, none] _ _
        refine s_kloadK (r := (some (Int32.toNatClampNeg v3))) hX dX8_at_36 rfl ?_
        refine s_kletters (k := (Int32.toNatClampNeg v3)) hX dX8_at_38 q_1860 ?_
        refine s_callK (ck1 := 0) (sk1 := 0) (k := (Int32.toNatClampNeg v3)) hX dX8_at_41 k_J0_length_8abf5 q_498 (c_J0_length_8abf5 n M2 ((Int32.toNatClampNeg v3))) rfl rfl rfl ⟨Nat.le_of_ble_eq_true rfl, Nat.le_of_ble_eq_true rfl⟩ ⟨(Nat.le_of_ble_eq_true rfl), (Nat.le_of_ble_eq_true rfl)⟩ (Nat.le_of_ble_eq_true rfl) rfl rfl (fun r5 M6 => ?_)
        refine s_iload_n hX dX8_at_44 rfl ?_
        refine s_iload_n hX dX8_at_45 rfl ?_
        refine s_isub hX dX8_at_46 ?_
        refine s_jp (fun (s : MemT × Int32) => [some (.ref a0), some (.int a1), some (.int a2), some (kv ((some 13))), some (.int 13), some (.int v3), some (kv ((some (Int32.toNatClampNeg v3)))), none, none]) (fun (s : MemT × Int32) => [.int s.2]) (fun (s : MemT × Int32) => s.1) 0 0 55 (fun s => ?_) (fun K7 hK7 => ?_)
        · obtain ⟨M8, v9⟩ := s
          dsimp only
          refine s_istore7 hX dX8_at_55 (by first | exact trivial | exact rfl) (Nat.le_of_ble_eq_true rfl) ?_
          refine s_iconst (v := 0) hX dX8_at_57 kc_0 ?_
          refine s_istore8 hX dX8_at_58 (by first | exact trivial | exact rfl) (Nat.le_of_ble_eq_true rfl) ?_
          refine s_loopE (stk := []) (fun (s : MemT × Int32 × Int32) => [some (.ref a0), some (.int a1), some (.int a2), some (kv ((some 13))), some (.int 13), some (.int v3), some (kv ((some (Int32.toNatClampNeg v3)))), some (.int s.2.1), some (.int s.2.2)]) (fun (s : MemT × Int32 × Int32) => s.1) 110 (fun (s : MemT × Int32 × Int32) => [some (.ref a0), some (.int a1), some (.int a2), some (kv ((some 13))), some (.int 13), some (.int v3), some (kv ((some (Int32.toNatClampNeg v3)))), some (.int s.2.1), some (.int s.2.2)]) (fun s B13 hB13 hE13 => ?_) (fun s => ?_) n (M8, v9, 0)
          · obtain ⟨M10, v11, v12⟩ := s
            dsimp only
            refine s_iload hX dX8_at_60 rfl ?_
            refine s_ifeq (tgt := 110) hX dX8_at_62 rfl ?_ ?_
            · exact s_exit hE13
            · refine s_iload hX dX8_at_65 rfl ?_
              refine s_kloadK (r := (some (Int32.toNatClampNeg v3))) hX dX8_at_67 rfl ?_
              refine s_kletters (k := (Int32.toNatClampNeg v3)) hX dX8_at_69 q_1860 ?_
              refine s_callK (ck1 := 0) (sk1 := 0) (k := (Int32.toNatClampNeg v3)) hX dX8_at_72 k_J0_length_8abf5 q_498 (c_J0_length_8abf5 n M10 ((Int32.toNatClampNeg v3))) rfl rfl rfl ⟨Nat.le_of_ble_eq_true rfl, Nat.le_of_ble_eq_true rfl⟩ ⟨(Nat.le_of_ble_eq_true rfl), (Nat.le_of_ble_eq_true rfl)⟩ (Nat.le_of_ble_eq_true rfl) rfl rfl (fun r14 M15 => ?_)
              refine s_icge (tgt := 110) hX dX8_at_75 rfl ?_ ?_
              · exact s_exit hE13
              · refine s_aload_n hX dX8_at_78 rfl ?_
                refine s_iload_n hX dX8_at_79 rfl ?_
                refine s_iload hX dX8_at_80 rfl ?_
                refine s_iadd hX dX8_at_82 ?_
                refine s_bald hX dX8_at_83 (fun v16 => ?_)
                refine s_kloadK (r := (some (Int32.toNatClampNeg v3))) hX dX8_at_84 rfl ?_
                refine s_kletters (k := (Int32.toNatClampNeg v3)) hX dX8_at_86 q_1860 ?_
                refine s_iload hX dX8_at_89 rfl ?_
                refine s_callK (ck1 := 0) (sk1 := 0) (k := (Int32.toNatClampNeg v3)) hX dX8_at_91 k_J0_charAt_5068e q_508 (c_J0_charAt_5068e n M15 ((Int32.toNatClampNeg v3)) v12) rfl rfl rfl ⟨Nat.le_of_ble_eq_true rfl, Nat.le_of_ble_eq_true rfl⟩ ⟨(Nat.le_of_ble_eq_true rfl), (Nat.le_of_ble_eq_true rfl)⟩ (Nat.le_of_ble_eq_true rfl) rfl rfl (fun r17 M18 => ?_)
                refine s_icne (tgt := 101) hX dX8_at_94 rfl ?_ ?_
                · refine s_iconst (v := 1) hX dX8_at_97 kc_1 ?_
                  refine s_goto (tgt := 102) hX dX8_at_98 rfl ?_
                  refine s_istore7 hX dX8_at_102 (by first | exact trivial | exact rfl) (Nat.le_of_ble_eq_true rfl) ?_
                  refine s_iinc8 (v := v12 + 1) hX dX8_at_104 rfl (by first | exact trivial | exact rfl) (Nat.le_of_ble_eq_true rfl) ?_
                  refine s_goto (tgt := 60) hX dX8_at_107 rfl ?_
                  exact s_back hB13
                · refine s_iconst (v := 0) hX dX8_at_101 kc_0 ?_
                  refine s_istore7 hX dX8_at_102 (by first | exact trivial | exact rfl) (Nat.le_of_ble_eq_true rfl) ?_
                  refine s_iinc8 (v := v12 + 1) hX dX8_at_104 rfl (by first | exact trivial | exact rfl) (Nat.le_of_ble_eq_true rfl) ?_
                  refine s_goto (tgt := 60) hX dX8_at_107 rfl ?_
                  exact s_back hB13
          · obtain ⟨M19, v20, v21⟩ := s
            dsimp only
            refine s_iload hX dX8_at_110 rfl ?_
            refine s_ifeq (tgt := 118) hX dX8_at_112 rfl ?_ ?_
            · refine s_iinc5 (v := v3 + 1) hX dX8_at_118 rfl (by first | exact trivial | exact rfl) (Nat.le_of_ble_eq_true rfl) ?_
              refine s_goto (tgt := 23) hX dX8_at_121 rfl ?_
              refine s_forget (loc1 := [some (.ref a0), some (.int a1), some (.int a2), some (kv ((some 13))), some (.int 13), some (.int (v3 + 1)), none, none, none]) ⟨rfl, rfl, rfl, rfl, rfl, rfl, trivial⟩ ?_
              exact s_back hB4
            · refine s_kloadK (r := (some (Int32.toNatClampNeg v3))) hX dX8_at_115 rfl ?_
              exact s_inr hI4 (s_aretK hX hR dX8_at_117 (Nat.le_of_ble_eq_true rfl) (Nat.le_of_ble_eq_true rfl))
        · refine s_icne (tgt := 54) hX dX8_at_47 rfl ?_ ?_
          · refine s_iconst (v := 1) hX dX8_at_50 kc_1 ?_
            refine s_goto (tgt := 55) hX dX8_at_51 rfl ?_
            exact hK7 _
          · refine s_iconst (v := 0) hX dX8_at_54 kc_0 ?_
            exact hK7 _
    · refine s_null hX dX8_at_10 ?_
      exact s_aretK0 hX hR dX8_at_11 (Nat.le_of_ble_eq_true rfl) (Nat.le_of_ble_eq_true rfl)
abbrev rm_X5_takeName : Room := { frames := 5, cells := 0, slots := 0, locals := 113 }
theorem k_X5_takeName : KYV yX5_takeName cX5_takeName 1 (some .boolean) 0 := ⟨⟨q_569, q_2, by decide +kernel, by decide +kernel, by decide +kernel⟩, q_568, p_7⟩
set_option maxHeartbeats 4000000 in
set_option maxRecDepth 100000 in
theorem c_X5_takeName (n : Nat) (M0 : MemT) (a0 : Nat) : Ct iI yX5_takeName cX5_takeName 1 (some .boolean) rm_X5_takeName [.ref a0] M0 (g_X5_takeName n M0 a0) := by
  unfold g_X5_takeName
  refine ct_intro RX5 0 [some (.ref a0)] rfl (by decide +kernel) rfl (Nat.le_of_ble_eq_true rfl) (fun X A hX hnm hR => ?_)
  refine s_aload_n hX dX5_takeName_0 rfl ?_
  refine s_callVu (ck1 := 0) (sk1 := 0) (ci := 4) hX dX5_takeName_1 k_X5_takeToken q_475 (c_X5_takeToken n M0 a0) (by decide) rfl rfl rfl ⟨Nat.le_of_ble_eq_true rfl, Nat.le_of_ble_eq_true rfl⟩ ⟨(Nat.le_of_ble_eq_true rfl), (Nat.le_of_ble_eq_true rfl)⟩ (Nat.le_of_ble_eq_true rfl) rfl rfl (fun r1 M2 => ?_)
  refine s_aload_n hX dX5_takeName_4 rfl ?_
  refine s_getI hX dX5_takeName_5 q_46 rfl (fun v3 => ?_)
  refine s_iconst (v := 1) hX dX5_takeName_8 kc_1 ?_
  refine s_jp (fun (s : MemT) => [some (.ref a0)]) (fun (s : MemT) => []) (fun (s : MemT) => s) 0 0 44 (fun s => ?_) (fun K4 hK4 => ?_)
  · revert s
    intro M5
    try dsimp only
    refine s_aload_n hX dX5_takeName_44 rfl ?_
    refine s_iconst (v := 1) hX dX5_takeName_45 kc_1 ?_
    refine s_aload_n hX dX5_takeName_46 rfl ?_
    refine s_getI hX dX5_takeName_47 q_47 rfl (fun v6 => ?_)
    refine s_callVi (ck1 := 0) (sk1 := 0) (ci := 4) hX dX5_takeName_50 k_X5_fail q_546 (c_X5_fail n M5 a0 1 v6) (by decide) rfl rfl rfl ⟨Nat.le_of_ble_eq_true rfl, Nat.le_of_ble_eq_true rfl⟩ ⟨(Nat.le_of_ble_eq_true rfl), (Nat.le_of_ble_eq_true rfl)⟩ (Nat.le_of_ble_eq_true rfl) rfl rfl (fun r7 M8 => ?_)
    exact s_zret hX hR dX5_takeName_53 (Nat.le_of_ble_eq_true rfl) (Nat.le_of_ble_eq_true rfl)
  · refine s_icne (tgt := 44) hX dX5_takeName_9 rfl ?_ ?_
    · refine s_aload_n hX dX5_takeName_12 rfl ?_
      refine s_getI hX dX5_takeName_13 q_48 rfl (fun v9 => ?_)
      refine s_aload_n hX dX5_takeName_16 rfl ?_
      refine s_getI hX dX5_takeName_17 q_47 rfl (fun v10 => ?_)
      refine s_isub hX dX5_takeName_20 ?_
      refine s_bipush (v := 6) hX dX5_takeName_21 kb_6 ?_
      refine s_icgt (tgt := 44) hX dX5_takeName_23 rfl ?_ ?_
      · exact hK4 _
      · refine s_aload_n hX dX5_takeName_26 rfl ?_
        refine s_getO hX dX5_takeName_27 q_43 rfl (fun j11 => ?_)
        refine s_aload_n hX dX5_takeName_30 rfl ?_
        refine s_getI hX dX5_takeName_31 q_47 rfl (fun v12 => ?_)
        refine s_aload_n hX dX5_takeName_34 rfl ?_
        refine s_getI hX dX5_takeName_35 q_48 rfl (fun v13 => ?_)
        refine s_callSk (ck1 := 0) (sk1 := 0) hX dX5_takeName_38 k_X8_at q_493 (c_X8_at n M2 j11 v12 v13) rfl rfl ⟨Nat.le_of_ble_eq_true rfl, Nat.le_of_ble_eq_true rfl⟩ ⟨(Nat.le_of_ble_eq_true rfl), (Nat.le_of_ble_eq_true rfl)⟩ (Nat.le_of_ble_eq_true rfl) rfl rfl (fun r14 M15 => ?_)
        refine s_ifnK (tgt := 54) hX dX5_takeName_41 rfl (fun e17 => ?_) (fun k16 e17 => ?_)
        · subst e17
          refine s_iconst (v := 1) hX dX5_takeName_54 kc_1 ?_
          exact s_zret hX hR dX5_takeName_55 (Nat.le_of_ble_eq_true rfl) (Nat.le_of_ble_eq_true rfl)
        · subst e17
          exact hK4 _
    · exact hK4 _
