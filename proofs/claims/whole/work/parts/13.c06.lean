abbrev rm_X9_undo : Room := { frames := 5, cells := 0, slots := 0, locals := 126 }
theorem k_X9_undo : KYV yX9_undo cX9_undo 1 (some .int) 0 := ⟨⟨q_1137, q_1, by decide +kernel, by decide +kernel, by decide +kernel⟩, q_1135, q_1136⟩
set_option maxHeartbeats 4000000 in
set_option maxRecDepth 100000 in
theorem c_X9_undo (n : Nat) (M0 : MemT) (a0 : Nat) : Ct iI yX9_undo cX9_undo 1 (some .int) rm_X9_undo [.ref a0] M0 (g_X9_undo n M0 a0) := by
  unfold g_X9_undo
  refine ct_intro RX9 0 [some (.ref a0)] rfl (by decide +kernel) rfl (Nat.le_of_ble_eq_true rfl) (fun X A hX hnm hR => ?_)
  refine s_aload_n hX dX9_undo_0 rfl ?_
  refine s_getO hX dX9_undo_1 q_426 rfl (fun j1 => ?_)
  refine s_aload_n hX dX9_undo_4 rfl ?_
  refine s_getO hX dX9_undo_5 q_424 rfl (fun j2 => ?_)
  refine s_getO hX dX9_undo_8 q_392 rfl (fun j3 => ?_)
  refine s_callVi (ck1 := 0) (sk1 := 0) (ci := 3) hX dX9_undo_11 k_X4_bringBack q_1138 (c_X4_bringBack n M0 j1 j3) (by decide) rfl rfl rfl ⟨Nat.le_of_ble_eq_true rfl, Nat.le_of_ble_eq_true rfl⟩ ⟨(Nat.le_of_ble_eq_true rfl), (Nat.le_of_ble_eq_true rfl)⟩ (Nat.le_of_ble_eq_true rfl) rfl rfl (fun r4 M5 => ?_)
  refine s_ifeq (tgt := 27) hX dX9_undo_14 rfl ?_ ?_
  · refine s_iconst (v := (-1)) hX dX9_undo_27 kc_m1 ?_
    exact s_iret hX hR dX9_undo_28 (Nat.le_of_ble_eq_true rfl) (Nat.le_of_ble_eq_true rfl)
  · refine s_aload_n hX dX9_undo_17 rfl ?_
    refine s_getO hX dX9_undo_18 q_426 rfl (fun j6 => ?_)
    refine s_getI hX dX9_undo_21 q_410 rfl (fun v7 => ?_)
    refine s_goto (tgt := 28) hX dX9_undo_24 rfl ?_
    exact s_iret hX hR dX9_undo_28 (Nat.le_of_ble_eq_true rfl) (Nat.le_of_ble_eq_true rfl)
abbrev rm_X9_keep : Room := { frames := 4, cells := 55, slots := 2577, locals := 104 }
theorem k_X9_keep : KYV yX9_keep cX9_keep 1 (some .int) 0 := ⟨⟨q_1145, q_1, by decide +kernel, by decide +kernel, by decide +kernel⟩, q_1143, q_1144⟩
set_option maxHeartbeats 4000000 in
set_option maxRecDepth 100000 in
theorem c_X9_keep (n : Nat) (M0 : MemT) (a0 : Nat) : Ct iI yX9_keep cX9_keep 1 (some .int) rm_X9_keep [.ref a0] M0 (g_X9_keep n M0 a0) := by
  unfold g_X9_keep
  refine ct_intro RX9 0 [some (.ref a0)] rfl (by decide +kernel) rfl (Nat.le_of_ble_eq_true rfl) (fun X A hX hnm hR => ?_)
  refine s_aload_n hX dX9_keep_0 rfl ?_
  refine s_getV hX dX9_keep_1 q_427 rfl (fun v1 => ?_)
  refine s_jp (fun (s : MemT) => [some (.ref a0)]) (fun (s : MemT) => []) (fun (s : MemT) => s) 55 2577 18 (fun s => ?_) (fun K2 hK2 => ?_)
  · revert s
    intro M3
    try dsimp only
    refine s_aload_n hX dX9_keep_18 rfl ?_
    refine s_getO hX dX9_keep_19 q_427 rfl (fun j4 => ?_)
    refine s_aload_n hX dX9_keep_22 rfl ?_
    refine s_getO hX dX9_keep_23 q_424 rfl (fun j5 => ?_)
    refine s_getO hX dX9_keep_26 q_392 rfl (fun j6 => ?_)
    refine s_callVu (ck1 := 55) (sk1 := 2577) (ci := 1) hX dX9_keep_29 k_X2_copyFrom q_1148 (c_X2_copyFrom n M3 j4 j6) (by decide) rfl rfl rfl ⟨Nat.le_of_ble_eq_true rfl, Nat.le_of_ble_eq_true rfl⟩ ⟨(Nat.le_of_ble_eq_true rfl), (Nat.le_of_ble_eq_true rfl)⟩ (Nat.le_of_ble_eq_true rfl) rfl rfl (fun r7 M8 => ?_)
    refine s_aload_n hX dX9_keep_32 rfl ?_
    refine s_iconst (v := 1) hX dX9_keep_33 kc_1 ?_
    refine s_putZ hX dX9_keep_34 q_428 rfl rfl (fun M9 => ?_)
    refine s_aload_n hX dX9_keep_37 rfl ?_
    refine s_getO hX dX9_keep_38 q_424 rfl (fun j10 => ?_)
    refine s_getO hX dX9_keep_41 q_392 rfl (fun j11 => ?_)
    refine s_getI hX dX9_keep_44 q_303 rfl (fun v12 => ?_)
    exact s_iret hX hR dX9_keep_47 (Nat.le_of_ble_eq_true rfl) (Nat.le_of_ble_eq_true rfl)
  · refine s_ifnonnull (tgt := 18) hX dX9_keep_4 rfl (fun e19 => ?_) (fun j18 e19 => ?_)
    · refine s_aload_n hX dX9_keep_7 rfl ?_
      refine s_new (ck1 := 1) (sk1 := 12) hX dX9_keep_8 (by decide) q_1146 q_196 q_5 (Nat.le_of_ble_eq_true rfl) (Nat.le_of_ble_eq_true rfl) rfl rfl (fun j13 M14 => ?_)
      refine s_dup hX dX9_keep_11 rfl ?_
      refine s_callIu (ck1 := 55) (sk1 := 2577) hX dX9_keep_12 k_X2_init q_1147 (c_X2_init n M14 j13) rfl rfl ⟨Nat.le_of_ble_eq_true rfl, Nat.le_of_ble_eq_true rfl⟩ ⟨(Nat.le_of_ble_eq_true rfl), (Nat.le_of_ble_eq_true rfl)⟩ (Nat.le_of_ble_eq_true rfl) rfl rfl (fun r15 M16 => ?_)
      refine s_putO hX dX9_keep_15 q_427 rfl rfl (fun M17 => ?_)
      exact hK2 _
    · refine s_widen (ck1 := 55) (sk1 := 2577) (Nat.le_of_ble_eq_true rfl) (Nat.le_of_ble_eq_true rfl) ?_
      exact hK2 _
abbrev rm_X9_back : Room := { frames := 4, cells := 0, slots := 0, locals := 104 }
theorem k_X9_back : KYV yX9_back cX9_back 1 (some .int) 0 := ⟨⟨q_1152, q_1, by decide +kernel, by decide +kernel, by decide +kernel⟩, q_1150, q_1151⟩
set_option maxHeartbeats 4000000 in
set_option maxRecDepth 100000 in
theorem c_X9_back (n : Nat) (M0 : MemT) (a0 : Nat) : Ct iI yX9_back cX9_back 1 (some .int) rm_X9_back [.ref a0] M0 (g_X9_back n M0 a0) := by
  unfold g_X9_back
  refine ct_intro RX9 0 [some (.ref a0)] rfl (by decide +kernel) rfl (Nat.le_of_ble_eq_true rfl) (fun X A hX hnm hR => ?_)
  refine s_aload_n hX dX9_back_0 rfl ?_
  refine s_getI hX dX9_back_1 q_428 rfl (fun v1 => ?_)
  refine s_ifeq (tgt := 14) hX dX9_back_4 rfl ?_ ?_
  · refine s_iconst (v := (-1)) hX dX9_back_14 kc_m1 ?_
    exact s_iret hX hR dX9_back_15 (Nat.le_of_ble_eq_true rfl) (Nat.le_of_ble_eq_true rfl)
  · refine s_aload_n hX dX9_back_7 rfl ?_
    refine s_getV hX dX9_back_8 q_427 rfl (fun v2 => ?_)
    refine s_ifnonnull (tgt := 16) hX dX9_back_11 rfl (fun e15 => ?_) (fun j3 e15 => ?_)
    · refine s_iconst (v := (-1)) hX dX9_back_14 kc_m1 ?_
      exact s_iret hX hR dX9_back_15 (Nat.le_of_ble_eq_true rfl) (Nat.le_of_ble_eq_true rfl)
    · refine s_aload_n hX dX9_back_16 rfl ?_
      refine s_getO hX dX9_back_17 q_424 rfl (fun j4 => ?_)
      refine s_getO hX dX9_back_20 q_392 rfl (fun j5 => ?_)
      refine s_aload_n hX dX9_back_23 rfl ?_
      refine s_getO hX dX9_back_24 q_427 rfl (fun j6 => ?_)
      refine s_callVu (ck1 := 0) (sk1 := 0) (ci := 1) hX dX9_back_27 k_X2_copyFrom q_1148 (c_X2_copyFrom n M0 j5 j6) (by decide) rfl rfl rfl ⟨Nat.le_of_ble_eq_true rfl, Nat.le_of_ble_eq_true rfl⟩ ⟨(Nat.le_of_ble_eq_true rfl), (Nat.le_of_ble_eq_true rfl)⟩ (Nat.le_of_ble_eq_true rfl) rfl rfl (fun r7 M8 => ?_)
      refine s_aload_n hX dX9_back_30 rfl ?_
      refine s_getO hX dX9_back_31 q_426 rfl (fun j9 => ?_)
      refine s_callVu (ck1 := 0) (sk1 := 0) (ci := 3) hX dX9_back_34 k_X4_clear q_694 (c_X4_clear n M8 j9) (by decide) rfl rfl rfl ⟨Nat.le_of_ble_eq_true rfl, Nat.le_of_ble_eq_true rfl⟩ ⟨(Nat.le_of_ble_eq_true rfl), (Nat.le_of_ble_eq_true rfl)⟩ (Nat.le_of_ble_eq_true rfl) rfl rfl (fun r10 M11 => ?_)
      refine s_aload_n hX dX9_back_37 rfl ?_
      refine s_getO hX dX9_back_38 q_424 rfl (fun j12 => ?_)
      refine s_getO hX dX9_back_41 q_392 rfl (fun j13 => ?_)
      refine s_getI hX dX9_back_44 q_303 rfl (fun v14 => ?_)
      exact s_iret hX hR dX9_back_47 (Nat.le_of_ble_eq_true rfl) (Nat.le_of_ble_eq_true rfl)
abbrev rm_X9_count : Room := { frames := 1, cells := 0, slots := 0, locals := 22 }
theorem k_X9_count : KYV yX9_count cX9_count 2 (some .int) 1 := ⟨⟨q_1156, q_1, by decide +kernel, by decide +kernel, by decide +kernel⟩, q_1154, q_1155⟩
set_option maxHeartbeats 4000000 in
set_option maxRecDepth 100000 in
theorem c_X9_count (n : Nat) (M0 : MemT) (a0 : Nat) (a1 : Int32) : Ct iI yX9_count cX9_count 2 (some .int) rm_X9_count [.ref a0, .int a1] M0 (g_X9_count n M0 a0 a1) := by
  unfold g_X9_count
  refine ct_intro RX9 0 [some (.ref a0), some (.int a1)] rfl (by decide +kernel) rfl (Nat.le_of_ble_eq_true rfl) (fun X A hX hnm hR => ?_)
  refine s_iload_n hX dX9_count_0 rfl ?_
  have b1 := sw_0 a1 0
  refine s_swC (tgt := 68) (v := 0) 0 hX dX9_count_1 b1 (by decide) ⟨by decide, by decide⟩ rfl rfl ?_ (fun b5 => ?_)
  · refine s_aload_n hX dX9_count_68 rfl ?_
    refine s_getO hX dX9_count_69 q_424 rfl (fun j2 => ?_)
    refine s_getO hX dX9_count_72 q_390 rfl (fun j3 => ?_)
    refine s_getI hX dX9_count_75 q_104 rfl (fun v4 => ?_)
    exact s_iret hX hR dX9_count_78 (Nat.le_of_ble_eq_true rfl) (Nat.le_of_ble_eq_true rfl)
  refine s_swC (tgt := 79) (v := 1) 1 hX dX9_count_1 b5 (by decide) ⟨by decide, by decide⟩ rfl rfl ?_ (fun b9 => ?_)
  · refine s_aload_n hX dX9_count_79 rfl ?_
    refine s_getO hX dX9_count_80 q_424 rfl (fun j6 => ?_)
    refine s_getO hX dX9_count_83 q_392 rfl (fun j7 => ?_)
    refine s_getI hX dX9_count_86 q_303 rfl (fun v8 => ?_)
    exact s_iret hX hR dX9_count_89 (Nat.le_of_ble_eq_true rfl) (Nat.le_of_ble_eq_true rfl)
  refine s_swC (tgt := 90) (v := 2) 2 hX dX9_count_1 b9 (by decide) ⟨by decide, by decide⟩ rfl rfl ?_ (fun b13 => ?_)
  · refine s_aload_n hX dX9_count_90 rfl ?_
    refine s_getO hX dX9_count_91 q_424 rfl (fun j10 => ?_)
    refine s_getO hX dX9_count_94 q_392 rfl (fun j11 => ?_)
    refine s_getI hX dX9_count_97 q_305 rfl (fun v12 => ?_)
    exact s_iret hX hR dX9_count_100 (Nat.le_of_ble_eq_true rfl) (Nat.le_of_ble_eq_true rfl)
  refine s_swC (tgt := 101) (v := 3) 3 hX dX9_count_1 b13 (by decide) ⟨by decide, by decide⟩ rfl rfl ?_ (fun b18 => ?_)
  · refine s_aload_n hX dX9_count_101 rfl ?_
    refine s_getO hX dX9_count_102 q_424 rfl (fun j14 => ?_)
    refine s_getO hX dX9_count_105 q_392 rfl (fun j15 => ?_)
    refine s_callVi (ck1 := 0) (sk1 := 0) (ci := 1) hX dX9_count_108 k_X2_shutAssets q_1157 (c_X2_shutAssets n M0 j15) (by decide) rfl rfl rfl ⟨Nat.le_of_ble_eq_true rfl, Nat.le_of_ble_eq_true rfl⟩ ⟨(Nat.le_of_ble_eq_true rfl), (Nat.le_of_ble_eq_true rfl)⟩ (Nat.le_of_ble_eq_true rfl) rfl rfl (fun r16 M17 => ?_)
    exact s_iret hX hR dX9_count_111 (Nat.le_of_ble_eq_true rfl) (Nat.le_of_ble_eq_true rfl)
  refine s_swC (tgt := 112) (v := 4) 4 hX dX9_count_1 b18 (by decide) ⟨by decide, by decide⟩ rfl rfl ?_ (fun b22 => ?_)
  · refine s_aload_n hX dX9_count_112 rfl ?_
    refine s_getO hX dX9_count_113 q_424 rfl (fun j19 => ?_)
    refine s_getO hX dX9_count_116 q_392 rfl (fun j20 => ?_)
    refine s_getI hX dX9_count_119 q_308 rfl (fun v21 => ?_)
    exact s_iret hX hR dX9_count_122 (Nat.le_of_ble_eq_true rfl) (Nat.le_of_ble_eq_true rfl)
  refine s_swC (tgt := 123) (v := 5) 5 hX dX9_count_1 b22 (by decide) ⟨by decide, by decide⟩ rfl rfl ?_ (fun b26 => ?_)
  · refine s_aload_n hX dX9_count_123 rfl ?_
    refine s_getO hX dX9_count_124 q_424 rfl (fun j23 => ?_)
    refine s_getO hX dX9_count_127 q_390 rfl (fun j24 => ?_)
    refine s_getI hX dX9_count_130 q_129 rfl (fun v25 => ?_)
    exact s_iret hX hR dX9_count_133 (Nat.le_of_ble_eq_true rfl) (Nat.le_of_ble_eq_true rfl)
  refine s_swC (tgt := 134) (v := 6) 6 hX dX9_count_1 b26 (by decide) ⟨by decide, by decide⟩ rfl rfl ?_ (fun b30 => ?_)
  · refine s_aload_n hX dX9_count_134 rfl ?_
    refine s_getO hX dX9_count_135 q_424 rfl (fun j27 => ?_)
    refine s_getO hX dX9_count_138 q_390 rfl (fun j28 => ?_)
    refine s_getI hX dX9_count_141 q_125 rfl (fun v29 => ?_)
    exact s_iret hX hR dX9_count_144 (Nat.le_of_ble_eq_true rfl) (Nat.le_of_ble_eq_true rfl)
  refine s_swC (tgt := 145) (v := 7) 7 hX dX9_count_1 b30 (by decide) ⟨by decide, by decide⟩ rfl rfl ?_ (fun b34 => ?_)
  · refine s_aload_n hX dX9_count_145 rfl ?_
    refine s_getO hX dX9_count_146 q_424 rfl (fun j31 => ?_)
    refine s_getO hX dX9_count_149 q_390 rfl (fun j32 => ?_)
    refine s_getI hX dX9_count_152 q_133 rfl (fun v33 => ?_)
    exact s_iret hX hR dX9_count_155 (Nat.le_of_ble_eq_true rfl) (Nat.le_of_ble_eq_true rfl)
  refine s_swC (tgt := 156) (v := 8) 8 hX dX9_count_1 b34 (by decide) ⟨by decide, by decide⟩ rfl rfl ?_ (fun b38 => ?_)
  · refine s_aload_n hX dX9_count_156 rfl ?_
    refine s_getO hX dX9_count_157 q_424 rfl (fun j35 => ?_)
    refine s_getO hX dX9_count_160 q_390 rfl (fun j36 => ?_)
    refine s_getI hX dX9_count_163 q_140 rfl (fun v37 => ?_)
    exact s_iret hX hR dX9_count_166 (Nat.le_of_ble_eq_true rfl) (Nat.le_of_ble_eq_true rfl)
  refine s_swC (tgt := 167) (v := 9) 9 hX dX9_count_1 b38 (by decide) ⟨by decide, by decide⟩ rfl rfl ?_ (fun b42 => ?_)
  · refine s_aload_n hX dX9_count_167 rfl ?_
    refine s_getO hX dX9_count_168 q_424 rfl (fun j39 => ?_)
    refine s_getO hX dX9_count_171 q_390 rfl (fun j40 => ?_)
    refine s_getI hX dX9_count_174 q_144 rfl (fun v41 => ?_)
    exact s_iret hX hR dX9_count_177 (Nat.le_of_ble_eq_true rfl) (Nat.le_of_ble_eq_true rfl)
  refine s_swC (tgt := 178) (v := 10) 10 hX dX9_count_1 b42 (by decide) ⟨by decide, by decide⟩ rfl rfl ?_ (fun b45 => ?_)
  · refine s_aload_n hX dX9_count_178 rfl ?_
    refine s_getO hX dX9_count_179 q_426 rfl (fun j43 => ?_)
    refine s_getI hX dX9_count_182 q_410 rfl (fun v44 => ?_)
    exact s_iret hX hR dX9_count_185 (Nat.le_of_ble_eq_true rfl) (Nat.le_of_ble_eq_true rfl)
  refine s_swC (tgt := 186) (v := 11) 11 hX dX9_count_1 b45 (by decide) ⟨by decide, by decide⟩ rfl rfl ?_ (fun b47 => ?_)
  · refine s_aload_n hX dX9_count_186 rfl ?_
    refine s_getI hX dX9_count_187 q_421 rfl (fun v46 => ?_)
    exact s_iret hX hR dX9_count_190 (Nat.le_of_ble_eq_true rfl) (Nat.le_of_ble_eq_true rfl)
  refine s_swC (tgt := 191) (v := 12) 12 hX dX9_count_1 b47 (by decide) ⟨by decide, by decide⟩ rfl rfl ?_ (fun b51 => ?_)
  · refine s_aload_n hX dX9_count_191 rfl ?_
    refine s_getO hX dX9_count_192 q_424 rfl (fun j48 => ?_)
    refine s_getO hX dX9_count_195 q_390 rfl (fun j49 => ?_)
    refine s_getI hX dX9_count_198 q_150 rfl (fun v50 => ?_)
    exact s_iret hX hR dX9_count_201 (Nat.le_of_ble_eq_true rfl) (Nat.le_of_ble_eq_true rfl)
  refine s_swD (tgt := 202) 13 hX dX9_count_1 b51 rfl rfl ?_
  refine s_iconst (v := (-1)) hX dX9_count_202 kc_m1 ?_
  exact s_iret hX hR dX9_count_203 (Nat.le_of_ble_eq_true rfl) (Nat.le_of_ble_eq_true rfl)
abbrev rm_X10_lay : Room := { frames := 0, cells := 0, slots := 0, locals := 0 }
theorem k_X10_lay : KYV yX10_lay cX10_lay 3 none 2 := ⟨⟨q_1277, q_9, by decide +kernel, by decide +kernel, by decide +kernel⟩, q_1276, p_42⟩
set_option maxHeartbeats 4000000 in
set_option maxRecDepth 100000 in
theorem c_X10_lay (n : Nat) (M0 : MemT) (a0 : Nat) (a1 : Int32) (a2 : Int32) : Ct iU yX10_lay cX10_lay 3 none rm_X10_lay [.ref a0, .int a1, .int a2] M0 (g_X10_lay n M0 a0 a1 a2) := by
  unfold g_X10_lay
  refine ct_intro RX10 0 [some (.ref a0), some (.int a1), some (.int a2)] rfl (by decide +kernel) rfl (Nat.le_of_ble_eq_true rfl) (fun X A hX hnm hR => ?_)
  refine s_aload_n hX dX10_lay_0 rfl ?_
  refine s_getO hX dX10_lay_1 q_1326 rfl (fun j1 => ?_)
  refine s_sipush (v := 2468) hX dX10_lay_4 ks_2468 ?_
  refine s_aload_n hX dX10_lay_7 rfl ?_
  refine s_getI hX dX10_lay_8 q_1327 rfl (fun v2 => ?_)
  refine s_imul hX dX10_lay_11 ?_
  refine s_iload_n hX dX10_lay_12 rfl ?_
  refine s_iadd hX dX10_lay_13 ?_
  refine s_iload_n hX dX10_lay_14 rfl ?_
  refine s_iast hX dX10_lay_15 (fun M3 => ?_)
  exact s_vret hX hR dX10_lay_16 (Nat.le_of_ble_eq_true rfl) (Nat.le_of_ble_eq_true rfl)
abbrev rm_X10_of : Room := { frames := 0, cells := 0, slots := 0, locals := 0 }
theorem k_X10_of : KYV yX10_of cX10_of 2 (some .int) 1 := ⟨⟨q_1289, q_9, by decide +kernel, by decide +kernel, by decide +kernel⟩, q_1288, p_45⟩
set_option maxHeartbeats 4000000 in
set_option maxRecDepth 100000 in
theorem c_X10_of (n : Nat) (M0 : MemT) (a0 : Nat) (a1 : Int32) : Ct iI yX10_of cX10_of 2 (some .int) rm_X10_of [.ref a0, .int a1] M0 (g_X10_of n M0 a0 a1) := by
  unfold g_X10_of
  refine ct_intro RX10 0 [some (.ref a0), some (.int a1)] rfl (by decide +kernel) rfl (Nat.le_of_ble_eq_true rfl) (fun X A hX hnm hR => ?_)
  refine s_aload_n hX dX10_of_0 rfl ?_
  refine s_getO hX dX10_of_1 q_1326 rfl (fun j1 => ?_)
  refine s_sipush (v := 2468) hX dX10_of_4 ks_2468 ?_
  refine s_aload_n hX dX10_of_7 rfl ?_
  refine s_getI hX dX10_of_8 q_1327 rfl (fun v2 => ?_)
  refine s_imul hX dX10_of_11 ?_
  refine s_iload_n hX dX10_of_12 rfl ?_
  refine s_iadd hX dX10_of_13 ?_
  refine s_iald hX dX10_of_14 (fun v3 => ?_)
  exact s_iret hX hR dX10_of_15 (Nat.le_of_ble_eq_true rfl) (Nat.le_of_ble_eq_true rfl)
abbrev rm_X10_add : Room := { frames := 1, cells := 0, slots := 0, locals := 22 }
theorem k_X10_add : KYV yX10_add cX10_add 3 none 2 := ⟨⟨q_1297, q_9, by decide +kernel, by decide +kernel, by decide +kernel⟩, q_1296, p_47⟩
set_option maxHeartbeats 4000000 in
set_option maxRecDepth 100000 in
theorem c_X10_add (n : Nat) (M0 : MemT) (a0 : Nat) (a1 : Int32) (a2 : Int32) : Ct iU yX10_add cX10_add 3 none rm_X10_add [.ref a0, .int a1, .int a2] M0 (g_X10_add n M0 a0 a1 a2) := by
  unfold g_X10_add
  refine ct_intro RX10 0 [some (.ref a0), some (.int a1), some (.int a2)] rfl (by decide +kernel) rfl (Nat.le_of_ble_eq_true rfl) (fun X A hX hnm hR => ?_)
  refine s_aload_n hX dX10_add_0 rfl ?_
  refine s_iload_n hX dX10_add_1 rfl ?_
  refine s_aload_n hX dX10_add_2 rfl ?_
  refine s_iload_n hX dX10_add_3 rfl ?_
  refine s_callVi (ck1 := 0) (sk1 := 0) (ci := 8) hX dX10_add_4 k_X10_of q_1286 (c_X10_of n M0 a0 a1) (by decide) rfl rfl rfl ⟨Nat.le_of_ble_eq_true rfl, Nat.le_of_ble_eq_true rfl⟩ ⟨(Nat.le_of_ble_eq_true rfl), (Nat.le_of_ble_eq_true rfl)⟩ (Nat.le_of_ble_eq_true rfl) rfl rfl (fun r1 M2 => ?_)
  refine s_iload_n hX dX10_add_7 rfl ?_
  refine s_iadd hX dX10_add_8 ?_
  refine s_callVu (ck1 := 0) (sk1 := 0) (ci := 8) hX dX10_add_9 k_X10_lay q_1274 (c_X10_lay n M2 a0 a1 (r1 + a2)) (by decide) rfl rfl rfl ⟨Nat.le_of_ble_eq_true rfl, Nat.le_of_ble_eq_true rfl⟩ ⟨(Nat.le_of_ble_eq_true rfl), (Nat.le_of_ble_eq_true rfl)⟩ (Nat.le_of_ble_eq_true rfl) rfl rfl (fun r3 M4 => ?_)
  exact s_vret hX hR dX10_add_12 (Nat.le_of_ble_eq_true rfl) (Nat.le_of_ble_eq_true rfl)
abbrev rm_X10_put : Room := { frames := 1, cells := 0, slots := 0, locals := 22 }
theorem k_X10_put : KYV yX10_put cX10_put 4 none 3 := ⟨⟨q_1305, q_9, by decide +kernel, by decide +kernel, by decide +kernel⟩, q_1304, p_49⟩
set_option maxHeartbeats 4000000 in
set_option maxRecDepth 100000 in
theorem c_X10_put (n : Nat) (M0 : MemT) (a0 : Nat) (a1 : Int32) (a2 : Int32) (a3 : Int32) : Ct iU yX10_put cX10_put 4 none rm_X10_put [.ref a0, .int a1, .int a2, .int a3] M0 (g_X10_put n M0 a0 a1 a2 a3) := by
  unfold g_X10_put
  refine ct_intro RX10 0 [some (.ref a0), some (.int a1), some (.int a2), some (.int a3)] rfl (by decide +kernel) rfl (Nat.le_of_ble_eq_true rfl) (fun X A hX hnm hR => ?_)
  refine s_aload_n hX dX10_put_0 rfl ?_
  refine s_sipush (v := 2084) hX dX10_put_1 ks_2084 ?_
  refine s_bipush (v := 48) hX dX10_put_4 kb_48 ?_
  refine s_iload_n hX dX10_put_6 rfl ?_
  refine s_imul hX dX10_put_7 ?_
  refine s_iadd hX dX10_put_8 ?_
  refine s_iload_n hX dX10_put_9 rfl ?_
  refine s_iadd hX dX10_put_10 ?_
  refine s_iload_n hX dX10_put_11 rfl ?_
  refine s_callVu (ck1 := 0) (sk1 := 0) (ci := 8) hX dX10_put_12 k_X10_lay q_1274 (c_X10_lay n M0 a0 ((2084 + (48 * a1)) + a2) a3) (by decide) rfl rfl rfl ⟨Nat.le_of_ble_eq_true rfl, Nat.le_of_ble_eq_true rfl⟩ ⟨(Nat.le_of_ble_eq_true rfl), (Nat.le_of_ble_eq_true rfl)⟩ (Nat.le_of_ble_eq_true rfl) rfl rfl (fun r1 M2 => ?_)
  exact s_vret hX hR dX10_put_15 (Nat.le_of_ble_eq_true rfl) (Nat.le_of_ble_eq_true rfl)
abbrev rm_X10_sumAt : Room := { frames := 0, cells := 0, slots := 0, locals := 0 }
theorem k_X10_sumAt : KYV yX10_sumAt cX10_sumAt 4 (some .int) 3 := ⟨⟨q_1293, q_9, by decide +kernel, by decide +kernel, by decide +kernel⟩, q_1292, p_46⟩
set_option maxHeartbeats 4000000 in
set_option maxRecDepth 100000 in
theorem c_X10_sumAt (n : Nat) (M0 : MemT) (a0 : Nat) (a1 : Int32) (a2 : Int32) (a3 : Int32) : Ct iI yX10_sumAt cX10_sumAt 4 (some .int) rm_X10_sumAt [.ref a0, .int a1, .int a2, .int a3] M0 (g_X10_sumAt n M0 a0 a1 a2 a3) := by
  unfold g_X10_sumAt
  refine ct_intro RX10 0 [some (.ref a0), some (.int a1), some (.int a2), some (.int a3)] rfl (by decide +kernel) rfl (Nat.le_of_ble_eq_true rfl) (fun X A hX hnm hR => ?_)
  refine s_iconst (v := 1) hX dX10_sumAt_0 kc_1 ?_
  refine s_sipush (v := 320) hX dX10_sumAt_1 ks_320 ?_
  refine s_iload_n hX dX10_sumAt_4 rfl ?_
  refine s_imul hX dX10_sumAt_5 ?_
  refine s_iadd hX dX10_sumAt_6 ?_
  refine s_iconst (v := 5) hX dX10_sumAt_7 kc_5 ?_
  refine s_iload_n hX dX10_sumAt_8 rfl ?_
  refine s_imul hX dX10_sumAt_9 ?_
  refine s_iadd hX dX10_sumAt_10 ?_
  refine s_iload_n hX dX10_sumAt_11 rfl ?_
  refine s_iadd hX dX10_sumAt_12 ?_
  exact s_iret hX hR dX10_sumAt_13 (Nat.le_of_ble_eq_true rfl) (Nat.le_of_ble_eq_true rfl)
abbrev rm_X10_acquires : Room := { frames := 2, cells := 0, slots := 0, locals := 45 }
theorem k_X10_acquires : KYV yX10_acquires cX10_acquires 7 (some .int) 4 := ⟨⟨q_1301, q_9, by decide +kernel, by decide +kernel, by decide +kernel⟩, q_1300, p_48⟩
set_option maxHeartbeats 4000000 in
set_option maxRecDepth 100000 in
theorem c_X10_acquires (n : Nat) (M0 : MemT) (a0 : Nat) (a1 : Int32) (a2 : Int32) (a3 : Int32) (a4 : Int32) : Ct iI yX10_acquires cX10_acquires 7 (some .int) rm_X10_acquires [.ref a0, .int a1, .int a2, .int a3, .int a4] M0 (g_X10_acquires n M0 a0 a1 a2 a3 a4) := by
  unfold g_X10_acquires
  refine ct_intro RX10 2 [some (.ref a0), some (.int a1), some (.int a2), some (.int a3), some (.int a4), none, none] rfl (by decide +kernel) rfl (Nat.le_of_ble_eq_true rfl) (fun X A hX hnm hR => ?_)
  refine s_aload_n hX dX10_acquires_0 rfl ?_
  refine s_sipush (v := 1865) hX dX10_acquires_1 ks_1865 ?_
  refine s_callVi (ck1 := 0) (sk1 := 0) (ci := 8) hX dX10_acquires_4 k_X10_of q_1286 (c_X10_of n M0 a0 1865) (by decide) rfl rfl rfl ⟨Nat.le_of_ble_eq_true rfl, Nat.le_of_ble_eq_true rfl⟩ ⟨(Nat.le_of_ble_eq_true rfl), (Nat.le_of_ble_eq_true rfl)⟩ (Nat.le_of_ble_eq_true rfl) rfl rfl (fun r1 M2 => ?_)
  refine s_istore5 hX dX10_acquires_7 (by first | exact trivial | exact rfl) (Nat.le_of_ble_eq_true rfl) ?_
  refine s_iconst (v := 0) hX dX10_acquires_9 kc_0 ?_
  refine s_istore6 hX dX10_acquires_10 (by first | exact trivial | exact rfl) (Nat.le_of_ble_eq_true rfl) ?_
  refine s_loopE (stk := []) (fun (s : MemT × Int32) => [some (.ref a0), some (.int a1), some (.int a2), some (.int a3), some (.int a4), some (.int r1), some (.int s.2)]) (fun (s : MemT × Int32) => s.1) 34 (fun (s : MemT × Int32) => [some (.ref a0), some (.int a1), some (.int a2), some (.int a3), some (.int a4), some (.int r1), some (.int s.2)]) (fun s B5 hB5 hE5 => ?_) (fun s => ?_) n (M2, 0)
  · obtain ⟨M3, v4⟩ := s
    dsimp only
    refine s_iload hX dX10_acquires_12 rfl ?_
    refine s_bipush (v := 48) hX dX10_acquires_14 kb_48 ?_
    refine s_icge (tgt := 34) hX dX10_acquires_16 rfl ?_ ?_
    · exact s_exit hE5
    · refine s_aload_n hX dX10_acquires_19 rfl ?_
      refine s_iload hX dX10_acquires_20 rfl ?_
      refine s_iload hX dX10_acquires_22 rfl ?_
      refine s_iconst (v := 0) hX dX10_acquires_24 kc_0 ?_
      refine s_callVu (ck1 := 0) (sk1 := 0) (ci := 8) hX dX10_acquires_25 k_X10_put q_1302 (c_X10_put n M3 a0 r1 v4 0) (by decide) rfl rfl rfl ⟨Nat.le_of_ble_eq_true rfl, Nat.le_of_ble_eq_true rfl⟩ ⟨(Nat.le_of_ble_eq_true rfl), (Nat.le_of_ble_eq_true rfl)⟩ (Nat.le_of_ble_eq_true rfl) rfl rfl (fun r6 M7 => ?_)
      refine s_iinc6 (v := v4 + 1) hX dX10_acquires_28 rfl (by first | exact trivial | exact rfl) (Nat.le_of_ble_eq_true rfl) ?_
      refine s_goto (tgt := 12) hX dX10_acquires_31 rfl ?_
      exact s_back hB5
  · obtain ⟨M8, v9⟩ := s
    dsimp only
    refine s_aload_n hX dX10_acquires_34 rfl ?_
    refine s_iload hX dX10_acquires_35 rfl ?_
    refine s_iconst (v := 0) hX dX10_acquires_37 kc_0 ?_
    refine s_iload_n hX dX10_acquires_38 rfl ?_
    refine s_callVu (ck1 := 0) (sk1 := 0) (ci := 8) hX dX10_acquires_39 k_X10_put q_1302 (c_X10_put n M8 a0 r1 0 a1) (by decide) rfl rfl rfl ⟨Nat.le_of_ble_eq_true rfl, Nat.le_of_ble_eq_true rfl⟩ ⟨(Nat.le_of_ble_eq_true rfl), (Nat.le_of_ble_eq_true rfl)⟩ (Nat.le_of_ble_eq_true rfl) rfl rfl (fun r10 M11 => ?_)
    refine s_aload_n hX dX10_acquires_42 rfl ?_
    refine s_iload hX dX10_acquires_43 rfl ?_
    refine s_iconst (v := 1) hX dX10_acquires_45 kc_1 ?_
    refine s_iload_n hX dX10_acquires_46 rfl ?_
    refine s_callVu (ck1 := 0) (sk1 := 0) (ci := 8) hX dX10_acquires_47 k_X10_put q_1302 (c_X10_put n M11 a0 r1 1 a1) (by decide) rfl rfl rfl ⟨Nat.le_of_ble_eq_true rfl, Nat.le_of_ble_eq_true rfl⟩ ⟨(Nat.le_of_ble_eq_true rfl), (Nat.le_of_ble_eq_true rfl)⟩ (Nat.le_of_ble_eq_true rfl) rfl rfl (fun r12 M13 => ?_)
    refine s_aload_n hX dX10_acquires_50 rfl ?_
    refine s_iload hX dX10_acquires_51 rfl ?_
    refine s_iconst (v := 2) hX dX10_acquires_53 kc_2 ?_
    refine s_iload_n hX dX10_acquires_54 rfl ?_
    refine s_callVu (ck1 := 0) (sk1 := 0) (ci := 8) hX dX10_acquires_55 k_X10_put q_1302 (c_X10_put n M13 a0 r1 2 a2) (by decide) rfl rfl rfl ⟨Nat.le_of_ble_eq_true rfl, Nat.le_of_ble_eq_true rfl⟩ ⟨(Nat.le_of_ble_eq_true rfl), (Nat.le_of_ble_eq_true rfl)⟩ (Nat.le_of_ble_eq_true rfl) rfl rfl (fun r14 M15 => ?_)
    refine s_aload_n hX dX10_acquires_58 rfl ?_
    refine s_iload hX dX10_acquires_59 rfl ?_
    refine s_iconst (v := 3) hX dX10_acquires_61 kc_3 ?_
    refine s_iload_n hX dX10_acquires_62 rfl ?_
    refine s_callVu (ck1 := 0) (sk1 := 0) (ci := 8) hX dX10_acquires_63 k_X10_put q_1302 (c_X10_put n M15 a0 r1 3 a3) (by decide) rfl rfl rfl ⟨Nat.le_of_ble_eq_true rfl, Nat.le_of_ble_eq_true rfl⟩ ⟨(Nat.le_of_ble_eq_true rfl), (Nat.le_of_ble_eq_true rfl)⟩ (Nat.le_of_ble_eq_true rfl) rfl rfl (fun r16 M17 => ?_)
    refine s_aload_n hX dX10_acquires_66 rfl ?_
    refine s_iload hX dX10_acquires_67 rfl ?_
    refine s_iconst (v := 4) hX dX10_acquires_69 kc_4 ?_
    refine s_iload hX dX10_acquires_70 rfl ?_
    refine s_callVu (ck1 := 0) (sk1 := 0) (ci := 8) hX dX10_acquires_72 k_X10_put q_1302 (c_X10_put n M17 a0 r1 4 a4) (by decide) rfl rfl rfl ⟨Nat.le_of_ble_eq_true rfl, Nat.le_of_ble_eq_true rfl⟩ ⟨(Nat.le_of_ble_eq_true rfl), (Nat.le_of_ble_eq_true rfl)⟩ (Nat.le_of_ble_eq_true rfl) rfl rfl (fun r18 M19 => ?_)
    refine s_aload_n hX dX10_acquires_75 rfl ?_
    refine s_iload hX dX10_acquires_76 rfl ?_
    refine s_iconst (v := 5) hX dX10_acquires_78 kc_5 ?_
    refine s_aload_n hX dX10_acquires_79 rfl ?_
    refine s_iconst (v := 0) hX dX10_acquires_80 kc_0 ?_
    refine s_callVi (ck1 := 0) (sk1 := 0) (ci := 8) hX dX10_acquires_81 k_X10_of q_1286 (c_X10_of n M19 a0 0) (by decide) rfl rfl rfl ⟨Nat.le_of_ble_eq_true rfl, Nat.le_of_ble_eq_true rfl⟩ ⟨(Nat.le_of_ble_eq_true rfl), (Nat.le_of_ble_eq_true rfl)⟩ (Nat.le_of_ble_eq_true rfl) rfl rfl (fun r20 M21 => ?_)
    refine s_callVu (ck1 := 0) (sk1 := 0) (ci := 8) hX dX10_acquires_84 k_X10_put q_1302 (c_X10_put n M21 a0 r1 5 r20) (by decide) rfl rfl rfl ⟨Nat.le_of_ble_eq_true rfl, Nat.le_of_ble_eq_true rfl⟩ ⟨(Nat.le_of_ble_eq_true rfl), (Nat.le_of_ble_eq_true rfl)⟩ (Nat.le_of_ble_eq_true rfl) rfl rfl (fun r22 M23 => ?_)
    refine s_aload_n hX dX10_acquires_87 rfl ?_
    refine s_aload_n hX dX10_acquires_88 rfl ?_
    refine s_iload_n hX dX10_acquires_89 rfl ?_
    refine s_aload_n hX dX10_acquires_90 rfl ?_
    refine s_iconst (v := 0) hX dX10_acquires_91 kc_0 ?_
    refine s_callVi (ck1 := 0) (sk1 := 0) (ci := 8) hX dX10_acquires_92 k_X10_of q_1286 (c_X10_of n M23 a0 0) (by decide) rfl rfl rfl ⟨Nat.le_of_ble_eq_true rfl, Nat.le_of_ble_eq_true rfl⟩ ⟨(Nat.le_of_ble_eq_true rfl), (Nat.le_of_ble_eq_true rfl)⟩ (Nat.le_of_ble_eq_true rfl) rfl rfl (fun r24 M25 => ?_)
    refine s_iconst (v := 2) hX dX10_acquires_95 kc_2 ?_
    refine s_iload_n hX dX10_acquires_96 rfl ?_
    refine s_iadd hX dX10_acquires_97 ?_
    refine s_callVi (ck1 := 0) (sk1 := 0) (ci := 8) hX dX10_acquires_98 k_X10_sumAt q_1290 (c_X10_sumAt n M25 a0 a1 r24 (2 + a2)) (by decide) rfl rfl rfl ⟨Nat.le_of_ble_eq_true rfl, Nat.le_of_ble_eq_true rfl⟩ ⟨(Nat.le_of_ble_eq_true rfl), (Nat.le_of_ble_eq_true rfl)⟩ (Nat.le_of_ble_eq_true rfl) rfl rfl (fun r26 M27 => ?_)
    refine s_iload_n hX dX10_acquires_101 rfl ?_
    refine s_callVu (ck1 := 0) (sk1 := 0) (ci := 8) hX dX10_acquires_102 k_X10_add q_1294 (c_X10_add n M27 a0 r26 a3) (by decide) rfl rfl rfl ⟨Nat.le_of_ble_eq_true rfl, Nat.le_of_ble_eq_true rfl⟩ ⟨(Nat.le_of_ble_eq_true rfl), (Nat.le_of_ble_eq_true rfl)⟩ (Nat.le_of_ble_eq_true rfl) rfl rfl (fun r28 M29 => ?_)
    refine s_aload_n hX dX10_acquires_105 rfl ?_
    refine s_sipush (v := 1865) hX dX10_acquires_106 ks_1865 ?_
    refine s_iload hX dX10_acquires_109 rfl ?_
    refine s_iconst (v := 1) hX dX10_acquires_111 kc_1 ?_
    refine s_iadd hX dX10_acquires_112 ?_
    refine s_callVu (ck1 := 0) (sk1 := 0) (ci := 8) hX dX10_acquires_113 k_X10_lay q_1274 (c_X10_lay n M29 a0 1865 (r1 + 1)) (by decide) rfl rfl rfl ⟨Nat.le_of_ble_eq_true rfl, Nat.le_of_ble_eq_true rfl⟩ ⟨(Nat.le_of_ble_eq_true rfl), (Nat.le_of_ble_eq_true rfl)⟩ (Nat.le_of_ble_eq_true rfl) rfl rfl (fun r30 M31 => ?_)
    refine s_iload hX dX10_acquires_116 rfl ?_
    exact s_iret hX hR dX10_acquires_118 (Nat.le_of_ble_eq_true rfl) (Nat.le_of_ble_eq_true rfl)
abbrev rm_X10_comesNow : Room := { frames := 3, cells := 0, slots := 0, locals := 71 }
theorem k_X10_comesNow : KYV yX10_comesNow cX10_comesNow 3 none 0 := ⟨⟨q_1285, q_9, by decide +kernel, by decide +kernel, by decide +kernel⟩, q_1284, p_44⟩
set_option maxHeartbeats 4000000 in
set_option maxRecDepth 100000 in
theorem c_X10_comesNow (n : Nat) (M0 : MemT) (a0 : Nat) : Ct iU yX10_comesNow cX10_comesNow 3 none rm_X10_comesNow [.ref a0] M0 (g_X10_comesNow n M0 a0) := by
  unfold g_X10_comesNow
  refine ct_intro RX10 2 [some (.ref a0), none, none] rfl (by decide +kernel) rfl (Nat.le_of_ble_eq_true rfl) (fun X A hX hnm hR => ?_)
  refine s_aload_n hX dX10_comesNow_0 rfl ?_
  refine s_iconst (v := 0) hX dX10_comesNow_1 kc_0 ?_
  refine s_callVi (ck1 := 0) (sk1 := 0) (ci := 8) hX dX10_comesNow_2 k_X10_of q_1286 (c_X10_of n M0 a0 0) (by decide) rfl rfl rfl ⟨Nat.le_of_ble_eq_true rfl, Nat.le_of_ble_eq_true rfl⟩ ⟨(Nat.le_of_ble_eq_true rfl), (Nat.le_of_ble_eq_true rfl)⟩ (Nat.le_of_ble_eq_true rfl) rfl rfl (fun r1 M2 => ?_)
  refine s_istore1 hX dX10_comesNow_5 (by first | exact trivial | exact rfl) (Nat.le_of_ble_eq_true rfl) ?_
  refine s_iconst (v := 0) hX dX10_comesNow_6 kc_0 ?_
  refine s_istore2 hX dX10_comesNow_7 (by first | exact trivial | exact rfl) (Nat.le_of_ble_eq_true rfl) ?_
  refine s_loopE (stk := []) (fun (s : MemT × Int32) => [some (.ref a0), some (.int r1), some (.int s.2)]) (fun (s : MemT × Int32) => s.1) 75 (fun (s : MemT × Int32) => [some (.ref a0), some (.int r1), some (.int s.2)]) (fun s B5 hB5 hE5 => ?_) (fun s => ?_) n (M2, 0)
  · obtain ⟨M3, v4⟩ := s
    dsimp only
    refine s_iload_n hX dX10_comesNow_8 rfl ?_
    refine s_aload_n hX dX10_comesNow_9 rfl ?_
    refine s_getO hX dX10_comesNow_10 q_1323 rfl (fun j6 => ?_)
    refine s_iconst (v := 4) hX dX10_comesNow_13 kc_4 ?_
    refine s_iald hX dX10_comesNow_14 (fun v7 => ?_)
    refine s_icge (tgt := 75) hX dX10_comesNow_15 rfl ?_ ?_
    · exact s_exit hE5
    · refine s_aload_n hX dX10_comesNow_18 rfl ?_
      refine s_getO hX dX10_comesNow_19 q_1320 rfl (fun j8 => ?_)
      refine s_iconst (v := 4) hX dX10_comesNow_22 kc_4 ?_
      refine s_iload_n hX dX10_comesNow_23 rfl ?_
      refine s_imul hX dX10_comesNow_24 ?_
      refine s_iconst (v := 1) hX dX10_comesNow_25 kc_1 ?_
      refine s_iadd hX dX10_comesNow_26 ?_
      refine s_iald hX dX10_comesNow_27 (fun v9 => ?_)
      refine s_iload_n hX dX10_comesNow_28 rfl ?_
      refine s_icne (tgt := 69) hX dX10_comesNow_29 rfl ?_ ?_
      · refine s_aload_n hX dX10_comesNow_32 rfl ?_
        refine s_aload_n hX dX10_comesNow_33 rfl ?_
        refine s_aload_n hX dX10_comesNow_34 rfl ?_
        refine s_getO hX dX10_comesNow_35 q_1320 rfl (fun j10 => ?_)
        refine s_iconst (v := 4) hX dX10_comesNow_38 kc_4 ?_
        refine s_iload_n hX dX10_comesNow_39 rfl ?_
        refine s_imul hX dX10_comesNow_40 ?_
        refine s_iald hX dX10_comesNow_41 (fun v11 => ?_)
        refine s_iload_n hX dX10_comesNow_42 rfl ?_
        refine s_aload_n hX dX10_comesNow_43 rfl ?_
        refine s_getO hX dX10_comesNow_44 q_1320 rfl (fun j12 => ?_)
        refine s_iconst (v := 4) hX dX10_comesNow_47 kc_4 ?_
        refine s_iload_n hX dX10_comesNow_48 rfl ?_
        refine s_imul hX dX10_comesNow_49 ?_
        refine s_iconst (v := 2) hX dX10_comesNow_50 kc_2 ?_
        refine s_iadd hX dX10_comesNow_51 ?_
        refine s_iald hX dX10_comesNow_52 (fun v13 => ?_)
        refine s_callVi (ck1 := 0) (sk1 := 0) (ci := 8) hX dX10_comesNow_53 k_X10_sumAt q_1290 (c_X10_sumAt n M3 a0 v11 r1 v13) (by decide) rfl rfl rfl ⟨Nat.le_of_ble_eq_true rfl, Nat.le_of_ble_eq_true rfl⟩ ⟨(Nat.le_of_ble_eq_true rfl), (Nat.le_of_ble_eq_true rfl)⟩ (Nat.le_of_ble_eq_true rfl) rfl rfl (fun r14 M15 => ?_)
        refine s_aload_n hX dX10_comesNow_56 rfl ?_
        refine s_getO hX dX10_comesNow_57 q_1320 rfl (fun j16 => ?_)
        refine s_iconst (v := 4) hX dX10_comesNow_60 kc_4 ?_
        refine s_iload_n hX dX10_comesNow_61 rfl ?_
        refine s_imul hX dX10_comesNow_62 ?_
        refine s_iconst (v := 3) hX dX10_comesNow_63 kc_3 ?_
        refine s_iadd hX dX10_comesNow_64 ?_
        refine s_iald hX dX10_comesNow_65 (fun v17 => ?_)
        refine s_callVu (ck1 := 0) (sk1 := 0) (ci := 8) hX dX10_comesNow_66 k_X10_add q_1294 (c_X10_add n M15 a0 r14 v17) (by decide) rfl rfl rfl ⟨Nat.le_of_ble_eq_true rfl, Nat.le_of_ble_eq_true rfl⟩ ⟨(Nat.le_of_ble_eq_true rfl), (Nat.le_of_ble_eq_true rfl)⟩ (Nat.le_of_ble_eq_true rfl) rfl rfl (fun r18 M19 => ?_)
        refine s_iinc2 (v := v4 + 1) hX dX10_comesNow_69 rfl (by first | exact trivial | exact rfl) (Nat.le_of_ble_eq_true rfl) ?_
        refine s_goto (tgt := 8) hX dX10_comesNow_72 rfl ?_
        exact s_back hB5
      · refine s_iinc2 (v := v4 + 1) hX dX10_comesNow_69 rfl (by first | exact trivial | exact rfl) (Nat.le_of_ble_eq_true rfl) ?_
        refine s_goto (tgt := 8) hX dX10_comesNow_72 rfl ?_
        exact s_back hB5
  · obtain ⟨M20, v21⟩ := s
    dsimp only
    refine s_iconst (v := 0) hX dX10_comesNow_75 kc_0 ?_
    refine s_istore2 hX dX10_comesNow_76 (by first | exact trivial | exact rfl) (Nat.le_of_ble_eq_true rfl) ?_
    refine s_loopE (stk := []) (fun (s : MemT × Int32) => [some (.ref a0), some (.int r1), some (.int s.2)]) (fun (s : MemT × Int32) => s.1) 146 (fun (s : MemT × Int32) => [some (.ref a0), some (.int r1), some (.int s.2)]) (fun s B24 hB24 hE24 => ?_) (fun s => ?_) n (M20, 0)
    · obtain ⟨M22, v23⟩ := s
      dsimp only
      refine s_iload_n hX dX10_comesNow_77 rfl ?_
      refine s_aload_n hX dX10_comesNow_78 rfl ?_
      refine s_getO hX dX10_comesNow_79 q_1323 rfl (fun j25 => ?_)
      refine s_iconst (v := 5) hX dX10_comesNow_82 kc_5 ?_
      refine s_iald hX dX10_comesNow_83 (fun v26 => ?_)
      refine s_icge (tgt := 146) hX dX10_comesNow_84 rfl ?_ ?_
      · exact s_exit hE24
      · refine s_aload_n hX dX10_comesNow_87 rfl ?_
        refine s_getO hX dX10_comesNow_88 q_1321 rfl (fun j27 => ?_)
        refine s_iconst (v := 4) hX dX10_comesNow_91 kc_4 ?_
        refine s_iload_n hX dX10_comesNow_92 rfl ?_
        refine s_imul hX dX10_comesNow_93 ?_
        refine s_iconst (v := 1) hX dX10_comesNow_94 kc_1 ?_
        refine s_iadd hX dX10_comesNow_95 ?_
        refine s_iald hX dX10_comesNow_96 (fun v28 => ?_)
        refine s_iload_n hX dX10_comesNow_97 rfl ?_
        refine s_icne (tgt := 140) hX dX10_comesNow_98 rfl ?_ ?_
        · refine s_aload_n hX dX10_comesNow_101 rfl ?_
          refine s_aload_n hX dX10_comesNow_102 rfl ?_
          refine s_aload_n hX dX10_comesNow_103 rfl ?_
          refine s_getO hX dX10_comesNow_104 q_1321 rfl (fun j29 => ?_)
          refine s_iconst (v := 4) hX dX10_comesNow_107 kc_4 ?_
          refine s_iload_n hX dX10_comesNow_108 rfl ?_
          refine s_imul hX dX10_comesNow_109 ?_
          refine s_iald hX dX10_comesNow_110 (fun v30 => ?_)
          refine s_iload_n hX dX10_comesNow_111 rfl ?_
          refine s_iconst (v := 2) hX dX10_comesNow_112 kc_2 ?_
          refine s_aload_n hX dX10_comesNow_113 rfl ?_
          refine s_getO hX dX10_comesNow_114 q_1321 rfl (fun j31 => ?_)
          refine s_iconst (v := 4) hX dX10_comesNow_117 kc_4 ?_
          refine s_iload_n hX dX10_comesNow_118 rfl ?_
          refine s_imul hX dX10_comesNow_119 ?_
          refine s_iconst (v := 2) hX dX10_comesNow_120 kc_2 ?_
          refine s_iadd hX dX10_comesNow_121 ?_
          refine s_iald hX dX10_comesNow_122 (fun v32 => ?_)
          refine s_iadd hX dX10_comesNow_123 ?_
          refine s_callVi (ck1 := 0) (sk1 := 0) (ci := 8) hX dX10_comesNow_124 k_X10_sumAt q_1290 (c_X10_sumAt n M22 a0 v30 r1 (2 + v32)) (by decide) rfl rfl rfl ⟨Nat.le_of_ble_eq_true rfl, Nat.le_of_ble_eq_true rfl⟩ ⟨(Nat.le_of_ble_eq_true rfl), (Nat.le_of_ble_eq_true rfl)⟩ (Nat.le_of_ble_eq_true rfl) rfl rfl (fun r33 M34 => ?_)
          refine s_aload_n hX dX10_comesNow_127 rfl ?_
          refine s_getO hX dX10_comesNow_128 q_1321 rfl (fun j35 => ?_)
          refine s_iconst (v := 4) hX dX10_comesNow_131 kc_4 ?_
          refine s_iload_n hX dX10_comesNow_132 rfl ?_
          refine s_imul hX dX10_comesNow_133 ?_
          refine s_iconst (v := 3) hX dX10_comesNow_134 kc_3 ?_
          refine s_iadd hX dX10_comesNow_135 ?_
          refine s_iald hX dX10_comesNow_136 (fun v36 => ?_)
          refine s_callVu (ck1 := 0) (sk1 := 0) (ci := 8) hX dX10_comesNow_137 k_X10_add q_1294 (c_X10_add n M34 a0 r33 v36) (by decide) rfl rfl rfl ⟨Nat.le_of_ble_eq_true rfl, Nat.le_of_ble_eq_true rfl⟩ ⟨(Nat.le_of_ble_eq_true rfl), (Nat.le_of_ble_eq_true rfl)⟩ (Nat.le_of_ble_eq_true rfl) rfl rfl (fun r37 M38 => ?_)
          refine s_iinc2 (v := v23 + 1) hX dX10_comesNow_140 rfl (by first | exact trivial | exact rfl) (Nat.le_of_ble_eq_true rfl) ?_
          refine s_goto (tgt := 77) hX dX10_comesNow_143 rfl ?_
          exact s_back hB24
        · refine s_iinc2 (v := v23 + 1) hX dX10_comesNow_140 rfl (by first | exact trivial | exact rfl) (Nat.le_of_ble_eq_true rfl) ?_
          refine s_goto (tgt := 77) hX dX10_comesNow_143 rfl ?_
          exact s_back hB24
    · obtain ⟨M39, v40⟩ := s
      dsimp only
      refine s_iconst (v := 0) hX dX10_comesNow_146 kc_0 ?_
      refine s_istore2 hX dX10_comesNow_147 (by first | exact trivial | exact rfl) (Nat.le_of_ble_eq_true rfl) ?_
      refine s_loopE (stk := []) (fun (s : MemT × Int32) => [some (.ref a0), some (.int r1), some (.int s.2)]) (fun (s : MemT × Int32) => s.1) 234 (fun (s : MemT × Int32) => [some (.ref a0), some (.int r1), some (.int s.2)]) (fun s B43 hB43 hE43 => ?_) (fun s => ?_) n (M39, 0)
      · obtain ⟨M41, v42⟩ := s
        dsimp only
        refine s_iload_n hX dX10_comesNow_148 rfl ?_
        refine s_aload_n hX dX10_comesNow_149 rfl ?_
        refine s_getO hX dX10_comesNow_150 q_1323 rfl (fun j44 => ?_)
        refine s_bipush (v := 6) hX dX10_comesNow_153 kb_6 ?_
        refine s_iald hX dX10_comesNow_155 (fun v45 => ?_)
        refine s_icge (tgt := 234) hX dX10_comesNow_156 rfl ?_ ?_
        · exact s_exit hE43
        · refine s_aload_n hX dX10_comesNow_159 rfl ?_
          refine s_getO hX dX10_comesNow_160 q_1322 rfl (fun j46 => ?_)
          refine s_iconst (v := 5) hX dX10_comesNow_163 kc_5 ?_
          refine s_iload_n hX dX10_comesNow_164 rfl ?_
          refine s_imul hX dX10_comesNow_165 ?_
          refine s_iconst (v := 1) hX dX10_comesNow_166 kc_1 ?_
          refine s_iadd hX dX10_comesNow_167 ?_
          refine s_iald hX dX10_comesNow_168 (fun v47 => ?_)
          refine s_iload_n hX dX10_comesNow_169 rfl ?_
          refine s_icne (tgt := 228) hX dX10_comesNow_170 rfl ?_ ?_
          · refine s_aload_n hX dX10_comesNow_173 rfl ?_
            refine s_sipush (v := 1865) hX dX10_comesNow_174 ks_1865 ?_
            refine s_callVi (ck1 := 0) (sk1 := 0) (ci := 8) hX dX10_comesNow_177 k_X10_of q_1286 (c_X10_of n M41 a0 1865) (by decide) rfl rfl rfl ⟨Nat.le_of_ble_eq_true rfl, Nat.le_of_ble_eq_true rfl⟩ ⟨(Nat.le_of_ble_eq_true rfl), (Nat.le_of_ble_eq_true rfl)⟩ (Nat.le_of_ble_eq_true rfl) rfl rfl (fun r48 M49 => ?_)
            refine s_bipush (v := 8) hX dX10_comesNow_180 kb_8 ?_
            refine s_icge (tgt := 228) hX dX10_comesNow_182 rfl ?_ ?_
            · refine s_iinc2 (v := v42 + 1) hX dX10_comesNow_228 rfl (by first | exact trivial | exact rfl) (Nat.le_of_ble_eq_true rfl) ?_
              refine s_goto (tgt := 148) hX dX10_comesNow_231 rfl ?_
              exact s_back hB43
            · refine s_aload_n hX dX10_comesNow_185 rfl ?_
              refine s_aload_n hX dX10_comesNow_186 rfl ?_
              refine s_getO hX dX10_comesNow_187 q_1322 rfl (fun j50 => ?_)
              refine s_iconst (v := 5) hX dX10_comesNow_190 kc_5 ?_
              refine s_iload_n hX dX10_comesNow_191 rfl ?_
              refine s_imul hX dX10_comesNow_192 ?_
              refine s_iald hX dX10_comesNow_193 (fun v51 => ?_)
              refine s_aload_n hX dX10_comesNow_194 rfl ?_
              refine s_getO hX dX10_comesNow_195 q_1322 rfl (fun j52 => ?_)
              refine s_iconst (v := 5) hX dX10_comesNow_198 kc_5 ?_
              refine s_iload_n hX dX10_comesNow_199 rfl ?_
              refine s_imul hX dX10_comesNow_200 ?_
              refine s_iconst (v := 2) hX dX10_comesNow_201 kc_2 ?_
              refine s_iadd hX dX10_comesNow_202 ?_
              refine s_iald hX dX10_comesNow_203 (fun v53 => ?_)
              refine s_aload_n hX dX10_comesNow_204 rfl ?_
              refine s_getO hX dX10_comesNow_205 q_1322 rfl (fun j54 => ?_)
              refine s_iconst (v := 5) hX dX10_comesNow_208 kc_5 ?_
              refine s_iload_n hX dX10_comesNow_209 rfl ?_
              refine s_imul hX dX10_comesNow_210 ?_
              refine s_iconst (v := 3) hX dX10_comesNow_211 kc_3 ?_
              refine s_iadd hX dX10_comesNow_212 ?_
              refine s_iald hX dX10_comesNow_213 (fun v55 => ?_)
              refine s_aload_n hX dX10_comesNow_214 rfl ?_
              refine s_getO hX dX10_comesNow_215 q_1322 rfl (fun j56 => ?_)
              refine s_iconst (v := 5) hX dX10_comesNow_218 kc_5 ?_
              refine s_iload_n hX dX10_comesNow_219 rfl ?_
              refine s_imul hX dX10_comesNow_220 ?_
              refine s_iconst (v := 4) hX dX10_comesNow_221 kc_4 ?_
              refine s_iadd hX dX10_comesNow_222 ?_
              refine s_iald hX dX10_comesNow_223 (fun v57 => ?_)
              refine s_callVi (ck1 := 0) (sk1 := 0) (ci := 8) hX dX10_comesNow_224 k_X10_acquires q_1298 (c_X10_acquires n M49 a0 v51 v53 v55 v57) (by decide) rfl rfl rfl ⟨Nat.le_of_ble_eq_true rfl, Nat.le_of_ble_eq_true rfl⟩ ⟨(Nat.le_of_ble_eq_true rfl), (Nat.le_of_ble_eq_true rfl)⟩ (Nat.le_of_ble_eq_true rfl) rfl rfl (fun r58 M59 => ?_)
              refine s_pop hX dX10_comesNow_227 rfl ?_
              refine s_iinc2 (v := v42 + 1) hX dX10_comesNow_228 rfl (by first | exact trivial | exact rfl) (Nat.le_of_ble_eq_true rfl) ?_
              refine s_goto (tgt := 148) hX dX10_comesNow_231 rfl ?_
              exact s_back hB43
          · refine s_iinc2 (v := v42 + 1) hX dX10_comesNow_228 rfl (by first | exact trivial | exact rfl) (Nat.le_of_ble_eq_true rfl) ?_
            refine s_goto (tgt := 148) hX dX10_comesNow_231 rfl ?_
            exact s_back hB43
      · obtain ⟨M60, v61⟩ := s
        dsimp only
        exact s_vret hX hR dX10_comesNow_234 (Nat.le_of_ble_eq_true rfl) (Nat.le_of_ble_eq_true rfl)
abbrev rm_X10_copies : Room := { frames := 0, cells := 0, slots := 0, locals := 0 }
theorem k_X10_copies : KYS yX10_copies cX10_copies 3 none 2 := ⟨⟨q_1273, q_9, by decide +kernel, by decide +kernel, by decide +kernel⟩, q_1272⟩
set_option maxHeartbeats 4000000 in
set_option maxRecDepth 100000 in
theorem c_X10_copies (n : Nat) (M0 : MemT) (a0 : Nat) (a1 : Int32) : Ct iU yX10_copies cX10_copies 3 none rm_X10_copies [.ref a0, .int a1] M0 (g_X10_copies n M0 a0 a1) := by
  unfold g_X10_copies
  refine ct_intro RX10 1 [some (.ref a0), some (.int a1), none] rfl (by decide +kernel) rfl (Nat.le_of_ble_eq_true rfl) (fun X A hX hnm hR => ?_)
  refine s_iconst (v := 0) hX dX10_copies_0 kc_0 ?_
  refine s_istore2 hX dX10_copies_1 (by first | exact trivial | exact rfl) (Nat.le_of_ble_eq_true rfl) ?_
  refine s_loopE (stk := []) (fun (s : MemT × Int32) => [some (.ref a0), some (.int a1), some (.int s.2)]) (fun (s : MemT × Int32) => s.1) 21 (fun (s : MemT × Int32) => [some (.ref a0), some (.int a1), some (.int s.2)]) (fun s B3 hB3 hE3 => ?_) (fun s => ?_) n (M0, 0)
  · obtain ⟨M1, v2⟩ := s
    dsimp only
    refine s_iload_n hX dX10_copies_2 rfl ?_
    refine s_iload_n hX dX10_copies_3 rfl ?_
    refine s_icge (tgt := 21) hX dX10_copies_4 rfl ?_ ?_
    · exact s_exit hE3
    · refine s_aload_n hX dX10_copies_7 rfl ?_
      refine s_iload_n hX dX10_copies_8 rfl ?_
      refine s_aload_n hX dX10_copies_9 rfl ?_
      refine s_iload_n hX dX10_copies_10 rfl ?_
      refine s_iload_n hX dX10_copies_11 rfl ?_
      refine s_iadd hX dX10_copies_12 ?_
      refine s_iald hX dX10_copies_13 (fun v4 => ?_)
      refine s_iast hX dX10_copies_14 (fun M5 => ?_)
      refine s_iinc2 (v := v2 + 1) hX dX10_copies_15 rfl (by first | exact trivial | exact rfl) (Nat.le_of_ble_eq_true rfl) ?_
      refine s_goto (tgt := 2) hX dX10_copies_18 rfl ?_
      exact s_back hB3
  · obtain ⟨M6, v7⟩ := s
    dsimp only
    exact s_vret hX hR dX10_copies_21 (Nat.le_of_ble_eq_true rfl) (Nat.le_of_ble_eq_true rfl)
abbrev rm_X10_told1 : Room := { frames := 0, cells := 0, slots := 0, locals := 0 }
theorem k_X10_told1 : KYV yX10_told1 cX10_told1 3 (some .int) 2 := ⟨⟨q_1281, q_9, by decide +kernel, by decide +kernel, by decide +kernel⟩, q_1280, p_43⟩
set_option maxHeartbeats 4000000 in
set_option maxRecDepth 100000 in
theorem c_X10_told1 (n : Nat) (M0 : MemT) (a0 : Nat) (a1 : Int32) (a2 : Int32) : Ct iI yX10_told1 cX10_told1 3 (some .int) rm_X10_told1 [.ref a0, .int a1, .int a2] M0 (g_X10_told1 n M0 a0 a1 a2) := by
  unfold g_X10_told1
  refine ct_intro RX10 0 [some (.ref a0), some (.int a1), some (.int a2)] rfl (by decide +kernel) rfl (Nat.le_of_ble_eq_true rfl) (fun X A hX hnm hR => ?_)
  refine s_aload_n hX dX10_told1_0 rfl ?_
  refine s_getO hX dX10_told1_1 q_1319 rfl (fun j1 => ?_)
  refine s_bipush (v := 8) hX dX10_told1_4 kb_8 ?_
  refine s_iload_n hX dX10_told1_6 rfl ?_
  refine s_imul hX dX10_told1_7 ?_
  refine s_iload_n hX dX10_told1_8 rfl ?_
  refine s_iadd hX dX10_told1_9 ?_
  refine s_iald hX dX10_told1_10 (fun v2 => ?_)
  exact s_iret hX hR dX10_told1_11 (Nat.le_of_ble_eq_true rfl) (Nat.le_of_ble_eq_true rfl)
abbrev rm_X10_keepText : Room := { frames := 4, cells := 0, slots := 0, locals := 93 }
theorem k_X10_keepText : KYV yX10_keepText cX10_keepText 2 none 0 := ⟨⟨q_1270, q_9, by decide +kernel, by decide +kernel, by decide +kernel⟩, q_1269, p_41⟩
set_option maxHeartbeats 4000000 in
set_option maxRecDepth 100000 in
theorem c_X10_keepText (n : Nat) (M0 : MemT) (a0 : Nat) : Ct iU yX10_keepText cX10_keepText 2 none rm_X10_keepText [.ref a0] M0 (g_X10_keepText n M0 a0) := by
  unfold g_X10_keepText
  refine ct_intro RX10 1 [some (.ref a0), none] rfl (by decide +kernel) rfl (Nat.le_of_ble_eq_true rfl) (fun X A hX hnm hR => ?_)
  refine s_aload_n hX dX10_keepText_0 rfl ?_
  refine s_aload_n hX dX10_keepText_1 rfl ?_
  refine s_getI hX dX10_keepText_2 q_1318 rfl (fun v1 => ?_)
  refine s_putI hX dX10_keepText_5 q_1317 rfl rfl (fun M2 => ?_)
  refine s_aload_n hX dX10_keepText_8 rfl ?_
  refine s_getO hX dX10_keepText_9 q_1319 rfl (fun j3 => ?_)
  refine s_bipush (v := 32) hX dX10_keepText_12 kb_32 ?_
  refine s_callSu (ck1 := 0) (sk1 := 0) hX dX10_keepText_14 k_X10_copies q_1271 (c_X10_copies n M2 j3 32) rfl rfl ⟨Nat.le_of_ble_eq_true rfl, Nat.le_of_ble_eq_true rfl⟩ ⟨(Nat.le_of_ble_eq_true rfl), (Nat.le_of_ble_eq_true rfl)⟩ (Nat.le_of_ble_eq_true rfl) rfl rfl (fun r4 M5 => ?_)
  refine s_aload_n hX dX10_keepText_17 rfl ?_
  refine s_getO hX dX10_keepText_18 q_1320 rfl (fun j6 => ?_)
  refine s_bipush (v := 48) hX dX10_keepText_21 kb_48 ?_
  refine s_callSu (ck1 := 0) (sk1 := 0) hX dX10_keepText_23 k_X10_copies q_1271 (c_X10_copies n M5 j6 48) rfl rfl ⟨Nat.le_of_ble_eq_true rfl, Nat.le_of_ble_eq_true rfl⟩ ⟨(Nat.le_of_ble_eq_true rfl), (Nat.le_of_ble_eq_true rfl)⟩ (Nat.le_of_ble_eq_true rfl) rfl rfl (fun r7 M8 => ?_)
  refine s_aload_n hX dX10_keepText_26 rfl ?_
  refine s_getO hX dX10_keepText_27 q_1321 rfl (fun j9 => ?_)
  refine s_bipush (v := 48) hX dX10_keepText_30 kb_48 ?_
  refine s_callSu (ck1 := 0) (sk1 := 0) hX dX10_keepText_32 k_X10_copies q_1271 (c_X10_copies n M8 j9 48) rfl rfl ⟨Nat.le_of_ble_eq_true rfl, Nat.le_of_ble_eq_true rfl⟩ ⟨(Nat.le_of_ble_eq_true rfl), (Nat.le_of_ble_eq_true rfl)⟩ (Nat.le_of_ble_eq_true rfl) rfl rfl (fun r10 M11 => ?_)
  refine s_aload_n hX dX10_keepText_35 rfl ?_
  refine s_getO hX dX10_keepText_36 q_1322 rfl (fun j12 => ?_)
  refine s_bipush (v := 20) hX dX10_keepText_39 kb_20 ?_
  refine s_callSu (ck1 := 0) (sk1 := 0) hX dX10_keepText_41 k_X10_copies q_1271 (c_X10_copies n M11 j12 20) rfl rfl ⟨Nat.le_of_ble_eq_true rfl, Nat.le_of_ble_eq_true rfl⟩ ⟨(Nat.le_of_ble_eq_true rfl), (Nat.le_of_ble_eq_true rfl)⟩ (Nat.le_of_ble_eq_true rfl) rfl rfl (fun r13 M14 => ?_)
  refine s_aload_n hX dX10_keepText_44 rfl ?_
  refine s_getO hX dX10_keepText_45 q_1323 rfl (fun j15 => ?_)
  refine s_bipush (v := 7) hX dX10_keepText_48 kb_7 ?_
  refine s_callSu (ck1 := 0) (sk1 := 0) hX dX10_keepText_50 k_X10_copies q_1271 (c_X10_copies n M14 j15 7) rfl rfl ⟨Nat.le_of_ble_eq_true rfl, Nat.le_of_ble_eq_true rfl⟩ ⟨(Nat.le_of_ble_eq_true rfl), (Nat.le_of_ble_eq_true rfl)⟩ (Nat.le_of_ble_eq_true rfl) rfl rfl (fun r16 M17 => ?_)
  refine s_aload_n hX dX10_keepText_53 rfl ?_
  refine s_iconst (v := 0) hX dX10_keepText_54 kc_0 ?_
  refine s_putI hX dX10_keepText_55 q_1327 rfl rfl (fun M18 => ?_)
  refine s_aload_n hX dX10_keepText_58 rfl ?_
  refine s_iconst (v := 0) hX dX10_keepText_59 kc_0 ?_
  refine s_putI hX dX10_keepText_60 q_1328 rfl rfl (fun M19 => ?_)
  refine s_aload_n hX dX10_keepText_63 rfl ?_
  refine s_iconst (v := 0) hX dX10_keepText_64 kc_0 ?_
  refine s_putZ hX dX10_keepText_65 q_1329 rfl rfl (fun M20 => ?_)
  refine s_iconst (v := 0) hX dX10_keepText_68 kc_0 ?_
  refine s_istore1 hX dX10_keepText_69 (by first | exact trivial | exact rfl) (Nat.le_of_ble_eq_true rfl) ?_
  refine s_loopE (stk := []) (fun (s : MemT × Int32) => [some (.ref a0), some (.int s.2)]) (fun (s : MemT × Int32) => s.1) 89 (fun (s : MemT × Int32) => [some (.ref a0), some (.int s.2)]) (fun s B23 hB23 hE23 => ?_) (fun s => ?_) n (M20, 0)
  · obtain ⟨M21, v22⟩ := s
    dsimp only
    refine s_iload_n hX dX10_keepText_70 rfl ?_
    refine s_sipush (v := 2468) hX dX10_keepText_71 ks_2468 ?_
    refine s_icge (tgt := 89) hX dX10_keepText_74 rfl ?_ ?_
    · exact s_exit hE23
    · refine s_aload_n hX dX10_keepText_77 rfl ?_
      refine s_iload_n hX dX10_keepText_78 rfl ?_
      refine s_iconst (v := 0) hX dX10_keepText_79 kc_0 ?_
      refine s_callVu (ck1 := 0) (sk1 := 0) (ci := 8) hX dX10_keepText_80 k_X10_lay q_1274 (c_X10_lay n M21 a0 v22 0) (by decide) rfl rfl rfl ⟨Nat.le_of_ble_eq_true rfl, Nat.le_of_ble_eq_true rfl⟩ ⟨(Nat.le_of_ble_eq_true rfl), (Nat.le_of_ble_eq_true rfl)⟩ (Nat.le_of_ble_eq_true rfl) rfl rfl (fun r24 M25 => ?_)
      refine s_iinc1 (v := v22 + 1) hX dX10_keepText_83 rfl (by first | exact trivial | exact rfl) (Nat.le_of_ble_eq_true rfl) ?_
      refine s_goto (tgt := 70) hX dX10_keepText_86 rfl ?_
      exact s_back hB23
  · obtain ⟨M26, v27⟩ := s
    dsimp only
    refine s_iconst (v := 0) hX dX10_keepText_89 kc_0 ?_
    refine s_istore1 hX dX10_keepText_90 (by first | exact trivial | exact rfl) (Nat.le_of_ble_eq_true rfl) ?_
    refine s_loopE (stk := []) (fun (s : MemT × Int32) => [some (.ref a0), some (.int s.2)]) (fun (s : MemT × Int32) => s.1) 141 (fun (s : MemT × Int32) => [some (.ref a0), some (.int s.2)]) (fun s B30 hB30 hE30 => ?_) (fun s => ?_) n (M26, 0)
    · obtain ⟨M28, v29⟩ := s
      dsimp only
      refine s_iload_n hX dX10_keepText_91 rfl ?_
      refine s_aload_n hX dX10_keepText_92 rfl ?_
      refine s_getI hX dX10_keepText_93 q_1317 rfl (fun v31 => ?_)
      refine s_icge (tgt := 141) hX dX10_keepText_96 rfl ?_ ?_
      · exact s_exit hE30
      · refine s_aload_n hX dX10_keepText_99 rfl ?_
        refine s_sipush (v := 1281) hX dX10_keepText_100 ks_1281 ?_
        refine s_iconst (v := 2) hX dX10_keepText_103 kc_2 ?_
        refine s_iload_n hX dX10_keepText_104 rfl ?_
        refine s_imul hX dX10_keepText_105 ?_
        refine s_iadd hX dX10_keepText_106 ?_
        refine s_aload_n hX dX10_keepText_107 rfl ?_
        refine s_iload_n hX dX10_keepText_108 rfl ?_
        refine s_iconst (v := 4) hX dX10_keepText_109 kc_4 ?_
        refine s_callVi (ck1 := 0) (sk1 := 0) (ci := 8) hX dX10_keepText_110 k_X10_told1 q_1278 (c_X10_told1 n M28 a0 v29 4) (by decide) rfl rfl rfl ⟨Nat.le_of_ble_eq_true rfl, Nat.le_of_ble_eq_true rfl⟩ ⟨(Nat.le_of_ble_eq_true rfl), (Nat.le_of_ble_eq_true rfl)⟩ (Nat.le_of_ble_eq_true rfl) rfl rfl (fun r32 M33 => ?_)
        refine s_callVu (ck1 := 0) (sk1 := 0) (ci := 8) hX dX10_keepText_113 k_X10_lay q_1274 (c_X10_lay n M33 a0 (1281 + (2 * v29)) r32) (by decide) rfl rfl rfl ⟨Nat.le_of_ble_eq_true rfl, Nat.le_of_ble_eq_true rfl⟩ ⟨(Nat.le_of_ble_eq_true rfl), (Nat.le_of_ble_eq_true rfl)⟩ (Nat.le_of_ble_eq_true rfl) rfl rfl (fun r34 M35 => ?_)
        refine s_aload_n hX dX10_keepText_116 rfl ?_
        refine s_sipush (v := 1281) hX dX10_keepText_117 ks_1281 ?_
        refine s_iconst (v := 2) hX dX10_keepText_120 kc_2 ?_
        refine s_iload_n hX dX10_keepText_121 rfl ?_
        refine s_imul hX dX10_keepText_122 ?_
        refine s_iadd hX dX10_keepText_123 ?_
        refine s_iconst (v := 1) hX dX10_keepText_124 kc_1 ?_
        refine s_iadd hX dX10_keepText_125 ?_
        refine s_aload_n hX dX10_keepText_126 rfl ?_
        refine s_iload_n hX dX10_keepText_127 rfl ?_
        refine s_iconst (v := 5) hX dX10_keepText_128 kc_5 ?_
        refine s_callVi (ck1 := 0) (sk1 := 0) (ci := 8) hX dX10_keepText_129 k_X10_told1 q_1278 (c_X10_told1 n M35 a0 v29 5) (by decide) rfl rfl rfl ⟨Nat.le_of_ble_eq_true rfl, Nat.le_of_ble_eq_true rfl⟩ ⟨(Nat.le_of_ble_eq_true rfl), (Nat.le_of_ble_eq_true rfl)⟩ (Nat.le_of_ble_eq_true rfl) rfl rfl (fun r36 M37 => ?_)
        refine s_callVu (ck1 := 0) (sk1 := 0) (ci := 8) hX dX10_keepText_132 k_X10_lay q_1274 (c_X10_lay n M37 a0 ((1281 + (2 * v29)) + 1) r36) (by decide) rfl rfl rfl ⟨Nat.le_of_ble_eq_true rfl, Nat.le_of_ble_eq_true rfl⟩ ⟨(Nat.le_of_ble_eq_true rfl), (Nat.le_of_ble_eq_true rfl)⟩ (Nat.le_of_ble_eq_true rfl) rfl rfl (fun r38 M39 => ?_)
        refine s_iinc1 (v := v29 + 1) hX dX10_keepText_135 rfl (by first | exact trivial | exact rfl) (Nat.le_of_ble_eq_true rfl) ?_
        refine s_goto (tgt := 91) hX dX10_keepText_138 rfl ?_
        exact s_back hB30
    · obtain ⟨M40, v41⟩ := s
      dsimp only
      refine s_aload_n hX dX10_keepText_141 rfl ?_
      refine s_callVu (ck1 := 0) (sk1 := 0) (ci := 8) hX dX10_keepText_142 k_X10_comesNow q_1282 (c_X10_comesNow n M40 a0) (by decide) rfl rfl rfl ⟨Nat.le_of_ble_eq_true rfl, Nat.le_of_ble_eq_true rfl⟩ ⟨(Nat.le_of_ble_eq_true rfl), (Nat.le_of_ble_eq_true rfl)⟩ (Nat.le_of_ble_eq_true rfl) rfl rfl (fun r42 M43 => ?_)
      exact s_vret hX hR dX10_keepText_145 (Nat.le_of_ble_eq_true rfl) (Nat.le_of_ble_eq_true rfl)
abbrev rm_X10_plain : Room := { frames := 0, cells := 0, slots := 0, locals := 0 }
theorem k_X10_plain : KYV yX10_plain cX10_plain 2 none 0 := ⟨⟨q_1266, q_9, by decide +kernel, by decide +kernel, by decide +kernel⟩, q_1265, p_40⟩
set_option maxHeartbeats 4000000 in
set_option maxRecDepth 100000 in
theorem c_X10_plain (n : Nat) (M0 : MemT) (a0 : Nat) : Ct iU yX10_plain cX10_plain 2 none rm_X10_plain [.ref a0] M0 (g_X10_plain n M0 a0) := by
  unfold g_X10_plain
  refine ct_intro RX10 1 [some (.ref a0), none] rfl (by decide +kernel) rfl (Nat.le_of_ble_eq_true rfl) (fun X A hX hnm hR => ?_)
  refine s_aload_n hX dX10_plain_0 rfl ?_
  refine s_iconst (v := 0) hX dX10_plain_1 kc_0 ?_
  refine s_putI hX dX10_plain_2 q_1318 rfl rfl (fun M1 => ?_)
  refine s_bipush (v := 7) hX dX10_plain_5 kb_7 ?_
  refine s_istore1 hX dX10_plain_7 (by first | exact trivial | exact rfl) (Nat.le_of_ble_eq_true rfl) ?_
  refine s_loopE (stk := []) (fun (s : MemT × Int32) => [some (.ref a0), some (.int s.2)]) (fun (s : MemT × Int32) => s.1) 27 (fun (s : MemT × Int32) => [some (.ref a0), some (.int s.2)]) (fun s B4 hB4 hE4 => ?_) (fun s => ?_) n (M1, 7)
  · obtain ⟨M2, v3⟩ := s
    dsimp only
    refine s_iload_n hX dX10_plain_8 rfl ?_
    refine s_bipush (v := 14) hX dX10_plain_9 kb_14 ?_
    refine s_icge (tgt := 27) hX dX10_plain_11 rfl ?_ ?_
    · exact s_exit hE4
    · refine s_aload_n hX dX10_plain_14 rfl ?_
      refine s_getO hX dX10_plain_15 q_1323 rfl (fun j5 => ?_)
      refine s_iload_n hX dX10_plain_18 rfl ?_
      refine s_iconst (v := 0) hX dX10_plain_19 kc_0 ?_
      refine s_iast hX dX10_plain_20 (fun M6 => ?_)
      refine s_iinc1 (v := v3 + 1) hX dX10_plain_21 rfl (by first | exact trivial | exact rfl) (Nat.le_of_ble_eq_true rfl) ?_
      refine s_goto (tgt := 8) hX dX10_plain_24 rfl ?_
      exact s_back hB4
  · obtain ⟨M7, v8⟩ := s
    dsimp only
    refine s_aload_n hX dX10_plain_27 rfl ?_
    refine s_getO hX dX10_plain_28 q_1323 rfl (fun j9 => ?_)
    refine s_bipush (v := 8) hX dX10_plain_31 kb_8 ?_
    refine s_bipush (v := 100) hX dX10_plain_33 kb_100 ?_
    refine s_iast hX dX10_plain_35 (fun M10 => ?_)
    refine s_aload_n hX dX10_plain_36 rfl ?_
    refine s_iconst (v := 0) hX dX10_plain_37 kc_0 ?_
    refine s_putI hX dX10_plain_38 q_1324 rfl rfl (fun M11 => ?_)
    exact s_vret hX hR dX10_plain_41 (Nat.le_of_ble_eq_true rfl) (Nat.le_of_ble_eq_true rfl)
abbrev rm_X10_init : Room := { frames := 5, cells := 9, slots := 57847, locals := 114 }
theorem k_X10_init : KYI yX10_init cX10_init 1 0 := ⟨⟨q_1260, q_9, by decide +kernel, by decide +kernel, by decide +kernel⟩, rfl, q_1259⟩
set_option maxHeartbeats 4000000 in
set_option maxRecDepth 100000 in
theorem c_X10_init (n : Nat) (M0 : MemT) (a0 : Nat) : Ct iU yX10_init cX10_init 1 none rm_X10_init [.ref a0] M0 (g_X10_init n M0 a0) := by
  unfold g_X10_init
  refine ct_intro RX10 0 [some (.ref a0)] rfl (by decide +kernel) rfl (Nat.le_of_ble_eq_true rfl) (fun X A hX hnm hR => ?_)
  refine s_aload_n hX dX10_init_0 rfl ?_
  refine s_objInit hX dX10_init_1 q_1261 q_31 q_32 (Nat.le_of_ble_eq_true rfl) (Nat.le_of_ble_eq_true rfl) ?_
  refine s_aload_n hX dX10_init_4 rfl ?_
  refine s_sipush (v := 700) hX dX10_init_5 ks_700 ?_
  refine s_newaI (N := 700) (ck1 := 1) (sk1 := 700) hX dX10_init_8 q_186 (by decide) (by decide) (by decide) (Nat.le_of_ble_eq_true rfl) (Nat.le_of_ble_eq_true rfl) rfl rfl (fun j1 M2 => ?_)
  refine s_putOF hX dX10_init_10 q_1306 rfl rfl hnm rfl (fun M3 => ?_)
  refine s_aload_n hX dX10_init_13 rfl ?_
  refine s_bipush (v := 68) hX dX10_init_14 kb_68 ?_
  refine s_newaI (N := 68) (ck1 := 2) (sk1 := 768) hX dX10_init_16 q_186 (by decide) (by decide) (by decide) (Nat.le_of_ble_eq_true rfl) (Nat.le_of_ble_eq_true rfl) rfl rfl (fun j4 M5 => ?_)
  refine s_dup hX dX10_init_18 rfl ?_
  refine s_iconst (v := 0) hX dX10_init_19 kc_0 ?_
  refine s_bipush (v := 116) hX dX10_init_20 kb_116 ?_
  refine s_iast hX dX10_init_22 (fun M6 => ?_)
  refine s_dup hX dX10_init_23 rfl ?_
  refine s_iconst (v := 1) hX dX10_init_24 kc_1 ?_
  refine s_bipush (v := 114) hX dX10_init_25 kb_114 ?_
  refine s_iast hX dX10_init_27 (fun M7 => ?_)
  refine s_dup hX dX10_init_28 rfl ?_
  refine s_iconst (v := 2) hX dX10_init_29 kc_2 ?_
  refine s_bipush (v := 97) hX dX10_init_30 kb_97 ?_
  refine s_iast hX dX10_init_32 (fun M8 => ?_)
  refine s_dup hX dX10_init_33 rfl ?_
  refine s_iconst (v := 3) hX dX10_init_34 kc_3 ?_
  refine s_bipush (v := 100) hX dX10_init_35 kb_100 ?_
  refine s_iast hX dX10_init_37 (fun M9 => ?_)
  refine s_dup hX dX10_init_38 rfl ?_
  refine s_iconst (v := 4) hX dX10_init_39 kc_4 ?_
  refine s_bipush (v := 101) hX dX10_init_40 kb_101 ?_
  refine s_iast hX dX10_init_42 (fun M10 => ?_)
  refine s_dup hX dX10_init_43 rfl ?_
  refine s_iconst (v := 5) hX dX10_init_44 kc_5 ?_
  refine s_bipush (v := 114) hX dX10_init_45 kb_114 ?_
  refine s_iast hX dX10_init_47 (fun M11 => ?_)
  refine s_dup hX dX10_init_48 rfl ?_
  refine s_bipush (v := 6) hX dX10_init_49 kb_6 ?_
  refine s_bipush (v := 32) hX dX10_init_51 kb_32 ?_
  refine s_iast hX dX10_init_53 (fun M12 => ?_)
  refine s_dup hX dX10_init_54 rfl ?_
  refine s_bipush (v := 7) hX dX10_init_55 kb_7 ?_
  refine s_bipush (v := 104) hX dX10_init_57 kb_104 ?_
  refine s_iast hX dX10_init_59 (fun M13 => ?_)
  refine s_dup hX dX10_init_60 rfl ?_
  refine s_bipush (v := 8) hX dX10_init_61 kb_8 ?_
  refine s_bipush (v := 101) hX dX10_init_63 kb_101 ?_
  refine s_iast hX dX10_init_65 (fun M14 => ?_)
  refine s_dup hX dX10_init_66 rfl ?_
  refine s_bipush (v := 9) hX dX10_init_67 kb_9 ?_
  refine s_bipush (v := 97) hX dX10_init_69 kb_97 ?_
  refine s_iast hX dX10_init_71 (fun M15 => ?_)
  refine s_dup hX dX10_init_72 rfl ?_
  refine s_bipush (v := 10) hX dX10_init_73 kb_10 ?_
  refine s_bipush (v := 100) hX dX10_init_75 kb_100 ?_
  refine s_iast hX dX10_init_77 (fun M16 => ?_)
  refine s_dup hX dX10_init_78 rfl ?_
  refine s_bipush (v := 11) hX dX10_init_79 kb_11 ?_
  refine s_bipush (v := 32) hX dX10_init_81 kb_32 ?_
  refine s_iast hX dX10_init_83 (fun M17 => ?_)
  refine s_dup hX dX10_init_84 rfl ?_
  refine s_bipush (v := 12) hX dX10_init_85 kb_12 ?_
  refine s_bipush (v := 115) hX dX10_init_87 kb_115 ?_
  refine s_iast hX dX10_init_89 (fun M18 => ?_)
  refine s_dup hX dX10_init_90 rfl ?_
  refine s_bipush (v := 13) hX dX10_init_91 kb_13 ?_
  refine s_bipush (v := 116) hX dX10_init_93 kb_116 ?_
  refine s_iast hX dX10_init_95 (fun M19 => ?_)
  refine s_dup hX dX10_init_96 rfl ?_
  refine s_bipush (v := 14) hX dX10_init_97 kb_14 ?_
  refine s_bipush (v := 97) hX dX10_init_99 kb_97 ?_
  refine s_iast hX dX10_init_101 (fun M20 => ?_)
  refine s_dup hX dX10_init_102 rfl ?_
  refine s_bipush (v := 15) hX dX10_init_103 kb_15 ?_
  refine s_bipush (v := 114) hX dX10_init_105 kb_114 ?_
  refine s_iast hX dX10_init_107 (fun M21 => ?_)
  refine s_dup hX dX10_init_108 rfl ?_
  refine s_bipush (v := 16) hX dX10_init_109 kb_16 ?_
  refine s_bipush (v := 116) hX dX10_init_111 kb_116 ?_
  refine s_iast hX dX10_init_113 (fun M22 => ?_)
  refine s_dup hX dX10_init_114 rfl ?_
  refine s_bipush (v := 17) hX dX10_init_115 kb_17 ?_
  refine s_bipush (v := 32) hX dX10_init_117 kb_32 ?_
  refine s_iast hX dX10_init_119 (fun M23 => ?_)
  refine s_dup hX dX10_init_120 rfl ?_
  refine s_bipush (v := 18) hX dX10_init_121 kb_18 ?_
  refine s_bipush (v := 114) hX dX10_init_123 kb_114 ?_
  refine s_iast hX dX10_init_125 (fun M24 => ?_)
  refine s_dup hX dX10_init_126 rfl ?_
  refine s_bipush (v := 19) hX dX10_init_127 kb_19 ?_
  refine s_bipush (v := 111) hX dX10_init_129 kb_111 ?_
  refine s_iast hX dX10_init_131 (fun M25 => ?_)
  refine s_dup hX dX10_init_132 rfl ?_
  refine s_bipush (v := 20) hX dX10_init_133 kb_20 ?_
  refine s_bipush (v := 117) hX dX10_init_135 kb_117 ?_
  refine s_iast hX dX10_init_137 (fun M26 => ?_)
  refine s_dup hX dX10_init_138 rfl ?_
  refine s_bipush (v := 21) hX dX10_init_139 kb_21 ?_
  refine s_bipush (v := 110) hX dX10_init_141 kb_110 ?_
  refine s_iast hX dX10_init_143 (fun M27 => ?_)
  refine s_dup hX dX10_init_144 rfl ?_
  refine s_bipush (v := 22) hX dX10_init_145 kb_22 ?_
  refine s_bipush (v := 100) hX dX10_init_147 kb_100 ?_
  refine s_iast hX dX10_init_149 (fun M28 => ?_)
  refine s_dup hX dX10_init_150 rfl ?_
  refine s_bipush (v := 23) hX dX10_init_151 kb_23 ?_
  refine s_bipush (v := 32) hX dX10_init_153 kb_32 ?_
  refine s_iast hX dX10_init_155 (fun M29 => ?_)
  refine s_dup hX dX10_init_156 rfl ?_
  refine s_bipush (v := 24) hX dX10_init_157 kb_24 ?_
  refine s_bipush (v := 115) hX dX10_init_159 kb_115 ?_
  refine s_iast hX dX10_init_161 (fun M30 => ?_)
  refine s_dup hX dX10_init_162 rfl ?_
  refine s_bipush (v := 25) hX dX10_init_163 kb_25 ?_
  refine s_bipush (v := 116) hX dX10_init_165 kb_116 ?_
  refine s_iast hX dX10_init_167 (fun M31 => ?_)
  refine s_dup hX dX10_init_168 rfl ?_
  refine s_bipush (v := 26) hX dX10_init_169 kb_26 ?_
  refine s_bipush (v := 101) hX dX10_init_171 kb_101 ?_
  refine s_iast hX dX10_init_173 (fun M32 => ?_)
  refine s_dup hX dX10_init_174 rfl ?_
  refine s_bipush (v := 27) hX dX10_init_175 kb_27 ?_
  refine s_bipush (v := 112) hX dX10_init_177 kb_112 ?_
  refine s_iast hX dX10_init_179 (fun M33 => ?_)
  refine s_dup hX dX10_init_180 rfl ?_
  refine s_bipush (v := 28) hX dX10_init_181 kb_28 ?_
  refine s_bipush (v := 32) hX dX10_init_183 kb_32 ?_
  refine s_iast hX dX10_init_185 (fun M34 => ?_)
  refine s_dup hX dX10_init_186 rfl ?_
  refine s_bipush (v := 29) hX dX10_init_187 kb_29 ?_
  refine s_bipush (v := 108) hX dX10_init_189 kb_108 ?_
  refine s_iast hX dX10_init_191 (fun M35 => ?_)
  refine s_dup hX dX10_init_192 rfl ?_
  refine s_bipush (v := 30) hX dX10_init_193 kb_30 ?_
  refine s_bipush (v := 105) hX dX10_init_195 kb_105 ?_
  refine s_iast hX dX10_init_197 (fun M36 => ?_)
  refine s_dup hX dX10_init_198 rfl ?_
  refine s_bipush (v := 31) hX dX10_init_199 kb_31 ?_
  refine s_bipush (v := 109) hX dX10_init_201 kb_109 ?_
  refine s_iast hX dX10_init_203 (fun M37 => ?_)
  refine s_dup hX dX10_init_204 rfl ?_
  refine s_bipush (v := 32) hX dX10_init_205 kb_32 ?_
  refine s_bipush (v := 105) hX dX10_init_207 kb_105 ?_
  refine s_iast hX dX10_init_209 (fun M38 => ?_)
  refine s_dup hX dX10_init_210 rfl ?_
  refine s_bipush (v := 33) hX dX10_init_211 kb_33 ?_
  refine s_bipush (v := 116) hX dX10_init_213 kb_116 ?_
  refine s_iast hX dX10_init_215 (fun M39 => ?_)
  refine s_dup hX dX10_init_216 rfl ?_
  refine s_bipush (v := 34) hX dX10_init_217 kb_34 ?_
  refine s_bipush (v := 32) hX dX10_init_219 kb_32 ?_
  refine s_iast hX dX10_init_221 (fun M40 => ?_)
  refine s_dup hX dX10_init_222 rfl ?_
  refine s_bipush (v := 35) hX dX10_init_223 kb_35 ?_
  refine s_bipush (v := 115) hX dX10_init_225 kb_115 ?_
  refine s_iast hX dX10_init_227 (fun M41 => ?_)
  refine s_dup hX dX10_init_228 rfl ?_
  refine s_bipush (v := 36) hX dX10_init_229 kb_36 ?_
  refine s_bipush (v := 101) hX dX10_init_231 kb_101 ?_
  refine s_iast hX dX10_init_233 (fun M42 => ?_)
  refine s_dup hX dX10_init_234 rfl ?_
  refine s_bipush (v := 37) hX dX10_init_235 kb_37 ?_
  refine s_bipush (v := 101) hX dX10_init_237 kb_101 ?_
  refine s_iast hX dX10_init_239 (fun M43 => ?_)
  refine s_dup hX dX10_init_240 rfl ?_
  refine s_bipush (v := 38) hX dX10_init_241 kb_38 ?_
  refine s_bipush (v := 100) hX dX10_init_243 kb_100 ?_
  refine s_iast hX dX10_init_245 (fun M44 => ?_)
  refine s_dup hX dX10_init_246 rfl ?_
  refine s_bipush (v := 39) hX dX10_init_247 kb_39 ?_
  refine s_bipush (v := 32) hX dX10_init_249 kb_32 ?_
  refine s_iast hX dX10_init_251 (fun M45 => ?_)
  refine s_dup hX dX10_init_252 rfl ?_
  refine s_bipush (v := 40) hX dX10_init_253 kb_40 ?_
  refine s_bipush (v := 115) hX dX10_init_255 kb_115 ?_
  refine s_iast hX dX10_init_257 (fun M46 => ?_)
  refine s_dup hX dX10_init_258 rfl ?_
  refine s_bipush (v := 41) hX dX10_init_259 kb_41 ?_
  refine s_bipush (v := 97) hX dX10_init_261 kb_97 ?_
  refine s_iast hX dX10_init_263 (fun M47 => ?_)
  refine s_dup hX dX10_init_264 rfl ?_
  refine s_bipush (v := 42) hX dX10_init_265 kb_42 ?_
  refine s_bipush (v := 108) hX dX10_init_267 kb_108 ?_
  refine s_iast hX dX10_init_269 (fun M48 => ?_)
  refine s_dup hX dX10_init_270 rfl ?_
  refine s_bipush (v := 43) hX dX10_init_271 kb_43 ?_
  refine s_bipush (v := 101) hX dX10_init_273 kb_101 ?_
  refine s_iast hX dX10_init_275 (fun M49 => ?_)
  refine s_dup hX dX10_init_276 rfl ?_
  refine s_bipush (v := 44) hX dX10_init_277 kb_44 ?_
  refine s_bipush (v := 32) hX dX10_init_279 kb_32 ?_
  refine s_iast hX dX10_init_281 (fun M50 => ?_)
  refine s_dup hX dX10_init_282 rfl ?_
  refine s_bipush (v := 45) hX dX10_init_283 kb_45 ?_
  refine s_bipush (v := 98) hX dX10_init_285 kb_98 ?_
  refine s_iast hX dX10_init_287 (fun M51 => ?_)
  refine s_dup hX dX10_init_288 rfl ?_
  refine s_bipush (v := 46) hX dX10_init_289 kb_46 ?_
  refine s_bipush (v := 117) hX dX10_init_291 kb_117 ?_
  refine s_iast hX dX10_init_293 (fun M52 => ?_)
  refine s_dup hX dX10_init_294 rfl ?_
  refine s_bipush (v := 47) hX dX10_init_295 kb_47 ?_
  refine s_bipush (v := 121) hX dX10_init_297 kb_121 ?_
  refine s_iast hX dX10_init_299 (fun M53 => ?_)
  refine s_dup hX dX10_init_300 rfl ?_
  refine s_bipush (v := 48) hX dX10_init_301 kb_48 ?_
  refine s_bipush (v := 32) hX dX10_init_303 kb_32 ?_
  refine s_iast hX dX10_init_305 (fun M54 => ?_)
  refine s_dup hX dX10_init_306 rfl ?_
  refine s_bipush (v := 49) hX dX10_init_307 kb_49 ?_
  refine s_bipush (v := 97) hX dX10_init_309 kb_97 ?_
  refine s_iast hX dX10_init_311 (fun M55 => ?_)
  refine s_dup hX dX10_init_312 rfl ?_
  refine s_bipush (v := 50) hX dX10_init_313 kb_50 ?_
  refine s_bipush (v := 115) hX dX10_init_315 kb_115 ?_
  refine s_iast hX dX10_init_317 (fun M56 => ?_)
  refine s_dup hX dX10_init_318 rfl ?_
  refine s_bipush (v := 51) hX dX10_init_319 kb_51 ?_
  refine s_bipush (v := 115) hX dX10_init_321 kb_115 ?_
  refine s_iast hX dX10_init_323 (fun M57 => ?_)
  refine s_dup hX dX10_init_324 rfl ?_
  refine s_bipush (v := 52) hX dX10_init_325 kb_52 ?_
  refine s_bipush (v := 101) hX dX10_init_327 kb_101 ?_
  refine s_iast hX dX10_init_329 (fun M58 => ?_)
  refine s_dup hX dX10_init_330 rfl ?_
  refine s_bipush (v := 53) hX dX10_init_331 kb_53 ?_
  refine s_bipush (v := 116) hX dX10_init_333 kb_116 ?_
  refine s_iast hX dX10_init_335 (fun M59 => ?_)
  refine s_dup hX dX10_init_336 rfl ?_
  refine s_bipush (v := 54) hX dX10_init_337 kb_54 ?_
  refine s_bipush (v := 32) hX dX10_init_339 kb_32 ?_
  refine s_iast hX dX10_init_341 (fun M60 => ?_)
  refine s_dup hX dX10_init_342 rfl ?_
  refine s_bipush (v := 55) hX dX10_init_343 kb_55 ?_
  refine s_bipush (v := 117) hX dX10_init_345 kb_117 ?_
  refine s_iast hX dX10_init_347 (fun M61 => ?_)
  refine s_dup hX dX10_init_348 rfl ?_
  refine s_bipush (v := 56) hX dX10_init_349 kb_56 ?_
  refine s_bipush (v := 112) hX dX10_init_351 kb_112 ?_
  refine s_iast hX dX10_init_353 (fun M62 => ?_)
  refine s_dup hX dX10_init_354 rfl ?_
  refine s_bipush (v := 57) hX dX10_init_355 kb_57 ?_
  refine s_bipush (v := 32) hX dX10_init_357 kb_32 ?_
  refine s_iast hX dX10_init_359 (fun M63 => ?_)
  refine s_dup hX dX10_init_360 rfl ?_
  refine s_bipush (v := 58) hX dX10_init_361 kb_58 ?_
  refine s_bipush (v := 100) hX dX10_init_363 kb_100 ?_
  refine s_iast hX dX10_init_365 (fun M64 => ?_)
  refine s_dup hX dX10_init_366 rfl ?_
  refine s_bipush (v := 59) hX dX10_init_367 kb_59 ?_
  refine s_bipush (v := 111) hX dX10_init_369 kb_111 ?_
  refine s_iast hX dX10_init_371 (fun M65 => ?_)
  refine s_dup hX dX10_init_372 rfl ?_
  refine s_bipush (v := 60) hX dX10_init_373 kb_60 ?_
  refine s_bipush (v := 119) hX dX10_init_375 kb_119 ?_
  refine s_iast hX dX10_init_377 (fun M66 => ?_)
  refine s_dup hX dX10_init_378 rfl ?_
  refine s_bipush (v := 61) hX dX10_init_379 kb_61 ?_
  refine s_bipush (v := 110) hX dX10_init_381 kb_110 ?_
  refine s_iast hX dX10_init_383 (fun M67 => ?_)
  refine s_dup hX dX10_init_384 rfl ?_
  refine s_bipush (v := 62) hX dX10_init_385 kb_62 ?_
  refine s_bipush (v := 32) hX dX10_init_387 kb_32 ?_
  refine s_iast hX dX10_init_389 (fun M68 => ?_)
  refine s_dup hX dX10_init_390 rfl ?_
  refine s_bipush (v := 63) hX dX10_init_391 kb_63 ?_
  refine s_bipush (v := 110) hX dX10_init_393 kb_110 ?_
  refine s_iast hX dX10_init_395 (fun M69 => ?_)
  refine s_dup hX dX10_init_396 rfl ?_
  refine s_bipush (v := 64) hX dX10_init_397 kb_64 ?_
  refine s_bipush (v := 101) hX dX10_init_399 kb_101 ?_
  refine s_iast hX dX10_init_401 (fun M70 => ?_)
  refine s_dup hX dX10_init_402 rfl ?_
  refine s_bipush (v := 65) hX dX10_init_403 kb_65 ?_
  refine s_bipush (v := 97) hX dX10_init_405 kb_97 ?_
  refine s_iast hX dX10_init_407 (fun M71 => ?_)
  refine s_dup hX dX10_init_408 rfl ?_
  refine s_bipush (v := 66) hX dX10_init_409 kb_66 ?_
  refine s_bipush (v := 114) hX dX10_init_411 kb_114 ?_
  refine s_iast hX dX10_init_413 (fun M72 => ?_)
  refine s_dup hX dX10_init_414 rfl ?_
  refine s_bipush (v := 67) hX dX10_init_415 kb_67 ?_
  refine s_bipush (v := 32) hX dX10_init_417 kb_32 ?_
  refine s_iast hX dX10_init_419 (fun M73 => ?_)
  refine s_putOF hX dX10_init_420 q_1309 rfl rfl hnm rfl (fun M74 => ?_)
  refine s_aload_n hX dX10_init_423 rfl ?_
  refine s_iconst (v := (-1)) hX dX10_init_424 kc_m1 ?_
  refine s_putI hX dX10_init_425 q_1311 rfl rfl (fun M75 => ?_)
  refine s_aload_n hX dX10_init_428 rfl ?_
  refine s_bipush (v := 64) hX dX10_init_429 kb_64 ?_
  refine s_newaI (N := 64) (ck1 := 3) (sk1 := 832) hX dX10_init_431 q_186 (by decide) (by decide) (by decide) (Nat.le_of_ble_eq_true rfl) (Nat.le_of_ble_eq_true rfl) rfl rfl (fun j76 M77 => ?_)
  refine s_putOF hX dX10_init_433 q_1319 rfl rfl hnm rfl (fun M78 => ?_)
  refine s_aload_n hX dX10_init_436 rfl ?_
  refine s_bipush (v := 96) hX dX10_init_437 kb_96 ?_
  refine s_newaI (N := 96) (ck1 := 4) (sk1 := 928) hX dX10_init_439 q_186 (by decide) (by decide) (by decide) (Nat.le_of_ble_eq_true rfl) (Nat.le_of_ble_eq_true rfl) rfl rfl (fun j79 M80 => ?_)
  refine s_putOF hX dX10_init_441 q_1320 rfl rfl hnm rfl (fun M81 => ?_)
  refine s_aload_n hX dX10_init_444 rfl ?_
  refine s_bipush (v := 96) hX dX10_init_445 kb_96 ?_
  refine s_newaI (N := 96) (ck1 := 5) (sk1 := 1024) hX dX10_init_447 q_186 (by decide) (by decide) (by decide) (Nat.le_of_ble_eq_true rfl) (Nat.le_of_ble_eq_true rfl) rfl rfl (fun j82 M83 => ?_)
  refine s_putOF hX dX10_init_449 q_1321 rfl rfl hnm rfl (fun M84 => ?_)
  refine s_aload_n hX dX10_init_452 rfl ?_
  refine s_bipush (v := 40) hX dX10_init_453 kb_40 ?_
  refine s_newaI (N := 40) (ck1 := 6) (sk1 := 1064) hX dX10_init_455 q_186 (by decide) (by decide) (by decide) (Nat.le_of_ble_eq_true rfl) (Nat.le_of_ble_eq_true rfl) rfl rfl (fun j85 M86 => ?_)
  refine s_putOF hX dX10_init_457 q_1322 rfl rfl hnm rfl (fun M87 => ?_)
  refine s_aload_n hX dX10_init_460 rfl ?_
  refine s_bipush (v := 14) hX dX10_init_461 kb_14 ?_
  refine s_newaI (N := 14) (ck1 := 7) (sk1 := 1078) hX dX10_init_463 q_186 (by decide) (by decide) (by decide) (Nat.le_of_ble_eq_true rfl) (Nat.le_of_ble_eq_true rfl) rfl rfl (fun j88 M89 => ?_)
  refine s_putOF hX dX10_init_465 q_1323 rfl rfl hnm rfl (fun M90 => ?_)
  refine s_aload_n hX dX10_init_468 rfl ?_
  refine s_ldc hX dX10_init_469 q_1262 ?_
  refine s_newaI (N := 56764) (ck1 := 8) (sk1 := 57842) hX dX10_init_471 q_186 (by decide) (by decide) (by decide) (Nat.le_of_ble_eq_true rfl) (Nat.le_of_ble_eq_true rfl) rfl rfl (fun j91 M92 => ?_)
  refine s_putOF hX dX10_init_473 q_1326 rfl rfl hnm rfl (fun M93 => ?_)
  refine s_aload_n hX dX10_init_476 rfl ?_
  refine s_iconst (v := 5) hX dX10_init_477 kc_5 ?_
  refine s_newaJ (N := 5) (ck1 := 9) (sk1 := 57847) hX dX10_init_478 q_388 (by decide) (by decide) (by decide) (Nat.le_of_ble_eq_true rfl) (Nat.le_of_ble_eq_true rfl) rfl rfl (fun j94 M95 => ?_)
  refine s_putOF hX dX10_init_480 q_1330 rfl rfl hnm rfl (fun M96 => ?_)
  refine s_aload_n hX dX10_init_483 rfl ?_
  refine s_callVu (ck1 := 9) (sk1 := 57847) (ci := 8) hX dX10_init_484 k_X10_plain q_1263 (c_X10_plain n M96 a0) (by decide) rfl rfl rfl ⟨Nat.le_of_ble_eq_true rfl, Nat.le_of_ble_eq_true rfl⟩ ⟨(Nat.le_of_ble_eq_true rfl), (Nat.le_of_ble_eq_true rfl)⟩ (Nat.le_of_ble_eq_true rfl) rfl rfl (fun r97 M98 => ?_)
  refine s_aload_n hX dX10_init_487 rfl ?_
  refine s_callVu (ck1 := 9) (sk1 := 57847) (ci := 8) hX dX10_init_488 k_X10_keepText q_1267 (c_X10_keepText n M98 a0) (by decide) rfl rfl rfl ⟨Nat.le_of_ble_eq_true rfl, Nat.le_of_ble_eq_true rfl⟩ ⟨(Nat.le_of_ble_eq_true rfl), (Nat.le_of_ble_eq_true rfl)⟩ (Nat.le_of_ble_eq_true rfl) rfl rfl (fun r99 M100 => ?_)
  exact s_vret hX hR dX10_init_491 (Nat.le_of_ble_eq_true rfl) (Nat.le_of_ble_eq_true rfl)
abbrev rm_X10_thrown : Room := { frames := 0, cells := 0, slots := 0, locals := 0 }
theorem k_X10_thrown : KYV yX10_thrown cX10_thrown 1 (some .int) 0 := ⟨⟨q_1397, q_9, by decide +kernel, by decide +kernel, by decide +kernel⟩, q_1395, q_1396⟩
set_option maxHeartbeats 4000000 in
set_option maxRecDepth 100000 in
theorem c_X10_thrown (n : Nat) (M0 : MemT) (a0 : Nat) : Ct iI yX10_thrown cX10_thrown 1 (some .int) rm_X10_thrown [.ref a0] M0 (g_X10_thrown n M0 a0) := by
  unfold g_X10_thrown
  refine ct_intro RX10 0 [some (.ref a0)] rfl (by decide +kernel) rfl (Nat.le_of_ble_eq_true rfl) (fun X A hX hnm hR => ?_)
  refine s_aload_n hX dX10_thrown_0 rfl ?_
  refine s_getI hX dX10_thrown_1 q_1308 rfl (fun v1 => ?_)
  exact s_iret hX hR dX10_thrown_4 (Nat.le_of_ble_eq_true rfl) (Nat.le_of_ble_eq_true rfl)
abbrev rm_X10_feed : Room := { frames := 0, cells := 0, slots := 0, locals := 0 }
theorem k_X10_feed : KYV yX10_feed cX10_feed 8 (some .int) 5 := ⟨⟨q_1401, q_9, by decide +kernel, by decide +kernel, by decide +kernel⟩, q_1399, q_1400⟩
set_option maxHeartbeats 4000000 in
set_option maxRecDepth 100000 in
theorem c_X10_feed (n : Nat) (M0 : MemT) (a0 : Nat) (a1 : Int32) (a2 : Int32) (a3 : Int32) (a4 : Int32) (a5 : Int32) : Ct iI yX10_feed cX10_feed 8 (some .int) rm_X10_feed [.ref a0, .int a1, .int a2, .int a3, .int a4, .int a5] M0 (g_X10_feed n M0 a0 a1 a2 a3 a4 a5) := by
  unfold g_X10_feed
  refine ct_intro RX10 2 [some (.ref a0), some (.int a1), some (.int a2), some (.int a3), some (.int a4), some (.int a5), none, none] rfl (by decide +kernel) rfl (Nat.le_of_ble_eq_true rfl) (fun X A hX hnm hR => ?_)
  refine s_aload_n hX dX10_feed_0 rfl ?_
  refine s_iconst (v := 0) hX dX10_feed_1 kc_0 ?_
  refine s_putI hX dX10_feed_2 q_1308 rfl rfl (fun M1 => ?_)
  refine s_aload_n hX dX10_feed_5 rfl ?_
  refine s_getI hX dX10_feed_6 q_1307 rfl (fun v2 => ?_)
  refine s_bipush (v := 20) hX dX10_feed_9 kb_20 ?_
  refine s_iadd hX dX10_feed_11 ?_
  refine s_sipush (v := 700) hX dX10_feed_12 ks_700 ?_
  refine s_icle (tgt := 20) hX dX10_feed_15 rfl ?_ ?_
  · refine s_iconst (v := 0) hX dX10_feed_20 kc_0 ?_
    refine s_istore6 hX dX10_feed_21 (by first | exact trivial | exact rfl) (Nat.le_of_ble_eq_true rfl) ?_
    refine s_loopE (stk := []) (fun (s : MemT × Int32) => [some (.ref a0), some (.int a1), some (.int a2), some (.int a3), some (.int a4), some (.int a5), some (.int s.2), none]) (fun (s : MemT × Int32) => s.1) 113 (fun (s : MemT × Int32) => [some (.ref a0), some (.int a1), some (.int a2), some (.int a3), some (.int a4), some (.int a5), some (.int s.2), none]) (fun s B5 hB5 hE5 => ?_) (fun s => ?_) n (M1, 0)
    · obtain ⟨M3, v4⟩ := s
      dsimp only
      refine s_iload hX dX10_feed_23 rfl ?_
      refine s_bipush (v := 20) hX dX10_feed_25 kb_20 ?_
      refine s_icge (tgt := 113) hX dX10_feed_27 rfl ?_ ?_
      · exact s_exit hE5
      · refine s_iload hX dX10_feed_30 rfl ?_
        refine s_iconst (v := 4) hX dX10_feed_32 kc_4 ?_
        refine s_jp (fun (s : MemT × Int32) => [some (.ref a0), some (.int a1), some (.int a2), some (.int a3), some (.int a4), some (.int a5), some (.int v4), none]) (fun (s : MemT × Int32) => [.int s.2]) (fun (s : MemT × Int32) => s.1) 0 0 76 (fun s => ?_) (fun K6 hK6 => ?_)
        · obtain ⟨M7, v8⟩ := s
          dsimp only
          refine s_istore7 hX dX10_feed_76 (by first | exact trivial | exact rfl) (Nat.le_of_ble_eq_true rfl) ?_
          refine s_aload_n hX dX10_feed_78 rfl ?_
          refine s_getO hX dX10_feed_79 q_1306 rfl (fun j9 => ?_)
          refine s_aload_n hX dX10_feed_82 rfl ?_
          refine s_getI hX dX10_feed_83 q_1307 rfl (fun v10 => ?_)
          refine s_iload hX dX10_feed_86 rfl ?_
          refine s_iadd hX dX10_feed_88 ?_
          refine s_iload hX dX10_feed_89 rfl ?_
          refine s_bipush (v := 24) hX dX10_feed_91 kb_24 ?_
          refine s_bipush (v := 8) hX dX10_feed_93 kb_8 ?_
          refine s_iload hX dX10_feed_95 rfl ?_
          refine s_iconst (v := 4) hX dX10_feed_97 kc_4 ?_
          refine s_irem hX dX10_feed_98 ?_
          refine s_imul hX dX10_feed_99 ?_
          refine s_isub hX dX10_feed_100 ?_
          refine s_ishr hX dX10_feed_101 ?_
          refine s_sipush (v := 255) hX dX10_feed_102 ks_255 ?_
          refine s_iand hX dX10_feed_105 ?_
          refine s_iast hX dX10_feed_106 (fun M11 => ?_)
          refine s_iinc6 (v := v4 + 1) hX dX10_feed_107 rfl (by first | exact trivial | exact rfl) (Nat.le_of_ble_eq_true rfl) ?_
          refine s_goto (tgt := 23) hX dX10_feed_110 rfl ?_
          refine s_forget (loc1 := [some (.ref a0), some (.int a1), some (.int a2), some (.int a3), some (.int a4), some (.int a5), some (.int (v4 + 1)), none]) ⟨rfl, rfl, rfl, rfl, rfl, rfl, rfl, trivial⟩ ?_
          exact s_back hB5
        · refine s_icge (tgt := 40) hX dX10_feed_33 rfl ?_ ?_
          · refine s_iload hX dX10_feed_40 rfl ?_
            refine s_bipush (v := 8) hX dX10_feed_42 kb_8 ?_
            refine s_icge (tgt := 51) hX dX10_feed_44 rfl ?_ ?_
            · refine s_iload hX dX10_feed_51 rfl ?_
              refine s_bipush (v := 12) hX dX10_feed_53 kb_12 ?_
              refine s_icge (tgt := 62) hX dX10_feed_55 rfl ?_ ?_
              · refine s_iload hX dX10_feed_62 rfl ?_
                refine s_bipush (v := 16) hX dX10_feed_64 kb_16 ?_
                refine s_icge (tgt := 74) hX dX10_feed_66 rfl ?_ ?_
                · refine s_iload hX dX10_feed_74 rfl ?_
                  exact hK6 _
                · refine s_iload hX dX10_feed_69 rfl ?_
                  refine s_goto (tgt := 76) hX dX10_feed_71 rfl ?_
                  exact hK6 _
              · refine s_iload_n hX dX10_feed_58 rfl ?_
                refine s_goto (tgt := 76) hX dX10_feed_59 rfl ?_
                exact hK6 _
            · refine s_iload_n hX dX10_feed_47 rfl ?_
              refine s_goto (tgt := 76) hX dX10_feed_48 rfl ?_
              exact hK6 _
          · refine s_iload_n hX dX10_feed_36 rfl ?_
            refine s_goto (tgt := 76) hX dX10_feed_37 rfl ?_
            exact hK6 _
    · obtain ⟨M12, v13⟩ := s
      dsimp only
      refine s_aload_n hX dX10_feed_113 rfl ?_
      refine s_dup hX dX10_feed_114 rfl ?_
      refine s_getI hX dX10_feed_115 q_1307 rfl (fun v14 => ?_)
      refine s_bipush (v := 20) hX dX10_feed_118 kb_20 ?_
      refine s_iadd hX dX10_feed_120 ?_
      refine s_putI hX dX10_feed_121 q_1307 rfl rfl (fun M15 => ?_)
      refine s_aload_n hX dX10_feed_124 rfl ?_
      refine s_getI hX dX10_feed_125 q_1307 rfl (fun v16 => ?_)
      exact s_iret hX hR dX10_feed_128 (Nat.le_of_ble_eq_true rfl) (Nat.le_of_ble_eq_true rfl)
  · refine s_iconst (v := (-1)) hX dX10_feed_18 kc_m1 ?_
    exact s_iret hX hR dX10_feed_19 (Nat.le_of_ble_eq_true rfl) (Nat.le_of_ble_eq_true rfl)
