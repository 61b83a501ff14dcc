abbrev rm_X1_init : Room := { frames := 1, cells := 4, slots := 34, locals := 20 }
theorem k_X1_init : KYI yX1_init cX1_init 1 0 := ⟨⟨q_206, q_6, by decide +kernel, by decide +kernel, by decide +kernel⟩, rfl, q_205⟩
set_option maxHeartbeats 4000000 in
set_option maxRecDepth 100000 in
theorem c_X1_init (n : Nat) (M0 : MemT) (a0 : Nat) : Ct iU yX1_init cX1_init 1 none rm_X1_init [.ref a0] M0 (g_X1_init n M0 a0) := by
  unfold g_X1_init
  refine ct_intro RX1 0 [some (.ref a0)] rfl (by decide +kernel) rfl (Nat.le_of_ble_eq_true rfl) (fun X A hX hnm hR => ?_)
  refine s_aload_n hX dX1_init_0 rfl ?_
  refine s_objInit hX dX1_init_1 q_207 q_31 q_32 (Nat.le_of_ble_eq_true rfl) (Nat.le_of_ble_eq_true rfl) ?_
  refine s_aload_n hX dX1_init_4 rfl ?_
  refine s_iconst (v := 4) hX dX1_init_5 kc_4 ?_
  refine s_newaI (N := 4) (ck1 := 1) (sk1 := 4) hX dX1_init_6 q_186 (by decide) (by decide) (by decide) (Nat.le_of_ble_eq_true rfl) (Nat.le_of_ble_eq_true rfl) rfl rfl (fun j1 M2 => ?_)
  refine s_putOF hX dX1_init_8 q_254 rfl rfl hnm rfl (fun M3 => ?_)
  refine s_aload_n hX dX1_init_11 rfl ?_
  refine s_bipush (v := 10) hX dX1_init_12 kb_10 ?_
  refine s_newaI (N := 10) (ck1 := 2) (sk1 := 14) hX dX1_init_14 q_186 (by decide) (by decide) (by decide) (Nat.le_of_ble_eq_true rfl) (Nat.le_of_ble_eq_true rfl) rfl rfl (fun j4 M5 => ?_)
  refine s_putOF hX dX1_init_16 q_256 rfl rfl hnm rfl (fun M6 => ?_)
  refine s_aload_n hX dX1_init_19 rfl ?_
  refine s_bipush (v := 10) hX dX1_init_20 kb_10 ?_
  refine s_newaI (N := 10) (ck1 := 3) (sk1 := 24) hX dX1_init_22 q_186 (by decide) (by decide) (by decide) (Nat.le_of_ble_eq_true rfl) (Nat.le_of_ble_eq_true rfl) rfl rfl (fun j7 M8 => ?_)
  refine s_putOF hX dX1_init_24 q_258 rfl rfl hnm rfl (fun M9 => ?_)
  refine s_aload_n hX dX1_init_27 rfl ?_
  refine s_bipush (v := 10) hX dX1_init_28 kb_10 ?_
  refine s_newaI (N := 10) (ck1 := 4) (sk1 := 34) hX dX1_init_30 q_186 (by decide) (by decide) (by decide) (Nat.le_of_ble_eq_true rfl) (Nat.le_of_ble_eq_true rfl) rfl rfl (fun j10 M11 => ?_)
  refine s_putOF hX dX1_init_32 q_260 rfl rfl hnm rfl (fun M12 => ?_)
  exact s_vret hX hR dX1_init_35 (Nat.le_of_ble_eq_true rfl) (Nat.le_of_ble_eq_true rfl)
abbrev rm_X1_begin : Room := { frames := 0, cells := 0, slots := 0, locals := 0 }
theorem k_X1_begin : KYV yX1_begin cX1_begin 6 none 5 := ⟨⟨q_692, q_6, by decide +kernel, by decide +kernel, by decide +kernel⟩, q_690, q_691⟩
set_option maxHeartbeats 4000000 in
set_option maxRecDepth 100000 in
theorem c_X1_begin (n : Nat) (M0 : MemT) (a0 : Nat) (a1 : Int32) (a2 : Int32) (a3 : Int32) (a4 : Int32) (a5 : Int32) : Ct iU yX1_begin cX1_begin 6 none rm_X1_begin [.ref a0, .int a1, .int a2, .int a3, .int a4, .int a5] M0 (g_X1_begin n M0 a0 a1 a2 a3 a4 a5) := by
  unfold g_X1_begin
  refine ct_intro RX1 0 [some (.ref a0), some (.int a1), some (.int a2), some (.int a3), some (.int a4), some (.int a5)] rfl (by decide +kernel) rfl (Nat.le_of_ble_eq_true rfl) (fun X A hX hnm hR => ?_)
  refine s_aload_n hX dX1_begin_0 rfl ?_
  refine s_iload_n hX dX1_begin_1 rfl ?_
  refine s_putI hX dX1_begin_2 q_208 rfl rfl (fun M1 => ?_)
  refine s_aload_n hX dX1_begin_5 rfl ?_
  refine s_iload_n hX dX1_begin_6 rfl ?_
  refine s_putI hX dX1_begin_7 q_212 rfl rfl (fun M2 => ?_)
  refine s_aload_n hX dX1_begin_10 rfl ?_
  refine s_iload_n hX dX1_begin_11 rfl ?_
  refine s_putI hX dX1_begin_12 q_215 rfl rfl (fun M3 => ?_)
  refine s_aload_n hX dX1_begin_15 rfl ?_
  refine s_iload_n hX dX1_begin_16 rfl ?_
  refine s_putI hX dX1_begin_17 q_218 rfl rfl (fun M4 => ?_)
  refine s_aload_n hX dX1_begin_20 rfl ?_
  refine s_iload hX dX1_begin_21 rfl ?_
  refine s_putI hX dX1_begin_23 q_221 rfl rfl (fun M5 => ?_)
  refine s_aload_n hX dX1_begin_26 rfl ?_
  refine s_iload hX dX1_begin_27 rfl ?_
  refine s_putI hX dX1_begin_29 q_224 rfl rfl (fun M6 => ?_)
  refine s_aload_n hX dX1_begin_32 rfl ?_
  refine s_bipush (v := (-2)) hX dX1_begin_33 kb_m2 ?_
  refine s_putI hX dX1_begin_35 q_226 rfl rfl (fun M7 => ?_)
  refine s_aload_n hX dX1_begin_38 rfl ?_
  refine s_iconst (v := (-1)) hX dX1_begin_39 kc_m1 ?_
  refine s_putI hX dX1_begin_40 q_229 rfl rfl (fun M8 => ?_)
  refine s_aload_n hX dX1_begin_43 rfl ?_
  refine s_iconst (v := 0) hX dX1_begin_44 kc_0 ?_
  refine s_putZ hX dX1_begin_45 q_232 rfl rfl (fun M9 => ?_)
  refine s_aload_n hX dX1_begin_48 rfl ?_
  refine s_iconst (v := 0) hX dX1_begin_49 kc_0 ?_
  refine s_putI hX dX1_begin_50 q_236 rfl rfl (fun M10 => ?_)
  refine s_aload_n hX dX1_begin_53 rfl ?_
  refine s_iconst (v := 0) hX dX1_begin_54 kc_0 ?_
  refine s_putI hX dX1_begin_55 q_239 rfl rfl (fun M11 => ?_)
  refine s_aload_n hX dX1_begin_58 rfl ?_
  refine s_iconst (v := 0) hX dX1_begin_59 kc_0 ?_
  refine s_putI hX dX1_begin_60 q_242 rfl rfl (fun M12 => ?_)
  refine s_aload_n hX dX1_begin_63 rfl ?_
  refine s_iconst (v := 0) hX dX1_begin_64 kc_0 ?_
  refine s_putZ hX dX1_begin_65 q_245 rfl rfl (fun M13 => ?_)
  refine s_aload_n hX dX1_begin_68 rfl ?_
  refine s_iconst (v := 0) hX dX1_begin_69 kc_0 ?_
  refine s_putI hX dX1_begin_70 q_248 rfl rfl (fun M14 => ?_)
  refine s_aload_n hX dX1_begin_73 rfl ?_
  refine s_iconst (v := 0) hX dX1_begin_74 kc_0 ?_
  refine s_putI hX dX1_begin_75 q_251 rfl rfl (fun M15 => ?_)
  exact s_vret hX hR dX1_begin_78 (Nat.le_of_ble_eq_true rfl) (Nat.le_of_ble_eq_true rfl)
abbrev rm_X9_copyRow : Room := { frames := 1, cells := 0, slots := 0, locals := 40 }
theorem k_X9_copyRow : KYS yX9_copyRow cX9_copyRow 2 none 2 := ⟨⟨q_672, q_1, by decide +kernel, by decide +kernel, by decide +kernel⟩, q_671⟩
set_option maxHeartbeats 4000000 in
set_option maxRecDepth 100000 in
theorem c_X9_copyRow (n : Nat) (M0 : MemT) (a0 : Nat) (a1 : Nat) : Ct iU yX9_copyRow cX9_copyRow 2 none rm_X9_copyRow [.ref a0, .ref a1] M0 (g_X9_copyRow n M0 a0 a1) := by
  unfold g_X9_copyRow
  refine ct_intro RX9 0 [some (.ref a0), some (.ref a1)] rfl (by decide +kernel) rfl (Nat.le_of_ble_eq_true rfl) (fun X A hX hnm hR => ?_)
  refine s_aload_n hX dX9_copyRow_0 rfl ?_
  refine s_iconst (v := 0) hX dX9_copyRow_1 kc_0 ?_
  refine s_aload_n hX dX9_copyRow_2 rfl ?_
  refine s_iconst (v := 0) hX dX9_copyRow_3 kc_0 ?_
  refine s_aload_n hX dX9_copyRow_4 rfl ?_
  refine s_alen hX dX9_copyRow_5 (fun v1 => ?_)
  refine s_aload_n hX dX9_copyRow_6 rfl ?_
  refine s_alen hX dX9_copyRow_7 (fun v2 => ?_)
  refine s_mmin hX dX9_copyRow_8 q_673 q_469 q_10 q_470 (Nat.le_of_ble_eq_true rfl) (Nat.le_of_ble_eq_true rfl) (Nat.le_of_ble_eq_true rfl) (Nat.le_of_ble_eq_true rfl) ?_
  refine s_acpy hX dX9_copyRow_11 q_674 q_676 q_675 q_18 (Nat.le_of_ble_eq_true rfl) (Nat.le_of_ble_eq_true rfl) (fun M3 => ?_)
  exact s_vret hX hR dX9_copyRow_14 (Nat.le_of_ble_eq_true rfl) (Nat.le_of_ble_eq_true rfl)
abbrev rm_X1_copyFrom : Room := { frames := 2, cells := 0, slots := 0, locals := 61 }
theorem k_X1_copyFrom : KYV yX1_copyFrom cX1_copyFrom 2 none 1 := ⟨⟨q_738, q_6, by decide +kernel, by decide +kernel, by decide +kernel⟩, q_736, q_737⟩
set_option maxHeartbeats 4000000 in
set_option maxRecDepth 100000 in
theorem c_X1_copyFrom (n : Nat) (M0 : MemT) (a0 : Nat) (a1 : Nat) : Ct iU yX1_copyFrom cX1_copyFrom 2 none rm_X1_copyFrom [.ref a0, .ref a1] M0 (g_X1_copyFrom n M0 a0 a1) := by
  unfold g_X1_copyFrom
  refine ct_intro RX1 0 [some (.ref a0), some (.ref a1)] rfl (by decide +kernel) rfl (Nat.le_of_ble_eq_true rfl) (fun X A hX hnm hR => ?_)
  refine s_aload_n hX dX1_copyFrom_0 rfl ?_
  refine s_aload_n hX dX1_copyFrom_1 rfl ?_
  refine s_getI hX dX1_copyFrom_2 q_208 rfl (fun v1 => ?_)
  refine s_putI hX dX1_copyFrom_5 q_208 rfl rfl (fun M2 => ?_)
  refine s_aload_n hX dX1_copyFrom_8 rfl ?_
  refine s_aload_n hX dX1_copyFrom_9 rfl ?_
  refine s_getI hX dX1_copyFrom_10 q_212 rfl (fun v3 => ?_)
  refine s_putI hX dX1_copyFrom_13 q_212 rfl rfl (fun M4 => ?_)
  refine s_aload_n hX dX1_copyFrom_16 rfl ?_
  refine s_aload_n hX dX1_copyFrom_17 rfl ?_
  refine s_getI hX dX1_copyFrom_18 q_215 rfl (fun v5 => ?_)
  refine s_putI hX dX1_copyFrom_21 q_215 rfl rfl (fun M6 => ?_)
  refine s_aload_n hX dX1_copyFrom_24 rfl ?_
  refine s_aload_n hX dX1_copyFrom_25 rfl ?_
  refine s_getI hX dX1_copyFrom_26 q_218 rfl (fun v7 => ?_)
  refine s_putI hX dX1_copyFrom_29 q_218 rfl rfl (fun M8 => ?_)
  refine s_aload_n hX dX1_copyFrom_32 rfl ?_
  refine s_aload_n hX dX1_copyFrom_33 rfl ?_
  refine s_getI hX dX1_copyFrom_34 q_221 rfl (fun v9 => ?_)
  refine s_putI hX dX1_copyFrom_37 q_221 rfl rfl (fun M10 => ?_)
  refine s_aload_n hX dX1_copyFrom_40 rfl ?_
  refine s_aload_n hX dX1_copyFrom_41 rfl ?_
  refine s_getI hX dX1_copyFrom_42 q_224 rfl (fun v11 => ?_)
  refine s_putI hX dX1_copyFrom_45 q_224 rfl rfl (fun M12 => ?_)
  refine s_aload_n hX dX1_copyFrom_48 rfl ?_
  refine s_aload_n hX dX1_copyFrom_49 rfl ?_
  refine s_getI hX dX1_copyFrom_50 q_226 rfl (fun v13 => ?_)
  refine s_putI hX dX1_copyFrom_53 q_226 rfl rfl (fun M14 => ?_)
  refine s_aload_n hX dX1_copyFrom_56 rfl ?_
  refine s_aload_n hX dX1_copyFrom_57 rfl ?_
  refine s_getI hX dX1_copyFrom_58 q_229 rfl (fun v15 => ?_)
  refine s_putI hX dX1_copyFrom_61 q_229 rfl rfl (fun M16 => ?_)
  refine s_aload_n hX dX1_copyFrom_64 rfl ?_
  refine s_aload_n hX dX1_copyFrom_65 rfl ?_
  refine s_getI hX dX1_copyFrom_66 q_232 rfl (fun v17 => ?_)
  refine s_putZ hX dX1_copyFrom_69 q_232 rfl rfl (fun M18 => ?_)
  refine s_aload_n hX dX1_copyFrom_72 rfl ?_
  refine s_aload_n hX dX1_copyFrom_73 rfl ?_
  refine s_getI hX dX1_copyFrom_74 q_236 rfl (fun v19 => ?_)
  refine s_putI hX dX1_copyFrom_77 q_236 rfl rfl (fun M20 => ?_)
  refine s_aload_n hX dX1_copyFrom_80 rfl ?_
  refine s_aload_n hX dX1_copyFrom_81 rfl ?_
  refine s_getI hX dX1_copyFrom_82 q_239 rfl (fun v21 => ?_)
  refine s_putI hX dX1_copyFrom_85 q_239 rfl rfl (fun M22 => ?_)
  refine s_aload_n hX dX1_copyFrom_88 rfl ?_
  refine s_aload_n hX dX1_copyFrom_89 rfl ?_
  refine s_getI hX dX1_copyFrom_90 q_242 rfl (fun v23 => ?_)
  refine s_putI hX dX1_copyFrom_93 q_242 rfl rfl (fun M24 => ?_)
  refine s_aload_n hX dX1_copyFrom_96 rfl ?_
  refine s_aload_n hX dX1_copyFrom_97 rfl ?_
  refine s_getI hX dX1_copyFrom_98 q_245 rfl (fun v25 => ?_)
  refine s_putZ hX dX1_copyFrom_101 q_245 rfl rfl (fun M26 => ?_)
  refine s_aload_n hX dX1_copyFrom_104 rfl ?_
  refine s_aload_n hX dX1_copyFrom_105 rfl ?_
  refine s_getI hX dX1_copyFrom_106 q_248 rfl (fun v27 => ?_)
  refine s_putI hX dX1_copyFrom_109 q_248 rfl rfl (fun M28 => ?_)
  refine s_aload_n hX dX1_copyFrom_112 rfl ?_
  refine s_aload_n hX dX1_copyFrom_113 rfl ?_
  refine s_getI hX dX1_copyFrom_114 q_251 rfl (fun v29 => ?_)
  refine s_putI hX dX1_copyFrom_117 q_251 rfl rfl (fun M30 => ?_)
  refine s_aload_n hX dX1_copyFrom_120 rfl ?_
  refine s_getO hX dX1_copyFrom_121 q_254 rfl (fun j31 => ?_)
  refine s_aload_n hX dX1_copyFrom_124 rfl ?_
  refine s_getO hX dX1_copyFrom_125 q_254 rfl (fun j32 => ?_)
  refine s_callSNu (ck1 := 0) (sk1 := 0) hX dX1_copyFrom_128 k_X9_copyRow nx_739 (c_X9_copyRow n M30 j31 j32) rfl rfl ⟨Nat.le_of_ble_eq_true rfl, Nat.le_of_ble_eq_true rfl⟩ ⟨(Nat.le_of_ble_eq_true rfl), (Nat.le_of_ble_eq_true rfl)⟩ (Nat.le_of_ble_eq_true rfl) rfl rfl (fun r33 M34 => ?_)
  refine s_aload_n hX dX1_copyFrom_131 rfl ?_
  refine s_getO hX dX1_copyFrom_132 q_256 rfl (fun j35 => ?_)
  refine s_aload_n hX dX1_copyFrom_135 rfl ?_
  refine s_getO hX dX1_copyFrom_136 q_256 rfl (fun j36 => ?_)
  refine s_callSNu (ck1 := 0) (sk1 := 0) hX dX1_copyFrom_139 k_X9_copyRow nx_739 (c_X9_copyRow n M34 j35 j36) rfl rfl ⟨Nat.le_of_ble_eq_true rfl, Nat.le_of_ble_eq_true rfl⟩ ⟨(Nat.le_of_ble_eq_true rfl), (Nat.le_of_ble_eq_true rfl)⟩ (Nat.le_of_ble_eq_true rfl) rfl rfl (fun r37 M38 => ?_)
  refine s_aload_n hX dX1_copyFrom_142 rfl ?_
  refine s_getO hX dX1_copyFrom_143 q_258 rfl (fun j39 => ?_)
  refine s_aload_n hX dX1_copyFrom_146 rfl ?_
  refine s_getO hX dX1_copyFrom_147 q_258 rfl (fun j40 => ?_)
  refine s_callSNu (ck1 := 0) (sk1 := 0) hX dX1_copyFrom_150 k_X9_copyRow nx_739 (c_X9_copyRow n M38 j39 j40) rfl rfl ⟨Nat.le_of_ble_eq_true rfl, Nat.le_of_ble_eq_true rfl⟩ ⟨(Nat.le_of_ble_eq_true rfl), (Nat.le_of_ble_eq_true rfl)⟩ (Nat.le_of_ble_eq_true rfl) rfl rfl (fun r41 M42 => ?_)
  refine s_aload_n hX dX1_copyFrom_153 rfl ?_
  refine s_getO hX dX1_copyFrom_154 q_260 rfl (fun j43 => ?_)
  refine s_aload_n hX dX1_copyFrom_157 rfl ?_
  refine s_getO hX dX1_copyFrom_158 q_260 rfl (fun j44 => ?_)
  refine s_callSNu (ck1 := 0) (sk1 := 0) hX dX1_copyFrom_161 k_X9_copyRow nx_739 (c_X9_copyRow n M42 j43 j44) rfl rfl ⟨Nat.le_of_ble_eq_true rfl, Nat.le_of_ble_eq_true rfl⟩ ⟨(Nat.le_of_ble_eq_true rfl), (Nat.le_of_ble_eq_true rfl)⟩ (Nat.le_of_ble_eq_true rfl) rfl rfl (fun r45 M46 => ?_)
  exact s_vret hX hR dX1_copyFrom_164 (Nat.le_of_ble_eq_true rfl) (Nat.le_of_ble_eq_true rfl)
abbrev rm_X1_isFree : Room := { frames := 0, cells := 0, slots := 0, locals := 0 }
theorem k_X1_isFree : KYV yX1_isFree cX1_isFree 1 (some .boolean) 0 := ⟨⟨q_770, q_6, by decide +kernel, by decide +kernel, by decide +kernel⟩, q_768, q_769⟩
set_option maxHeartbeats 4000000 in
set_option maxRecDepth 100000 in
theorem c_X1_isFree (n : Nat) (M0 : MemT) (a0 : Nat) : Ct iI yX1_isFree cX1_isFree 1 (some .boolean) rm_X1_isFree [.ref a0] M0 (g_X1_isFree n M0 a0) := by
  unfold g_X1_isFree
  refine ct_intro RX1 0 [some (.ref a0)] rfl (by decide +kernel) rfl (Nat.le_of_ble_eq_true rfl) (fun X A hX hnm hR => ?_)
  refine s_aload_n hX dX1_isFree_0 rfl ?_
  refine s_getI hX dX1_isFree_1 q_232 rfl (fun v1 => ?_)
  refine s_ifne (tgt := 20) hX dX1_isFree_4 rfl ?_ ?_
  · refine s_aload_n hX dX1_isFree_7 rfl ?_
    refine s_getI hX dX1_isFree_8 q_226 rfl (fun v2 => ?_)
    refine s_bipush (v := (-2)) hX dX1_isFree_11 kb_m2 ?_
    refine s_icne (tgt := 20) hX dX1_isFree_13 rfl ?_ ?_
    · refine s_iconst (v := 1) hX dX1_isFree_16 kc_1 ?_
      refine s_goto (tgt := 21) hX dX1_isFree_17 rfl ?_
      exact s_zret hX hR dX1_isFree_21 (Nat.le_of_ble_eq_true rfl) (Nat.le_of_ble_eq_true rfl)
    · refine s_iconst (v := 0) hX dX1_isFree_20 kc_0 ?_
      exact s_zret hX hR dX1_isFree_21 (Nat.le_of_ble_eq_true rfl) (Nat.le_of_ble_eq_true rfl)
  · refine s_iconst (v := 0) hX dX1_isFree_20 kc_0 ?_
    exact s_zret hX hR dX1_isFree_21 (Nat.le_of_ble_eq_true rfl) (Nat.le_of_ble_eq_true rfl)
abbrev rm_X1_usesMayChange : Room := { frames := 1, cells := 0, slots := 0, locals := 20 }
theorem k_X1_usesMayChange : KYV yX1_usesMayChange cX1_usesMayChange 1 (some .boolean) 0 := ⟨⟨q_766, q_6, by decide +kernel, by decide +kernel, by decide +kernel⟩, q_764, q_765⟩
set_option maxHeartbeats 4000000 in
set_option maxRecDepth 100000 in
theorem c_X1_usesMayChange (n : Nat) (M0 : MemT) (a0 : Nat) : Ct iI yX1_usesMayChange cX1_usesMayChange 1 (some .boolean) rm_X1_usesMayChange [.ref a0] M0 (g_X1_usesMayChange n M0 a0) := by
  unfold g_X1_usesMayChange
  refine ct_intro RX1 0 [some (.ref a0)] rfl (by decide +kernel) rfl (Nat.le_of_ble_eq_true rfl) (fun X A hX hnm hR => ?_)
  refine s_aload_n hX dX1_usesMayChange_0 rfl ?_
  refine s_callVi (ck1 := 0) (sk1 := 0) (ci := 0) hX dX1_usesMayChange_1 k_X1_isFree q_767 (c_X1_isFree n M0 a0) (by decide) rfl rfl rfl ⟨Nat.le_of_ble_eq_true rfl, Nat.le_of_ble_eq_true rfl⟩ ⟨(Nat.le_of_ble_eq_true rfl), (Nat.le_of_ble_eq_true rfl)⟩ (Nat.le_of_ble_eq_true rfl) rfl rfl (fun r1 M2 => ?_)
  refine s_ifeq (tgt := 18) hX dX1_usesMayChange_4 rfl ?_ ?_
  · refine s_iconst (v := 0) hX dX1_usesMayChange_18 kc_0 ?_
    exact s_zret hX hR dX1_usesMayChange_19 (Nat.le_of_ble_eq_true rfl) (Nat.le_of_ble_eq_true rfl)
  · refine s_aload_n hX dX1_usesMayChange_7 rfl ?_
    refine s_getI hX dX1_usesMayChange_8 q_251 rfl (fun v3 => ?_)
    refine s_ifle (tgt := 18) hX dX1_usesMayChange_11 rfl ?_ ?_
    · refine s_iconst (v := 0) hX dX1_usesMayChange_18 kc_0 ?_
      exact s_zret hX hR dX1_usesMayChange_19 (Nat.le_of_ble_eq_true rfl) (Nat.le_of_ble_eq_true rfl)
    · refine s_iconst (v := 1) hX dX1_usesMayChange_14 kc_1 ?_
      refine s_goto (tgt := 19) hX dX1_usesMayChange_15 rfl ?_
      exact s_zret hX hR dX1_usesMayChange_19 (Nat.le_of_ble_eq_true rfl) (Nat.le_of_ble_eq_true rfl)
abbrev rm_X1_intervalsBehind : Room := { frames := 0, cells := 0, slots := 0, locals := 0 }
theorem k_X1_intervalsBehind : KYV yX1_intervalsBehind cX1_intervalsBehind 1 (some .int) 0 := ⟨⟨q_779, q_6, by decide +kernel, by decide +kernel, by decide +kernel⟩, q_777, q_778⟩
set_option maxHeartbeats 4000000 in
set_option maxRecDepth 100000 in
theorem c_X1_intervalsBehind (n : Nat) (M0 : MemT) (a0 : Nat) : Ct iI yX1_intervalsBehind cX1_intervalsBehind 1 (some .int) rm_X1_intervalsBehind [.ref a0] M0 (g_X1_intervalsBehind n M0 a0) := by
  unfold g_X1_intervalsBehind
  refine ct_intro RX1 0 [some (.ref a0)] rfl (by decide +kernel) rfl (Nat.le_of_ble_eq_true rfl) (fun X A hX hnm hR => ?_)
  refine s_aload_n hX dX1_intervalsBehind_0 rfl ?_
  refine s_getI hX dX1_intervalsBehind_1 q_221 rfl (fun v1 => ?_)
  refine s_iconst (v := 1) hX dX1_intervalsBehind_4 kc_1 ?_
  refine s_isub hX dX1_intervalsBehind_5 ?_
  refine s_aload_n hX dX1_intervalsBehind_6 rfl ?_
  refine s_getI hX dX1_intervalsBehind_7 q_251 rfl (fun v2 => ?_)
  refine s_isub hX dX1_intervalsBehind_10 ?_
  exact s_iret hX hR dX1_intervalsBehind_11 (Nat.le_of_ble_eq_true rfl) (Nat.le_of_ble_eq_true rfl)
abbrev rm_X1_endInterval : Room := { frames := 0, cells := 0, slots := 0, locals := 0 }
theorem k_X1_endInterval : KYV yX1_endInterval cX1_endInterval 3 none 2 := ⟨⟨q_902, q_6, by decide +kernel, by decide +kernel, by decide +kernel⟩, q_900, q_901⟩
set_option maxHeartbeats 4000000 in
set_option maxRecDepth 100000 in
theorem c_X1_endInterval (n : Nat) (M0 : MemT) (a0 : Nat) (a1 : Int32) (a2 : Int32) : Ct iU yX1_endInterval cX1_endInterval 3 none rm_X1_endInterval [.ref a0, .int a1, .int a2] M0 (g_X1_endInterval n M0 a0 a1 a2) := by
  unfold g_X1_endInterval
  refine ct_intro RX1 0 [some (.ref a0), some (.int a1), some (.int a2)] rfl (by decide +kernel) rfl (Nat.le_of_ble_eq_true rfl) (fun X A hX hnm hR => ?_)
  refine s_aload_n hX dX1_endInterval_0 rfl ?_
  refine s_getI hX dX1_endInterval_1 q_251 rfl (fun v1 => ?_)
  refine s_iflt (tgt := 16) hX dX1_endInterval_4 rfl ?_ ?_
  · exact s_vret hX hR dX1_endInterval_16 (Nat.le_of_ble_eq_true rfl) (Nat.le_of_ble_eq_true rfl)
  · refine s_aload_n hX dX1_endInterval_7 rfl ?_
    refine s_getI hX dX1_endInterval_8 q_251 rfl (fun v2 => ?_)
    refine s_bipush (v := 10) hX dX1_endInterval_11 kb_10 ?_
    refine s_iclt (tgt := 17) hX dX1_endInterval_13 rfl ?_ ?_
    · refine s_aload_n hX dX1_endInterval_17 rfl ?_
      refine s_getO hX dX1_endInterval_18 q_256 rfl (fun j3 => ?_)
      refine s_aload_n hX dX1_endInterval_21 rfl ?_
      refine s_getI hX dX1_endInterval_22 q_251 rfl (fun v4 => ?_)
      refine s_iload_n hX dX1_endInterval_25 rfl ?_
      refine s_iast hX dX1_endInterval_26 (fun M5 => ?_)
      refine s_aload_n hX dX1_endInterval_27 rfl ?_
      refine s_getO hX dX1_endInterval_28 q_258 rfl (fun j6 => ?_)
      refine s_aload_n hX dX1_endInterval_31 rfl ?_
      refine s_getI hX dX1_endInterval_32 q_251 rfl (fun v7 => ?_)
      refine s_iload_n hX dX1_endInterval_35 rfl ?_
      refine s_iast hX dX1_endInterval_36 (fun M8 => ?_)
      refine s_aload_n hX dX1_endInterval_37 rfl ?_
      refine s_getO hX dX1_endInterval_38 q_260 rfl (fun j9 => ?_)
      refine s_aload_n hX dX1_endInterval_41 rfl ?_
      refine s_getI hX dX1_endInterval_42 q_251 rfl (fun v10 => ?_)
      refine s_aload_n hX dX1_endInterval_45 rfl ?_
      refine s_getI hX dX1_endInterval_46 q_208 rfl (fun v11 => ?_)
      refine s_iast hX dX1_endInterval_49 (fun M12 => ?_)
      refine s_aload_n hX dX1_endInterval_50 rfl ?_
      refine s_dup hX dX1_endInterval_51 rfl ?_
      refine s_getI hX dX1_endInterval_52 q_242 rfl (fun v13 => ?_)
      refine s_iload_n hX dX1_endInterval_55 rfl ?_
      refine s_iadd hX dX1_endInterval_56 ?_
      refine s_putI hX dX1_endInterval_57 q_242 rfl rfl (fun M14 => ?_)
      refine s_aload_n hX dX1_endInterval_60 rfl ?_
      refine s_dup hX dX1_endInterval_61 rfl ?_
      refine s_getI hX dX1_endInterval_62 q_251 rfl (fun v15 => ?_)
      refine s_iconst (v := 1) hX dX1_endInterval_65 kc_1 ?_
      refine s_iadd hX dX1_endInterval_66 ?_
      refine s_putI hX dX1_endInterval_67 q_251 rfl rfl (fun M16 => ?_)
      exact s_vret hX hR dX1_endInterval_70 (Nat.le_of_ble_eq_true rfl) (Nat.le_of_ble_eq_true rfl)
    · exact s_vret hX hR dX1_endInterval_16 (Nat.le_of_ble_eq_true rfl) (Nat.le_of_ble_eq_true rfl)
abbrev rm_X2_init : Room := { frames := 2, cells := 54, slots := 2565, locals := 40 }
theorem k_X2_init : KYI yX2_init cX2_init 2 0 := ⟨⟨q_199, q_5, by decide +kernel, by decide +kernel, by decide +kernel⟩, rfl, q_198⟩
set_option maxHeartbeats 4000000 in
set_option maxRecDepth 100000 in
theorem c_X2_init (n : Nat) (M0 : MemT) (a0 : Nat) : Ct iU yX2_init cX2_init 2 none rm_X2_init [.ref a0] M0 (g_X2_init n M0 a0) := by
  unfold g_X2_init
  refine ct_intro RX2 1 [some (.ref a0), none] rfl (by decide +kernel) rfl (Nat.le_of_ble_eq_true rfl) (fun X A hX hnm hR => ?_)
  refine s_aload_n hX dX2_init_0 rfl ?_
  refine s_objInit hX dX2_init_1 q_200 q_31 q_32 (Nat.le_of_ble_eq_true rfl) (Nat.le_of_ble_eq_true rfl) ?_
  refine s_aload_n hX dX2_init_4 rfl ?_
  refine s_iconst (v := 4) hX dX2_init_5 kc_4 ?_
  refine s_newaI (N := 4) (ck1 := 1) (sk1 := 4) hX dX2_init_6 q_186 (by decide) (by decide) (by decide) (Nat.le_of_ble_eq_true rfl) (Nat.le_of_ble_eq_true rfl) rfl rfl (fun j1 M2 => ?_)
  refine s_putOF hX dX2_init_8 q_309 rfl rfl hnm rfl (fun M3 => ?_)
  refine s_aload_n hX dX2_init_11 rfl ?_
  refine s_iconst (v := 4) hX dX2_init_12 kc_4 ?_
  refine s_newaI (N := 4) (ck1 := 2) (sk1 := 8) hX dX2_init_13 q_186 (by decide) (by decide) (by decide) (Nat.le_of_ble_eq_true rfl) (Nat.le_of_ble_eq_true rfl) rfl rfl (fun j4 M5 => ?_)
  refine s_putOF hX dX2_init_15 q_312 rfl rfl hnm rfl (fun M6 => ?_)
  refine s_aload_n hX dX2_init_18 rfl ?_
  refine s_bipush (v := 8) hX dX2_init_19 kb_8 ?_
  refine s_newa14 (N := 8) (ck1 := 3) (sk1 := 16) hX dX2_init_21 q_201 (by decide) (by decide) (by decide) (Nat.le_of_ble_eq_true rfl) (Nat.le_of_ble_eq_true rfl) rfl rfl (fun j7 M8 => ?_)
  refine s_putOF hX dX2_init_24 q_315 rfl rfl hnm rfl (fun M9 => ?_)
  refine s_aload_n hX dX2_init_27 rfl ?_
  refine s_sipush (v := 1280) hX dX2_init_28 ks_1280 ?_
  refine s_newaI (N := 1280) (ck1 := 4) (sk1 := 1296) hX dX2_init_31 q_186 (by decide) (by decide) (by decide) (Nat.le_of_ble_eq_true rfl) (Nat.le_of_ble_eq_true rfl) rfl rfl (fun j10 M11 => ?_)
  refine s_putOF hX dX2_init_33 q_318 rfl rfl hnm rfl (fun M12 => ?_)
  refine s_aload_n hX dX2_init_36 rfl ?_
  refine s_sipush (v := 256) hX dX2_init_37 ks_256 ?_
  refine s_newaI (N := 256) (ck1 := 5) (sk1 := 1552) hX dX2_init_40 q_186 (by decide) (by decide) (by decide) (Nat.le_of_ble_eq_true rfl) (Nat.le_of_ble_eq_true rfl) rfl rfl (fun j13 M14 => ?_)
  refine s_putOF hX dX2_init_42 q_319 rfl rfl hnm rfl (fun M15 => ?_)
  refine s_aload_n hX dX2_init_45 rfl ?_
  refine s_bipush (v := 64) hX dX2_init_46 kb_64 ?_
  refine s_newaI (N := 64) (ck1 := 6) (sk1 := 1616) hX dX2_init_48 q_186 (by decide) (by decide) (by decide) (Nat.le_of_ble_eq_true rfl) (Nat.le_of_ble_eq_true rfl) rfl rfl (fun j16 M17 => ?_)
  refine s_putOF hX dX2_init_50 q_320 rfl rfl hnm rfl (fun M18 => ?_)
  refine s_aload_n hX dX2_init_53 rfl ?_
  refine s_sipush (v := 256) hX dX2_init_54 ks_256 ?_
  refine s_newaI (N := 256) (ck1 := 7) (sk1 := 1872) hX dX2_init_57 q_186 (by decide) (by decide) (by decide) (Nat.le_of_ble_eq_true rfl) (Nat.le_of_ble_eq_true rfl) rfl rfl (fun j19 M20 => ?_)
  refine s_putOF hX dX2_init_59 q_321 rfl rfl hnm rfl (fun M21 => ?_)
  refine s_aload_n hX dX2_init_62 rfl ?_
  refine s_bipush (v := 16) hX dX2_init_63 kb_16 ?_
  refine s_newaI (N := 16) (ck1 := 8) (sk1 := 1888) hX dX2_init_65 q_186 (by decide) (by decide) (by decide) (Nat.le_of_ble_eq_true rfl) (Nat.le_of_ble_eq_true rfl) rfl rfl (fun j22 M23 => ?_)
  refine s_putOF hX dX2_init_67 q_322 rfl rfl hnm rfl (fun M24 => ?_)
  refine s_aload_n hX dX2_init_70 rfl ?_
  refine s_sipush (v := 200) hX dX2_init_71 ks_200 ?_
  refine s_newaI (N := 200) (ck1 := 9) (sk1 := 2088) hX dX2_init_74 q_186 (by decide) (by decide) (by decide) (Nat.le_of_ble_eq_true rfl) (Nat.le_of_ble_eq_true rfl) rfl rfl (fun j25 M26 => ?_)
  refine s_putOF hX dX2_init_76 q_323 rfl rfl hnm rfl (fun M27 => ?_)
  refine s_iconst (v := 0) hX dX2_init_79 kc_0 ?_
  refine s_istore1 hX dX2_init_80 (by first | exact trivial | exact rfl) (Nat.le_of_ble_eq_true rfl) ?_
  refine s_loop0A (N := 9) (dc := 5) (ds := 53) (cL := (fun (s : MemT × Int32) => [some (.ref a0), some (.int s.2)])) (cM := (fun (s : MemT × Int32) => s.1)) (s_loopA (stk := []) (fun (s : MemT × Int32) => [some (.ref a0), some (.int s.2)]) (fun (s : MemT × Int32) => s.1) 9 5 53 9 2088 (fun j30 hj30 s B30 hB30 hI30 => ?_) 9 (M27, 0) (Nat.le_refl _))
  obtain ⟨M28, v29⟩ := s
  dsimp only
  refine s_iload_n hX dX2_init_81 rfl ?_
  refine s_bipush (v := 8) hX dX2_init_82 kb_8 ?_
  refine s_icge (tgt := 106) hX dX2_init_84 rfl ?_ ?_
  · exact s_inr hI30 (s_vret hX hR dX2_init_106 (by simp only [rm_X2_init, NC]; omega) (by simp only [rm_X2_init, NC]; omega))
  · refine s_aload_n hX dX2_init_87 rfl ?_
    refine s_getO hX dX2_init_88 q_315 rfl (fun j31 => ?_)
    refine s_iload_n hX dX2_init_91 rfl ?_
    refine s_new (ck1 := 9 + j30 * 5 + 1) (sk1 := 2088 + j30 * 53 + 19) hX dX2_init_92 (by decide) q_201 q_203 q_6 (by simp only [rm_X2_init, NC]; omega) (by simp only [rm_X2_init, NC]; omega) rfl rfl (fun j32 M33 => ?_)
    refine s_dup hX dX2_init_95 rfl ?_
    refine s_callINu (ck1 := 9 + j30 * 5 + 1 + 4) (sk1 := 2088 + j30 * 53 + 19 + 34) hX dX2_init_96 k_X1_init nx_204 (c_X1_init n M33 j32) rfl rfl ⟨Nat.le_of_ble_eq_true rfl, Nat.le_of_ble_eq_true rfl⟩ ⟨(by simp only [rm_X2_init, NC]; omega), (by simp only [rm_X2_init, NC]; omega)⟩ (Nat.le_of_ble_eq_true rfl) rfl rfl (fun r34 M35 => ?_)
    refine s_aast14 hX dX2_init_99 (fun M36 => ?_)
    refine s_iinc1 (v := v29 + 1) hX dX2_init_100 rfl (by first | exact trivial | exact rfl) (Nat.le_of_ble_eq_true rfl) ?_
    refine s_goto (tgt := 81) hX dX2_init_103 rfl ?_
    refine s_widen (ck1 := 9 + (j30 + 1) * 5) (sk1 := 2088 + (j30 + 1) * 53) (by omega) (by omega) ?_
    exact s_back hB30
abbrev rm_X2_clearRow : Room := { frames := 0, cells := 0, slots := 0, locals := 0 }
theorem k_X2_clearRow : KYS yX2_clearRow cX2_clearRow 2 none 1 := ⟨⟨q_669, q_5, by decide +kernel, by decide +kernel, by decide +kernel⟩, q_668⟩
set_option maxHeartbeats 4000000 in
set_option maxRecDepth 100000 in
theorem c_X2_clearRow (n : Nat) (M0 : MemT) (a0 : Nat) : Ct iU yX2_clearRow cX2_clearRow 2 none rm_X2_clearRow [.ref a0] M0 (g_X2_clearRow n M0 a0) := by
  unfold g_X2_clearRow
  refine ct_intro RX2 1 [some (.ref a0), none] rfl (by decide +kernel) rfl (Nat.le_of_ble_eq_true rfl) (fun X A hX hnm hR => ?_)
  refine s_iconst (v := 0) hX dX2_clearRow_0 kc_0 ?_
  refine s_istore1 hX dX2_clearRow_1 (by first | exact trivial | exact rfl) (Nat.le_of_ble_eq_true rfl) ?_
  refine s_loopE (stk := []) (fun (s : MemT × Int32) => [some (.ref a0), some (.int s.2)]) (fun (s : MemT × Int32) => s.1) 18 (fun (s : MemT × Int32) => [some (.ref a0), some (.int s.2)]) (fun s B3 hB3 hE3 => ?_) (fun s => ?_) n (M0, 0)
  · obtain ⟨M1, v2⟩ := s
    dsimp only
    refine s_iload_n hX dX2_clearRow_2 rfl ?_
    refine s_aload_n hX dX2_clearRow_3 rfl ?_
    refine s_alen hX dX2_clearRow_4 (fun v4 => ?_)
    refine s_icge (tgt := 18) hX dX2_clearRow_5 rfl ?_ ?_
    · exact s_exit hE3
    · refine s_aload_n hX dX2_clearRow_8 rfl ?_
      refine s_iload_n hX dX2_clearRow_9 rfl ?_
      refine s_iconst (v := 0) hX dX2_clearRow_10 kc_0 ?_
      refine s_iast hX dX2_clearRow_11 (fun M5 => ?_)
      refine s_iinc1 (v := v2 + 1) hX dX2_clearRow_12 rfl (by first | exact trivial | exact rfl) (Nat.le_of_ble_eq_true rfl) ?_
      refine s_goto (tgt := 2) hX dX2_clearRow_15 rfl ?_
      exact s_back hB3
  · obtain ⟨M6, v7⟩ := s
    dsimp only
    exact s_vret hX hR dX2_clearRow_18 (Nat.le_of_ble_eq_true rfl) (Nat.le_of_ble_eq_true rfl)
abbrev rm_X2_clear : Room := { frames := 1, cells := 0, slots := 0, locals := 21 }
theorem k_X2_clear : KYV yX2_clear cX2_clear 1 none 0 := ⟨⟨q_666, q_5, by decide +kernel, by decide +kernel, by decide +kernel⟩, q_664, q_665⟩
set_option maxHeartbeats 4000000 in
set_option maxRecDepth 100000 in
theorem c_X2_clear (n : Nat) (M0 : MemT) (a0 : Nat) : Ct iU yX2_clear cX2_clear 1 none rm_X2_clear [.ref a0] M0 (g_X2_clear n M0 a0) := by
  unfold g_X2_clear
  refine ct_intro RX2 0 [some (.ref a0)] rfl (by decide +kernel) rfl (Nat.le_of_ble_eq_true rfl) (fun X A hX hnm hR => ?_)
  refine s_aload_n hX dX2_clear_0 rfl ?_
  refine s_iconst (v := 0) hX dX2_clear_1 kc_0 ?_
  refine s_putI hX dX2_clear_2 q_301 rfl rfl (fun M1 => ?_)
  refine s_aload_n hX dX2_clear_5 rfl ?_
  refine s_iconst (v := 0) hX dX2_clear_6 kc_0 ?_
  refine s_putI hX dX2_clear_7 q_304 rfl rfl (fun M2 => ?_)
  refine s_aload_n hX dX2_clear_10 rfl ?_
  refine s_iconst (v := 0) hX dX2_clear_11 kc_0 ?_
  refine s_putI hX dX2_clear_12 q_307 rfl rfl (fun M3 => ?_)
  refine s_aload_n hX dX2_clear_15 rfl ?_
  refine s_getO hX dX2_clear_16 q_318 rfl (fun j4 => ?_)
  refine s_callSu (ck1 := 0) (sk1 := 0) hX dX2_clear_19 k_X2_clearRow q_667 (c_X2_clearRow n M3 j4) rfl rfl ⟨Nat.le_of_ble_eq_true rfl, Nat.le_of_ble_eq_true rfl⟩ ⟨(Nat.le_of_ble_eq_true rfl), (Nat.le_of_ble_eq_true rfl)⟩ (Nat.le_of_ble_eq_true rfl) rfl rfl (fun r5 M6 => ?_)
  refine s_aload_n hX dX2_clear_22 rfl ?_
  refine s_getO hX dX2_clear_23 q_319 rfl (fun j7 => ?_)
  refine s_callSu (ck1 := 0) (sk1 := 0) hX dX2_clear_26 k_X2_clearRow q_667 (c_X2_clearRow n M6 j7) rfl rfl ⟨Nat.le_of_ble_eq_true rfl, Nat.le_of_ble_eq_true rfl⟩ ⟨(Nat.le_of_ble_eq_true rfl), (Nat.le_of_ble_eq_true rfl)⟩ (Nat.le_of_ble_eq_true rfl) rfl rfl (fun r8 M9 => ?_)
  refine s_aload_n hX dX2_clear_29 rfl ?_
  refine s_getO hX dX2_clear_30 q_320 rfl (fun j10 => ?_)
  refine s_callSu (ck1 := 0) (sk1 := 0) hX dX2_clear_33 k_X2_clearRow q_667 (c_X2_clearRow n M9 j10) rfl rfl ⟨Nat.le_of_ble_eq_true rfl, Nat.le_of_ble_eq_true rfl⟩ ⟨(Nat.le_of_ble_eq_true rfl), (Nat.le_of_ble_eq_true rfl)⟩ (Nat.le_of_ble_eq_true rfl) rfl rfl (fun r11 M12 => ?_)
  refine s_aload_n hX dX2_clear_36 rfl ?_
  refine s_getO hX dX2_clear_37 q_321 rfl (fun j13 => ?_)
  refine s_callSu (ck1 := 0) (sk1 := 0) hX dX2_clear_40 k_X2_clearRow q_667 (c_X2_clearRow n M12 j13) rfl rfl ⟨Nat.le_of_ble_eq_true rfl, Nat.le_of_ble_eq_true rfl⟩ ⟨(Nat.le_of_ble_eq_true rfl), (Nat.le_of_ble_eq_true rfl)⟩ (Nat.le_of_ble_eq_true rfl) rfl rfl (fun r14 M15 => ?_)
  refine s_aload_n hX dX2_clear_43 rfl ?_
  refine s_getO hX dX2_clear_44 q_322 rfl (fun j16 => ?_)
  refine s_callSu (ck1 := 0) (sk1 := 0) hX dX2_clear_47 k_X2_clearRow q_667 (c_X2_clearRow n M15 j16) rfl rfl ⟨Nat.le_of_ble_eq_true rfl, Nat.le_of_ble_eq_true rfl⟩ ⟨(Nat.le_of_ble_eq_true rfl), (Nat.le_of_ble_eq_true rfl)⟩ (Nat.le_of_ble_eq_true rfl) rfl rfl (fun r17 M18 => ?_)
  exact s_vret hX hR dX2_clear_50 (Nat.le_of_ble_eq_true rfl) (Nat.le_of_ble_eq_true rfl)
abbrev rm_X2_copyFrom : Room := { frames := 3, cells := 0, slots := 0, locals := 82 }
theorem k_X2_copyFrom : KYV yX2_copyFrom cX2_copyFrom 3 none 1 := ⟨⟨q_733, q_5, by decide +kernel, by decide +kernel, by decide +kernel⟩, q_731, q_732⟩
set_option maxHeartbeats 4000000 in
set_option maxRecDepth 100000 in
theorem c_X2_copyFrom (n : Nat) (M0 : MemT) (a0 : Nat) (a1 : Nat) : Ct iU yX2_copyFrom cX2_copyFrom 3 none rm_X2_copyFrom [.ref a0, .ref a1] M0 (g_X2_copyFrom n M0 a0 a1) := by
  unfold g_X2_copyFrom
  refine ct_intro RX2 1 [some (.ref a0), some (.ref a1), none] rfl (by decide +kernel) rfl (Nat.le_of_ble_eq_true rfl) (fun X A hX hnm hR => ?_)
  refine s_aload_n hX dX2_copyFrom_0 rfl ?_
  refine s_aload_n hX dX2_copyFrom_1 rfl ?_
  refine s_getI hX dX2_copyFrom_2 q_301 rfl (fun v1 => ?_)
  refine s_putI hX dX2_copyFrom_5 q_301 rfl rfl (fun M2 => ?_)
  refine s_aload_n hX dX2_copyFrom_8 rfl ?_
  refine s_aload_n hX dX2_copyFrom_9 rfl ?_
  refine s_getI hX dX2_copyFrom_10 q_304 rfl (fun v3 => ?_)
  refine s_putI hX dX2_copyFrom_13 q_304 rfl rfl (fun M4 => ?_)
  refine s_aload_n hX dX2_copyFrom_16 rfl ?_
  refine s_aload_n hX dX2_copyFrom_17 rfl ?_
  refine s_getI hX dX2_copyFrom_18 q_307 rfl (fun v5 => ?_)
  refine s_putI hX dX2_copyFrom_21 q_307 rfl rfl (fun M6 => ?_)
  refine s_aload_n hX dX2_copyFrom_24 rfl ?_
  refine s_getO hX dX2_copyFrom_25 q_309 rfl (fun j7 => ?_)
  refine s_aload_n hX dX2_copyFrom_28 rfl ?_
  refine s_getO hX dX2_copyFrom_29 q_309 rfl (fun j8 => ?_)
  refine s_callSNu (ck1 := 0) (sk1 := 0) hX dX2_copyFrom_32 k_X9_copyRow nx_734 (c_X9_copyRow n M6 j7 j8) rfl rfl ⟨Nat.le_of_ble_eq_true rfl, Nat.le_of_ble_eq_true rfl⟩ ⟨(Nat.le_of_ble_eq_true rfl), (Nat.le_of_ble_eq_true rfl)⟩ (Nat.le_of_ble_eq_true rfl) rfl rfl (fun r9 M10 => ?_)
  refine s_aload_n hX dX2_copyFrom_35 rfl ?_
  refine s_getO hX dX2_copyFrom_36 q_312 rfl (fun j11 => ?_)
  refine s_aload_n hX dX2_copyFrom_39 rfl ?_
  refine s_getO hX dX2_copyFrom_40 q_312 rfl (fun j12 => ?_)
  refine s_callSNu (ck1 := 0) (sk1 := 0) hX dX2_copyFrom_43 k_X9_copyRow nx_734 (c_X9_copyRow n M10 j11 j12) rfl rfl ⟨Nat.le_of_ble_eq_true rfl, Nat.le_of_ble_eq_true rfl⟩ ⟨(Nat.le_of_ble_eq_true rfl), (Nat.le_of_ble_eq_true rfl)⟩ (Nat.le_of_ble_eq_true rfl) rfl rfl (fun r13 M14 => ?_)
  refine s_aload_n hX dX2_copyFrom_46 rfl ?_
  refine s_getO hX dX2_copyFrom_47 q_318 rfl (fun j15 => ?_)
  refine s_aload_n hX dX2_copyFrom_50 rfl ?_
  refine s_getO hX dX2_copyFrom_51 q_318 rfl (fun j16 => ?_)
  refine s_callSNu (ck1 := 0) (sk1 := 0) hX dX2_copyFrom_54 k_X9_copyRow nx_734 (c_X9_copyRow n M14 j15 j16) rfl rfl ⟨Nat.le_of_ble_eq_true rfl, Nat.le_of_ble_eq_true rfl⟩ ⟨(Nat.le_of_ble_eq_true rfl), (Nat.le_of_ble_eq_true rfl)⟩ (Nat.le_of_ble_eq_true rfl) rfl rfl (fun r17 M18 => ?_)
  refine s_aload_n hX dX2_copyFrom_57 rfl ?_
  refine s_getO hX dX2_copyFrom_58 q_319 rfl (fun j19 => ?_)
  refine s_aload_n hX dX2_copyFrom_61 rfl ?_
  refine s_getO hX dX2_copyFrom_62 q_319 rfl (fun j20 => ?_)
  refine s_callSNu (ck1 := 0) (sk1 := 0) hX dX2_copyFrom_65 k_X9_copyRow nx_734 (c_X9_copyRow n M18 j19 j20) rfl rfl ⟨Nat.le_of_ble_eq_true rfl, Nat.le_of_ble_eq_true rfl⟩ ⟨(Nat.le_of_ble_eq_true rfl), (Nat.le_of_ble_eq_true rfl)⟩ (Nat.le_of_ble_eq_true rfl) rfl rfl (fun r21 M22 => ?_)
  refine s_aload_n hX dX2_copyFrom_68 rfl ?_
  refine s_getO hX dX2_copyFrom_69 q_320 rfl (fun j23 => ?_)
  refine s_aload_n hX dX2_copyFrom_72 rfl ?_
  refine s_getO hX dX2_copyFrom_73 q_320 rfl (fun j24 => ?_)
  refine s_callSNu (ck1 := 0) (sk1 := 0) hX dX2_copyFrom_76 k_X9_copyRow nx_734 (c_X9_copyRow n M22 j23 j24) rfl rfl ⟨Nat.le_of_ble_eq_true rfl, Nat.le_of_ble_eq_true rfl⟩ ⟨(Nat.le_of_ble_eq_true rfl), (Nat.le_of_ble_eq_true rfl)⟩ (Nat.le_of_ble_eq_true rfl) rfl rfl (fun r25 M26 => ?_)
  refine s_aload_n hX dX2_copyFrom_79 rfl ?_
  refine s_getO hX dX2_copyFrom_80 q_321 rfl (fun j27 => ?_)
  refine s_aload_n hX dX2_copyFrom_83 rfl ?_
  refine s_getO hX dX2_copyFrom_84 q_321 rfl (fun j28 => ?_)
  refine s_callSNu (ck1 := 0) (sk1 := 0) hX dX2_copyFrom_87 k_X9_copyRow nx_734 (c_X9_copyRow n M26 j27 j28) rfl rfl ⟨Nat.le_of_ble_eq_true rfl, Nat.le_of_ble_eq_true rfl⟩ ⟨(Nat.le_of_ble_eq_true rfl), (Nat.le_of_ble_eq_true rfl)⟩ (Nat.le_of_ble_eq_true rfl) rfl rfl (fun r29 M30 => ?_)
  refine s_aload_n hX dX2_copyFrom_90 rfl ?_
  refine s_getO hX dX2_copyFrom_91 q_322 rfl (fun j31 => ?_)
  refine s_aload_n hX dX2_copyFrom_94 rfl ?_
  refine s_getO hX dX2_copyFrom_95 q_322 rfl (fun j32 => ?_)
  refine s_callSNu (ck1 := 0) (sk1 := 0) hX dX2_copyFrom_98 k_X9_copyRow nx_734 (c_X9_copyRow n M30 j31 j32) rfl rfl ⟨Nat.le_of_ble_eq_true rfl, Nat.le_of_ble_eq_true rfl⟩ ⟨(Nat.le_of_ble_eq_true rfl), (Nat.le_of_ble_eq_true rfl)⟩ (Nat.le_of_ble_eq_true rfl) rfl rfl (fun r33 M34 => ?_)
  refine s_aload_n hX dX2_copyFrom_101 rfl ?_
  refine s_getO hX dX2_copyFrom_102 q_323 rfl (fun j35 => ?_)
  refine s_aload_n hX dX2_copyFrom_105 rfl ?_
  refine s_getO hX dX2_copyFrom_106 q_323 rfl (fun j36 => ?_)
  refine s_callSNu (ck1 := 0) (sk1 := 0) hX dX2_copyFrom_109 k_X9_copyRow nx_734 (c_X9_copyRow n M34 j35 j36) rfl rfl ⟨Nat.le_of_ble_eq_true rfl, Nat.le_of_ble_eq_true rfl⟩ ⟨(Nat.le_of_ble_eq_true rfl), (Nat.le_of_ble_eq_true rfl)⟩ (Nat.le_of_ble_eq_true rfl) rfl rfl (fun r37 M38 => ?_)
  refine s_iconst (v := 0) hX dX2_copyFrom_112 kc_0 ?_
  refine s_istore2 hX dX2_copyFrom_113 (by first | exact trivial | exact rfl) (Nat.le_of_ble_eq_true rfl) ?_
  refine s_loopE (stk := []) (fun (s : MemT × Int32) => [some (.ref a0), some (.ref a1), some (.int s.2)]) (fun (s : MemT × Int32) => s.1) 149 (fun (s : MemT × Int32) => [some (.ref a0), some (.ref a1), some (.int s.2)]) (fun s B41 hB41 hE41 => ?_) (fun s => ?_) n (M38, 0)
  · obtain ⟨M39, v40⟩ := s
    dsimp only
    refine s_iload_n hX dX2_copyFrom_114 rfl ?_
    refine s_aload_n hX dX2_copyFrom_115 rfl ?_
    refine s_getI hX dX2_copyFrom_116 q_304 rfl (fun v42 => ?_)
    refine s_icge (tgt := 149) hX dX2_copyFrom_119 rfl ?_ ?_
    · exact s_exit hE41
    · refine s_iload_n hX dX2_copyFrom_122 rfl ?_
      refine s_bipush (v := 8) hX dX2_copyFrom_123 kb_8 ?_
      refine s_icge (tgt := 149) hX dX2_copyFrom_125 rfl ?_ ?_
      · exact s_exit hE41
      · refine s_aload_n hX dX2_copyFrom_128 rfl ?_
        refine s_getO hX dX2_copyFrom_129 q_315 rfl (fun j43 => ?_)
        refine s_iload_n hX dX2_copyFrom_132 rfl ?_
        refine s_aald14 hX dX2_copyFrom_133 (fun j44 => ?_)
        refine s_aload_n hX dX2_copyFrom_134 rfl ?_
        refine s_getO hX dX2_copyFrom_135 q_315 rfl (fun j45 => ?_)
        refine s_iload_n hX dX2_copyFrom_138 rfl ?_
        refine s_aald14 hX dX2_copyFrom_139 (fun j46 => ?_)
        refine s_callVu (ck1 := 0) (sk1 := 0) (ci := 0) hX dX2_copyFrom_140 k_X1_copyFrom q_735 (c_X1_copyFrom n M39 j44 j46) (by decide) rfl rfl rfl ⟨Nat.le_of_ble_eq_true rfl, Nat.le_of_ble_eq_true rfl⟩ ⟨(Nat.le_of_ble_eq_true rfl), (Nat.le_of_ble_eq_true rfl)⟩ (Nat.le_of_ble_eq_true rfl) rfl rfl (fun r47 M48 => ?_)
        refine s_iinc2 (v := v40 + 1) hX dX2_copyFrom_143 rfl (by first | exact trivial | exact rfl) (Nat.le_of_ble_eq_true rfl) ?_
        refine s_goto (tgt := 114) hX dX2_copyFrom_146 rfl ?_
        exact s_back hB41
  · obtain ⟨M49, v50⟩ := s
    dsimp only
    exact s_vret hX hR dX2_copyFrom_149 (Nat.le_of_ble_eq_true rfl) (Nat.le_of_ble_eq_true rfl)
abbrev rm_X2_sumOf : Room := { frames := 0, cells := 0, slots := 0, locals := 0 }
theorem k_X2_sumOf : KYV yX2_sumOf cX2_sumOf 4 (some .int) 3 := ⟨⟨q_820, q_5, by decide +kernel, by decide +kernel, by decide +kernel⟩, q_818, q_819⟩
set_option maxHeartbeats 4000000 in
set_option maxRecDepth 100000 in
theorem c_X2_sumOf (n : Nat) (M0 : MemT) (a0 : Nat) (a1 : Int32) (a2 : Int32) (a3 : Int32) : Ct iI yX2_sumOf cX2_sumOf 4 (some .int) rm_X2_sumOf [.ref a0, .int a1, .int a2, .int a3] M0 (g_X2_sumOf n M0 a0 a1 a2 a3) := by
  unfold g_X2_sumOf
  refine ct_intro RX2 0 [some (.ref a0), some (.int a1), some (.int a2), some (.int a3)] rfl (by decide +kernel) rfl (Nat.le_of_ble_eq_true rfl) (fun X A hX hnm hR => ?_)
  refine s_aload_n hX dX2_sumOf_0 rfl ?_
  refine s_getO hX dX2_sumOf_1 q_318 rfl (fun j1 => ?_)
  refine s_iload_n hX dX2_sumOf_4 rfl ?_
  refine s_bipush (v := 64) hX dX2_sumOf_5 kb_64 ?_
  refine s_imul hX dX2_sumOf_7 ?_
  refine s_iload_n hX dX2_sumOf_8 rfl ?_
  refine s_iadd hX dX2_sumOf_9 ?_
  refine s_iconst (v := 5) hX dX2_sumOf_10 kc_5 ?_
  refine s_imul hX dX2_sumOf_11 ?_
  refine s_iload_n hX dX2_sumOf_12 rfl ?_
  refine s_iadd hX dX2_sumOf_13 ?_
  refine s_iald hX dX2_sumOf_14 (fun v2 => ?_)
  exact s_iret hX hR dX2_sumOf_15 (Nat.le_of_ble_eq_true rfl) (Nat.le_of_ble_eq_true rfl)
abbrev rm_X2_addToSum : Room := { frames := 0, cells := 0, slots := 0, locals := 0 }
theorem k_X2_addToSum : KYV yX2_addToSum cX2_addToSum 6 (some .int) 4 := ⟨⟨q_684, q_5, by decide +kernel, by decide +kernel, by decide +kernel⟩, q_682, q_683⟩
set_option maxHeartbeats 4000000 in
set_option maxRecDepth 100000 in
theorem c_X2_addToSum (n : Nat) (M0 : MemT) (a0 : Nat) (a1 : Int32) (a2 : Int32) (a3 : Int32) (a4 : Int32) : Ct iI yX2_addToSum cX2_addToSum 6 (some .int) rm_X2_addToSum [.ref a0, .int a1, .int a2, .int a3, .int a4] M0 (g_X2_addToSum n M0 a0 a1 a2 a3 a4) := by
  unfold g_X2_addToSum
  refine ct_intro RX2 1 [some (.ref a0), some (.int a1), some (.int a2), some (.int a3), some (.int a4), none] rfl (by decide +kernel) rfl (Nat.le_of_ble_eq_true rfl) (fun X A hX hnm hR => ?_)
  refine s_iload_n hX dX2_addToSum_0 rfl ?_
  refine s_bipush (v := 64) hX dX2_addToSum_1 kb_64 ?_
  refine s_imul hX dX2_addToSum_3 ?_
  refine s_iload_n hX dX2_addToSum_4 rfl ?_
  refine s_iadd hX dX2_addToSum_5 ?_
  refine s_iconst (v := 5) hX dX2_addToSum_6 kc_5 ?_
  refine s_imul hX dX2_addToSum_7 ?_
  refine s_iload_n hX dX2_addToSum_8 rfl ?_
  refine s_iadd hX dX2_addToSum_9 ?_
  refine s_istore5 hX dX2_addToSum_10 (by first | exact trivial | exact rfl) (Nat.le_of_ble_eq_true rfl) ?_
  refine s_aload_n hX dX2_addToSum_12 rfl ?_
  refine s_getO hX dX2_addToSum_13 q_318 rfl (fun j1 => ?_)
  refine s_iload hX dX2_addToSum_16 rfl ?_
  refine s_dup2 hX dX2_addToSum_18 rfl rfl ?_
  refine s_iald hX dX2_addToSum_19 (fun v2 => ?_)
  refine s_iload hX dX2_addToSum_20 rfl ?_
  refine s_iadd hX dX2_addToSum_22 ?_
  refine s_iast hX dX2_addToSum_23 (fun M3 => ?_)
  refine s_aload_n hX dX2_addToSum_24 rfl ?_
  refine s_getO hX dX2_addToSum_25 q_318 rfl (fun j4 => ?_)
  refine s_iload hX dX2_addToSum_28 rfl ?_
  refine s_iald hX dX2_addToSum_30 (fun v5 => ?_)
  exact s_iret hX hR dX2_addToSum_31 (Nat.le_of_ble_eq_true rfl) (Nat.le_of_ble_eq_true rfl)
abbrev rm_X2_recoveredIn : Room := { frames := 0, cells := 0, slots := 0, locals := 0 }
theorem k_X2_recoveredIn : KYV yX2_recoveredIn cX2_recoveredIn 3 (some .int) 2 := ⟨⟨q_936, q_5, by decide +kernel, by decide +kernel, by decide +kernel⟩, q_934, q_935⟩
set_option maxHeartbeats 4000000 in
set_option maxRecDepth 100000 in
theorem c_X2_recoveredIn (n : Nat) (M0 : MemT) (a0 : Nat) (a1 : Int32) (a2 : Int32) : Ct iI yX2_recoveredIn cX2_recoveredIn 3 (some .int) rm_X2_recoveredIn [.ref a0, .int a1, .int a2] M0 (g_X2_recoveredIn n M0 a0 a1 a2) := by
  unfold g_X2_recoveredIn
  refine ct_intro RX2 0 [some (.ref a0), some (.int a1), some (.int a2)] rfl (by decide +kernel) rfl (Nat.le_of_ble_eq_true rfl) (fun X A hX hnm hR => ?_)
  refine s_aload_n hX dX2_recoveredIn_0 rfl ?_
  refine s_getO hX dX2_recoveredIn_1 q_321 rfl (fun j1 => ?_)
  refine s_iload_n hX dX2_recoveredIn_4 rfl ?_
  refine s_bipush (v := 64) hX dX2_recoveredIn_5 kb_64 ?_
  refine s_imul hX dX2_recoveredIn_7 ?_
  refine s_iload_n hX dX2_recoveredIn_8 rfl ?_
  refine s_iadd hX dX2_recoveredIn_9 ?_
  refine s_iald hX dX2_recoveredIn_10 (fun v2 => ?_)
  exact s_iret hX hR dX2_recoveredIn_11 (Nat.le_of_ble_eq_true rfl) (Nat.le_of_ble_eq_true rfl)
abbrev rm_X2_recoveredInYear : Room := { frames := 0, cells := 0, slots := 0, locals := 0 }
theorem k_X2_recoveredInYear : KYV yX2_recoveredInYear cX2_recoveredInYear 5 (some .int) 2 := ⟨⟨q_880, q_5, by decide +kernel, by decide +kernel, by decide +kernel⟩, q_878, q_879⟩
set_option maxHeartbeats 4000000 in
set_option maxRecDepth 100000 in
theorem c_X2_recoveredInYear (n : Nat) (M0 : MemT) (a0 : Nat) (a1 : Int32) (a2 : Int32) : Ct iI yX2_recoveredInYear cX2_recoveredInYear 5 (some .int) rm_X2_recoveredInYear [.ref a0, .int a1, .int a2] M0 (g_X2_recoveredInYear n M0 a0 a1 a2) := by
  unfold g_X2_recoveredInYear
  refine ct_intro RX2 2 [some (.ref a0), some (.int a1), some (.int a2), none, none] rfl (by decide +kernel) rfl (Nat.le_of_ble_eq_true rfl) (fun X A hX hnm hR => ?_)
  refine s_iconst (v := 0) hX dX2_recoveredInYear_0 kc_0 ?_
  refine s_istore3 hX dX2_recoveredInYear_1 (by first | exact trivial | exact rfl) (Nat.le_of_ble_eq_true rfl) ?_
  refine s_iconst (v := 0) hX dX2_recoveredInYear_2 kc_0 ?_
  refine s_istore4 hX dX2_recoveredInYear_3 (by first | exact trivial | exact rfl) (Nat.le_of_ble_eq_true rfl) ?_
  refine s_loopE (stk := []) (fun (s : MemT × Int32 × Int32) => [some (.ref a0), some (.int a1), some (.int a2), some (.int s.2.1), some (.int s.2.2)]) (fun (s : MemT × Int32 × Int32) => s.1) 36 (fun (s : MemT × Int32 × Int32) => [some (.ref a0), some (.int a1), some (.int a2), some (.int s.2.1), some (.int s.2.2)]) (fun s B4 hB4 hE4 => ?_) (fun s => ?_) n (M0, 0, 0)
  · obtain ⟨M1, v2, v3⟩ := s
    dsimp only
    refine s_iload hX dX2_recoveredInYear_5 rfl ?_
    refine s_iconst (v := 4) hX dX2_recoveredInYear_7 kc_4 ?_
    refine s_icge (tgt := 36) hX dX2_recoveredInYear_8 rfl ?_ ?_
    · exact s_exit hE4
    · refine s_iload_n hX dX2_recoveredInYear_11 rfl ?_
      refine s_aload_n hX dX2_recoveredInYear_12 rfl ?_
      refine s_getO hX dX2_recoveredInYear_13 q_321 rfl (fun j5 => ?_)
      refine s_iload_n hX dX2_recoveredInYear_16 rfl ?_
      refine s_bipush (v := 64) hX dX2_recoveredInYear_17 kb_64 ?_
      refine s_imul hX dX2_recoveredInYear_19 ?_
      refine s_iload_n hX dX2_recoveredInYear_20 rfl ?_
      refine s_iconst (v := 4) hX dX2_recoveredInYear_21 kc_4 ?_
      refine s_imul hX dX2_recoveredInYear_22 ?_
      refine s_iadd hX dX2_recoveredInYear_23 ?_
      refine s_iload hX dX2_recoveredInYear_24 rfl ?_
      refine s_iadd hX dX2_recoveredInYear_26 ?_
      refine s_iald hX dX2_recoveredInYear_27 (fun v6 => ?_)
      refine s_iadd hX dX2_recoveredInYear_28 ?_
      refine s_istore3 hX dX2_recoveredInYear_29 (by first | exact trivial | exact rfl) (Nat.le_of_ble_eq_true rfl) ?_
      refine s_iinc4 (v := v3 + 1) hX dX2_recoveredInYear_30 rfl (by first | exact trivial | exact rfl) (Nat.le_of_ble_eq_true rfl) ?_
      refine s_goto (tgt := 5) hX dX2_recoveredInYear_33 rfl ?_
      exact s_back hB4
  · obtain ⟨M7, v8, v9⟩ := s
    dsimp only
    refine s_iload_n hX dX2_recoveredInYear_36 rfl ?_
    exact s_iret hX hR dX2_recoveredInYear_37 (Nat.le_of_ble_eq_true rfl) (Nat.le_of_ble_eq_true rfl)
abbrev rm_X2_keptProvisional : Room := { frames := 0, cells := 0, slots := 0, locals := 0 }
theorem k_X2_keptProvisional : KYV yX2_keptProvisional cX2_keptProvisional 3 (some .int) 2 := ⟨⟨q_927, q_5, by decide +kernel, by decide +kernel, by decide +kernel⟩, q_925, q_926⟩
set_option maxHeartbeats 4000000 in
set_option maxRecDepth 100000 in
theorem c_X2_keptProvisional (n : Nat) (M0 : MemT) (a0 : Nat) (a1 : Int32) (a2 : Int32) : Ct iI yX2_keptProvisional cX2_keptProvisional 3 (some .int) rm_X2_keptProvisional [.ref a0, .int a1, .int a2] M0 (g_X2_keptProvisional n M0 a0 a1 a2) := by
  unfold g_X2_keptProvisional
  refine ct_intro RX2 0 [some (.ref a0), some (.int a1), some (.int a2)] rfl (by decide +kernel) rfl (Nat.le_of_ble_eq_true rfl) (fun X A hX hnm hR => ?_)
  refine s_aload_n hX dX2_keptProvisional_0 rfl ?_
  refine s_getO hX dX2_keptProvisional_1 q_319 rfl (fun j1 => ?_)
  refine s_iload_n hX dX2_keptProvisional_4 rfl ?_
  refine s_bipush (v := 64) hX dX2_keptProvisional_5 kb_64 ?_
  refine s_imul hX dX2_keptProvisional_7 ?_
  refine s_iload_n hX dX2_keptProvisional_8 rfl ?_
  refine s_iadd hX dX2_keptProvisional_9 ?_
  refine s_iald hX dX2_keptProvisional_10 (fun v2 => ?_)
  exact s_iret hX hR dX2_keptProvisional_11 (Nat.le_of_ble_eq_true rfl) (Nat.le_of_ble_eq_true rfl)
abbrev rm_X2_keepProvisional : Room := { frames := 0, cells := 0, slots := 0, locals := 0 }
theorem k_X2_keepProvisional : KYV yX2_keepProvisional cX2_keepProvisional 4 none 3 := ⟨⟨q_856, q_5, by decide +kernel, by decide +kernel, by decide +kernel⟩, q_854, q_855⟩
set_option maxHeartbeats 4000000 in
set_option maxRecDepth 100000 in
theorem c_X2_keepProvisional (n : Nat) (M0 : MemT) (a0 : Nat) (a1 : Int32) (a2 : Int32) (a3 : Int32) : Ct iU yX2_keepProvisional cX2_keepProvisional 4 none rm_X2_keepProvisional [.ref a0, .int a1, .int a2, .int a3] M0 (g_X2_keepProvisional n M0 a0 a1 a2 a3) := by
  unfold g_X2_keepProvisional
  refine ct_intro RX2 0 [some (.ref a0), some (.int a1), some (.int a2), some (.int a3)] rfl (by decide +kernel) rfl (Nat.le_of_ble_eq_true rfl) (fun X A hX hnm hR => ?_)
  refine s_aload_n hX dX2_keepProvisional_0 rfl ?_
  refine s_getO hX dX2_keepProvisional_1 q_319 rfl (fun j1 => ?_)
  refine s_iload_n hX dX2_keepProvisional_4 rfl ?_
  refine s_bipush (v := 64) hX dX2_keepProvisional_5 kb_64 ?_
  refine s_imul hX dX2_keepProvisional_7 ?_
  refine s_aload_n hX dX2_keepProvisional_8 rfl ?_
  refine s_getI hX dX2_keepProvisional_9 q_301 rfl (fun v2 => ?_)
  refine s_iadd hX dX2_keepProvisional_12 ?_
  refine s_iload_n hX dX2_keepProvisional_13 rfl ?_
  refine s_iast hX dX2_keepProvisional_14 (fun M3 => ?_)
  refine s_aload_n hX dX2_keepProvisional_15 rfl ?_
  refine s_getO hX dX2_keepProvisional_16 q_321 rfl (fun j4 => ?_)
  refine s_iload_n hX dX2_keepProvisional_19 rfl ?_
  refine s_bipush (v := 64) hX dX2_keepProvisional_20 kb_64 ?_
  refine s_imul hX dX2_keepProvisional_22 ?_
  refine s_aload_n hX dX2_keepProvisional_23 rfl ?_
  refine s_getI hX dX2_keepProvisional_24 q_301 rfl (fun v5 => ?_)
  refine s_iadd hX dX2_keepProvisional_27 ?_
  refine s_iload_n hX dX2_keepProvisional_28 rfl ?_
  refine s_iast hX dX2_keepProvisional_29 (fun M6 => ?_)
  exact s_vret hX hR dX2_keepProvisional_30 (Nat.le_of_ble_eq_true rfl) (Nat.le_of_ble_eq_true rfl)
abbrev rm_X2_keptAnnual : Room := { frames := 0, cells := 0, slots := 0, locals := 0 }
theorem k_X2_keptAnnual : KYV yX2_keptAnnual cX2_keptAnnual 3 (some .int) 2 := ⟨⟨q_803, q_5, by decide +kernel, by decide +kernel, by decide +kernel⟩, q_801, q_802⟩
set_option maxHeartbeats 4000000 in
set_option maxRecDepth 100000 in
theorem c_X2_keptAnnual (n : Nat) (M0 : MemT) (a0 : Nat) (a1 : Int32) (a2 : Int32) : Ct iI yX2_keptAnnual cX2_keptAnnual 3 (some .int) rm_X2_keptAnnual [.ref a0, .int a1, .int a2] M0 (g_X2_keptAnnual n M0 a0 a1 a2) := by
  unfold g_X2_keptAnnual
  refine ct_intro RX2 0 [some (.ref a0), some (.int a1), some (.int a2)] rfl (by decide +kernel) rfl (Nat.le_of_ble_eq_true rfl) (fun X A hX hnm hR => ?_)
  refine s_aload_n hX dX2_keptAnnual_0 rfl ?_
  refine s_getO hX dX2_keptAnnual_1 q_320 rfl (fun j1 => ?_)
  refine s_iload_n hX dX2_keptAnnual_4 rfl ?_
  refine s_bipush (v := 16) hX dX2_keptAnnual_5 kb_16 ?_
  refine s_imul hX dX2_keptAnnual_7 ?_
  refine s_iload_n hX dX2_keptAnnual_8 rfl ?_
  refine s_iadd hX dX2_keptAnnual_9 ?_
  refine s_iald hX dX2_keptAnnual_10 (fun v2 => ?_)
  exact s_iret hX hR dX2_keptAnnual_11 (Nat.le_of_ble_eq_true rfl) (Nat.le_of_ble_eq_true rfl)
abbrev rm_X2_keepAnnual : Room := { frames := 0, cells := 0, slots := 0, locals := 0 }
theorem k_X2_keepAnnual : KYV yX2_keepAnnual cX2_keepAnnual 4 none 3 := ⟨⟨q_876, q_5, by decide +kernel, by decide +kernel, by decide +kernel⟩, q_874, q_875⟩
set_option maxHeartbeats 4000000 in
set_option maxRecDepth 100000 in
theorem c_X2_keepAnnual (n : Nat) (M0 : MemT) (a0 : Nat) (a1 : Int32) (a2 : Int32) (a3 : Int32) : Ct iU yX2_keepAnnual cX2_keepAnnual 4 none rm_X2_keepAnnual [.ref a0, .int a1, .int a2, .int a3] M0 (g_X2_keepAnnual n M0 a0 a1 a2 a3) := by
  unfold g_X2_keepAnnual
  refine ct_intro RX2 0 [some (.ref a0), some (.int a1), some (.int a2), some (.int a3)] rfl (by decide +kernel) rfl (Nat.le_of_ble_eq_true rfl) (fun X A hX hnm hR => ?_)
  refine s_aload_n hX dX2_keepAnnual_0 rfl ?_
  refine s_getO hX dX2_keepAnnual_1 q_320 rfl (fun j1 => ?_)
  refine s_iload_n hX dX2_keepAnnual_4 rfl ?_
  refine s_bipush (v := 16) hX dX2_keepAnnual_5 kb_16 ?_
  refine s_imul hX dX2_keepAnnual_7 ?_
  refine s_iload_n hX dX2_keepAnnual_8 rfl ?_
  refine s_iadd hX dX2_keepAnnual_9 ?_
  refine s_iload_n hX dX2_keepAnnual_10 rfl ?_
  refine s_iast hX dX2_keepAnnual_11 (fun M2 => ?_)
  exact s_vret hX hR dX2_keepAnnual_12 (Nat.le_of_ble_eq_true rfl) (Nat.le_of_ble_eq_true rfl)
abbrev rm_X2_totalOf : Room := { frames := 0, cells := 0, slots := 0, locals := 0 }
theorem k_X2_totalOf : KYV yX2_totalOf cX2_totalOf 3 (some .int) 2 := ⟨⟨q_993, q_5, by decide +kernel, by decide +kernel, by decide +kernel⟩, q_991, q_992⟩
set_option maxHeartbeats 4000000 in
set_option maxRecDepth 100000 in
theorem c_X2_totalOf (n : Nat) (M0 : MemT) (a0 : Nat) (a1 : Int32) (a2 : Int32) : Ct iI yX2_totalOf cX2_totalOf 3 (some .int) rm_X2_totalOf [.ref a0, .int a1, .int a2] M0 (g_X2_totalOf n M0 a0 a1 a2) := by
  unfold g_X2_totalOf
  refine ct_intro RX2 0 [some (.ref a0), some (.int a1), some (.int a2)] rfl (by decide +kernel) rfl (Nat.le_of_ble_eq_true rfl) (fun X A hX hnm hR => ?_)
  refine s_aload_n hX dX2_totalOf_0 rfl ?_
  refine s_getO hX dX2_totalOf_1 q_322 rfl (fun j1 => ?_)
  refine s_iload_n hX dX2_totalOf_4 rfl ?_
  refine s_iconst (v := 4) hX dX2_totalOf_5 kc_4 ?_
  refine s_imul hX dX2_totalOf_6 ?_
  refine s_iload_n hX dX2_totalOf_7 rfl ?_
  refine s_iadd hX dX2_totalOf_8 ?_
  refine s_iald hX dX2_totalOf_9 (fun v2 => ?_)
  exact s_iret hX hR dX2_totalOf_10 (Nat.le_of_ble_eq_true rfl) (Nat.le_of_ble_eq_true rfl)
abbrev rm_X2_enter : Room := { frames := 0, cells := 0, slots := 0, locals := 0 }
theorem k_X2_enter : KYV yX2_enter cX2_enter 6 none 4 := ⟨⟨q_860, q_5, by decide +kernel, by decide +kernel, by decide +kernel⟩, q_858, q_859⟩
set_option maxHeartbeats 4000000 in
set_option maxRecDepth 100000 in
theorem c_X2_enter (n : Nat) (M0 : MemT) (a0 : Nat) (a1 : Int32) (a2 : Int32) (a3 : Int32) (a4 : Int32) : Ct iU yX2_enter cX2_enter 6 none rm_X2_enter [.ref a0, .int a1, .int a2, .int a3, .int a4] M0 (g_X2_enter n M0 a0 a1 a2 a3 a4) := by
  unfold g_X2_enter
  refine ct_intro RX2 1 [some (.ref a0), some (.int a1), some (.int a2), some (.int a3), some (.int a4), none] rfl (by decide +kernel) rfl (Nat.le_of_ble_eq_true rfl) (fun X A hX hnm hR => ?_)
  refine s_aload_n hX dX2_enter_0 rfl ?_
  refine s_getI hX dX2_enter_1 q_307 rfl (fun v1 => ?_)
  refine s_bipush (v := 40) hX dX2_enter_4 kb_40 ?_
  refine s_irem hX dX2_enter_6 ?_
  refine s_iconst (v := 5) hX dX2_enter_7 kc_5 ?_
  refine s_imul hX dX2_enter_8 ?_
  refine s_istore5 hX dX2_enter_9 (by first | exact trivial | exact rfl) (Nat.le_of_ble_eq_true rfl) ?_
  refine s_aload_n hX dX2_enter_11 rfl ?_
  refine s_getO hX dX2_enter_12 q_323 rfl (fun j2 => ?_)
  refine s_iload hX dX2_enter_15 rfl ?_
  refine s_aload_n hX dX2_enter_17 rfl ?_
  refine s_getI hX dX2_enter_18 q_301 rfl (fun v3 => ?_)
  refine s_iast hX dX2_enter_21 (fun M4 => ?_)
  refine s_aload_n hX dX2_enter_22 rfl ?_
  refine s_getO hX dX2_enter_23 q_323 rfl (fun j5 => ?_)
  refine s_iload hX dX2_enter_26 rfl ?_
  refine s_iconst (v := 1) hX dX2_enter_28 kc_1 ?_
  refine s_iadd hX dX2_enter_29 ?_
  refine s_iload_n hX dX2_enter_30 rfl ?_
  refine s_iast hX dX2_enter_31 (fun M6 => ?_)
  refine s_aload_n hX dX2_enter_32 rfl ?_
  refine s_getO hX dX2_enter_33 q_323 rfl (fun j7 => ?_)
  refine s_iload hX dX2_enter_36 rfl ?_
  refine s_iconst (v := 2) hX dX2_enter_38 kc_2 ?_
  refine s_iadd hX dX2_enter_39 ?_
  refine s_iload_n hX dX2_enter_40 rfl ?_
  refine s_iast hX dX2_enter_41 (fun M8 => ?_)
  refine s_aload_n hX dX2_enter_42 rfl ?_
  refine s_getO hX dX2_enter_43 q_323 rfl (fun j9 => ?_)
  refine s_iload hX dX2_enter_46 rfl ?_
  refine s_iconst (v := 3) hX dX2_enter_48 kc_3 ?_
  refine s_iadd hX dX2_enter_49 ?_
  refine s_iload_n hX dX2_enter_50 rfl ?_
  refine s_iast hX dX2_enter_51 (fun M10 => ?_)
  refine s_aload_n hX dX2_enter_52 rfl ?_
  refine s_getO hX dX2_enter_53 q_323 rfl (fun j11 => ?_)
  refine s_iload hX dX2_enter_56 rfl ?_
  refine s_iconst (v := 4) hX dX2_enter_58 kc_4 ?_
  refine s_iadd hX dX2_enter_59 ?_
  refine s_iload hX dX2_enter_60 rfl ?_
  refine s_iast hX dX2_enter_62 (fun M12 => ?_)
  refine s_aload_n hX dX2_enter_63 rfl ?_
  refine s_dup hX dX2_enter_64 rfl ?_
  refine s_getI hX dX2_enter_65 q_307 rfl (fun v13 => ?_)
  refine s_iconst (v := 1) hX dX2_enter_68 kc_1 ?_
  refine s_iadd hX dX2_enter_69 ?_
  refine s_putI hX dX2_enter_70 q_307 rfl rfl (fun M14 => ?_)
  refine s_aload_n hX dX2_enter_73 rfl ?_
  refine s_getO hX dX2_enter_74 q_322 rfl (fun j15 => ?_)
  refine s_iload_n hX dX2_enter_77 rfl ?_
  refine s_iconst (v := 4) hX dX2_enter_78 kc_4 ?_
  refine s_imul hX dX2_enter_79 ?_
  refine s_iload_n hX dX2_enter_80 rfl ?_
  refine s_iadd hX dX2_enter_81 ?_
  refine s_dup2 hX dX2_enter_82 rfl rfl ?_
  refine s_iald hX dX2_enter_83 (fun v16 => ?_)
  refine s_iload_n hX dX2_enter_84 rfl ?_
  refine s_iadd hX dX2_enter_85 ?_
  refine s_iast hX dX2_enter_86 (fun M17 => ?_)
  exact s_vret hX hR dX2_enter_87 (Nat.le_of_ble_eq_true rfl) (Nat.le_of_ble_eq_true rfl)
abbrev rm_X2_entryPart : Room := { frames := 0, cells := 0, slots := 0, locals := 0 }
theorem k_X2_entryPart : KYV yX2_entryPart cX2_entryPart 3 (some .int) 2 := ⟨⟨q_985, q_5, by decide +kernel, by decide +kernel, by decide +kernel⟩, q_983, q_984⟩
set_option maxHeartbeats 4000000 in
set_option maxRecDepth 100000 in
theorem c_X2_entryPart (n : Nat) (M0 : MemT) (a0 : Nat) (a1 : Int32) (a2 : Int32) : Ct iI yX2_entryPart cX2_entryPart 3 (some .int) rm_X2_entryPart [.ref a0, .int a1, .int a2] M0 (g_X2_entryPart n M0 a0 a1 a2) := by
  unfold g_X2_entryPart
  refine ct_intro RX2 0 [some (.ref a0), some (.int a1), some (.int a2)] rfl (by decide +kernel) rfl (Nat.le_of_ble_eq_true rfl) (fun X A hX hnm hR => ?_)
  refine s_aload_n hX dX2_entryPart_0 rfl ?_
  refine s_getO hX dX2_entryPart_1 q_323 rfl (fun j1 => ?_)
  refine s_aload_n hX dX2_entryPart_4 rfl ?_
  refine s_getI hX dX2_entryPart_5 q_307 rfl (fun v2 => ?_)
  refine s_iconst (v := 1) hX dX2_entryPart_8 kc_1 ?_
  refine s_isub hX dX2_entryPart_9 ?_
  refine s_iload_n hX dX2_entryPart_10 rfl ?_
  refine s_isub hX dX2_entryPart_11 ?_
  refine s_bipush (v := 40) hX dX2_entryPart_12 kb_40 ?_
  refine s_irem hX dX2_entryPart_14 ?_
  refine s_iconst (v := 5) hX dX2_entryPart_15 kc_5 ?_
  refine s_imul hX dX2_entryPart_16 ?_
  refine s_iload_n hX dX2_entryPart_17 rfl ?_
  refine s_iadd hX dX2_entryPart_18 ?_
  refine s_iald hX dX2_entryPart_19 (fun v3 => ?_)
  exact s_iret hX hR dX2_entryPart_20 (Nat.le_of_ble_eq_true rfl) (Nat.le_of_ble_eq_true rfl)
abbrev rm_X2_addAsset : Room := { frames := 1, cells := 0, slots := 0, locals := 25 }
theorem k_X2_addAsset : KYV yX2_addAsset cX2_addAsset 5 (some .int) 4 := ⟨⟨q_688, q_5, by decide +kernel, by decide +kernel, by decide +kernel⟩, q_686, q_687⟩
set_option maxHeartbeats 4000000 in
set_option maxRecDepth 100000 in
theorem c_X2_addAsset (n : Nat) (M0 : MemT) (a0 : Nat) (a1 : Int32) (a2 : Int32) (a3 : Int32) (a4 : Int32) : Ct iI yX2_addAsset cX2_addAsset 5 (some .int) rm_X2_addAsset [.ref a0, .int a1, .int a2, .int a3, .int a4] M0 (g_X2_addAsset n M0 a0 a1 a2 a3 a4) := by
  unfold g_X2_addAsset
  refine ct_intro RX2 0 [some (.ref a0), some (.int a1), some (.int a2), some (.int a3), some (.int a4)] rfl (by decide +kernel) rfl (Nat.le_of_ble_eq_true rfl) (fun X A hX hnm hR => ?_)
  refine s_aload_n hX dX2_addAsset_0 rfl ?_
  refine s_getI hX dX2_addAsset_1 q_304 rfl (fun v1 => ?_)
  refine s_bipush (v := 8) hX dX2_addAsset_4 kb_8 ?_
  refine s_iclt (tgt := 12) hX dX2_addAsset_6 rfl ?_ ?_
  · refine s_aload_n hX dX2_addAsset_12 rfl ?_
    refine s_getO hX dX2_addAsset_13 q_315 rfl (fun j2 => ?_)
    refine s_aload_n hX dX2_addAsset_16 rfl ?_
    refine s_getI hX dX2_addAsset_17 q_304 rfl (fun v3 => ?_)
    refine s_aald14 hX dX2_addAsset_20 (fun j4 => ?_)
    refine s_iload_n hX dX2_addAsset_21 rfl ?_
    refine s_iload_n hX dX2_addAsset_22 rfl ?_
    refine s_iload_n hX dX2_addAsset_23 rfl ?_
    refine s_iload hX dX2_addAsset_24 rfl ?_
    refine s_aload_n hX dX2_addAsset_26 rfl ?_
    refine s_getI hX dX2_addAsset_27 q_301 rfl (fun v5 => ?_)
    refine s_callVu (ck1 := 0) (sk1 := 0) (ci := 0) hX dX2_addAsset_30 k_X1_begin q_689 (c_X1_begin n M0 j4 a1 a2 a3 a4 v5) (by decide) rfl rfl rfl ⟨Nat.le_of_ble_eq_true rfl, Nat.le_of_ble_eq_true rfl⟩ ⟨(Nat.le_of_ble_eq_true rfl), (Nat.le_of_ble_eq_true rfl)⟩ (Nat.le_of_ble_eq_true rfl) rfl rfl (fun r6 M7 => ?_)
    refine s_aload_n hX dX2_addAsset_33 rfl ?_
    refine s_iload_n hX dX2_addAsset_34 rfl ?_
    refine s_aload_n hX dX2_addAsset_35 rfl ?_
    refine s_getI hX dX2_addAsset_36 q_301 rfl (fun v8 => ?_)
    refine s_iconst (v := 2) hX dX2_addAsset_39 kc_2 ?_
    refine s_iload_n hX dX2_addAsset_40 rfl ?_
    refine s_iadd hX dX2_addAsset_41 ?_
    refine s_iload_n hX dX2_addAsset_42 rfl ?_
    refine s_callVi (ck1 := 0) (sk1 := 0) (ci := 1) hX dX2_addAsset_43 k_X2_addToSum q_693 (c_X2_addToSum n M7 a0 a1 v8 (2 + a2) a3) (by decide) rfl rfl rfl ⟨Nat.le_of_ble_eq_true rfl, Nat.le_of_ble_eq_true rfl⟩ ⟨(Nat.le_of_ble_eq_true rfl), (Nat.le_of_ble_eq_true rfl)⟩ (Nat.le_of_ble_eq_true rfl) rfl rfl (fun r9 M10 => ?_)
    refine s_pop hX dX2_addAsset_46 rfl ?_
    refine s_aload_n hX dX2_addAsset_47 rfl ?_
    refine s_dup hX dX2_addAsset_48 rfl ?_
    refine s_getI hX dX2_addAsset_49 q_304 rfl (fun v11 => ?_)
    refine s_iconst (v := 1) hX dX2_addAsset_52 kc_1 ?_
    refine s_iadd hX dX2_addAsset_53 ?_
    refine s_putI hX dX2_addAsset_54 q_304 rfl rfl (fun M12 => ?_)
    refine s_aload_n hX dX2_addAsset_57 rfl ?_
    refine s_getI hX dX2_addAsset_58 q_304 rfl (fun v13 => ?_)
    refine s_iconst (v := 1) hX dX2_addAsset_61 kc_1 ?_
    refine s_isub hX dX2_addAsset_62 ?_
    exact s_iret hX hR dX2_addAsset_63 (Nat.le_of_ble_eq_true rfl) (Nat.le_of_ble_eq_true rfl)
  · refine s_bipush (v := (-2)) hX dX2_addAsset_9 kb_m2 ?_
    exact s_iret hX hR dX2_addAsset_11 (Nat.le_of_ble_eq_true rfl) (Nat.le_of_ble_eq_true rfl)
abbrev rm_X2_openAssetsOf : Room := { frames := 0, cells := 0, slots := 0, locals := 0 }
theorem k_X2_openAssetsOf : KYV yX2_openAssetsOf cX2_openAssetsOf 4 (some .int) 1 := ⟨⟨q_1239, q_5, by decide +kernel, by decide +kernel, by decide +kernel⟩, q_1237, q_1238⟩
set_option maxHeartbeats 4000000 in
set_option maxRecDepth 100000 in
theorem c_X2_openAssetsOf (n : Nat) (M0 : MemT) (a0 : Nat) (a1 : Int32) : Ct iI yX2_openAssetsOf cX2_openAssetsOf 4 (some .int) rm_X2_openAssetsOf [.ref a0, .int a1] M0 (g_X2_openAssetsOf n M0 a0 a1) := by
  unfold g_X2_openAssetsOf
  refine ct_intro RX2 2 [some (.ref a0), some (.int a1), none, none] rfl (by decide +kernel) rfl (Nat.le_of_ble_eq_true rfl) (fun X A hX hnm hR => ?_)
  refine s_iconst (v := 0) hX dX2_openAssetsOf_0 kc_0 ?_
  refine s_istore2 hX dX2_openAssetsOf_1 (by first | exact trivial | exact rfl) (Nat.le_of_ble_eq_true rfl) ?_
  refine s_iconst (v := 0) hX dX2_openAssetsOf_2 kc_0 ?_
  refine s_istore3 hX dX2_openAssetsOf_3 (by first | exact trivial | exact rfl) (Nat.le_of_ble_eq_true rfl) ?_
  refine s_loopE (stk := []) (fun (s : MemT × Int32 × Int32) => [some (.ref a0), some (.int a1), some (.int s.2.1), some (.int s.2.2)]) (fun (s : MemT × Int32 × Int32) => s.1) 55 (fun (s : MemT × Int32 × Int32) => [some (.ref a0), some (.int a1), some (.int s.2.1), some (.int s.2.2)]) (fun s B4 hB4 hE4 => ?_) (fun s => ?_) n (M0, 0, 0)
  · obtain ⟨M1, v2, v3⟩ := s
    dsimp only
    refine s_iload_n hX dX2_openAssetsOf_4 rfl ?_
    refine s_aload_n hX dX2_openAssetsOf_5 rfl ?_
    refine s_getI hX dX2_openAssetsOf_6 q_304 rfl (fun v5 => ?_)
    refine s_icge (tgt := 55) hX dX2_openAssetsOf_9 rfl ?_ ?_
    · exact s_exit hE4
    · refine s_iload_n hX dX2_openAssetsOf_12 rfl ?_
      refine s_bipush (v := 8) hX dX2_openAssetsOf_13 kb_8 ?_
      refine s_icge (tgt := 55) hX dX2_openAssetsOf_15 rfl ?_ ?_
      · exact s_exit hE4
      · refine s_aload_n hX dX2_openAssetsOf_18 rfl ?_
        refine s_getO hX dX2_openAssetsOf_19 q_315 rfl (fun j6 => ?_)
        refine s_iload_n hX dX2_openAssetsOf_22 rfl ?_
        refine s_aald14 hX dX2_openAssetsOf_23 (fun j7 => ?_)
        refine s_getI hX dX2_openAssetsOf_24 q_235 rfl (fun v8 => ?_)
        refine s_ifne (tgt := 49) hX dX2_openAssetsOf_27 rfl ?_ ?_
        · refine s_aload_n hX dX2_openAssetsOf_30 rfl ?_
          refine s_getO hX dX2_openAssetsOf_31 q_315 rfl (fun j9 => ?_)
          refine s_iload_n hX dX2_openAssetsOf_34 rfl ?_
          refine s_aald14 hX dX2_openAssetsOf_35 (fun j10 => ?_)
          refine s_getI hX dX2_openAssetsOf_36 q_211 rfl (fun v11 => ?_)
          refine s_iload_n hX dX2_openAssetsOf_39 rfl ?_
          refine s_icne (tgt := 49) hX dX2_openAssetsOf_40 rfl ?_ ?_
          · refine s_iload_n hX dX2_openAssetsOf_43 rfl ?_
            refine s_iconst (v := 1) hX dX2_openAssetsOf_44 kc_1 ?_
            refine s_iload_n hX dX2_openAssetsOf_45 rfl ?_
            refine s_ishl hX dX2_openAssetsOf_46 ?_
            refine s_ior hX dX2_openAssetsOf_47 ?_
            refine s_istore2 hX dX2_openAssetsOf_48 (by first | exact trivial | exact rfl) (Nat.le_of_ble_eq_true rfl) ?_
            refine s_iinc3 (v := v3 + 1) hX dX2_openAssetsOf_49 rfl (by first | exact trivial | exact rfl) (Nat.le_of_ble_eq_true rfl) ?_
            refine s_goto (tgt := 4) hX dX2_openAssetsOf_52 rfl ?_
            exact s_back hB4
          · refine s_iinc3 (v := v3 + 1) hX dX2_openAssetsOf_49 rfl (by first | exact trivial | exact rfl) (Nat.le_of_ble_eq_true rfl) ?_
            refine s_goto (tgt := 4) hX dX2_openAssetsOf_52 rfl ?_
            exact s_back hB4
        · refine s_iinc3 (v := v3 + 1) hX dX2_openAssetsOf_49 rfl (by first | exact trivial | exact rfl) (Nat.le_of_ble_eq_true rfl) ?_
          refine s_goto (tgt := 4) hX dX2_openAssetsOf_52 rfl ?_
          exact s_back hB4
  · obtain ⟨M12, v13, v14⟩ := s
    dsimp only
    refine s_iload_n hX dX2_openAssetsOf_55 rfl ?_
    exact s_iret hX hR dX2_openAssetsOf_56 (Nat.le_of_ble_eq_true rfl) (Nat.le_of_ble_eq_true rfl)
abbrev rm_X2_shutAssets : Room := { frames := 0, cells := 0, slots := 0, locals := 0 }
theorem k_X2_shutAssets : KYV yX2_shutAssets cX2_shutAssets 3 (some .int) 0 := ⟨⟨q_1160, q_5, by decide +kernel, by decide +kernel, by decide +kernel⟩, q_1158, q_1159⟩
set_option maxHeartbeats 4000000 in
set_option maxRecDepth 100000 in
theorem c_X2_shutAssets (n : Nat) (M0 : MemT) (a0 : Nat) : Ct iI yX2_shutAssets cX2_shutAssets 3 (some .int) rm_X2_shutAssets [.ref a0] M0 (g_X2_shutAssets n M0 a0) := by
  unfold g_X2_shutAssets
  refine ct_intro RX2 2 [some (.ref a0), none, none] rfl (by decide +kernel) rfl (Nat.le_of_ble_eq_true rfl) (fun X A hX hnm hR => ?_)
  refine s_iconst (v := 0) hX dX2_shutAssets_0 kc_0 ?_
  refine s_istore1 hX dX2_shutAssets_1 (by first | exact trivial | exact rfl) (Nat.le_of_ble_eq_true rfl) ?_
  refine s_iconst (v := 0) hX dX2_shutAssets_2 kc_0 ?_
  refine s_istore2 hX dX2_shutAssets_3 (by first | exact trivial | exact rfl) (Nat.le_of_ble_eq_true rfl) ?_
  refine s_loopE (stk := []) (fun (s : MemT × Int32 × Int32) => [some (.ref a0), some (.int s.2.1), some (.int s.2.2)]) (fun (s : MemT × Int32 × Int32) => s.1) 39 (fun (s : MemT × Int32 × Int32) => [some (.ref a0), some (.int s.2.1), some (.int s.2.2)]) (fun s B4 hB4 hE4 => ?_) (fun s => ?_) n (M0, 0, 0)
  · obtain ⟨M1, v2, v3⟩ := s
    dsimp only
    refine s_iload_n hX dX2_shutAssets_4 rfl ?_
    refine s_aload_n hX dX2_shutAssets_5 rfl ?_
    refine s_getI hX dX2_shutAssets_6 q_304 rfl (fun v5 => ?_)
    refine s_icge (tgt := 39) hX dX2_shutAssets_9 rfl ?_ ?_
    · exact s_exit hE4
    · refine s_iload_n hX dX2_shutAssets_12 rfl ?_
      refine s_bipush (v := 8) hX dX2_shutAssets_13 kb_8 ?_
      refine s_icge (tgt := 39) hX dX2_shutAssets_15 rfl ?_ ?_
      · exact s_exit hE4
      · refine s_aload_n hX dX2_shutAssets_18 rfl ?_
        refine s_getO hX dX2_shutAssets_19 q_315 rfl (fun j6 => ?_)
        refine s_iload_n hX dX2_shutAssets_22 rfl ?_
        refine s_aald14 hX dX2_shutAssets_23 (fun j7 => ?_)
        refine s_getI hX dX2_shutAssets_24 q_235 rfl (fun v8 => ?_)
        refine s_ifeq (tgt := 33) hX dX2_shutAssets_27 rfl ?_ ?_
        · refine s_iinc2 (v := v3 + 1) hX dX2_shutAssets_33 rfl (by first | exact trivial | exact rfl) (Nat.le_of_ble_eq_true rfl) ?_
          refine s_goto (tgt := 4) hX dX2_shutAssets_36 rfl ?_
          exact s_back hB4
        · refine s_iinc1 (v := v2 + 1) hX dX2_shutAssets_30 rfl (by first | exact trivial | exact rfl) (Nat.le_of_ble_eq_true rfl) ?_
          refine s_iinc2 (v := v3 + 1) hX dX2_shutAssets_33 rfl (by first | exact trivial | exact rfl) (Nat.le_of_ble_eq_true rfl) ?_
          refine s_goto (tgt := 4) hX dX2_shutAssets_36 rfl ?_
          exact s_back hB4
  · obtain ⟨M9, v10, v11⟩ := s
    dsimp only
    refine s_iload_n hX dX2_shutAssets_39 rfl ?_
    exact s_iret hX hR dX2_shutAssets_40 (Nat.le_of_ble_eq_true rfl) (Nat.le_of_ble_eq_true rfl)
abbrev rm_X6_init : Room := { frames := 1, cells := 1, slots := 5, locals := 20 }
theorem k_X6_init : KYI yX6_init cX6_init 1 0 := ⟨⟨q_353, q_7, by decide +kernel, by decide +kernel, by decide +kernel⟩, rfl, q_352⟩
set_option maxHeartbeats 4000000 in
set_option maxRecDepth 100000 in
theorem c_X6_init (n : Nat) (M0 : MemT) (a0 : Nat) : Ct iU yX6_init cX6_init 1 none rm_X6_init [.ref a0] M0 (g_X6_init n M0 a0) := by
  unfold g_X6_init
  refine ct_intro RX6 0 [some (.ref a0)] rfl (by decide +kernel) rfl (Nat.le_of_ble_eq_true rfl) (fun X A hX hnm hR => ?_)
  refine s_aload_n hX dX6_init_0 rfl ?_
  refine s_objInit hX dX6_init_1 q_354 q_31 q_32 (Nat.le_of_ble_eq_true rfl) (Nat.le_of_ble_eq_true rfl) ?_
  refine s_aload_n hX dX6_init_4 rfl ?_
  refine s_iconst (v := 5) hX dX6_init_5 kc_5 ?_
  refine s_newaJ (N := 5) (ck1 := 1) (sk1 := 5) hX dX6_init_6 q_388 (by decide) (by decide) (by decide) (Nat.le_of_ble_eq_true rfl) (Nat.le_of_ble_eq_true rfl) rfl rfl (fun j1 M2 => ?_)
  refine s_putOF hX dX6_init_8 q_355 rfl rfl hnm rfl (fun M3 => ?_)
  exact s_vret hX hR dX6_init_11 (Nat.le_of_ble_eq_true rfl) (Nat.le_of_ble_eq_true rfl)
abbrev rm_X7_init : Room := { frames := 1, cells := 8, slots := 140, locals := 20 }
theorem k_X7_init : KYI yX7_init cX7_init 1 0 := ⟨⟨q_99, q_3, by decide +kernel, by decide +kernel, by decide +kernel⟩, rfl, q_98⟩
set_option maxHeartbeats 4000000 in
set_option maxRecDepth 100000 in
theorem c_X7_init (n : Nat) (M0 : MemT) (a0 : Nat) : Ct iU yX7_init cX7_init 1 none rm_X7_init [.ref a0] M0 (g_X7_init n M0 a0) := by
  unfold g_X7_init
  refine ct_intro RX7 0 [some (.ref a0)] rfl (by decide +kernel) rfl (Nat.le_of_ble_eq_true rfl) (fun X A hX hnm hR => ?_)
  refine s_aload_n hX dX7_init_0 rfl ?_
  refine s_objInit hX dX7_init_1 q_100 q_31 q_32 (Nat.le_of_ble_eq_true rfl) (Nat.le_of_ble_eq_true rfl) ?_
  refine s_aload_n hX dX7_init_4 rfl ?_
  refine s_iconst (v := 4) hX dX7_init_5 kc_4 ?_
  refine s_newaI (N := 4) (ck1 := 1) (sk1 := 4) hX dX7_init_6 q_186 (by decide) (by decide) (by decide) (Nat.le_of_ble_eq_true rfl) (Nat.le_of_ble_eq_true rfl) rfl rfl (fun j1 M2 => ?_)
  refine s_putOF hX dX7_init_8 q_105 rfl rfl hnm rfl (fun M3 => ?_)
  refine s_aload_n hX dX7_init_11 rfl ?_
  refine s_iconst (v := 4) hX dX7_init_12 kc_4 ?_
  refine s_newaI (N := 4) (ck1 := 2) (sk1 := 8) hX dX7_init_13 q_186 (by decide) (by decide) (by decide) (Nat.le_of_ble_eq_true rfl) (Nat.le_of_ble_eq_true rfl) rfl rfl (fun j4 M5 => ?_)
  refine s_putOF hX dX7_init_15 q_106 rfl rfl hnm rfl (fun M6 => ?_)
  refine s_aload_n hX dX7_init_18 rfl ?_
  refine s_iconst (v := 4) hX dX7_init_19 kc_4 ?_
  refine s_newaI (N := 4) (ck1 := 3) (sk1 := 12) hX dX7_init_20 q_186 (by decide) (by decide) (by decide) (Nat.le_of_ble_eq_true rfl) (Nat.le_of_ble_eq_true rfl) rfl rfl (fun j7 M8 => ?_)
  refine s_putOF hX dX7_init_22 q_109 rfl rfl hnm rfl (fun M9 => ?_)
  refine s_aload_n hX dX7_init_25 rfl ?_
  refine s_iconst (v := 4) hX dX7_init_26 kc_4 ?_
  refine s_newaI (N := 4) (ck1 := 4) (sk1 := 16) hX dX7_init_27 q_186 (by decide) (by decide) (by decide) (Nat.le_of_ble_eq_true rfl) (Nat.le_of_ble_eq_true rfl) rfl rfl (fun j10 M11 => ?_)
  refine s_putOF hX dX7_init_29 q_112 rfl rfl hnm rfl (fun M12 => ?_)
  refine s_aload_n hX dX7_init_32 rfl ?_
  refine s_iconst (v := 4) hX dX7_init_33 kc_4 ?_
  refine s_newaI (N := 4) (ck1 := 5) (sk1 := 20) hX dX7_init_34 q_186 (by decide) (by decide) (by decide) (Nat.le_of_ble_eq_true rfl) (Nat.le_of_ble_eq_true rfl) rfl rfl (fun j13 M14 => ?_)
  refine s_putOF hX dX7_init_36 q_116 rfl rfl hnm rfl (fun M15 => ?_)
  refine s_aload_n hX dX7_init_39 rfl ?_
  refine s_iconst (v := 4) hX dX7_init_40 kc_4 ?_
  refine s_newaI (N := 4) (ck1 := 6) (sk1 := 24) hX dX7_init_41 q_186 (by decide) (by decide) (by decide) (Nat.le_of_ble_eq_true rfl) (Nat.le_of_ble_eq_true rfl) rfl rfl (fun j16 M17 => ?_)
  refine s_putOF hX dX7_init_43 q_119 rfl rfl hnm rfl (fun M18 => ?_)
  refine s_aload_n hX dX7_init_46 rfl ?_
  refine s_iconst (v := 0) hX dX7_init_47 kc_0 ?_
  refine s_putI hX dX7_init_48 q_122 rfl rfl (fun M19 => ?_)
  refine s_aload_n hX dX7_init_51 rfl ?_
  refine s_bipush (v := 100) hX dX7_init_52 kb_100 ?_
  refine s_putI hX dX7_init_54 q_126 rfl rfl (fun M20 => ?_)
  refine s_aload_n hX dX7_init_57 rfl ?_
  refine s_bipush (v := 96) hX dX7_init_58 kb_96 ?_
  refine s_newaI (N := 96) (ck1 := 7) (sk1 := 120) hX dX7_init_60 q_186 (by decide) (by decide) (by decide) (Nat.le_of_ble_eq_true rfl) (Nat.le_of_ble_eq_true rfl) rfl rfl (fun j21 M22 => ?_)
  refine s_putOF hX dX7_init_62 q_145 rfl rfl hnm rfl (fun M23 => ?_)
  refine s_aload_n hX dX7_init_65 rfl ?_
  refine s_bipush (v := 20) hX dX7_init_66 kb_20 ?_
  refine s_newaI (N := 20) (ck1 := 8) (sk1 := 140) hX dX7_init_68 q_186 (by decide) (by decide) (by decide) (Nat.le_of_ble_eq_true rfl) (Nat.le_of_ble_eq_true rfl) rfl rfl (fun j24 M25 => ?_)
  refine s_putOF hX dX7_init_70 q_151 rfl rfl hnm rfl (fun M26 => ?_)
  exact s_vret hX hR dX7_init_73 (Nat.le_of_ble_eq_true rfl) (Nat.le_of_ble_eq_true rfl)
abbrev rm_X3_init : Room := { frames := 3, cells := 66, slots := 2745, locals := 61 }
theorem k_X3_init : KYI yX3_init cX3_init 1 0 := ⟨⟨q_191, q_4, by decide +kernel, by decide +kernel, by decide +kernel⟩, rfl, q_190⟩
set_option maxHeartbeats 4000000 in
set_option maxRecDepth 100000 in
theorem c_X3_init (n : Nat) (M0 : MemT) (a0 : Nat) : Ct iU yX3_init cX3_init 1 none rm_X3_init [.ref a0] M0 (g_X3_init n M0 a0) := by
  unfold g_X3_init
  refine ct_intro RX3 0 [some (.ref a0)] rfl (by decide +kernel) rfl (Nat.le_of_ble_eq_true rfl) (fun X A hX hnm hR => ?_)
  refine s_aload_n hX dX3_init_0 rfl ?_
  refine s_objInit hX dX3_init_1 q_192 q_31 q_32 (Nat.le_of_ble_eq_true rfl) (Nat.le_of_ble_eq_true rfl) ?_
  refine s_aload_n hX dX3_init_4 rfl ?_
  refine s_new (ck1 := 1) (sk1 := 16) hX dX3_init_5 (by decide) q_193 q_96 q_3 (Nat.le_of_ble_eq_true rfl) (Nat.le_of_ble_eq_true rfl) rfl rfl (fun j1 M2 => ?_)
  refine s_dup hX dX3_init_8 rfl ?_
  refine s_callINu (ck1 := 9) (sk1 := 156) hX dX3_init_9 k_X7_init nx_194 (c_X7_init n M2 j1) rfl rfl ⟨Nat.le_of_ble_eq_true rfl, Nat.le_of_ble_eq_true rfl⟩ ⟨(Nat.le_of_ble_eq_true rfl), (Nat.le_of_ble_eq_true rfl)⟩ (Nat.le_of_ble_eq_true rfl) rfl rfl (fun r3 M4 => ?_)
  refine s_putO hX dX3_init_12 q_389 rfl rfl (fun M5 => ?_)
  refine s_aload_n hX dX3_init_15 rfl ?_
  refine s_new (ck1 := 10) (sk1 := 168) hX dX3_init_16 (by decide) q_195 q_196 q_5 (Nat.le_of_ble_eq_true rfl) (Nat.le_of_ble_eq_true rfl) rfl rfl (fun j6 M7 => ?_)
  refine s_dup hX dX3_init_19 rfl ?_
  refine s_callIu (ck1 := 64) (sk1 := 2733) hX dX3_init_20 k_X2_init q_197 (c_X2_init n M7 j6) rfl rfl ⟨Nat.le_of_ble_eq_true rfl, Nat.le_of_ble_eq_true rfl⟩ ⟨(Nat.le_of_ble_eq_true rfl), (Nat.le_of_ble_eq_true rfl)⟩ (Nat.le_of_ble_eq_true rfl) rfl rfl (fun r8 M9 => ?_)
  refine s_putOF hX dX3_init_23 q_391 rfl rfl hnm rfl (fun M10 => ?_)
  refine s_aload_n hX dX3_init_26 rfl ?_
  refine s_new (ck1 := 65) (sk1 := 2740) hX dX3_init_27 (by decide) q_349 q_350 q_7 (Nat.le_of_ble_eq_true rfl) (Nat.le_of_ble_eq_true rfl) rfl rfl (fun j11 M12 => ?_)
  refine s_dup hX dX3_init_30 rfl ?_
  refine s_callINu (ck1 := 66) (sk1 := 2745) hX dX3_init_31 k_X6_init nx_351 (c_X6_init n M12 j11) rfl rfl ⟨Nat.le_of_ble_eq_true rfl, Nat.le_of_ble_eq_true rfl⟩ ⟨(Nat.le_of_ble_eq_true rfl), (Nat.le_of_ble_eq_true rfl)⟩ (Nat.le_of_ble_eq_true rfl) rfl rfl (fun r13 M14 => ?_)
  refine s_putOF hX dX3_init_34 q_393 rfl rfl hnm rfl (fun M15 => ?_)
  exact s_vret hX hR dX3_init_37 (Nat.le_of_ble_eq_true rfl) (Nat.le_of_ble_eq_true rfl)
abbrev rm_X3_bringTold : Room := { frames := 2, cells := 0, slots := 0, locals := 49 }
theorem k_X3_bringTold : KYV yX3_bringTold cX3_bringTold 3 none 0 := ⟨⟨q_680, q_4, by decide +kernel, by decide +kernel, by decide +kernel⟩, q_679, p_22⟩
set_option maxHeartbeats 4000000 in
set_option maxRecDepth 100000 in
theorem c_X3_bringTold (n : Nat) (M0 : MemT) (a0 : Nat) : Ct iU yX3_bringTold cX3_bringTold 3 none rm_X3_bringTold [.ref a0] M0 (g_X3_bringTold n M0 a0) := by
  unfold g_X3_bringTold
  refine ct_intro RX3 2 [some (.ref a0), none, none] rfl (by decide +kernel) rfl (Nat.le_of_ble_eq_true rfl) (fun X A hX hnm hR => ?_)
  refine s_iconst (v := 0) hX dX3_bringTold_0 kc_0 ?_
  refine s_istore1 hX dX3_bringTold_1 (by first | exact trivial | exact rfl) (Nat.le_of_ble_eq_true rfl) ?_
  refine s_loopE (stk := []) (fun (s : MemT × Int32) => [some (.ref a0), some (.int s.2), none]) (fun (s : MemT × Int32) => s.1) 98 (fun (s : MemT × Int32) => [some (.ref a0), some (.int s.2), none]) (fun s B3 hB3 hE3 => ?_) (fun s => ?_) n (M0, 0)
  · obtain ⟨M1, v2⟩ := s
    dsimp only
    refine s_iload_n hX dX3_bringTold_2 rfl ?_
    refine s_aload_n hX dX3_bringTold_3 rfl ?_
    refine s_getO hX dX3_bringTold_4 q_389 rfl (fun j4 => ?_)
    refine s_getI hX dX3_bringTold_7 q_138 rfl (fun v5 => ?_)
    refine s_aload_n hX dX3_bringTold_10 rfl ?_
    refine s_getO hX dX3_bringTold_11 q_389 rfl (fun j6 => ?_)
    refine s_getI hX dX3_bringTold_14 q_142 rfl (fun v7 => ?_)
    refine s_iadd hX dX3_bringTold_17 ?_
    refine s_icge (tgt := 98) hX dX3_bringTold_18 rfl ?_ ?_
    · exact s_exit hE3
    · refine s_iload_n hX dX3_bringTold_21 rfl ?_
      refine s_iconst (v := 4) hX dX3_bringTold_22 kc_4 ?_
      refine s_imul hX dX3_bringTold_23 ?_
      refine s_istore2 hX dX3_bringTold_24 (by first | exact trivial | exact rfl) (Nat.le_of_ble_eq_true rfl) ?_
      refine s_aload_n hX dX3_bringTold_25 rfl ?_
      refine s_getO hX dX3_bringTold_26 q_389 rfl (fun j8 => ?_)
      refine s_getO hX dX3_bringTold_29 q_146 rfl (fun j9 => ?_)
      refine s_iload_n hX dX3_bringTold_32 rfl ?_
      refine s_iconst (v := 1) hX dX3_bringTold_33 kc_1 ?_
      refine s_iadd hX dX3_bringTold_34 ?_
      refine s_iald hX dX3_bringTold_35 (fun v10 => ?_)
      refine s_aload_n hX dX3_bringTold_36 rfl ?_
      refine s_getO hX dX3_bringTold_37 q_391 rfl (fun j11 => ?_)
      refine s_getI hX dX3_bringTold_40 q_302 rfl (fun v12 => ?_)
      refine s_icne (tgt := 92) hX dX3_bringTold_43 rfl ?_ ?_
      · refine s_aload_n hX dX3_bringTold_46 rfl ?_
        refine s_getO hX dX3_bringTold_47 q_391 rfl (fun j13 => ?_)
        refine s_aload_n hX dX3_bringTold_50 rfl ?_
        refine s_getO hX dX3_bringTold_51 q_389 rfl (fun j14 => ?_)
        refine s_getO hX dX3_bringTold_54 q_146 rfl (fun j15 => ?_)
        refine s_iload_n hX dX3_bringTold_57 rfl ?_
        refine s_iald hX dX3_bringTold_58 (fun v16 => ?_)
        refine s_aload_n hX dX3_bringTold_59 rfl ?_
        refine s_getO hX dX3_bringTold_60 q_391 rfl (fun j17 => ?_)
        refine s_getI hX dX3_bringTold_63 q_302 rfl (fun v18 => ?_)
        refine s_aload_n hX dX3_bringTold_66 rfl ?_
        refine s_getO hX dX3_bringTold_67 q_389 rfl (fun j19 => ?_)
        refine s_getO hX dX3_bringTold_70 q_146 rfl (fun j20 => ?_)
        refine s_iload_n hX dX3_bringTold_73 rfl ?_
        refine s_iconst (v := 2) hX dX3_bringTold_74 kc_2 ?_
        refine s_iadd hX dX3_bringTold_75 ?_
        refine s_iald hX dX3_bringTold_76 (fun v21 => ?_)
        refine s_aload_n hX dX3_bringTold_77 rfl ?_
        refine s_getO hX dX3_bringTold_78 q_389 rfl (fun j22 => ?_)
        refine s_getO hX dX3_bringTold_81 q_146 rfl (fun j23 => ?_)
        refine s_iload_n hX dX3_bringTold_84 rfl ?_
        refine s_iconst (v := 3) hX dX3_bringTold_85 kc_3 ?_
        refine s_iadd hX dX3_bringTold_86 ?_
        refine s_iald hX dX3_bringTold_87 (fun v24 => ?_)
        refine s_callVi (ck1 := 0) (sk1 := 0) (ci := 1) hX dX3_bringTold_88 k_X2_addToSum q_681 (c_X2_addToSum n M1 j13 v16 v18 v21 v24) (by decide) rfl rfl rfl ⟨Nat.le_of_ble_eq_true rfl, Nat.le_of_ble_eq_true rfl⟩ ⟨(Nat.le_of_ble_eq_true rfl), (Nat.le_of_ble_eq_true rfl)⟩ (Nat.le_of_ble_eq_true rfl) rfl rfl (fun r25 M26 => ?_)
        refine s_pop hX dX3_bringTold_91 rfl ?_
        refine s_iinc1 (v := v2 + 1) hX dX3_bringTold_92 rfl (by first | exact trivial | exact rfl) (Nat.le_of_ble_eq_true rfl) ?_
        refine s_goto (tgt := 2) hX dX3_bringTold_95 rfl ?_
        refine s_forget (loc1 := [some (.ref a0), some (.int (v2 + 1)), none]) ⟨rfl, rfl, trivial⟩ ?_
        exact s_back hB3
      · refine s_iinc1 (v := v2 + 1) hX dX3_bringTold_92 rfl (by first | exact trivial | exact rfl) (Nat.le_of_ble_eq_true rfl) ?_
        refine s_goto (tgt := 2) hX dX3_bringTold_95 rfl ?_
        refine s_forget (loc1 := [some (.ref a0), some (.int (v2 + 1)), none]) ⟨rfl, rfl, trivial⟩ ?_
        exact s_back hB3
  · obtain ⟨M27, v28⟩ := s
    dsimp only
    refine s_iconst (v := 0) hX dX3_bringTold_98 kc_0 ?_
    refine s_istore1 hX dX3_bringTold_99 (by first | exact trivial | exact rfl) (Nat.le_of_ble_eq_true rfl) ?_
    refine s_loopE (stk := []) (fun (s : MemT × Int32) => [some (.ref a0), some (.int s.2), none]) (fun (s : MemT × Int32) => s.1) 192 (fun (s : MemT × Int32) => [some (.ref a0), some (.int s.2), none]) (fun s B31 hB31 hE31 => ?_) (fun s => ?_) n (M27, 0)
    · obtain ⟨M29, v30⟩ := s
      dsimp only
      refine s_iload_n hX dX3_bringTold_100 rfl ?_
      refine s_aload_n hX dX3_bringTold_101 rfl ?_
      refine s_getO hX dX3_bringTold_102 q_389 rfl (fun j32 => ?_)
      refine s_getI hX dX3_bringTold_105 q_148 rfl (fun v33 => ?_)
      refine s_icge (tgt := 192) hX dX3_bringTold_108 rfl ?_ ?_
      · exact s_exit hE31
      · refine s_iload_n hX dX3_bringTold_111 rfl ?_
        refine s_iconst (v := 5) hX dX3_bringTold_112 kc_5 ?_
        refine s_imul hX dX3_bringTold_113 ?_
        refine s_istore2 hX dX3_bringTold_114 (by first | exact trivial | exact rfl) (Nat.le_of_ble_eq_true rfl) ?_
        refine s_aload_n hX dX3_bringTold_115 rfl ?_
        refine s_getO hX dX3_bringTold_116 q_389 rfl (fun j34 => ?_)
        refine s_getO hX dX3_bringTold_119 q_152 rfl (fun j35 => ?_)
        refine s_iload_n hX dX3_bringTold_122 rfl ?_
        refine s_iconst (v := 1) hX dX3_bringTold_123 kc_1 ?_
        refine s_iadd hX dX3_bringTold_124 ?_
        refine s_iald hX dX3_bringTold_125 (fun v36 => ?_)
        refine s_aload_n hX dX3_bringTold_126 rfl ?_
        refine s_getO hX dX3_bringTold_127 q_391 rfl (fun j37 => ?_)
        refine s_getI hX dX3_bringTold_130 q_302 rfl (fun v38 => ?_)
        refine s_icne (tgt := 186) hX dX3_bringTold_133 rfl ?_ ?_
        · refine s_aload_n hX dX3_bringTold_136 rfl ?_
          refine s_getO hX dX3_bringTold_137 q_391 rfl (fun j39 => ?_)
          refine s_aload_n hX dX3_bringTold_140 rfl ?_
          refine s_getO hX dX3_bringTold_141 q_389 rfl (fun j40 => ?_)
          refine s_getO hX dX3_bringTold_144 q_152 rfl (fun j41 => ?_)
          refine s_iload_n hX dX3_bringTold_147 rfl ?_
          refine s_iald hX dX3_bringTold_148 (fun v42 => ?_)
          refine s_aload_n hX dX3_bringTold_149 rfl ?_
          refine s_getO hX dX3_bringTold_150 q_389 rfl (fun j43 => ?_)
          refine s_getO hX dX3_bringTold_153 q_152 rfl (fun j44 => ?_)
          refine s_iload_n hX dX3_bringTold_156 rfl ?_
          refine s_iconst (v := 2) hX dX3_bringTold_157 kc_2 ?_
          refine s_iadd hX dX3_bringTold_158 ?_
          refine s_iald hX dX3_bringTold_159 (fun v45 => ?_)
          refine s_aload_n hX dX3_bringTold_160 rfl ?_
          refine s_getO hX dX3_bringTold_161 q_389 rfl (fun j46 => ?_)
          refine s_getO hX dX3_bringTold_164 q_152 rfl (fun j47 => ?_)
          refine s_iload_n hX dX3_bringTold_167 rfl ?_
          refine s_iconst (v := 3) hX dX3_bringTold_168 kc_3 ?_
          refine s_iadd hX dX3_bringTold_169 ?_
          refine s_iald hX dX3_bringTold_170 (fun v48 => ?_)
          refine s_aload_n hX dX3_bringTold_171 rfl ?_
          refine s_getO hX dX3_bringTold_172 q_389 rfl (fun j49 => ?_)
          refine s_getO hX dX3_bringTold_175 q_152 rfl (fun j50 => ?_)
          refine s_iload_n hX dX3_bringTold_178 rfl ?_
          refine s_iconst (v := 4) hX dX3_bringTold_179 kc_4 ?_
          refine s_iadd hX dX3_bringTold_180 ?_
          refine s_iald hX dX3_bringTold_181 (fun v51 => ?_)
          refine s_callVi (ck1 := 0) (sk1 := 0) (ci := 1) hX dX3_bringTold_182 k_X2_addAsset q_685 (c_X2_addAsset n M29 j39 v42 v45 v48 v51) (by decide) rfl rfl rfl ⟨Nat.le_of_ble_eq_true rfl, Nat.le_of_ble_eq_true rfl⟩ ⟨(Nat.le_of_ble_eq_true rfl), (Nat.le_of_ble_eq_true rfl)⟩ (Nat.le_of_ble_eq_true rfl) rfl rfl (fun r52 M53 => ?_)
          refine s_pop hX dX3_bringTold_185 rfl ?_
          refine s_iinc1 (v := v30 + 1) hX dX3_bringTold_186 rfl (by first | exact trivial | exact rfl) (Nat.le_of_ble_eq_true rfl) ?_
          refine s_goto (tgt := 100) hX dX3_bringTold_189 rfl ?_
          refine s_forget (loc1 := [some (.ref a0), some (.int (v30 + 1)), none]) ⟨rfl, rfl, trivial⟩ ?_
          exact s_back hB31
        · refine s_iinc1 (v := v30 + 1) hX dX3_bringTold_186 rfl (by first | exact trivial | exact rfl) (Nat.le_of_ble_eq_true rfl) ?_
          refine s_goto (tgt := 100) hX dX3_bringTold_189 rfl ?_
          refine s_forget (loc1 := [some (.ref a0), some (.int (v30 + 1)), none]) ⟨rfl, rfl, trivial⟩ ?_
          exact s_back hB31
    · obtain ⟨M54, v55⟩ := s
      dsimp only
      exact s_vret hX hR dX3_bringTold_192 (Nat.le_of_ble_eq_true rfl) (Nat.le_of_ble_eq_true rfl)
