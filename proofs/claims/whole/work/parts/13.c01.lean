abbrev rm_X3_open : Room := { frames := 3, cells := 0, slots := 0, locals := 71 }
theorem k_X3_open : KYV yX3_open cX3_open 2 none 1 := ⟨⟨q_662, q_4, by decide +kernel, by decide +kernel, by decide +kernel⟩, q_660, q_661⟩
set_option maxHeartbeats 4000000 in
set_option maxRecDepth 100000 in
theorem c_X3_open (n : Nat) (M0 : MemT) (a0 : Nat) (a1 : Nat) : Ct iU yX3_open cX3_open 2 none rm_X3_open [.ref a0, .ref a1] M0 (g_X3_open n M0 a0 a1) := by
  unfold g_X3_open
  refine ct_intro RX3 0 [some (.ref a0), some (.ref a1)] rfl (by decide +kernel) rfl (Nat.le_of_ble_eq_true rfl) (fun X A hX hnm hR => ?_)
  refine s_aload_n hX dX3_open_0 rfl ?_
  refine s_aload_n hX dX3_open_1 rfl ?_
  refine s_putO hX dX3_open_2 q_389 rfl rfl (fun M1 => ?_)
  refine s_aload_n hX dX3_open_5 rfl ?_
  refine s_getO hX dX3_open_6 q_391 rfl (fun j2 => ?_)
  refine s_callVu (ck1 := 0) (sk1 := 0) (ci := 1) hX dX3_open_9 k_X2_clear q_663 (c_X2_clear n M1 j2) (by decide) rfl rfl rfl ⟨Nat.le_of_ble_eq_true rfl, Nat.le_of_ble_eq_true rfl⟩ ⟨(Nat.le_of_ble_eq_true rfl), (Nat.le_of_ble_eq_true rfl)⟩ (Nat.le_of_ble_eq_true rfl) rfl rfl (fun r3 M4 => ?_)
  refine s_aload_n hX dX3_open_12 rfl ?_
  refine s_getO hX dX3_open_13 q_117 rfl (fun j5 => ?_)
  refine s_aload_n hX dX3_open_16 rfl ?_
  refine s_getO hX dX3_open_17 q_391 rfl (fun j6 => ?_)
  refine s_getO hX dX3_open_20 q_310 rfl (fun j7 => ?_)
  refine s_callSNu (ck1 := 0) (sk1 := 0) hX dX3_open_23 k_X9_copyRow nx_670 (c_X9_copyRow n M4 j5 j7) rfl rfl ⟨Nat.le_of_ble_eq_true rfl, Nat.le_of_ble_eq_true rfl⟩ ⟨(Nat.le_of_ble_eq_true rfl), (Nat.le_of_ble_eq_true rfl)⟩ (Nat.le_of_ble_eq_true rfl) rfl rfl (fun r8 M9 => ?_)
  refine s_aload_n hX dX3_open_26 rfl ?_
  refine s_getO hX dX3_open_27 q_120 rfl (fun j10 => ?_)
  refine s_aload_n hX dX3_open_30 rfl ?_
  refine s_getO hX dX3_open_31 q_391 rfl (fun j11 => ?_)
  refine s_getO hX dX3_open_34 q_313 rfl (fun j12 => ?_)
  refine s_callSNu (ck1 := 0) (sk1 := 0) hX dX3_open_37 k_X9_copyRow nx_670 (c_X9_copyRow n M9 j10 j12) rfl rfl ⟨Nat.le_of_ble_eq_true rfl, Nat.le_of_ble_eq_true rfl⟩ ⟨(Nat.le_of_ble_eq_true rfl), (Nat.le_of_ble_eq_true rfl)⟩ (Nat.le_of_ble_eq_true rfl) rfl rfl (fun r13 M14 => ?_)
  refine s_aload_n hX dX3_open_40 rfl ?_
  refine s_callVu (ck1 := 0) (sk1 := 0) (ci := 2) hX dX3_open_41 k_X3_bringTold q_677 (c_X3_bringTold n M14 a0) (by decide) rfl rfl rfl ⟨Nat.le_of_ble_eq_true rfl, Nat.le_of_ble_eq_true rfl⟩ ⟨(Nat.le_of_ble_eq_true rfl), (Nat.le_of_ble_eq_true rfl)⟩ (Nat.le_of_ble_eq_true rfl) rfl rfl (fun r15 M16 => ?_)
  exact s_vret hX hR dX3_open_44 (Nat.le_of_ble_eq_true rfl) (Nat.le_of_ble_eq_true rfl)
abbrev rm_X3_imitate : Room := { frames := 4, cells := 0, slots := 0, locals := 104 }
theorem k_X3_imitate : KYV yX3_imitate cX3_imitate 2 none 1 := ⟨⟨q_1114, q_4, by decide +kernel, by decide +kernel, by decide +kernel⟩, q_1112, q_1113⟩
set_option maxHeartbeats 4000000 in
set_option maxRecDepth 100000 in
theorem c_X3_imitate (n : Nat) (M0 : MemT) (a0 : Nat) (a1 : Nat) : Ct iU yX3_imitate cX3_imitate 2 none rm_X3_imitate [.ref a0, .ref a1] M0 (g_X3_imitate n M0 a0 a1) := by
  unfold g_X3_imitate
  refine ct_intro RX3 0 [some (.ref a0), some (.ref a1)] rfl (by decide +kernel) rfl (Nat.le_of_ble_eq_true rfl) (fun X A hX hnm hR => ?_)
  refine s_aload_n hX dX3_imitate_0 rfl ?_
  refine s_aload_n hX dX3_imitate_1 rfl ?_
  refine s_getO hX dX3_imitate_2 q_389 rfl (fun j1 => ?_)
  refine s_putO hX dX3_imitate_5 q_389 rfl rfl (fun M2 => ?_)
  refine s_aload_n hX dX3_imitate_8 rfl ?_
  refine s_getO hX dX3_imitate_9 q_391 rfl (fun j3 => ?_)
  refine s_aload_n hX dX3_imitate_12 rfl ?_
  refine s_getO hX dX3_imitate_13 q_391 rfl (fun j4 => ?_)
  refine s_callVu (ck1 := 0) (sk1 := 0) (ci := 1) hX dX3_imitate_16 k_X2_copyFrom q_1115 (c_X2_copyFrom n M2 j3 j4) (by decide) rfl rfl rfl ⟨Nat.le_of_ble_eq_true rfl, Nat.le_of_ble_eq_true rfl⟩ ⟨(Nat.le_of_ble_eq_true rfl), (Nat.le_of_ble_eq_true rfl)⟩ (Nat.le_of_ble_eq_true rfl) rfl rfl (fun r5 M6 => ?_)
  exact s_vret hX hR dX3_imitate_19 (Nat.le_of_ble_eq_true rfl) (Nat.le_of_ble_eq_true rfl)
abbrev rm_X3_thisYear : Room := { frames := 0, cells := 0, slots := 0, locals := 0 }
theorem k_X3_thisYear : KYV yX3_thisYear cX3_thisYear 1 (some .int) 0 := ⟨⟨q_868, q_4, by decide +kernel, by decide +kernel, by decide +kernel⟩, q_866, q_867⟩
set_option maxHeartbeats 4000000 in
set_option maxRecDepth 100000 in
theorem c_X3_thisYear (n : Nat) (M0 : MemT) (a0 : Nat) : Ct iI yX3_thisYear cX3_thisYear 1 (some .int) rm_X3_thisYear [.ref a0] M0 (g_X3_thisYear n M0 a0) := by
  unfold g_X3_thisYear
  refine ct_intro RX3 0 [some (.ref a0)] rfl (by decide +kernel) rfl (Nat.le_of_ble_eq_true rfl) (fun X A hX hnm hR => ?_)
  refine s_aload_n hX dX3_thisYear_0 rfl ?_
  refine s_getO hX dX3_thisYear_1 q_391 rfl (fun j1 => ?_)
  refine s_getI hX dX3_thisYear_4 q_302 rfl (fun v2 => ?_)
  refine s_iconst (v := 4) hX dX3_thisYear_7 kc_4 ?_
  refine s_idiv hX dX3_thisYear_8 ?_
  exact s_iret hX hR dX3_thisYear_9 (Nat.le_of_ble_eq_true rfl) (Nat.le_of_ble_eq_true rfl)
abbrev rm_X3_beginReckoning : Room := { frames := 0, cells := 0, slots := 0, locals := 0 }
theorem k_X3_beginReckoning : KYV yX3_beginReckoning cX3_beginReckoning 3 none 1 := ⟨⟨q_812, q_4, by decide +kernel, by decide +kernel, by decide +kernel⟩, q_811, p_26⟩
set_option maxHeartbeats 4000000 in
set_option maxRecDepth 100000 in
theorem c_X3_beginReckoning (n : Nat) (M0 : MemT) (a0 : Nat) (a1 : Int32) : Ct iU yX3_beginReckoning cX3_beginReckoning 3 none rm_X3_beginReckoning [.ref a0, .int a1] M0 (g_X3_beginReckoning n M0 a0 a1) := by
  unfold g_X3_beginReckoning
  refine ct_intro RX3 1 [some (.ref a0), some (.int a1), none] rfl (by decide +kernel) rfl (Nat.le_of_ble_eq_true rfl) (fun X A hX hnm hR => ?_)
  refine s_aload_n hX dX3_beginReckoning_0 rfl ?_
  refine s_getO hX dX3_beginReckoning_1 q_393 rfl (fun j1 => ?_)
  refine s_aload_n hX dX3_beginReckoning_4 rfl ?_
  refine s_getO hX dX3_beginReckoning_5 q_389 rfl (fun j2 => ?_)
  refine s_getI hX dX3_beginReckoning_8 q_123 rfl (fun v3 => ?_)
  refine s_putI hX dX3_beginReckoning_11 q_363 rfl rfl (fun M4 => ?_)
  refine s_aload_n hX dX3_beginReckoning_14 rfl ?_
  refine s_getO hX dX3_beginReckoning_15 q_393 rfl (fun j5 => ?_)
  refine s_aload_n hX dX3_beginReckoning_18 rfl ?_
  refine s_getO hX dX3_beginReckoning_19 q_389 rfl (fun j6 => ?_)
  refine s_getO hX dX3_beginReckoning_22 q_107 rfl (fun j7 => ?_)
  refine s_iload_n hX dX3_beginReckoning_25 rfl ?_
  refine s_iald hX dX3_beginReckoning_26 (fun v8 => ?_)
  refine s_putI hX dX3_beginReckoning_27 q_366 rfl rfl (fun M9 => ?_)
  refine s_aload_n hX dX3_beginReckoning_30 rfl ?_
  refine s_getO hX dX3_beginReckoning_31 q_393 rfl (fun j10 => ?_)
  refine s_aload_n hX dX3_beginReckoning_34 rfl ?_
  refine s_getO hX dX3_beginReckoning_35 q_389 rfl (fun j11 => ?_)
  refine s_getI hX dX3_beginReckoning_38 q_127 rfl (fun v12 => ?_)
  refine s_putI hX dX3_beginReckoning_41 q_369 rfl rfl (fun M13 => ?_)
  refine s_aload_n hX dX3_beginReckoning_44 rfl ?_
  refine s_getO hX dX3_beginReckoning_45 q_393 rfl (fun j14 => ?_)
  refine s_aload_n hX dX3_beginReckoning_48 rfl ?_
  refine s_getO hX dX3_beginReckoning_49 q_389 rfl (fun j15 => ?_)
  refine s_getI hX dX3_beginReckoning_52 q_131 rfl (fun v16 => ?_)
  refine s_putI hX dX3_beginReckoning_55 q_371 rfl rfl (fun M17 => ?_)
  refine s_aload_n hX dX3_beginReckoning_58 rfl ?_
  refine s_getO hX dX3_beginReckoning_59 q_393 rfl (fun j18 => ?_)
  refine s_aload_n hX dX3_beginReckoning_62 rfl ?_
  refine s_getO hX dX3_beginReckoning_63 q_391 rfl (fun j19 => ?_)
  refine s_getO hX dX3_beginReckoning_66 q_310 rfl (fun j20 => ?_)
  refine s_iload_n hX dX3_beginReckoning_69 rfl ?_
  refine s_iald hX dX3_beginReckoning_70 (fun v21 => ?_)
  refine s_putI hX dX3_beginReckoning_71 q_359 rfl rfl (fun M22 => ?_)
  refine s_aload_n hX dX3_beginReckoning_74 rfl ?_
  refine s_getO hX dX3_beginReckoning_75 q_393 rfl (fun j23 => ?_)
  refine s_aload_n hX dX3_beginReckoning_78 rfl ?_
  refine s_getO hX dX3_beginReckoning_79 q_391 rfl (fun j24 => ?_)
  refine s_getO hX dX3_beginReckoning_82 q_313 rfl (fun j25 => ?_)
  refine s_iload_n hX dX3_beginReckoning_85 rfl ?_
  refine s_iald hX dX3_beginReckoning_86 (fun v26 => ?_)
  refine s_putI hX dX3_beginReckoning_87 q_361 rfl rfl (fun M27 => ?_)
  refine s_iconst (v := 0) hX dX3_beginReckoning_90 kc_0 ?_
  refine s_istore2 hX dX3_beginReckoning_91 (by first | exact trivial | exact rfl) (Nat.le_of_ble_eq_true rfl) ?_
  refine s_loopE (stk := []) (fun (s : MemT × Int32) => [some (.ref a0), some (.int a1), some (.int s.2)]) (fun (s : MemT × Int32) => s.1) 113 (fun (s : MemT × Int32) => [some (.ref a0), some (.int a1), some (.int s.2)]) (fun s B30 hB30 hE30 => ?_) (fun s => ?_) n (M27, 0)
  · obtain ⟨M28, v29⟩ := s
    dsimp only
    refine s_iload_n hX dX3_beginReckoning_92 rfl ?_
    refine s_iconst (v := 5) hX dX3_beginReckoning_93 kc_5 ?_
    refine s_icge (tgt := 113) hX dX3_beginReckoning_94 rfl ?_ ?_
    · exact s_exit hE30
    · refine s_aload_n hX dX3_beginReckoning_97 rfl ?_
      refine s_getO hX dX3_beginReckoning_98 q_393 rfl (fun j31 => ?_)
      refine s_getO hX dX3_beginReckoning_101 q_356 rfl (fun j32 => ?_)
      refine s_iload_n hX dX3_beginReckoning_104 rfl ?_
      refine s_lconst (v := 0) hX dX3_beginReckoning_105 rfl ?_
      refine s_last hX dX3_beginReckoning_106 (fun M33 => ?_)
      refine s_iinc2 (v := v29 + 1) hX dX3_beginReckoning_107 rfl (by first | exact trivial | exact rfl) (Nat.le_of_ble_eq_true rfl) ?_
      refine s_goto (tgt := 92) hX dX3_beginReckoning_110 rfl ?_
      exact s_back hB30
  · obtain ⟨M34, v35⟩ := s
    dsimp only
    exact s_vret hX hR dX3_beginReckoning_113 (Nat.le_of_ble_eq_true rfl) (Nat.le_of_ble_eq_true rfl)
abbrev rm_X3_addQuarters : Room := { frames := 1, cells := 0, slots := 0, locals := 23 }
theorem k_X3_addQuarters : KYV yX3_addQuarters cX3_addQuarters 6 none 3 := ⟨⟨q_816, q_4, by decide +kernel, by decide +kernel, by decide +kernel⟩, q_815, p_27⟩
set_option maxHeartbeats 4000000 in
set_option maxRecDepth 100000 in
theorem c_X3_addQuarters (n : Nat) (M0 : MemT) (a0 : Nat) (a1 : Int32) (a2 : Int32) (a3 : Int32) : Ct iU yX3_addQuarters cX3_addQuarters 6 none rm_X3_addQuarters [.ref a0, .int a1, .int a2, .int a3] M0 (g_X3_addQuarters n M0 a0 a1 a2 a3) := by
  unfold g_X3_addQuarters
  refine ct_intro RX3 2 [some (.ref a0), some (.int a1), some (.int a2), some (.int a3), none, none] rfl (by decide +kernel) rfl (Nat.le_of_ble_eq_true rfl) (fun X A hX hnm hR => ?_)
  refine s_iload_n hX dX3_addQuarters_0 rfl ?_
  refine s_istore4 hX dX3_addQuarters_1 (by first | exact trivial | exact rfl) (Nat.le_of_ble_eq_true rfl) ?_
  refine s_loopE (stk := []) (fun (s : MemT × Int32) => [some (.ref a0), some (.int a1), some (.int a2), some (.int a3), some (.int s.2), none]) (fun (s : MemT × Int32) => s.1) 58 (fun (s : MemT × Int32) => [some (.ref a0), some (.int a1), some (.int a2), some (.int a3), some (.int s.2), none]) (fun s B3 hB3 hE3 => ?_) (fun s => ?_) n (M0, a2)
  · obtain ⟨M1, v2⟩ := s
    dsimp only
    refine s_iload hX dX3_addQuarters_3 rfl ?_
    refine s_iload_n hX dX3_addQuarters_5 rfl ?_
    refine s_iload_n hX dX3_addQuarters_6 rfl ?_
    refine s_iadd hX dX3_addQuarters_7 ?_
    refine s_icge (tgt := 58) hX dX3_addQuarters_8 rfl ?_ ?_
    · exact s_exit hE3
    · refine s_iconst (v := 0) hX dX3_addQuarters_11 kc_0 ?_
      refine s_istore5 hX dX3_addQuarters_12 (by first | exact trivial | exact rfl) (Nat.le_of_ble_eq_true rfl) ?_
      refine s_loopE (stk := []) (fun (s : MemT × Int32) => [some (.ref a0), some (.int a1), some (.int a2), some (.int a3), some (.int v2), some (.int s.2)]) (fun (s : MemT × Int32) => s.1) 52 (fun (s : MemT × Int32) => [some (.ref a0), some (.int a1), some (.int a2), some (.int a3), some (.int v2), some (.int s.2)]) (fun s B6 hB6 hE6 => ?_) (fun s => ?_) n (M1, 0)
      · obtain ⟨M4, v5⟩ := s
        dsimp only
        refine s_iload hX dX3_addQuarters_14 rfl ?_
        refine s_iconst (v := 5) hX dX3_addQuarters_16 kc_5 ?_
        refine s_icge (tgt := 52) hX dX3_addQuarters_17 rfl ?_ ?_
        · exact s_exit hE6
        · refine s_aload_n hX dX3_addQuarters_20 rfl ?_
          refine s_getO hX dX3_addQuarters_21 q_393 rfl (fun j7 => ?_)
          refine s_getO hX dX3_addQuarters_24 q_356 rfl (fun j8 => ?_)
          refine s_iload hX dX3_addQuarters_27 rfl ?_
          refine s_dup2 hX dX3_addQuarters_29 rfl rfl ?_
          refine s_lald hX dX3_addQuarters_30 (fun v9 => ?_)
          refine s_aload_n hX dX3_addQuarters_31 rfl ?_
          refine s_getO hX dX3_addQuarters_32 q_391 rfl (fun j10 => ?_)
          refine s_iload_n hX dX3_addQuarters_35 rfl ?_
          refine s_iload hX dX3_addQuarters_36 rfl ?_
          refine s_iload hX dX3_addQuarters_38 rfl ?_
          refine s_callVi (ck1 := 0) (sk1 := 0) (ci := 1) hX dX3_addQuarters_40 k_X2_sumOf q_817 (c_X2_sumOf n M4 j10 a1 v2 v5) (by decide) rfl rfl rfl ⟨Nat.le_of_ble_eq_true rfl, Nat.le_of_ble_eq_true rfl⟩ ⟨(Nat.le_of_ble_eq_true rfl), (Nat.le_of_ble_eq_true rfl)⟩ (Nat.le_of_ble_eq_true rfl) rfl rfl (fun r11 M12 => ?_)
          refine s_i2l hX dX3_addQuarters_43 ?_
          refine s_ladd hX dX3_addQuarters_44 ?_
          refine s_last hX dX3_addQuarters_45 (fun M13 => ?_)
          refine s_iinc5 (v := v5 + 1) hX dX3_addQuarters_46 rfl (by first | exact trivial | exact rfl) (Nat.le_of_ble_eq_true rfl) ?_
          refine s_goto (tgt := 14) hX dX3_addQuarters_49 rfl ?_
          exact s_back hB6
      · obtain ⟨M14, v15⟩ := s
        dsimp only
        refine s_iinc4 (v := v2 + 1) hX dX3_addQuarters_52 rfl (by first | exact trivial | exact rfl) (Nat.le_of_ble_eq_true rfl) ?_
        refine s_goto (tgt := 3) hX dX3_addQuarters_55 rfl ?_
        refine s_forget (loc1 := [some (.ref a0), some (.int a1), some (.int a2), some (.int a3), some (.int (v2 + 1)), none]) ⟨rfl, rfl, rfl, rfl, rfl, trivial⟩ ?_
        exact s_back hB3
  · obtain ⟨M16, v17⟩ := s
    dsimp only
    exact s_vret hX hR dX3_addQuarters_58 (Nat.le_of_ble_eq_true rfl) (Nat.le_of_ble_eq_true rfl)
abbrev rm_X3_ofQuarter : Room := { frames := 2, cells := 0, slots := 0, locals := 48 }
theorem k_X3_ofQuarter : KYV yX3_ofQuarter cX3_ofQuarter 3 (some (.object "ExemptDesk$Reckoning")) 2 := ⟨⟨q_808, q_4, by decide +kernel, by decide +kernel, by decide +kernel⟩, q_806, q_807⟩
set_option maxHeartbeats 4000000 in
set_option maxRecDepth 100000 in
theorem c_X3_ofQuarter (n : Nat) (M0 : MemT) (a0 : Nat) (a1 : Int32) (a2 : Int32) : Ct iR yX3_ofQuarter cX3_ofQuarter 3 (some (.object "ExemptDesk$Reckoning")) rm_X3_ofQuarter [.ref a0, .int a1, .int a2] M0 (g_X3_ofQuarter n M0 a0 a1 a2) := by
  unfold g_X3_ofQuarter
  refine ct_intro RX3 0 [some (.ref a0), some (.int a1), some (.int a2)] rfl (by decide +kernel) rfl (Nat.le_of_ble_eq_true rfl) (fun X A hX hnm hR => ?_)
  refine s_aload_n hX dX3_ofQuarter_0 rfl ?_
  refine s_iload_n hX dX3_ofQuarter_1 rfl ?_
  refine s_callVu (ck1 := 0) (sk1 := 0) (ci := 2) hX dX3_ofQuarter_2 k_X3_beginReckoning q_809 (c_X3_beginReckoning n M0 a0 a1) (by decide) rfl rfl rfl ⟨Nat.le_of_ble_eq_true rfl, Nat.le_of_ble_eq_true rfl⟩ ⟨(Nat.le_of_ble_eq_true rfl), (Nat.le_of_ble_eq_true rfl)⟩ (Nat.le_of_ble_eq_true rfl) rfl rfl (fun r1 M2 => ?_)
  refine s_aload_n hX dX3_ofQuarter_5 rfl ?_
  refine s_iload_n hX dX3_ofQuarter_6 rfl ?_
  refine s_iload_n hX dX3_ofQuarter_7 rfl ?_
  refine s_iconst (v := 1) hX dX3_ofQuarter_8 kc_1 ?_
  refine s_callVu (ck1 := 0) (sk1 := 0) (ci := 2) hX dX3_ofQuarter_9 k_X3_addQuarters q_813 (c_X3_addQuarters n M2 a0 a1 a2 1) (by decide) rfl rfl rfl ⟨Nat.le_of_ble_eq_true rfl, Nat.le_of_ble_eq_true rfl⟩ ⟨(Nat.le_of_ble_eq_true rfl), (Nat.le_of_ble_eq_true rfl)⟩ (Nat.le_of_ble_eq_true rfl) rfl rfl (fun r3 M4 => ?_)
  refine s_aload_n hX dX3_ofQuarter_12 rfl ?_
  refine s_getO hX dX3_ofQuarter_13 q_393 rfl (fun j5 => ?_)
  refine s_aload_n hX dX3_ofQuarter_16 rfl ?_
  refine s_getO hX dX3_ofQuarter_17 q_389 rfl (fun j6 => ?_)
  refine s_getI hX dX3_ofQuarter_20 q_131 rfl (fun v7 => ?_)
  refine s_iconst (v := 4) hX dX3_ofQuarter_23 kc_4 ?_
  refine s_idiv hX dX3_ofQuarter_24 ?_
  refine s_putI hX dX3_ofQuarter_25 q_371 rfl rfl (fun M8 => ?_)
  refine s_aload_n hX dX3_ofQuarter_28 rfl ?_
  refine s_getO hX dX3_ofQuarter_29 q_393 rfl (fun j9 => ?_)
  exact s_aretR hX hR dX3_ofQuarter_32 (Nat.le_of_ble_eq_true rfl) (Nat.le_of_ble_eq_true rfl)
abbrev rm_X3_ofYear : Room := { frames := 2, cells := 0, slots := 0, locals := 48 }
theorem k_X3_ofYear : KYV yX3_ofYear cX3_ofYear 3 (some (.object "ExemptDesk$Reckoning")) 2 := ⟨⟨q_872, q_4, by decide +kernel, by decide +kernel, by decide +kernel⟩, q_870, q_871⟩
set_option maxHeartbeats 4000000 in
set_option maxRecDepth 100000 in
theorem c_X3_ofYear (n : Nat) (M0 : MemT) (a0 : Nat) (a1 : Int32) (a2 : Int32) : Ct iR yX3_ofYear cX3_ofYear 3 (some (.object "ExemptDesk$Reckoning")) rm_X3_ofYear [.ref a0, .int a1, .int a2] M0 (g_X3_ofYear n M0 a0 a1 a2) := by
  unfold g_X3_ofYear
  refine ct_intro RX3 0 [some (.ref a0), some (.int a1), some (.int a2)] rfl (by decide +kernel) rfl (Nat.le_of_ble_eq_true rfl) (fun X A hX hnm hR => ?_)
  refine s_aload_n hX dX3_ofYear_0 rfl ?_
  refine s_iload_n hX dX3_ofYear_1 rfl ?_
  refine s_callVu (ck1 := 0) (sk1 := 0) (ci := 2) hX dX3_ofYear_2 k_X3_beginReckoning q_809 (c_X3_beginReckoning n M0 a0 a1) (by decide) rfl rfl rfl ⟨Nat.le_of_ble_eq_true rfl, Nat.le_of_ble_eq_true rfl⟩ ⟨(Nat.le_of_ble_eq_true rfl), (Nat.le_of_ble_eq_true rfl)⟩ (Nat.le_of_ble_eq_true rfl) rfl rfl (fun r1 M2 => ?_)
  refine s_aload_n hX dX3_ofYear_5 rfl ?_
  refine s_iload_n hX dX3_ofYear_6 rfl ?_
  refine s_iload_n hX dX3_ofYear_7 rfl ?_
  refine s_iconst (v := 4) hX dX3_ofYear_8 kc_4 ?_
  refine s_imul hX dX3_ofYear_9 ?_
  refine s_iconst (v := 4) hX dX3_ofYear_10 kc_4 ?_
  refine s_callVu (ck1 := 0) (sk1 := 0) (ci := 2) hX dX3_ofYear_11 k_X3_addQuarters q_813 (c_X3_addQuarters n M2 a0 a1 (a2 * 4) 4) (by decide) rfl rfl rfl ⟨Nat.le_of_ble_eq_true rfl, Nat.le_of_ble_eq_true rfl⟩ ⟨(Nat.le_of_ble_eq_true rfl), (Nat.le_of_ble_eq_true rfl)⟩ (Nat.le_of_ble_eq_true rfl) rfl rfl (fun r3 M4 => ?_)
  refine s_aload_n hX dX3_ofYear_14 rfl ?_
  refine s_getO hX dX3_ofYear_15 q_393 rfl (fun j5 => ?_)
  exact s_aretR hX hR dX3_ofYear_18 (Nat.le_of_ble_eq_true rfl) (Nat.le_of_ble_eq_true rfl)
abbrev rm_X3_joinYear : Room := { frames := 2, cells := 0, slots := 0, locals := 48 }
theorem k_X3_joinYear : KYV yX3_joinYear cX3_joinYear 3 none 2 := ⟨⟨q_1017, q_4, by decide +kernel, by decide +kernel, by decide +kernel⟩, q_1015, q_1016⟩
set_option maxHeartbeats 4000000 in
set_option maxRecDepth 100000 in
theorem c_X3_joinYear (n : Nat) (M0 : MemT) (a0 : Nat) (a1 : Int32) (a2 : Int32) : Ct iU yX3_joinYear cX3_joinYear 3 none rm_X3_joinYear [.ref a0, .int a1, .int a2] M0 (g_X3_joinYear n M0 a0 a1 a2) := by
  unfold g_X3_joinYear
  refine ct_intro RX3 0 [some (.ref a0), some (.int a1), some (.int a2)] rfl (by decide +kernel) rfl (Nat.le_of_ble_eq_true rfl) (fun X A hX hnm hR => ?_)
  refine s_aload_n hX dX3_joinYear_0 rfl ?_
  refine s_iload_n hX dX3_joinYear_1 rfl ?_
  refine s_iload_n hX dX3_joinYear_2 rfl ?_
  refine s_iconst (v := 4) hX dX3_joinYear_3 kc_4 ?_
  refine s_imul hX dX3_joinYear_4 ?_
  refine s_iconst (v := 4) hX dX3_joinYear_5 kc_4 ?_
  refine s_callVu (ck1 := 0) (sk1 := 0) (ci := 2) hX dX3_joinYear_6 k_X3_addQuarters q_813 (c_X3_addQuarters n M0 a0 a1 (a2 * 4) 4) (by decide) rfl rfl rfl ⟨Nat.le_of_ble_eq_true rfl, Nat.le_of_ble_eq_true rfl⟩ ⟨(Nat.le_of_ble_eq_true rfl), (Nat.le_of_ble_eq_true rfl)⟩ (Nat.le_of_ble_eq_true rfl) rfl rfl (fun r1 M2 => ?_)
  refine s_aload_n hX dX3_joinYear_9 rfl ?_
  refine s_getO hX dX3_joinYear_10 q_393 rfl (fun j3 => ?_)
  refine s_dup hX dX3_joinYear_13 rfl ?_
  refine s_getI hX dX3_joinYear_14 q_359 rfl (fun v4 => ?_)
  refine s_aload_n hX dX3_joinYear_17 rfl ?_
  refine s_getO hX dX3_joinYear_18 q_391 rfl (fun j5 => ?_)
  refine s_getO hX dX3_joinYear_21 q_310 rfl (fun j6 => ?_)
  refine s_iload_n hX dX3_joinYear_24 rfl ?_
  refine s_iald hX dX3_joinYear_25 (fun v7 => ?_)
  refine s_iadd hX dX3_joinYear_26 ?_
  refine s_putI hX dX3_joinYear_27 q_359 rfl rfl (fun M8 => ?_)
  refine s_aload_n hX dX3_joinYear_30 rfl ?_
  refine s_getO hX dX3_joinYear_31 q_393 rfl (fun j9 => ?_)
  refine s_dup hX dX3_joinYear_34 rfl ?_
  refine s_getI hX dX3_joinYear_35 q_361 rfl (fun v10 => ?_)
  refine s_aload_n hX dX3_joinYear_38 rfl ?_
  refine s_getO hX dX3_joinYear_39 q_391 rfl (fun j11 => ?_)
  refine s_getO hX dX3_joinYear_42 q_313 rfl (fun j12 => ?_)
  refine s_iload_n hX dX3_joinYear_45 rfl ?_
  refine s_iald hX dX3_joinYear_46 (fun v13 => ?_)
  refine s_iadd hX dX3_joinYear_47 ?_
  refine s_putI hX dX3_joinYear_48 q_361 rfl rfl (fun M14 => ?_)
  exact s_vret hX hR dX3_joinYear_51 (Nat.le_of_ble_eq_true rfl) (Nat.le_of_ble_eq_true rfl)
abbrev rm_J9_floorDiv_f86c9 : Room := { frames := 0, cells := 0, slots := 0, locals := 0 }
theorem k_J9_floorDiv_f86c9 : KYS yJ9_floorDiv_f86c9 cJ9_floorDiv_f86c9 6 (some .long) 2 := ⟨⟨q_834, q_10, by decide +kernel, by decide +kernel, by decide +kernel⟩, q_833⟩
set_option maxHeartbeats 4000000 in
set_option maxRecDepth 100000 in
theorem c_J9_floorDiv_f86c9 (n : Nat) (M0 : MemT) (a0 : Int64) (a1 : Int64) : Ct iJ yJ9_floorDiv_f86c9 cJ9_floorDiv_f86c9 6 (some .long) rm_J9_floorDiv_f86c9 [.long a0, .long a1] M0 (g_J9_floorDiv_f86c9 n M0 a0 a1) := by
  unfold g_J9_floorDiv_f86c9
  refine ct_intro RJ9 2 [some (.long a0), none, some (.long a1), none, none, none] rfl (by decide +kernel) rfl (Nat.le_of_ble_eq_true rfl) (fun X A hX hnm hR => ?_)
  refine s_lload_n hX dJ9_floorDiv_f86c9_0 rfl ?_
  refine s_lload_n hX dJ9_floorDiv_f86c9_1 rfl ?_
  refine s_ldiv hX dJ9_floorDiv_f86c9_2 ?_
  refine s_lstore4 hX dJ9_floorDiv_f86c9_3 (by first | exact trivial | exact rfl) (Nat.le_of_ble_eq_true rfl) ?_
  refine s_lload_n hX dJ9_floorDiv_f86c9_5 rfl ?_
  refine s_lload_n hX dJ9_floorDiv_f86c9_6 rfl ?_
  refine s_lxor hX dJ9_floorDiv_f86c9_7 ?_
  refine s_lconst (v := 0) hX dJ9_floorDiv_f86c9_8 rfl ?_
  refine s_lcmp hX dJ9_floorDiv_f86c9_9 ?_
  refine s_ifge (tgt := 27) hX dJ9_floorDiv_f86c9_10 rfl ?_ ?_
  · refine s_lload hX dJ9_floorDiv_f86c9_27 rfl ?_
    exact s_lret hX hR dJ9_floorDiv_f86c9_29 (Nat.le_of_ble_eq_true rfl) (Nat.le_of_ble_eq_true rfl)
  · refine s_lload hX dJ9_floorDiv_f86c9_13 rfl ?_
    refine s_lload_n hX dJ9_floorDiv_f86c9_15 rfl ?_
    refine s_lmul hX dJ9_floorDiv_f86c9_16 ?_
    refine s_lload_n hX dJ9_floorDiv_f86c9_17 rfl ?_
    refine s_lcmp hX dJ9_floorDiv_f86c9_18 ?_
    refine s_ifeq (tgt := 27) hX dJ9_floorDiv_f86c9_19 rfl ?_ ?_
    · refine s_lload hX dJ9_floorDiv_f86c9_27 rfl ?_
      exact s_lret hX hR dJ9_floorDiv_f86c9_29 (Nat.le_of_ble_eq_true rfl) (Nat.le_of_ble_eq_true rfl)
    · refine s_lload hX dJ9_floorDiv_f86c9_22 rfl ?_
      refine s_lconst (v := 1) hX dJ9_floorDiv_f86c9_24 rfl ?_
      refine s_lsub hX dJ9_floorDiv_f86c9_25 ?_
      exact s_lret hX hR dJ9_floorDiv_f86c9_26 (Nat.le_of_ble_eq_true rfl) (Nat.le_of_ble_eq_true rfl)
abbrev rm_X9_cut : Room := { frames := 1, cells := 0, slots := 0, locals := 25 }
theorem k_X9_cut : KYS yX9_cut cX9_cut 5 (some .long) 3 := ⟨⟨q_831, q_1, by decide +kernel, by decide +kernel, by decide +kernel⟩, q_830⟩
set_option maxHeartbeats 4000000 in
set_option maxRecDepth 100000 in
theorem c_X9_cut (n : Nat) (M0 : MemT) (a0 : Int64) (a1 : Int64) (a2 : Int32) : Ct iJ yX9_cut cX9_cut 5 (some .long) rm_X9_cut [.long a0, .long a1, .int a2] M0 (g_X9_cut n M0 a0 a1 a2) := by
  unfold g_X9_cut
  refine ct_intro RX9 0 [some (.long a0), none, some (.long a1), none, some (.int a2)] rfl (by decide +kernel) rfl (Nat.le_of_ble_eq_true rfl) (fun X A hX hnm hR => ?_)
  refine s_lload_n hX dX9_cut_0 rfl ?_
  refine s_lconst (v := 0) hX dX9_cut_1 rfl ?_
  refine s_lcmp hX dX9_cut_2 ?_
  refine s_ifgt (tgt := 8) hX dX9_cut_3 rfl ?_ ?_
  · refine s_iload hX dX9_cut_8 rfl ?_
    refine s_ifne (tgt := 19) hX dX9_cut_10 rfl ?_ ?_
    · refine s_lload_n hX dX9_cut_13 rfl ?_
      refine s_lload_n hX dX9_cut_14 rfl ?_
      refine s_callSj (ck1 := 0) (sk1 := 0) hX dX9_cut_15 k_J9_floorDiv_f86c9 q_832 (c_J9_floorDiv_f86c9 n M0 a0 a1) rfl rfl ⟨Nat.le_of_ble_eq_true rfl, Nat.le_of_ble_eq_true rfl⟩ ⟨(Nat.le_of_ble_eq_true rfl), (Nat.le_of_ble_eq_true rfl)⟩ (Nat.le_of_ble_eq_true rfl) rfl rfl (fun r1 M2 => ?_)
      exact s_lret hX hR dX9_cut_18 (Nat.le_of_ble_eq_true rfl) (Nat.le_of_ble_eq_true rfl)
    · refine s_iload hX dX9_cut_19 rfl ?_
      refine s_iconst (v := 1) hX dX9_cut_21 kc_1 ?_
      refine s_icne (tgt := 33) hX dX9_cut_22 rfl ?_ ?_
      · refine s_lload_n hX dX9_cut_25 rfl ?_
        refine s_lneg hX dX9_cut_26 ?_
        refine s_lload_n hX dX9_cut_27 rfl ?_
        refine s_callSj (ck1 := 0) (sk1 := 0) hX dX9_cut_28 k_J9_floorDiv_f86c9 q_832 (c_J9_floorDiv_f86c9 n M0 (-a0) a1) rfl rfl ⟨Nat.le_of_ble_eq_true rfl, Nat.le_of_ble_eq_true rfl⟩ ⟨(Nat.le_of_ble_eq_true rfl), (Nat.le_of_ble_eq_true rfl)⟩ (Nat.le_of_ble_eq_true rfl) rfl rfl (fun r3 M4 => ?_)
        refine s_lneg hX dX9_cut_31 ?_
        exact s_lret hX hR dX9_cut_32 (Nat.le_of_ble_eq_true rfl) (Nat.le_of_ble_eq_true rfl)
      · refine s_ldc2 hX dX9_cut_33 q_835 ?_
        refine s_lload_n hX dX9_cut_36 rfl ?_
        refine s_lmul hX dX9_cut_37 ?_
        refine s_lload_n hX dX9_cut_38 rfl ?_
        refine s_ladd hX dX9_cut_39 ?_
        refine s_ldc2 hX dX9_cut_40 q_835 ?_
        refine s_lload_n hX dX9_cut_43 rfl ?_
        refine s_lmul hX dX9_cut_44 ?_
        refine s_callSj (ck1 := 0) (sk1 := 0) hX dX9_cut_45 k_J9_floorDiv_f86c9 q_832 (c_J9_floorDiv_f86c9 n M0 ((2 * a0) + a1) (2 * a1)) rfl rfl ⟨Nat.le_of_ble_eq_true rfl, Nat.le_of_ble_eq_true rfl⟩ ⟨(Nat.le_of_ble_eq_true rfl), (Nat.le_of_ble_eq_true rfl)⟩ (Nat.le_of_ble_eq_true rfl) rfl rfl (fun r5 M6 => ?_)
        exact s_lret hX hR dX9_cut_48 (Nat.le_of_ble_eq_true rfl) (Nat.le_of_ble_eq_true rfl)
  · refine s_lconst (v := 0) hX dX9_cut_6 rfl ?_
    exact s_lret hX hR dX9_cut_7 (Nat.le_of_ble_eq_true rfl) (Nat.le_of_ble_eq_true rfl)
abbrev rm_X6_fractionOf : Room := { frames := 2, cells := 0, slots := 0, locals := 49 }
theorem k_X6_fractionOf : KYV yX6_fractionOf cX6_fractionOf 5 (some .int) 2 := ⟨⟨q_828, q_7, by decide +kernel, by decide +kernel, by decide +kernel⟩, q_827, p_28⟩
set_option maxHeartbeats 4000000 in
set_option maxRecDepth 100000 in
theorem c_X6_fractionOf (n : Nat) (M0 : MemT) (a0 : Nat) (a1 : Int64) (a2 : Int64) : Ct iI yX6_fractionOf cX6_fractionOf 5 (some .int) rm_X6_fractionOf [.ref a0, .long a1, .long a2] M0 (g_X6_fractionOf n M0 a0 a1 a2) := by
  unfold g_X6_fractionOf
  refine ct_intro RX6 0 [some (.ref a0), some (.long a1), none, some (.long a2), none] rfl (by decide +kernel) rfl (Nat.le_of_ble_eq_true rfl) (fun X A hX hnm hR => ?_)
  refine s_lload_n hX dX6_fractionOf_0 rfl ?_
  refine s_lconst (v := 0) hX dX6_fractionOf_1 rfl ?_
  refine s_lcmp hX dX6_fractionOf_2 ?_
  refine s_ifne (tgt := 13) hX dX6_fractionOf_3 rfl ?_ ?_
  · refine s_aload_n hX dX6_fractionOf_6 rfl ?_
    refine s_getI hX dX6_fractionOf_7 q_368 rfl (fun v1 => ?_)
    refine s_goto (tgt := 29) hX dX6_fractionOf_10 rfl ?_
    exact s_iret hX hR dX6_fractionOf_29 (Nat.le_of_ble_eq_true rfl) (Nat.le_of_ble_eq_true rfl)
  · refine s_aload_n hX dX6_fractionOf_13 rfl ?_
    refine s_getI hX dX6_fractionOf_14 q_368 rfl (fun v2 => ?_)
    refine s_i2l hX dX6_fractionOf_17 ?_
    refine s_lload_n hX dX6_fractionOf_18 rfl ?_
    refine s_lmul hX dX6_fractionOf_19 ?_
    refine s_lload_n hX dX6_fractionOf_20 rfl ?_
    refine s_aload_n hX dX6_fractionOf_21 rfl ?_
    refine s_getI hX dX6_fractionOf_22 q_362 rfl (fun v3 => ?_)
    refine s_callSNj (ck1 := 0) (sk1 := 0) hX dX6_fractionOf_25 k_X9_cut nx_829 (c_X9_cut n M0 ((Int32.toInt64 v2) * a1) a2 v3) rfl rfl ⟨Nat.le_of_ble_eq_true rfl, Nat.le_of_ble_eq_true rfl⟩ ⟨(Nat.le_of_ble_eq_true rfl), (Nat.le_of_ble_eq_true rfl)⟩ (Nat.le_of_ble_eq_true rfl) rfl rfl (fun r4 M5 => ?_)
    refine s_l2i hX dX6_fractionOf_28 ?_
    exact s_iret hX hR dX6_fractionOf_29 (Nat.le_of_ble_eq_true rfl) (Nat.le_of_ble_eq_true rfl)
abbrev rm_X6_fraction : Room := { frames := 3, cells := 0, slots := 0, locals := 73 }
theorem k_X6_fraction : KYV yX6_fraction cX6_fraction 1 (some .int) 0 := ⟨⟨q_824, q_7, by decide +kernel, by decide +kernel, by decide +kernel⟩, q_822, q_823⟩
set_option maxHeartbeats 4000000 in
set_option maxRecDepth 100000 in
theorem c_X6_fraction (n : Nat) (M0 : MemT) (a0 : Nat) : Ct iI yX6_fraction cX6_fraction 1 (some .int) rm_X6_fraction [.ref a0] M0 (g_X6_fraction n M0 a0) := by
  unfold g_X6_fraction
  refine ct_intro RX6 0 [some (.ref a0)] rfl (by decide +kernel) rfl (Nat.le_of_ble_eq_true rfl) (fun X A hX hnm hR => ?_)
  refine s_aload_n hX dX6_fraction_0 rfl ?_
  refine s_getI hX dX6_fraction_1 q_365 rfl (fun v1 => ?_)
  refine s_ifne (tgt := 31) hX dX6_fraction_4 rfl ?_ ?_
  · refine s_aload_n hX dX6_fraction_7 rfl ?_
    refine s_aload_n hX dX6_fraction_8 rfl ?_
    refine s_getO hX dX6_fraction_9 q_355 rfl (fun j2 => ?_)
    refine s_iconst (v := 0) hX dX6_fraction_12 kc_0 ?_
    refine s_lald hX dX6_fraction_13 (fun v3 => ?_)
    refine s_aload_n hX dX6_fraction_14 rfl ?_
    refine s_getO hX dX6_fraction_15 q_355 rfl (fun j4 => ?_)
    refine s_iconst (v := 0) hX dX6_fraction_18 kc_0 ?_
    refine s_lald hX dX6_fraction_19 (fun v5 => ?_)
    refine s_aload_n hX dX6_fraction_20 rfl ?_
    refine s_getO hX dX6_fraction_21 q_355 rfl (fun j6 => ?_)
    refine s_iconst (v := 1) hX dX6_fraction_24 kc_1 ?_
    refine s_lald hX dX6_fraction_25 (fun v7 => ?_)
    refine s_ladd hX dX6_fraction_26 ?_
    refine s_callVi (ck1 := 0) (sk1 := 0) (ci := 5) hX dX6_fraction_27 k_X6_fractionOf q_825 (c_X6_fractionOf n M0 a0 v3 (v5 + v7)) (by decide) rfl rfl rfl ⟨Nat.le_of_ble_eq_true rfl, Nat.le_of_ble_eq_true rfl⟩ ⟨(Nat.le_of_ble_eq_true rfl), (Nat.le_of_ble_eq_true rfl)⟩ (Nat.le_of_ble_eq_true rfl) rfl rfl (fun r8 M9 => ?_)
    exact s_iret hX hR dX6_fraction_30 (Nat.le_of_ble_eq_true rfl) (Nat.le_of_ble_eq_true rfl)
  · refine s_aload_n hX dX6_fraction_31 rfl ?_
    refine s_getI hX dX6_fraction_32 q_365 rfl (fun v10 => ?_)
    refine s_iconst (v := 1) hX dX6_fraction_35 kc_1 ?_
    refine s_icne (tgt := 63) hX dX6_fraction_36 rfl ?_ ?_
    · refine s_aload_n hX dX6_fraction_39 rfl ?_
      refine s_aload_n hX dX6_fraction_40 rfl ?_
      refine s_getO hX dX6_fraction_41 q_355 rfl (fun j11 => ?_)
      refine s_iconst (v := 2) hX dX6_fraction_44 kc_2 ?_
      refine s_lald hX dX6_fraction_45 (fun v12 => ?_)
      refine s_aload_n hX dX6_fraction_46 rfl ?_
      refine s_getO hX dX6_fraction_47 q_355 rfl (fun j13 => ?_)
      refine s_iconst (v := 2) hX dX6_fraction_50 kc_2 ?_
      refine s_lald hX dX6_fraction_51 (fun v14 => ?_)
      refine s_aload_n hX dX6_fraction_52 rfl ?_
      refine s_getO hX dX6_fraction_53 q_355 rfl (fun j15 => ?_)
      refine s_iconst (v := 3) hX dX6_fraction_56 kc_3 ?_
      refine s_lald hX dX6_fraction_57 (fun v16 => ?_)
      refine s_ladd hX dX6_fraction_58 ?_
      refine s_callVi (ck1 := 0) (sk1 := 0) (ci := 5) hX dX6_fraction_59 k_X6_fractionOf q_825 (c_X6_fractionOf n M0 a0 v12 (v14 + v16)) (by decide) rfl rfl rfl ⟨Nat.le_of_ble_eq_true rfl, Nat.le_of_ble_eq_true rfl⟩ ⟨(Nat.le_of_ble_eq_true rfl), (Nat.le_of_ble_eq_true rfl)⟩ (Nat.le_of_ble_eq_true rfl) rfl rfl (fun r17 M18 => ?_)
      exact s_iret hX hR dX6_fraction_62 (Nat.le_of_ble_eq_true rfl) (Nat.le_of_ble_eq_true rfl)
    · refine s_aload_n hX dX6_fraction_63 rfl ?_
      refine s_aload_n hX dX6_fraction_64 rfl ?_
      refine s_getI hX dX6_fraction_65 q_358 rfl (fun v19 => ?_)
      refine s_i2l hX dX6_fraction_68 ?_
      refine s_aload_n hX dX6_fraction_69 rfl ?_
      refine s_getI hX dX6_fraction_70 q_360 rfl (fun v20 => ?_)
      refine s_i2l hX dX6_fraction_73 ?_
      refine s_callVi (ck1 := 0) (sk1 := 0) (ci := 5) hX dX6_fraction_74 k_X6_fractionOf q_825 (c_X6_fractionOf n M0 a0 (Int32.toInt64 v19) (Int32.toInt64 v20)) (by decide) rfl rfl rfl ⟨Nat.le_of_ble_eq_true rfl, Nat.le_of_ble_eq_true rfl⟩ ⟨(Nat.le_of_ble_eq_true rfl), (Nat.le_of_ble_eq_true rfl)⟩ (Nat.le_of_ble_eq_true rfl) rfl rfl (fun r21 M22 => ?_)
      exact s_iret hX hR dX6_fraction_77 (Nat.le_of_ble_eq_true rfl) (Nat.le_of_ble_eq_true rfl)
abbrev rm_X3_annualFraction : Room := { frames := 4, cells := 0, slots := 0, locals := 93 }
theorem k_X3_annualFraction : KYV yX3_annualFraction cX3_annualFraction 3 (some .int) 2 := ⟨⟨q_950, q_4, by decide +kernel, by decide +kernel, by decide +kernel⟩, q_948, q_949⟩
set_option maxHeartbeats 4000000 in
set_option maxRecDepth 100000 in
theorem c_X3_annualFraction (n : Nat) (M0 : MemT) (a0 : Nat) (a1 : Int32) (a2 : Int32) : Ct iI yX3_annualFraction cX3_annualFraction 3 (some .int) rm_X3_annualFraction [.ref a0, .int a1, .int a2] M0 (g_X3_annualFraction n M0 a0 a1 a2) := by
  unfold g_X3_annualFraction
  refine ct_intro RX3 0 [some (.ref a0), some (.int a1), some (.int a2)] rfl (by decide +kernel) rfl (Nat.le_of_ble_eq_true rfl) (fun X A hX hnm hR => ?_)
  refine s_iload_n hX dX3_annualFraction_0 rfl ?_
  refine s_aload_n hX dX3_annualFraction_1 rfl ?_
  refine s_callVi (ck1 := 0) (sk1 := 0) (ci := 2) hX dX3_annualFraction_2 k_X3_thisYear q_865 (c_X3_thisYear n M0 a0) (by decide) rfl rfl rfl ⟨Nat.le_of_ble_eq_true rfl, Nat.le_of_ble_eq_true rfl⟩ ⟨(Nat.le_of_ble_eq_true rfl), (Nat.le_of_ble_eq_true rfl)⟩ (Nat.le_of_ble_eq_true rfl) rfl rfl (fun r1 M2 => ?_)
  refine s_icge (tgt := 18) hX dX3_annualFraction_5 rfl ?_ ?_
  · refine s_aload_n hX dX3_annualFraction_18 rfl ?_
    refine s_iload_n hX dX3_annualFraction_19 rfl ?_
    refine s_iload_n hX dX3_annualFraction_20 rfl ?_
    refine s_callVr (ck1 := 0) (sk1 := 0) (ci := 2) hX dX3_annualFraction_21 k_X3_ofYear q_869 (c_X3_ofYear n M2 a0 a1 a2) (by decide) rfl rfl rfl ⟨Nat.le_of_ble_eq_true rfl, Nat.le_of_ble_eq_true rfl⟩ ⟨(Nat.le_of_ble_eq_true rfl), (Nat.le_of_ble_eq_true rfl)⟩ (Nat.le_of_ble_eq_true rfl) rfl rfl (fun r6 M7 => ?_)
    refine s_callVi (ck1 := 0) (sk1 := 0) (ci := 5) hX dX3_annualFraction_24 k_X6_fraction q_821 (c_X6_fraction n M7 r6) (by decide) rfl rfl rfl ⟨Nat.le_of_ble_eq_true rfl, Nat.le_of_ble_eq_true rfl⟩ ⟨(Nat.le_of_ble_eq_true rfl), (Nat.le_of_ble_eq_true rfl)⟩ (Nat.le_of_ble_eq_true rfl) rfl rfl (fun r8 M9 => ?_)
    exact s_iret hX hR dX3_annualFraction_27 (Nat.le_of_ble_eq_true rfl) (Nat.le_of_ble_eq_true rfl)
  · refine s_aload_n hX dX3_annualFraction_8 rfl ?_
    refine s_getO hX dX3_annualFraction_9 q_391 rfl (fun j3 => ?_)
    refine s_iload_n hX dX3_annualFraction_12 rfl ?_
    refine s_iload_n hX dX3_annualFraction_13 rfl ?_
    refine s_callVi (ck1 := 0) (sk1 := 0) (ci := 1) hX dX3_annualFraction_14 k_X2_keptAnnual q_800 (c_X2_keptAnnual n M2 j3 a1 a2) (by decide) rfl rfl rfl ⟨Nat.le_of_ble_eq_true rfl, Nat.le_of_ble_eq_true rfl⟩ ⟨(Nat.le_of_ble_eq_true rfl), (Nat.le_of_ble_eq_true rfl)⟩ (Nat.le_of_ble_eq_true rfl) rfl rfl (fun r4 M5 => ?_)
    exact s_iret hX hR dX3_annualFraction_17 (Nat.le_of_ble_eq_true rfl) (Nat.le_of_ble_eq_true rfl)
abbrev rm_X6_allTax : Room := { frames := 0, cells := 0, slots := 0, locals := 0 }
theorem k_X6_allTax : KYV yX6_allTax cX6_allTax 1 (some .long) 0 := ⟨⟨q_852, q_7, by decide +kernel, by decide +kernel, by decide +kernel⟩, q_851, p_31⟩
set_option maxHeartbeats 4000000 in
set_option maxRecDepth 100000 in
theorem c_X6_allTax (n : Nat) (M0 : MemT) (a0 : Nat) : Ct iJ yX6_allTax cX6_allTax 1 (some .long) rm_X6_allTax [.ref a0] M0 (g_X6_allTax n M0 a0) := by
  unfold g_X6_allTax
  refine ct_intro RX6 0 [some (.ref a0)] rfl (by decide +kernel) rfl (Nat.le_of_ble_eq_true rfl) (fun X A hX hnm hR => ?_)
  refine s_aload_n hX dX6_allTax_0 rfl ?_
  refine s_getO hX dX6_allTax_1 q_355 rfl (fun j1 => ?_)
  refine s_iconst (v := 2) hX dX6_allTax_4 kc_2 ?_
  refine s_lald hX dX6_allTax_5 (fun v2 => ?_)
  refine s_aload_n hX dX6_allTax_6 rfl ?_
  refine s_getO hX dX6_allTax_7 q_355 rfl (fun j3 => ?_)
  refine s_iconst (v := 3) hX dX6_allTax_10 kc_3 ?_
  refine s_lald hX dX6_allTax_11 (fun v4 => ?_)
  refine s_ladd hX dX6_allTax_12 ?_
  refine s_aload_n hX dX6_allTax_13 rfl ?_
  refine s_getO hX dX6_allTax_14 q_355 rfl (fun j5 => ?_)
  refine s_iconst (v := 4) hX dX6_allTax_17 kc_4 ?_
  refine s_lald hX dX6_allTax_18 (fun v6 => ?_)
  refine s_ladd hX dX6_allTax_19 ?_
  exact s_lret hX hR dX6_allTax_20 (Nat.le_of_ble_eq_true rfl) (Nat.le_of_ble_eq_true rfl)
abbrev rm_X6_isSmallLeft : Room := { frames := 1, cells := 0, slots := 0, locals := 20 }
theorem k_X6_isSmallLeft : KYV yX6_isSmallLeft cX6_isSmallLeft 3 (some .boolean) 1 := ⟨⟨q_847, q_7, by decide +kernel, by decide +kernel, by decide +kernel⟩, q_846, p_30⟩
set_option maxHeartbeats 4000000 in
set_option maxRecDepth 100000 in
theorem c_X6_isSmallLeft (n : Nat) (M0 : MemT) (a0 : Nat) (a1 : Int64) : Ct iI yX6_isSmallLeft cX6_isSmallLeft 3 (some .boolean) rm_X6_isSmallLeft [.ref a0, .long a1] M0 (g_X6_isSmallLeft n M0 a0 a1) := by
  unfold g_X6_isSmallLeft
  refine ct_intro RX6 0 [some (.ref a0), some (.long a1), none] rfl (by decide +kernel) rfl (Nat.le_of_ble_eq_true rfl) (fun X A hX hnm hR => ?_)
  refine s_lload_n hX dX6_isSmallLeft_0 rfl ?_
  refine s_aload_n hX dX6_isSmallLeft_1 rfl ?_
  refine s_getI hX dX6_isSmallLeft_2 q_372 rfl (fun v1 => ?_)
  refine s_i2l hX dX6_isSmallLeft_5 ?_
  refine s_lcmp hX dX6_isSmallLeft_6 ?_
  refine s_ifgt (tgt := 27) hX dX6_isSmallLeft_7 rfl ?_ ?_
  · refine s_iconst (v := 0) hX dX6_isSmallLeft_27 kc_0 ?_
    exact s_zret hX hR dX6_isSmallLeft_28 (Nat.le_of_ble_eq_true rfl) (Nat.le_of_ble_eq_true rfl)
  · refine s_ldc2 hX dX6_isSmallLeft_10 q_848 ?_
    refine s_lload_n hX dX6_isSmallLeft_13 rfl ?_
    refine s_lmul hX dX6_isSmallLeft_14 ?_
    refine s_aload_n hX dX6_isSmallLeft_15 rfl ?_
    refine s_callVj (ck1 := 0) (sk1 := 0) (ci := 5) hX dX6_isSmallLeft_16 k_X6_allTax q_849 (c_X6_allTax n M0 a0) (by decide) rfl rfl rfl ⟨Nat.le_of_ble_eq_true rfl, Nat.le_of_ble_eq_true rfl⟩ ⟨(Nat.le_of_ble_eq_true rfl), (Nat.le_of_ble_eq_true rfl)⟩ (Nat.le_of_ble_eq_true rfl) rfl rfl (fun r2 M3 => ?_)
    refine s_lcmp hX dX6_isSmallLeft_19 ?_
    refine s_ifgt (tgt := 27) hX dX6_isSmallLeft_20 rfl ?_ ?_
    · refine s_iconst (v := 0) hX dX6_isSmallLeft_27 kc_0 ?_
      exact s_zret hX hR dX6_isSmallLeft_28 (Nat.le_of_ble_eq_true rfl) (Nat.le_of_ble_eq_true rfl)
    · refine s_iconst (v := 1) hX dX6_isSmallLeft_23 kc_1 ?_
      refine s_goto (tgt := 28) hX dX6_isSmallLeft_24 rfl ?_
      exact s_zret hX hR dX6_isSmallLeft_28 (Nat.le_of_ble_eq_true rfl) (Nat.le_of_ble_eq_true rfl)
abbrev rm_X6_leftBy : Room := { frames := 2, cells := 0, slots := 0, locals := 49 }
theorem k_X6_leftBy : KYV yX6_leftBy cX6_leftBy 4 (some .long) 1 := ⟨⟨q_843, q_7, by decide +kernel, by decide +kernel, by decide +kernel⟩, q_842, p_29⟩
set_option maxHeartbeats 4000000 in
set_option maxRecDepth 100000 in
theorem c_X6_leftBy (n : Nat) (M0 : MemT) (a0 : Nat) (a1 : Int32) : Ct iJ yX6_leftBy cX6_leftBy 4 (some .long) rm_X6_leftBy [.ref a0, .int a1] M0 (g_X6_leftBy n M0 a0 a1) := by
  unfold g_X6_leftBy
  refine ct_intro RX6 2 [some (.ref a0), some (.int a1), none, none] rfl (by decide +kernel) rfl (Nat.le_of_ble_eq_true rfl) (fun X A hX hnm hR => ?_)
  refine s_aload_n hX dX6_leftBy_0 rfl ?_
  refine s_getO hX dX6_leftBy_1 q_355 rfl (fun j1 => ?_)
  refine s_iconst (v := 4) hX dX6_leftBy_4 kc_4 ?_
  refine s_lald hX dX6_leftBy_5 (fun v2 => ?_)
  refine s_lstore2 hX dX6_leftBy_6 (by first | exact trivial | exact rfl) (Nat.le_of_ble_eq_true rfl) ?_
  refine s_aload_n hX dX6_leftBy_7 rfl ?_
  refine s_getO hX dX6_leftBy_8 q_355 rfl (fun j3 => ?_)
  refine s_iconst (v := 3) hX dX6_leftBy_11 kc_3 ?_
  refine s_lald hX dX6_leftBy_12 (fun v4 => ?_)
  refine s_lload_n hX dX6_leftBy_13 rfl ?_
  refine s_ladd hX dX6_leftBy_14 ?_
  refine s_lload_n hX dX6_leftBy_15 rfl ?_
  refine s_iload_n hX dX6_leftBy_16 rfl ?_
  refine s_i2l hX dX6_leftBy_17 ?_
  refine s_lmul hX dX6_leftBy_18 ?_
  refine s_aload_n hX dX6_leftBy_19 rfl ?_
  refine s_getI hX dX6_leftBy_20 q_368 rfl (fun v5 => ?_)
  refine s_i2l hX dX6_leftBy_23 ?_
  refine s_aload_n hX dX6_leftBy_24 rfl ?_
  refine s_getI hX dX6_leftBy_25 q_362 rfl (fun v6 => ?_)
  refine s_callSNj (ck1 := 0) (sk1 := 0) hX dX6_leftBy_28 k_X9_cut nx_829 (c_X9_cut n M0 (v2 * (Int32.toInt64 a1)) (Int32.toInt64 v5) v6) rfl rfl ⟨Nat.le_of_ble_eq_true rfl, Nat.le_of_ble_eq_true rfl⟩ ⟨(Nat.le_of_ble_eq_true rfl), (Nat.le_of_ble_eq_true rfl)⟩ (Nat.le_of_ble_eq_true rfl) rfl rfl (fun r7 M8 => ?_)
  refine s_lsub hX dX6_leftBy_31 ?_
  exact s_lret hX hR dX6_leftBy_32 (Nat.le_of_ble_eq_true rfl) (Nat.le_of_ble_eq_true rfl)
abbrev rm_X6_backBy : Room := { frames := 3, cells := 0, slots := 0, locals := 72 }
theorem k_X6_backBy : KYV yX6_backBy cX6_backBy 4 (some .int) 1 := ⟨⟨q_839, q_7, by decide +kernel, by decide +kernel, by decide +kernel⟩, q_837, q_838⟩
set_option maxHeartbeats 4000000 in
set_option maxRecDepth 100000 in
theorem c_X6_backBy (n : Nat) (M0 : MemT) (a0 : Nat) (a1 : Int32) : Ct iI yX6_backBy cX6_backBy 4 (some .int) rm_X6_backBy [.ref a0, .int a1] M0 (g_X6_backBy n M0 a0 a1) := by
  unfold g_X6_backBy
  refine ct_intro RX6 2 [some (.ref a0), some (.int a1), none, none] rfl (by decide +kernel) rfl (Nat.le_of_ble_eq_true rfl) (fun X A hX hnm hR => ?_)
  refine s_aload_n hX dX6_backBy_0 rfl ?_
  refine s_iload_n hX dX6_backBy_1 rfl ?_
  refine s_callVj (ck1 := 0) (sk1 := 0) (ci := 5) hX dX6_backBy_2 k_X6_leftBy q_840 (c_X6_leftBy n M0 a0 a1) (by decide) rfl rfl rfl ⟨Nat.le_of_ble_eq_true rfl, Nat.le_of_ble_eq_true rfl⟩ ⟨(Nat.le_of_ble_eq_true rfl), (Nat.le_of_ble_eq_true rfl)⟩ (Nat.le_of_ble_eq_true rfl) rfl rfl (fun r1 M2 => ?_)
  refine s_lstore2 hX dX6_backBy_5 (by first | exact trivial | exact rfl) (Nat.le_of_ble_eq_true rfl) ?_
  refine s_aload_n hX dX6_backBy_6 rfl ?_
  refine s_lload_n hX dX6_backBy_7 rfl ?_
  refine s_callVi (ck1 := 0) (sk1 := 0) (ci := 5) hX dX6_backBy_8 k_X6_isSmallLeft q_844 (c_X6_isSmallLeft n M2 a0 r1) (by decide) rfl rfl rfl ⟨Nat.le_of_ble_eq_true rfl, Nat.le_of_ble_eq_true rfl⟩ ⟨(Nat.le_of_ble_eq_true rfl), (Nat.le_of_ble_eq_true rfl)⟩ (Nat.le_of_ble_eq_true rfl) rfl rfl (fun r3 M4 => ?_)
  refine s_ifeq (tgt := 21) hX dX6_backBy_11 rfl ?_ ?_
  · refine s_aload_n hX dX6_backBy_21 rfl ?_
    refine s_callVj (ck1 := 0) (sk1 := 0) (ci := 5) hX dX6_backBy_22 k_X6_allTax q_849 (c_X6_allTax n M4 a0) (by decide) rfl rfl rfl ⟨Nat.le_of_ble_eq_true rfl, Nat.le_of_ble_eq_true rfl⟩ ⟨(Nat.le_of_ble_eq_true rfl), (Nat.le_of_ble_eq_true rfl)⟩ (Nat.le_of_ble_eq_true rfl) rfl rfl (fun r7 M8 => ?_)
    refine s_lload_n hX dX6_backBy_25 rfl ?_
    refine s_lsub hX dX6_backBy_26 ?_
    refine s_l2i hX dX6_backBy_27 ?_
    exact s_iret hX hR dX6_backBy_28 (Nat.le_of_ble_eq_true rfl) (Nat.le_of_ble_eq_true rfl)
  · refine s_aload_n hX dX6_backBy_14 rfl ?_
    refine s_callVj (ck1 := 0) (sk1 := 0) (ci := 5) hX dX6_backBy_15 k_X6_allTax q_849 (c_X6_allTax n M4 a0) (by decide) rfl rfl rfl ⟨Nat.le_of_ble_eq_true rfl, Nat.le_of_ble_eq_true rfl⟩ ⟨(Nat.le_of_ble_eq_true rfl), (Nat.le_of_ble_eq_true rfl)⟩ (Nat.le_of_ble_eq_true rfl) rfl rfl (fun r5 M6 => ?_)
    refine s_goto (tgt := 27) hX dX6_backBy_18 rfl ?_
    refine s_l2i hX dX6_backBy_27 ?_
    exact s_iret hX hR dX6_backBy_28 (Nat.le_of_ble_eq_true rfl) (Nat.le_of_ble_eq_true rfl)
abbrev rm_X3_yearBack : Room := { frames := 5, cells := 0, slots := 0, locals := 115 }
theorem k_X3_yearBack : KYV yX3_yearBack cX3_yearBack 4 (some .int) 2 := ⟨⟨q_964, q_4, by decide +kernel, by decide +kernel, by decide +kernel⟩, q_962, q_963⟩
set_option maxHeartbeats 4000000 in
set_option maxRecDepth 100000 in
theorem c_X3_yearBack (n : Nat) (M0 : MemT) (a0 : Nat) (a1 : Int32) (a2 : Int32) : Ct iI yX3_yearBack cX3_yearBack 4 (some .int) rm_X3_yearBack [.ref a0, .int a1, .int a2] M0 (g_X3_yearBack n M0 a0 a1 a2) := by
  unfold g_X3_yearBack
  refine ct_intro RX3 1 [some (.ref a0), some (.int a1), some (.int a2), none] rfl (by decide +kernel) rfl (Nat.le_of_ble_eq_true rfl) (fun X A hX hnm hR => ?_)
  refine s_aload_n hX dX3_yearBack_0 rfl ?_
  refine s_iload_n hX dX3_yearBack_1 rfl ?_
  refine s_iload_n hX dX3_yearBack_2 rfl ?_
  refine s_callVi (ck1 := 0) (sk1 := 0) (ci := 2) hX dX3_yearBack_3 k_X3_annualFraction q_965 (c_X3_annualFraction n M0 a0 a1 a2) (by decide) rfl rfl rfl ⟨Nat.le_of_ble_eq_true rfl, Nat.le_of_ble_eq_true rfl⟩ ⟨(Nat.le_of_ble_eq_true rfl), (Nat.le_of_ble_eq_true rfl)⟩ (Nat.le_of_ble_eq_true rfl) rfl rfl (fun r1 M2 => ?_)
  refine s_istore3 hX dX3_yearBack_6 (by first | exact trivial | exact rfl) (Nat.le_of_ble_eq_true rfl) ?_
  refine s_aload_n hX dX3_yearBack_7 rfl ?_
  refine s_iload_n hX dX3_yearBack_8 rfl ?_
  refine s_iload_n hX dX3_yearBack_9 rfl ?_
  refine s_callVr (ck1 := 0) (sk1 := 0) (ci := 2) hX dX3_yearBack_10 k_X3_ofYear q_869 (c_X3_ofYear n M2 a0 a1 a2) (by decide) rfl rfl rfl ⟨Nat.le_of_ble_eq_true rfl, Nat.le_of_ble_eq_true rfl⟩ ⟨(Nat.le_of_ble_eq_true rfl), (Nat.le_of_ble_eq_true rfl)⟩ (Nat.le_of_ble_eq_true rfl) rfl rfl (fun r3 M4 => ?_)
  refine s_iload_n hX dX3_yearBack_13 rfl ?_
  refine s_callVi (ck1 := 0) (sk1 := 0) (ci := 5) hX dX3_yearBack_14 k_X6_backBy q_836 (c_X6_backBy n M4 r3 r1) (by decide) rfl rfl rfl ⟨Nat.le_of_ble_eq_true rfl, Nat.le_of_ble_eq_true rfl⟩ ⟨(Nat.le_of_ble_eq_true rfl), (Nat.le_of_ble_eq_true rfl)⟩ (Nat.le_of_ble_eq_true rfl) rfl rfl (fun r5 M6 => ?_)
  exact s_iret hX hR dX3_yearBack_17 (Nat.le_of_ble_eq_true rfl) (Nat.le_of_ble_eq_true rfl)
abbrev rm_X3_trued : Room := { frames := 6, cells := 0, slots := 0, locals := 138 }
theorem k_X3_trued : KYV yX3_trued cX3_trued 3 (some .int) 2 := ⟨⟨q_960, q_4, by decide +kernel, by decide +kernel, by decide +kernel⟩, q_958, q_959⟩
set_option maxHeartbeats 4000000 in
set_option maxRecDepth 100000 in
theorem c_X3_trued (n : Nat) (M0 : MemT) (a0 : Nat) (a1 : Int32) (a2 : Int32) : Ct iI yX3_trued cX3_trued 3 (some .int) rm_X3_trued [.ref a0, .int a1, .int a2] M0 (g_X3_trued n M0 a0 a1 a2) := by
  unfold g_X3_trued
  refine ct_intro RX3 0 [some (.ref a0), some (.int a1), some (.int a2)] rfl (by decide +kernel) rfl (Nat.le_of_ble_eq_true rfl) (fun X A hX hnm hR => ?_)
  refine s_aload_n hX dX3_trued_0 rfl ?_
  refine s_iload_n hX dX3_trued_1 rfl ?_
  refine s_iload_n hX dX3_trued_2 rfl ?_
  refine s_callVi (ck1 := 0) (sk1 := 0) (ci := 2) hX dX3_trued_3 k_X3_yearBack q_961 (c_X3_yearBack n M0 a0 a1 a2) (by decide) rfl rfl rfl ⟨Nat.le_of_ble_eq_true rfl, Nat.le_of_ble_eq_true rfl⟩ ⟨(Nat.le_of_ble_eq_true rfl), (Nat.le_of_ble_eq_true rfl)⟩ (Nat.le_of_ble_eq_true rfl) rfl rfl (fun r1 M2 => ?_)
  refine s_aload_n hX dX3_trued_6 rfl ?_
  refine s_getO hX dX3_trued_7 q_391 rfl (fun j3 => ?_)
  refine s_iload_n hX dX3_trued_10 rfl ?_
  refine s_iload_n hX dX3_trued_11 rfl ?_
  refine s_callVi (ck1 := 0) (sk1 := 0) (ci := 1) hX dX3_trued_12 k_X2_recoveredInYear q_877 (c_X2_recoveredInYear n M2 j3 a1 a2) (by decide) rfl rfl rfl ⟨Nat.le_of_ble_eq_true rfl, Nat.le_of_ble_eq_true rfl⟩ ⟨(Nat.le_of_ble_eq_true rfl), (Nat.le_of_ble_eq_true rfl)⟩ (Nat.le_of_ble_eq_true rfl) rfl rfl (fun r4 M5 => ?_)
  refine s_isub hX dX3_trued_15 ?_
  exact s_iret hX hR dX3_trued_16 (Nat.le_of_ble_eq_true rfl) (Nat.le_of_ble_eq_true rfl)
abbrev rm_X3_fractionByBasis : Room := { frames := 4, cells := 0, slots := 0, locals := 93 }
theorem k_X3_fractionByBasis : KYV yX3_fractionByBasis cX3_fractionByBasis 5 (some .int) 3 := ⟨⟨q_799, q_4, by decide +kernel, by decide +kernel, by decide +kernel⟩, q_797, q_798⟩
set_option maxHeartbeats 4000000 in
set_option maxRecDepth 100000 in
theorem c_X3_fractionByBasis (n : Nat) (M0 : MemT) (a0 : Nat) (a1 : Int32) (a2 : Int32) (a3 : Int32) : Ct iI yX3_fractionByBasis cX3_fractionByBasis 5 (some .int) rm_X3_fractionByBasis [.ref a0, .int a1, .int a2, .int a3] M0 (g_X3_fractionByBasis n M0 a0 a1 a2 a3) := by
  unfold g_X3_fractionByBasis
  refine ct_intro RX3 1 [some (.ref a0), some (.int a1), some (.int a2), some (.int a3), none] rfl (by decide +kernel) rfl (Nat.le_of_ble_eq_true rfl) (fun X A hX hnm hR => ?_)
  refine s_iload_n hX dX3_fractionByBasis_0 rfl ?_
  refine s_iconst (v := 4) hX dX3_fractionByBasis_1 kc_4 ?_
  refine s_idiv hX dX3_fractionByBasis_2 ?_
  refine s_istore4 hX dX3_fractionByBasis_3 (by first | exact trivial | exact rfl) (Nat.le_of_ble_eq_true rfl) ?_
  refine s_iload_n hX dX3_fractionByBasis_5 rfl ?_
  refine s_iconst (v := 1) hX dX3_fractionByBasis_6 kc_1 ?_
  refine s_jp (fun (s : MemT) => [some (.ref a0), some (.int a1), some (.int a2), some (.int a3), some (.int (a2 / 4))]) (fun (s : MemT) => []) (fun (s : MemT) => s) 0 0 28 (fun s => ?_) (fun K1 hK1 => ?_)
  · revert s
    intro M2
    try dsimp only
    refine s_iload_n hX dX3_fractionByBasis_28 rfl ?_
    refine s_iconst (v := 1) hX dX3_fractionByBasis_29 kc_1 ?_
    refine s_jp (fun (s : MemT) => [some (.ref a0), some (.int a1), some (.int a2), some (.int a3), some (.int (a2 / 4))]) (fun (s : MemT) => []) (fun (s : MemT) => s) 0 0 67 (fun s => ?_) (fun K3 hK3 => ?_)
    · revert s
      intro M4
      try dsimp only
      refine s_aload_n hX dX3_fractionByBasis_67 rfl ?_
      refine s_iload_n hX dX3_fractionByBasis_68 rfl ?_
      refine s_iload_n hX dX3_fractionByBasis_69 rfl ?_
      refine s_callVr (ck1 := 0) (sk1 := 0) (ci := 2) hX dX3_fractionByBasis_70 k_X3_ofQuarter q_805 (c_X3_ofQuarter n M4 a0 a1 a2) (by decide) rfl rfl rfl ⟨Nat.le_of_ble_eq_true rfl, Nat.le_of_ble_eq_true rfl⟩ ⟨(Nat.le_of_ble_eq_true rfl), (Nat.le_of_ble_eq_true rfl)⟩ (Nat.le_of_ble_eq_true rfl) rfl rfl (fun r5 M6 => ?_)
      refine s_callVi (ck1 := 0) (sk1 := 0) (ci := 5) hX dX3_fractionByBasis_73 k_X6_fraction q_821 (c_X6_fraction n M6 r5) (by decide) rfl rfl rfl ⟨Nat.le_of_ble_eq_true rfl, Nat.le_of_ble_eq_true rfl⟩ ⟨(Nat.le_of_ble_eq_true rfl), (Nat.le_of_ble_eq_true rfl)⟩ (Nat.le_of_ble_eq_true rfl) rfl rfl (fun r7 M8 => ?_)
      exact s_iret hX hR dX3_fractionByBasis_76 (Nat.le_of_ble_eq_true rfl) (Nat.le_of_ble_eq_true rfl)
    · refine s_icne (tgt := 67) hX dX3_fractionByBasis_30 rfl ?_ ?_
      · refine s_aload_n hX dX3_fractionByBasis_33 rfl ?_
        refine s_getO hX dX3_fractionByBasis_34 q_389 rfl (fun j9 => ?_)
        refine s_getO hX dX3_fractionByBasis_37 q_115 rfl (fun j10 => ?_)
        refine s_iload_n hX dX3_fractionByBasis_40 rfl ?_
        refine s_iald hX dX3_fractionByBasis_41 (fun v11 => ?_)
        refine s_bipush (v := (-2)) hX dX3_fractionByBasis_42 kb_m2 ?_
        refine s_iceq (tgt := 67) hX dX3_fractionByBasis_44 rfl ?_ ?_
        · exact hK3 _
        · refine s_aload_n hX dX3_fractionByBasis_47 rfl ?_
          refine s_getO hX dX3_fractionByBasis_48 q_389 rfl (fun j12 => ?_)
          refine s_getO hX dX3_fractionByBasis_51 q_115 rfl (fun j13 => ?_)
          refine s_iload_n hX dX3_fractionByBasis_54 rfl ?_
          refine s_iald hX dX3_fractionByBasis_55 (fun v14 => ?_)
          refine s_aload_n hX dX3_fractionByBasis_56 rfl ?_
          refine s_getO hX dX3_fractionByBasis_57 q_389 rfl (fun j15 => ?_)
          refine s_getI hX dX3_fractionByBasis_60 q_127 rfl (fun v16 => ?_)
          refine s_mmin hX dX3_fractionByBasis_63 q_804 q_469 q_10 q_470 (Nat.le_of_ble_eq_true rfl) (Nat.le_of_ble_eq_true rfl) (Nat.le_of_ble_eq_true rfl) (Nat.le_of_ble_eq_true rfl) ?_
          exact s_iret hX hR dX3_fractionByBasis_66 (Nat.le_of_ble_eq_true rfl) (Nat.le_of_ble_eq_true rfl)
      · exact hK3 _
  · refine s_icne (tgt := 28) hX dX3_fractionByBasis_7 rfl ?_ ?_
    · refine s_iload hX dX3_fractionByBasis_10 rfl ?_
      refine s_ifle (tgt := 28) hX dX3_fractionByBasis_12 rfl ?_ ?_
      · exact hK1 _
      · refine s_aload_n hX dX3_fractionByBasis_15 rfl ?_
        refine s_getO hX dX3_fractionByBasis_16 q_391 rfl (fun j17 => ?_)
        refine s_iload_n hX dX3_fractionByBasis_19 rfl ?_
        refine s_iload hX dX3_fractionByBasis_20 rfl ?_
        refine s_iconst (v := 1) hX dX3_fractionByBasis_22 kc_1 ?_
        refine s_isub hX dX3_fractionByBasis_23 ?_
        refine s_callVi (ck1 := 0) (sk1 := 0) (ci := 1) hX dX3_fractionByBasis_24 k_X2_keptAnnual q_800 (c_X2_keptAnnual n M0 j17 a1 ((a2 / 4) - 1)) (by decide) rfl rfl rfl ⟨Nat.le_of_ble_eq_true rfl, Nat.le_of_ble_eq_true rfl⟩ ⟨(Nat.le_of_ble_eq_true rfl), (Nat.le_of_ble_eq_true rfl)⟩ (Nat.le_of_ble_eq_true rfl) rfl rfl (fun r18 M19 => ?_)
        exact s_iret hX hR dX3_fractionByBasis_27 (Nat.le_of_ble_eq_true rfl) (Nat.le_of_ble_eq_true rfl)
    · exact hK1 _
abbrev rm_X3_adjustedBy : Room := { frames := 2, cells := 0, slots := 0, locals := 49 }
theorem k_X3_adjustedBy : KYV yX3_adjustedBy cX3_adjustedBy 4 (some .int) 3 := ⟨⟨q_906, q_4, by decide +kernel, by decide +kernel, by decide +kernel⟩, q_904, q_905⟩
set_option maxHeartbeats 4000000 in
set_option maxRecDepth 100000 in
theorem c_X3_adjustedBy (n : Nat) (M0 : MemT) (a0 : Nat) (a1 : Nat) (a2 : Int32) (a3 : Int32) : Ct iI yX3_adjustedBy cX3_adjustedBy 4 (some .int) rm_X3_adjustedBy [.ref a0, .ref a1, .int a2, .int a3] M0 (g_X3_adjustedBy n M0 a0 a1 a2 a3) := by
  unfold g_X3_adjustedBy
  refine ct_intro RX3 0 [some (.ref a0), some (.ref a1), some (.int a2), some (.int a3)] rfl (by decide +kernel) rfl (Nat.le_of_ble_eq_true rfl) (fun X A hX hnm hR => ?_)
  refine s_aload_n hX dX3_adjustedBy_0 rfl ?_
  refine s_getI hX dX3_adjustedBy_1 q_220 rfl (fun v1 => ?_)
  refine s_i2l hX dX3_adjustedBy_4 ?_
  refine s_iload_n hX dX3_adjustedBy_5 rfl ?_
  refine s_iload_n hX dX3_adjustedBy_6 rfl ?_
  refine s_isub hX dX3_adjustedBy_7 ?_
  refine s_i2l hX dX3_adjustedBy_8 ?_
  refine s_lmul hX dX3_adjustedBy_9 ?_
  refine s_aload_n hX dX3_adjustedBy_10 rfl ?_
  refine s_getI hX dX3_adjustedBy_11 q_223 rfl (fun v2 => ?_)
  refine s_i2l hX dX3_adjustedBy_14 ?_
  refine s_aload_n hX dX3_adjustedBy_15 rfl ?_
  refine s_getO hX dX3_adjustedBy_16 q_389 rfl (fun j3 => ?_)
  refine s_getI hX dX3_adjustedBy_19 q_127 rfl (fun v4 => ?_)
  refine s_i2l hX dX3_adjustedBy_22 ?_
  refine s_lmul hX dX3_adjustedBy_23 ?_
  refine s_aload_n hX dX3_adjustedBy_24 rfl ?_
  refine s_getO hX dX3_adjustedBy_25 q_389 rfl (fun j5 => ?_)
  refine s_getI hX dX3_adjustedBy_28 q_123 rfl (fun v6 => ?_)
  refine s_callSNj (ck1 := 0) (sk1 := 0) hX dX3_adjustedBy_31 k_X9_cut nx_894 (c_X9_cut n M0 ((Int32.toInt64 v1) * (Int32.toInt64 (a2 - a3))) ((Int32.toInt64 v2) * (Int32.toInt64 v4)) v6) rfl rfl ⟨Nat.le_of_ble_eq_true rfl, Nat.le_of_ble_eq_true rfl⟩ ⟨(Nat.le_of_ble_eq_true rfl), (Nat.le_of_ble_eq_true rfl)⟩ (Nat.le_of_ble_eq_true rfl) rfl rfl (fun r7 M8 => ?_)
  refine s_l2i hX dX3_adjustedBy_34 ?_
  exact s_iret hX hR dX3_adjustedBy_35 (Nat.le_of_ble_eq_true rfl) (Nat.le_of_ble_eq_true rfl)
abbrev rm_X3_finalFor : Room := { frames := 2, cells := 0, slots := 0, locals := 49 }
theorem k_X3_finalFor : KYV yX3_finalFor cX3_finalFor 6 (some .int) 4 := ⟨⟨q_914, q_4, by decide +kernel, by decide +kernel, by decide +kernel⟩, q_912, q_913⟩
set_option maxHeartbeats 4000000 in
set_option maxRecDepth 100000 in
theorem c_X3_finalFor (n : Nat) (M0 : MemT) (a0 : Nat) (a1 : Nat) (a2 : Int32) (a3 : Int32) (a4 : Int32) : Ct iI yX3_finalFor cX3_finalFor 6 (some .int) rm_X3_finalFor [.ref a0, .ref a1, .int a2, .int a3, .int a4] M0 (g_X3_finalFor n M0 a0 a1 a2 a3 a4) := by
  unfold g_X3_finalFor
  refine ct_intro RX3 1 [some (.ref a0), some (.ref a1), some (.int a2), some (.int a3), some (.int a4), none] rfl (by decide +kernel) rfl (Nat.le_of_ble_eq_true rfl) (fun X A hX hnm hR => ?_)
  refine s_iload_n hX dX3_finalFor_0 rfl ?_
  refine s_jp (fun (s : MemT × Int32) => [some (.ref a0), some (.ref a1), some (.int a2), some (.int a3), some (.int a4), none]) (fun (s : MemT × Int32) => [.int s.2]) (fun (s : MemT × Int32) => s.1) 0 0 15 (fun s => ?_) (fun K1 hK1 => ?_)
  · obtain ⟨M2, v3⟩ := s
    dsimp only
    refine s_istore5 hX dX3_finalFor_15 (by first | exact trivial | exact rfl) (Nat.le_of_ble_eq_true rfl) ?_
    refine s_aload_n hX dX3_finalFor_17 rfl ?_
    refine s_getI hX dX3_finalFor_18 q_220 rfl (fun v4 => ?_)
    refine s_i2l hX dX3_finalFor_21 ?_
    refine s_iload_n hX dX3_finalFor_22 rfl ?_
    refine s_i2l hX dX3_finalFor_23 ?_
    refine s_lmul hX dX3_finalFor_24 ?_
    refine s_iload hX dX3_finalFor_25 rfl ?_
    refine s_iload hX dX3_finalFor_27 rfl ?_
    refine s_isub hX dX3_finalFor_29 ?_
    refine s_i2l hX dX3_finalFor_30 ?_
    refine s_lmul hX dX3_finalFor_31 ?_
    refine s_aload_n hX dX3_finalFor_32 rfl ?_
    refine s_getI hX dX3_finalFor_33 q_223 rfl (fun v5 => ?_)
    refine s_i2l hX dX3_finalFor_36 ?_
    refine s_aload_n hX dX3_finalFor_37 rfl ?_
    refine s_getO hX dX3_finalFor_38 q_389 rfl (fun j6 => ?_)
    refine s_getI hX dX3_finalFor_41 q_127 rfl (fun v7 => ?_)
    refine s_i2l hX dX3_finalFor_44 ?_
    refine s_lmul hX dX3_finalFor_45 ?_
    refine s_aload_n hX dX3_finalFor_46 rfl ?_
    refine s_getO hX dX3_finalFor_47 q_389 rfl (fun j8 => ?_)
    refine s_getI hX dX3_finalFor_50 q_123 rfl (fun v9 => ?_)
    refine s_callSNj (ck1 := 0) (sk1 := 0) hX dX3_finalFor_53 k_X9_cut nx_894 (c_X9_cut n M2 (((Int32.toInt64 v4) * (Int32.toInt64 a3)) * (Int32.toInt64 (v3 - a4))) ((Int32.toInt64 v5) * (Int32.toInt64 v7)) v9) rfl rfl ⟨Nat.le_of_ble_eq_true rfl, Nat.le_of_ble_eq_true rfl⟩ ⟨(Nat.le_of_ble_eq_true rfl), (Nat.le_of_ble_eq_true rfl)⟩ (Nat.le_of_ble_eq_true rfl) rfl rfl (fun r10 M11 => ?_)
    refine s_l2i hX dX3_finalFor_56 ?_
    exact s_iret hX hR dX3_finalFor_57 (Nat.le_of_ble_eq_true rfl) (Nat.le_of_ble_eq_true rfl)
  · refine s_ifne (tgt := 14) hX dX3_finalFor_1 rfl ?_ ?_
    · refine s_aload_n hX dX3_finalFor_4 rfl ?_
      refine s_getO hX dX3_finalFor_5 q_389 rfl (fun j12 => ?_)
      refine s_getI hX dX3_finalFor_8 q_127 rfl (fun v13 => ?_)
      refine s_goto (tgt := 15) hX dX3_finalFor_11 rfl ?_
      exact hK1 _
    · refine s_iconst (v := 0) hX dX3_finalFor_14 kc_0 ?_
      exact hK1 _
abbrev rm_X3_bookFinal : Room := { frames := 3, cells := 0, slots := 0, locals := 74 }
theorem k_X3_bookFinal : KYV yX3_bookFinal cX3_bookFinal 4 none 2 := ⟨⟨q_910, q_4, by decide +kernel, by decide +kernel, by decide +kernel⟩, q_909, p_36⟩
set_option maxHeartbeats 4000000 in
set_option maxRecDepth 100000 in
theorem c_X3_bookFinal (n : Nat) (M0 : MemT) (a0 : Nat) (a1 : Nat) (a2 : Int32) : Ct iU yX3_bookFinal cX3_bookFinal 4 none rm_X3_bookFinal [.ref a0, .ref a1, .int a2] M0 (g_X3_bookFinal n M0 a0 a1 a2) := by
  unfold g_X3_bookFinal
  refine ct_intro RX3 1 [some (.ref a0), some (.ref a1), some (.int a2), none] rfl (by decide +kernel) rfl (Nat.le_of_ble_eq_true rfl) (fun X A hX hnm hR => ?_)
  refine s_aload_n hX dX3_bookFinal_0 rfl ?_
  refine s_aload_n hX dX3_bookFinal_1 rfl ?_
  refine s_aload_n hX dX3_bookFinal_2 rfl ?_
  refine s_getI hX dX3_bookFinal_3 q_228 rfl (fun v1 => ?_)
  refine s_aload_n hX dX3_bookFinal_6 rfl ?_
  refine s_getI hX dX3_bookFinal_7 q_223 rfl (fun v2 => ?_)
  refine s_aload_n hX dX3_bookFinal_10 rfl ?_
  refine s_getI hX dX3_bookFinal_11 q_253 rfl (fun v3 => ?_)
  refine s_isub hX dX3_bookFinal_14 ?_
  refine s_aload_n hX dX3_bookFinal_15 rfl ?_
  refine s_getI hX dX3_bookFinal_16 q_238 rfl (fun v4 => ?_)
  refine s_callVi (ck1 := 0) (sk1 := 0) (ci := 2) hX dX3_bookFinal_19 k_X3_finalFor q_911 (c_X3_finalFor n M0 a0 a1 v1 (v2 - v3) v4) (by decide) rfl rfl rfl ⟨Nat.le_of_ble_eq_true rfl, Nat.le_of_ble_eq_true rfl⟩ ⟨(Nat.le_of_ble_eq_true rfl), (Nat.le_of_ble_eq_true rfl)⟩ (Nat.le_of_ble_eq_true rfl) rfl rfl (fun r5 M6 => ?_)
  refine s_istore3 hX dX3_bookFinal_22 (by first | exact trivial | exact rfl) (Nat.le_of_ble_eq_true rfl) ?_
  refine s_aload_n hX dX3_bookFinal_23 rfl ?_
  refine s_getI hX dX3_bookFinal_24 q_231 rfl (fun v7 => ?_)
  refine s_iconst (v := (-1)) hX dX3_bookFinal_27 kc_m1 ?_
  refine s_jp (fun (s : MemT × Int32) => [some (.ref a0), some (.ref a1), some (.int a2), some (.int s.2)]) (fun (s : MemT × Int32) => []) (fun (s : MemT × Int32) => s.1) 0 0 40 (fun s => ?_) (fun K8 hK8 => ?_)
  · obtain ⟨M9, v10⟩ := s
    dsimp only
    refine s_aload_n hX dX3_bookFinal_40 rfl ?_
    refine s_iconst (v := 1) hX dX3_bookFinal_41 kc_1 ?_
    refine s_putZ hX dX3_bookFinal_42 q_246 rfl rfl (fun M11 => ?_)
    refine s_aload_n hX dX3_bookFinal_45 rfl ?_
    refine s_iload_n hX dX3_bookFinal_46 rfl ?_
    refine s_putI hX dX3_bookFinal_47 q_249 rfl rfl (fun M12 => ?_)
    refine s_aload_n hX dX3_bookFinal_50 rfl ?_
    refine s_dup hX dX3_bookFinal_51 rfl ?_
    refine s_getI hX dX3_bookFinal_52 q_243 rfl (fun v13 => ?_)
    refine s_iload_n hX dX3_bookFinal_55 rfl ?_
    refine s_iadd hX dX3_bookFinal_56 ?_
    refine s_putI hX dX3_bookFinal_57 q_243 rfl rfl (fun M14 => ?_)
    refine s_aload_n hX dX3_bookFinal_60 rfl ?_
    refine s_getO hX dX3_bookFinal_61 q_391 rfl (fun j15 => ?_)
    refine s_aload_n hX dX3_bookFinal_64 rfl ?_
    refine s_getI hX dX3_bookFinal_65 q_210 rfl (fun v16 => ?_)
    refine s_iconst (v := 3) hX dX3_bookFinal_68 kc_3 ?_
    refine s_iload_n hX dX3_bookFinal_69 rfl ?_
    refine s_iload_n hX dX3_bookFinal_70 rfl ?_
    refine s_callVu (ck1 := 0) (sk1 := 0) (ci := 1) hX dX3_bookFinal_71 k_X2_enter q_857 (c_X2_enter n M14 j15 v16 3 v10 a2) (by decide) rfl rfl rfl ⟨Nat.le_of_ble_eq_true rfl, Nat.le_of_ble_eq_true rfl⟩ ⟨(Nat.le_of_ble_eq_true rfl), (Nat.le_of_ble_eq_true rfl)⟩ (Nat.le_of_ble_eq_true rfl) rfl rfl (fun r17 M18 => ?_)
    exact s_vret hX hR dX3_bookFinal_74 (Nat.le_of_ble_eq_true rfl) (Nat.le_of_ble_eq_true rfl)
  · refine s_iceq (tgt := 40) hX dX3_bookFinal_28 rfl ?_ ?_
    · exact hK8 _
    · refine s_iload_n hX dX3_bookFinal_31 rfl ?_
      refine s_aload_n hX dX3_bookFinal_32 rfl ?_
      refine s_getI hX dX3_bookFinal_33 q_231 rfl (fun v19 => ?_)
      refine s_mmin hX dX3_bookFinal_36 q_804 q_469 q_10 q_470 (Nat.le_of_ble_eq_true rfl) (Nat.le_of_ble_eq_true rfl) (Nat.le_of_ble_eq_true rfl) (Nat.le_of_ble_eq_true rfl) ?_
      refine s_istore3 hX dX3_bookFinal_39 (by first | exact trivial | exact rfl) (Nat.le_of_ble_eq_true rfl) ?_
      exact hK8 _
abbrev rm_X3_firstBy : Room := { frames := 2, cells := 0, slots := 0, locals := 49 }
theorem k_X3_firstBy : KYV yX3_firstBy cX3_firstBy 3 (some .int) 2 := ⟨⟨q_898, q_4, by decide +kernel, by decide +kernel, by decide +kernel⟩, q_896, q_897⟩
set_option maxHeartbeats 4000000 in
set_option maxRecDepth 100000 in
theorem c_X3_firstBy (n : Nat) (M0 : MemT) (a0 : Nat) (a1 : Nat) (a2 : Int32) : Ct iI yX3_firstBy cX3_firstBy 3 (some .int) rm_X3_firstBy [.ref a0, .ref a1, .int a2] M0 (g_X3_firstBy n M0 a0 a1 a2) := by
  unfold g_X3_firstBy
  refine ct_intro RX3 0 [some (.ref a0), some (.ref a1), some (.int a2)] rfl (by decide +kernel) rfl (Nat.le_of_ble_eq_true rfl) (fun X A hX hnm hR => ?_)
  refine s_aload_n hX dX3_firstBy_0 rfl ?_
  refine s_getI hX dX3_firstBy_1 q_220 rfl (fun v1 => ?_)
  refine s_i2l hX dX3_firstBy_4 ?_
  refine s_iload_n hX dX3_firstBy_5 rfl ?_
  refine s_i2l hX dX3_firstBy_6 ?_
  refine s_lmul hX dX3_firstBy_7 ?_
  refine s_aload_n hX dX3_firstBy_8 rfl ?_
  refine s_getO hX dX3_firstBy_9 q_389 rfl (fun j2 => ?_)
  refine s_getI hX dX3_firstBy_12 q_127 rfl (fun v3 => ?_)
  refine s_i2l hX dX3_firstBy_15 ?_
  refine s_aload_n hX dX3_firstBy_16 rfl ?_
  refine s_getO hX dX3_firstBy_17 q_389 rfl (fun j4 => ?_)
  refine s_getI hX dX3_firstBy_20 q_123 rfl (fun v5 => ?_)
  refine s_callSNj (ck1 := 0) (sk1 := 0) hX dX3_firstBy_23 k_X9_cut nx_894 (c_X9_cut n M0 ((Int32.toInt64 v1) * (Int32.toInt64 a2)) (Int32.toInt64 v3) v5) rfl rfl ⟨Nat.le_of_ble_eq_true rfl, Nat.le_of_ble_eq_true rfl⟩ ⟨(Nat.le_of_ble_eq_true rfl), (Nat.le_of_ble_eq_true rfl)⟩ (Nat.le_of_ble_eq_true rfl) rfl rfl (fun r6 M7 => ?_)
  refine s_l2i hX dX3_firstBy_26 ?_
  exact s_iret hX hR dX3_firstBy_27 (Nat.le_of_ble_eq_true rfl) (Nat.le_of_ble_eq_true rfl)
abbrev rm_X3_quarterWorth : Room := { frames := 0, cells := 0, slots := 0, locals := 0 }
theorem k_X3_quarterWorth : KYV yX3_quarterWorth cX3_quarterWorth 3 (some .int) 2 := ⟨⟨q_892, q_4, by decide +kernel, by decide +kernel, by decide +kernel⟩, q_891, p_35⟩
set_option maxHeartbeats 4000000 in
set_option maxRecDepth 100000 in
theorem c_X3_quarterWorth (n : Nat) (M0 : MemT) (a0 : Nat) (a1 : Int32) (a2 : Int32) : Ct iI yX3_quarterWorth cX3_quarterWorth 3 (some .int) rm_X3_quarterWorth [.ref a0, .int a1, .int a2] M0 (g_X3_quarterWorth n M0 a0 a1 a2) := by
  unfold g_X3_quarterWorth
  refine ct_intro RX3 0 [some (.ref a0), some (.int a1), some (.int a2)] rfl (by decide +kernel) rfl (Nat.le_of_ble_eq_true rfl) (fun X A hX hnm hR => ?_)
  refine s_iload_n hX dX3_quarterWorth_0 rfl ?_
  refine s_ifne (tgt := 12) hX dX3_quarterWorth_1 rfl ?_ ?_
  · refine s_aload_n hX dX3_quarterWorth_4 rfl ?_
    refine s_getO hX dX3_quarterWorth_5 q_389 rfl (fun j1 => ?_)
    refine s_getI hX dX3_quarterWorth_8 q_127 rfl (fun v2 => ?_)
    exact s_iret hX hR dX3_quarterWorth_11 (Nat.le_of_ble_eq_true rfl) (Nat.le_of_ble_eq_true rfl)
  · refine s_iload_n hX dX3_quarterWorth_12 rfl ?_
    refine s_iconst (v := 1) hX dX3_quarterWorth_13 kc_1 ?_
    refine s_icne (tgt := 21) hX dX3_quarterWorth_14 rfl ?_ ?_
    · refine s_iconst (v := 0) hX dX3_quarterWorth_17 kc_0 ?_
      refine s_goto (tgt := 22) hX dX3_quarterWorth_18 rfl ?_
      exact s_iret hX hR dX3_quarterWorth_22 (Nat.le_of_ble_eq_true rfl) (Nat.le_of_ble_eq_true rfl)
    · refine s_iload_n hX dX3_quarterWorth_21 rfl ?_
      exact s_iret hX hR dX3_quarterWorth_22 (Nat.le_of_ble_eq_true rfl) (Nat.le_of_ble_eq_true rfl)
abbrev rm_X3_worthBy : Room := { frames := 2, cells := 0, slots := 0, locals := 49 }
theorem k_X3_worthBy : KYV yX3_worthBy cX3_worthBy 7 (some .int) 3 := ⟨⟨q_888, q_4, by decide +kernel, by decide +kernel, by decide +kernel⟩, q_887, p_34⟩
set_option maxHeartbeats 4000000 in
set_option maxRecDepth 100000 in
theorem c_X3_worthBy (n : Nat) (M0 : MemT) (a0 : Nat) (a1 : Nat) (a2 : Int32) (a3 : Int32) : Ct iI yX3_worthBy cX3_worthBy 7 (some .int) rm_X3_worthBy [.ref a0, .ref a1, .int a2, .int a3] M0 (g_X3_worthBy n M0 a0 a1 a2 a3) := by
  unfold g_X3_worthBy
  refine ct_intro RX3 3 [some (.ref a0), some (.ref a1), some (.int a2), some (.int a3), none, none, none] rfl (by decide +kernel) rfl (Nat.le_of_ble_eq_true rfl) (fun X A hX hnm hR => ?_)
  refine s_aload_n hX dX3_worthBy_0 rfl ?_
  refine s_getI hX dX3_worthBy_1 q_253 rfl (fun v1 => ?_)
  refine s_ifne (tgt := 14) hX dX3_worthBy_4 rfl ?_ ?_
  · refine s_aload_n hX dX3_worthBy_7 rfl ?_
    refine s_iload_n hX dX3_worthBy_8 rfl ?_
    refine s_iload_n hX dX3_worthBy_9 rfl ?_
    refine s_callVi (ck1 := 0) (sk1 := 0) (ci := 2) hX dX3_worthBy_10 k_X3_quarterWorth q_889 (c_X3_quarterWorth n M0 a0 a2 a3) (by decide) rfl rfl rfl ⟨Nat.le_of_ble_eq_true rfl, Nat.le_of_ble_eq_true rfl⟩ ⟨(Nat.le_of_ble_eq_true rfl), (Nat.le_of_ble_eq_true rfl)⟩ (Nat.le_of_ble_eq_true rfl) rfl rfl (fun r2 M3 => ?_)
    exact s_iret hX hR dX3_worthBy_13 (Nat.le_of_ble_eq_true rfl) (Nat.le_of_ble_eq_true rfl)
  · refine s_iconst (v := 0) hX dX3_worthBy_14 kc_0 ?_
    refine s_istore4 hX dX3_worthBy_15 (by first | exact trivial | exact rfl) (Nat.le_of_ble_eq_true rfl) ?_
    refine s_iconst (v := 0) hX dX3_worthBy_17 kc_0 ?_
    refine s_istore5 hX dX3_worthBy_18 (by first | exact trivial | exact rfl) (Nat.le_of_ble_eq_true rfl) ?_
    refine s_loopE (stk := []) (fun (s : MemT × Int32 × Int32) => [some (.ref a0), some (.ref a1), some (.int a2), some (.int a3), some (.int s.2.1), some (.int s.2.2), none]) (fun (s : MemT × Int32 × Int32) => s.1) 79 (fun (s : MemT × Int32 × Int32) => [some (.ref a0), some (.ref a1), some (.int a2), some (.int a3), some (.int s.2.1), some (.int s.2.2), none]) (fun s B7 hB7 hE7 => ?_) (fun s => ?_) n (M0, 0, 0)
    · obtain ⟨M4, v5, v6⟩ := s
      dsimp only
      refine s_iload hX dX3_worthBy_20 rfl ?_
      refine s_iconst (v := 4) hX dX3_worthBy_22 kc_4 ?_
      refine s_icge (tgt := 79) hX dX3_worthBy_23 rfl ?_ ?_
      · exact s_exit hE7
      · refine s_iload hX dX3_worthBy_26 rfl ?_
        refine s_aload_n hX dX3_worthBy_28 rfl ?_
        refine s_getO hX dX3_worthBy_29 q_391 rfl (fun j8 => ?_)
        refine s_getI hX dX3_worthBy_32 q_302 rfl (fun v9 => ?_)
        refine s_iconst (v := 4) hX dX3_worthBy_35 kc_4 ?_
        refine s_irem hX dX3_worthBy_36 ?_
        refine s_jp (fun (s : MemT × Int32) => [some (.ref a0), some (.ref a1), some (.int a2), some (.int a3), some (.int v5), some (.int v6), none]) (fun (s : MemT × Int32) => [.int s.2]) (fun (s : MemT × Int32) => s.1) 0 0 45 (fun s => ?_) (fun K10 hK10 => ?_)
        · obtain ⟨M11, v12⟩ := s
          dsimp only
          refine s_istore6 hX dX3_worthBy_45 (by first | exact trivial | exact rfl) (Nat.le_of_ble_eq_true rfl) ?_
          refine s_iload hX dX3_worthBy_47 rfl ?_
          refine s_aload_n hX dX3_worthBy_49 rfl ?_
          refine s_iload hX dX3_worthBy_50 rfl ?_
          refine s_jp (fun (s : MemT × Int32) => [some (.ref a0), some (.ref a1), some (.int a2), some (.int a3), some (.int v5), some (.int v6), some (.int v12)]) (fun (s : MemT × Int32) => [.int s.2, .ref a0, .int v5]) (fun (s : MemT × Int32) => s.1) 0 0 66 (fun s => ?_) (fun K13 hK13 => ?_)
          · obtain ⟨M14, v15⟩ := s
            dsimp only
            refine s_iload_n hX dX3_worthBy_66 rfl ?_
            refine s_callVi (ck1 := 0) (sk1 := 0) (ci := 2) hX dX3_worthBy_67 k_X3_quarterWorth q_889 (c_X3_quarterWorth n M14 a0 v15 a3) (by decide) rfl rfl rfl ⟨Nat.le_of_ble_eq_true rfl, Nat.le_of_ble_eq_true rfl⟩ ⟨(Nat.le_of_ble_eq_true rfl), (Nat.le_of_ble_eq_true rfl)⟩ (Nat.le_of_ble_eq_true rfl) rfl rfl (fun r16 M17 => ?_)
            refine s_iadd hX dX3_worthBy_70 ?_
            refine s_istore4 hX dX3_worthBy_71 (by first | exact trivial | exact rfl) (Nat.le_of_ble_eq_true rfl) ?_
            refine s_iinc5 (v := v6 + 1) hX dX3_worthBy_73 rfl (by first | exact trivial | exact rfl) (Nat.le_of_ble_eq_true rfl) ?_
            refine s_goto (tgt := 20) hX dX3_worthBy_76 rfl ?_
            refine s_forget (loc1 := [some (.ref a0), some (.ref a1), some (.int a2), some (.int a3), some (.int (v5 + r16)), some (.int (v6 + 1)), none]) ⟨rfl, rfl, rfl, rfl, rfl, rfl, trivial⟩ ?_
            exact s_back hB7
          · refine s_ifeq (tgt := 65) hX dX3_worthBy_52 rfl ?_ ?_
            · refine s_iload_n hX dX3_worthBy_65 rfl ?_
              exact hK13 _
            · refine s_aload_n hX dX3_worthBy_55 rfl ?_
              refine s_getO hX dX3_worthBy_56 q_255 rfl (fun j18 => ?_)
              refine s_iload hX dX3_worthBy_59 rfl ?_
              refine s_iald hX dX3_worthBy_61 (fun v19 => ?_)
              refine s_goto (tgt := 66) hX dX3_worthBy_62 rfl ?_
              exact hK13 _
        · refine s_icge (tgt := 44) hX dX3_worthBy_37 rfl ?_ ?_
          · refine s_iconst (v := 0) hX dX3_worthBy_44 kc_0 ?_
            exact hK10 _
          · refine s_iconst (v := 1) hX dX3_worthBy_40 kc_1 ?_
            refine s_goto (tgt := 45) hX dX3_worthBy_41 rfl ?_
            exact hK10 _
    · obtain ⟨M20, v21, v22⟩ := s
      dsimp only
      refine s_iload hX dX3_worthBy_79 rfl ?_
      refine s_i2l hX dX3_worthBy_81 ?_
      refine s_ldc2 hX dX3_worthBy_82 q_893 ?_
      refine s_aload_n hX dX3_worthBy_85 rfl ?_
      refine s_getO hX dX3_worthBy_86 q_389 rfl (fun j23 => ?_)
      refine s_getI hX dX3_worthBy_89 q_123 rfl (fun v24 => ?_)
      refine s_callSNj (ck1 := 0) (sk1 := 0) hX dX3_worthBy_92 k_X9_cut nx_894 (c_X9_cut n M20 (Int32.toInt64 v21) 4 v24) rfl rfl ⟨Nat.le_of_ble_eq_true rfl, Nat.le_of_ble_eq_true rfl⟩ ⟨(Nat.le_of_ble_eq_true rfl), (Nat.le_of_ble_eq_true rfl)⟩ (Nat.le_of_ble_eq_true rfl) rfl rfl (fun r25 M26 => ?_)
      refine s_l2i hX dX3_worthBy_95 ?_
      exact s_iret hX hR dX3_worthBy_96 (Nat.le_of_ble_eq_true rfl) (Nat.le_of_ble_eq_true rfl)
abbrev rm_X3_endInterval : Room := { frames := 4, cells := 0, slots := 0, locals := 97 }
theorem k_X3_endInterval : KYV yX3_endInterval cX3_endInterval 6 none 2 := ⟨⟨q_884, q_4, by decide +kernel, by decide +kernel, by decide +kernel⟩, q_883, p_33⟩
set_option maxHeartbeats 4000000 in
set_option maxRecDepth 100000 in
theorem c_X3_endInterval (n : Nat) (M0 : MemT) (a0 : Nat) (a1 : Int32) (a2 : Int32) : Ct iU yX3_endInterval cX3_endInterval 6 none rm_X3_endInterval [.ref a0, .int a1, .int a2] M0 (g_X3_endInterval n M0 a0 a1 a2) := by
  unfold g_X3_endInterval
  refine ct_intro RX3 3 [some (.ref a0), some (.int a1), some (.int a2), none, none, none] rfl (by decide +kernel) rfl (Nat.le_of_ble_eq_true rfl) (fun X A hX hnm hR => ?_)
  refine s_aload_n hX dX3_endInterval_0 rfl ?_
  refine s_getO hX dX3_endInterval_1 q_391 rfl (fun j1 => ?_)
  refine s_getO hX dX3_endInterval_4 q_317 rfl (fun j2 => ?_)
  refine s_iload_n hX dX3_endInterval_7 rfl ?_
  refine s_aald14 hX dX3_endInterval_8 (fun j3 => ?_)
  refine s_astore3 hX dX3_endInterval_9 (by first | exact trivial | exact rfl) (Nat.le_of_ble_eq_true rfl) ?_
  refine s_aload_n hX dX3_endInterval_10 rfl ?_
  refine s_aload_n hX dX3_endInterval_11 rfl ?_
  refine s_aload_n hX dX3_endInterval_12 rfl ?_
  refine s_getI hX dX3_endInterval_13 q_217 rfl (fun v4 => ?_)
  refine s_aload_n hX dX3_endInterval_16 rfl ?_
  refine s_getO hX dX3_endInterval_17 q_391 rfl (fun j5 => ?_)
  refine s_aload_n hX dX3_endInterval_20 rfl ?_
  refine s_getI hX dX3_endInterval_21 q_210 rfl (fun v6 => ?_)
  refine s_iload_n hX dX3_endInterval_24 rfl ?_
  refine s_callVi (ck1 := 0) (sk1 := 0) (ci := 1) hX dX3_endInterval_25 k_X2_keptAnnual q_800 (c_X2_keptAnnual n M0 j5 v6 a2) (by decide) rfl rfl rfl ⟨Nat.le_of_ble_eq_true rfl, Nat.le_of_ble_eq_true rfl⟩ ⟨(Nat.le_of_ble_eq_true rfl), (Nat.le_of_ble_eq_true rfl)⟩ (Nat.le_of_ble_eq_true rfl) rfl rfl (fun r7 M8 => ?_)
  refine s_callVi (ck1 := 0) (sk1 := 0) (ci := 2) hX dX3_endInterval_28 k_X3_worthBy q_885 (c_X3_worthBy n M8 a0 j3 v4 r7) (by decide) rfl rfl rfl ⟨Nat.le_of_ble_eq_true rfl, Nat.le_of_ble_eq_true rfl⟩ ⟨(Nat.le_of_ble_eq_true rfl), (Nat.le_of_ble_eq_true rfl)⟩ (Nat.le_of_ble_eq_true rfl) rfl rfl (fun r9 M10 => ?_)
  refine s_istore4 hX dX3_endInterval_31 (by first | exact trivial | exact rfl) (Nat.le_of_ble_eq_true rfl) ?_
  refine s_aload_n hX dX3_endInterval_33 rfl ?_
  refine s_getI hX dX3_endInterval_34 q_253 rfl (fun v11 => ?_)
  refine s_jp (fun (s : MemT) => [some (.ref a0), some (.int a1), some (.int a2), some (.ref j3), some (.int r9), none]) (fun (s : MemT) => []) (fun (s : MemT) => s) 0 0 111 (fun s => ?_) (fun K12 hK12 => ?_)
  · revert s
    intro M13
    try dsimp only
    refine s_aload_n hX dX3_endInterval_111 rfl ?_
    refine s_getI hX dX3_endInterval_112 q_228 rfl (fun v14 => ?_)
    refine s_jp (fun (s : MemT) => [some (.ref a0), some (.int a1), some (.int a2), some (.ref j3), some (.int r9), none]) (fun (s : MemT) => []) (fun (s : MemT) => s) 0 0 132 (fun s => ?_) (fun K15 hK15 => ?_)
    · revert s
      intro M16
      try dsimp only
      refine s_aload_n hX dX3_endInterval_132 rfl ?_
      refine s_aload_n hX dX3_endInterval_133 rfl ?_
      refine s_getI hX dX3_endInterval_134 q_228 rfl (fun v17 => ?_)
      refine s_bipush (v := (-2)) hX dX3_endInterval_137 kb_m2 ?_
      refine s_jp (fun (s : MemT × Int32) => [some (.ref a0), some (.int a1), some (.int a2), some (.ref j3), some (.int r9), none]) (fun (s : MemT × Int32) => [.int s.2, .ref j3]) (fun (s : MemT × Int32) => s.1) 0 0 158 (fun s => ?_) (fun K18 hK18 => ?_)
      · obtain ⟨M19, v20⟩ := s
        dsimp only
        refine s_putZ hX dX3_endInterval_158 q_234 rfl rfl (fun M21 => ?_)
        refine s_aload_n hX dX3_endInterval_161 rfl ?_
        refine s_aload_n hX dX3_endInterval_162 rfl ?_
        refine s_getI hX dX3_endInterval_163 q_214 rfl (fun v22 => ?_)
        refine s_putI hX dX3_endInterval_166 q_210 rfl rfl (fun M23 => ?_)
        exact s_vret hX hR dX3_endInterval_169 (Nat.le_of_ble_eq_true rfl) (Nat.le_of_ble_eq_true rfl)
      · refine s_jp (fun (s : MemT) => [some (.ref a0), some (.int a1), some (.int a2), some (.ref j3), some (.int r9), none]) (fun (s : MemT) => [.ref j3]) (fun (s : MemT) => s) 0 0 153 (fun s => ?_) (fun K24 hK24 => ?_)
        · revert s
          intro M25
          try dsimp only
          refine s_iconst (v := 1) hX dX3_endInterval_153 kc_1 ?_
          refine s_goto (tgt := 158) hX dX3_endInterval_154 rfl ?_
          exact hK18 _
        · refine s_icne (tgt := 153) hX dX3_endInterval_139 rfl ?_ ?_
          · refine s_aload_n hX dX3_endInterval_142 rfl ?_
            refine s_getI hX dX3_endInterval_143 q_253 rfl (fun v26 => ?_)
            refine s_aload_n hX dX3_endInterval_146 rfl ?_
            refine s_getI hX dX3_endInterval_147 q_223 rfl (fun v27 => ?_)
            refine s_icne (tgt := 157) hX dX3_endInterval_150 rfl ?_ ?_
            · exact hK24 _
            · refine s_iconst (v := 0) hX dX3_endInterval_157 kc_0 ?_
              exact hK18 _
          · exact hK24 _
    · refine s_jp (fun (s : MemT) => [some (.ref a0), some (.int a1), some (.int a2), some (.ref j3), some (.int r9), none]) (fun (s : MemT) => []) (fun (s : MemT) => s) 0 0 126 (fun s => ?_) (fun K28 hK28 => ?_)
      · revert s
        intro M29
        try dsimp only
        refine s_aload_n hX dX3_endInterval_126 rfl ?_
        refine s_aload_n hX dX3_endInterval_127 rfl ?_
        refine s_iload_n hX dX3_endInterval_128 rfl ?_
        refine s_callVu (ck1 := 0) (sk1 := 0) (ci := 2) hX dX3_endInterval_129 k_X3_bookFinal q_907 (c_X3_bookFinal n M29 a0 j3 a1) (by decide) rfl rfl rfl ⟨Nat.le_of_ble_eq_true rfl, Nat.le_of_ble_eq_true rfl⟩ ⟨(Nat.le_of_ble_eq_true rfl), (Nat.le_of_ble_eq_true rfl)⟩ (Nat.le_of_ble_eq_true rfl) rfl rfl (fun r30 M31 => ?_)
        exact hK15 _
      · refine s_ifeq (tgt := 126) hX dX3_endInterval_115 rfl ?_ ?_
        · exact hK28 _
        · refine s_aload_n hX dX3_endInterval_118 rfl ?_
          refine s_getI hX dX3_endInterval_119 q_228 rfl (fun v32 => ?_)
          refine s_iconst (v := 1) hX dX3_endInterval_122 kc_1 ?_
          refine s_icne (tgt := 132) hX dX3_endInterval_123 rfl ?_ ?_
          · exact hK28 _
          · exact hK15 _
  · refine s_ifne (tgt := 75) hX dX3_endInterval_37 rfl ?_ ?_
    · refine s_aload_n hX dX3_endInterval_40 rfl ?_
      refine s_iload hX dX3_endInterval_41 rfl ?_
      refine s_putI hX dX3_endInterval_43 q_238 rfl rfl (fun M33 => ?_)
      refine s_aload_n hX dX3_endInterval_46 rfl ?_
      refine s_aload_n hX dX3_endInterval_47 rfl ?_
      refine s_aload_n hX dX3_endInterval_48 rfl ?_
      refine s_iload hX dX3_endInterval_49 rfl ?_
      refine s_callVi (ck1 := 0) (sk1 := 0) (ci := 2) hX dX3_endInterval_51 k_X3_firstBy q_895 (c_X3_firstBy n M33 a0 j3 r9) (by decide) rfl rfl rfl ⟨Nat.le_of_ble_eq_true rfl, Nat.le_of_ble_eq_true rfl⟩ ⟨(Nat.le_of_ble_eq_true rfl), (Nat.le_of_ble_eq_true rfl)⟩ (Nat.le_of_ble_eq_true rfl) rfl rfl (fun r34 M35 => ?_)
      refine s_putI hX dX3_endInterval_54 q_241 rfl rfl (fun M36 => ?_)
      refine s_aload_n hX dX3_endInterval_57 rfl ?_
      refine s_aload_n hX dX3_endInterval_58 rfl ?_
      refine s_getI hX dX3_endInterval_59 q_241 rfl (fun v37 => ?_)
      refine s_putI hX dX3_endInterval_62 q_243 rfl rfl (fun M38 => ?_)
      refine s_aload_n hX dX3_endInterval_65 rfl ?_
      refine s_iload hX dX3_endInterval_66 rfl ?_
      refine s_iconst (v := 0) hX dX3_endInterval_68 kc_0 ?_
      refine s_callVu (ck1 := 0) (sk1 := 0) (ci := 0) hX dX3_endInterval_69 k_X1_endInterval q_899 (c_X1_endInterval n M38 j3 r9 0) (by decide) rfl rfl rfl ⟨Nat.le_of_ble_eq_true rfl, Nat.le_of_ble_eq_true rfl⟩ ⟨(Nat.le_of_ble_eq_true rfl), (Nat.le_of_ble_eq_true rfl)⟩ (Nat.le_of_ble_eq_true rfl) rfl rfl (fun r39 M40 => ?_)
      refine s_goto (tgt := 111) hX dX3_endInterval_72 rfl ?_
      exact hK12 _
    · refine s_aload_n hX dX3_endInterval_75 rfl ?_
      refine s_aload_n hX dX3_endInterval_76 rfl ?_
      refine s_iload hX dX3_endInterval_77 rfl ?_
      refine s_aload_n hX dX3_endInterval_79 rfl ?_
      refine s_getI hX dX3_endInterval_80 q_238 rfl (fun v41 => ?_)
      refine s_callVi (ck1 := 0) (sk1 := 0) (ci := 2) hX dX3_endInterval_83 k_X3_adjustedBy q_903 (c_X3_adjustedBy n M10 a0 j3 r9 v41) (by decide) rfl rfl rfl ⟨Nat.le_of_ble_eq_true rfl, Nat.le_of_ble_eq_true rfl⟩ ⟨(Nat.le_of_ble_eq_true rfl), (Nat.le_of_ble_eq_true rfl)⟩ (Nat.le_of_ble_eq_true rfl) rfl rfl (fun r42 M43 => ?_)
      refine s_istore5 hX dX3_endInterval_86 (by first | exact trivial | exact rfl) (Nat.le_of_ble_eq_true rfl) ?_
      refine s_aload_n hX dX3_endInterval_88 rfl ?_
      refine s_getO hX dX3_endInterval_89 q_391 rfl (fun j44 => ?_)
      refine s_aload_n hX dX3_endInterval_92 rfl ?_
      refine s_getI hX dX3_endInterval_93 q_210 rfl (fun v45 => ?_)
      refine s_iconst (v := 2) hX dX3_endInterval_96 kc_2 ?_
      refine s_iload hX dX3_endInterval_97 rfl ?_
      refine s_iload_n hX dX3_endInterval_99 rfl ?_
      refine s_callVu (ck1 := 0) (sk1 := 0) (ci := 1) hX dX3_endInterval_100 k_X2_enter q_857 (c_X2_enter n M43 j44 v45 2 r42 a1) (by decide) rfl rfl rfl ⟨Nat.le_of_ble_eq_true rfl, Nat.le_of_ble_eq_true rfl⟩ ⟨(Nat.le_of_ble_eq_true rfl), (Nat.le_of_ble_eq_true rfl)⟩ (Nat.le_of_ble_eq_true rfl) rfl rfl (fun r46 M47 => ?_)
      refine s_aload_n hX dX3_endInterval_103 rfl ?_
      refine s_iload hX dX3_endInterval_104 rfl ?_
      refine s_iload hX dX3_endInterval_106 rfl ?_
      refine s_callVu (ck1 := 0) (sk1 := 0) (ci := 0) hX dX3_endInterval_108 k_X1_endInterval q_899 (c_X1_endInterval n M47 j3 r9 r42) (by decide) rfl rfl rfl ⟨Nat.le_of_ble_eq_true rfl, Nat.le_of_ble_eq_true rfl⟩ ⟨(Nat.le_of_ble_eq_true rfl), (Nat.le_of_ble_eq_true rfl)⟩ (Nat.le_of_ble_eq_true rfl) rfl rfl (fun r48 M49 => ?_)
      refine s_forget (loc1 := [some (.ref a0), some (.int a1), some (.int a2), some (.ref j3), some (.int r9), none]) ⟨rfl, rfl, rfl, rfl, rfl, trivial⟩ ?_
      exact hK12 _
abbrev rm_X3_endYear : Room := { frames := 5, cells := 0, slots := 0, locals := 122 }
theorem k_X3_endYear : KYV yX3_endYear cX3_endYear 6 none 0 := ⟨⟨q_864, q_4, by decide +kernel, by decide +kernel, by decide +kernel⟩, q_863, p_32⟩
set_option maxHeartbeats 4000000 in
set_option maxRecDepth 100000 in
theorem c_X3_endYear (n : Nat) (M0 : MemT) (a0 : Nat) : Ct iU yX3_endYear cX3_endYear 6 none rm_X3_endYear [.ref a0] M0 (g_X3_endYear n M0 a0) := by
  unfold g_X3_endYear
  refine ct_intro RX3 5 [some (.ref a0), none, none, none, none, none] rfl (by decide +kernel) rfl (Nat.le_of_ble_eq_true rfl) (fun X A hX hnm hR => ?_)
  refine s_aload_n hX dX3_endYear_0 rfl ?_
  refine s_callVi (ck1 := 0) (sk1 := 0) (ci := 2) hX dX3_endYear_1 k_X3_thisYear q_865 (c_X3_thisYear n M0 a0) (by decide) rfl rfl rfl ⟨Nat.le_of_ble_eq_true rfl, Nat.le_of_ble_eq_true rfl⟩ ⟨(Nat.le_of_ble_eq_true rfl), (Nat.le_of_ble_eq_true rfl)⟩ (Nat.le_of_ble_eq_true rfl) rfl rfl (fun r1 M2 => ?_)
  refine s_istore1 hX dX3_endYear_4 (by first | exact trivial | exact rfl) (Nat.le_of_ble_eq_true rfl) ?_
  refine s_iconst (v := 0) hX dX3_endYear_5 kc_0 ?_
  refine s_istore2 hX dX3_endYear_6 (by first | exact trivial | exact rfl) (Nat.le_of_ble_eq_true rfl) ?_
  refine s_loopE (stk := []) (fun (s : MemT × Int32) => [some (.ref a0), some (.int r1), some (.int s.2), none, none, none]) (fun (s : MemT × Int32) => s.1) 79 (fun (s : MemT × Int32) => [some (.ref a0), some (.int r1), some (.int s.2), none, none, none]) (fun s B5 hB5 hE5 => ?_) (fun s => ?_) n (M2, 0)
  · obtain ⟨M3, v4⟩ := s
    dsimp only
    refine s_iload_n hX dX3_endYear_7 rfl ?_
    refine s_aload_n hX dX3_endYear_8 rfl ?_
    refine s_getO hX dX3_endYear_9 q_389 rfl (fun j6 => ?_)
    refine s_getI hX dX3_endYear_12 q_103 rfl (fun v7 => ?_)
    refine s_icge (tgt := 79) hX dX3_endYear_15 rfl ?_ ?_
    · exact s_exit hE5
    · refine s_aload_n hX dX3_endYear_18 rfl ?_
      refine s_iload_n hX dX3_endYear_19 rfl ?_
      refine s_iload_n hX dX3_endYear_20 rfl ?_
      refine s_callVr (ck1 := 0) (sk1 := 0) (ci := 2) hX dX3_endYear_21 k_X3_ofYear q_869 (c_X3_ofYear n M3 a0 v4 r1) (by decide) rfl rfl rfl ⟨Nat.le_of_ble_eq_true rfl, Nat.le_of_ble_eq_true rfl⟩ ⟨(Nat.le_of_ble_eq_true rfl), (Nat.le_of_ble_eq_true rfl)⟩ (Nat.le_of_ble_eq_true rfl) rfl rfl (fun r8 M9 => ?_)
      refine s_astore3 hX dX3_endYear_24 (by first | exact trivial | exact rfl) (Nat.le_of_ble_eq_true rfl) ?_
      refine s_aload_n hX dX3_endYear_25 rfl ?_
      refine s_callVi (ck1 := 0) (sk1 := 0) (ci := 5) hX dX3_endYear_26 k_X6_fraction q_821 (c_X6_fraction n M9 r8) (by decide) rfl rfl rfl ⟨Nat.le_of_ble_eq_true rfl, Nat.le_of_ble_eq_true rfl⟩ ⟨(Nat.le_of_ble_eq_true rfl), (Nat.le_of_ble_eq_true rfl)⟩ (Nat.le_of_ble_eq_true rfl) rfl rfl (fun r10 M11 => ?_)
      refine s_istore4 hX dX3_endYear_29 (by first | exact trivial | exact rfl) (Nat.le_of_ble_eq_true rfl) ?_
      refine s_aload_n hX dX3_endYear_31 rfl ?_
      refine s_iload hX dX3_endYear_32 rfl ?_
      refine s_callVi (ck1 := 0) (sk1 := 0) (ci := 5) hX dX3_endYear_34 k_X6_backBy q_836 (c_X6_backBy n M11 r8 r10) (by decide) rfl rfl rfl ⟨Nat.le_of_ble_eq_true rfl, Nat.le_of_ble_eq_true rfl⟩ ⟨(Nat.le_of_ble_eq_true rfl), (Nat.le_of_ble_eq_true rfl)⟩ (Nat.le_of_ble_eq_true rfl) rfl rfl (fun r12 M13 => ?_)
      refine s_istore5 hX dX3_endYear_37 (by first | exact trivial | exact rfl) (Nat.le_of_ble_eq_true rfl) ?_
      refine s_aload_n hX dX3_endYear_39 rfl ?_
      refine s_getO hX dX3_endYear_40 q_391 rfl (fun j14 => ?_)
      refine s_iload_n hX dX3_endYear_43 rfl ?_
      refine s_iload_n hX dX3_endYear_44 rfl ?_
      refine s_iload hX dX3_endYear_45 rfl ?_
      refine s_callVu (ck1 := 0) (sk1 := 0) (ci := 1) hX dX3_endYear_47 k_X2_keepAnnual q_873 (c_X2_keepAnnual n M13 j14 v4 r1 r10) (by decide) rfl rfl rfl ⟨Nat.le_of_ble_eq_true rfl, Nat.le_of_ble_eq_true rfl⟩ ⟨(Nat.le_of_ble_eq_true rfl), (Nat.le_of_ble_eq_true rfl)⟩ (Nat.le_of_ble_eq_true rfl) rfl rfl (fun r15 M16 => ?_)
      refine s_aload_n hX dX3_endYear_50 rfl ?_
      refine s_getO hX dX3_endYear_51 q_391 rfl (fun j17 => ?_)
      refine s_iload_n hX dX3_endYear_54 rfl ?_
      refine s_iconst (v := 1) hX dX3_endYear_55 kc_1 ?_
      refine s_iload hX dX3_endYear_56 rfl ?_
      refine s_aload_n hX dX3_endYear_58 rfl ?_
      refine s_getO hX dX3_endYear_59 q_391 rfl (fun j18 => ?_)
      refine s_iload_n hX dX3_endYear_62 rfl ?_
      refine s_iload_n hX dX3_endYear_63 rfl ?_
      refine s_callVi (ck1 := 0) (sk1 := 0) (ci := 1) hX dX3_endYear_64 k_X2_recoveredInYear q_877 (c_X2_recoveredInYear n M16 j18 v4 r1) (by decide) rfl rfl rfl ⟨Nat.le_of_ble_eq_true rfl, Nat.le_of_ble_eq_true rfl⟩ ⟨(Nat.le_of_ble_eq_true rfl), (Nat.le_of_ble_eq_true rfl)⟩ (Nat.le_of_ble_eq_true rfl) rfl rfl (fun r19 M20 => ?_)
      refine s_isub hX dX3_endYear_67 ?_
      refine s_bipush (v := (-2)) hX dX3_endYear_68 kb_m2 ?_
      refine s_callVu (ck1 := 0) (sk1 := 0) (ci := 1) hX dX3_endYear_70 k_X2_enter q_857 (c_X2_enter n M20 j17 v4 1 (r12 - r19) ((-2))) (by decide) rfl rfl rfl ⟨Nat.le_of_ble_eq_true rfl, Nat.le_of_ble_eq_true rfl⟩ ⟨(Nat.le_of_ble_eq_true rfl), (Nat.le_of_ble_eq_true rfl)⟩ (Nat.le_of_ble_eq_true rfl) rfl rfl (fun r21 M22 => ?_)
      refine s_iinc2 (v := v4 + 1) hX dX3_endYear_73 rfl (by first | exact trivial | exact rfl) (Nat.le_of_ble_eq_true rfl) ?_
      refine s_goto (tgt := 7) hX dX3_endYear_76 rfl ?_
      refine s_forget (loc1 := [some (.ref a0), some (.int r1), some (.int (v4 + 1)), none, none, none]) ⟨rfl, rfl, rfl, trivial⟩ ?_
      exact s_back hB5
  · obtain ⟨M23, v24⟩ := s
    dsimp only
    refine s_iconst (v := 0) hX dX3_endYear_79 kc_0 ?_
    refine s_istore2 hX dX3_endYear_80 (by first | exact trivial | exact rfl) (Nat.le_of_ble_eq_true rfl) ?_
    refine s_loopE (stk := []) (fun (s : MemT × Int32) => [some (.ref a0), some (.int r1), some (.int s.2), none, none, none]) (fun (s : MemT × Int32) => s.1) 119 (fun (s : MemT × Int32) => [some (.ref a0), some (.int r1), some (.int s.2), none, none, none]) (fun s B27 hB27 hE27 => ?_) (fun s => ?_) n (M23, 0)
    · obtain ⟨M25, v26⟩ := s
      dsimp only
      refine s_iload_n hX dX3_endYear_81 rfl ?_
      refine s_aload_n hX dX3_endYear_82 rfl ?_
      refine s_getO hX dX3_endYear_83 q_391 rfl (fun j28 => ?_)
      refine s_getI hX dX3_endYear_86 q_306 rfl (fun v29 => ?_)
      refine s_icge (tgt := 119) hX dX3_endYear_89 rfl ?_ ?_
      · exact s_exit hE27
      · refine s_aload_n hX dX3_endYear_92 rfl ?_
        refine s_getO hX dX3_endYear_93 q_391 rfl (fun j30 => ?_)
        refine s_getO hX dX3_endYear_96 q_317 rfl (fun j31 => ?_)
        refine s_iload_n hX dX3_endYear_99 rfl ?_
        refine s_aald14 hX dX3_endYear_100 (fun j32 => ?_)
        refine s_getI hX dX3_endYear_101 q_234 rfl (fun v33 => ?_)
        refine s_ifne (tgt := 113) hX dX3_endYear_104 rfl ?_ ?_
        · refine s_aload_n hX dX3_endYear_107 rfl ?_
          refine s_iload_n hX dX3_endYear_108 rfl ?_
          refine s_iload_n hX dX3_endYear_109 rfl ?_
          refine s_callVu (ck1 := 0) (sk1 := 0) (ci := 2) hX dX3_endYear_110 k_X3_endInterval q_881 (c_X3_endInterval n M25 a0 v26 r1) (by decide) rfl rfl rfl ⟨Nat.le_of_ble_eq_true rfl, Nat.le_of_ble_eq_true rfl⟩ ⟨(Nat.le_of_ble_eq_true rfl), (Nat.le_of_ble_eq_true rfl)⟩ (Nat.le_of_ble_eq_true rfl) rfl rfl (fun r34 M35 => ?_)
          refine s_iinc2 (v := v26 + 1) hX dX3_endYear_113 rfl (by first | exact trivial | exact rfl) (Nat.le_of_ble_eq_true rfl) ?_
          refine s_goto (tgt := 81) hX dX3_endYear_116 rfl ?_
          exact s_back hB27
        · refine s_iinc2 (v := v26 + 1) hX dX3_endYear_113 rfl (by first | exact trivial | exact rfl) (Nat.le_of_ble_eq_true rfl) ?_
          refine s_goto (tgt := 81) hX dX3_endYear_116 rfl ?_
          exact s_back hB27
    · obtain ⟨M36, v37⟩ := s
      dsimp only
      exact s_vret hX hR dX3_endYear_119 (Nat.le_of_ble_eq_true rfl) (Nat.le_of_ble_eq_true rfl)
abbrev rm_X3_endQuarter : Room := { frames := 6, cells := 0, slots := 0, locals := 147 }
theorem k_X3_endQuarter : KYV yX3_endQuarter cX3_endQuarter 4 none 0 := ⟨⟨q_795, q_4, by decide +kernel, by decide +kernel, by decide +kernel⟩, q_793, q_794⟩
set_option maxHeartbeats 4000000 in
set_option maxRecDepth 100000 in
theorem c_X3_endQuarter (n : Nat) (M0 : MemT) (a0 : Nat) : Ct iU yX3_endQuarter cX3_endQuarter 4 none rm_X3_endQuarter [.ref a0] M0 (g_X3_endQuarter n M0 a0) := by
  unfold g_X3_endQuarter
  refine ct_intro RX3 3 [some (.ref a0), none, none, none] rfl (by decide +kernel) rfl (Nat.le_of_ble_eq_true rfl) (fun X A hX hnm hR => ?_)
  refine s_aload_n hX dX3_endQuarter_0 rfl ?_
  refine s_getO hX dX3_endQuarter_1 q_391 rfl (fun j1 => ?_)
  refine s_getI hX dX3_endQuarter_4 q_302 rfl (fun v2 => ?_)
  refine s_bipush (v := 63) hX dX3_endQuarter_7 kb_63 ?_
  refine s_iclt (tgt := 13) hX dX3_endQuarter_9 rfl ?_ ?_
  · refine s_iconst (v := 0) hX dX3_endQuarter_13 kc_0 ?_
    refine s_istore1 hX dX3_endQuarter_14 (by first | exact trivial | exact rfl) (Nat.le_of_ble_eq_true rfl) ?_
    refine s_loopE (stk := []) (fun (s : MemT × Int32) => [some (.ref a0), some (.int s.2), none, none]) (fun (s : MemT × Int32) => s.1) 93 (fun (s : MemT × Int32) => [some (.ref a0), some (.int s.2), none, none]) (fun s B5 hB5 hE5 => ?_) (fun s => ?_) n (M0, 0)
    · obtain ⟨M3, v4⟩ := s
      dsimp only
      refine s_iload_n hX dX3_endQuarter_15 rfl ?_
      refine s_aload_n hX dX3_endQuarter_16 rfl ?_
      refine s_getO hX dX3_endQuarter_17 q_389 rfl (fun j6 => ?_)
      refine s_getI hX dX3_endQuarter_20 q_103 rfl (fun v7 => ?_)
      refine s_icge (tgt := 93) hX dX3_endQuarter_23 rfl ?_ ?_
      · exact s_exit hE5
      · refine s_aload_n hX dX3_endQuarter_26 rfl ?_
        refine s_iload_n hX dX3_endQuarter_27 rfl ?_
        refine s_aload_n hX dX3_endQuarter_28 rfl ?_
        refine s_getO hX dX3_endQuarter_29 q_391 rfl (fun j8 => ?_)
        refine s_getI hX dX3_endQuarter_32 q_302 rfl (fun v9 => ?_)
        refine s_aload_n hX dX3_endQuarter_35 rfl ?_
        refine s_getO hX dX3_endQuarter_36 q_389 rfl (fun j10 => ?_)
        refine s_getO hX dX3_endQuarter_39 q_111 rfl (fun j11 => ?_)
        refine s_iload_n hX dX3_endQuarter_42 rfl ?_
        refine s_iald hX dX3_endQuarter_43 (fun v12 => ?_)
        refine s_callVi (ck1 := 0) (sk1 := 0) (ci := 2) hX dX3_endQuarter_44 k_X3_fractionByBasis q_796 (c_X3_fractionByBasis n M3 a0 v4 v9 v12) (by decide) rfl rfl rfl ⟨Nat.le_of_ble_eq_true rfl, Nat.le_of_ble_eq_true rfl⟩ ⟨(Nat.le_of_ble_eq_true rfl), (Nat.le_of_ble_eq_true rfl)⟩ (Nat.le_of_ble_eq_true rfl) rfl rfl (fun r13 M14 => ?_)
        refine s_istore2 hX dX3_endQuarter_47 (by first | exact trivial | exact rfl) (Nat.le_of_ble_eq_true rfl) ?_
        refine s_aload_n hX dX3_endQuarter_48 rfl ?_
        refine s_iload_n hX dX3_endQuarter_49 rfl ?_
        refine s_aload_n hX dX3_endQuarter_50 rfl ?_
        refine s_getO hX dX3_endQuarter_51 q_391 rfl (fun j15 => ?_)
        refine s_getI hX dX3_endQuarter_54 q_302 rfl (fun v16 => ?_)
        refine s_callVr (ck1 := 0) (sk1 := 0) (ci := 2) hX dX3_endQuarter_57 k_X3_ofQuarter q_805 (c_X3_ofQuarter n M14 a0 v4 v16) (by decide) rfl rfl rfl ⟨Nat.le_of_ble_eq_true rfl, Nat.le_of_ble_eq_true rfl⟩ ⟨(Nat.le_of_ble_eq_true rfl), (Nat.le_of_ble_eq_true rfl)⟩ (Nat.le_of_ble_eq_true rfl) rfl rfl (fun r17 M18 => ?_)
        refine s_iload_n hX dX3_endQuarter_60 rfl ?_
        refine s_callVi (ck1 := 0) (sk1 := 0) (ci := 5) hX dX3_endQuarter_61 k_X6_backBy q_836 (c_X6_backBy n M18 r17 r13) (by decide) rfl rfl rfl ⟨Nat.le_of_ble_eq_true rfl, Nat.le_of_ble_eq_true rfl⟩ ⟨(Nat.le_of_ble_eq_true rfl), (Nat.le_of_ble_eq_true rfl)⟩ (Nat.le_of_ble_eq_true rfl) rfl rfl (fun r19 M20 => ?_)
        refine s_istore3 hX dX3_endQuarter_64 (by first | exact trivial | exact rfl) (Nat.le_of_ble_eq_true rfl) ?_
        refine s_aload_n hX dX3_endQuarter_65 rfl ?_
        refine s_getO hX dX3_endQuarter_66 q_391 rfl (fun j21 => ?_)
        refine s_iload_n hX dX3_endQuarter_69 rfl ?_
        refine s_iload_n hX dX3_endQuarter_70 rfl ?_
        refine s_iload_n hX dX3_endQuarter_71 rfl ?_
        refine s_callVu (ck1 := 0) (sk1 := 0) (ci := 1) hX dX3_endQuarter_72 k_X2_keepProvisional q_853 (c_X2_keepProvisional n M20 j21 v4 r13 r19) (by decide) rfl rfl rfl ⟨Nat.le_of_ble_eq_true rfl, Nat.le_of_ble_eq_true rfl⟩ ⟨(Nat.le_of_ble_eq_true rfl), (Nat.le_of_ble_eq_true rfl)⟩ (Nat.le_of_ble_eq_true rfl) rfl rfl (fun r22 M23 => ?_)
        refine s_aload_n hX dX3_endQuarter_75 rfl ?_
        refine s_getO hX dX3_endQuarter_76 q_391 rfl (fun j24 => ?_)
        refine s_iload_n hX dX3_endQuarter_79 rfl ?_
        refine s_iconst (v := 0) hX dX3_endQuarter_80 kc_0 ?_
        refine s_iload_n hX dX3_endQuarter_81 rfl ?_
        refine s_bipush (v := (-2)) hX dX3_endQuarter_82 kb_m2 ?_
        refine s_callVu (ck1 := 0) (sk1 := 0) (ci := 1) hX dX3_endQuarter_84 k_X2_enter q_857 (c_X2_enter n M23 j24 v4 0 r19 ((-2))) (by decide) rfl rfl rfl ⟨Nat.le_of_ble_eq_true rfl, Nat.le_of_ble_eq_true rfl⟩ ⟨(Nat.le_of_ble_eq_true rfl), (Nat.le_of_ble_eq_true rfl)⟩ (Nat.le_of_ble_eq_true rfl) rfl rfl (fun r25 M26 => ?_)
        refine s_iinc1 (v := v4 + 1) hX dX3_endQuarter_87 rfl (by first | exact trivial | exact rfl) (Nat.le_of_ble_eq_true rfl) ?_
        refine s_goto (tgt := 15) hX dX3_endQuarter_90 rfl ?_
        refine s_forget (loc1 := [some (.ref a0), some (.int (v4 + 1)), none, none]) ⟨rfl, rfl, trivial⟩ ?_
        exact s_back hB5
    · obtain ⟨M27, v28⟩ := s
      dsimp only
      refine s_aload_n hX dX3_endQuarter_93 rfl ?_
      refine s_getO hX dX3_endQuarter_94 q_391 rfl (fun j29 => ?_)
      refine s_getI hX dX3_endQuarter_97 q_302 rfl (fun v30 => ?_)
      refine s_iconst (v := 4) hX dX3_endQuarter_100 kc_4 ?_
      refine s_irem hX dX3_endQuarter_101 ?_
      refine s_istore1 hX dX3_endQuarter_102 (by first | exact trivial | exact rfl) (Nat.le_of_ble_eq_true rfl) ?_
      refine s_iconst (v := 0) hX dX3_endQuarter_103 kc_0 ?_
      refine s_istore2 hX dX3_endQuarter_104 (by first | exact trivial | exact rfl) (Nat.le_of_ble_eq_true rfl) ?_
      refine s_loopE (stk := []) (fun (s : MemT × Int32) => [some (.ref a0), some (.int (v30 - v30 / 4 * 4)), some (.int s.2), none]) (fun (s : MemT × Int32) => s.1) 148 (fun (s : MemT × Int32) => [some (.ref a0), some (.int (v30 - v30 / 4 * 4)), some (.int s.2), none]) (fun s B33 hB33 hE33 => ?_) (fun s => ?_) n (M27, 0)
      · obtain ⟨M31, v32⟩ := s
        dsimp only
        refine s_iload_n hX dX3_endQuarter_105 rfl ?_
        refine s_aload_n hX dX3_endQuarter_106 rfl ?_
        refine s_getO hX dX3_endQuarter_107 q_391 rfl (fun j34 => ?_)
        refine s_getI hX dX3_endQuarter_110 q_306 rfl (fun v35 => ?_)
        refine s_icge (tgt := 148) hX dX3_endQuarter_113 rfl ?_ ?_
        · exact s_exit hE33
        · refine s_aload_n hX dX3_endQuarter_116 rfl ?_
          refine s_getO hX dX3_endQuarter_117 q_391 rfl (fun j36 => ?_)
          refine s_getO hX dX3_endQuarter_120 q_317 rfl (fun j37 => ?_)
          refine s_iload_n hX dX3_endQuarter_123 rfl ?_
          refine s_aald14 hX dX3_endQuarter_124 (fun j38 => ?_)
          refine s_getO hX dX3_endQuarter_125 q_255 rfl (fun j39 => ?_)
          refine s_iload_n hX dX3_endQuarter_128 rfl ?_
          refine s_aload_n hX dX3_endQuarter_129 rfl ?_
          refine s_getO hX dX3_endQuarter_130 q_391 rfl (fun j40 => ?_)
          refine s_getO hX dX3_endQuarter_133 q_317 rfl (fun j41 => ?_)
          refine s_iload_n hX dX3_endQuarter_136 rfl ?_
          refine s_aald14 hX dX3_endQuarter_137 (fun j42 => ?_)
          refine s_getI hX dX3_endQuarter_138 q_217 rfl (fun v43 => ?_)
          refine s_iast hX dX3_endQuarter_141 (fun M44 => ?_)
          refine s_iinc2 (v := v32 + 1) hX dX3_endQuarter_142 rfl (by first | exact trivial | exact rfl) (Nat.le_of_ble_eq_true rfl) ?_
          refine s_goto (tgt := 105) hX dX3_endQuarter_145 rfl ?_
          exact s_back hB33
      · obtain ⟨M45, v46⟩ := s
        dsimp only
        refine s_iload_n hX dX3_endQuarter_148 rfl ?_
        refine s_iconst (v := 3) hX dX3_endQuarter_149 kc_3 ?_
        refine s_jp (fun (s : MemT) => [some (.ref a0), some (.int (v30 - v30 / 4 * 4)), some (.int v46), none]) (fun (s : MemT) => []) (fun (s : MemT) => s) 0 0 157 (fun s => ?_) (fun K47 hK47 => ?_)
        · revert s
          intro M48
          try dsimp only
          refine s_aload_n hX dX3_endQuarter_157 rfl ?_
          refine s_getO hX dX3_endQuarter_158 q_391 rfl (fun j49 => ?_)
          refine s_dup hX dX3_endQuarter_161 rfl ?_
          refine s_getI hX dX3_endQuarter_162 q_302 rfl (fun v50 => ?_)
          refine s_iconst (v := 1) hX dX3_endQuarter_165 kc_1 ?_
          refine s_iadd hX dX3_endQuarter_166 ?_
          refine s_putI hX dX3_endQuarter_167 q_302 rfl rfl (fun M51 => ?_)
          refine s_aload_n hX dX3_endQuarter_170 rfl ?_
          refine s_callVu (ck1 := 0) (sk1 := 0) (ci := 2) hX dX3_endQuarter_171 k_X3_bringTold q_677 (c_X3_bringTold n M51 a0) (by decide) rfl rfl rfl ⟨Nat.le_of_ble_eq_true rfl, Nat.le_of_ble_eq_true rfl⟩ ⟨(Nat.le_of_ble_eq_true rfl), (Nat.le_of_ble_eq_true rfl)⟩ (Nat.le_of_ble_eq_true rfl) rfl rfl (fun r52 M53 => ?_)
          exact s_vret hX hR dX3_endQuarter_174 (Nat.le_of_ble_eq_true rfl) (Nat.le_of_ble_eq_true rfl)
        · refine s_icne (tgt := 157) hX dX3_endQuarter_150 rfl ?_ ?_
          · refine s_aload_n hX dX3_endQuarter_153 rfl ?_
            refine s_callVu (ck1 := 0) (sk1 := 0) (ci := 2) hX dX3_endQuarter_154 k_X3_endYear q_861 (c_X3_endYear n M45 a0) (by decide) rfl rfl rfl ⟨Nat.le_of_ble_eq_true rfl, Nat.le_of_ble_eq_true rfl⟩ ⟨(Nat.le_of_ble_eq_true rfl), (Nat.le_of_ble_eq_true rfl)⟩ (Nat.le_of_ble_eq_true rfl) rfl rfl (fun r54 M55 => ?_)
            exact hK47 _
          · exact hK47 _
  · exact s_vret hX hR dX3_endQuarter_12 (Nat.le_of_ble_eq_true rfl) (Nat.le_of_ble_eq_true rfl)
