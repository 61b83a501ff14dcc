abbrev rm_X10_isIn : Room := { frames := 0, cells := 0, slots := 0, locals := 0 }
theorem k_X10_isIn : KYS yX10_isIn cX10_isIn 3 (some .boolean) 3 := ⟨⟨q_1449, q_9, by decide +kernel, by decide +kernel, by decide +kernel⟩, q_1448⟩
set_option maxHeartbeats 4000000 in
set_option maxRecDepth 100000 in
theorem c_X10_isIn (n : Nat) (M0 : MemT) (a0 : Int32) (a1 : Int32) (a2 : Int32) : Ct iI yX10_isIn cX10_isIn 3 (some .boolean) rm_X10_isIn [.int a0, .int a1, .int a2] M0 (g_X10_isIn n M0 a0 a1 a2) := by
  unfold g_X10_isIn
  refine ct_intro RX10 0 [some (.int a0), some (.int a1), some (.int a2)] rfl (by decide +kernel) rfl (Nat.le_of_ble_eq_true rfl) (fun X A hX hnm hR => ?_)
  refine s_iload_n hX dX10_isIn_0 rfl ?_
  refine s_iload_n hX dX10_isIn_1 rfl ?_
  refine s_iclt (tgt := 14) hX dX10_isIn_2 rfl ?_ ?_
  · refine s_iconst (v := 0) hX dX10_isIn_14 kc_0 ?_
    exact s_zret hX hR dX10_isIn_15 (Nat.le_of_ble_eq_true rfl) (Nat.le_of_ble_eq_true rfl)
  · refine s_iload_n hX dX10_isIn_5 rfl ?_
    refine s_iload_n hX dX10_isIn_6 rfl ?_
    refine s_icgt (tgt := 14) hX dX10_isIn_7 rfl ?_ ?_
    · refine s_iconst (v := 0) hX dX10_isIn_14 kc_0 ?_
      exact s_zret hX hR dX10_isIn_15 (Nat.le_of_ble_eq_true rfl) (Nat.le_of_ble_eq_true rfl)
    · refine s_iconst (v := 1) hX dX10_isIn_10 kc_1 ?_
      refine s_goto (tgt := 15) hX dX10_isIn_11 rfl ?_
      exact s_zret hX hR dX10_isIn_15 (Nat.le_of_ble_eq_true rfl) (Nat.le_of_ble_eq_true rfl)
abbrev rm_X10_wrong : Room := { frames := 0, cells := 0, slots := 0, locals := 0 }
theorem k_X10_wrong : KYV yX10_wrong cX10_wrong 2 (some .boolean) 1 := ⟨⟨q_1434, q_9, by decide +kernel, by decide +kernel, by decide +kernel⟩, q_1433, p_56⟩
set_option maxHeartbeats 4000000 in
set_option maxRecDepth 100000 in
theorem c_X10_wrong (n : Nat) (M0 : MemT) (a0 : Nat) (a1 : Int32) : Ct iI yX10_wrong cX10_wrong 2 (some .boolean) rm_X10_wrong [.ref a0, .int a1] M0 (g_X10_wrong n M0 a0 a1) := by
  unfold g_X10_wrong
  refine ct_intro RX10 0 [some (.ref a0), some (.int a1)] rfl (by decide +kernel) rfl (Nat.le_of_ble_eq_true rfl) (fun X A hX hnm hR => ?_)
  refine s_aload_n hX dX10_wrong_0 rfl ?_
  refine s_iload_n hX dX10_wrong_1 rfl ?_
  refine s_putI hX dX10_wrong_2 q_1310 rfl rfl (fun M1 => ?_)
  refine s_aload_n hX dX10_wrong_5 rfl ?_
  refine s_aload_n hX dX10_wrong_6 rfl ?_
  refine s_getI hX dX10_wrong_7 q_1316 rfl (fun v2 => ?_)
  refine s_putI hX dX10_wrong_10 q_1311 rfl rfl (fun M3 => ?_)
  refine s_iconst (v := 0) hX dX10_wrong_13 kc_0 ?_
  exact s_zret hX hR dX10_wrong_14 (Nat.le_of_ble_eq_true rfl) (Nat.le_of_ble_eq_true rfl)
abbrev rm_X10_wordAt : Room := { frames := 0, cells := 0, slots := 0, locals := 0 }
theorem k_X10_wordAt : KYV yX10_wordAt cX10_wordAt 8 (some .int) 2 := ⟨⟨q_1417, q_9, by decide +kernel, by decide +kernel, by decide +kernel⟩, q_1416, p_52⟩
set_option maxHeartbeats 4000000 in
set_option maxRecDepth 100000 in
theorem c_X10_wordAt (n : Nat) (M0 : MemT) (a0 : Nat) (a1 : Int32) (a2 : Int32) : Ct iI yX10_wordAt cX10_wordAt 8 (some .int) rm_X10_wordAt [.ref a0, .int a1, .int a2] M0 (g_X10_wordAt n M0 a0 a1 a2) := by
  unfold g_X10_wordAt
  refine ct_intro RX10 5 [some (.ref a0), some (.int a1), some (.int a2), none, none, none, none, none] rfl (by decide +kernel) rfl (Nat.le_of_ble_eq_true rfl) (fun X A hX hnm hR => ?_)
  refine s_iconst (v := 0) hX dX10_wordAt_0 kc_0 ?_
  refine s_istore3 hX dX10_wordAt_1 (by first | exact trivial | exact rfl) (Nat.le_of_ble_eq_true rfl) ?_
  refine s_iconst (v := 0) hX dX10_wordAt_2 kc_0 ?_
  refine s_istore4 hX dX10_wordAt_3 (by first | exact trivial | exact rfl) (Nat.le_of_ble_eq_true rfl) ?_
  refine s_loop (stk := []) (fun (s : MemT × Int32 × Int32) => [some (.ref a0), some (.int a1), some (.int a2), some (.int s.2.1), some (.int s.2.2), none, none, none]) (fun (s : MemT × Int32 × Int32) => s.1) (fun s B4 hB4 hI4 => ?_) n (M0, 0, 0)
  obtain ⟨M1, v2, v3⟩ := s
  dsimp only
  refine s_iload hX dX10_wordAt_5 rfl ?_
  refine s_aload_n hX dX10_wordAt_7 rfl ?_
  refine s_getO hX dX10_wordAt_8 q_1309 rfl (fun j5 => ?_)
  refine s_alen hX dX10_wordAt_11 (fun v6 => ?_)
  refine s_icge (tgt := 126) hX dX10_wordAt_12 rfl ?_ ?_
  · refine s_iconst (v := (-1)) hX dX10_wordAt_126 kc_m1 ?_
    exact s_inr hI4 (s_iret hX hR dX10_wordAt_127 (Nat.le_of_ble_eq_true rfl) (Nat.le_of_ble_eq_true rfl))
  · refine s_iconst (v := 0) hX dX10_wordAt_15 kc_0 ?_
    refine s_istore5 hX dX10_wordAt_16 (by first | exact trivial | exact rfl) (Nat.le_of_ble_eq_true rfl) ?_
    refine s_loopE (stk := []) (fun (s : MemT × Int32) => [some (.ref a0), some (.int a1), some (.int a2), some (.int v2), some (.int v3), some (.int s.2), none, none]) (fun (s : MemT × Int32) => s.1) 39 (fun (s : MemT × Int32) => [some (.ref a0), some (.int a1), some (.int a2), some (.int v2), some (.int v3), some (.int s.2), none, none]) (fun s B9 hB9 hE9 => ?_) (fun s => ?_) n (M1, 0)
    · obtain ⟨M7, v8⟩ := s
      dsimp only
      refine s_aload_n hX dX10_wordAt_18 rfl ?_
      refine s_getO hX dX10_wordAt_19 q_1309 rfl (fun j10 => ?_)
      refine s_iload hX dX10_wordAt_22 rfl ?_
      refine s_iload hX dX10_wordAt_24 rfl ?_
      refine s_iadd hX dX10_wordAt_26 ?_
      refine s_iald hX dX10_wordAt_27 (fun v11 => ?_)
      refine s_bipush (v := 32) hX dX10_wordAt_28 kb_32 ?_
      refine s_iceq (tgt := 39) hX dX10_wordAt_30 rfl ?_ ?_
      · exact s_exit hE9
      · refine s_iinc5 (v := v8 + 1) hX dX10_wordAt_33 rfl (by first | exact trivial | exact rfl) (Nat.le_of_ble_eq_true rfl) ?_
        refine s_goto (tgt := 18) hX dX10_wordAt_36 rfl ?_
        exact s_back hB9
    · obtain ⟨M12, v13⟩ := s
      dsimp only
      refine s_iload hX dX10_wordAt_39 rfl ?_
      refine s_iload_n hX dX10_wordAt_41 rfl ?_
      refine s_iload_n hX dX10_wordAt_42 rfl ?_
      refine s_isub hX dX10_wordAt_43 ?_
      refine s_jp (fun (s : MemT × Int32) => [some (.ref a0), some (.int a1), some (.int a2), some (.int v2), some (.int v3), some (.int v13), none, none]) (fun (s : MemT × Int32) => [.int s.2]) (fun (s : MemT × Int32) => s.1) 0 0 52 (fun s => ?_) (fun K14 hK14 => ?_)
      · obtain ⟨M15, v16⟩ := s
        dsimp only
        refine s_istore6 hX dX10_wordAt_52 (by first | exact trivial | exact rfl) (Nat.le_of_ble_eq_true rfl) ?_
        refine s_iconst (v := 0) hX dX10_wordAt_54 kc_0 ?_
        refine s_istore7 hX dX10_wordAt_55 (by first | exact trivial | exact rfl) (Nat.le_of_ble_eq_true rfl) ?_
        refine s_loopE (stk := []) (fun (s : MemT × Int32 × Int32) => [some (.ref a0), some (.int a1), some (.int a2), some (.int v2), some (.int v3), some (.int v13), some (.int s.2.1), some (.int s.2.2)]) (fun (s : MemT × Int32 × Int32) => s.1) 104 (fun (s : MemT × Int32 × Int32) => [some (.ref a0), some (.int a1), some (.int a2), some (.int v2), some (.int v3), some (.int v13), some (.int s.2.1), some (.int s.2.2)]) (fun s B20 hB20 hE20 => ?_) (fun s => ?_) n (M15, v16, 0)
        · obtain ⟨M17, v18, v19⟩ := s
          dsimp only
          refine s_iload hX dX10_wordAt_57 rfl ?_
          refine s_iload hX dX10_wordAt_59 rfl ?_
          refine s_icge (tgt := 104) hX dX10_wordAt_61 rfl ?_ ?_
          · exact s_exit hE20
          · refine s_iload hX dX10_wordAt_64 rfl ?_
            refine s_ifeq (tgt := 104) hX dX10_wordAt_66 rfl ?_ ?_
            · exact s_exit hE20
            · refine s_aload_n hX dX10_wordAt_69 rfl ?_
              refine s_getO hX dX10_wordAt_70 q_1309 rfl (fun j21 => ?_)
              refine s_iload hX dX10_wordAt_73 rfl ?_
              refine s_iload hX dX10_wordAt_75 rfl ?_
              refine s_iadd hX dX10_wordAt_77 ?_
              refine s_iald hX dX10_wordAt_78 (fun v22 => ?_)
              refine s_aload_n hX dX10_wordAt_79 rfl ?_
              refine s_getO hX dX10_wordAt_80 q_1306 rfl (fun j23 => ?_)
              refine s_iload_n hX dX10_wordAt_83 rfl ?_
              refine s_iload hX dX10_wordAt_84 rfl ?_
              refine s_iadd hX dX10_wordAt_86 ?_
              refine s_iald hX dX10_wordAt_87 (fun v24 => ?_)
              refine s_icne (tgt := 95) hX dX10_wordAt_88 rfl ?_ ?_
              · refine s_iconst (v := 1) hX dX10_wordAt_91 kc_1 ?_
                refine s_goto (tgt := 96) hX dX10_wordAt_92 rfl ?_
                refine s_istore6 hX dX10_wordAt_96 (by first | exact trivial | exact rfl) (Nat.le_of_ble_eq_true rfl) ?_
                refine s_iinc7 (v := v19 + 1) hX dX10_wordAt_98 rfl (by first | exact trivial | exact rfl) (Nat.le_of_ble_eq_true rfl) ?_
                refine s_goto (tgt := 57) hX dX10_wordAt_101 rfl ?_
                exact s_back hB20
              · refine s_iconst (v := 0) hX dX10_wordAt_95 kc_0 ?_
                refine s_istore6 hX dX10_wordAt_96 (by first | exact trivial | exact rfl) (Nat.le_of_ble_eq_true rfl) ?_
                refine s_iinc7 (v := v19 + 1) hX dX10_wordAt_98 rfl (by first | exact trivial | exact rfl) (Nat.le_of_ble_eq_true rfl) ?_
                refine s_goto (tgt := 57) hX dX10_wordAt_101 rfl ?_
                exact s_back hB20
        · obtain ⟨M25, v26, v27⟩ := s
          dsimp only
          refine s_iload hX dX10_wordAt_104 rfl ?_
          refine s_ifeq (tgt := 111) hX dX10_wordAt_106 rfl ?_ ?_
          · refine s_iload hX dX10_wordAt_111 rfl ?_
            refine s_iload hX dX10_wordAt_113 rfl ?_
            refine s_iconst (v := 1) hX dX10_wordAt_115 kc_1 ?_
            refine s_iadd hX dX10_wordAt_116 ?_
            refine s_iadd hX dX10_wordAt_117 ?_
            refine s_istore4 hX dX10_wordAt_118 (by first | exact trivial | exact rfl) (Nat.le_of_ble_eq_true rfl) ?_
            refine s_iinc3 (v := v2 + 1) hX dX10_wordAt_120 rfl (by first | exact trivial | exact rfl) (Nat.le_of_ble_eq_true rfl) ?_
            refine s_goto (tgt := 5) hX dX10_wordAt_123 rfl ?_
            refine s_forget (loc1 := [some (.ref a0), some (.int a1), some (.int a2), some (.int (v2 + 1)), some (.int (v3 + (v13 + 1))), none, none, none]) ⟨rfl, rfl, rfl, rfl, rfl, trivial⟩ ?_
            exact s_back hB4
          · refine s_iload_n hX dX10_wordAt_109 rfl ?_
            exact s_inr hI4 (s_iret hX hR dX10_wordAt_110 (Nat.le_of_ble_eq_true rfl) (Nat.le_of_ble_eq_true rfl))
      · refine s_icne (tgt := 51) hX dX10_wordAt_44 rfl ?_ ?_
        · refine s_iconst (v := 1) hX dX10_wordAt_47 kc_1 ?_
          refine s_goto (tgt := 52) hX dX10_wordAt_48 rfl ?_
          exact hK14 _
        · refine s_iconst (v := 0) hX dX10_wordAt_51 kc_0 ?_
          exact hK14 _
abbrev rm_X10_isSmall : Room := { frames := 0, cells := 0, slots := 0, locals := 0 }
theorem k_X10_isSmall : KYV yX10_isSmall cX10_isSmall 2 (some .boolean) 1 := ⟨⟨q_1413, q_9, by decide +kernel, by decide +kernel, by decide +kernel⟩, q_1412, p_51⟩
set_option maxHeartbeats 4000000 in
set_option maxRecDepth 100000 in
theorem c_X10_isSmall (n : Nat) (M0 : MemT) (a0 : Nat) (a1 : Int32) : Ct iI yX10_isSmall cX10_isSmall 2 (some .boolean) rm_X10_isSmall [.ref a0, .int a1] M0 (g_X10_isSmall n M0 a0 a1) := by
  unfold g_X10_isSmall
  refine ct_intro RX10 0 [some (.ref a0), some (.int a1)] rfl (by decide +kernel) rfl (Nat.le_of_ble_eq_true rfl) (fun X A hX hnm hR => ?_)
  refine s_iload_n hX dX10_isSmall_0 rfl ?_
  refine s_aload_n hX dX10_isSmall_1 rfl ?_
  refine s_getI hX dX10_isSmall_2 q_1312 rfl (fun v1 => ?_)
  refine s_icge (tgt := 34) hX dX10_isSmall_5 rfl ?_ ?_
  · refine s_iconst (v := 0) hX dX10_isSmall_34 kc_0 ?_
    exact s_zret hX hR dX10_isSmall_35 (Nat.le_of_ble_eq_true rfl) (Nat.le_of_ble_eq_true rfl)
  · refine s_aload_n hX dX10_isSmall_8 rfl ?_
    refine s_getO hX dX10_isSmall_9 q_1306 rfl (fun j2 => ?_)
    refine s_iload_n hX dX10_isSmall_12 rfl ?_
    refine s_iald hX dX10_isSmall_13 (fun v3 => ?_)
    refine s_bipush (v := 97) hX dX10_isSmall_14 kb_97 ?_
    refine s_iclt (tgt := 34) hX dX10_isSmall_16 rfl ?_ ?_
    · refine s_iconst (v := 0) hX dX10_isSmall_34 kc_0 ?_
      exact s_zret hX hR dX10_isSmall_35 (Nat.le_of_ble_eq_true rfl) (Nat.le_of_ble_eq_true rfl)
    · refine s_aload_n hX dX10_isSmall_19 rfl ?_
      refine s_getO hX dX10_isSmall_20 q_1306 rfl (fun j4 => ?_)
      refine s_iload_n hX dX10_isSmall_23 rfl ?_
      refine s_iald hX dX10_isSmall_24 (fun v5 => ?_)
      refine s_bipush (v := 122) hX dX10_isSmall_25 kb_122 ?_
      refine s_icgt (tgt := 34) hX dX10_isSmall_27 rfl ?_ ?_
      · refine s_iconst (v := 0) hX dX10_isSmall_34 kc_0 ?_
        exact s_zret hX hR dX10_isSmall_35 (Nat.le_of_ble_eq_true rfl) (Nat.le_of_ble_eq_true rfl)
      · refine s_iconst (v := 1) hX dX10_isSmall_30 kc_1 ?_
        refine s_goto (tgt := 35) hX dX10_isSmall_31 rfl ?_
        exact s_zret hX hR dX10_isSmall_35 (Nat.le_of_ble_eq_true rfl) (Nat.le_of_ble_eq_true rfl)
abbrev rm_X10_isDigit : Room := { frames := 0, cells := 0, slots := 0, locals := 0 }
theorem k_X10_isDigit : KYV yX10_isDigit cX10_isDigit 2 (some .boolean) 1 := ⟨⟨q_1425, q_9, by decide +kernel, by decide +kernel, by decide +kernel⟩, q_1424, p_54⟩
set_option maxHeartbeats 4000000 in
set_option maxRecDepth 100000 in
theorem c_X10_isDigit (n : Nat) (M0 : MemT) (a0 : Nat) (a1 : Int32) : Ct iI yX10_isDigit cX10_isDigit 2 (some .boolean) rm_X10_isDigit [.ref a0, .int a1] M0 (g_X10_isDigit n M0 a0 a1) := by
  unfold g_X10_isDigit
  refine ct_intro RX10 0 [some (.ref a0), some (.int a1)] rfl (by decide +kernel) rfl (Nat.le_of_ble_eq_true rfl) (fun X A hX hnm hR => ?_)
  refine s_iload_n hX dX10_isDigit_0 rfl ?_
  refine s_aload_n hX dX10_isDigit_1 rfl ?_
  refine s_getI hX dX10_isDigit_2 q_1312 rfl (fun v1 => ?_)
  refine s_icge (tgt := 34) hX dX10_isDigit_5 rfl ?_ ?_
  · refine s_iconst (v := 0) hX dX10_isDigit_34 kc_0 ?_
    exact s_zret hX hR dX10_isDigit_35 (Nat.le_of_ble_eq_true rfl) (Nat.le_of_ble_eq_true rfl)
  · refine s_aload_n hX dX10_isDigit_8 rfl ?_
    refine s_getO hX dX10_isDigit_9 q_1306 rfl (fun j2 => ?_)
    refine s_iload_n hX dX10_isDigit_12 rfl ?_
    refine s_iald hX dX10_isDigit_13 (fun v3 => ?_)
    refine s_bipush (v := 48) hX dX10_isDigit_14 kb_48 ?_
    refine s_iclt (tgt := 34) hX dX10_isDigit_16 rfl ?_ ?_
    · refine s_iconst (v := 0) hX dX10_isDigit_34 kc_0 ?_
      exact s_zret hX hR dX10_isDigit_35 (Nat.le_of_ble_eq_true rfl) (Nat.le_of_ble_eq_true rfl)
    · refine s_aload_n hX dX10_isDigit_19 rfl ?_
      refine s_getO hX dX10_isDigit_20 q_1306 rfl (fun j4 => ?_)
      refine s_iload_n hX dX10_isDigit_23 rfl ?_
      refine s_iald hX dX10_isDigit_24 (fun v5 => ?_)
      refine s_bipush (v := 57) hX dX10_isDigit_25 kb_57 ?_
      refine s_icgt (tgt := 34) hX dX10_isDigit_27 rfl ?_ ?_
      · refine s_iconst (v := 0) hX dX10_isDigit_34 kc_0 ?_
        exact s_zret hX hR dX10_isDigit_35 (Nat.le_of_ble_eq_true rfl) (Nat.le_of_ble_eq_true rfl)
      · refine s_iconst (v := 1) hX dX10_isDigit_30 kc_1 ?_
        refine s_goto (tgt := 35) hX dX10_isDigit_31 rfl ?_
        exact s_zret hX hR dX10_isDigit_35 (Nat.le_of_ble_eq_true rfl) (Nat.le_of_ble_eq_true rfl)
abbrev rm_X10_packed : Room := { frames := 0, cells := 0, slots := 0, locals := 0 }
theorem k_X10_packed : KYV yX10_packed cX10_packed 5 (some .int) 2 := ⟨⟨q_1421, q_9, by decide +kernel, by decide +kernel, by decide +kernel⟩, q_1420, p_53⟩
set_option maxHeartbeats 4000000 in
set_option maxRecDepth 100000 in
theorem c_X10_packed (n : Nat) (M0 : MemT) (a0 : Nat) (a1 : Int32) (a2 : Int32) : Ct iI yX10_packed cX10_packed 5 (some .int) rm_X10_packed [.ref a0, .int a1, .int a2] M0 (g_X10_packed n M0 a0 a1 a2) := by
  unfold g_X10_packed
  refine ct_intro RX10 2 [some (.ref a0), some (.int a1), some (.int a2), none, none] rfl (by decide +kernel) rfl (Nat.le_of_ble_eq_true rfl) (fun X A hX hnm hR => ?_)
  refine s_iconst (v := 0) hX dX10_packed_0 kc_0 ?_
  refine s_istore3 hX dX10_packed_1 (by first | exact trivial | exact rfl) (Nat.le_of_ble_eq_true rfl) ?_
  refine s_iload_n hX dX10_packed_2 rfl ?_
  refine s_istore4 hX dX10_packed_3 (by first | exact trivial | exact rfl) (Nat.le_of_ble_eq_true rfl) ?_
  refine s_loopE (stk := []) (fun (s : MemT × Int32 × Int32) => [some (.ref a0), some (.int a1), some (.int a2), some (.int s.2.1), some (.int s.2.2)]) (fun (s : MemT × Int32 × Int32) => s.1) 45 (fun (s : MemT × Int32 × Int32) => [some (.ref a0), some (.int a1), some (.int a2), some (.int s.2.1), some (.int s.2.2)]) (fun s B4 hB4 hE4 => ?_) (fun s => ?_) n (M0, 0, a1)
  · obtain ⟨M1, v2, v3⟩ := s
    dsimp only
    refine s_iload hX dX10_packed_5 rfl ?_
    refine s_iload_n hX dX10_packed_7 rfl ?_
    refine s_bipush (v := 6) hX dX10_packed_8 kb_6 ?_
    refine s_iadd hX dX10_packed_10 ?_
    refine s_icge (tgt := 45) hX dX10_packed_11 rfl ?_ ?_
    · exact s_exit hE4
    · refine s_iload_n hX dX10_packed_14 rfl ?_
      refine s_iconst (v := 5) hX dX10_packed_15 kc_5 ?_
      refine s_ishl hX dX10_packed_16 ?_
      refine s_iload hX dX10_packed_17 rfl ?_
      refine s_iload_n hX dX10_packed_19 rfl ?_
      refine s_icge (tgt := 36) hX dX10_packed_20 rfl ?_ ?_
      · refine s_iconst (v := 0) hX dX10_packed_36 kc_0 ?_
        refine s_ior hX dX10_packed_37 ?_
        refine s_istore3 hX dX10_packed_38 (by first | exact trivial | exact rfl) (Nat.le_of_ble_eq_true rfl) ?_
        refine s_iinc4 (v := v3 + 1) hX dX10_packed_39 rfl (by first | exact trivial | exact rfl) (Nat.le_of_ble_eq_true rfl) ?_
        refine s_goto (tgt := 5) hX dX10_packed_42 rfl ?_
        exact s_back hB4
      · refine s_aload_n hX dX10_packed_23 rfl ?_
        refine s_getO hX dX10_packed_24 q_1306 rfl (fun j5 => ?_)
        refine s_iload hX dX10_packed_27 rfl ?_
        refine s_iald hX dX10_packed_29 (fun v6 => ?_)
        refine s_bipush (v := 96) hX dX10_packed_30 kb_96 ?_
        refine s_isub hX dX10_packed_32 ?_
        refine s_goto (tgt := 37) hX dX10_packed_33 rfl ?_
        refine s_ior hX dX10_packed_37 ?_
        refine s_istore3 hX dX10_packed_38 (by first | exact trivial | exact rfl) (Nat.le_of_ble_eq_true rfl) ?_
        refine s_iinc4 (v := v3 + 1) hX dX10_packed_39 rfl (by first | exact trivial | exact rfl) (Nat.le_of_ble_eq_true rfl) ?_
        refine s_goto (tgt := 5) hX dX10_packed_42 rfl ?_
        exact s_back hB4
  · obtain ⟨M7, v8, v9⟩ := s
    dsimp only
    refine s_iload_n hX dX10_packed_45 rfl ?_
    exact s_iret hX hR dX10_packed_46 (Nat.le_of_ble_eq_true rfl) (Nat.le_of_ble_eq_true rfl)
abbrev rm_X10_token : Room := { frames := 1, cells := 0, slots := 0, locals := 27 }
theorem k_X10_token : KYV yX10_token cX10_token 1 none 0 := ⟨⟨q_1409, q_9, by decide +kernel, by decide +kernel, by decide +kernel⟩, q_1408, p_50⟩
set_option maxHeartbeats 4000000 in
set_option maxRecDepth 100000 in
theorem c_X10_token (n : Nat) (M0 : MemT) (a0 : Nat) : Ct iU yX10_token cX10_token 1 none rm_X10_token [.ref a0] M0 (g_X10_token n M0 a0) := by
  unfold g_X10_token
  refine ct_intro RX10 0 [some (.ref a0)] rfl (by decide +kernel) rfl (Nat.le_of_ble_eq_true rfl) (fun X A hX hnm hR => ?_)
  refine s_loopE (stk := []) (fun (s : MemT) => [some (.ref a0)]) (fun (s : MemT) => s) 52 (fun (s : MemT) => [some (.ref a0)]) (fun s B2 hB2 hE2 => ?_) (fun s => ?_) n M0
  · obtain ⟨M1, e2⟩ : ∃ z, z = s := ⟨_, rfl⟩
    subst e2
    try dsimp only
    refine s_aload_n hX dX10_token_0 rfl ?_
    refine s_getI hX dX10_token_1 q_1313 rfl (fun v3 => ?_)
    refine s_aload_n hX dX10_token_4 rfl ?_
    refine s_getI hX dX10_token_5 q_1312 rfl (fun v4 => ?_)
    refine s_icge (tgt := 52) hX dX10_token_8 rfl ?_ ?_
    · exact s_exit hE2
    · refine s_aload_n hX dX10_token_11 rfl ?_
      refine s_getO hX dX10_token_12 q_1306 rfl (fun j5 => ?_)
      refine s_aload_n hX dX10_token_15 rfl ?_
      refine s_getI hX dX10_token_16 q_1313 rfl (fun v6 => ?_)
      refine s_iald hX dX10_token_19 (fun v7 => ?_)
      refine s_bipush (v := 10) hX dX10_token_20 kb_10 ?_
      refine s_jp (fun (s : MemT) => [some (.ref a0)]) (fun (s : MemT) => []) (fun (s : MemT) => s) 0 0 39 (fun s => ?_) (fun K8 hK8 => ?_)
      · revert s
        intro M9
        try dsimp only
        refine s_aload_n hX dX10_token_39 rfl ?_
        refine s_dup hX dX10_token_40 rfl ?_
        refine s_getI hX dX10_token_41 q_1313 rfl (fun v10 => ?_)
        refine s_iconst (v := 1) hX dX10_token_44 kc_1 ?_
        refine s_iadd hX dX10_token_45 ?_
        refine s_putI hX dX10_token_46 q_1313 rfl rfl (fun M11 => ?_)
        refine s_goto (tgt := 0) hX dX10_token_49 rfl ?_
        exact s_back hB2
      · refine s_iceq (tgt := 39) hX dX10_token_22 rfl ?_ ?_
        · exact hK8 _
        · refine s_aload_n hX dX10_token_25 rfl ?_
          refine s_getO hX dX10_token_26 q_1306 rfl (fun j12 => ?_)
          refine s_aload_n hX dX10_token_29 rfl ?_
          refine s_getI hX dX10_token_30 q_1313 rfl (fun v13 => ?_)
          refine s_iald hX dX10_token_33 (fun v14 => ?_)
          refine s_bipush (v := 32) hX dX10_token_34 kb_32 ?_
          refine s_icne (tgt := 52) hX dX10_token_36 rfl ?_ ?_
          · exact hK8 _
          · exact s_exit hE2
  · obtain ⟨M15, e2⟩ : ∃ z, z = s := ⟨_, rfl⟩
    subst e2
    try dsimp only
    refine s_aload_n hX dX10_token_52 rfl ?_
    refine s_aload_n hX dX10_token_53 rfl ?_
    refine s_getI hX dX10_token_54 q_1313 rfl (fun v16 => ?_)
    refine s_putI hX dX10_token_57 q_1316 rfl rfl (fun M17 => ?_)
    refine s_aload_n hX dX10_token_60 rfl ?_
    refine s_getI hX dX10_token_61 q_1313 rfl (fun v18 => ?_)
    refine s_aload_n hX dX10_token_64 rfl ?_
    refine s_getI hX dX10_token_65 q_1312 rfl (fun v19 => ?_)
    refine s_icne (tgt := 79) hX dX10_token_68 rfl ?_ ?_
    · refine s_aload_n hX dX10_token_71 rfl ?_
      refine s_iconst (v := 0) hX dX10_token_72 kc_0 ?_
      refine s_putI hX dX10_token_73 q_1314 rfl rfl (fun M20 => ?_)
      refine s_goto (tgt := 309) hX dX10_token_76 rfl ?_
      exact s_vret hX hR dX10_token_309 (Nat.le_of_ble_eq_true rfl) (Nat.le_of_ble_eq_true rfl)
    · refine s_aload_n hX dX10_token_79 rfl ?_
      refine s_aload_n hX dX10_token_80 rfl ?_
      refine s_getI hX dX10_token_81 q_1313 rfl (fun v21 => ?_)
      refine s_callVi (ck1 := 0) (sk1 := 0) (ci := 8) hX dX10_token_84 k_X10_isSmall q_1410 (c_X10_isSmall n M17 a0 v21) (by decide) rfl rfl rfl ⟨Nat.le_of_ble_eq_true rfl, Nat.le_of_ble_eq_true rfl⟩ ⟨(Nat.le_of_ble_eq_true rfl), (Nat.le_of_ble_eq_true rfl)⟩ (Nat.le_of_ble_eq_true rfl) rfl rfl (fun r22 M23 => ?_)
      refine s_ifeq (tgt := 191) hX dX10_token_87 rfl ?_ ?_
      · refine s_aload_n hX dX10_token_191 rfl ?_
        refine s_aload_n hX dX10_token_192 rfl ?_
        refine s_getI hX dX10_token_193 q_1313 rfl (fun v50 => ?_)
        refine s_callVi (ck1 := 0) (sk1 := 0) (ci := 8) hX dX10_token_196 k_X10_isDigit q_1422 (c_X10_isDigit n M23 a0 v50) (by decide) rfl rfl rfl ⟨Nat.le_of_ble_eq_true rfl, Nat.le_of_ble_eq_true rfl⟩ ⟨(Nat.le_of_ble_eq_true rfl), (Nat.le_of_ble_eq_true rfl)⟩ (Nat.le_of_ble_eq_true rfl) rfl rfl (fun r51 M52 => ?_)
        refine s_ifeq (tgt := 276) hX dX10_token_199 rfl ?_ ?_
        · refine s_aload_n hX dX10_token_276 rfl ?_
          refine s_aload_n hX dX10_token_277 rfl ?_
          refine s_getO hX dX10_token_278 q_1306 rfl (fun j73 => ?_)
          refine s_aload_n hX dX10_token_281 rfl ?_
          refine s_getI hX dX10_token_282 q_1313 rfl (fun v74 => ?_)
          refine s_iald hX dX10_token_285 (fun v75 => ?_)
          refine s_bipush (v := 59) hX dX10_token_286 kb_59 ?_
          refine s_jp (fun (s : MemT × Int32) => [some (.ref a0)]) (fun (s : MemT × Int32) => [.int s.2, .ref a0]) (fun (s : MemT × Int32) => s.1) 0 0 296 (fun s => ?_) (fun K76 hK76 => ?_)
          · obtain ⟨M77, v78⟩ := s
            dsimp only
            refine s_putI hX dX10_token_296 q_1314 rfl rfl (fun M79 => ?_)
            refine s_aload_n hX dX10_token_299 rfl ?_
            refine s_dup hX dX10_token_300 rfl ?_
            refine s_getI hX dX10_token_301 q_1313 rfl (fun v80 => ?_)
            refine s_iconst (v := 1) hX dX10_token_304 kc_1 ?_
            refine s_iadd hX dX10_token_305 ?_
            refine s_putI hX dX10_token_306 q_1313 rfl rfl (fun M81 => ?_)
            exact s_vret hX hR dX10_token_309 (Nat.le_of_ble_eq_true rfl) (Nat.le_of_ble_eq_true rfl)
          · refine s_icne (tgt := 295) hX dX10_token_288 rfl ?_ ?_
            · refine s_iconst (v := 4) hX dX10_token_291 kc_4 ?_
              refine s_goto (tgt := 296) hX dX10_token_292 rfl ?_
              exact hK76 _
            · refine s_iconst (v := 5) hX dX10_token_295 kc_5 ?_
              exact hK76 _
        · refine s_aload_n hX dX10_token_202 rfl ?_
          refine s_iconst (v := 3) hX dX10_token_203 kc_3 ?_
          refine s_putI hX dX10_token_204 q_1314 rfl rfl (fun M53 => ?_)
          refine s_aload_n hX dX10_token_207 rfl ?_
          refine s_iconst (v := 0) hX dX10_token_208 kc_0 ?_
          refine s_putI hX dX10_token_209 q_1315 rfl rfl (fun M54 => ?_)
          refine s_loopE (stk := []) (fun (s : MemT) => [some (.ref a0)]) (fun (s : MemT) => s) 309 (fun (s : MemT) => [some (.ref a0)]) (fun s B56 hB56 hE56 => ?_) (fun s => ?_) n M54
          · obtain ⟨M55, e56⟩ : ∃ z, z = s := ⟨_, rfl⟩
            subst e56
            try dsimp only
            refine s_aload_n hX dX10_token_212 rfl ?_
            refine s_aload_n hX dX10_token_213 rfl ?_
            refine s_getI hX dX10_token_214 q_1313 rfl (fun v57 => ?_)
            refine s_callVi (ck1 := 0) (sk1 := 0) (ci := 8) hX dX10_token_217 k_X10_isDigit q_1422 (c_X10_isDigit n M55 a0 v57) (by decide) rfl rfl rfl ⟨Nat.le_of_ble_eq_true rfl, Nat.le_of_ble_eq_true rfl⟩ ⟨(Nat.le_of_ble_eq_true rfl), (Nat.le_of_ble_eq_true rfl)⟩ (Nat.le_of_ble_eq_true rfl) rfl rfl (fun r58 M59 => ?_)
            refine s_ifeq (tgt := 309) hX dX10_token_220 rfl ?_ ?_
            · exact s_exit hE56
            · refine s_aload_n hX dX10_token_223 rfl ?_
              refine s_aload_n hX dX10_token_224 rfl ?_
              refine s_getI hX dX10_token_225 q_1315 rfl (fun v60 => ?_)
              refine s_ldc hX dX10_token_228 q_1426 ?_
              refine s_jp (fun (s : MemT × Int32) => [some (.ref a0)]) (fun (s : MemT × Int32) => [.int s.2, .ref a0]) (fun (s : MemT × Int32) => s.1) 0 0 260 (fun s => ?_) (fun K61 hK61 => ?_)
              · obtain ⟨M62, v63⟩ := s
                dsimp only
                refine s_putI hX dX10_token_260 q_1315 rfl rfl (fun M64 => ?_)
                refine s_aload_n hX dX10_token_263 rfl ?_
                refine s_dup hX dX10_token_264 rfl ?_
                refine s_getI hX dX10_token_265 q_1313 rfl (fun v65 => ?_)
                refine s_iconst (v := 1) hX dX10_token_268 kc_1 ?_
                refine s_iadd hX dX10_token_269 ?_
                refine s_putI hX dX10_token_270 q_1313 rfl rfl (fun M66 => ?_)
                refine s_goto (tgt := 212) hX dX10_token_273 rfl ?_
                exact s_back hB56
              · refine s_icle (tgt := 240) hX dX10_token_230 rfl ?_ ?_
                · refine s_bipush (v := 10) hX dX10_token_240 kb_10 ?_
                  refine s_aload_n hX dX10_token_242 rfl ?_
                  refine s_getI hX dX10_token_243 q_1315 rfl (fun v68 => ?_)
                  refine s_imul hX dX10_token_246 ?_
                  refine s_aload_n hX dX10_token_247 rfl ?_
                  refine s_getO hX dX10_token_248 q_1306 rfl (fun j69 => ?_)
                  refine s_aload_n hX dX10_token_251 rfl ?_
                  refine s_getI hX dX10_token_252 q_1313 rfl (fun v70 => ?_)
                  refine s_iald hX dX10_token_255 (fun v71 => ?_)
                  refine s_iadd hX dX10_token_256 ?_
                  refine s_bipush (v := 48) hX dX10_token_257 kb_48 ?_
                  refine s_isub hX dX10_token_259 ?_
                  exact hK61 _
                · refine s_aload_n hX dX10_token_233 rfl ?_
                  refine s_getI hX dX10_token_234 q_1315 rfl (fun v67 => ?_)
                  refine s_goto (tgt := 260) hX dX10_token_237 rfl ?_
                  exact hK61 _
          · obtain ⟨M72, e56⟩ : ∃ z, z = s := ⟨_, rfl⟩
            subst e56
            try dsimp only
            exact s_vret hX hR dX10_token_309 (Nat.le_of_ble_eq_true rfl) (Nat.le_of_ble_eq_true rfl)
      · refine s_loopE (stk := []) (fun (s : MemT) => [some (.ref a0)]) (fun (s : MemT) => s) 114 (fun (s : MemT) => [some (.ref a0)]) (fun s B25 hB25 hE25 => ?_) (fun s => ?_) n M23
        · obtain ⟨M24, e25⟩ : ∃ z, z = s := ⟨_, rfl⟩
          subst e25
          try dsimp only
          refine s_aload_n hX dX10_token_90 rfl ?_
          refine s_aload_n hX dX10_token_91 rfl ?_
          refine s_getI hX dX10_token_92 q_1313 rfl (fun v26 => ?_)
          refine s_callVi (ck1 := 0) (sk1 := 0) (ci := 8) hX dX10_token_95 k_X10_isSmall q_1410 (c_X10_isSmall n M24 a0 v26) (by decide) rfl rfl rfl ⟨Nat.le_of_ble_eq_true rfl, Nat.le_of_ble_eq_true rfl⟩ ⟨(Nat.le_of_ble_eq_true rfl), (Nat.le_of_ble_eq_true rfl)⟩ (Nat.le_of_ble_eq_true rfl) rfl rfl (fun r27 M28 => ?_)
          refine s_ifeq (tgt := 114) hX dX10_token_98 rfl ?_ ?_
          · exact s_exit hE25
          · refine s_aload_n hX dX10_token_101 rfl ?_
            refine s_dup hX dX10_token_102 rfl ?_
            refine s_getI hX dX10_token_103 q_1313 rfl (fun v29 => ?_)
            refine s_iconst (v := 1) hX dX10_token_106 kc_1 ?_
            refine s_iadd hX dX10_token_107 ?_
            refine s_putI hX dX10_token_108 q_1313 rfl rfl (fun M30 => ?_)
            refine s_goto (tgt := 90) hX dX10_token_111 rfl ?_
            exact s_back hB25
        · obtain ⟨M31, e25⟩ : ∃ z, z = s := ⟨_, rfl⟩
          subst e25
          try dsimp only
          refine s_aload_n hX dX10_token_114 rfl ?_
          refine s_aload_n hX dX10_token_115 rfl ?_
          refine s_aload_n hX dX10_token_116 rfl ?_
          refine s_getI hX dX10_token_117 q_1316 rfl (fun v32 => ?_)
          refine s_aload_n hX dX10_token_120 rfl ?_
          refine s_getI hX dX10_token_121 q_1313 rfl (fun v33 => ?_)
          refine s_callVi (ck1 := 0) (sk1 := 0) (ci := 8) hX dX10_token_124 k_X10_wordAt q_1414 (c_X10_wordAt n M31 a0 v32 v33) (by decide) rfl rfl rfl ⟨Nat.le_of_ble_eq_true rfl, Nat.le_of_ble_eq_true rfl⟩ ⟨(Nat.le_of_ble_eq_true rfl), (Nat.le_of_ble_eq_true rfl)⟩ (Nat.le_of_ble_eq_true rfl) rfl rfl (fun r34 M35 => ?_)
          refine s_putI hX dX10_token_127 q_1315 rfl rfl (fun M36 => ?_)
          refine s_aload_n hX dX10_token_130 rfl ?_
          refine s_aload_n hX dX10_token_131 rfl ?_
          refine s_getI hX dX10_token_132 q_1315 rfl (fun v37 => ?_)
          refine s_jp (fun (s : MemT × Int32) => [some (.ref a0)]) (fun (s : MemT × Int32) => [.int s.2, .ref a0]) (fun (s : MemT × Int32) => s.1) 0 0 161 (fun s => ?_) (fun K38 hK38 => ?_)
          · obtain ⟨M39, v40⟩ := s
            dsimp only
            refine s_putI hX dX10_token_161 q_1314 rfl rfl (fun M41 => ?_)
            refine s_aload_n hX dX10_token_164 rfl ?_
            refine s_getI hX dX10_token_165 q_1314 rfl (fun v42 => ?_)
            refine s_iconst (v := 2) hX dX10_token_168 kc_2 ?_
            refine s_icne (tgt := 309) hX dX10_token_169 rfl ?_ ?_
            · refine s_aload_n hX dX10_token_172 rfl ?_
              refine s_aload_n hX dX10_token_173 rfl ?_
              refine s_aload_n hX dX10_token_174 rfl ?_
              refine s_getI hX dX10_token_175 q_1316 rfl (fun v43 => ?_)
              refine s_aload_n hX dX10_token_178 rfl ?_
              refine s_getI hX dX10_token_179 q_1313 rfl (fun v44 => ?_)
              refine s_callVi (ck1 := 0) (sk1 := 0) (ci := 8) hX dX10_token_182 k_X10_packed q_1418 (c_X10_packed n M41 a0 v43 v44) (by decide) rfl rfl rfl ⟨Nat.le_of_ble_eq_true rfl, Nat.le_of_ble_eq_true rfl⟩ ⟨(Nat.le_of_ble_eq_true rfl), (Nat.le_of_ble_eq_true rfl)⟩ (Nat.le_of_ble_eq_true rfl) rfl rfl (fun r45 M46 => ?_)
              refine s_putI hX dX10_token_185 q_1315 rfl rfl (fun M47 => ?_)
              refine s_goto (tgt := 309) hX dX10_token_188 rfl ?_
              exact s_vret hX hR dX10_token_309 (Nat.le_of_ble_eq_true rfl) (Nat.le_of_ble_eq_true rfl)
            · exact s_vret hX hR dX10_token_309 (Nat.le_of_ble_eq_true rfl) (Nat.le_of_ble_eq_true rfl)
          · refine s_iflt (tgt := 142) hX dX10_token_135 rfl ?_ ?_
            · refine s_aload_n hX dX10_token_142 rfl ?_
              refine s_getI hX dX10_token_143 q_1313 rfl (fun v48 => ?_)
              refine s_aload_n hX dX10_token_146 rfl ?_
              refine s_getI hX dX10_token_147 q_1316 rfl (fun v49 => ?_)
              refine s_isub hX dX10_token_150 ?_
              refine s_bipush (v := 6) hX dX10_token_151 kb_6 ?_
              refine s_icle (tgt := 160) hX dX10_token_153 rfl ?_ ?_
              · refine s_iconst (v := 2) hX dX10_token_160 kc_2 ?_
                exact hK38 _
              · refine s_iconst (v := 5) hX dX10_token_156 kc_5 ?_
                refine s_goto (tgt := 161) hX dX10_token_157 rfl ?_
                exact hK38 _
            · refine s_iconst (v := 1) hX dX10_token_138 kc_1 ?_
              refine s_goto (tgt := 161) hX dX10_token_139 rfl ?_
              exact hK38 _
abbrev rm_X10_nameAt : Room := { frames := 0, cells := 0, slots := 0, locals := 0 }
theorem k_X10_nameAt : KYV yX10_nameAt cX10_nameAt 5 (some .int) 3 := ⟨⟨q_1442, q_9, by decide +kernel, by decide +kernel, by decide +kernel⟩, q_1441, p_58⟩
set_option maxHeartbeats 4000000 in
set_option maxRecDepth 100000 in
theorem c_X10_nameAt (n : Nat) (M0 : MemT) (a0 : Nat) (a1 : Int32) (a2 : Int32) (a3 : Int32) : Ct iI yX10_nameAt cX10_nameAt 5 (some .int) rm_X10_nameAt [.ref a0, .int a1, .int a2, .int a3] M0 (g_X10_nameAt n M0 a0 a1 a2 a3) := by
  unfold g_X10_nameAt
  refine ct_intro RX10 1 [some (.ref a0), some (.int a1), some (.int a2), some (.int a3), none] rfl (by decide +kernel) rfl (Nat.le_of_ble_eq_true rfl) (fun X A hX hnm hR => ?_)
  refine s_iconst (v := 0) hX dX10_nameAt_0 kc_0 ?_
  refine s_istore4 hX dX10_nameAt_1 (by first | exact trivial | exact rfl) (Nat.le_of_ble_eq_true rfl) ?_
  refine s_loop (stk := []) (fun (s : MemT × Int32) => [some (.ref a0), some (.int a1), some (.int a2), some (.int a3), some (.int s.2)]) (fun (s : MemT × Int32) => s.1) (fun s B3 hB3 hI3 => ?_) n (M0, 0)
  obtain ⟨M1, v2⟩ := s
  dsimp only
  refine s_iload hX dX10_nameAt_3 rfl ?_
  refine s_iload_n hX dX10_nameAt_5 rfl ?_
  refine s_icge (tgt := 34) hX dX10_nameAt_6 rfl ?_ ?_
  · refine s_iconst (v := (-1)) hX dX10_nameAt_34 kc_m1 ?_
    exact s_inr hI3 (s_iret hX hR dX10_nameAt_35 (Nat.le_of_ble_eq_true rfl) (Nat.le_of_ble_eq_true rfl))
  · refine s_aload_n hX dX10_nameAt_9 rfl ?_
    refine s_getO hX dX10_nameAt_10 q_1319 rfl (fun j4 => ?_)
    refine s_iload_n hX dX10_nameAt_13 rfl ?_
    refine s_bipush (v := 8) hX dX10_nameAt_14 kb_8 ?_
    refine s_iload hX dX10_nameAt_16 rfl ?_
    refine s_imul hX dX10_nameAt_18 ?_
    refine s_iadd hX dX10_nameAt_19 ?_
    refine s_iald hX dX10_nameAt_20 (fun v5 => ?_)
    refine s_iload_n hX dX10_nameAt_21 rfl ?_
    refine s_icne (tgt := 28) hX dX10_nameAt_22 rfl ?_ ?_
    · refine s_iload hX dX10_nameAt_25 rfl ?_
      exact s_inr hI3 (s_iret hX hR dX10_nameAt_27 (Nat.le_of_ble_eq_true rfl) (Nat.le_of_ble_eq_true rfl))
    · refine s_iinc4 (v := v2 + 1) hX dX10_nameAt_28 rfl (by first | exact trivial | exact rfl) (Nat.le_of_ble_eq_true rfl) ?_
      refine s_goto (tgt := 3) hX dX10_nameAt_31 rfl ?_
      exact s_back hB3
abbrev rm_X10_number : Room := { frames := 2, cells := 0, slots := 0, locals := 47 }
theorem k_X10_number : KYV yX10_number cX10_number 3 (some .boolean) 2 := ⟨⟨q_1446, q_9, by decide +kernel, by decide +kernel, by decide +kernel⟩, q_1445, p_59⟩
set_option maxHeartbeats 4000000 in
set_option maxRecDepth 100000 in
theorem c_X10_number (n : Nat) (M0 : MemT) (a0 : Nat) (a1 : Int32) (a2 : Int32) : Ct iI yX10_number cX10_number 3 (some .boolean) rm_X10_number [.ref a0, .int a1, .int a2] M0 (g_X10_number n M0 a0 a1 a2) := by
  unfold g_X10_number
  refine ct_intro RX10 0 [some (.ref a0), some (.int a1), some (.int a2)] rfl (by decide +kernel) rfl (Nat.le_of_ble_eq_true rfl) (fun X A hX hnm hR => ?_)
  refine s_aload_n hX dX10_number_0 rfl ?_
  refine s_getI hX dX10_number_1 q_1314 rfl (fun v1 => ?_)
  refine s_iconst (v := 3) hX dX10_number_4 kc_3 ?_
  refine s_iceq (tgt := 14) hX dX10_number_5 rfl ?_ ?_
  · refine s_aload_n hX dX10_number_14 rfl ?_
    refine s_getI hX dX10_number_15 q_1315 rfl (fun v4 => ?_)
    refine s_iload_n hX dX10_number_18 rfl ?_
    refine s_iload_n hX dX10_number_19 rfl ?_
    refine s_callSi (ck1 := 0) (sk1 := 0) hX dX10_number_20 k_X10_isIn q_1447 (c_X10_isIn n M0 v4 a1 a2) rfl rfl ⟨Nat.le_of_ble_eq_true rfl, Nat.le_of_ble_eq_true rfl⟩ ⟨(Nat.le_of_ble_eq_true rfl), (Nat.le_of_ble_eq_true rfl)⟩ (Nat.le_of_ble_eq_true rfl) rfl rfl (fun r5 M6 => ?_)
    refine s_ifne (tgt := 32) hX dX10_number_23 rfl ?_ ?_
    · refine s_aload_n hX dX10_number_26 rfl ?_
      refine s_iconst (v := 2) hX dX10_number_27 kc_2 ?_
      refine s_callVi (ck1 := 0) (sk1 := 0) (ci := 8) hX dX10_number_28 k_X10_wrong q_1431 (c_X10_wrong n M6 a0 2) (by decide) rfl rfl rfl ⟨Nat.le_of_ble_eq_true rfl, Nat.le_of_ble_eq_true rfl⟩ ⟨(Nat.le_of_ble_eq_true rfl), (Nat.le_of_ble_eq_true rfl)⟩ (Nat.le_of_ble_eq_true rfl) rfl rfl (fun r7 M8 => ?_)
      exact s_zret hX hR dX10_number_31 (Nat.le_of_ble_eq_true rfl) (Nat.le_of_ble_eq_true rfl)
    · refine s_aload_n hX dX10_number_32 rfl ?_
      refine s_aload_n hX dX10_number_33 rfl ?_
      refine s_getI hX dX10_number_34 q_1315 rfl (fun v9 => ?_)
      refine s_putI hX dX10_number_37 q_1325 rfl rfl (fun M10 => ?_)
      refine s_aload_n hX dX10_number_40 rfl ?_
      refine s_callVu (ck1 := 0) (sk1 := 0) (ci := 8) hX dX10_number_41 k_X10_token q_1406 (c_X10_token n M10 a0) (by decide) rfl rfl rfl ⟨Nat.le_of_ble_eq_true rfl, Nat.le_of_ble_eq_true rfl⟩ ⟨(Nat.le_of_ble_eq_true rfl), (Nat.le_of_ble_eq_true rfl)⟩ (Nat.le_of_ble_eq_true rfl) rfl rfl (fun r11 M12 => ?_)
      refine s_iconst (v := 1) hX dX10_number_44 kc_1 ?_
      exact s_zret hX hR dX10_number_45 (Nat.le_of_ble_eq_true rfl) (Nat.le_of_ble_eq_true rfl)
  · refine s_aload_n hX dX10_number_8 rfl ?_
    refine s_iconst (v := 1) hX dX10_number_9 kc_1 ?_
    refine s_callVi (ck1 := 0) (sk1 := 0) (ci := 8) hX dX10_number_10 k_X10_wrong q_1431 (c_X10_wrong n M0 a0 1) (by decide) rfl rfl rfl ⟨Nat.le_of_ble_eq_true rfl, Nat.le_of_ble_eq_true rfl⟩ ⟨(Nat.le_of_ble_eq_true rfl), (Nat.le_of_ble_eq_true rfl)⟩ (Nat.le_of_ble_eq_true rfl) rfl rfl (fun r2 M3 => ?_)
    exact s_zret hX hR dX10_number_13 (Nat.le_of_ble_eq_true rfl) (Nat.le_of_ble_eq_true rfl)
abbrev rm_X10_traderRead : Room := { frames := 2, cells := 0, slots := 0, locals := 47 }
theorem k_X10_traderRead : KYV yX10_traderRead cX10_traderRead 1 (some .boolean) 0 := ⟨⟨q_1457, q_9, by decide +kernel, by decide +kernel, by decide +kernel⟩, q_1456, p_61⟩
set_option maxHeartbeats 4000000 in
set_option maxRecDepth 100000 in
theorem c_X10_traderRead (n : Nat) (M0 : MemT) (a0 : Nat) : Ct iI yX10_traderRead cX10_traderRead 1 (some .boolean) rm_X10_traderRead [.ref a0] M0 (g_X10_traderRead n M0 a0) := by
  unfold g_X10_traderRead
  refine ct_intro RX10 0 [some (.ref a0)] rfl (by decide +kernel) rfl (Nat.le_of_ble_eq_true rfl) (fun X A hX hnm hR => ?_)
  refine s_aload_n hX dX10_traderRead_0 rfl ?_
  refine s_callVu (ck1 := 0) (sk1 := 0) (ci := 8) hX dX10_traderRead_1 k_X10_token q_1406 (c_X10_token n M0 a0) (by decide) rfl rfl rfl ⟨Nat.le_of_ble_eq_true rfl, Nat.le_of_ble_eq_true rfl⟩ ⟨(Nat.le_of_ble_eq_true rfl), (Nat.le_of_ble_eq_true rfl)⟩ (Nat.le_of_ble_eq_true rfl) rfl rfl (fun r1 M2 => ?_)
  refine s_aload_n hX dX10_traderRead_4 rfl ?_
  refine s_getI hX dX10_traderRead_5 q_1314 rfl (fun v3 => ?_)
  refine s_iconst (v := 2) hX dX10_traderRead_8 kc_2 ?_
  refine s_iceq (tgt := 18) hX dX10_traderRead_9 rfl ?_ ?_
  · refine s_aload_n hX dX10_traderRead_18 rfl ?_
    refine s_aload_n hX dX10_traderRead_19 rfl ?_
    refine s_aload_n hX dX10_traderRead_20 rfl ?_
    refine s_getI hX dX10_traderRead_21 q_1315 rfl (fun v6 => ?_)
    refine s_bipush (v := 32) hX dX10_traderRead_24 kb_32 ?_
    refine s_aload_n hX dX10_traderRead_26 rfl ?_
    refine s_getI hX dX10_traderRead_27 q_1318 rfl (fun v7 => ?_)
    refine s_callVi (ck1 := 0) (sk1 := 0) (ci := 8) hX dX10_traderRead_30 k_X10_nameAt q_1439 (c_X10_nameAt n M2 a0 v6 32 v7) (by decide) rfl rfl rfl ⟨Nat.le_of_ble_eq_true rfl, Nat.le_of_ble_eq_true rfl⟩ ⟨(Nat.le_of_ble_eq_true rfl), (Nat.le_of_ble_eq_true rfl)⟩ (Nat.le_of_ble_eq_true rfl) rfl rfl (fun r8 M9 => ?_)
    refine s_putI hX dX10_traderRead_33 q_1325 rfl rfl (fun M10 => ?_)
    refine s_aload_n hX dX10_traderRead_36 rfl ?_
    refine s_getI hX dX10_traderRead_37 q_1325 rfl (fun v11 => ?_)
    refine s_ifge (tgt := 51) hX dX10_traderRead_40 rfl ?_ ?_
    · refine s_iconst (v := 1) hX dX10_traderRead_51 kc_1 ?_
      refine s_goto (tgt := 56) hX dX10_traderRead_52 rfl ?_
      exact s_zret hX hR dX10_traderRead_56 (Nat.le_of_ble_eq_true rfl) (Nat.le_of_ble_eq_true rfl)
    · refine s_aload_n hX dX10_traderRead_43 rfl ?_
      refine s_iconst (v := 4) hX dX10_traderRead_44 kc_4 ?_
      refine s_callVi (ck1 := 0) (sk1 := 0) (ci := 8) hX dX10_traderRead_45 k_X10_wrong q_1431 (c_X10_wrong n M10 a0 4) (by decide) rfl rfl rfl ⟨Nat.le_of_ble_eq_true rfl, Nat.le_of_ble_eq_true rfl⟩ ⟨(Nat.le_of_ble_eq_true rfl), (Nat.le_of_ble_eq_true rfl)⟩ (Nat.le_of_ble_eq_true rfl) rfl rfl (fun r12 M13 => ?_)
      refine s_ifeq (tgt := 55) hX dX10_traderRead_48 rfl ?_ ?_
      · refine s_iconst (v := 0) hX dX10_traderRead_55 kc_0 ?_
        exact s_zret hX hR dX10_traderRead_56 (Nat.le_of_ble_eq_true rfl) (Nat.le_of_ble_eq_true rfl)
      · refine s_iconst (v := 1) hX dX10_traderRead_51 kc_1 ?_
        refine s_goto (tgt := 56) hX dX10_traderRead_52 rfl ?_
        exact s_zret hX hR dX10_traderRead_56 (Nat.le_of_ble_eq_true rfl) (Nat.le_of_ble_eq_true rfl)
  · refine s_aload_n hX dX10_traderRead_12 rfl ?_
    refine s_iconst (v := 1) hX dX10_traderRead_13 kc_1 ?_
    refine s_callVi (ck1 := 0) (sk1 := 0) (ci := 8) hX dX10_traderRead_14 k_X10_wrong q_1431 (c_X10_wrong n M2 a0 1) (by decide) rfl rfl rfl ⟨Nat.le_of_ble_eq_true rfl, Nat.le_of_ble_eq_true rfl⟩ ⟨(Nat.le_of_ble_eq_true rfl), (Nat.le_of_ble_eq_true rfl)⟩ (Nat.le_of_ble_eq_true rfl) rfl rfl (fun r4 M5 => ?_)
    exact s_zret hX hR dX10_traderRead_17 (Nat.le_of_ble_eq_true rfl) (Nat.le_of_ble_eq_true rfl)
abbrev rm_X10_traderLine : Room := { frames := 3, cells := 0, slots := 0, locals := 69 }
theorem k_X10_traderLine : KYV yX10_traderLine cX10_traderLine 3 (some .boolean) 0 := ⟨⟨q_1438, q_9, by decide +kernel, by decide +kernel, by decide +kernel⟩, q_1437, p_57⟩
set_option maxHeartbeats 4000000 in
set_option maxRecDepth 100000 in
theorem c_X10_traderLine (n : Nat) (M0 : MemT) (a0 : Nat) : Ct iI yX10_traderLine cX10_traderLine 3 (some .boolean) rm_X10_traderLine [.ref a0] M0 (g_X10_traderLine n M0 a0) := by
  unfold g_X10_traderLine
  refine ct_intro RX10 2 [some (.ref a0), none, none] rfl (by decide +kernel) rfl (Nat.le_of_ble_eq_true rfl) (fun X A hX hnm hR => ?_)
  refine s_aload_n hX dX10_traderLine_0 rfl ?_
  refine s_getI hX dX10_traderLine_1 q_1318 rfl (fun v1 => ?_)
  refine s_iconst (v := 4) hX dX10_traderLine_4 kc_4 ?_
  refine s_icne (tgt := 14) hX dX10_traderLine_5 rfl ?_ ?_
  · refine s_aload_n hX dX10_traderLine_8 rfl ?_
    refine s_iconst (v := 2) hX dX10_traderLine_9 kc_2 ?_
    refine s_callVi (ck1 := 0) (sk1 := 0) (ci := 8) hX dX10_traderLine_10 k_X10_wrong q_1431 (c_X10_wrong n M0 a0 2) (by decide) rfl rfl rfl ⟨Nat.le_of_ble_eq_true rfl, Nat.le_of_ble_eq_true rfl⟩ ⟨(Nat.le_of_ble_eq_true rfl), (Nat.le_of_ble_eq_true rfl)⟩ (Nat.le_of_ble_eq_true rfl) rfl rfl (fun r2 M3 => ?_)
    exact s_zret hX hR dX10_traderLine_13 (Nat.le_of_ble_eq_true rfl) (Nat.le_of_ble_eq_true rfl)
  · refine s_aload_n hX dX10_traderLine_14 rfl ?_
    refine s_callVu (ck1 := 0) (sk1 := 0) (ci := 8) hX dX10_traderLine_15 k_X10_token q_1406 (c_X10_token n M0 a0) (by decide) rfl rfl rfl ⟨Nat.le_of_ble_eq_true rfl, Nat.le_of_ble_eq_true rfl⟩ ⟨(Nat.le_of_ble_eq_true rfl), (Nat.le_of_ble_eq_true rfl)⟩ (Nat.le_of_ble_eq_true rfl) rfl rfl (fun r4 M5 => ?_)
    refine s_aload_n hX dX10_traderLine_18 rfl ?_
    refine s_getI hX dX10_traderLine_19 q_1314 rfl (fun v6 => ?_)
    refine s_iconst (v := 2) hX dX10_traderLine_22 kc_2 ?_
    refine s_iceq (tgt := 32) hX dX10_traderLine_23 rfl ?_ ?_
    · refine s_aload_n hX dX10_traderLine_32 rfl ?_
      refine s_aload_n hX dX10_traderLine_33 rfl ?_
      refine s_getI hX dX10_traderLine_34 q_1315 rfl (fun v9 => ?_)
      refine s_bipush (v := 32) hX dX10_traderLine_37 kb_32 ?_
      refine s_aload_n hX dX10_traderLine_39 rfl ?_
      refine s_getI hX dX10_traderLine_40 q_1318 rfl (fun v10 => ?_)
      refine s_callVi (ck1 := 0) (sk1 := 0) (ci := 8) hX dX10_traderLine_43 k_X10_nameAt q_1439 (c_X10_nameAt n M5 a0 v9 32 v10) (by decide) rfl rfl rfl ⟨Nat.le_of_ble_eq_true rfl, Nat.le_of_ble_eq_true rfl⟩ ⟨(Nat.le_of_ble_eq_true rfl), (Nat.le_of_ble_eq_true rfl)⟩ (Nat.le_of_ble_eq_true rfl) rfl rfl (fun r11 M12 => ?_)
      refine s_iflt (tgt := 55) hX dX10_traderLine_46 rfl ?_ ?_
      · refine s_bipush (v := 32) hX dX10_traderLine_55 kb_32 ?_
        refine s_bipush (v := 8) hX dX10_traderLine_57 kb_8 ?_
        refine s_aload_n hX dX10_traderLine_59 rfl ?_
        refine s_getI hX dX10_traderLine_60 q_1318 rfl (fun v15 => ?_)
        refine s_imul hX dX10_traderLine_63 ?_
        refine s_iadd hX dX10_traderLine_64 ?_
        refine s_istore1 hX dX10_traderLine_65 (by first | exact trivial | exact rfl) (Nat.le_of_ble_eq_true rfl) ?_
        refine s_iconst (v := 0) hX dX10_traderLine_66 kc_0 ?_
        refine s_istore2 hX dX10_traderLine_67 (by first | exact trivial | exact rfl) (Nat.le_of_ble_eq_true rfl) ?_
        refine s_loopE (stk := []) (fun (s : MemT × Int32) => [some (.ref a0), some (.int (32 + (8 * v15))), some (.int s.2)]) (fun (s : MemT × Int32) => s.1) 89 (fun (s : MemT × Int32) => [some (.ref a0), some (.int (32 + (8 * v15))), some (.int s.2)]) (fun s B18 hB18 hE18 => ?_) (fun s => ?_) n (M12, 0)
        · obtain ⟨M16, v17⟩ := s
          dsimp only
          refine s_iload_n hX dX10_traderLine_68 rfl ?_
          refine s_bipush (v := 8) hX dX10_traderLine_69 kb_8 ?_
          refine s_icge (tgt := 89) hX dX10_traderLine_71 rfl ?_ ?_
          · exact s_exit hE18
          · refine s_aload_n hX dX10_traderLine_74 rfl ?_
            refine s_getO hX dX10_traderLine_75 q_1319 rfl (fun j19 => ?_)
            refine s_iload_n hX dX10_traderLine_78 rfl ?_
            refine s_iload_n hX dX10_traderLine_79 rfl ?_
            refine s_iadd hX dX10_traderLine_80 ?_
            refine s_iconst (v := 0) hX dX10_traderLine_81 kc_0 ?_
            refine s_iast hX dX10_traderLine_82 (fun M20 => ?_)
            refine s_iinc2 (v := v17 + 1) hX dX10_traderLine_83 rfl (by first | exact trivial | exact rfl) (Nat.le_of_ble_eq_true rfl) ?_
            refine s_goto (tgt := 68) hX dX10_traderLine_86 rfl ?_
            exact s_back hB18
        · obtain ⟨M21, v22⟩ := s
          dsimp only
          refine s_aload_n hX dX10_traderLine_89 rfl ?_
          refine s_getO hX dX10_traderLine_90 q_1319 rfl (fun j23 => ?_)
          refine s_iload_n hX dX10_traderLine_93 rfl ?_
          refine s_aload_n hX dX10_traderLine_94 rfl ?_
          refine s_getI hX dX10_traderLine_95 q_1315 rfl (fun v24 => ?_)
          refine s_iast hX dX10_traderLine_98 (fun M25 => ?_)
          refine s_aload_n hX dX10_traderLine_99 rfl ?_
          refine s_callVu (ck1 := 0) (sk1 := 0) (ci := 8) hX dX10_traderLine_100 k_X10_token q_1406 (c_X10_token n M25 a0) (by decide) rfl rfl rfl ⟨Nat.le_of_ble_eq_true rfl, Nat.le_of_ble_eq_true rfl⟩ ⟨(Nat.le_of_ble_eq_true rfl), (Nat.le_of_ble_eq_true rfl)⟩ (Nat.le_of_ble_eq_true rfl) rfl rfl (fun r26 M27 => ?_)
          refine s_aload_n hX dX10_traderLine_103 rfl ?_
          refine s_iconst (v := 0) hX dX10_traderLine_104 kc_0 ?_
          refine s_iconst (v := 2) hX dX10_traderLine_105 kc_2 ?_
          refine s_callVi (ck1 := 0) (sk1 := 0) (ci := 8) hX dX10_traderLine_106 k_X10_number q_1443 (c_X10_number n M27 a0 0 2) (by decide) rfl rfl rfl ⟨Nat.le_of_ble_eq_true rfl, Nat.le_of_ble_eq_true rfl⟩ ⟨(Nat.le_of_ble_eq_true rfl), (Nat.le_of_ble_eq_true rfl)⟩ (Nat.le_of_ble_eq_true rfl) rfl rfl (fun r28 M29 => ?_)
          refine s_ifne (tgt := 114) hX dX10_traderLine_109 rfl ?_ ?_
          · refine s_iconst (v := 0) hX dX10_traderLine_112 kc_0 ?_
            exact s_zret hX hR dX10_traderLine_113 (Nat.le_of_ble_eq_true rfl) (Nat.le_of_ble_eq_true rfl)
          · refine s_aload_n hX dX10_traderLine_114 rfl ?_
            refine s_getO hX dX10_traderLine_115 q_1319 rfl (fun j30 => ?_)
            refine s_iload_n hX dX10_traderLine_118 rfl ?_
            refine s_iconst (v := 1) hX dX10_traderLine_119 kc_1 ?_
            refine s_iadd hX dX10_traderLine_120 ?_
            refine s_aload_n hX dX10_traderLine_121 rfl ?_
            refine s_getI hX dX10_traderLine_122 q_1325 rfl (fun v31 => ?_)
            refine s_iast hX dX10_traderLine_125 (fun M32 => ?_)
            refine s_aload_n hX dX10_traderLine_126 rfl ?_
            refine s_iconst (v := 0) hX dX10_traderLine_127 kc_0 ?_
            refine s_iconst (v := 1) hX dX10_traderLine_128 kc_1 ?_
            refine s_callVi (ck1 := 0) (sk1 := 0) (ci := 8) hX dX10_traderLine_129 k_X10_number q_1443 (c_X10_number n M32 a0 0 1) (by decide) rfl rfl rfl ⟨Nat.le_of_ble_eq_true rfl, Nat.le_of_ble_eq_true rfl⟩ ⟨(Nat.le_of_ble_eq_true rfl), (Nat.le_of_ble_eq_true rfl)⟩ (Nat.le_of_ble_eq_true rfl) rfl rfl (fun r33 M34 => ?_)
            refine s_ifne (tgt := 137) hX dX10_traderLine_132 rfl ?_ ?_
            · refine s_iconst (v := 0) hX dX10_traderLine_135 kc_0 ?_
              exact s_zret hX hR dX10_traderLine_136 (Nat.le_of_ble_eq_true rfl) (Nat.le_of_ble_eq_true rfl)
            · refine s_aload_n hX dX10_traderLine_137 rfl ?_
              refine s_getO hX dX10_traderLine_138 q_1319 rfl (fun j35 => ?_)
              refine s_iload_n hX dX10_traderLine_141 rfl ?_
              refine s_iconst (v := 2) hX dX10_traderLine_142 kc_2 ?_
              refine s_iadd hX dX10_traderLine_143 ?_
              refine s_aload_n hX dX10_traderLine_144 rfl ?_
              refine s_getI hX dX10_traderLine_145 q_1325 rfl (fun v36 => ?_)
              refine s_iast hX dX10_traderLine_148 (fun M37 => ?_)
              refine s_aload_n hX dX10_traderLine_149 rfl ?_
              refine s_dup hX dX10_traderLine_150 rfl ?_
              refine s_getI hX dX10_traderLine_151 q_1318 rfl (fun v38 => ?_)
              refine s_iconst (v := 1) hX dX10_traderLine_154 kc_1 ?_
              refine s_iadd hX dX10_traderLine_155 ?_
              refine s_putI hX dX10_traderLine_156 q_1318 rfl rfl (fun M39 => ?_)
              refine s_iconst (v := 1) hX dX10_traderLine_159 kc_1 ?_
              exact s_zret hX hR dX10_traderLine_160 (Nat.le_of_ble_eq_true rfl) (Nat.le_of_ble_eq_true rfl)
      · refine s_aload_n hX dX10_traderLine_49 rfl ?_
        refine s_iconst (v := 3) hX dX10_traderLine_50 kc_3 ?_
        refine s_callVi (ck1 := 0) (sk1 := 0) (ci := 8) hX dX10_traderLine_51 k_X10_wrong q_1431 (c_X10_wrong n M12 a0 3) (by decide) rfl rfl rfl ⟨Nat.le_of_ble_eq_true rfl, Nat.le_of_ble_eq_true rfl⟩ ⟨(Nat.le_of_ble_eq_true rfl), (Nat.le_of_ble_eq_true rfl)⟩ (Nat.le_of_ble_eq_true rfl) rfl rfl (fun r13 M14 => ?_)
        exact s_zret hX hR dX10_traderLine_54 (Nat.le_of_ble_eq_true rfl) (Nat.le_of_ble_eq_true rfl)
    · refine s_aload_n hX dX10_traderLine_26 rfl ?_
      refine s_iconst (v := 1) hX dX10_traderLine_27 kc_1 ?_
      refine s_callVi (ck1 := 0) (sk1 := 0) (ci := 8) hX dX10_traderLine_28 k_X10_wrong q_1431 (c_X10_wrong n M5 a0 1) (by decide) rfl rfl rfl ⟨Nat.le_of_ble_eq_true rfl, Nat.le_of_ble_eq_true rfl⟩ ⟨(Nat.le_of_ble_eq_true rfl), (Nat.le_of_ble_eq_true rfl)⟩ (Nat.le_of_ble_eq_true rfl) rfl rfl (fun r7 M8 => ?_)
      exact s_zret hX hR dX10_traderLine_31 (Nat.le_of_ble_eq_true rfl) (Nat.le_of_ble_eq_true rfl)
abbrev rm_X10_headLine : Room := { frames := 3, cells := 0, slots := 0, locals := 69 }
theorem k_X10_headLine : KYV yX10_headLine cX10_headLine 3 (some .boolean) 0 := ⟨⟨q_1453, q_9, by decide +kernel, by decide +kernel, by decide +kernel⟩, q_1452, p_60⟩
set_option maxHeartbeats 4000000 in
set_option maxRecDepth 100000 in
theorem c_X10_headLine (n : Nat) (M0 : MemT) (a0 : Nat) : Ct iI yX10_headLine cX10_headLine 3 (some .boolean) rm_X10_headLine [.ref a0] M0 (g_X10_headLine n M0 a0) := by
  unfold g_X10_headLine
  refine ct_intro RX10 2 [some (.ref a0), none, none] rfl (by decide +kernel) rfl (Nat.le_of_ble_eq_true rfl) (fun X A hX hnm hR => ?_)
  refine s_aload_n hX dX10_headLine_0 rfl ?_
  refine s_callVi (ck1 := 0) (sk1 := 0) (ci := 8) hX dX10_headLine_1 k_X10_traderRead q_1454 (c_X10_traderRead n M0 a0) (by decide) rfl rfl rfl ⟨Nat.le_of_ble_eq_true rfl, Nat.le_of_ble_eq_true rfl⟩ ⟨(Nat.le_of_ble_eq_true rfl), (Nat.le_of_ble_eq_true rfl)⟩ (Nat.le_of_ble_eq_true rfl) rfl rfl (fun r1 M2 => ?_)
  refine s_ifne (tgt := 9) hX dX10_headLine_4 rfl ?_ ?_
  · refine s_iconst (v := 0) hX dX10_headLine_7 kc_0 ?_
    exact s_zret hX hR dX10_headLine_8 (Nat.le_of_ble_eq_true rfl) (Nat.le_of_ble_eq_true rfl)
  · refine s_bipush (v := 32) hX dX10_headLine_9 kb_32 ?_
    refine s_bipush (v := 8) hX dX10_headLine_11 kb_8 ?_
    refine s_aload_n hX dX10_headLine_13 rfl ?_
    refine s_getI hX dX10_headLine_14 q_1325 rfl (fun v3 => ?_)
    refine s_imul hX dX10_headLine_17 ?_
    refine s_iadd hX dX10_headLine_18 ?_
    refine s_istore1 hX dX10_headLine_19 (by first | exact trivial | exact rfl) (Nat.le_of_ble_eq_true rfl) ?_
    refine s_aload_n hX dX10_headLine_20 rfl ?_
    refine s_getO hX dX10_headLine_21 q_1319 rfl (fun j4 => ?_)
    refine s_iload_n hX dX10_headLine_24 rfl ?_
    refine s_iconst (v := 3) hX dX10_headLine_25 kc_3 ?_
    refine s_iadd hX dX10_headLine_26 ?_
    refine s_iald hX dX10_headLine_27 (fun v5 => ?_)
    refine s_iconst (v := 1) hX dX10_headLine_28 kc_1 ?_
    refine s_icne (tgt := 38) hX dX10_headLine_29 rfl ?_ ?_
    · refine s_aload_n hX dX10_headLine_32 rfl ?_
      refine s_iconst (v := 3) hX dX10_headLine_33 kc_3 ?_
      refine s_callVi (ck1 := 0) (sk1 := 0) (ci := 8) hX dX10_headLine_34 k_X10_wrong q_1431 (c_X10_wrong n M2 a0 3) (by decide) rfl rfl rfl ⟨Nat.le_of_ble_eq_true rfl, Nat.le_of_ble_eq_true rfl⟩ ⟨(Nat.le_of_ble_eq_true rfl), (Nat.le_of_ble_eq_true rfl)⟩ (Nat.le_of_ble_eq_true rfl) rfl rfl (fun r6 M7 => ?_)
      exact s_zret hX hR dX10_headLine_37 (Nat.le_of_ble_eq_true rfl) (Nat.le_of_ble_eq_true rfl)
    · refine s_aload_n hX dX10_headLine_38 rfl ?_
      refine s_getO hX dX10_headLine_39 q_1319 rfl (fun j8 => ?_)
      refine s_iload_n hX dX10_headLine_42 rfl ?_
      refine s_iconst (v := 3) hX dX10_headLine_43 kc_3 ?_
      refine s_iadd hX dX10_headLine_44 ?_
      refine s_iconst (v := 1) hX dX10_headLine_45 kc_1 ?_
      refine s_iast hX dX10_headLine_46 (fun M9 => ?_)
      refine s_aload_n hX dX10_headLine_47 rfl ?_
      refine s_callVu (ck1 := 0) (sk1 := 0) (ci := 8) hX dX10_headLine_48 k_X10_token q_1406 (c_X10_token n M9 a0) (by decide) rfl rfl rfl ⟨Nat.le_of_ble_eq_true rfl, Nat.le_of_ble_eq_true rfl⟩ ⟨(Nat.le_of_ble_eq_true rfl), (Nat.le_of_ble_eq_true rfl)⟩ (Nat.le_of_ble_eq_true rfl) rfl rfl (fun r10 M11 => ?_)
      refine s_aload_n hX dX10_headLine_51 rfl ?_
      refine s_getI hX dX10_headLine_52 q_1314 rfl (fun v12 => ?_)
      refine s_iconst (v := 3) hX dX10_headLine_55 kc_3 ?_
      refine s_iceq (tgt := 65) hX dX10_headLine_56 rfl ?_ ?_
      · refine s_aload_n hX dX10_headLine_65 rfl ?_
        refine s_getI hX dX10_headLine_66 q_1315 rfl (fun v15 => ?_)
        refine s_sipush (v := 999) hX dX10_headLine_69 ks_999 ?_
        refine s_icle (tgt := 81) hX dX10_headLine_72 rfl ?_ ?_
        · refine s_aload_n hX dX10_headLine_81 rfl ?_
          refine s_getI hX dX10_headLine_82 q_1315 rfl (fun v18 => ?_)
          refine s_istore2 hX dX10_headLine_85 (by first | exact trivial | exact rfl) (Nat.le_of_ble_eq_true rfl) ?_
          refine s_aload_n hX dX10_headLine_86 rfl ?_
          refine s_callVu (ck1 := 0) (sk1 := 0) (ci := 8) hX dX10_headLine_87 k_X10_token q_1406 (c_X10_token n M11 a0) (by decide) rfl rfl rfl ⟨Nat.le_of_ble_eq_true rfl, Nat.le_of_ble_eq_true rfl⟩ ⟨(Nat.le_of_ble_eq_true rfl), (Nat.le_of_ble_eq_true rfl)⟩ (Nat.le_of_ble_eq_true rfl) rfl rfl (fun r19 M20 => ?_)
          refine s_aload_n hX dX10_headLine_90 rfl ?_
          refine s_iload_n hX dX10_headLine_91 rfl ?_
          refine s_sipush (v := 999) hX dX10_headLine_92 ks_999 ?_
          refine s_callVi (ck1 := 0) (sk1 := 0) (ci := 8) hX dX10_headLine_95 k_X10_number q_1443 (c_X10_number n M20 a0 v18 999) (by decide) rfl rfl rfl ⟨Nat.le_of_ble_eq_true rfl, Nat.le_of_ble_eq_true rfl⟩ ⟨(Nat.le_of_ble_eq_true rfl), (Nat.le_of_ble_eq_true rfl)⟩ (Nat.le_of_ble_eq_true rfl) rfl rfl (fun r21 M22 => ?_)
          refine s_ifne (tgt := 103) hX dX10_headLine_98 rfl ?_ ?_
          · refine s_iconst (v := 0) hX dX10_headLine_101 kc_0 ?_
            exact s_zret hX hR dX10_headLine_102 (Nat.le_of_ble_eq_true rfl) (Nat.le_of_ble_eq_true rfl)
          · refine s_aload_n hX dX10_headLine_103 rfl ?_
            refine s_getO hX dX10_headLine_104 q_1319 rfl (fun j23 => ?_)
            refine s_iload_n hX dX10_headLine_107 rfl ?_
            refine s_iconst (v := 4) hX dX10_headLine_108 kc_4 ?_
            refine s_iadd hX dX10_headLine_109 ?_
            refine s_iload_n hX dX10_headLine_110 rfl ?_
            refine s_iast hX dX10_headLine_111 (fun M24 => ?_)
            refine s_aload_n hX dX10_headLine_112 rfl ?_
            refine s_getO hX dX10_headLine_113 q_1319 rfl (fun j25 => ?_)
            refine s_iload_n hX dX10_headLine_116 rfl ?_
            refine s_iconst (v := 4) hX dX10_headLine_117 kc_4 ?_
            refine s_iadd hX dX10_headLine_118 ?_
            refine s_iconst (v := 1) hX dX10_headLine_119 kc_1 ?_
            refine s_iadd hX dX10_headLine_120 ?_
            refine s_aload_n hX dX10_headLine_121 rfl ?_
            refine s_getI hX dX10_headLine_122 q_1325 rfl (fun v26 => ?_)
            refine s_iast hX dX10_headLine_125 (fun M27 => ?_)
            refine s_iconst (v := 1) hX dX10_headLine_126 kc_1 ?_
            exact s_zret hX hR dX10_headLine_127 (Nat.le_of_ble_eq_true rfl) (Nat.le_of_ble_eq_true rfl)
        · refine s_aload_n hX dX10_headLine_75 rfl ?_
          refine s_iconst (v := 2) hX dX10_headLine_76 kc_2 ?_
          refine s_callVi (ck1 := 0) (sk1 := 0) (ci := 8) hX dX10_headLine_77 k_X10_wrong q_1431 (c_X10_wrong n M11 a0 2) (by decide) rfl rfl rfl ⟨Nat.le_of_ble_eq_true rfl, Nat.le_of_ble_eq_true rfl⟩ ⟨(Nat.le_of_ble_eq_true rfl), (Nat.le_of_ble_eq_true rfl)⟩ (Nat.le_of_ble_eq_true rfl) rfl rfl (fun r16 M17 => ?_)
          exact s_zret hX hR dX10_headLine_80 (Nat.le_of_ble_eq_true rfl) (Nat.le_of_ble_eq_true rfl)
      · refine s_aload_n hX dX10_headLine_59 rfl ?_
        refine s_iconst (v := 1) hX dX10_headLine_60 kc_1 ?_
        refine s_callVi (ck1 := 0) (sk1 := 0) (ci := 8) hX dX10_headLine_61 k_X10_wrong q_1431 (c_X10_wrong n M11 a0 1) (by decide) rfl rfl rfl ⟨Nat.le_of_ble_eq_true rfl, Nat.le_of_ble_eq_true rfl⟩ ⟨(Nat.le_of_ble_eq_true rfl), (Nat.le_of_ble_eq_true rfl)⟩ (Nat.le_of_ble_eq_true rfl) rfl rfl (fun r13 M14 => ?_)
        exact s_zret hX hR dX10_headLine_64 (Nat.le_of_ble_eq_true rfl) (Nat.le_of_ble_eq_true rfl)
abbrev rm_X10_startLine : Room := { frames := 3, cells := 0, slots := 0, locals := 69 }
theorem k_X10_startLine : KYV yX10_startLine cX10_startLine 2 (some .boolean) 0 := ⟨⟨q_1461, q_9, by decide +kernel, by decide +kernel, by decide +kernel⟩, q_1460, p_62⟩
set_option maxHeartbeats 4000000 in
set_option maxRecDepth 100000 in
theorem c_X10_startLine (n : Nat) (M0 : MemT) (a0 : Nat) : Ct iI yX10_startLine cX10_startLine 2 (some .boolean) rm_X10_startLine [.ref a0] M0 (g_X10_startLine n M0 a0) := by
  unfold g_X10_startLine
  refine ct_intro RX10 1 [some (.ref a0), none] rfl (by decide +kernel) rfl (Nat.le_of_ble_eq_true rfl) (fun X A hX hnm hR => ?_)
  refine s_aload_n hX dX10_startLine_0 rfl ?_
  refine s_callVi (ck1 := 0) (sk1 := 0) (ci := 8) hX dX10_startLine_1 k_X10_traderRead q_1454 (c_X10_traderRead n M0 a0) (by decide) rfl rfl rfl ⟨Nat.le_of_ble_eq_true rfl, Nat.le_of_ble_eq_true rfl⟩ ⟨(Nat.le_of_ble_eq_true rfl), (Nat.le_of_ble_eq_true rfl)⟩ (Nat.le_of_ble_eq_true rfl) rfl rfl (fun r1 M2 => ?_)
  refine s_ifne (tgt := 9) hX dX10_startLine_4 rfl ?_ ?_
  · refine s_iconst (v := 0) hX dX10_startLine_7 kc_0 ?_
    exact s_zret hX hR dX10_startLine_8 (Nat.le_of_ble_eq_true rfl) (Nat.le_of_ble_eq_true rfl)
  · refine s_bipush (v := 32) hX dX10_startLine_9 kb_32 ?_
    refine s_bipush (v := 8) hX dX10_startLine_11 kb_8 ?_
    refine s_aload_n hX dX10_startLine_13 rfl ?_
    refine s_getI hX dX10_startLine_14 q_1325 rfl (fun v3 => ?_)
    refine s_imul hX dX10_startLine_17 ?_
    refine s_iadd hX dX10_startLine_18 ?_
    refine s_istore1 hX dX10_startLine_19 (by first | exact trivial | exact rfl) (Nat.le_of_ble_eq_true rfl) ?_
    refine s_aload_n hX dX10_startLine_20 rfl ?_
    refine s_getO hX dX10_startLine_21 q_1319 rfl (fun j4 => ?_)
    refine s_iload_n hX dX10_startLine_24 rfl ?_
    refine s_bipush (v := 6) hX dX10_startLine_25 kb_6 ?_
    refine s_iadd hX dX10_startLine_27 ?_
    refine s_iald hX dX10_startLine_28 (fun v5 => ?_)
    refine s_iconst (v := 1) hX dX10_startLine_29 kc_1 ?_
    refine s_icne (tgt := 39) hX dX10_startLine_30 rfl ?_ ?_
    · refine s_aload_n hX dX10_startLine_33 rfl ?_
      refine s_iconst (v := 3) hX dX10_startLine_34 kc_3 ?_
      refine s_callVi (ck1 := 0) (sk1 := 0) (ci := 8) hX dX10_startLine_35 k_X10_wrong q_1431 (c_X10_wrong n M2 a0 3) (by decide) rfl rfl rfl ⟨Nat.le_of_ble_eq_true rfl, Nat.le_of_ble_eq_true rfl⟩ ⟨(Nat.le_of_ble_eq_true rfl), (Nat.le_of_ble_eq_true rfl)⟩ (Nat.le_of_ble_eq_true rfl) rfl rfl (fun r6 M7 => ?_)
      exact s_zret hX hR dX10_startLine_38 (Nat.le_of_ble_eq_true rfl) (Nat.le_of_ble_eq_true rfl)
    · refine s_aload_n hX dX10_startLine_39 rfl ?_
      refine s_getO hX dX10_startLine_40 q_1319 rfl (fun j8 => ?_)
      refine s_iload_n hX dX10_startLine_43 rfl ?_
      refine s_bipush (v := 6) hX dX10_startLine_44 kb_6 ?_
      refine s_iadd hX dX10_startLine_46 ?_
      refine s_iconst (v := 1) hX dX10_startLine_47 kc_1 ?_
      refine s_iast hX dX10_startLine_48 (fun M9 => ?_)
      refine s_aload_n hX dX10_startLine_49 rfl ?_
      refine s_callVu (ck1 := 0) (sk1 := 0) (ci := 8) hX dX10_startLine_50 k_X10_token q_1406 (c_X10_token n M9 a0) (by decide) rfl rfl rfl ⟨Nat.le_of_ble_eq_true rfl, Nat.le_of_ble_eq_true rfl⟩ ⟨(Nat.le_of_ble_eq_true rfl), (Nat.le_of_ble_eq_true rfl)⟩ (Nat.le_of_ble_eq_true rfl) rfl rfl (fun r10 M11 => ?_)
      refine s_aload_n hX dX10_startLine_53 rfl ?_
      refine s_iconst (v := 0) hX dX10_startLine_54 kc_0 ?_
      refine s_sipush (v := 1000) hX dX10_startLine_55 ks_1000 ?_
      refine s_callVi (ck1 := 0) (sk1 := 0) (ci := 8) hX dX10_startLine_58 k_X10_number q_1443 (c_X10_number n M11 a0 0 1000) (by decide) rfl rfl rfl ⟨Nat.le_of_ble_eq_true rfl, Nat.le_of_ble_eq_true rfl⟩ ⟨(Nat.le_of_ble_eq_true rfl), (Nat.le_of_ble_eq_true rfl)⟩ (Nat.le_of_ble_eq_true rfl) rfl rfl (fun r12 M13 => ?_)
      refine s_ifne (tgt := 66) hX dX10_startLine_61 rfl ?_ ?_
      · refine s_iconst (v := 0) hX dX10_startLine_64 kc_0 ?_
        exact s_zret hX hR dX10_startLine_65 (Nat.le_of_ble_eq_true rfl) (Nat.le_of_ble_eq_true rfl)
      · refine s_aload_n hX dX10_startLine_66 rfl ?_
        refine s_getO hX dX10_startLine_67 q_1319 rfl (fun j14 => ?_)
        refine s_iload_n hX dX10_startLine_70 rfl ?_
        refine s_bipush (v := 7) hX dX10_startLine_71 kb_7 ?_
        refine s_iadd hX dX10_startLine_73 ?_
        refine s_aload_n hX dX10_startLine_74 rfl ?_
        refine s_getI hX dX10_startLine_75 q_1325 rfl (fun v15 => ?_)
        refine s_iast hX dX10_startLine_78 (fun M16 => ?_)
        refine s_iconst (v := 1) hX dX10_startLine_79 kc_1 ?_
        exact s_zret hX hR dX10_startLine_80 (Nat.le_of_ble_eq_true rfl) (Nat.le_of_ble_eq_true rfl)
abbrev rm_X10_rowLine : Room := { frames := 3, cells := 0, slots := 0, locals := 69 }
theorem k_X10_rowLine : KYV yX10_rowLine cX10_rowLine 7 (some .boolean) 6 := ⟨⟨q_1469, q_9, by decide +kernel, by decide +kernel, by decide +kernel⟩, q_1468, p_64⟩
set_option maxHeartbeats 4000000 in
set_option maxRecDepth 100000 in
theorem c_X10_rowLine (n : Nat) (M0 : MemT) (a0 : Nat) (a1 : Nat) (a2 : Int32) (a3 : Int32) (a4 : Int32) (a5 : Int32) (a6 : Int32) : Ct iI yX10_rowLine cX10_rowLine 7 (some .boolean) rm_X10_rowLine [.ref a0, .ref a1, .int a2, .int a3, .int a4, .int a5, .int a6] M0 (g_X10_rowLine n M0 a0 a1 a2 a3 a4 a5 a6) := by
  unfold g_X10_rowLine
  refine ct_intro RX10 0 [some (.ref a0), some (.ref a1), some (.int a2), some (.int a3), some (.int a4), some (.int a5), some (.int a6)] rfl (by decide +kernel) rfl (Nat.le_of_ble_eq_true rfl) (fun X A hX hnm hR => ?_)
  refine s_aload_n hX dX10_rowLine_0 rfl ?_
  refine s_callVi (ck1 := 0) (sk1 := 0) (ci := 8) hX dX10_rowLine_1 k_X10_traderRead q_1454 (c_X10_traderRead n M0 a0) (by decide) rfl rfl rfl ⟨Nat.le_of_ble_eq_true rfl, Nat.le_of_ble_eq_true rfl⟩ ⟨(Nat.le_of_ble_eq_true rfl), (Nat.le_of_ble_eq_true rfl)⟩ (Nat.le_of_ble_eq_true rfl) rfl rfl (fun r1 M2 => ?_)
  refine s_ifne (tgt := 9) hX dX10_rowLine_4 rfl ?_ ?_
  · refine s_iconst (v := 0) hX dX10_rowLine_7 kc_0 ?_
    exact s_zret hX hR dX10_rowLine_8 (Nat.le_of_ble_eq_true rfl) (Nat.le_of_ble_eq_true rfl)
  · refine s_aload_n hX dX10_rowLine_9 rfl ?_
    refine s_iload_n hX dX10_rowLine_10 rfl ?_
    refine s_aload_n hX dX10_rowLine_11 rfl ?_
    refine s_getI hX dX10_rowLine_12 q_1325 rfl (fun v3 => ?_)
    refine s_iast hX dX10_rowLine_15 (fun M4 => ?_)
    refine s_aload_n hX dX10_rowLine_16 rfl ?_
    refine s_callVu (ck1 := 0) (sk1 := 0) (ci := 8) hX dX10_rowLine_17 k_X10_token q_1406 (c_X10_token n M4 a0) (by decide) rfl rfl rfl ⟨Nat.le_of_ble_eq_true rfl, Nat.le_of_ble_eq_true rfl⟩ ⟨(Nat.le_of_ble_eq_true rfl), (Nat.le_of_ble_eq_true rfl)⟩ (Nat.le_of_ble_eq_true rfl) rfl rfl (fun r5 M6 => ?_)
    refine s_aload_n hX dX10_rowLine_20 rfl ?_
    refine s_iconst (v := 0) hX dX10_rowLine_21 kc_0 ?_
    refine s_bipush (v := 63) hX dX10_rowLine_22 kb_63 ?_
    refine s_callVi (ck1 := 0) (sk1 := 0) (ci := 8) hX dX10_rowLine_24 k_X10_number q_1443 (c_X10_number n M6 a0 0 63) (by decide) rfl rfl rfl ⟨Nat.le_of_ble_eq_true rfl, Nat.le_of_ble_eq_true rfl⟩ ⟨(Nat.le_of_ble_eq_true rfl), (Nat.le_of_ble_eq_true rfl)⟩ (Nat.le_of_ble_eq_true rfl) rfl rfl (fun r7 M8 => ?_)
    refine s_ifne (tgt := 32) hX dX10_rowLine_27 rfl ?_ ?_
    · refine s_iconst (v := 0) hX dX10_rowLine_30 kc_0 ?_
      exact s_zret hX hR dX10_rowLine_31 (Nat.le_of_ble_eq_true rfl) (Nat.le_of_ble_eq_true rfl)
    · refine s_aload_n hX dX10_rowLine_32 rfl ?_
      refine s_iload_n hX dX10_rowLine_33 rfl ?_
      refine s_iconst (v := 1) hX dX10_rowLine_34 kc_1 ?_
      refine s_iadd hX dX10_rowLine_35 ?_
      refine s_aload_n hX dX10_rowLine_36 rfl ?_
      refine s_getI hX dX10_rowLine_37 q_1325 rfl (fun v9 => ?_)
      refine s_iast hX dX10_rowLine_40 (fun M10 => ?_)
      refine s_aload_n hX dX10_rowLine_41 rfl ?_
      refine s_iconst (v := 0) hX dX10_rowLine_42 kc_0 ?_
      refine s_iload hX dX10_rowLine_43 rfl ?_
      refine s_callVi (ck1 := 0) (sk1 := 0) (ci := 8) hX dX10_rowLine_45 k_X10_number q_1443 (c_X10_number n M10 a0 0 a4) (by decide) rfl rfl rfl ⟨Nat.le_of_ble_eq_true rfl, Nat.le_of_ble_eq_true rfl⟩ ⟨(Nat.le_of_ble_eq_true rfl), (Nat.le_of_ble_eq_true rfl)⟩ (Nat.le_of_ble_eq_true rfl) rfl rfl (fun r11 M12 => ?_)
      refine s_ifne (tgt := 53) hX dX10_rowLine_48 rfl ?_ ?_
      · refine s_iconst (v := 0) hX dX10_rowLine_51 kc_0 ?_
        exact s_zret hX hR dX10_rowLine_52 (Nat.le_of_ble_eq_true rfl) (Nat.le_of_ble_eq_true rfl)
      · refine s_aload_n hX dX10_rowLine_53 rfl ?_
        refine s_iload_n hX dX10_rowLine_54 rfl ?_
        refine s_iconst (v := 2) hX dX10_rowLine_55 kc_2 ?_
        refine s_iadd hX dX10_rowLine_56 ?_
        refine s_aload_n hX dX10_rowLine_57 rfl ?_
        refine s_getI hX dX10_rowLine_58 q_1325 rfl (fun v13 => ?_)
        refine s_iast hX dX10_rowLine_61 (fun M14 => ?_)
        refine s_aload_n hX dX10_rowLine_62 rfl ?_
        refine s_iload hX dX10_rowLine_63 rfl ?_
        refine s_iload hX dX10_rowLine_65 rfl ?_
        refine s_callVi (ck1 := 0) (sk1 := 0) (ci := 8) hX dX10_rowLine_67 k_X10_number q_1443 (c_X10_number n M14 a0 a6 a5) (by decide) rfl rfl rfl ⟨Nat.le_of_ble_eq_true rfl, Nat.le_of_ble_eq_true rfl⟩ ⟨(Nat.le_of_ble_eq_true rfl), (Nat.le_of_ble_eq_true rfl)⟩ (Nat.le_of_ble_eq_true rfl) rfl rfl (fun r15 M16 => ?_)
        refine s_ifne (tgt := 75) hX dX10_rowLine_70 rfl ?_ ?_
        · refine s_iconst (v := 0) hX dX10_rowLine_73 kc_0 ?_
          exact s_zret hX hR dX10_rowLine_74 (Nat.le_of_ble_eq_true rfl) (Nat.le_of_ble_eq_true rfl)
        · refine s_aload_n hX dX10_rowLine_75 rfl ?_
          refine s_iload_n hX dX10_rowLine_76 rfl ?_
          refine s_iconst (v := 3) hX dX10_rowLine_77 kc_3 ?_
          refine s_iadd hX dX10_rowLine_78 ?_
          refine s_aload_n hX dX10_rowLine_79 rfl ?_
          refine s_getI hX dX10_rowLine_80 q_1325 rfl (fun v17 => ?_)
          refine s_iast hX dX10_rowLine_83 (fun M18 => ?_)
          refine s_iload_n hX dX10_rowLine_84 rfl ?_
          refine s_iconst (v := 5) hX dX10_rowLine_85 kc_5 ?_
          refine s_icge (tgt := 91) hX dX10_rowLine_86 rfl ?_ ?_
          · refine s_aload_n hX dX10_rowLine_91 rfl ?_
            refine s_getI hX dX10_rowLine_92 q_1314 rfl (fun v19 => ?_)
            refine s_iconst (v := 3) hX dX10_rowLine_95 kc_3 ?_
            refine s_iceq (tgt := 105) hX dX10_rowLine_96 rfl ?_ ?_
            · refine s_aload_n hX dX10_rowLine_105 rfl ?_
              refine s_getI hX dX10_rowLine_106 q_1315 rfl (fun v22 => ?_)
              refine s_iconst (v := 5) hX dX10_rowLine_109 kc_5 ?_
              refine s_jp (fun (s : MemT) => [some (.ref a0), some (.ref a1), some (.int a2), some (.int a3), some (.int a4), some (.int a5), some (.int a6)]) (fun (s : MemT) => []) (fun (s : MemT) => s) 0 0 128 (fun s => ?_) (fun K23 hK23 => ?_)
              · revert s
                intro M24
                try dsimp only
                refine s_aload_n hX dX10_rowLine_128 rfl ?_
                refine s_iload_n hX dX10_rowLine_129 rfl ?_
                refine s_iconst (v := 4) hX dX10_rowLine_130 kc_4 ?_
                refine s_iadd hX dX10_rowLine_131 ?_
                refine s_aload_n hX dX10_rowLine_132 rfl ?_
                refine s_getI hX dX10_rowLine_133 q_1315 rfl (fun v25 => ?_)
                refine s_iast hX dX10_rowLine_136 (fun M26 => ?_)
                refine s_aload_n hX dX10_rowLine_137 rfl ?_
                refine s_callVu (ck1 := 0) (sk1 := 0) (ci := 8) hX dX10_rowLine_138 k_X10_token q_1406 (c_X10_token n M26 a0) (by decide) rfl rfl rfl ⟨Nat.le_of_ble_eq_true rfl, Nat.le_of_ble_eq_true rfl⟩ ⟨(Nat.le_of_ble_eq_true rfl), (Nat.le_of_ble_eq_true rfl)⟩ (Nat.le_of_ble_eq_true rfl) rfl rfl (fun r27 M28 => ?_)
                refine s_iconst (v := 1) hX dX10_rowLine_141 kc_1 ?_
                exact s_zret hX hR dX10_rowLine_142 (Nat.le_of_ble_eq_true rfl) (Nat.le_of_ble_eq_true rfl)
              · refine s_iceq (tgt := 128) hX dX10_rowLine_110 rfl ?_ ?_
                · exact hK23 _
                · refine s_aload_n hX dX10_rowLine_113 rfl ?_
                  refine s_getI hX dX10_rowLine_114 q_1315 rfl (fun v29 => ?_)
                  refine s_bipush (v := 10) hX dX10_rowLine_117 kb_10 ?_
                  refine s_iceq (tgt := 128) hX dX10_rowLine_119 rfl ?_ ?_
                  · exact hK23 _
                  · refine s_aload_n hX dX10_rowLine_122 rfl ?_
                    refine s_iconst (v := 2) hX dX10_rowLine_123 kc_2 ?_
                    refine s_callVi (ck1 := 0) (sk1 := 0) (ci := 8) hX dX10_rowLine_124 k_X10_wrong q_1431 (c_X10_wrong n M18 a0 2) (by decide) rfl rfl rfl ⟨Nat.le_of_ble_eq_true rfl, Nat.le_of_ble_eq_true rfl⟩ ⟨(Nat.le_of_ble_eq_true rfl), (Nat.le_of_ble_eq_true rfl)⟩ (Nat.le_of_ble_eq_true rfl) rfl rfl (fun r30 M31 => ?_)
                    exact s_zret hX hR dX10_rowLine_127 (Nat.le_of_ble_eq_true rfl) (Nat.le_of_ble_eq_true rfl)
            · refine s_aload_n hX dX10_rowLine_99 rfl ?_
              refine s_iconst (v := 1) hX dX10_rowLine_100 kc_1 ?_
              refine s_callVi (ck1 := 0) (sk1 := 0) (ci := 8) hX dX10_rowLine_101 k_X10_wrong q_1431 (c_X10_wrong n M18 a0 1) (by decide) rfl rfl rfl ⟨Nat.le_of_ble_eq_true rfl, Nat.le_of_ble_eq_true rfl⟩ ⟨(Nat.le_of_ble_eq_true rfl), (Nat.le_of_ble_eq_true rfl)⟩ (Nat.le_of_ble_eq_true rfl) rfl rfl (fun r20 M21 => ?_)
              exact s_zret hX hR dX10_rowLine_104 (Nat.le_of_ble_eq_true rfl) (Nat.le_of_ble_eq_true rfl)
          · refine s_iconst (v := 1) hX dX10_rowLine_89 kc_1 ?_
            exact s_zret hX hR dX10_rowLine_90 (Nat.le_of_ble_eq_true rfl) (Nat.le_of_ble_eq_true rfl)
abbrev rm_X10_saleLine : Room := { frames := 4, cells := 0, slots := 0, locals := 95 }
theorem k_X10_saleLine : KYV yX10_saleLine cX10_saleLine 1 (some .boolean) 0 := ⟨⟨q_1465, q_9, by decide +kernel, by decide +kernel, by decide +kernel⟩, q_1464, p_63⟩
set_option maxHeartbeats 4000000 in
set_option maxRecDepth 100000 in
theorem c_X10_saleLine (n : Nat) (M0 : MemT) (a0 : Nat) : Ct iI yX10_saleLine cX10_saleLine 1 (some .boolean) rm_X10_saleLine [.ref a0] M0 (g_X10_saleLine n M0 a0) := by
  unfold g_X10_saleLine
  refine ct_intro RX10 0 [some (.ref a0)] rfl (by decide +kernel) rfl (Nat.le_of_ble_eq_true rfl) (fun X A hX hnm hR => ?_)
  refine s_aload_n hX dX10_saleLine_0 rfl ?_
  refine s_getO hX dX10_saleLine_1 q_1323 rfl (fun j1 => ?_)
  refine s_bipush (v := 11) hX dX10_saleLine_4 kb_11 ?_
  refine s_iald hX dX10_saleLine_6 (fun v2 => ?_)
  refine s_bipush (v := 12) hX dX10_saleLine_7 kb_12 ?_
  refine s_icne (tgt := 18) hX dX10_saleLine_9 rfl ?_ ?_
  · refine s_aload_n hX dX10_saleLine_12 rfl ?_
    refine s_iconst (v := 2) hX dX10_saleLine_13 kc_2 ?_
    refine s_callVi (ck1 := 0) (sk1 := 0) (ci := 8) hX dX10_saleLine_14 k_X10_wrong q_1431 (c_X10_wrong n M0 a0 2) (by decide) rfl rfl rfl ⟨Nat.le_of_ble_eq_true rfl, Nat.le_of_ble_eq_true rfl⟩ ⟨(Nat.le_of_ble_eq_true rfl), (Nat.le_of_ble_eq_true rfl)⟩ (Nat.le_of_ble_eq_true rfl) rfl rfl (fun r3 M4 => ?_)
    exact s_zret hX hR dX10_saleLine_17 (Nat.le_of_ble_eq_true rfl) (Nat.le_of_ble_eq_true rfl)
  · refine s_aload_n hX dX10_saleLine_18 rfl ?_
    refine s_aload_n hX dX10_saleLine_19 rfl ?_
    refine s_getO hX dX10_saleLine_20 q_1320 rfl (fun j5 => ?_)
    refine s_bipush (v := 48) hX dX10_saleLine_23 kb_48 ?_
    refine s_iconst (v := 4) hX dX10_saleLine_25 kc_4 ?_
    refine s_aload_n hX dX10_saleLine_26 rfl ?_
    refine s_getO hX dX10_saleLine_27 q_1323 rfl (fun j6 => ?_)
    refine s_bipush (v := 11) hX dX10_saleLine_30 kb_11 ?_
    refine s_iald hX dX10_saleLine_32 (fun v7 => ?_)
    refine s_imul hX dX10_saleLine_33 ?_
    refine s_iadd hX dX10_saleLine_34 ?_
    refine s_iconst (v := 4) hX dX10_saleLine_35 kc_4 ?_
    refine s_iconst (v := 1) hX dX10_saleLine_36 kc_1 ?_
    refine s_ldc hX dX10_saleLine_37 q_1426 ?_
    refine s_iconst (v := 1) hX dX10_saleLine_39 kc_1 ?_
    refine s_callVi (ck1 := 0) (sk1 := 0) (ci := 8) hX dX10_saleLine_40 k_X10_rowLine q_1466 (c_X10_rowLine n M0 a0 j5 (48 + (4 * v7)) 4 1 99999 1) (by decide) rfl rfl rfl ⟨Nat.le_of_ble_eq_true rfl, Nat.le_of_ble_eq_true rfl⟩ ⟨(Nat.le_of_ble_eq_true rfl), (Nat.le_of_ble_eq_true rfl)⟩ (Nat.le_of_ble_eq_true rfl) rfl rfl (fun r8 M9 => ?_)
    refine s_ifne (tgt := 48) hX dX10_saleLine_43 rfl ?_ ?_
    · refine s_iconst (v := 0) hX dX10_saleLine_46 kc_0 ?_
      exact s_zret hX hR dX10_saleLine_47 (Nat.le_of_ble_eq_true rfl) (Nat.le_of_ble_eq_true rfl)
    · refine s_aload_n hX dX10_saleLine_48 rfl ?_
      refine s_getO hX dX10_saleLine_49 q_1323 rfl (fun j10 => ?_)
      refine s_bipush (v := 11) hX dX10_saleLine_52 kb_11 ?_
      refine s_dup2 hX dX10_saleLine_54 rfl rfl ?_
      refine s_iald hX dX10_saleLine_55 (fun v11 => ?_)
      refine s_iconst (v := 1) hX dX10_saleLine_56 kc_1 ?_
      refine s_iadd hX dX10_saleLine_57 ?_
      refine s_iast hX dX10_saleLine_58 (fun M12 => ?_)
      refine s_iconst (v := 1) hX dX10_saleLine_59 kc_1 ?_
      exact s_zret hX hR dX10_saleLine_60 (Nat.le_of_ble_eq_true rfl) (Nat.le_of_ble_eq_true rfl)
abbrev rm_X10_buyLine : Room := { frames := 4, cells := 0, slots := 0, locals := 95 }
theorem k_X10_buyLine : KYV yX10_buyLine cX10_buyLine 1 (some .boolean) 0 := ⟨⟨q_1473, q_9, by decide +kernel, by decide +kernel, by decide +kernel⟩, q_1472, p_65⟩
set_option maxHeartbeats 4000000 in
set_option maxRecDepth 100000 in
theorem c_X10_buyLine (n : Nat) (M0 : MemT) (a0 : Nat) : Ct iI yX10_buyLine cX10_buyLine 1 (some .boolean) rm_X10_buyLine [.ref a0] M0 (g_X10_buyLine n M0 a0) := by
  unfold g_X10_buyLine
  refine ct_intro RX10 0 [some (.ref a0)] rfl (by decide +kernel) rfl (Nat.le_of_ble_eq_true rfl) (fun X A hX hnm hR => ?_)
  refine s_aload_n hX dX10_buyLine_0 rfl ?_
  refine s_getO hX dX10_buyLine_1 q_1323 rfl (fun j1 => ?_)
  refine s_bipush (v := 12) hX dX10_buyLine_4 kb_12 ?_
  refine s_iald hX dX10_buyLine_6 (fun v2 => ?_)
  refine s_bipush (v := 12) hX dX10_buyLine_7 kb_12 ?_
  refine s_icne (tgt := 18) hX dX10_buyLine_9 rfl ?_ ?_
  · refine s_aload_n hX dX10_buyLine_12 rfl ?_
    refine s_iconst (v := 2) hX dX10_buyLine_13 kc_2 ?_
    refine s_callVi (ck1 := 0) (sk1 := 0) (ci := 8) hX dX10_buyLine_14 k_X10_wrong q_1431 (c_X10_wrong n M0 a0 2) (by decide) rfl rfl rfl ⟨Nat.le_of_ble_eq_true rfl, Nat.le_of_ble_eq_true rfl⟩ ⟨(Nat.le_of_ble_eq_true rfl), (Nat.le_of_ble_eq_true rfl)⟩ (Nat.le_of_ble_eq_true rfl) rfl rfl (fun r3 M4 => ?_)
    exact s_zret hX hR dX10_buyLine_17 (Nat.le_of_ble_eq_true rfl) (Nat.le_of_ble_eq_true rfl)
  · refine s_aload_n hX dX10_buyLine_18 rfl ?_
    refine s_aload_n hX dX10_buyLine_19 rfl ?_
    refine s_getO hX dX10_buyLine_20 q_1321 rfl (fun j5 => ?_)
    refine s_bipush (v := 48) hX dX10_buyLine_23 kb_48 ?_
    refine s_iconst (v := 4) hX dX10_buyLine_25 kc_4 ?_
    refine s_aload_n hX dX10_buyLine_26 rfl ?_
    refine s_getO hX dX10_buyLine_27 q_1323 rfl (fun j6 => ?_)
    refine s_bipush (v := 12) hX dX10_buyLine_30 kb_12 ?_
    refine s_iald hX dX10_buyLine_32 (fun v7 => ?_)
    refine s_imul hX dX10_buyLine_33 ?_
    refine s_iadd hX dX10_buyLine_34 ?_
    refine s_iconst (v := 4) hX dX10_buyLine_35 kc_4 ?_
    refine s_iconst (v := 2) hX dX10_buyLine_36 kc_2 ?_
    refine s_sipush (v := 9999) hX dX10_buyLine_37 ks_9999 ?_
    refine s_iconst (v := 1) hX dX10_buyLine_40 kc_1 ?_
    refine s_callVi (ck1 := 0) (sk1 := 0) (ci := 8) hX dX10_buyLine_41 k_X10_rowLine q_1466 (c_X10_rowLine n M0 a0 j5 (48 + (4 * v7)) 4 2 9999 1) (by decide) rfl rfl rfl ⟨Nat.le_of_ble_eq_true rfl, Nat.le_of_ble_eq_true rfl⟩ ⟨(Nat.le_of_ble_eq_true rfl), (Nat.le_of_ble_eq_true rfl)⟩ (Nat.le_of_ble_eq_true rfl) rfl rfl (fun r8 M9 => ?_)
    refine s_ifne (tgt := 49) hX dX10_buyLine_44 rfl ?_ ?_
    · refine s_iconst (v := 0) hX dX10_buyLine_47 kc_0 ?_
      exact s_zret hX hR dX10_buyLine_48 (Nat.le_of_ble_eq_true rfl) (Nat.le_of_ble_eq_true rfl)
    · refine s_aload_n hX dX10_buyLine_49 rfl ?_
      refine s_getO hX dX10_buyLine_50 q_1323 rfl (fun j10 => ?_)
      refine s_bipush (v := 12) hX dX10_buyLine_53 kb_12 ?_
      refine s_dup2 hX dX10_buyLine_55 rfl rfl ?_
      refine s_iald hX dX10_buyLine_56 (fun v11 => ?_)
      refine s_iconst (v := 1) hX dX10_buyLine_57 kc_1 ?_
      refine s_iadd hX dX10_buyLine_58 ?_
      refine s_iast hX dX10_buyLine_59 (fun M12 => ?_)
      refine s_iconst (v := 1) hX dX10_buyLine_60 kc_1 ?_
      exact s_zret hX hR dX10_buyLine_61 (Nat.le_of_ble_eq_true rfl) (Nat.le_of_ble_eq_true rfl)
abbrev rm_X10_assetLine : Room := { frames := 4, cells := 0, slots := 0, locals := 95 }
theorem k_X10_assetLine : KYV yX10_assetLine cX10_assetLine 1 (some .boolean) 0 := ⟨⟨q_1477, q_9, by decide +kernel, by decide +kernel, by decide +kernel⟩, q_1476, p_66⟩
set_option maxHeartbeats 4000000 in
set_option maxRecDepth 100000 in
theorem c_X10_assetLine (n : Nat) (M0 : MemT) (a0 : Nat) : Ct iI yX10_assetLine cX10_assetLine 1 (some .boolean) rm_X10_assetLine [.ref a0] M0 (g_X10_assetLine n M0 a0) := by
  unfold g_X10_assetLine
  refine ct_intro RX10 0 [some (.ref a0)] rfl (by decide +kernel) rfl (Nat.le_of_ble_eq_true rfl) (fun X A hX hnm hR => ?_)
  refine s_aload_n hX dX10_assetLine_0 rfl ?_
  refine s_getO hX dX10_assetLine_1 q_1323 rfl (fun j1 => ?_)
  refine s_bipush (v := 13) hX dX10_assetLine_4 kb_13 ?_
  refine s_iald hX dX10_assetLine_6 (fun v2 => ?_)
  refine s_iconst (v := 4) hX dX10_assetLine_7 kc_4 ?_
  refine s_icne (tgt := 17) hX dX10_assetLine_8 rfl ?_ ?_
  · refine s_aload_n hX dX10_assetLine_11 rfl ?_
    refine s_iconst (v := 2) hX dX10_assetLine_12 kc_2 ?_
    refine s_callVi (ck1 := 0) (sk1 := 0) (ci := 8) hX dX10_assetLine_13 k_X10_wrong q_1431 (c_X10_wrong n M0 a0 2) (by decide) rfl rfl rfl ⟨Nat.le_of_ble_eq_true rfl, Nat.le_of_ble_eq_true rfl⟩ ⟨(Nat.le_of_ble_eq_true rfl), (Nat.le_of_ble_eq_true rfl)⟩ (Nat.le_of_ble_eq_true rfl) rfl rfl (fun r3 M4 => ?_)
    exact s_zret hX hR dX10_assetLine_16 (Nat.le_of_ble_eq_true rfl) (Nat.le_of_ble_eq_true rfl)
  · refine s_aload_n hX dX10_assetLine_17 rfl ?_
    refine s_aload_n hX dX10_assetLine_18 rfl ?_
    refine s_getO hX dX10_assetLine_19 q_1322 rfl (fun j5 => ?_)
    refine s_bipush (v := 20) hX dX10_assetLine_22 kb_20 ?_
    refine s_iconst (v := 5) hX dX10_assetLine_24 kc_5 ?_
    refine s_aload_n hX dX10_assetLine_25 rfl ?_
    refine s_getO hX dX10_assetLine_26 q_1323 rfl (fun j6 => ?_)
    refine s_bipush (v := 13) hX dX10_assetLine_29 kb_13 ?_
    refine s_iald hX dX10_assetLine_31 (fun v7 => ?_)
    refine s_imul hX dX10_assetLine_32 ?_
    refine s_iadd hX dX10_assetLine_33 ?_
    refine s_iconst (v := 5) hX dX10_assetLine_34 kc_5 ?_
    refine s_iconst (v := 2) hX dX10_assetLine_35 kc_2 ?_
    refine s_sipush (v := 9999) hX dX10_assetLine_36 ks_9999 ?_
    refine s_iconst (v := 1) hX dX10_assetLine_39 kc_1 ?_
    refine s_callVi (ck1 := 0) (sk1 := 0) (ci := 8) hX dX10_assetLine_40 k_X10_rowLine q_1466 (c_X10_rowLine n M0 a0 j5 (20 + (5 * v7)) 5 2 9999 1) (by decide) rfl rfl rfl ⟨Nat.le_of_ble_eq_true rfl, Nat.le_of_ble_eq_true rfl⟩ ⟨(Nat.le_of_ble_eq_true rfl), (Nat.le_of_ble_eq_true rfl)⟩ (Nat.le_of_ble_eq_true rfl) rfl rfl (fun r8 M9 => ?_)
    refine s_ifne (tgt := 48) hX dX10_assetLine_43 rfl ?_ ?_
    · refine s_iconst (v := 0) hX dX10_assetLine_46 kc_0 ?_
      exact s_zret hX hR dX10_assetLine_47 (Nat.le_of_ble_eq_true rfl) (Nat.le_of_ble_eq_true rfl)
    · refine s_aload_n hX dX10_assetLine_48 rfl ?_
      refine s_getO hX dX10_assetLine_49 q_1323 rfl (fun j10 => ?_)
      refine s_bipush (v := 13) hX dX10_assetLine_52 kb_13 ?_
      refine s_dup2 hX dX10_assetLine_54 rfl rfl ?_
      refine s_iald hX dX10_assetLine_55 (fun v11 => ?_)
      refine s_iconst (v := 1) hX dX10_assetLine_56 kc_1 ?_
      refine s_iadd hX dX10_assetLine_57 ?_
      refine s_iast hX dX10_assetLine_58 (fun M12 => ?_)
      refine s_iconst (v := 1) hX dX10_assetLine_59 kc_1 ?_
      exact s_zret hX hR dX10_assetLine_60 (Nat.le_of_ble_eq_true rfl) (Nat.le_of_ble_eq_true rfl)
abbrev rm_X10_wordLine : Room := { frames := 3, cells := 0, slots := 0, locals := 69 }
theorem k_X10_wordLine : KYV yX10_wordLine cX10_wordLine 2 (some .boolean) 0 := ⟨⟨q_1481, q_9, by decide +kernel, by decide +kernel, by decide +kernel⟩, q_1480, p_67⟩
set_option maxHeartbeats 4000000 in
set_option maxRecDepth 100000 in
theorem c_X10_wordLine (n : Nat) (M0 : MemT) (a0 : Nat) : Ct iI yX10_wordLine cX10_wordLine 2 (some .boolean) rm_X10_wordLine [.ref a0] M0 (g_X10_wordLine n M0 a0) := by
  unfold g_X10_wordLine
  refine ct_intro RX10 1 [some (.ref a0), none] rfl (by decide +kernel) rfl (Nat.le_of_ble_eq_true rfl) (fun X A hX hnm hR => ?_)
  refine s_aload_n hX dX10_wordLine_0 rfl ?_
  refine s_getI hX dX10_wordLine_1 q_1315 rfl (fun v1 => ?_)
  refine s_istore1 hX dX10_wordLine_4 (by first | exact trivial | exact rfl) (Nat.le_of_ble_eq_true rfl) ?_
  refine s_aload_n hX dX10_wordLine_5 rfl ?_
  refine s_getI hX dX10_wordLine_6 q_1324 rfl (fun v2 => ?_)
  refine s_iload_n hX dX10_wordLine_9 rfl ?_
  refine s_ishr hX dX10_wordLine_10 ?_
  refine s_iconst (v := 1) hX dX10_wordLine_11 kc_1 ?_
  refine s_iand hX dX10_wordLine_12 ?_
  refine s_iconst (v := 1) hX dX10_wordLine_13 kc_1 ?_
  refine s_icne (tgt := 23) hX dX10_wordLine_14 rfl ?_ ?_
  · refine s_aload_n hX dX10_wordLine_17 rfl ?_
    refine s_iconst (v := 3) hX dX10_wordLine_18 kc_3 ?_
    refine s_callVi (ck1 := 0) (sk1 := 0) (ci := 8) hX dX10_wordLine_19 k_X10_wrong q_1431 (c_X10_wrong n M0 a0 3) (by decide) rfl rfl rfl ⟨Nat.le_of_ble_eq_true rfl, Nat.le_of_ble_eq_true rfl⟩ ⟨(Nat.le_of_ble_eq_true rfl), (Nat.le_of_ble_eq_true rfl)⟩ (Nat.le_of_ble_eq_true rfl) rfl rfl (fun r3 M4 => ?_)
    exact s_zret hX hR dX10_wordLine_22 (Nat.le_of_ble_eq_true rfl) (Nat.le_of_ble_eq_true rfl)
  · refine s_aload_n hX dX10_wordLine_23 rfl ?_
    refine s_dup hX dX10_wordLine_24 rfl ?_
    refine s_getI hX dX10_wordLine_25 q_1324 rfl (fun v5 => ?_)
    refine s_iconst (v := 1) hX dX10_wordLine_28 kc_1 ?_
    refine s_iload_n hX dX10_wordLine_29 rfl ?_
    refine s_ishl hX dX10_wordLine_30 ?_
    refine s_ior hX dX10_wordLine_31 ?_
    refine s_putI hX dX10_wordLine_32 q_1324 rfl rfl (fun M6 => ?_)
    refine s_aload_n hX dX10_wordLine_35 rfl ?_
    refine s_callVu (ck1 := 0) (sk1 := 0) (ci := 8) hX dX10_wordLine_36 k_X10_token q_1406 (c_X10_token n M6 a0) (by decide) rfl rfl rfl ⟨Nat.le_of_ble_eq_true rfl, Nat.le_of_ble_eq_true rfl⟩ ⟨(Nat.le_of_ble_eq_true rfl), (Nat.le_of_ble_eq_true rfl)⟩ (Nat.le_of_ble_eq_true rfl) rfl rfl (fun r7 M8 => ?_)
    refine s_iload_n hX dX10_wordLine_39 rfl ?_
    refine s_iconst (v := 3) hX dX10_wordLine_40 kc_3 ?_
    refine s_icne (tgt := 107) hX dX10_wordLine_41 rfl ?_ ?_
    · refine s_aload_n hX dX10_wordLine_44 rfl ?_
      refine s_getI hX dX10_wordLine_45 q_1314 rfl (fun v9 => ?_)
      refine s_iconst (v := 1) hX dX10_wordLine_48 kc_1 ?_
      refine s_icne (tgt := 61) hX dX10_wordLine_49 rfl ?_ ?_
      · refine s_aload_n hX dX10_wordLine_52 rfl ?_
        refine s_getI hX dX10_wordLine_53 q_1315 rfl (fun v10 => ?_)
        refine s_bipush (v := 10) hX dX10_wordLine_56 kb_10 ?_
        refine s_icge (tgt := 67) hX dX10_wordLine_58 rfl ?_ ?_
        · refine s_aload_n hX dX10_wordLine_67 rfl ?_
          refine s_getO hX dX10_wordLine_68 q_1323 rfl (fun j13 => ?_)
          refine s_bipush (v := 7) hX dX10_wordLine_71 kb_7 ?_
          refine s_aload_n hX dX10_wordLine_73 rfl ?_
          refine s_getI hX dX10_wordLine_74 q_1315 rfl (fun v14 => ?_)
          refine s_bipush (v := 11) hX dX10_wordLine_77 kb_11 ?_
          refine s_icne (tgt := 86) hX dX10_wordLine_79 rfl ?_ ?_
          · refine s_iconst (v := 0) hX dX10_wordLine_82 kc_0 ?_
            refine s_goto (tgt := 100) hX dX10_wordLine_83 rfl ?_
            refine s_iast hX dX10_wordLine_100 (fun M15 => ?_)
            refine s_aload_n hX dX10_wordLine_101 rfl ?_
            refine s_callVu (ck1 := 0) (sk1 := 0) (ci := 8) hX dX10_wordLine_102 k_X10_token q_1406 (c_X10_token n M15 a0) (by decide) rfl rfl rfl ⟨Nat.le_of_ble_eq_true rfl, Nat.le_of_ble_eq_true rfl⟩ ⟨(Nat.le_of_ble_eq_true rfl), (Nat.le_of_ble_eq_true rfl)⟩ (Nat.le_of_ble_eq_true rfl) rfl rfl (fun r16 M17 => ?_)
            refine s_iconst (v := 1) hX dX10_wordLine_105 kc_1 ?_
            exact s_zret hX hR dX10_wordLine_106 (Nat.le_of_ble_eq_true rfl) (Nat.le_of_ble_eq_true rfl)
          · refine s_aload_n hX dX10_wordLine_86 rfl ?_
            refine s_getI hX dX10_wordLine_87 q_1315 rfl (fun v18 => ?_)
            refine s_bipush (v := 10) hX dX10_wordLine_90 kb_10 ?_
            refine s_icne (tgt := 99) hX dX10_wordLine_92 rfl ?_ ?_
            · refine s_iconst (v := 1) hX dX10_wordLine_95 kc_1 ?_
              refine s_goto (tgt := 100) hX dX10_wordLine_96 rfl ?_
              refine s_iast hX dX10_wordLine_100 (fun M19 => ?_)
              refine s_aload_n hX dX10_wordLine_101 rfl ?_
              refine s_callVu (ck1 := 0) (sk1 := 0) (ci := 8) hX dX10_wordLine_102 k_X10_token q_1406 (c_X10_token n M19 a0) (by decide) rfl rfl rfl ⟨Nat.le_of_ble_eq_true rfl, Nat.le_of_ble_eq_true rfl⟩ ⟨(Nat.le_of_ble_eq_true rfl), (Nat.le_of_ble_eq_true rfl)⟩ (Nat.le_of_ble_eq_true rfl) rfl rfl (fun r20 M21 => ?_)
              refine s_iconst (v := 1) hX dX10_wordLine_105 kc_1 ?_
              exact s_zret hX hR dX10_wordLine_106 (Nat.le_of_ble_eq_true rfl) (Nat.le_of_ble_eq_true rfl)
            · refine s_iconst (v := 2) hX dX10_wordLine_99 kc_2 ?_
              refine s_iast hX dX10_wordLine_100 (fun M22 => ?_)
              refine s_aload_n hX dX10_wordLine_101 rfl ?_
              refine s_callVu (ck1 := 0) (sk1 := 0) (ci := 8) hX dX10_wordLine_102 k_X10_token q_1406 (c_X10_token n M22 a0) (by decide) rfl rfl rfl ⟨Nat.le_of_ble_eq_true rfl, Nat.le_of_ble_eq_true rfl⟩ ⟨(Nat.le_of_ble_eq_true rfl), (Nat.le_of_ble_eq_true rfl)⟩ (Nat.le_of_ble_eq_true rfl) rfl rfl (fun r23 M24 => ?_)
              refine s_iconst (v := 1) hX dX10_wordLine_105 kc_1 ?_
              exact s_zret hX hR dX10_wordLine_106 (Nat.le_of_ble_eq_true rfl) (Nat.le_of_ble_eq_true rfl)
        · refine s_aload_n hX dX10_wordLine_61 rfl ?_
          refine s_iconst (v := 1) hX dX10_wordLine_62 kc_1 ?_
          refine s_callVi (ck1 := 0) (sk1 := 0) (ci := 8) hX dX10_wordLine_63 k_X10_wrong q_1431 (c_X10_wrong n M8 a0 1) (by decide) rfl rfl rfl ⟨Nat.le_of_ble_eq_true rfl, Nat.le_of_ble_eq_true rfl⟩ ⟨(Nat.le_of_ble_eq_true rfl), (Nat.le_of_ble_eq_true rfl)⟩ (Nat.le_of_ble_eq_true rfl) rfl rfl (fun r11 M12 => ?_)
          exact s_zret hX hR dX10_wordLine_66 (Nat.le_of_ble_eq_true rfl) (Nat.le_of_ble_eq_true rfl)
      · refine s_aload_n hX dX10_wordLine_61 rfl ?_
        refine s_iconst (v := 1) hX dX10_wordLine_62 kc_1 ?_
        refine s_callVi (ck1 := 0) (sk1 := 0) (ci := 8) hX dX10_wordLine_63 k_X10_wrong q_1431 (c_X10_wrong n M8 a0 1) (by decide) rfl rfl rfl ⟨Nat.le_of_ble_eq_true rfl, Nat.le_of_ble_eq_true rfl⟩ ⟨(Nat.le_of_ble_eq_true rfl), (Nat.le_of_ble_eq_true rfl)⟩ (Nat.le_of_ble_eq_true rfl) rfl rfl (fun r25 M26 => ?_)
        exact s_zret hX hR dX10_wordLine_66 (Nat.le_of_ble_eq_true rfl) (Nat.le_of_ble_eq_true rfl)
    · refine s_iload_n hX dX10_wordLine_107 rfl ?_
      refine s_iconst (v := 4) hX dX10_wordLine_108 kc_4 ?_
      refine s_jp (fun (s : MemT) => [some (.ref a0), some (.int v1)]) (fun (s : MemT) => []) (fun (s : MemT) => s) 0 0 158 (fun s => ?_) (fun K27 hK27 => ?_)
      · revert s
        intro M28
        try dsimp only
        refine s_aload_n hX dX10_wordLine_158 rfl ?_
        refine s_getO hX dX10_wordLine_159 q_1323 rfl (fun j29 => ?_)
        refine s_iload_n hX dX10_wordLine_162 rfl ?_
        refine s_iconst (v := 4) hX dX10_wordLine_163 kc_4 ?_
        refine s_icne (tgt := 172) hX dX10_wordLine_164 rfl ?_ ?_
        · refine s_bipush (v := 8) hX dX10_wordLine_167 kb_8 ?_
          refine s_goto (tgt := 184) hX dX10_wordLine_169 rfl ?_
          refine s_aload_n hX dX10_wordLine_184 rfl ?_
          refine s_getI hX dX10_wordLine_185 q_1325 rfl (fun v30 => ?_)
          refine s_iast hX dX10_wordLine_188 (fun M31 => ?_)
          refine s_iconst (v := 1) hX dX10_wordLine_189 kc_1 ?_
          exact s_zret hX hR dX10_wordLine_190 (Nat.le_of_ble_eq_true rfl) (Nat.le_of_ble_eq_true rfl)
        · refine s_iload_n hX dX10_wordLine_172 rfl ?_
          refine s_iconst (v := 5) hX dX10_wordLine_173 kc_5 ?_
          refine s_icne (tgt := 182) hX dX10_wordLine_174 rfl ?_ ?_
          · refine s_bipush (v := 9) hX dX10_wordLine_177 kb_9 ?_
            refine s_goto (tgt := 184) hX dX10_wordLine_179 rfl ?_
            refine s_aload_n hX dX10_wordLine_184 rfl ?_
            refine s_getI hX dX10_wordLine_185 q_1325 rfl (fun v32 => ?_)
            refine s_iast hX dX10_wordLine_188 (fun M33 => ?_)
            refine s_iconst (v := 1) hX dX10_wordLine_189 kc_1 ?_
            exact s_zret hX hR dX10_wordLine_190 (Nat.le_of_ble_eq_true rfl) (Nat.le_of_ble_eq_true rfl)
          · refine s_bipush (v := 10) hX dX10_wordLine_182 kb_10 ?_
            refine s_aload_n hX dX10_wordLine_184 rfl ?_
            refine s_getI hX dX10_wordLine_185 q_1325 rfl (fun v34 => ?_)
            refine s_iast hX dX10_wordLine_188 (fun M35 => ?_)
            refine s_iconst (v := 1) hX dX10_wordLine_189 kc_1 ?_
            exact s_zret hX hR dX10_wordLine_190 (Nat.le_of_ble_eq_true rfl) (Nat.le_of_ble_eq_true rfl)
      · refine s_icne (tgt := 127) hX dX10_wordLine_109 rfl ?_ ?_
        · refine s_aload_n hX dX10_wordLine_112 rfl ?_
          refine s_bipush (v := 10) hX dX10_wordLine_113 kb_10 ?_
          refine s_sipush (v := 1000) hX dX10_wordLine_115 ks_1000 ?_
          refine s_callVi (ck1 := 0) (sk1 := 0) (ci := 8) hX dX10_wordLine_118 k_X10_number q_1443 (c_X10_number n M8 a0 10 1000) (by decide) rfl rfl rfl ⟨Nat.le_of_ble_eq_true rfl, Nat.le_of_ble_eq_true rfl⟩ ⟨(Nat.le_of_ble_eq_true rfl), (Nat.le_of_ble_eq_true rfl)⟩ (Nat.le_of_ble_eq_true rfl) rfl rfl (fun r36 M37 => ?_)
          refine s_ifeq (tgt := 156) hX dX10_wordLine_121 rfl ?_ ?_
          · refine s_iconst (v := 0) hX dX10_wordLine_156 kc_0 ?_
            exact s_zret hX hR dX10_wordLine_157 (Nat.le_of_ble_eq_true rfl) (Nat.le_of_ble_eq_true rfl)
          · refine s_goto (tgt := 158) hX dX10_wordLine_124 rfl ?_
            exact hK27 _
        · refine s_iload_n hX dX10_wordLine_127 rfl ?_
          refine s_iconst (v := 5) hX dX10_wordLine_128 kc_5 ?_
          refine s_icne (tgt := 146) hX dX10_wordLine_129 rfl ?_ ?_
          · refine s_aload_n hX dX10_wordLine_132 rfl ?_
            refine s_iconst (v := 0) hX dX10_wordLine_133 kc_0 ?_
            refine s_sipush (v := 9999) hX dX10_wordLine_134 ks_9999 ?_
            refine s_callVi (ck1 := 0) (sk1 := 0) (ci := 8) hX dX10_wordLine_137 k_X10_number q_1443 (c_X10_number n M8 a0 0 9999) (by decide) rfl rfl rfl ⟨Nat.le_of_ble_eq_true rfl, Nat.le_of_ble_eq_true rfl⟩ ⟨(Nat.le_of_ble_eq_true rfl), (Nat.le_of_ble_eq_true rfl)⟩ (Nat.le_of_ble_eq_true rfl) rfl rfl (fun r38 M39 => ?_)
            refine s_ifeq (tgt := 156) hX dX10_wordLine_140 rfl ?_ ?_
            · refine s_iconst (v := 0) hX dX10_wordLine_156 kc_0 ?_
              exact s_zret hX hR dX10_wordLine_157 (Nat.le_of_ble_eq_true rfl) (Nat.le_of_ble_eq_true rfl)
            · refine s_goto (tgt := 158) hX dX10_wordLine_143 rfl ?_
              exact hK27 _
          · refine s_aload_n hX dX10_wordLine_146 rfl ?_
            refine s_iconst (v := 0) hX dX10_wordLine_147 kc_0 ?_
            refine s_ldc hX dX10_wordLine_148 q_1426 ?_
            refine s_callVi (ck1 := 0) (sk1 := 0) (ci := 8) hX dX10_wordLine_150 k_X10_number q_1443 (c_X10_number n M8 a0 0 99999) (by decide) rfl rfl rfl ⟨Nat.le_of_ble_eq_true rfl, Nat.le_of_ble_eq_true rfl⟩ ⟨(Nat.le_of_ble_eq_true rfl), (Nat.le_of_ble_eq_true rfl)⟩ (Nat.le_of_ble_eq_true rfl) rfl rfl (fun r40 M41 => ?_)
            refine s_ifne (tgt := 158) hX dX10_wordLine_153 rfl ?_ ?_
            · refine s_iconst (v := 0) hX dX10_wordLine_156 kc_0 ?_
              exact s_zret hX hR dX10_wordLine_157 (Nat.le_of_ble_eq_true rfl) (Nat.le_of_ble_eq_true rfl)
            · exact hK27 _
