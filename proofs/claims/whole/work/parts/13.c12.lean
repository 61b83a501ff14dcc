abbrev rm_X10_farthest : Room := { frames := 6, cells := 0, slots := 0, locals := 141 }
theorem k_X10_farthest : KYV yX10_farthest cX10_farthest 6 (some .int) 1 := ⟨⟨q_1840, q_9, by decide +kernel, by decide +kernel, by decide +kernel⟩, q_1838, q_1839⟩
set_option maxHeartbeats 4000000 in
set_option maxRecDepth 100000 in
theorem c_X10_farthest (n : Nat) (M0 : MemT) (a0 : Nat) (a1 : Int32) : Ct iI yX10_farthest cX10_farthest 6 (some .int) rm_X10_farthest [.ref a0, .int a1] M0 (g_X10_farthest n M0 a0 a1) := by
  unfold g_X10_farthest
  refine ct_intro RX10 4 [some (.ref a0), some (.int a1), none, none, none, none] rfl (by decide +kernel) rfl (Nat.le_of_ble_eq_true rfl) (fun X A hX hnm hR => ?_)
  refine s_aload_n hX dX10_farthest_0 rfl ?_
  refine s_iconst (v := 0) hX dX10_farthest_1 kc_0 ?_
  refine s_putI hX dX10_farthest_2 q_1308 rfl rfl (fun M1 => ?_)
  refine s_aload_n hX dX10_farthest_5 rfl ?_
  refine s_iload_n hX dX10_farthest_6 rfl ?_
  refine s_callVi (ck1 := 0) (sk1 := 0) (ci := 8) hX dX10_farthest_7 k_X10_isTrader q_1510 (c_X10_isTrader n M1 a0 a1) (by decide) rfl rfl rfl ⟨Nat.le_of_ble_eq_true rfl, Nat.le_of_ble_eq_true rfl⟩ ⟨(Nat.le_of_ble_eq_true rfl), (Nat.le_of_ble_eq_true rfl)⟩ (Nat.le_of_ble_eq_true rfl) rfl rfl (fun r2 M3 => ?_)
  refine s_ifne (tgt := 15) hX dX10_farthest_10 rfl ?_ ?_
  · refine s_iconst (v := (-1)) hX dX10_farthest_13 kc_m1 ?_
    exact s_iret hX hR dX10_farthest_14 (Nat.le_of_ble_eq_true rfl) (Nat.le_of_ble_eq_true rfl)
  · refine s_bipush (v := (-2)) hX dX10_farthest_15 kb_m2 ?_
    refine s_istore2 hX dX10_farthest_17 (by first | exact trivial | exact rfl) (Nat.le_of_ble_eq_true rfl) ?_
    refine s_iconst (v := 0) hX dX10_farthest_18 kc_0 ?_
    refine s_istore3 hX dX10_farthest_19 (by first | exact trivial | exact rfl) (Nat.le_of_ble_eq_true rfl) ?_
    refine s_iconst (v := 0) hX dX10_farthest_20 kc_0 ?_
    refine s_istore4 hX dX10_farthest_21 (by first | exact trivial | exact rfl) (Nat.le_of_ble_eq_true rfl) ?_
    refine s_loopE (stk := []) (fun (s : MemT × Int32 × Int32 × Int32) => [some (.ref a0), some (.int a1), some (.int s.2.1), some (.int s.2.2.1), some (.int s.2.2.2), none]) (fun (s : MemT × Int32 × Int32 × Int32) => s.1) 89 (fun (s : MemT × Int32 × Int32 × Int32) => [some (.ref a0), some (.int a1), some (.int s.2.1), some (.int s.2.2.1), some (.int s.2.2.2), none]) (fun s B8 hB8 hE8 => ?_) (fun s => ?_) n (M3, (-2), 0, 0)
    · obtain ⟨M4, v5, v6, v7⟩ := s
      dsimp only
      refine s_iload hX dX10_farthest_23 rfl ?_
      refine s_aload_n hX dX10_farthest_25 rfl ?_
      refine s_callVi (ck1 := 0) (sk1 := 0) (ci := 8) hX dX10_farthest_26 k_X10_year q_1526 (c_X10_year n M4 a0) (by decide) rfl rfl rfl ⟨Nat.le_of_ble_eq_true rfl, Nat.le_of_ble_eq_true rfl⟩ ⟨(Nat.le_of_ble_eq_true rfl), (Nat.le_of_ble_eq_true rfl)⟩ (Nat.le_of_ble_eq_true rfl) rfl rfl (fun r9 M10 => ?_)
      refine s_icge (tgt := 89) hX dX10_farthest_29 rfl ?_ ?_
      · exact s_exit hE8
      · refine s_aload_n hX dX10_farthest_32 rfl ?_
        refine s_iload_n hX dX10_farthest_33 rfl ?_
        refine s_iload hX dX10_farthest_34 rfl ?_
        refine s_callVi (ck1 := 0) (sk1 := 0) (ci := 8) hX dX10_farthest_36 k_X10_backOf q_1715 (c_X10_backOf n M10 a0 a1 v7) (by decide) rfl rfl rfl ⟨Nat.le_of_ble_eq_true rfl, Nat.le_of_ble_eq_true rfl⟩ ⟨(Nat.le_of_ble_eq_true rfl), (Nat.le_of_ble_eq_true rfl)⟩ (Nat.le_of_ble_eq_true rfl) rfl rfl (fun r11 M12 => ?_)
        refine s_aload_n hX dX10_farthest_39 rfl ?_
        refine s_iload_n hX dX10_farthest_40 rfl ?_
        refine s_iload hX dX10_farthest_41 rfl ?_
        refine s_callVi (ck1 := 0) (sk1 := 0) (ci := 8) hX dX10_farthest_43 k_X10_bookedIn q_1637 (c_X10_bookedIn n M12 a0 a1 v7) (by decide) rfl rfl rfl ⟨Nat.le_of_ble_eq_true rfl, Nat.le_of_ble_eq_true rfl⟩ ⟨(Nat.le_of_ble_eq_true rfl), (Nat.le_of_ble_eq_true rfl)⟩ (Nat.le_of_ble_eq_true rfl) rfl rfl (fun r13 M14 => ?_)
        refine s_isub hX dX10_farthest_46 ?_
        refine s_istore5 hX dX10_farthest_47 (by first | exact trivial | exact rfl) (Nat.le_of_ble_eq_true rfl) ?_
        refine s_iload hX dX10_farthest_49 rfl ?_
        refine s_jp (fun (s : MemT × Int32) => [some (.ref a0), some (.int a1), some (.int v5), some (.int v6), some (.int v7), some (.int (r11 - r13))]) (fun (s : MemT × Int32) => [.int s.2]) (fun (s : MemT × Int32) => s.1) 0 0 62 (fun s => ?_) (fun K15 hK15 => ?_)
        · obtain ⟨M16, v17⟩ := s
          dsimp only
          refine s_istore5 hX dX10_farthest_62 (by first | exact trivial | exact rfl) (Nat.le_of_ble_eq_true rfl) ?_
          refine s_iload_n hX dX10_farthest_64 rfl ?_
          refine s_jp (fun (s : MemT) => [some (.ref a0), some (.int a1), some (.int v5), some (.int v6), some (.int v7), some (.int v17)]) (fun (s : MemT) => []) (fun (s : MemT) => s) 0 0 77 (fun s => ?_) (fun K18 hK18 => ?_)
          · revert s
            intro M19
            try dsimp only
            refine s_iload hX dX10_farthest_77 rfl ?_
            refine s_istore2 hX dX10_farthest_79 (by first | exact trivial | exact rfl) (Nat.le_of_ble_eq_true rfl) ?_
            refine s_iload hX dX10_farthest_80 rfl ?_
            refine s_istore3 hX dX10_farthest_82 (by first | exact trivial | exact rfl) (Nat.le_of_ble_eq_true rfl) ?_
            refine s_iinc4 (v := v7 + 1) hX dX10_farthest_83 rfl (by first | exact trivial | exact rfl) (Nat.le_of_ble_eq_true rfl) ?_
            refine s_goto (tgt := 23) hX dX10_farthest_86 rfl ?_
            refine s_forget (loc1 := [some (.ref a0), some (.int a1), some (.int v7), some (.int v17), some (.int (v7 + 1)), none]) ⟨rfl, rfl, rfl, rfl, rfl, trivial⟩ ?_
            exact s_back hB8
          · refine s_iflt (tgt := 77) hX dX10_farthest_65 rfl ?_ ?_
            · exact hK18 _
            · refine s_iload hX dX10_farthest_68 rfl ?_
              refine s_iload_n hX dX10_farthest_70 rfl ?_
              refine s_icgt (tgt := 77) hX dX10_farthest_71 rfl ?_ ?_
              · exact hK18 _
              · refine s_goto (tgt := 83) hX dX10_farthest_74 rfl ?_
                refine s_iinc4 (v := v7 + 1) hX dX10_farthest_83 rfl (by first | exact trivial | exact rfl) (Nat.le_of_ble_eq_true rfl) ?_
                refine s_goto (tgt := 23) hX dX10_farthest_86 rfl ?_
                refine s_forget (loc1 := [some (.ref a0), some (.int a1), some (.int v5), some (.int v6), some (.int (v7 + 1)), none]) ⟨rfl, rfl, rfl, rfl, rfl, trivial⟩ ?_
                exact s_back hB8
        · refine s_ifge (tgt := 60) hX dX10_farthest_51 rfl ?_ ?_
          · refine s_iload hX dX10_farthest_60 rfl ?_
            exact hK15 _
          · refine s_iload hX dX10_farthest_54 rfl ?_
            refine s_ineg hX dX10_farthest_56 ?_
            refine s_goto (tgt := 62) hX dX10_farthest_57 rfl ?_
            exact hK15 _
    · obtain ⟨M20, v21, v22, v23⟩ := s
      dsimp only
      refine s_iload_n hX dX10_farthest_89 rfl ?_
      exact s_iret hX hR dX10_farthest_90 (Nat.le_of_ble_eq_true rfl) (Nat.le_of_ble_eq_true rfl)
abbrev rm_X10_count : Room := { frames := 2, cells := 0, slots := 0, locals := 43 }
theorem k_X10_count : KYV yX10_count cX10_count 4 (some .int) 1 := ⟨⟨q_1844, q_9, by decide +kernel, by decide +kernel, by decide +kernel⟩, q_1842, q_1843⟩
set_option maxHeartbeats 4000000 in
set_option maxRecDepth 100000 in
theorem c_X10_count (n : Nat) (M0 : MemT) (a0 : Nat) (a1 : Int32) : Ct iI yX10_count cX10_count 4 (some .int) rm_X10_count [.ref a0, .int a1] M0 (g_X10_count n M0 a0 a1) := by
  unfold g_X10_count
  refine ct_intro RX10 2 [some (.ref a0), some (.int a1), none, none] rfl (by decide +kernel) rfl (Nat.le_of_ble_eq_true rfl) (fun X A hX hnm hR => ?_)
  refine s_aload_n hX dX10_count_0 rfl ?_
  refine s_iconst (v := 0) hX dX10_count_1 kc_0 ?_
  refine s_putI hX dX10_count_2 q_1308 rfl rfl (fun M1 => ?_)
  refine s_iconst (v := 0) hX dX10_count_5 kc_0 ?_
  refine s_istore2 hX dX10_count_6 (by first | exact trivial | exact rfl) (Nat.le_of_ble_eq_true rfl) ?_
  refine s_iload_n hX dX10_count_7 rfl ?_
  have b2 := sw_0 a1 0
  refine s_swC (tgt := 76) (v := 0) 0 hX dX10_count_8 b2 (by decide) ⟨by decide, by decide⟩ rfl rfl ?_ (fun b4 => ?_)
  · refine s_aload_n hX dX10_count_76 rfl ?_
    refine s_getI hX dX10_count_77 q_1317 rfl (fun v3 => ?_)
    exact s_iret hX hR dX10_count_80 (Nat.le_of_ble_eq_true rfl) (Nat.le_of_ble_eq_true rfl)
  refine s_swC (tgt := 81) (v := 1) 1 hX dX10_count_8 b4 (by decide) ⟨by decide, by decide⟩ rfl rfl ?_ (fun b7 => ?_)
  · refine s_aload_n hX dX10_count_81 rfl ?_
    refine s_iconst (v := 0) hX dX10_count_82 kc_0 ?_
    refine s_callVi (ck1 := 0) (sk1 := 0) (ci := 8) hX dX10_count_83 k_X10_of q_1286 (c_X10_of n M1 a0 0) (by decide) rfl rfl rfl ⟨Nat.le_of_ble_eq_true rfl, Nat.le_of_ble_eq_true rfl⟩ ⟨(Nat.le_of_ble_eq_true rfl), (Nat.le_of_ble_eq_true rfl)⟩ (Nat.le_of_ble_eq_true rfl) rfl rfl (fun r5 M6 => ?_)
    exact s_iret hX hR dX10_count_86 (Nat.le_of_ble_eq_true rfl) (Nat.le_of_ble_eq_true rfl)
  refine s_swC (tgt := 87) (v := 2) 2 hX dX10_count_8 b7 (by decide) ⟨by decide, by decide⟩ rfl rfl ?_ (fun b10 => ?_)
  · refine s_aload_n hX dX10_count_87 rfl ?_
    refine s_sipush (v := 1865) hX dX10_count_88 ks_1865 ?_
    refine s_callVi (ck1 := 0) (sk1 := 0) (ci := 8) hX dX10_count_91 k_X10_of q_1286 (c_X10_of n M1 a0 1865) (by decide) rfl rfl rfl ⟨Nat.le_of_ble_eq_true rfl, Nat.le_of_ble_eq_true rfl⟩ ⟨(Nat.le_of_ble_eq_true rfl), (Nat.le_of_ble_eq_true rfl)⟩ (Nat.le_of_ble_eq_true rfl) rfl rfl (fun r8 M9 => ?_)
    exact s_iret hX hR dX10_count_94 (Nat.le_of_ble_eq_true rfl) (Nat.le_of_ble_eq_true rfl)
  refine s_swC (tgt := 95) (v := 3) 3 hX dX10_count_8 b10 (by decide) ⟨by decide, by decide⟩ rfl rfl ?_ (fun b22 => ?_)
  · refine s_iconst (v := 0) hX dX10_count_95 kc_0 ?_
    refine s_istore3 hX dX10_count_96 (by first | exact trivial | exact rfl) (Nat.le_of_ble_eq_true rfl) ?_
    refine s_loopE (stk := []) (fun (s : MemT × Int32 × Int32) => [some (.ref a0), some (.int a1), some (.int s.2.1), some (.int s.2.2)]) (fun (s : MemT × Int32 × Int32) => s.1) 124 (fun (s : MemT × Int32 × Int32) => [some (.ref a0), some (.int a1), some (.int s.2.1), some (.int s.2.2)]) (fun s B14 hB14 hE14 => ?_) (fun s => ?_) n (M1, 0, 0)
    · obtain ⟨M11, v12, v13⟩ := s
      dsimp only
      refine s_iload_n hX dX10_count_97 rfl ?_
      refine s_aload_n hX dX10_count_98 rfl ?_
      refine s_sipush (v := 1865) hX dX10_count_99 ks_1865 ?_
      refine s_callVi (ck1 := 0) (sk1 := 0) (ci := 8) hX dX10_count_102 k_X10_of q_1286 (c_X10_of n M11 a0 1865) (by decide) rfl rfl rfl ⟨Nat.le_of_ble_eq_true rfl, Nat.le_of_ble_eq_true rfl⟩ ⟨(Nat.le_of_ble_eq_true rfl), (Nat.le_of_ble_eq_true rfl)⟩ (Nat.le_of_ble_eq_true rfl) rfl rfl (fun r15 M16 => ?_)
      refine s_icge (tgt := 124) hX dX10_count_105 rfl ?_ ?_
      · exact s_exit hE14
      · refine s_iload_n hX dX10_count_108 rfl ?_
        refine s_aload_n hX dX10_count_109 rfl ?_
        refine s_iload_n hX dX10_count_110 rfl ?_
        refine s_bipush (v := 9) hX dX10_count_111 kb_9 ?_
        refine s_callVi (ck1 := 0) (sk1 := 0) (ci := 8) hX dX10_count_113 k_X10_at q_1550 (c_X10_at n M16 a0 v13 9) (by decide) rfl rfl rfl ⟨Nat.le_of_ble_eq_true rfl, Nat.le_of_ble_eq_true rfl⟩ ⟨(Nat.le_of_ble_eq_true rfl), (Nat.le_of_ble_eq_true rfl)⟩ (Nat.le_of_ble_eq_true rfl) rfl rfl (fun r17 M18 => ?_)
        refine s_iadd hX dX10_count_116 ?_
        refine s_istore2 hX dX10_count_117 (by first | exact trivial | exact rfl) (Nat.le_of_ble_eq_true rfl) ?_
        refine s_iinc3 (v := v13 + 1) hX dX10_count_118 rfl (by first | exact trivial | exact rfl) (Nat.le_of_ble_eq_true rfl) ?_
        refine s_goto (tgt := 97) hX dX10_count_121 rfl ?_
        exact s_back hB14
    · obtain ⟨M19, v20, v21⟩ := s
      dsimp only
      refine s_iload_n hX dX10_count_124 rfl ?_
      exact s_iret hX hR dX10_count_125 (Nat.le_of_ble_eq_true rfl) (Nat.le_of_ble_eq_true rfl)
  refine s_swC (tgt := 126) (v := 4) 4 hX dX10_count_8 b22 (by decide) ⟨by decide, by decide⟩ rfl rfl ?_ (fun b25 => ?_)
  · refine s_aload_n hX dX10_count_126 rfl ?_
    refine s_sipush (v := 1866) hX dX10_count_127 ks_1866 ?_
    refine s_callVi (ck1 := 0) (sk1 := 0) (ci := 8) hX dX10_count_130 k_X10_of q_1286 (c_X10_of n M1 a0 1866) (by decide) rfl rfl rfl ⟨Nat.le_of_ble_eq_true rfl, Nat.le_of_ble_eq_true rfl⟩ ⟨(Nat.le_of_ble_eq_true rfl), (Nat.le_of_ble_eq_true rfl)⟩ (Nat.le_of_ble_eq_true rfl) rfl rfl (fun r23 M24 => ?_)
    exact s_iret hX hR dX10_count_133 (Nat.le_of_ble_eq_true rfl) (Nat.le_of_ble_eq_true rfl)
  refine s_swC (tgt := 134) (v := 5) 5 hX dX10_count_8 b25 (by decide) ⟨by decide, by decide⟩ rfl rfl ?_ (fun b28 => ?_)
  · refine s_aload_n hX dX10_count_134 rfl ?_
    refine s_getO hX dX10_count_135 q_1323 rfl (fun j26 => ?_)
    refine s_iconst (v := 1) hX dX10_count_138 kc_1 ?_
    refine s_iald hX dX10_count_139 (fun v27 => ?_)
    exact s_iret hX hR dX10_count_140 (Nat.le_of_ble_eq_true rfl) (Nat.le_of_ble_eq_true rfl)
  refine s_swC (tgt := 141) (v := 6) 6 hX dX10_count_8 b28 (by decide) ⟨by decide, by decide⟩ rfl rfl ?_ (fun b31 => ?_)
  · refine s_aload_n hX dX10_count_141 rfl ?_
    refine s_getO hX dX10_count_142 q_1323 rfl (fun j29 => ?_)
    refine s_iconst (v := 0) hX dX10_count_145 kc_0 ?_
    refine s_iald hX dX10_count_146 (fun v30 => ?_)
    exact s_iret hX hR dX10_count_147 (Nat.le_of_ble_eq_true rfl) (Nat.le_of_ble_eq_true rfl)
  refine s_swC (tgt := 148) (v := 7) 7 hX dX10_count_8 b31 (by decide) ⟨by decide, by decide⟩ rfl rfl ?_ (fun b34 => ?_)
  · refine s_aload_n hX dX10_count_148 rfl ?_
    refine s_getO hX dX10_count_149 q_1323 rfl (fun j32 => ?_)
    refine s_iconst (v := 2) hX dX10_count_152 kc_2 ?_
    refine s_iald hX dX10_count_153 (fun v33 => ?_)
    exact s_iret hX hR dX10_count_154 (Nat.le_of_ble_eq_true rfl) (Nat.le_of_ble_eq_true rfl)
  refine s_swC (tgt := 155) (v := 8) 8 hX dX10_count_8 b34 (by decide) ⟨by decide, by decide⟩ rfl rfl ?_ (fun b37 => ?_)
  · refine s_aload_n hX dX10_count_155 rfl ?_
    refine s_getO hX dX10_count_156 q_1323 rfl (fun j35 => ?_)
    refine s_iconst (v := 4) hX dX10_count_159 kc_4 ?_
    refine s_iald hX dX10_count_160 (fun v36 => ?_)
    exact s_iret hX hR dX10_count_161 (Nat.le_of_ble_eq_true rfl) (Nat.le_of_ble_eq_true rfl)
  refine s_swC (tgt := 162) (v := 9) 9 hX dX10_count_8 b37 (by decide) ⟨by decide, by decide⟩ rfl rfl ?_ (fun b40 => ?_)
  · refine s_aload_n hX dX10_count_162 rfl ?_
    refine s_getO hX dX10_count_163 q_1323 rfl (fun j38 => ?_)
    refine s_iconst (v := 5) hX dX10_count_166 kc_5 ?_
    refine s_iald hX dX10_count_167 (fun v39 => ?_)
    exact s_iret hX hR dX10_count_168 (Nat.le_of_ble_eq_true rfl) (Nat.le_of_ble_eq_true rfl)
  refine s_swC (tgt := 169) (v := 10) 10 hX dX10_count_8 b40 (by decide) ⟨by decide, by decide⟩ rfl rfl ?_ (fun b42 => ?_)
  · refine s_aload_n hX dX10_count_169 rfl ?_
    refine s_getI hX dX10_count_170 q_1328 rfl (fun v41 => ?_)
    exact s_iret hX hR dX10_count_173 (Nat.le_of_ble_eq_true rfl) (Nat.le_of_ble_eq_true rfl)
  refine s_swC (tgt := 174) (v := 11) 11 hX dX10_count_8 b42 (by decide) ⟨by decide, by decide⟩ rfl rfl ?_ (fun b44 => ?_)
  · refine s_aload_n hX dX10_count_174 rfl ?_
    refine s_getI hX dX10_count_175 q_1307 rfl (fun v43 => ?_)
    exact s_iret hX hR dX10_count_178 (Nat.le_of_ble_eq_true rfl) (Nat.le_of_ble_eq_true rfl)
  refine s_swC (tgt := 179) (v := 12) 12 hX dX10_count_8 b44 (by decide) ⟨by decide, by decide⟩ rfl rfl ?_ (fun b47 => ?_)
  · refine s_aload_n hX dX10_count_179 rfl ?_
    refine s_getO hX dX10_count_180 q_1323 rfl (fun j45 => ?_)
    refine s_bipush (v := 6) hX dX10_count_183 kb_6 ?_
    refine s_iald hX dX10_count_185 (fun v46 => ?_)
    exact s_iret hX hR dX10_count_186 (Nat.le_of_ble_eq_true rfl) (Nat.le_of_ble_eq_true rfl)
  refine s_swD (tgt := 187) 13 hX dX10_count_8 b47 rfl rfl ?_
  refine s_iconst (v := (-1)) hX dX10_count_187 kc_m1 ?_
  exact s_iret hX hR dX10_count_188 (Nat.le_of_ble_eq_true rfl) (Nat.le_of_ble_eq_true rfl)
