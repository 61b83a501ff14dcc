abbrev rm_X10_lineRead : Room := { frames := 5, cells := 0, slots := 0, locals := 115 }
theorem k_X10_lineRead : KYV yX10_lineRead cX10_lineRead 2 (some .boolean) 0 := ⟨⟨q_1430, q_9, by decide +kernel, by decide +kernel, by decide +kernel⟩, q_1429, p_55⟩
set_option maxHeartbeats 4000000 in
set_option maxRecDepth 100000 in
theorem c_X10_lineRead (n : Nat) (M0 : MemT) (a0 : Nat) : Ct iI yX10_lineRead cX10_lineRead 2 (some .boolean) rm_X10_lineRead [.ref a0] M0 (g_X10_lineRead n M0 a0) := by
  unfold g_X10_lineRead
  refine ct_intro RX10 1 [some (.ref a0), none] rfl (by decide +kernel) rfl (Nat.le_of_ble_eq_true rfl) (fun X A hX hnm hR => ?_)
  refine s_aload_n hX dX10_lineRead_0 rfl ?_
  refine s_getI hX dX10_lineRead_1 q_1314 rfl (fun v1 => ?_)
  refine s_iconst (v := 1) hX dX10_lineRead_4 kc_1 ?_
  refine s_iceq (tgt := 14) hX dX10_lineRead_5 rfl ?_ ?_
  · refine s_aload_n hX dX10_lineRead_14 rfl ?_
    refine s_getI hX dX10_lineRead_15 q_1315 rfl (fun v4 => ?_)
    refine s_jp (fun (s : MemT × Int32) => [some (.ref a0), some (.int s.2)]) (fun (s : MemT × Int32) => []) (fun (s : MemT × Int32) => s.1) 0 0 134 (fun s => ?_) (fun K5 hK5 => ?_)
    · obtain ⟨M6, v7⟩ := s
      dsimp only
      refine s_iload_n hX dX10_lineRead_134 rfl ?_
      refine s_ifne (tgt := 140) hX dX10_lineRead_135 rfl ?_ ?_
      · refine s_iconst (v := 0) hX dX10_lineRead_138 kc_0 ?_
        exact s_zret hX hR dX10_lineRead_139 (Nat.le_of_ble_eq_true rfl) (Nat.le_of_ble_eq_true rfl)
      · refine s_aload_n hX dX10_lineRead_140 rfl ?_
        refine s_getI hX dX10_lineRead_141 q_1314 rfl (fun v8 => ?_)
        refine s_iconst (v := 4) hX dX10_lineRead_144 kc_4 ?_
        refine s_iceq (tgt := 154) hX dX10_lineRead_145 rfl ?_ ?_
        · refine s_aload_n hX dX10_lineRead_154 rfl ?_
          refine s_callVu (ck1 := 0) (sk1 := 0) (ci := 8) hX dX10_lineRead_155 k_X10_token q_1406 (c_X10_token n M6 a0) (by decide) rfl rfl rfl ⟨Nat.le_of_ble_eq_true rfl, Nat.le_of_ble_eq_true rfl⟩ ⟨(Nat.le_of_ble_eq_true rfl), (Nat.le_of_ble_eq_true rfl)⟩ (Nat.le_of_ble_eq_true rfl) rfl rfl (fun r11 M12 => ?_)
          refine s_iconst (v := 1) hX dX10_lineRead_158 kc_1 ?_
          exact s_zret hX hR dX10_lineRead_159 (Nat.le_of_ble_eq_true rfl) (Nat.le_of_ble_eq_true rfl)
        · refine s_aload_n hX dX10_lineRead_148 rfl ?_
          refine s_iconst (v := 1) hX dX10_lineRead_149 kc_1 ?_
          refine s_callVi (ck1 := 0) (sk1 := 0) (ci := 8) hX dX10_lineRead_150 k_X10_wrong q_1431 (c_X10_wrong n M6 a0 1) (by decide) rfl rfl rfl ⟨Nat.le_of_ble_eq_true rfl, Nat.le_of_ble_eq_true rfl⟩ ⟨(Nat.le_of_ble_eq_true rfl), (Nat.le_of_ble_eq_true rfl)⟩ (Nat.le_of_ble_eq_true rfl) rfl rfl (fun r9 M10 => ?_)
          exact s_zret hX hR dX10_lineRead_153 (Nat.le_of_ble_eq_true rfl) (Nat.le_of_ble_eq_true rfl)
    · have b13 := sw_0 v4 0
      refine s_swC (tgt := 72) (v := 0) 0 hX dX10_lineRead_18 b13 (by decide) ⟨by decide, by decide⟩ rfl rfl ?_ (fun b16 => ?_)
      · refine s_aload_n hX dX10_lineRead_72 rfl ?_
        refine s_callVi (ck1 := 0) (sk1 := 0) (ci := 8) hX dX10_lineRead_73 k_X10_traderLine q_1435 (c_X10_traderLine n M0 a0) (by decide) rfl rfl rfl ⟨Nat.le_of_ble_eq_true rfl, Nat.le_of_ble_eq_true rfl⟩ ⟨(Nat.le_of_ble_eq_true rfl), (Nat.le_of_ble_eq_true rfl)⟩ (Nat.le_of_ble_eq_true rfl) rfl rfl (fun r14 M15 => ?_)
        refine s_istore1 hX dX10_lineRead_76 (by first | exact trivial | exact rfl) (Nat.le_of_ble_eq_true rfl) ?_
        refine s_goto (tgt := 134) hX dX10_lineRead_77 rfl ?_
        exact hK5 _
      refine s_swC (tgt := 80) (v := 1) 1 hX dX10_lineRead_18 b16 (by decide) ⟨by decide, by decide⟩ rfl rfl ?_ (fun b19 => ?_)
      · refine s_aload_n hX dX10_lineRead_80 rfl ?_
        refine s_callVi (ck1 := 0) (sk1 := 0) (ci := 8) hX dX10_lineRead_81 k_X10_headLine q_1450 (c_X10_headLine n M0 a0) (by decide) rfl rfl rfl ⟨Nat.le_of_ble_eq_true rfl, Nat.le_of_ble_eq_true rfl⟩ ⟨(Nat.le_of_ble_eq_true rfl), (Nat.le_of_ble_eq_true rfl)⟩ (Nat.le_of_ble_eq_true rfl) rfl rfl (fun r17 M18 => ?_)
        refine s_istore1 hX dX10_lineRead_84 (by first | exact trivial | exact rfl) (Nat.le_of_ble_eq_true rfl) ?_
        refine s_goto (tgt := 134) hX dX10_lineRead_85 rfl ?_
        exact hK5 _
      refine s_swC (tgt := 88) (v := 2) 2 hX dX10_lineRead_18 b19 (by decide) ⟨by decide, by decide⟩ rfl rfl ?_ (fun b22 => ?_)
      · refine s_aload_n hX dX10_lineRead_88 rfl ?_
        refine s_callVi (ck1 := 0) (sk1 := 0) (ci := 8) hX dX10_lineRead_89 k_X10_startLine q_1458 (c_X10_startLine n M0 a0) (by decide) rfl rfl rfl ⟨Nat.le_of_ble_eq_true rfl, Nat.le_of_ble_eq_true rfl⟩ ⟨(Nat.le_of_ble_eq_true rfl), (Nat.le_of_ble_eq_true rfl)⟩ (Nat.le_of_ble_eq_true rfl) rfl rfl (fun r20 M21 => ?_)
        refine s_istore1 hX dX10_lineRead_92 (by first | exact trivial | exact rfl) (Nat.le_of_ble_eq_true rfl) ?_
        refine s_goto (tgt := 134) hX dX10_lineRead_93 rfl ?_
        exact hK5 _
      refine s_swC (tgt := 120) (v := 3) 3 hX dX10_lineRead_18 b22 (by decide) ⟨by decide, by decide⟩ rfl rfl ?_ (fun b25 => ?_)
      · refine s_aload_n hX dX10_lineRead_120 rfl ?_
        refine s_callVi (ck1 := 0) (sk1 := 0) (ci := 8) hX dX10_lineRead_121 k_X10_wordLine q_1478 (c_X10_wordLine n M0 a0) (by decide) rfl rfl rfl ⟨Nat.le_of_ble_eq_true rfl, Nat.le_of_ble_eq_true rfl⟩ ⟨(Nat.le_of_ble_eq_true rfl), (Nat.le_of_ble_eq_true rfl)⟩ (Nat.le_of_ble_eq_true rfl) rfl rfl (fun r23 M24 => ?_)
        refine s_istore1 hX dX10_lineRead_124 (by first | exact trivial | exact rfl) (Nat.le_of_ble_eq_true rfl) ?_
        refine s_goto (tgt := 134) hX dX10_lineRead_125 rfl ?_
        exact hK5 _
      refine s_swC (tgt := 120) (v := 4) 4 hX dX10_lineRead_18 b25 (by decide) ⟨by decide, by decide⟩ rfl rfl ?_ (fun b28 => ?_)
      · refine s_aload_n hX dX10_lineRead_120 rfl ?_
        refine s_callVi (ck1 := 0) (sk1 := 0) (ci := 8) hX dX10_lineRead_121 k_X10_wordLine q_1478 (c_X10_wordLine n M0 a0) (by decide) rfl rfl rfl ⟨Nat.le_of_ble_eq_true rfl, Nat.le_of_ble_eq_true rfl⟩ ⟨(Nat.le_of_ble_eq_true rfl), (Nat.le_of_ble_eq_true rfl)⟩ (Nat.le_of_ble_eq_true rfl) rfl rfl (fun r26 M27 => ?_)
        refine s_istore1 hX dX10_lineRead_124 (by first | exact trivial | exact rfl) (Nat.le_of_ble_eq_true rfl) ?_
        refine s_goto (tgt := 134) hX dX10_lineRead_125 rfl ?_
        exact hK5 _
      refine s_swC (tgt := 120) (v := 5) 5 hX dX10_lineRead_18 b28 (by decide) ⟨by decide, by decide⟩ rfl rfl ?_ (fun b31 => ?_)
      · refine s_aload_n hX dX10_lineRead_120 rfl ?_
        refine s_callVi (ck1 := 0) (sk1 := 0) (ci := 8) hX dX10_lineRead_121 k_X10_wordLine q_1478 (c_X10_wordLine n M0 a0) (by decide) rfl rfl rfl ⟨Nat.le_of_ble_eq_true rfl, Nat.le_of_ble_eq_true rfl⟩ ⟨(Nat.le_of_ble_eq_true rfl), (Nat.le_of_ble_eq_true rfl)⟩ (Nat.le_of_ble_eq_true rfl) rfl rfl (fun r29 M30 => ?_)
        refine s_istore1 hX dX10_lineRead_124 (by first | exact trivial | exact rfl) (Nat.le_of_ble_eq_true rfl) ?_
        refine s_goto (tgt := 134) hX dX10_lineRead_125 rfl ?_
        exact hK5 _
      refine s_swC (tgt := 120) (v := 6) 6 hX dX10_lineRead_18 b31 (by decide) ⟨by decide, by decide⟩ rfl rfl ?_ (fun b34 => ?_)
      · refine s_aload_n hX dX10_lineRead_120 rfl ?_
        refine s_callVi (ck1 := 0) (sk1 := 0) (ci := 8) hX dX10_lineRead_121 k_X10_wordLine q_1478 (c_X10_wordLine n M0 a0) (by decide) rfl rfl rfl ⟨Nat.le_of_ble_eq_true rfl, Nat.le_of_ble_eq_true rfl⟩ ⟨(Nat.le_of_ble_eq_true rfl), (Nat.le_of_ble_eq_true rfl)⟩ (Nat.le_of_ble_eq_true rfl) rfl rfl (fun r32 M33 => ?_)
        refine s_istore1 hX dX10_lineRead_124 (by first | exact trivial | exact rfl) (Nat.le_of_ble_eq_true rfl) ?_
        refine s_goto (tgt := 134) hX dX10_lineRead_125 rfl ?_
        exact hK5 _
      refine s_swC (tgt := 96) (v := 7) 7 hX dX10_lineRead_18 b34 (by decide) ⟨by decide, by decide⟩ rfl rfl ?_ (fun b37 => ?_)
      · refine s_aload_n hX dX10_lineRead_96 rfl ?_
        refine s_callVi (ck1 := 0) (sk1 := 0) (ci := 8) hX dX10_lineRead_97 k_X10_saleLine q_1462 (c_X10_saleLine n M0 a0) (by decide) rfl rfl rfl ⟨Nat.le_of_ble_eq_true rfl, Nat.le_of_ble_eq_true rfl⟩ ⟨(Nat.le_of_ble_eq_true rfl), (Nat.le_of_ble_eq_true rfl)⟩ (Nat.le_of_ble_eq_true rfl) rfl rfl (fun r35 M36 => ?_)
        refine s_istore1 hX dX10_lineRead_100 (by first | exact trivial | exact rfl) (Nat.le_of_ble_eq_true rfl) ?_
        refine s_goto (tgt := 134) hX dX10_lineRead_101 rfl ?_
        exact hK5 _
      refine s_swC (tgt := 104) (v := 8) 8 hX dX10_lineRead_18 b37 (by decide) ⟨by decide, by decide⟩ rfl rfl ?_ (fun b40 => ?_)
      · refine s_aload_n hX dX10_lineRead_104 rfl ?_
        refine s_callVi (ck1 := 0) (sk1 := 0) (ci := 8) hX dX10_lineRead_105 k_X10_buyLine q_1470 (c_X10_buyLine n M0 a0) (by decide) rfl rfl rfl ⟨Nat.le_of_ble_eq_true rfl, Nat.le_of_ble_eq_true rfl⟩ ⟨(Nat.le_of_ble_eq_true rfl), (Nat.le_of_ble_eq_true rfl)⟩ (Nat.le_of_ble_eq_true rfl) rfl rfl (fun r38 M39 => ?_)
        refine s_istore1 hX dX10_lineRead_108 (by first | exact trivial | exact rfl) (Nat.le_of_ble_eq_true rfl) ?_
        refine s_goto (tgt := 134) hX dX10_lineRead_109 rfl ?_
        exact hK5 _
      refine s_swC (tgt := 112) (v := 9) 9 hX dX10_lineRead_18 b40 (by decide) ⟨by decide, by decide⟩ rfl rfl ?_ (fun b43 => ?_)
      · refine s_aload_n hX dX10_lineRead_112 rfl ?_
        refine s_callVi (ck1 := 0) (sk1 := 0) (ci := 8) hX dX10_lineRead_113 k_X10_assetLine q_1474 (c_X10_assetLine n M0 a0) (by decide) rfl rfl rfl ⟨Nat.le_of_ble_eq_true rfl, Nat.le_of_ble_eq_true rfl⟩ ⟨(Nat.le_of_ble_eq_true rfl), (Nat.le_of_ble_eq_true rfl)⟩ (Nat.le_of_ble_eq_true rfl) rfl rfl (fun r41 M42 => ?_)
        refine s_istore1 hX dX10_lineRead_116 (by first | exact trivial | exact rfl) (Nat.le_of_ble_eq_true rfl) ?_
        refine s_goto (tgt := 134) hX dX10_lineRead_117 rfl ?_
        exact hK5 _
      refine s_swD (tgt := 128) 10 hX dX10_lineRead_18 b43 rfl rfl ?_
      refine s_aload_n hX dX10_lineRead_128 rfl ?_
      refine s_iconst (v := 1) hX dX10_lineRead_129 kc_1 ?_
      refine s_callVi (ck1 := 0) (sk1 := 0) (ci := 8) hX dX10_lineRead_130 k_X10_wrong q_1431 (c_X10_wrong n M0 a0 1) (by decide) rfl rfl rfl ⟨Nat.le_of_ble_eq_true rfl, Nat.le_of_ble_eq_true rfl⟩ ⟨(Nat.le_of_ble_eq_true rfl), (Nat.le_of_ble_eq_true rfl)⟩ (Nat.le_of_ble_eq_true rfl) rfl rfl (fun r44 M45 => ?_)
      exact s_zret hX hR dX10_lineRead_133 (Nat.le_of_ble_eq_true rfl) (Nat.le_of_ble_eq_true rfl)
  · refine s_aload_n hX dX10_lineRead_8 rfl ?_
    refine s_iconst (v := 1) hX dX10_lineRead_9 kc_1 ?_
    refine s_callVi (ck1 := 0) (sk1 := 0) (ci := 8) hX dX10_lineRead_10 k_X10_wrong q_1431 (c_X10_wrong n M0 a0 1) (by decide) rfl rfl rfl ⟨Nat.le_of_ble_eq_true rfl, Nat.le_of_ble_eq_true rfl⟩ ⟨(Nat.le_of_ble_eq_true rfl), (Nat.le_of_ble_eq_true rfl)⟩ (Nat.le_of_ble_eq_true rfl) rfl rfl (fun r2 M3 => ?_)
    exact s_zret hX hR dX10_lineRead_13 (Nat.le_of_ble_eq_true rfl) (Nat.le_of_ble_eq_true rfl)
abbrev rm_X10_text : Room := { frames := 6, cells := 0, slots := 0, locals := 136 }
theorem k_X10_text : KYV yX10_text cX10_text 3 (some .int) 1 := ⟨⟨q_1405, q_9, by decide +kernel, by decide +kernel, by decide +kernel⟩, q_1403, q_1404⟩
set_option maxHeartbeats 4000000 in
set_option maxRecDepth 100000 in
theorem c_X10_text (n : Nat) (M0 : MemT) (a0 : Nat) (a1 : Int32) : Ct iI yX10_text cX10_text 3 (some .int) rm_X10_text [.ref a0, .int a1] M0 (g_X10_text n M0 a0 a1) := by
  unfold g_X10_text
  refine ct_intro RX10 1 [some (.ref a0), some (.int a1), none] rfl (by decide +kernel) rfl (Nat.le_of_ble_eq_true rfl) (fun X A hX hnm hR => ?_)
  refine s_aload_n hX dX10_text_0 rfl ?_
  refine s_iconst (v := 0) hX dX10_text_1 kc_0 ?_
  refine s_putI hX dX10_text_2 q_1308 rfl rfl (fun M1 => ?_)
  refine s_iload_n hX dX10_text_5 rfl ?_
  refine s_iflt (tgt := 17) hX dX10_text_6 rfl ?_ ?_
  · refine s_bipush (v := (-2)) hX dX10_text_17 kb_m2 ?_
    exact s_iret hX hR dX10_text_19 (Nat.le_of_ble_eq_true rfl) (Nat.le_of_ble_eq_true rfl)
  · refine s_iload_n hX dX10_text_9 rfl ?_
    refine s_aload_n hX dX10_text_10 rfl ?_
    refine s_getI hX dX10_text_11 q_1307 rfl (fun v2 => ?_)
    refine s_icle (tgt := 20) hX dX10_text_14 rfl ?_ ?_
    · refine s_aload_n hX dX10_text_20 rfl ?_
      refine s_iload_n hX dX10_text_21 rfl ?_
      refine s_putI hX dX10_text_22 q_1312 rfl rfl (fun M3 => ?_)
      refine s_aload_n hX dX10_text_25 rfl ?_
      refine s_iconst (v := 0) hX dX10_text_26 kc_0 ?_
      refine s_putI hX dX10_text_27 q_1307 rfl rfl (fun M4 => ?_)
      refine s_aload_n hX dX10_text_30 rfl ?_
      refine s_iconst (v := 0) hX dX10_text_31 kc_0 ?_
      refine s_putI hX dX10_text_32 q_1310 rfl rfl (fun M5 => ?_)
      refine s_aload_n hX dX10_text_35 rfl ?_
      refine s_iconst (v := (-1)) hX dX10_text_36 kc_m1 ?_
      refine s_putI hX dX10_text_37 q_1311 rfl rfl (fun M6 => ?_)
      refine s_aload_n hX dX10_text_40 rfl ?_
      refine s_iconst (v := 0) hX dX10_text_41 kc_0 ?_
      refine s_putI hX dX10_text_42 q_1313 rfl rfl (fun M7 => ?_)
      refine s_aload_n hX dX10_text_45 rfl ?_
      refine s_callVu (ck1 := 0) (sk1 := 0) (ci := 8) hX dX10_text_46 k_X10_plain q_1263 (c_X10_plain n M7 a0) (by decide) rfl rfl rfl ⟨Nat.le_of_ble_eq_true rfl, Nat.le_of_ble_eq_true rfl⟩ ⟨(Nat.le_of_ble_eq_true rfl), (Nat.le_of_ble_eq_true rfl)⟩ (Nat.le_of_ble_eq_true rfl) rfl rfl (fun r8 M9 => ?_)
      refine s_aload_n hX dX10_text_49 rfl ?_
      refine s_callVu (ck1 := 0) (sk1 := 0) (ci := 8) hX dX10_text_50 k_X10_token q_1406 (c_X10_token n M9 a0) (by decide) rfl rfl rfl ⟨Nat.le_of_ble_eq_true rfl, Nat.le_of_ble_eq_true rfl⟩ ⟨(Nat.le_of_ble_eq_true rfl), (Nat.le_of_ble_eq_true rfl)⟩ (Nat.le_of_ble_eq_true rfl) rfl rfl (fun r10 M11 => ?_)
      refine s_iconst (v := 0) hX dX10_text_53 kc_0 ?_
      refine s_istore2 hX dX10_text_54 (by first | exact trivial | exact rfl) (Nat.le_of_ble_eq_true rfl) ?_
      refine s_loop (stk := []) (fun (s : MemT × Int32) => [some (.ref a0), some (.int a1), some (.int s.2)]) (fun (s : MemT × Int32) => s.1) (fun s B14 hB14 hI14 => ?_) n (M11, 0)
      obtain ⟨M12, v13⟩ := s
      dsimp only
      refine s_aload_n hX dX10_text_55 rfl ?_
      refine s_getI hX dX10_text_56 q_1314 rfl (fun v15 => ?_)
      refine s_ifeq (tgt := 77) hX dX10_text_59 rfl ?_ ?_
      · refine s_aload_n hX dX10_text_77 rfl ?_
        refine s_callVu (ck1 := 0) (sk1 := 0) (ci := 8) hX dX10_text_78 k_X10_keepText q_1267 (c_X10_keepText n M12 a0) (by decide) rfl rfl rfl ⟨Nat.le_of_ble_eq_true rfl, Nat.le_of_ble_eq_true rfl⟩ ⟨(Nat.le_of_ble_eq_true rfl), (Nat.le_of_ble_eq_true rfl)⟩ (Nat.le_of_ble_eq_true rfl) rfl rfl (fun r18 M19 => ?_)
        refine s_iload_n hX dX10_text_81 rfl ?_
        exact s_inr hI14 (s_iret hX hR dX10_text_82 (Nat.le_of_ble_eq_true rfl) (Nat.le_of_ble_eq_true rfl))
      · refine s_aload_n hX dX10_text_62 rfl ?_
        refine s_callVi (ck1 := 0) (sk1 := 0) (ci := 8) hX dX10_text_63 k_X10_lineRead q_1427 (c_X10_lineRead n M12 a0) (by decide) rfl rfl rfl ⟨Nat.le_of_ble_eq_true rfl, Nat.le_of_ble_eq_true rfl⟩ ⟨(Nat.le_of_ble_eq_true rfl), (Nat.le_of_ble_eq_true rfl)⟩ (Nat.le_of_ble_eq_true rfl) rfl rfl (fun r16 M17 => ?_)
        refine s_ifne (tgt := 71) hX dX10_text_66 rfl ?_ ?_
        · refine s_iconst (v := (-1)) hX dX10_text_69 kc_m1 ?_
          exact s_inr hI14 (s_iret hX hR dX10_text_70 (Nat.le_of_ble_eq_true rfl) (Nat.le_of_ble_eq_true rfl))
        · refine s_iinc2 (v := v13 + 1) hX dX10_text_71 rfl (by first | exact trivial | exact rfl) (Nat.le_of_ble_eq_true rfl) ?_
          refine s_goto (tgt := 55) hX dX10_text_74 rfl ?_
          exact s_back hB14
    · refine s_bipush (v := (-2)) hX dX10_text_17 kb_m2 ?_
      exact s_iret hX hR dX10_text_19 (Nat.le_of_ble_eq_true rfl) (Nat.le_of_ble_eq_true rfl)
abbrev rm_X10_fault : Room := { frames := 0, cells := 0, slots := 0, locals := 0 }
theorem k_X10_fault : KYV yX10_fault cX10_fault 2 (some .int) 1 := ⟨⟨q_1485, q_9, by decide +kernel, by decide +kernel, by decide +kernel⟩, q_1483, q_1484⟩
set_option maxHeartbeats 4000000 in
set_option maxRecDepth 100000 in
theorem c_X10_fault (n : Nat) (M0 : MemT) (a0 : Nat) (a1 : Int32) : Ct iI yX10_fault cX10_fault 2 (some .int) rm_X10_fault [.ref a0, .int a1] M0 (g_X10_fault n M0 a0 a1) := by
  unfold g_X10_fault
  refine ct_intro RX10 0 [some (.ref a0), some (.int a1)] rfl (by decide +kernel) rfl (Nat.le_of_ble_eq_true rfl) (fun X A hX hnm hR => ?_)
  refine s_aload_n hX dX10_fault_0 rfl ?_
  refine s_iconst (v := 0) hX dX10_fault_1 kc_0 ?_
  refine s_putI hX dX10_fault_2 q_1308 rfl rfl (fun M1 => ?_)
  refine s_iload_n hX dX10_fault_5 rfl ?_
  refine s_ifne (tgt := 16) hX dX10_fault_6 rfl ?_ ?_
  · refine s_aload_n hX dX10_fault_9 rfl ?_
    refine s_getI hX dX10_fault_10 q_1310 rfl (fun v2 => ?_)
    refine s_goto (tgt := 29) hX dX10_fault_13 rfl ?_
    exact s_iret hX hR dX10_fault_29 (Nat.le_of_ble_eq_true rfl) (Nat.le_of_ble_eq_true rfl)
  · refine s_iload_n hX dX10_fault_16 rfl ?_
    refine s_iconst (v := 1) hX dX10_fault_17 kc_1 ?_
    refine s_icne (tgt := 28) hX dX10_fault_18 rfl ?_ ?_
    · refine s_aload_n hX dX10_fault_21 rfl ?_
      refine s_getI hX dX10_fault_22 q_1311 rfl (fun v3 => ?_)
      refine s_goto (tgt := 29) hX dX10_fault_25 rfl ?_
      exact s_iret hX hR dX10_fault_29 (Nat.le_of_ble_eq_true rfl) (Nat.le_of_ble_eq_true rfl)
    · refine s_iconst (v := (-1)) hX dX10_fault_28 kc_m1 ?_
      exact s_iret hX hR dX10_fault_29 (Nat.le_of_ble_eq_true rfl) (Nat.le_of_ble_eq_true rfl)
abbrev rm_X10_named : Room := { frames := 1, cells := 0, slots := 0, locals := 24 }
theorem k_X10_named : KYV yX10_named cX10_named 2 (some .int) 1 := ⟨⟨q_1489, q_9, by decide +kernel, by decide +kernel, by decide +kernel⟩, q_1487, q_1488⟩
set_option maxHeartbeats 4000000 in
set_option maxRecDepth 100000 in
theorem c_X10_named (n : Nat) (M0 : MemT) (a0 : Nat) (a1 : Int32) : Ct iI yX10_named cX10_named 2 (some .int) rm_X10_named [.ref a0, .int a1] M0 (g_X10_named n M0 a0 a1) := by
  unfold g_X10_named
  refine ct_intro RX10 0 [some (.ref a0), some (.int a1)] rfl (by decide +kernel) rfl (Nat.le_of_ble_eq_true rfl) (fun X A hX hnm hR => ?_)
  refine s_aload_n hX dX10_named_0 rfl ?_
  refine s_iconst (v := 0) hX dX10_named_1 kc_0 ?_
  refine s_putI hX dX10_named_2 q_1308 rfl rfl (fun M1 => ?_)
  refine s_aload_n hX dX10_named_5 rfl ?_
  refine s_iload_n hX dX10_named_6 rfl ?_
  refine s_iconst (v := 0) hX dX10_named_7 kc_0 ?_
  refine s_aload_n hX dX10_named_8 rfl ?_
  refine s_getI hX dX10_named_9 q_1317 rfl (fun v2 => ?_)
  refine s_callVi (ck1 := 0) (sk1 := 0) (ci := 8) hX dX10_named_12 k_X10_nameAt q_1439 (c_X10_nameAt n M1 a0 a1 0 v2) (by decide) rfl rfl rfl ⟨Nat.le_of_ble_eq_true rfl, Nat.le_of_ble_eq_true rfl⟩ ⟨(Nat.le_of_ble_eq_true rfl), (Nat.le_of_ble_eq_true rfl)⟩ (Nat.le_of_ble_eq_true rfl) rfl rfl (fun r3 M4 => ?_)
  exact s_iret hX hR dX10_named_15 (Nat.le_of_ble_eq_true rfl) (Nat.le_of_ble_eq_true rfl)
abbrev rm_X10_isTrader : Room := { frames := 0, cells := 0, slots := 0, locals := 0 }
theorem k_X10_isTrader : KYV yX10_isTrader cX10_isTrader 2 (some .boolean) 1 := ⟨⟨q_1513, q_9, by decide +kernel, by decide +kernel, by decide +kernel⟩, q_1512, p_69⟩
set_option maxHeartbeats 4000000 in
set_option maxRecDepth 100000 in
theorem c_X10_isTrader (n : Nat) (M0 : MemT) (a0 : Nat) (a1 : Int32) : Ct iI yX10_isTrader cX10_isTrader 2 (some .boolean) rm_X10_isTrader [.ref a0, .int a1] M0 (g_X10_isTrader n M0 a0 a1) := by
  unfold g_X10_isTrader
  refine ct_intro RX10 0 [some (.ref a0), some (.int a1)] rfl (by decide +kernel) rfl (Nat.le_of_ble_eq_true rfl) (fun X A hX hnm hR => ?_)
  refine s_iload_n hX dX10_isTrader_0 rfl ?_
  refine s_iflt (tgt := 16) hX dX10_isTrader_1 rfl ?_ ?_
  · refine s_iconst (v := 0) hX dX10_isTrader_16 kc_0 ?_
    exact s_zret hX hR dX10_isTrader_17 (Nat.le_of_ble_eq_true rfl) (Nat.le_of_ble_eq_true rfl)
  · refine s_iload_n hX dX10_isTrader_4 rfl ?_
    refine s_aload_n hX dX10_isTrader_5 rfl ?_
    refine s_getI hX dX10_isTrader_6 q_1317 rfl (fun v1 => ?_)
    refine s_icge (tgt := 16) hX dX10_isTrader_9 rfl ?_ ?_
    · refine s_iconst (v := 0) hX dX10_isTrader_16 kc_0 ?_
      exact s_zret hX hR dX10_isTrader_17 (Nat.le_of_ble_eq_true rfl) (Nat.le_of_ble_eq_true rfl)
    · refine s_iconst (v := 1) hX dX10_isTrader_12 kc_1 ?_
      refine s_goto (tgt := 17) hX dX10_isTrader_13 rfl ?_
      exact s_zret hX hR dX10_isTrader_17 (Nat.le_of_ble_eq_true rfl) (Nat.le_of_ble_eq_true rfl)
abbrev rm_X10_at : Room := { frames := 1, cells := 0, slots := 0, locals := 21 }
theorem k_X10_at : KYV yX10_at cX10_at 3 (some .int) 2 := ⟨⟨q_1553, q_9, by decide +kernel, by decide +kernel, by decide +kernel⟩, q_1552, p_74⟩
set_option maxHeartbeats 4000000 in
set_option maxRecDepth 100000 in
theorem c_X10_at (n : Nat) (M0 : MemT) (a0 : Nat) (a1 : Int32) (a2 : Int32) : Ct iI yX10_at cX10_at 3 (some .int) rm_X10_at [.ref a0, .int a1, .int a2] M0 (g_X10_at n M0 a0 a1 a2) := by
  unfold g_X10_at
  refine ct_intro RX10 0 [some (.ref a0), some (.int a1), some (.int a2)] rfl (by decide +kernel) rfl (Nat.le_of_ble_eq_true rfl) (fun X A hX hnm hR => ?_)
  refine s_aload_n hX dX10_at_0 rfl ?_
  refine s_sipush (v := 2084) hX dX10_at_1 ks_2084 ?_
  refine s_bipush (v := 48) hX dX10_at_4 kb_48 ?_
  refine s_iload_n hX dX10_at_6 rfl ?_
  refine s_imul hX dX10_at_7 ?_
  refine s_iadd hX dX10_at_8 ?_
  refine s_iload_n hX dX10_at_9 rfl ?_
  refine s_iadd hX dX10_at_10 ?_
  refine s_callVi (ck1 := 0) (sk1 := 0) (ci := 8) hX dX10_at_11 k_X10_of q_1286 (c_X10_of n M0 a0 ((2084 + (48 * a1)) + a2)) (by decide) rfl rfl rfl ⟨Nat.le_of_ble_eq_true rfl, Nat.le_of_ble_eq_true rfl⟩ ⟨(Nat.le_of_ble_eq_true rfl), (Nat.le_of_ble_eq_true rfl)⟩ (Nat.le_of_ble_eq_true rfl) rfl rfl (fun r1 M2 => ?_)
  exact s_iret hX hR dX10_at_14 (Nat.le_of_ble_eq_true rfl) (Nat.le_of_ble_eq_true rfl)
abbrev rm_X10_copyBank : Room := { frames := 0, cells := 0, slots := 0, locals := 0 }
theorem k_X10_copyBank : KYV yX10_copyBank cX10_copyBank 4 none 2 := ⟨⟨q_1497, q_9, by decide +kernel, by decide +kernel, by decide +kernel⟩, q_1496, p_68⟩
set_option maxHeartbeats 4000000 in
set_option maxRecDepth 100000 in
theorem c_X10_copyBank (n : Nat) (M0 : MemT) (a0 : Nat) (a1 : Int32) (a2 : Int32) : Ct iU yX10_copyBank cX10_copyBank 4 none rm_X10_copyBank [.ref a0, .int a1, .int a2] M0 (g_X10_copyBank n M0 a0 a1 a2) := by
  unfold g_X10_copyBank
  refine ct_intro RX10 1 [some (.ref a0), some (.int a1), some (.int a2), none] rfl (by decide +kernel) rfl (Nat.le_of_ble_eq_true rfl) (fun X A hX hnm hR => ?_)
  refine s_iconst (v := 0) hX dX10_copyBank_0 kc_0 ?_
  refine s_istore3 hX dX10_copyBank_1 (by first | exact trivial | exact rfl) (Nat.le_of_ble_eq_true rfl) ?_
  refine s_loopE (stk := []) (fun (s : MemT × Int32) => [some (.ref a0), some (.int a1), some (.int a2), some (.int s.2)]) (fun (s : MemT × Int32) => s.1) 39 (fun (s : MemT × Int32) => [some (.ref a0), some (.int a1), some (.int a2), some (.int s.2)]) (fun s B3 hB3 hE3 => ?_) (fun s => ?_) n (M0, 0)
  · obtain ⟨M1, v2⟩ := s
    dsimp only
    refine s_iload_n hX dX10_copyBank_2 rfl ?_
    refine s_sipush (v := 2468) hX dX10_copyBank_3 ks_2468 ?_
    refine s_icge (tgt := 39) hX dX10_copyBank_6 rfl ?_ ?_
    · exact s_exit hE3
    · refine s_aload_n hX dX10_copyBank_9 rfl ?_
      refine s_getO hX dX10_copyBank_10 q_1326 rfl (fun j4 => ?_)
      refine s_sipush (v := 2468) hX dX10_copyBank_13 ks_2468 ?_
      refine s_iload_n hX dX10_copyBank_16 rfl ?_
      refine s_imul hX dX10_copyBank_17 ?_
      refine s_iload_n hX dX10_copyBank_18 rfl ?_
      refine s_iadd hX dX10_copyBank_19 ?_
      refine s_aload_n hX dX10_copyBank_20 rfl ?_
      refine s_getO hX dX10_copyBank_21 q_1326 rfl (fun j5 => ?_)
      refine s_sipush (v := 2468) hX dX10_copyBank_24 ks_2468 ?_
      refine s_iload_n hX dX10_copyBank_27 rfl ?_
      refine s_imul hX dX10_copyBank_28 ?_
      refine s_iload_n hX dX10_copyBank_29 rfl ?_
      refine s_iadd hX dX10_copyBank_30 ?_
      refine s_iald hX dX10_copyBank_31 (fun v6 => ?_)
      refine s_iast hX dX10_copyBank_32 (fun M7 => ?_)
      refine s_iinc3 (v := v2 + 1) hX dX10_copyBank_33 rfl (by first | exact trivial | exact rfl) (Nat.le_of_ble_eq_true rfl) ?_
      refine s_goto (tgt := 2) hX dX10_copyBank_36 rfl ?_
      exact s_back hB3
  · obtain ⟨M8, v9⟩ := s
    dsimp only
    exact s_vret hX hR dX10_copyBank_39 (Nat.le_of_ble_eq_true rfl) (Nat.le_of_ble_eq_true rfl)
abbrev rm_X10_canUndo : Room := { frames := 1, cells := 0, slots := 0, locals := 23 }
theorem k_X10_canUndo : KYV yX10_canUndo cX10_canUndo 2 none 0 := ⟨⟨q_1517, q_9, by decide +kernel, by decide +kernel, by decide +kernel⟩, q_1516, p_70⟩
set_option maxHeartbeats 4000000 in
set_option maxRecDepth 100000 in
theorem c_X10_canUndo (n : Nat) (M0 : MemT) (a0 : Nat) : Ct iU yX10_canUndo cX10_canUndo 2 none rm_X10_canUndo [.ref a0] M0 (g_X10_canUndo n M0 a0) := by
  unfold g_X10_canUndo
  refine ct_intro RX10 1 [some (.ref a0), none] rfl (by decide +kernel) rfl (Nat.le_of_ble_eq_true rfl) (fun X A hX hnm hR => ?_)
  refine s_aload_n hX dX10_canUndo_0 rfl ?_
  refine s_getI hX dX10_canUndo_1 q_1328 rfl (fun v1 => ?_)
  refine s_bipush (v := 20) hX dX10_canUndo_4 kb_20 ?_
  refine s_jp (fun (s : MemT) => [some (.ref a0), none]) (fun (s : MemT) => []) (fun (s : MemT) => s) 0 0 39 (fun s => ?_) (fun K2 hK2 => ?_)
  · revert s
    intro M3
    try dsimp only
    refine s_aload_n hX dX10_canUndo_39 rfl ?_
    refine s_iconst (v := 0) hX dX10_canUndo_40 kc_0 ?_
    refine s_iconst (v := 3) hX dX10_canUndo_41 kc_3 ?_
    refine s_aload_n hX dX10_canUndo_42 rfl ?_
    refine s_getI hX dX10_canUndo_43 q_1328 rfl (fun v4 => ?_)
    refine s_iadd hX dX10_canUndo_46 ?_
    refine s_callVu (ck1 := 0) (sk1 := 0) (ci := 8) hX dX10_canUndo_47 k_X10_copyBank q_1494 (c_X10_copyBank n M3 a0 0 (3 + v4)) (by decide) rfl rfl rfl ⟨Nat.le_of_ble_eq_true rfl, Nat.le_of_ble_eq_true rfl⟩ ⟨(Nat.le_of_ble_eq_true rfl), (Nat.le_of_ble_eq_true rfl)⟩ (Nat.le_of_ble_eq_true rfl) rfl rfl (fun r5 M6 => ?_)
    refine s_aload_n hX dX10_canUndo_50 rfl ?_
    refine s_dup hX dX10_canUndo_51 rfl ?_
    refine s_getI hX dX10_canUndo_52 q_1328 rfl (fun v7 => ?_)
    refine s_iconst (v := 1) hX dX10_canUndo_55 kc_1 ?_
    refine s_iadd hX dX10_canUndo_56 ?_
    refine s_putI hX dX10_canUndo_57 q_1328 rfl rfl (fun M8 => ?_)
    exact s_vret hX hR dX10_canUndo_60 (Nat.le_of_ble_eq_true rfl) (Nat.le_of_ble_eq_true rfl)
  · refine s_icne (tgt := 39) hX dX10_canUndo_6 rfl ?_ ?_
    · refine s_iconst (v := 1) hX dX10_canUndo_9 kc_1 ?_
      refine s_istore1 hX dX10_canUndo_10 (by first | exact trivial | exact rfl) (Nat.le_of_ble_eq_true rfl) ?_
      refine s_loopE (stk := []) (fun (s : MemT × Int32) => [some (.ref a0), some (.int s.2)]) (fun (s : MemT × Int32) => s.1) 33 (fun (s : MemT × Int32) => [some (.ref a0), some (.int s.2)]) (fun s B11 hB11 hE11 => ?_) (fun s => ?_) n (M0, 1)
      · obtain ⟨M9, v10⟩ := s
        dsimp only
        refine s_iload_n hX dX10_canUndo_11 rfl ?_
        refine s_bipush (v := 20) hX dX10_canUndo_12 kb_20 ?_
        refine s_icge (tgt := 33) hX dX10_canUndo_14 rfl ?_ ?_
        · exact s_exit hE11
        · refine s_aload_n hX dX10_canUndo_17 rfl ?_
          refine s_iconst (v := 3) hX dX10_canUndo_18 kc_3 ?_
          refine s_iload_n hX dX10_canUndo_19 rfl ?_
          refine s_iadd hX dX10_canUndo_20 ?_
          refine s_iconst (v := 2) hX dX10_canUndo_21 kc_2 ?_
          refine s_iload_n hX dX10_canUndo_22 rfl ?_
          refine s_iadd hX dX10_canUndo_23 ?_
          refine s_callVu (ck1 := 0) (sk1 := 0) (ci := 8) hX dX10_canUndo_24 k_X10_copyBank q_1494 (c_X10_copyBank n M9 a0 (3 + v10) (2 + v10)) (by decide) rfl rfl rfl ⟨Nat.le_of_ble_eq_true rfl, Nat.le_of_ble_eq_true rfl⟩ ⟨(Nat.le_of_ble_eq_true rfl), (Nat.le_of_ble_eq_true rfl)⟩ (Nat.le_of_ble_eq_true rfl) rfl rfl (fun r12 M13 => ?_)
          refine s_iinc1 (v := v10 + 1) hX dX10_canUndo_27 rfl (by first | exact trivial | exact rfl) (Nat.le_of_ble_eq_true rfl) ?_
          refine s_goto (tgt := 11) hX dX10_canUndo_30 rfl ?_
          exact s_back hB11
      · obtain ⟨M14, v15⟩ := s
        dsimp only
        refine s_aload_n hX dX10_canUndo_33 rfl ?_
        refine s_bipush (v := 19) hX dX10_canUndo_34 kb_19 ?_
        refine s_putI hX dX10_canUndo_36 q_1328 rfl rfl (fun M16 => ?_)
        refine s_forget (loc1 := [some (.ref a0), none]) ⟨rfl, trivial⟩ ?_
        exact hK2 _
    · exact hK2 _
abbrev rm_X10_undo : Room := { frames := 1, cells := 0, slots := 0, locals := 23 }
theorem k_X10_undo : KYV yX10_undo cX10_undo 1 (some .int) 0 := ⟨⟨q_1493, q_9, by decide +kernel, by decide +kernel, by decide +kernel⟩, q_1491, q_1492⟩
set_option maxHeartbeats 4000000 in
set_option maxRecDepth 100000 in
theorem c_X10_undo (n : Nat) (M0 : MemT) (a0 : Nat) : Ct iI yX10_undo cX10_undo 1 (some .int) rm_X10_undo [.ref a0] M0 (g_X10_undo n M0 a0) := by
  unfold g_X10_undo
  refine ct_intro RX10 0 [some (.ref a0)] rfl (by decide +kernel) rfl (Nat.le_of_ble_eq_true rfl) (fun X A hX hnm hR => ?_)
  refine s_aload_n hX dX10_undo_0 rfl ?_
  refine s_iconst (v := 0) hX dX10_undo_1 kc_0 ?_
  refine s_putI hX dX10_undo_2 q_1308 rfl rfl (fun M1 => ?_)
  refine s_aload_n hX dX10_undo_5 rfl ?_
  refine s_getI hX dX10_undo_6 q_1328 rfl (fun v2 => ?_)
  refine s_ifne (tgt := 14) hX dX10_undo_9 rfl ?_ ?_
  · refine s_iconst (v := (-1)) hX dX10_undo_12 kc_m1 ?_
    exact s_iret hX hR dX10_undo_13 (Nat.le_of_ble_eq_true rfl) (Nat.le_of_ble_eq_true rfl)
  · refine s_aload_n hX dX10_undo_14 rfl ?_
    refine s_dup hX dX10_undo_15 rfl ?_
    refine s_getI hX dX10_undo_16 q_1328 rfl (fun v3 => ?_)
    refine s_iconst (v := 1) hX dX10_undo_19 kc_1 ?_
    refine s_isub hX dX10_undo_20 ?_
    refine s_putI hX dX10_undo_21 q_1328 rfl rfl (fun M4 => ?_)
    refine s_aload_n hX dX10_undo_24 rfl ?_
    refine s_iconst (v := 3) hX dX10_undo_25 kc_3 ?_
    refine s_aload_n hX dX10_undo_26 rfl ?_
    refine s_getI hX dX10_undo_27 q_1328 rfl (fun v5 => ?_)
    refine s_iadd hX dX10_undo_30 ?_
    refine s_iconst (v := 0) hX dX10_undo_31 kc_0 ?_
    refine s_callVu (ck1 := 0) (sk1 := 0) (ci := 8) hX dX10_undo_32 k_X10_copyBank q_1494 (c_X10_copyBank n M4 a0 (3 + v5) 0) (by decide) rfl rfl rfl ⟨Nat.le_of_ble_eq_true rfl, Nat.le_of_ble_eq_true rfl⟩ ⟨(Nat.le_of_ble_eq_true rfl), (Nat.le_of_ble_eq_true rfl)⟩ (Nat.le_of_ble_eq_true rfl) rfl rfl (fun r6 M7 => ?_)
    refine s_aload_n hX dX10_undo_35 rfl ?_
    refine s_getI hX dX10_undo_36 q_1328 rfl (fun v8 => ?_)
    exact s_iret hX hR dX10_undo_39 (Nat.le_of_ble_eq_true rfl) (Nat.le_of_ble_eq_true rfl)
abbrev rm_X10_keep : Room := { frames := 1, cells := 0, slots := 0, locals := 23 }
theorem k_X10_keep : KYV yX10_keep cX10_keep 1 (some .int) 0 := ⟨⟨q_1501, q_9, by decide +kernel, by decide +kernel, by decide +kernel⟩, q_1499, q_1500⟩
set_option maxHeartbeats 4000000 in
set_option maxRecDepth 100000 in
theorem c_X10_keep (n : Nat) (M0 : MemT) (a0 : Nat) : Ct iI yX10_keep cX10_keep 1 (some .int) rm_X10_keep [.ref a0] M0 (g_X10_keep n M0 a0) := by
  unfold g_X10_keep
  refine ct_intro RX10 0 [some (.ref a0)] rfl (by decide +kernel) rfl (Nat.le_of_ble_eq_true rfl) (fun X A hX hnm hR => ?_)
  refine s_aload_n hX dX10_keep_0 rfl ?_
  refine s_iconst (v := 0) hX dX10_keep_1 kc_0 ?_
  refine s_putI hX dX10_keep_2 q_1308 rfl rfl (fun M1 => ?_)
  refine s_aload_n hX dX10_keep_5 rfl ?_
  refine s_iconst (v := 0) hX dX10_keep_6 kc_0 ?_
  refine s_iconst (v := 2) hX dX10_keep_7 kc_2 ?_
  refine s_callVu (ck1 := 0) (sk1 := 0) (ci := 8) hX dX10_keep_8 k_X10_copyBank q_1494 (c_X10_copyBank n M1 a0 0 2) (by decide) rfl rfl rfl ⟨Nat.le_of_ble_eq_true rfl, Nat.le_of_ble_eq_true rfl⟩ ⟨(Nat.le_of_ble_eq_true rfl), (Nat.le_of_ble_eq_true rfl)⟩ (Nat.le_of_ble_eq_true rfl) rfl rfl (fun r2 M3 => ?_)
  refine s_aload_n hX dX10_keep_11 rfl ?_
  refine s_iconst (v := 1) hX dX10_keep_12 kc_1 ?_
  refine s_putZ hX dX10_keep_13 q_1329 rfl rfl (fun M4 => ?_)
  refine s_aload_n hX dX10_keep_16 rfl ?_
  refine s_iconst (v := 0) hX dX10_keep_17 kc_0 ?_
  refine s_callVi (ck1 := 0) (sk1 := 0) (ci := 8) hX dX10_keep_18 k_X10_of q_1286 (c_X10_of n M4 a0 0) (by decide) rfl rfl rfl ⟨Nat.le_of_ble_eq_true rfl, Nat.le_of_ble_eq_true rfl⟩ ⟨(Nat.le_of_ble_eq_true rfl), (Nat.le_of_ble_eq_true rfl)⟩ (Nat.le_of_ble_eq_true rfl) rfl rfl (fun r5 M6 => ?_)
  exact s_iret hX hR dX10_keep_21 (Nat.le_of_ble_eq_true rfl) (Nat.le_of_ble_eq_true rfl)
abbrev rm_X10_back : Room := { frames := 1, cells := 0, slots := 0, locals := 23 }
theorem k_X10_back : KYV yX10_back cX10_back 1 (some .int) 0 := ⟨⟨q_1505, q_9, by decide +kernel, by decide +kernel, by decide +kernel⟩, q_1503, q_1504⟩
set_option maxHeartbeats 4000000 in
set_option maxRecDepth 100000 in
theorem c_X10_back (n : Nat) (M0 : MemT) (a0 : Nat) : Ct iI yX10_back cX10_back 1 (some .int) rm_X10_back [.ref a0] M0 (g_X10_back n M0 a0) := by
  unfold g_X10_back
  refine ct_intro RX10 0 [some (.ref a0)] rfl (by decide +kernel) rfl (Nat.le_of_ble_eq_true rfl) (fun X A hX hnm hR => ?_)
  refine s_aload_n hX dX10_back_0 rfl ?_
  refine s_iconst (v := 0) hX dX10_back_1 kc_0 ?_
  refine s_putI hX dX10_back_2 q_1308 rfl rfl (fun M1 => ?_)
  refine s_aload_n hX dX10_back_5 rfl ?_
  refine s_getI hX dX10_back_6 q_1329 rfl (fun v2 => ?_)
  refine s_ifne (tgt := 14) hX dX10_back_9 rfl ?_ ?_
  · refine s_iconst (v := (-1)) hX dX10_back_12 kc_m1 ?_
    exact s_iret hX hR dX10_back_13 (Nat.le_of_ble_eq_true rfl) (Nat.le_of_ble_eq_true rfl)
  · refine s_aload_n hX dX10_back_14 rfl ?_
    refine s_iconst (v := 2) hX dX10_back_15 kc_2 ?_
    refine s_iconst (v := 0) hX dX10_back_16 kc_0 ?_
    refine s_callVu (ck1 := 0) (sk1 := 0) (ci := 8) hX dX10_back_17 k_X10_copyBank q_1494 (c_X10_copyBank n M1 a0 2 0) (by decide) rfl rfl rfl ⟨Nat.le_of_ble_eq_true rfl, Nat.le_of_ble_eq_true rfl⟩ ⟨(Nat.le_of_ble_eq_true rfl), (Nat.le_of_ble_eq_true rfl)⟩ (Nat.le_of_ble_eq_true rfl) rfl rfl (fun r3 M4 => ?_)
    refine s_aload_n hX dX10_back_20 rfl ?_
    refine s_iconst (v := 0) hX dX10_back_21 kc_0 ?_
    refine s_putI hX dX10_back_22 q_1328 rfl rfl (fun M5 => ?_)
    refine s_aload_n hX dX10_back_25 rfl ?_
    refine s_iconst (v := 0) hX dX10_back_26 kc_0 ?_
    refine s_callVi (ck1 := 0) (sk1 := 0) (ci := 8) hX dX10_back_27 k_X10_of q_1286 (c_X10_of n M5 a0 0) (by decide) rfl rfl rfl ⟨Nat.le_of_ble_eq_true rfl, Nat.le_of_ble_eq_true rfl⟩ ⟨(Nat.le_of_ble_eq_true rfl), (Nat.le_of_ble_eq_true rfl)⟩ (Nat.le_of_ble_eq_true rfl) rfl rfl (fun r6 M7 => ?_)
    exact s_iret hX hR dX10_back_30 (Nat.le_of_ble_eq_true rfl) (Nat.le_of_ble_eq_true rfl)
abbrev rm_X10_year : Room := { frames := 1, cells := 0, slots := 0, locals := 21 }
theorem k_X10_year : KYV yX10_year cX10_year 1 (some .int) 0 := ⟨⟨q_1529, q_9, by decide +kernel, by decide +kernel, by decide +kernel⟩, q_1528, p_71⟩
set_option maxHeartbeats 4000000 in
set_option maxRecDepth 100000 in
theorem c_X10_year (n : Nat) (M0 : MemT) (a0 : Nat) : Ct iI yX10_year cX10_year 1 (some .int) rm_X10_year [.ref a0] M0 (g_X10_year n M0 a0) := by
  unfold g_X10_year
  refine ct_intro RX10 0 [some (.ref a0)] rfl (by decide +kernel) rfl (Nat.le_of_ble_eq_true rfl) (fun X A hX hnm hR => ?_)
  refine s_aload_n hX dX10_year_0 rfl ?_
  refine s_iconst (v := 0) hX dX10_year_1 kc_0 ?_
  refine s_callVi (ck1 := 0) (sk1 := 0) (ci := 8) hX dX10_year_2 k_X10_of q_1286 (c_X10_of n M0 a0 0) (by decide) rfl rfl rfl ⟨Nat.le_of_ble_eq_true rfl, Nat.le_of_ble_eq_true rfl⟩ ⟨(Nat.le_of_ble_eq_true rfl), (Nat.le_of_ble_eq_true rfl)⟩ (Nat.le_of_ble_eq_true rfl) rfl rfl (fun r1 M2 => ?_)
  refine s_iconst (v := 4) hX dX10_year_5 kc_4 ?_
  refine s_idiv hX dX10_year_6 ?_
  exact s_iret hX hR dX10_year_7 (Nat.le_of_ble_eq_true rfl) (Nat.le_of_ble_eq_true rfl)
abbrev rm_X10_quotient : Room := { frames := 0, cells := 0, slots := 0, locals := 0 }
theorem k_X10_quotient : KYS yX10_quotient cX10_quotient 6 (some .long) 2 := ⟨⟨q_1611, q_9, by decide +kernel, by decide +kernel, by decide +kernel⟩, q_1610⟩
set_option maxHeartbeats 4000000 in
set_option maxRecDepth 100000 in
theorem c_X10_quotient (n : Nat) (M0 : MemT) (a0 : Int64) (a1 : Int64) : Ct iJ yX10_quotient cX10_quotient 6 (some .long) rm_X10_quotient [.long a0, .long a1] M0 (g_X10_quotient n M0 a0 a1) := by
  unfold g_X10_quotient
  refine ct_intro RX10 2 [some (.long a0), none, some (.long a1), none, none, none] rfl (by decide +kernel) rfl (Nat.le_of_ble_eq_true rfl) (fun X A hX hnm hR => ?_)
  refine s_lload_n hX dX10_quotient_0 rfl ?_
  refine s_lload_n hX dX10_quotient_1 rfl ?_
  refine s_ldiv hX dX10_quotient_2 ?_
  refine s_lstore4 hX dX10_quotient_3 (by first | exact trivial | exact rfl) (Nat.le_of_ble_eq_true rfl) ?_
  refine s_lload_n hX dX10_quotient_5 rfl ?_
  refine s_lload_n hX dX10_quotient_6 rfl ?_
  refine s_lrem hX dX10_quotient_7 ?_
  refine s_lconst (v := 0) hX dX10_quotient_8 rfl ?_
  refine s_lcmp hX dX10_quotient_9 ?_
  refine s_ifge (tgt := 20) hX dX10_quotient_10 rfl ?_ ?_
  · refine s_lload hX dX10_quotient_20 rfl ?_
    exact s_lret hX hR dX10_quotient_22 (Nat.le_of_ble_eq_true rfl) (Nat.le_of_ble_eq_true rfl)
  · refine s_lload hX dX10_quotient_13 rfl ?_
    refine s_lconst (v := 1) hX dX10_quotient_15 rfl ?_
    refine s_lsub hX dX10_quotient_16 ?_
    refine s_goto (tgt := 22) hX dX10_quotient_17 rfl ?_
    exact s_lret hX hR dX10_quotient_22 (Nat.le_of_ble_eq_true rfl) (Nat.le_of_ble_eq_true rfl)
abbrev rm_X10_cutBy : Room := { frames := 1, cells := 0, slots := 0, locals := 25 }
theorem k_X10_cutBy : KYS yX10_cutBy cX10_cutBy 5 (some .long) 3 := ⟨⟨q_1608, q_9, by decide +kernel, by decide +kernel, by decide +kernel⟩, q_1607⟩
set_option maxHeartbeats 4000000 in
set_option maxRecDepth 100000 in
theorem c_X10_cutBy (n : Nat) (M0 : MemT) (a0 : Int32) (a1 : Int64) (a2 : Int64) : Ct iJ yX10_cutBy cX10_cutBy 5 (some .long) rm_X10_cutBy [.int a0, .long a1, .long a2] M0 (g_X10_cutBy n M0 a0 a1 a2) := by
  unfold g_X10_cutBy
  refine ct_intro RX10 0 [some (.int a0), some (.long a1), none, some (.long a2), none] rfl (by decide +kernel) rfl (Nat.le_of_ble_eq_true rfl) (fun X A hX hnm hR => ?_)
  refine s_iload_n hX dX10_cutBy_0 rfl ?_
  refine s_ifne (tgt := 12) hX dX10_cutBy_1 rfl ?_ ?_
  · refine s_lload_n hX dX10_cutBy_4 rfl ?_
    refine s_lload_n hX dX10_cutBy_5 rfl ?_
    refine s_callSj (ck1 := 0) (sk1 := 0) hX dX10_cutBy_6 k_X10_quotient q_1609 (c_X10_quotient n M0 a1 a2) rfl rfl ⟨Nat.le_of_ble_eq_true rfl, Nat.le_of_ble_eq_true rfl⟩ ⟨(Nat.le_of_ble_eq_true rfl), (Nat.le_of_ble_eq_true rfl)⟩ (Nat.le_of_ble_eq_true rfl) rfl rfl (fun r1 M2 => ?_)
    refine s_goto (tgt := 42) hX dX10_cutBy_9 rfl ?_
    exact s_lret hX hR dX10_cutBy_42 (Nat.le_of_ble_eq_true rfl) (Nat.le_of_ble_eq_true rfl)
  · refine s_iload_n hX dX10_cutBy_12 rfl ?_
    refine s_iconst (v := 1) hX dX10_cutBy_13 kc_1 ?_
    refine s_icne (tgt := 27) hX dX10_cutBy_14 rfl ?_ ?_
    · refine s_lload_n hX dX10_cutBy_17 rfl ?_
      refine s_lneg hX dX10_cutBy_18 ?_
      refine s_lload_n hX dX10_cutBy_19 rfl ?_
      refine s_callSj (ck1 := 0) (sk1 := 0) hX dX10_cutBy_20 k_X10_quotient q_1609 (c_X10_quotient n M0 (-a1) a2) rfl rfl ⟨Nat.le_of_ble_eq_true rfl, Nat.le_of_ble_eq_true rfl⟩ ⟨(Nat.le_of_ble_eq_true rfl), (Nat.le_of_ble_eq_true rfl)⟩ (Nat.le_of_ble_eq_true rfl) rfl rfl (fun r3 M4 => ?_)
      refine s_lneg hX dX10_cutBy_23 ?_
      refine s_goto (tgt := 42) hX dX10_cutBy_24 rfl ?_
      exact s_lret hX hR dX10_cutBy_42 (Nat.le_of_ble_eq_true rfl) (Nat.le_of_ble_eq_true rfl)
    · refine s_ldc2 hX dX10_cutBy_27 q_1612 ?_
      refine s_lload_n hX dX10_cutBy_30 rfl ?_
      refine s_lmul hX dX10_cutBy_31 ?_
      refine s_lload_n hX dX10_cutBy_32 rfl ?_
      refine s_ladd hX dX10_cutBy_33 ?_
      refine s_ldc2 hX dX10_cutBy_34 q_1612 ?_
      refine s_lload_n hX dX10_cutBy_37 rfl ?_
      refine s_lmul hX dX10_cutBy_38 ?_
      refine s_callSj (ck1 := 0) (sk1 := 0) hX dX10_cutBy_39 k_X10_quotient q_1609 (c_X10_quotient n M0 ((2 * a1) + a2) (2 * a2)) rfl rfl ⟨Nat.le_of_ble_eq_true rfl, Nat.le_of_ble_eq_true rfl⟩ ⟨(Nat.le_of_ble_eq_true rfl), (Nat.le_of_ble_eq_true rfl)⟩ (Nat.le_of_ble_eq_true rfl) rfl rfl (fun r5 M6 => ?_)
      exact s_lret hX hR dX10_cutBy_42 (Nat.le_of_ble_eq_true rfl) (Nat.le_of_ble_eq_true rfl)
abbrev rm_X10_cut : Room := { frames := 2, cells := 0, slots := 0, locals := 49 }
theorem k_X10_cut : KYV yX10_cut cX10_cut 5 (some .long) 2 := ⟨⟨q_1657, q_9, by decide +kernel, by decide +kernel, by decide +kernel⟩, q_1656, p_95⟩
set_option maxHeartbeats 4000000 in
set_option maxRecDepth 100000 in
theorem c_X10_cut (n : Nat) (M0 : MemT) (a0 : Nat) (a1 : Int64) (a2 : Int64) : Ct iJ yX10_cut cX10_cut 5 (some .long) rm_X10_cut [.ref a0, .long a1, .long a2] M0 (g_X10_cut n M0 a0 a1 a2) := by
  unfold g_X10_cut
  refine ct_intro RX10 0 [some (.ref a0), some (.long a1), none, some (.long a2), none] rfl (by decide +kernel) rfl (Nat.le_of_ble_eq_true rfl) (fun X A hX hnm hR => ?_)
  refine s_aload_n hX dX10_cut_0 rfl ?_
  refine s_getO hX dX10_cut_1 q_1323 rfl (fun j1 => ?_)
  refine s_iconst (v := 0) hX dX10_cut_4 kc_0 ?_
  refine s_iald hX dX10_cut_5 (fun v2 => ?_)
  refine s_lload_n hX dX10_cut_6 rfl ?_
  refine s_lload_n hX dX10_cut_7 rfl ?_
  refine s_callSj (ck1 := 0) (sk1 := 0) hX dX10_cut_8 k_X10_cutBy q_1606 (c_X10_cutBy n M0 v2 a1 a2) rfl rfl ⟨Nat.le_of_ble_eq_true rfl, Nat.le_of_ble_eq_true rfl⟩ ⟨(Nat.le_of_ble_eq_true rfl), (Nat.le_of_ble_eq_true rfl)⟩ (Nat.le_of_ble_eq_true rfl) rfl rfl (fun r3 M4 => ?_)
  exact s_lret hX hR dX10_cut_11 (Nat.le_of_ble_eq_true rfl) (Nat.le_of_ble_eq_true rfl)
abbrev rm_X10_layNone : Room := { frames := 0, cells := 0, slots := 0, locals := 0 }
theorem k_X10_layNone : KYV yX10_layNone cX10_layNone 2 none 0 := ⟨⟨q_1589, q_9, by decide +kernel, by decide +kernel, by decide +kernel⟩, q_1588, p_80⟩
set_option maxHeartbeats 4000000 in
set_option maxRecDepth 100000 in
theorem c_X10_layNone (n : Nat) (M0 : MemT) (a0 : Nat) : Ct iU yX10_layNone cX10_layNone 2 none rm_X10_layNone [.ref a0] M0 (g_X10_layNone n M0 a0) := by
  unfold g_X10_layNone
  refine ct_intro RX10 1 [some (.ref a0), none] rfl (by decide +kernel) rfl (Nat.le_of_ble_eq_true rfl) (fun X A hX hnm hR => ?_)
  refine s_iconst (v := 0) hX dX10_layNone_0 kc_0 ?_
  refine s_istore1 hX dX10_layNone_1 (by first | exact trivial | exact rfl) (Nat.le_of_ble_eq_true rfl) ?_
  refine s_loopE (stk := []) (fun (s : MemT × Int32) => [some (.ref a0), some (.int s.2)]) (fun (s : MemT × Int32) => s.1) 20 (fun (s : MemT × Int32) => [some (.ref a0), some (.int s.2)]) (fun s B3 hB3 hE3 => ?_) (fun s => ?_) n (M0, 0)
  · obtain ⟨M1, v2⟩ := s
    dsimp only
    refine s_iload_n hX dX10_layNone_2 rfl ?_
    refine s_iconst (v := 5) hX dX10_layNone_3 kc_5 ?_
    refine s_icge (tgt := 20) hX dX10_layNone_4 rfl ?_ ?_
    · exact s_exit hE3
    · refine s_aload_n hX dX10_layNone_7 rfl ?_
      refine s_getO hX dX10_layNone_8 q_1330 rfl (fun j4 => ?_)
      refine s_iload_n hX dX10_layNone_11 rfl ?_
      refine s_lconst (v := 0) hX dX10_layNone_12 rfl ?_
      refine s_last hX dX10_layNone_13 (fun M5 => ?_)
      refine s_iinc1 (v := v2 + 1) hX dX10_layNone_14 rfl (by first | exact trivial | exact rfl) (Nat.le_of_ble_eq_true rfl) ?_
      refine s_goto (tgt := 2) hX dX10_layNone_17 rfl ?_
      exact s_back hB3
  · obtain ⟨M6, v7⟩ := s
    dsimp only
    refine s_aload_n hX dX10_layNone_20 rfl ?_
    refine s_lconst (v := 0) hX dX10_layNone_21 rfl ?_
    refine s_putJ hX dX10_layNone_22 q_1331 rfl rfl (fun M8 => ?_)
    refine s_aload_n hX dX10_layNone_25 rfl ?_
    refine s_lconst (v := 0) hX dX10_layNone_26 rfl ?_
    refine s_putJ hX dX10_layNone_27 q_1332 rfl rfl (fun M9 => ?_)
    exact s_vret hX hR dX10_layNone_30 (Nat.le_of_ble_eq_true rfl) (Nat.le_of_ble_eq_true rfl)
abbrev rm_X10_addQuarter : Room := { frames := 1, cells := 0, slots := 0, locals := 23 }
theorem k_X10_addQuarter : KYV yX10_addQuarter cX10_addQuarter 4 none 2 := ⟨⟨q_1593, q_9, by decide +kernel, by decide +kernel, by decide +kernel⟩, q_1592, p_81⟩
set_option maxHeartbeats 4000000 in
set_option maxRecDepth 100000 in
theorem c_X10_addQuarter (n : Nat) (M0 : MemT) (a0 : Nat) (a1 : Int32) (a2 : Int32) : Ct iU yX10_addQuarter cX10_addQuarter 4 none rm_X10_addQuarter [.ref a0, .int a1, .int a2] M0 (g_X10_addQuarter n M0 a0 a1 a2) := by
  unfold g_X10_addQuarter
  refine ct_intro RX10 1 [some (.ref a0), some (.int a1), some (.int a2), none] rfl (by decide +kernel) rfl (Nat.le_of_ble_eq_true rfl) (fun X A hX hnm hR => ?_)
  refine s_iconst (v := 0) hX dX10_addQuarter_0 kc_0 ?_
  refine s_istore3 hX dX10_addQuarter_1 (by first | exact trivial | exact rfl) (Nat.le_of_ble_eq_true rfl) ?_
  refine s_loopE (stk := []) (fun (s : MemT × Int32) => [some (.ref a0), some (.int a1), some (.int a2), some (.int s.2)]) (fun (s : MemT × Int32) => s.1) 34 (fun (s : MemT × Int32) => [some (.ref a0), some (.int a1), some (.int a2), some (.int s.2)]) (fun s B3 hB3 hE3 => ?_) (fun s => ?_) n (M0, 0)
  · obtain ⟨M1, v2⟩ := s
    dsimp only
    refine s_iload_n hX dX10_addQuarter_2 rfl ?_
    refine s_iconst (v := 5) hX dX10_addQuarter_3 kc_5 ?_
    refine s_icge (tgt := 34) hX dX10_addQuarter_4 rfl ?_ ?_
    · exact s_exit hE3
    · refine s_aload_n hX dX10_addQuarter_7 rfl ?_
      refine s_getO hX dX10_addQuarter_8 q_1330 rfl (fun j4 => ?_)
      refine s_iload_n hX dX10_addQuarter_11 rfl ?_
      refine s_dup2 hX dX10_addQuarter_12 rfl rfl ?_
      refine s_lald hX dX10_addQuarter_13 (fun v5 => ?_)
      refine s_aload_n hX dX10_addQuarter_14 rfl ?_
      refine s_aload_n hX dX10_addQuarter_15 rfl ?_
      refine s_iload_n hX dX10_addQuarter_16 rfl ?_
      refine s_iload_n hX dX10_addQuarter_17 rfl ?_
      refine s_iload_n hX dX10_addQuarter_18 rfl ?_
      refine s_callVi (ck1 := 0) (sk1 := 0) (ci := 8) hX dX10_addQuarter_19 k_X10_sumAt q_1290 (c_X10_sumAt n M1 a0 a1 a2 v2) (by decide) rfl rfl rfl ⟨Nat.le_of_ble_eq_true rfl, Nat.le_of_ble_eq_true rfl⟩ ⟨(Nat.le_of_ble_eq_true rfl), (Nat.le_of_ble_eq_true rfl)⟩ (Nat.le_of_ble_eq_true rfl) rfl rfl (fun r6 M7 => ?_)
      refine s_callVi (ck1 := 0) (sk1 := 0) (ci := 8) hX dX10_addQuarter_22 k_X10_of q_1286 (c_X10_of n M7 a0 r6) (by decide) rfl rfl rfl ⟨Nat.le_of_ble_eq_true rfl, Nat.le_of_ble_eq_true rfl⟩ ⟨(Nat.le_of_ble_eq_true rfl), (Nat.le_of_ble_eq_true rfl)⟩ (Nat.le_of_ble_eq_true rfl) rfl rfl (fun r8 M9 => ?_)
      refine s_i2l hX dX10_addQuarter_25 ?_
      refine s_ladd hX dX10_addQuarter_26 ?_
      refine s_last hX dX10_addQuarter_27 (fun M10 => ?_)
      refine s_iinc3 (v := v2 + 1) hX dX10_addQuarter_28 rfl (by first | exact trivial | exact rfl) (Nat.le_of_ble_eq_true rfl) ?_
      refine s_goto (tgt := 2) hX dX10_addQuarter_31 rfl ?_
      exact s_back hB3
  · obtain ⟨M11, v12⟩ := s
    dsimp only
    exact s_vret hX hR dX10_addQuarter_34 (Nat.le_of_ble_eq_true rfl) (Nat.le_of_ble_eq_true rfl)
abbrev rm_X10_addHeads : Room := { frames := 1, cells := 0, slots := 0, locals := 21 }
theorem k_X10_addHeads : KYV yX10_addHeads cX10_addHeads 2 none 1 := ⟨⟨q_1597, q_9, by decide +kernel, by decide +kernel, by decide +kernel⟩, q_1596, p_82⟩
set_option maxHeartbeats 4000000 in
set_option maxRecDepth 100000 in
theorem c_X10_addHeads (n : Nat) (M0 : MemT) (a0 : Nat) (a1 : Int32) : Ct iU yX10_addHeads cX10_addHeads 2 none rm_X10_addHeads [.ref a0, .int a1] M0 (g_X10_addHeads n M0 a0 a1) := by
  unfold g_X10_addHeads
  refine ct_intro RX10 0 [some (.ref a0), some (.int a1)] rfl (by decide +kernel) rfl (Nat.le_of_ble_eq_true rfl) (fun X A hX hnm hR => ?_)
  refine s_aload_n hX dX10_addHeads_0 rfl ?_
  refine s_dup hX dX10_addHeads_1 rfl ?_
  refine s_getJ hX dX10_addHeads_2 q_1331 rfl (fun v1 => ?_)
  refine s_aload_n hX dX10_addHeads_5 rfl ?_
  refine s_sipush (v := 1281) hX dX10_addHeads_6 ks_1281 ?_
  refine s_iconst (v := 2) hX dX10_addHeads_9 kc_2 ?_
  refine s_iload_n hX dX10_addHeads_10 rfl ?_
  refine s_imul hX dX10_addHeads_11 ?_
  refine s_iadd hX dX10_addHeads_12 ?_
  refine s_callVi (ck1 := 0) (sk1 := 0) (ci := 8) hX dX10_addHeads_13 k_X10_of q_1286 (c_X10_of n M0 a0 (1281 + (2 * a1))) (by decide) rfl rfl rfl ⟨Nat.le_of_ble_eq_true rfl, Nat.le_of_ble_eq_true rfl⟩ ⟨(Nat.le_of_ble_eq_true rfl), (Nat.le_of_ble_eq_true rfl)⟩ (Nat.le_of_ble_eq_true rfl) rfl rfl (fun r2 M3 => ?_)
  refine s_i2l hX dX10_addHeads_16 ?_
  refine s_ladd hX dX10_addHeads_17 ?_
  refine s_putJ hX dX10_addHeads_18 q_1331 rfl rfl (fun M4 => ?_)
  refine s_aload_n hX dX10_addHeads_21 rfl ?_
  refine s_dup hX dX10_addHeads_22 rfl ?_
  refine s_getJ hX dX10_addHeads_23 q_1332 rfl (fun v5 => ?_)
  refine s_aload_n hX dX10_addHeads_26 rfl ?_
  refine s_sipush (v := 1281) hX dX10_addHeads_27 ks_1281 ?_
  refine s_iconst (v := 2) hX dX10_addHeads_30 kc_2 ?_
  refine s_iload_n hX dX10_addHeads_31 rfl ?_
  refine s_imul hX dX10_addHeads_32 ?_
  refine s_iadd hX dX10_addHeads_33 ?_
  refine s_iconst (v := 1) hX dX10_addHeads_34 kc_1 ?_
  refine s_iadd hX dX10_addHeads_35 ?_
  refine s_callVi (ck1 := 0) (sk1 := 0) (ci := 8) hX dX10_addHeads_36 k_X10_of q_1286 (c_X10_of n M4 a0 ((1281 + (2 * a1)) + 1)) (by decide) rfl rfl rfl ⟨Nat.le_of_ble_eq_true rfl, Nat.le_of_ble_eq_true rfl⟩ ⟨(Nat.le_of_ble_eq_true rfl), (Nat.le_of_ble_eq_true rfl)⟩ (Nat.le_of_ble_eq_true rfl) rfl rfl (fun r6 M7 => ?_)
  refine s_i2l hX dX10_addHeads_39 ?_
  refine s_ladd hX dX10_addHeads_40 ?_
  refine s_putJ hX dX10_addHeads_41 q_1332 rfl rfl (fun M8 => ?_)
  exact s_vret hX hR dX10_addHeads_44 (Nat.le_of_ble_eq_true rfl) (Nat.le_of_ble_eq_true rfl)
abbrev rm_X10_layQuarter : Room := { frames := 2, cells := 0, slots := 0, locals := 46 }
theorem k_X10_layQuarter : KYV yX10_layQuarter cX10_layQuarter 3 none 2 := ⟨⟨q_1585, q_9, by decide +kernel, by decide +kernel, by decide +kernel⟩, q_1584, p_79⟩
set_option maxHeartbeats 4000000 in
set_option maxRecDepth 100000 in
theorem c_X10_layQuarter (n : Nat) (M0 : MemT) (a0 : Nat) (a1 : Int32) (a2 : Int32) : Ct iU yX10_layQuarter cX10_layQuarter 3 none rm_X10_layQuarter [.ref a0, .int a1, .int a2] M0 (g_X10_layQuarter n M0 a0 a1 a2) := by
  unfold g_X10_layQuarter
  refine ct_intro RX10 0 [some (.ref a0), some (.int a1), some (.int a2)] rfl (by decide +kernel) rfl (Nat.le_of_ble_eq_true rfl) (fun X A hX hnm hR => ?_)
  refine s_aload_n hX dX10_layQuarter_0 rfl ?_
  refine s_callVu (ck1 := 0) (sk1 := 0) (ci := 8) hX dX10_layQuarter_1 k_X10_layNone q_1586 (c_X10_layNone n M0 a0) (by decide) rfl rfl rfl ⟨Nat.le_of_ble_eq_true rfl, Nat.le_of_ble_eq_true rfl⟩ ⟨(Nat.le_of_ble_eq_true rfl), (Nat.le_of_ble_eq_true rfl)⟩ (Nat.le_of_ble_eq_true rfl) rfl rfl (fun r1 M2 => ?_)
  refine s_aload_n hX dX10_layQuarter_4 rfl ?_
  refine s_iload_n hX dX10_layQuarter_5 rfl ?_
  refine s_iload_n hX dX10_layQuarter_6 rfl ?_
  refine s_callVu (ck1 := 0) (sk1 := 0) (ci := 8) hX dX10_layQuarter_7 k_X10_addQuarter q_1590 (c_X10_addQuarter n M2 a0 a1 a2) (by decide) rfl rfl rfl ⟨Nat.le_of_ble_eq_true rfl, Nat.le_of_ble_eq_true rfl⟩ ⟨(Nat.le_of_ble_eq_true rfl), (Nat.le_of_ble_eq_true rfl)⟩ (Nat.le_of_ble_eq_true rfl) rfl rfl (fun r3 M4 => ?_)
  refine s_aload_n hX dX10_layQuarter_10 rfl ?_
  refine s_iload_n hX dX10_layQuarter_11 rfl ?_
  refine s_callVu (ck1 := 0) (sk1 := 0) (ci := 8) hX dX10_layQuarter_12 k_X10_addHeads q_1594 (c_X10_addHeads n M4 a0 a1) (by decide) rfl rfl rfl ⟨Nat.le_of_ble_eq_true rfl, Nat.le_of_ble_eq_true rfl⟩ ⟨(Nat.le_of_ble_eq_true rfl), (Nat.le_of_ble_eq_true rfl)⟩ (Nat.le_of_ble_eq_true rfl) rfl rfl (fun r5 M6 => ?_)
  exact s_vret hX hR dX10_layQuarter_15 (Nat.le_of_ble_eq_true rfl) (Nat.le_of_ble_eq_true rfl)
abbrev rm_X10_layYear : Room := { frames := 2, cells := 0, slots := 0, locals := 46 }
theorem k_X10_layYear : KYV yX10_layYear cX10_layYear 4 none 2 := ⟨⟨q_1636, q_9, by decide +kernel, by decide +kernel, by decide +kernel⟩, q_1635, p_90⟩
set_option maxHeartbeats 4000000 in
set_option maxRecDepth 100000 in
theorem c_X10_layYear (n : Nat) (M0 : MemT) (a0 : Nat) (a1 : Int32) (a2 : Int32) : Ct iU yX10_layYear cX10_layYear 4 none rm_X10_layYear [.ref a0, .int a1, .int a2] M0 (g_X10_layYear n M0 a0 a1 a2) := by
  unfold g_X10_layYear
  refine ct_intro RX10 1 [some (.ref a0), some (.int a1), some (.int a2), none] rfl (by decide +kernel) rfl (Nat.le_of_ble_eq_true rfl) (fun X A hX hnm hR => ?_)
  refine s_aload_n hX dX10_layYear_0 rfl ?_
  refine s_callVu (ck1 := 0) (sk1 := 0) (ci := 8) hX dX10_layYear_1 k_X10_layNone q_1586 (c_X10_layNone n M0 a0) (by decide) rfl rfl rfl ⟨Nat.le_of_ble_eq_true rfl, Nat.le_of_ble_eq_true rfl⟩ ⟨(Nat.le_of_ble_eq_true rfl), (Nat.le_of_ble_eq_true rfl)⟩ (Nat.le_of_ble_eq_true rfl) rfl rfl (fun r1 M2 => ?_)
  refine s_iconst (v := 4) hX dX10_layYear_4 kc_4 ?_
  refine s_iload_n hX dX10_layYear_5 rfl ?_
  refine s_imul hX dX10_layYear_6 ?_
  refine s_istore3 hX dX10_layYear_7 (by first | exact trivial | exact rfl) (Nat.le_of_ble_eq_true rfl) ?_
  refine s_loopE (stk := []) (fun (s : MemT × Int32) => [some (.ref a0), some (.int a1), some (.int a2), some (.int s.2)]) (fun (s : MemT × Int32) => s.1) 29 (fun (s : MemT × Int32) => [some (.ref a0), some (.int a1), some (.int a2), some (.int s.2)]) (fun s B5 hB5 hE5 => ?_) (fun s => ?_) n (M2, 4 * a2)
  · obtain ⟨M3, v4⟩ := s
    dsimp only
    refine s_iload_n hX dX10_layYear_8 rfl ?_
    refine s_iconst (v := 4) hX dX10_layYear_9 kc_4 ?_
    refine s_iload_n hX dX10_layYear_10 rfl ?_
    refine s_imul hX dX10_layYear_11 ?_
    refine s_iconst (v := 4) hX dX10_layYear_12 kc_4 ?_
    refine s_iadd hX dX10_layYear_13 ?_
    refine s_icge (tgt := 29) hX dX10_layYear_14 rfl ?_ ?_
    · exact s_exit hE5
    · refine s_aload_n hX dX10_layYear_17 rfl ?_
      refine s_iload_n hX dX10_layYear_18 rfl ?_
      refine s_iload_n hX dX10_layYear_19 rfl ?_
      refine s_callVu (ck1 := 0) (sk1 := 0) (ci := 8) hX dX10_layYear_20 k_X10_addQuarter q_1590 (c_X10_addQuarter n M3 a0 a1 v4) (by decide) rfl rfl rfl ⟨Nat.le_of_ble_eq_true rfl, Nat.le_of_ble_eq_true rfl⟩ ⟨(Nat.le_of_ble_eq_true rfl), (Nat.le_of_ble_eq_true rfl)⟩ (Nat.le_of_ble_eq_true rfl) rfl rfl (fun r6 M7 => ?_)
      refine s_iinc3 (v := v4 + 1) hX dX10_layYear_23 rfl (by first | exact trivial | exact rfl) (Nat.le_of_ble_eq_true rfl) ?_
      refine s_goto (tgt := 8) hX dX10_layYear_26 rfl ?_
      exact s_back hB5
  · obtain ⟨M8, v9⟩ := s
    dsimp only
    refine s_aload_n hX dX10_layYear_29 rfl ?_
    refine s_iload_n hX dX10_layYear_30 rfl ?_
    refine s_callVu (ck1 := 0) (sk1 := 0) (ci := 8) hX dX10_layYear_31 k_X10_addHeads q_1594 (c_X10_addHeads n M8 a0 a1) (by decide) rfl rfl rfl ⟨Nat.le_of_ble_eq_true rfl, Nat.le_of_ble_eq_true rfl⟩ ⟨(Nat.le_of_ble_eq_true rfl), (Nat.le_of_ble_eq_true rfl)⟩ (Nat.le_of_ble_eq_true rfl) rfl rfl (fun r10 M11 => ?_)
    exact s_vret hX hR dX10_layYear_34 (Nat.le_of_ble_eq_true rfl) (Nat.le_of_ble_eq_true rfl)
abbrev rm_X10_fractionBy : Room := { frames := 2, cells := 0, slots := 0, locals := 49 }
theorem k_X10_fractionBy : KYV yX10_fractionBy cX10_fractionBy 8 (some .int) 3 := ⟨⟨q_1605, q_9, by decide +kernel, by decide +kernel, by decide +kernel⟩, q_1604, p_84⟩
set_option maxHeartbeats 4000000 in
set_option maxRecDepth 100000 in
theorem c_X10_fractionBy (n : Nat) (M0 : MemT) (a0 : Nat) (a1 : Int32) (a2 : Int32) (a3 : Int32) : Ct iI yX10_fractionBy cX10_fractionBy 8 (some .int) rm_X10_fractionBy [.ref a0, .int a1, .int a2, .int a3] M0 (g_X10_fractionBy n M0 a0 a1 a2 a3) := by
  unfold g_X10_fractionBy
  refine ct_intro RX10 4 [some (.ref a0), some (.int a1), some (.int a2), some (.int a3), none, none, none, none] rfl (by decide +kernel) rfl (Nat.le_of_ble_eq_true rfl) (fun X A hX hnm hR => ?_)
  refine s_iload_n hX dX10_fractionBy_0 rfl ?_
  refine s_jp (fun (s : MemT × Int64) => [some (.ref a0), some (.int a1), some (.int a2), some (.int a3), none, none, none, none]) (fun (s : MemT × Int64) => [.long s.2]) (fun (s : MemT × Int64) => s.1) 0 0 31 (fun s => ?_) (fun K1 hK1 => ?_)
  · obtain ⟨M2, v3⟩ := s
    dsimp only
    refine s_lstore4 hX dX10_fractionBy_31 (by first | exact trivial | exact rfl) (Nat.le_of_ble_eq_true rfl) ?_
    refine s_iload_n hX dX10_fractionBy_33 rfl ?_
    refine s_jp (fun (s : MemT × Int64) => [some (.ref a0), some (.int a1), some (.int a2), some (.int a3), some (.long v3), none, none, none]) (fun (s : MemT × Int64) => [.long s.2]) (fun (s : MemT × Int64) => s.1) 0 0 78 (fun s => ?_) (fun K4 hK4 => ?_)
    · obtain ⟨M5, v6⟩ := s
      dsimp only
      refine s_lstore6 hX dX10_fractionBy_78 (by first | exact trivial | exact rfl) (Nat.le_of_ble_eq_true rfl) ?_
      refine s_lload hX dX10_fractionBy_80 rfl ?_
      refine s_lconst (v := 0) hX dX10_fractionBy_82 rfl ?_
      refine s_lcmp hX dX10_fractionBy_83 ?_
      refine s_ifne (tgt := 91) hX dX10_fractionBy_84 rfl ?_ ?_
      · refine s_iload_n hX dX10_fractionBy_87 rfl ?_
        refine s_goto (tgt := 103) hX dX10_fractionBy_88 rfl ?_
        exact s_iret hX hR dX10_fractionBy_103 (Nat.le_of_ble_eq_true rfl) (Nat.le_of_ble_eq_true rfl)
      · refine s_iload_n hX dX10_fractionBy_91 rfl ?_
        refine s_iload_n hX dX10_fractionBy_92 rfl ?_
        refine s_i2l hX dX10_fractionBy_93 ?_
        refine s_lload hX dX10_fractionBy_94 rfl ?_
        refine s_lmul hX dX10_fractionBy_96 ?_
        refine s_lload hX dX10_fractionBy_97 rfl ?_
        refine s_callSj (ck1 := 0) (sk1 := 0) hX dX10_fractionBy_99 k_X10_cutBy q_1606 (c_X10_cutBy n M5 a2 ((Int32.toInt64 a3) * v3) v6) rfl rfl ⟨Nat.le_of_ble_eq_true rfl, Nat.le_of_ble_eq_true rfl⟩ ⟨(Nat.le_of_ble_eq_true rfl), (Nat.le_of_ble_eq_true rfl)⟩ (Nat.le_of_ble_eq_true rfl) rfl rfl (fun r7 M8 => ?_)
        refine s_l2i hX dX10_fractionBy_102 ?_
        exact s_iret hX hR dX10_fractionBy_103 (Nat.le_of_ble_eq_true rfl) (Nat.le_of_ble_eq_true rfl)
    · refine s_ifne (tgt := 53) hX dX10_fractionBy_34 rfl ?_ ?_
      · refine s_aload_n hX dX10_fractionBy_37 rfl ?_
        refine s_getO hX dX10_fractionBy_38 q_1330 rfl (fun j9 => ?_)
        refine s_iconst (v := 0) hX dX10_fractionBy_41 kc_0 ?_
        refine s_lald hX dX10_fractionBy_42 (fun v10 => ?_)
        refine s_aload_n hX dX10_fractionBy_43 rfl ?_
        refine s_getO hX dX10_fractionBy_44 q_1330 rfl (fun j11 => ?_)
        refine s_iconst (v := 1) hX dX10_fractionBy_47 kc_1 ?_
        refine s_lald hX dX10_fractionBy_48 (fun v12 => ?_)
        refine s_ladd hX dX10_fractionBy_49 ?_
        refine s_goto (tgt := 78) hX dX10_fractionBy_50 rfl ?_
        exact hK4 _
      · refine s_iload_n hX dX10_fractionBy_53 rfl ?_
        refine s_iconst (v := 1) hX dX10_fractionBy_54 kc_1 ?_
        refine s_icne (tgt := 74) hX dX10_fractionBy_55 rfl ?_ ?_
        · refine s_aload_n hX dX10_fractionBy_58 rfl ?_
          refine s_getO hX dX10_fractionBy_59 q_1330 rfl (fun j13 => ?_)
          refine s_iconst (v := 2) hX dX10_fractionBy_62 kc_2 ?_
          refine s_lald hX dX10_fractionBy_63 (fun v14 => ?_)
          refine s_aload_n hX dX10_fractionBy_64 rfl ?_
          refine s_getO hX dX10_fractionBy_65 q_1330 rfl (fun j15 => ?_)
          refine s_iconst (v := 3) hX dX10_fractionBy_68 kc_3 ?_
          refine s_lald hX dX10_fractionBy_69 (fun v16 => ?_)
          refine s_ladd hX dX10_fractionBy_70 ?_
          refine s_goto (tgt := 78) hX dX10_fractionBy_71 rfl ?_
          exact hK4 _
        · refine s_aload_n hX dX10_fractionBy_74 rfl ?_
          refine s_getJ hX dX10_fractionBy_75 q_1332 rfl (fun v17 => ?_)
          exact hK4 _
  · refine s_ifne (tgt := 13) hX dX10_fractionBy_1 rfl ?_ ?_
    · refine s_aload_n hX dX10_fractionBy_4 rfl ?_
      refine s_getO hX dX10_fractionBy_5 q_1330 rfl (fun j18 => ?_)
      refine s_iconst (v := 0) hX dX10_fractionBy_8 kc_0 ?_
      refine s_lald hX dX10_fractionBy_9 (fun v19 => ?_)
      refine s_goto (tgt := 31) hX dX10_fractionBy_10 rfl ?_
      exact hK1 _
    · refine s_iload_n hX dX10_fractionBy_13 rfl ?_
      refine s_iconst (v := 1) hX dX10_fractionBy_14 kc_1 ?_
      refine s_icne (tgt := 27) hX dX10_fractionBy_15 rfl ?_ ?_
      · refine s_aload_n hX dX10_fractionBy_18 rfl ?_
        refine s_getO hX dX10_fractionBy_19 q_1330 rfl (fun j20 => ?_)
        refine s_iconst (v := 2) hX dX10_fractionBy_22 kc_2 ?_
        refine s_lald hX dX10_fractionBy_23 (fun v21 => ?_)
        refine s_goto (tgt := 31) hX dX10_fractionBy_24 rfl ?_
        exact hK1 _
      · refine s_aload_n hX dX10_fractionBy_27 rfl ?_
        refine s_getJ hX dX10_fractionBy_28 q_1331 rfl (fun v22 => ?_)
        exact hK1 _
abbrev rm_X10_fraction : Room := { frames := 3, cells := 0, slots := 0, locals := 76 }
theorem k_X10_fraction : KYV yX10_fraction cX10_fraction 2 (some .int) 1 := ⟨⟨q_1601, q_9, by decide +kernel, by decide +kernel, by decide +kernel⟩, q_1600, p_83⟩
set_option maxHeartbeats 4000000 in
set_option maxRecDepth 100000 in
theorem c_X10_fraction (n : Nat) (M0 : MemT) (a0 : Nat) (a1 : Int32) : Ct iI yX10_fraction cX10_fraction 2 (some .int) rm_X10_fraction [.ref a0, .int a1] M0 (g_X10_fraction n M0 a0 a1) := by
  unfold g_X10_fraction
  refine ct_intro RX10 0 [some (.ref a0), some (.int a1)] rfl (by decide +kernel) rfl (Nat.le_of_ble_eq_true rfl) (fun X A hX hnm hR => ?_)
  refine s_aload_n hX dX10_fraction_0 rfl ?_
  refine s_aload_n hX dX10_fraction_1 rfl ?_
  refine s_iload_n hX dX10_fraction_2 rfl ?_
  refine s_iconst (v := 1) hX dX10_fraction_3 kc_1 ?_
  refine s_callVi (ck1 := 0) (sk1 := 0) (ci := 8) hX dX10_fraction_4 k_X10_told1 q_1278 (c_X10_told1 n M0 a0 a1 1) (by decide) rfl rfl rfl ⟨Nat.le_of_ble_eq_true rfl, Nat.le_of_ble_eq_true rfl⟩ ⟨(Nat.le_of_ble_eq_true rfl), (Nat.le_of_ble_eq_true rfl)⟩ (Nat.le_of_ble_eq_true rfl) rfl rfl (fun r1 M2 => ?_)
  refine s_aload_n hX dX10_fraction_7 rfl ?_
  refine s_getO hX dX10_fraction_8 q_1323 rfl (fun j3 => ?_)
  refine s_iconst (v := 0) hX dX10_fraction_11 kc_0 ?_
  refine s_iald hX dX10_fraction_12 (fun v4 => ?_)
  refine s_aload_n hX dX10_fraction_13 rfl ?_
  refine s_getO hX dX10_fraction_14 q_1323 rfl (fun j5 => ?_)
  refine s_iconst (v := 1) hX dX10_fraction_17 kc_1 ?_
  refine s_iald hX dX10_fraction_18 (fun v6 => ?_)
  refine s_callVi (ck1 := 0) (sk1 := 0) (ci := 8) hX dX10_fraction_19 k_X10_fractionBy q_1602 (c_X10_fractionBy n M2 a0 r1 v4 v6) (by decide) rfl rfl rfl ⟨Nat.le_of_ble_eq_true rfl, Nat.le_of_ble_eq_true rfl⟩ ⟨(Nat.le_of_ble_eq_true rfl), (Nat.le_of_ble_eq_true rfl)⟩ (Nat.le_of_ble_eq_true rfl) rfl rfl (fun r7 M8 => ?_)
  exact s_iret hX hR dX10_fraction_22 (Nat.le_of_ble_eq_true rfl) (Nat.le_of_ble_eq_true rfl)
abbrev rm_X10_backBy : Room := { frames := 2, cells := 0, slots := 0, locals := 49 }
theorem k_X10_backBy : KYV yX10_backBy cX10_backBy 11 (some .int) 4 := ⟨⟨q_1624, q_9, by decide +kernel, by decide +kernel, by decide +kernel⟩, q_1623, p_87⟩
set_option maxHeartbeats 4000000 in
set_option maxRecDepth 100000 in
theorem c_X10_backBy (n : Nat) (M0 : MemT) (a0 : Nat) (a1 : Int32) (a2 : Int32) (a3 : Int32) (a4 : Int32) : Ct iI yX10_backBy cX10_backBy 11 (some .int) rm_X10_backBy [.ref a0, .int a1, .int a2, .int a3, .int a4] M0 (g_X10_backBy n M0 a0 a1 a2 a3 a4) := by
  unfold g_X10_backBy
  refine ct_intro RX10 6 [some (.ref a0), some (.int a1), some (.int a2), some (.int a3), some (.int a4), none, none, none, none, none, none] rfl (by decide +kernel) rfl (Nat.le_of_ble_eq_true rfl) (fun X A hX hnm hR => ?_)
  refine s_aload_n hX dX10_backBy_0 rfl ?_
  refine s_getO hX dX10_backBy_1 q_1330 rfl (fun j1 => ?_)
  refine s_iconst (v := 2) hX dX10_backBy_4 kc_2 ?_
  refine s_lald hX dX10_backBy_5 (fun v2 => ?_)
  refine s_iload_n hX dX10_backBy_6 rfl ?_
  refine s_aload_n hX dX10_backBy_7 rfl ?_
  refine s_getO hX dX10_backBy_8 q_1330 rfl (fun j3 => ?_)
  refine s_iconst (v := 4) hX dX10_backBy_11 kc_4 ?_
  refine s_lald hX dX10_backBy_12 (fun v4 => ?_)
  refine s_iload_n hX dX10_backBy_13 rfl ?_
  refine s_i2l hX dX10_backBy_14 ?_
  refine s_lmul hX dX10_backBy_15 ?_
  refine s_iload_n hX dX10_backBy_16 rfl ?_
  refine s_i2l hX dX10_backBy_17 ?_
  refine s_callSj (ck1 := 0) (sk1 := 0) hX dX10_backBy_18 k_X10_cutBy q_1606 (c_X10_cutBy n M0 a2 (v4 * (Int32.toInt64 a1)) (Int32.toInt64 a3)) rfl rfl ⟨Nat.le_of_ble_eq_true rfl, Nat.le_of_ble_eq_true rfl⟩ ⟨(Nat.le_of_ble_eq_true rfl), (Nat.le_of_ble_eq_true rfl)⟩ (Nat.le_of_ble_eq_true rfl) rfl rfl (fun r5 M6 => ?_)
  refine s_ladd hX dX10_backBy_21 ?_
  refine s_lstore5 hX dX10_backBy_22 (by first | exact trivial | exact rfl) (Nat.le_of_ble_eq_true rfl) ?_
  refine s_aload_n hX dX10_backBy_24 rfl ?_
  refine s_getO hX dX10_backBy_25 q_1330 rfl (fun j7 => ?_)
  refine s_iconst (v := 2) hX dX10_backBy_28 kc_2 ?_
  refine s_lald hX dX10_backBy_29 (fun v8 => ?_)
  refine s_aload_n hX dX10_backBy_30 rfl ?_
  refine s_getO hX dX10_backBy_31 q_1330 rfl (fun j9 => ?_)
  refine s_iconst (v := 3) hX dX10_backBy_34 kc_3 ?_
  refine s_lald hX dX10_backBy_35 (fun v10 => ?_)
  refine s_ladd hX dX10_backBy_36 ?_
  refine s_aload_n hX dX10_backBy_37 rfl ?_
  refine s_getO hX dX10_backBy_38 q_1330 rfl (fun j11 => ?_)
  refine s_iconst (v := 4) hX dX10_backBy_41 kc_4 ?_
  refine s_lald hX dX10_backBy_42 (fun v12 => ?_)
  refine s_ladd hX dX10_backBy_43 ?_
  refine s_lstore7 hX dX10_backBy_44 (by first | exact trivial | exact rfl) (Nat.le_of_ble_eq_true rfl) ?_
  refine s_lload hX dX10_backBy_46 rfl ?_
  refine s_lload hX dX10_backBy_48 rfl ?_
  refine s_lsub hX dX10_backBy_50 ?_
  refine s_lstore9 hX dX10_backBy_51 (by first | exact trivial | exact rfl) (Nat.le_of_ble_eq_true rfl) ?_
  refine s_aload_n hX dX10_backBy_53 rfl ?_
  refine s_lload hX dX10_backBy_54 rfl ?_
  refine s_iload hX dX10_backBy_56 rfl ?_
  refine s_i2l hX dX10_backBy_58 ?_
  refine s_lcmp hX dX10_backBy_59 ?_
  refine s_jp (fun (s : MemT × Int32) => [some (.ref a0), some (.int a1), some (.int a2), some (.int a3), some (.int a4), some (.long (v2 + r5)), none, some (.long ((v8 + v10) + v12)), none, some (.long (((v8 + v10) + v12) - (v2 + r5))), none]) (fun (s : MemT × Int32) => [.int s.2, .ref a0]) (fun (s : MemT × Int32) => s.1) 0 0 80 (fun s => ?_) (fun K13 hK13 => ?_)
  · obtain ⟨M14, v15⟩ := s
    dsimp only
    refine s_putZ hX dX10_backBy_80 q_1333 rfl rfl (fun M16 => ?_)
    refine s_aload_n hX dX10_backBy_83 rfl ?_
    refine s_getI hX dX10_backBy_84 q_1333 rfl (fun v17 => ?_)
    refine s_ifeq (tgt := 95) hX dX10_backBy_87 rfl ?_ ?_
    · refine s_lload hX dX10_backBy_95 rfl ?_
      refine s_l2i hX dX10_backBy_97 ?_
      exact s_iret hX hR dX10_backBy_98 (Nat.le_of_ble_eq_true rfl) (Nat.le_of_ble_eq_true rfl)
    · refine s_lload hX dX10_backBy_90 rfl ?_
      refine s_goto (tgt := 97) hX dX10_backBy_92 rfl ?_
      refine s_l2i hX dX10_backBy_97 ?_
      exact s_iret hX hR dX10_backBy_98 (Nat.le_of_ble_eq_true rfl) (Nat.le_of_ble_eq_true rfl)
  · refine s_jp (fun (s : MemT) => [some (.ref a0), some (.int a1), some (.int a2), some (.int a3), some (.int a4), some (.long (v2 + r5)), none, some (.long ((v8 + v10) + v12)), none, some (.long (((v8 + v10) + v12) - (v2 + r5))), none]) (fun (s : MemT) => [.ref a0]) (fun (s : MemT) => s) 0 0 79 (fun s => ?_) (fun K18 hK18 => ?_)
    · revert s
      intro M19
      try dsimp only
      refine s_iconst (v := 0) hX dX10_backBy_79 kc_0 ?_
      exact hK13 _
    · refine s_ifgt (tgt := 79) hX dX10_backBy_60 rfl ?_ ?_
      · exact hK18 _
      · refine s_ldc2 hX dX10_backBy_63 q_1612 ?_
        refine s_lload hX dX10_backBy_66 rfl ?_
        refine s_lmul hX dX10_backBy_68 ?_
        refine s_lload hX dX10_backBy_69 rfl ?_
        refine s_lcmp hX dX10_backBy_71 ?_
        refine s_ifgt (tgt := 79) hX dX10_backBy_72 rfl ?_ ?_
        · exact hK18 _
        · refine s_iconst (v := 1) hX dX10_backBy_75 kc_1 ?_
          refine s_goto (tgt := 80) hX dX10_backBy_76 rfl ?_
          exact hK13 _
abbrev rm_X10_back1 : Room := { frames := 3, cells := 0, slots := 0, locals := 79 }
theorem k_X10_back1 : KYV yX10_back1 cX10_back1 3 (some .int) 2 := ⟨⟨q_1620, q_9, by decide +kernel, by decide +kernel, by decide +kernel⟩, q_1619, p_86⟩
set_option maxHeartbeats 4000000 in
set_option maxRecDepth 100000 in
theorem c_X10_back1 (n : Nat) (M0 : MemT) (a0 : Nat) (a1 : Int32) (a2 : Int32) : Ct iI yX10_back1 cX10_back1 3 (some .int) rm_X10_back1 [.ref a0, .int a1, .int a2] M0 (g_X10_back1 n M0 a0 a1 a2) := by
  unfold g_X10_back1
  refine ct_intro RX10 0 [some (.ref a0), some (.int a1), some (.int a2)] rfl (by decide +kernel) rfl (Nat.le_of_ble_eq_true rfl) (fun X A hX hnm hR => ?_)
  refine s_aload_n hX dX10_back1_0 rfl ?_
  refine s_iload_n hX dX10_back1_1 rfl ?_
  refine s_aload_n hX dX10_back1_2 rfl ?_
  refine s_getO hX dX10_back1_3 q_1323 rfl (fun j1 => ?_)
  refine s_iconst (v := 0) hX dX10_back1_6 kc_0 ?_
  refine s_iald hX dX10_back1_7 (fun v2 => ?_)
  refine s_aload_n hX dX10_back1_8 rfl ?_
  refine s_getO hX dX10_back1_9 q_1323 rfl (fun j3 => ?_)
  refine s_iconst (v := 1) hX dX10_back1_12 kc_1 ?_
  refine s_iald hX dX10_back1_13 (fun v4 => ?_)
  refine s_iload_n hX dX10_back1_14 rfl ?_
  refine s_callVi (ck1 := 0) (sk1 := 0) (ci := 8) hX dX10_back1_15 k_X10_backBy q_1621 (c_X10_backBy n M0 a0 a1 v2 v4 a2) (by decide) rfl rfl rfl ⟨Nat.le_of_ble_eq_true rfl, Nat.le_of_ble_eq_true rfl⟩ ⟨(Nat.le_of_ble_eq_true rfl), (Nat.le_of_ble_eq_true rfl)⟩ (Nat.le_of_ble_eq_true rfl) rfl rfl (fun r5 M6 => ?_)
  exact s_iret hX hR dX10_back1_18 (Nat.le_of_ble_eq_true rfl) (Nat.le_of_ble_eq_true rfl)
abbrev rm_X10_annualOf : Room := { frames := 4, cells := 0, slots := 0, locals := 97 }
theorem k_X10_annualOf : KYV yX10_annualOf cX10_annualOf 3 (some .int) 2 := ⟨⟨q_1652, q_9, by decide +kernel, by decide +kernel, by decide +kernel⟩, q_1651, p_94⟩
set_option maxHeartbeats 4000000 in
set_option maxRecDepth 100000 in
theorem c_X10_annualOf (n : Nat) (M0 : MemT) (a0 : Nat) (a1 : Int32) (a2 : Int32) : Ct iI yX10_annualOf cX10_annualOf 3 (some .int) rm_X10_annualOf [.ref a0, .int a1, .int a2] M0 (g_X10_annualOf n M0 a0 a1 a2) := by
  unfold g_X10_annualOf
  refine ct_intro RX10 0 [some (.ref a0), some (.int a1), some (.int a2)] rfl (by decide +kernel) rfl (Nat.le_of_ble_eq_true rfl) (fun X A hX hnm hR => ?_)
  refine s_aload_n hX dX10_annualOf_0 rfl ?_
  refine s_iload_n hX dX10_annualOf_1 rfl ?_
  refine s_iload_n hX dX10_annualOf_2 rfl ?_
  refine s_callVu (ck1 := 0) (sk1 := 0) (ci := 8) hX dX10_annualOf_3 k_X10_layYear q_1633 (c_X10_layYear n M0 a0 a1 a2) (by decide) rfl rfl rfl ⟨Nat.le_of_ble_eq_true rfl, Nat.le_of_ble_eq_true rfl⟩ ⟨(Nat.le_of_ble_eq_true rfl), (Nat.le_of_ble_eq_true rfl)⟩ (Nat.le_of_ble_eq_true rfl) rfl rfl (fun r1 M2 => ?_)
  refine s_iload_n hX dX10_annualOf_6 rfl ?_
  refine s_aload_n hX dX10_annualOf_7 rfl ?_
  refine s_callVi (ck1 := 0) (sk1 := 0) (ci := 8) hX dX10_annualOf_8 k_X10_year q_1526 (c_X10_year n M2 a0) (by decide) rfl rfl rfl ⟨Nat.le_of_ble_eq_true rfl, Nat.le_of_ble_eq_true rfl⟩ ⟨(Nat.le_of_ble_eq_true rfl), (Nat.le_of_ble_eq_true rfl)⟩ (Nat.le_of_ble_eq_true rfl) rfl rfl (fun r3 M4 => ?_)
  refine s_icge (tgt := 31) hX dX10_annualOf_11 rfl ?_ ?_
  · refine s_aload_n hX dX10_annualOf_31 rfl ?_
    refine s_iload_n hX dX10_annualOf_32 rfl ?_
    refine s_callVi (ck1 := 0) (sk1 := 0) (ci := 8) hX dX10_annualOf_33 k_X10_fraction q_1598 (c_X10_fraction n M4 a0 a1) (by decide) rfl rfl rfl ⟨Nat.le_of_ble_eq_true rfl, Nat.le_of_ble_eq_true rfl⟩ ⟨(Nat.le_of_ble_eq_true rfl), (Nat.le_of_ble_eq_true rfl)⟩ (Nat.le_of_ble_eq_true rfl) rfl rfl (fun r7 M8 => ?_)
    exact s_iret hX hR dX10_annualOf_36 (Nat.le_of_ble_eq_true rfl) (Nat.le_of_ble_eq_true rfl)
  · refine s_aload_n hX dX10_annualOf_14 rfl ?_
    refine s_sipush (v := 1801) hX dX10_annualOf_15 ks_1801 ?_
    refine s_bipush (v := 16) hX dX10_annualOf_18 kb_16 ?_
    refine s_iload_n hX dX10_annualOf_20 rfl ?_
    refine s_imul hX dX10_annualOf_21 ?_
    refine s_iadd hX dX10_annualOf_22 ?_
    refine s_iload_n hX dX10_annualOf_23 rfl ?_
    refine s_iadd hX dX10_annualOf_24 ?_
    refine s_callVi (ck1 := 0) (sk1 := 0) (ci := 8) hX dX10_annualOf_25 k_X10_of q_1286 (c_X10_of n M4 a0 ((1801 + (16 * a1)) + a2)) (by decide) rfl rfl rfl ⟨Nat.le_of_ble_eq_true rfl, Nat.le_of_ble_eq_true rfl⟩ ⟨(Nat.le_of_ble_eq_true rfl), (Nat.le_of_ble_eq_true rfl)⟩ (Nat.le_of_ble_eq_true rfl) rfl rfl (fun r5 M6 => ?_)
    refine s_goto (tgt := 36) hX dX10_annualOf_28 rfl ?_
    exact s_iret hX hR dX10_annualOf_36 (Nat.le_of_ble_eq_true rfl) (Nat.le_of_ble_eq_true rfl)
abbrev rm_X10_firstOf : Room := { frames := 1, cells := 0, slots := 0, locals := 22 }
theorem k_X10_firstOf : KYV yX10_firstOf cX10_firstOf 2 (some .int) 1 := ⟨⟨q_1616, q_9, by decide +kernel, by decide +kernel, by decide +kernel⟩, q_1615, p_85⟩
set_option maxHeartbeats 4000000 in
set_option maxRecDepth 100000 in
theorem c_X10_firstOf (n : Nat) (M0 : MemT) (a0 : Nat) (a1 : Int32) : Ct iI yX10_firstOf cX10_firstOf 2 (some .int) rm_X10_firstOf [.ref a0, .int a1] M0 (g_X10_firstOf n M0 a0 a1) := by
  unfold g_X10_firstOf
  refine ct_intro RX10 0 [some (.ref a0), some (.int a1)] rfl (by decide +kernel) rfl (Nat.le_of_ble_eq_true rfl) (fun X A hX hnm hR => ?_)
  refine s_aload_n hX dX10_firstOf_0 rfl ?_
  refine s_iload_n hX dX10_firstOf_1 rfl ?_
  refine s_bipush (v := 7) hX dX10_firstOf_2 kb_7 ?_
  refine s_callVi (ck1 := 0) (sk1 := 0) (ci := 8) hX dX10_firstOf_4 k_X10_told1 q_1278 (c_X10_told1 n M0 a0 a1 7) (by decide) rfl rfl rfl ⟨Nat.le_of_ble_eq_true rfl, Nat.le_of_ble_eq_true rfl⟩ ⟨(Nat.le_of_ble_eq_true rfl), (Nat.le_of_ble_eq_true rfl)⟩ (Nat.le_of_ble_eq_true rfl) rfl rfl (fun r1 M2 => ?_)
  refine s_aload_n hX dX10_firstOf_7 rfl ?_
  refine s_getO hX dX10_firstOf_8 q_1323 rfl (fun j3 => ?_)
  refine s_iconst (v := 1) hX dX10_firstOf_11 kc_1 ?_
  refine s_iald hX dX10_firstOf_12 (fun v4 => ?_)
  refine s_icge (tgt := 26) hX dX10_firstOf_13 rfl ?_ ?_
  · refine s_aload_n hX dX10_firstOf_26 rfl ?_
    refine s_getO hX dX10_firstOf_27 q_1323 rfl (fun j7 => ?_)
    refine s_iconst (v := 1) hX dX10_firstOf_30 kc_1 ?_
    refine s_iald hX dX10_firstOf_31 (fun v8 => ?_)
    exact s_iret hX hR dX10_firstOf_32 (Nat.le_of_ble_eq_true rfl) (Nat.le_of_ble_eq_true rfl)
  · refine s_aload_n hX dX10_firstOf_16 rfl ?_
    refine s_iload_n hX dX10_firstOf_17 rfl ?_
    refine s_bipush (v := 7) hX dX10_firstOf_18 kb_7 ?_
    refine s_callVi (ck1 := 0) (sk1 := 0) (ci := 8) hX dX10_firstOf_20 k_X10_told1 q_1278 (c_X10_told1 n M2 a0 a1 7) (by decide) rfl rfl rfl ⟨Nat.le_of_ble_eq_true rfl, Nat.le_of_ble_eq_true rfl⟩ ⟨(Nat.le_of_ble_eq_true rfl), (Nat.le_of_ble_eq_true rfl)⟩ (Nat.le_of_ble_eq_true rfl) rfl rfl (fun r5 M6 => ?_)
    refine s_goto (tgt := 32) hX dX10_firstOf_23 rfl ?_
    exact s_iret hX hR dX10_firstOf_32 (Nat.le_of_ble_eq_true rfl) (Nat.le_of_ble_eq_true rfl)
abbrev rm_X10_provisionalBy : Room := { frames := 4, cells := 0, slots := 0, locals := 97 }
theorem k_X10_provisionalBy : KYV yX10_provisionalBy cX10_provisionalBy 5 (some .int) 3 := ⟨⟨q_1581, q_9, by decide +kernel, by decide +kernel, by decide +kernel⟩, q_1580, p_78⟩
set_option maxHeartbeats 4000000 in
set_option maxRecDepth 100000 in
theorem c_X10_provisionalBy (n : Nat) (M0 : MemT) (a0 : Nat) (a1 : Int32) (a2 : Int32) (a3 : Int32) : Ct iI yX10_provisionalBy cX10_provisionalBy 5 (some .int) rm_X10_provisionalBy [.ref a0, .int a1, .int a2, .int a3] M0 (g_X10_provisionalBy n M0 a0 a1 a2 a3) := by
  unfold g_X10_provisionalBy
  refine ct_intro RX10 1 [some (.ref a0), some (.int a1), some (.int a2), some (.int a3), none] rfl (by decide +kernel) rfl (Nat.le_of_ble_eq_true rfl) (fun X A hX hnm hR => ?_)
  refine s_iload_n hX dX10_provisionalBy_0 rfl ?_
  refine s_iconst (v := 1) hX dX10_provisionalBy_1 kc_1 ?_
  refine s_jp (fun (s : MemT × Int32) => [some (.ref a0), some (.int a1), some (.int a2), some (.int a3), none]) (fun (s : MemT × Int32) => [.int s.2]) (fun (s : MemT × Int32) => s.1) 0 0 32 (fun s => ?_) (fun K1 hK1 => ?_)
  · obtain ⟨M2, v3⟩ := s
    dsimp only
    refine s_istore4 hX dX10_provisionalBy_32 (by first | exact trivial | exact rfl) (Nat.le_of_ble_eq_true rfl) ?_
    refine s_aload_n hX dX10_provisionalBy_34 rfl ?_
    refine s_iload_n hX dX10_provisionalBy_35 rfl ?_
    refine s_iload_n hX dX10_provisionalBy_36 rfl ?_
    refine s_callVu (ck1 := 0) (sk1 := 0) (ci := 8) hX dX10_provisionalBy_37 k_X10_layQuarter q_1582 (c_X10_layQuarter n M2 a0 a1 a2) (by decide) rfl rfl rfl ⟨Nat.le_of_ble_eq_true rfl, Nat.le_of_ble_eq_true rfl⟩ ⟨(Nat.le_of_ble_eq_true rfl), (Nat.le_of_ble_eq_true rfl)⟩ (Nat.le_of_ble_eq_true rfl) rfl rfl (fun r4 M5 => ?_)
    refine s_iload_n hX dX10_provisionalBy_40 rfl ?_
    refine s_ifne (tgt := 50) hX dX10_provisionalBy_41 rfl ?_ ?_
    · refine s_aload_n hX dX10_provisionalBy_44 rfl ?_
      refine s_iload_n hX dX10_provisionalBy_45 rfl ?_
      refine s_callVi (ck1 := 0) (sk1 := 0) (ci := 8) hX dX10_provisionalBy_46 k_X10_fraction q_1598 (c_X10_fraction n M5 a0 a1) (by decide) rfl rfl rfl ⟨Nat.le_of_ble_eq_true rfl, Nat.le_of_ble_eq_true rfl⟩ ⟨(Nat.le_of_ble_eq_true rfl), (Nat.le_of_ble_eq_true rfl)⟩ (Nat.le_of_ble_eq_true rfl) rfl rfl (fun r6 M7 => ?_)
      exact s_iret hX hR dX10_provisionalBy_49 (Nat.le_of_ble_eq_true rfl) (Nat.le_of_ble_eq_true rfl)
    · refine s_iload_n hX dX10_provisionalBy_50 rfl ?_
      refine s_iconst (v := 4) hX dX10_provisionalBy_51 kc_4 ?_
      refine s_iclt (tgt := 58) hX dX10_provisionalBy_52 rfl ?_ ?_
      · refine s_aload_n hX dX10_provisionalBy_58 rfl ?_
        refine s_iload_n hX dX10_provisionalBy_59 rfl ?_
        refine s_bipush (v := 6) hX dX10_provisionalBy_60 kb_6 ?_
        refine s_callVi (ck1 := 0) (sk1 := 0) (ci := 8) hX dX10_provisionalBy_62 k_X10_told1 q_1278 (c_X10_told1 n M5 a0 a1 6) (by decide) rfl rfl rfl ⟨Nat.le_of_ble_eq_true rfl, Nat.le_of_ble_eq_true rfl⟩ ⟨(Nat.le_of_ble_eq_true rfl), (Nat.le_of_ble_eq_true rfl)⟩ (Nat.le_of_ble_eq_true rfl) rfl rfl (fun r8 M9 => ?_)
        refine s_iconst (v := 1) hX dX10_provisionalBy_65 kc_1 ?_
        refine s_icne (tgt := 77) hX dX10_provisionalBy_66 rfl ?_ ?_
        · refine s_aload_n hX dX10_provisionalBy_69 rfl ?_
          refine s_iload_n hX dX10_provisionalBy_70 rfl ?_
          refine s_callVi (ck1 := 0) (sk1 := 0) (ci := 8) hX dX10_provisionalBy_71 k_X10_firstOf q_1613 (c_X10_firstOf n M9 a0 a1) (by decide) rfl rfl rfl ⟨Nat.le_of_ble_eq_true rfl, Nat.le_of_ble_eq_true rfl⟩ ⟨(Nat.le_of_ble_eq_true rfl), (Nat.le_of_ble_eq_true rfl)⟩ (Nat.le_of_ble_eq_true rfl) rfl rfl (fun r10 M11 => ?_)
          refine s_goto (tgt := 82) hX dX10_provisionalBy_74 rfl ?_
          exact s_iret hX hR dX10_provisionalBy_82 (Nat.le_of_ble_eq_true rfl) (Nat.le_of_ble_eq_true rfl)
        · refine s_aload_n hX dX10_provisionalBy_77 rfl ?_
          refine s_iload_n hX dX10_provisionalBy_78 rfl ?_
          refine s_callVi (ck1 := 0) (sk1 := 0) (ci := 8) hX dX10_provisionalBy_79 k_X10_fraction q_1598 (c_X10_fraction n M9 a0 a1) (by decide) rfl rfl rfl ⟨Nat.le_of_ble_eq_true rfl, Nat.le_of_ble_eq_true rfl⟩ ⟨(Nat.le_of_ble_eq_true rfl), (Nat.le_of_ble_eq_true rfl)⟩ (Nat.le_of_ble_eq_true rfl) rfl rfl (fun r12 M13 => ?_)
          exact s_iret hX hR dX10_provisionalBy_82 (Nat.le_of_ble_eq_true rfl) (Nat.le_of_ble_eq_true rfl)
      · refine s_iload hX dX10_provisionalBy_55 rfl ?_
        exact s_iret hX hR dX10_provisionalBy_57 (Nat.le_of_ble_eq_true rfl) (Nat.le_of_ble_eq_true rfl)
  · refine s_jp (fun (s : MemT) => [some (.ref a0), some (.int a1), some (.int a2), some (.int a3), none]) (fun (s : MemT) => []) (fun (s : MemT) => s) 0 0 31 (fun s => ?_) (fun K14 hK14 => ?_)
    · revert s
      intro M15
      try dsimp only
      refine s_iconst (v := 0) hX dX10_provisionalBy_31 kc_0 ?_
      exact hK1 _
    · refine s_icne (tgt := 31) hX dX10_provisionalBy_2 rfl ?_ ?_
      · refine s_iload_n hX dX10_provisionalBy_5 rfl ?_
        refine s_iconst (v := 4) hX dX10_provisionalBy_6 kc_4 ?_
        refine s_iclt (tgt := 31) hX dX10_provisionalBy_7 rfl ?_ ?_
        · exact hK14 _
        · refine s_aload_n hX dX10_provisionalBy_10 rfl ?_
          refine s_sipush (v := 1801) hX dX10_provisionalBy_11 ks_1801 ?_
          refine s_bipush (v := 16) hX dX10_provisionalBy_14 kb_16 ?_
          refine s_iload_n hX dX10_provisionalBy_16 rfl ?_
          refine s_imul hX dX10_provisionalBy_17 ?_
          refine s_iadd hX dX10_provisionalBy_18 ?_
          refine s_iload_n hX dX10_provisionalBy_19 rfl ?_
          refine s_iconst (v := 4) hX dX10_provisionalBy_20 kc_4 ?_
          refine s_idiv hX dX10_provisionalBy_21 ?_
          refine s_iadd hX dX10_provisionalBy_22 ?_
          refine s_iconst (v := 1) hX dX10_provisionalBy_23 kc_1 ?_
          refine s_isub hX dX10_provisionalBy_24 ?_
          refine s_callVi (ck1 := 0) (sk1 := 0) (ci := 8) hX dX10_provisionalBy_25 k_X10_of q_1286 (c_X10_of n M0 a0 (((1801 + (16 * a1)) + (a2 / 4)) - 1)) (by decide) rfl rfl rfl ⟨Nat.le_of_ble_eq_true rfl, Nat.le_of_ble_eq_true rfl⟩ ⟨(Nat.le_of_ble_eq_true rfl), (Nat.le_of_ble_eq_true rfl)⟩ (Nat.le_of_ble_eq_true rfl) rfl rfl (fun r16 M17 => ?_)
          refine s_goto (tgt := 32) hX dX10_provisionalBy_28 rfl ?_
          exact hK1 _
      · exact hK14 _
abbrev rm_X10_books : Room := { frames := 2, cells := 0, slots := 0, locals := 44 }
theorem k_X10_books : KYV yX10_books cX10_books 7 none 4 := ⟨⟨q_1628, q_9, by decide +kernel, by decide +kernel, by decide +kernel⟩, q_1627, p_88⟩
set_option maxHeartbeats 4000000 in
set_option maxRecDepth 100000 in
theorem c_X10_books (n : Nat) (M0 : MemT) (a0 : Nat) (a1 : Int32) (a2 : Int32) (a3 : Int32) (a4 : Int32) : Ct iU yX10_books cX10_books 7 none rm_X10_books [.ref a0, .int a1, .int a2, .int a3, .int a4] M0 (g_X10_books n M0 a0 a1 a2 a3 a4) := by
  unfold g_X10_books
  refine ct_intro RX10 2 [some (.ref a0), some (.int a1), some (.int a2), some (.int a3), some (.int a4), none, none] rfl (by decide +kernel) rfl (Nat.le_of_ble_eq_true rfl) (fun X A hX hnm hR => ?_)
  refine s_aload_n hX dX10_books_0 rfl ?_
  refine s_sipush (v := 1867) hX dX10_books_1 ks_1867 ?_
  refine s_callVi (ck1 := 0) (sk1 := 0) (ci := 8) hX dX10_books_4 k_X10_of q_1286 (c_X10_of n M0 a0 1867) (by decide) rfl rfl rfl ⟨Nat.le_of_ble_eq_true rfl, Nat.le_of_ble_eq_true rfl⟩ ⟨(Nat.le_of_ble_eq_true rfl), (Nat.le_of_ble_eq_true rfl)⟩ (Nat.le_of_ble_eq_true rfl) rfl rfl (fun r1 M2 => ?_)
  refine s_bipush (v := 40) hX dX10_books_7 kb_40 ?_
  refine s_jp (fun (s : MemT × Int32) => [some (.ref a0), some (.int a1), some (.int a2), some (.int a3), some (.int a4), none, none]) (fun (s : MemT × Int32) => [.int s.2]) (fun (s : MemT × Int32) => s.1) 0 0 24 (fun s => ?_) (fun K3 hK3 => ?_)
  · obtain ⟨M4, v5⟩ := s
    dsimp only
    refine s_istore5 hX dX10_books_24 (by first | exact trivial | exact rfl) (Nat.le_of_ble_eq_true rfl) ?_
    refine s_iconst (v := 5) hX dX10_books_26 kc_5 ?_
    refine s_iload hX dX10_books_27 rfl ?_
    refine s_imul hX dX10_books_29 ?_
    refine s_iconst (v := 1) hX dX10_books_30 kc_1 ?_
    refine s_isub hX dX10_books_31 ?_
    refine s_istore6 hX dX10_books_32 (by first | exact trivial | exact rfl) (Nat.le_of_ble_eq_true rfl) ?_
    refine s_loopE (stk := []) (fun (s : MemT × Int32) => [some (.ref a0), some (.int a1), some (.int a2), some (.int a3), some (.int a4), some (.int v5), some (.int s.2)]) (fun (s : MemT × Int32) => s.1) 67 (fun (s : MemT × Int32) => [some (.ref a0), some (.int a1), some (.int a2), some (.int a3), some (.int a4), some (.int v5), some (.int s.2)]) (fun s B8 hB8 hE8 => ?_) (fun s => ?_) n (M4, (5 * v5) - 1)
    · obtain ⟨M6, v7⟩ := s
      dsimp only
      refine s_iload hX dX10_books_34 rfl ?_
      refine s_iflt (tgt := 67) hX dX10_books_36 rfl ?_ ?_
      · exact s_exit hE8
      · refine s_aload_n hX dX10_books_39 rfl ?_
        refine s_sipush (v := 1868) hX dX10_books_40 ks_1868 ?_
        refine s_iload hX dX10_books_43 rfl ?_
        refine s_iadd hX dX10_books_45 ?_
        refine s_iconst (v := 5) hX dX10_books_46 kc_5 ?_
        refine s_iadd hX dX10_books_47 ?_
        refine s_aload_n hX dX10_books_48 rfl ?_
        refine s_sipush (v := 1868) hX dX10_books_49 ks_1868 ?_
        refine s_iload hX dX10_books_52 rfl ?_
        refine s_iadd hX dX10_books_54 ?_
        refine s_callVi (ck1 := 0) (sk1 := 0) (ci := 8) hX dX10_books_55 k_X10_of q_1286 (c_X10_of n M6 a0 (1868 + v7)) (by decide) rfl rfl rfl ⟨Nat.le_of_ble_eq_true rfl, Nat.le_of_ble_eq_true rfl⟩ ⟨(Nat.le_of_ble_eq_true rfl), (Nat.le_of_ble_eq_true rfl)⟩ (Nat.le_of_ble_eq_true rfl) rfl rfl (fun r9 M10 => ?_)
        refine s_callVu (ck1 := 0) (sk1 := 0) (ci := 8) hX dX10_books_58 k_X10_lay q_1274 (c_X10_lay n M10 a0 ((1868 + v7) + 5) r9) (by decide) rfl rfl rfl ⟨Nat.le_of_ble_eq_true rfl, Nat.le_of_ble_eq_true rfl⟩ ⟨(Nat.le_of_ble_eq_true rfl), (Nat.le_of_ble_eq_true rfl)⟩ (Nat.le_of_ble_eq_true rfl) rfl rfl (fun r11 M12 => ?_)
        refine s_iinc6 (v := v7 + (-1)) hX dX10_books_61 rfl (by first | exact trivial | exact rfl) (Nat.le_of_ble_eq_true rfl) ?_
        refine s_goto (tgt := 34) hX dX10_books_64 rfl ?_
        exact s_back hB8
    · obtain ⟨M13, v14⟩ := s
      dsimp only
      refine s_aload_n hX dX10_books_67 rfl ?_
      refine s_sipush (v := 1868) hX dX10_books_68 ks_1868 ?_
      refine s_aload_n hX dX10_books_71 rfl ?_
      refine s_iconst (v := 0) hX dX10_books_72 kc_0 ?_
      refine s_callVi (ck1 := 0) (sk1 := 0) (ci := 8) hX dX10_books_73 k_X10_of q_1286 (c_X10_of n M13 a0 0) (by decide) rfl rfl rfl ⟨Nat.le_of_ble_eq_true rfl, Nat.le_of_ble_eq_true rfl⟩ ⟨(Nat.le_of_ble_eq_true rfl), (Nat.le_of_ble_eq_true rfl)⟩ (Nat.le_of_ble_eq_true rfl) rfl rfl (fun r15 M16 => ?_)
      refine s_callVu (ck1 := 0) (sk1 := 0) (ci := 8) hX dX10_books_76 k_X10_lay q_1274 (c_X10_lay n M16 a0 1868 r15) (by decide) rfl rfl rfl ⟨Nat.le_of_ble_eq_true rfl, Nat.le_of_ble_eq_true rfl⟩ ⟨(Nat.le_of_ble_eq_true rfl), (Nat.le_of_ble_eq_true rfl)⟩ (Nat.le_of_ble_eq_true rfl) rfl rfl (fun r17 M18 => ?_)
      refine s_aload_n hX dX10_books_79 rfl ?_
      refine s_sipush (v := 1869) hX dX10_books_80 ks_1869 ?_
      refine s_iload_n hX dX10_books_83 rfl ?_
      refine s_callVu (ck1 := 0) (sk1 := 0) (ci := 8) hX dX10_books_84 k_X10_lay q_1274 (c_X10_lay n M18 a0 1869 a1) (by decide) rfl rfl rfl ⟨Nat.le_of_ble_eq_true rfl, Nat.le_of_ble_eq_true rfl⟩ ⟨(Nat.le_of_ble_eq_true rfl), (Nat.le_of_ble_eq_true rfl)⟩ (Nat.le_of_ble_eq_true rfl) rfl rfl (fun r19 M20 => ?_)
      refine s_aload_n hX dX10_books_87 rfl ?_
      refine s_sipush (v := 1870) hX dX10_books_88 ks_1870 ?_
      refine s_iload_n hX dX10_books_91 rfl ?_
      refine s_callVu (ck1 := 0) (sk1 := 0) (ci := 8) hX dX10_books_92 k_X10_lay q_1274 (c_X10_lay n M20 a0 1870 a2) (by decide) rfl rfl rfl ⟨Nat.le_of_ble_eq_true rfl, Nat.le_of_ble_eq_true rfl⟩ ⟨(Nat.le_of_ble_eq_true rfl), (Nat.le_of_ble_eq_true rfl)⟩ (Nat.le_of_ble_eq_true rfl) rfl rfl (fun r21 M22 => ?_)
      refine s_aload_n hX dX10_books_95 rfl ?_
      refine s_sipush (v := 1871) hX dX10_books_96 ks_1871 ?_
      refine s_iload_n hX dX10_books_99 rfl ?_
      refine s_callVu (ck1 := 0) (sk1 := 0) (ci := 8) hX dX10_books_100 k_X10_lay q_1274 (c_X10_lay n M22 a0 1871 a3) (by decide) rfl rfl rfl ⟨Nat.le_of_ble_eq_true rfl, Nat.le_of_ble_eq_true rfl⟩ ⟨(Nat.le_of_ble_eq_true rfl), (Nat.le_of_ble_eq_true rfl)⟩ (Nat.le_of_ble_eq_true rfl) rfl rfl (fun r23 M24 => ?_)
      refine s_aload_n hX dX10_books_103 rfl ?_
      refine s_sipush (v := 1872) hX dX10_books_104 ks_1872 ?_
      refine s_iload hX dX10_books_107 rfl ?_
      refine s_callVu (ck1 := 0) (sk1 := 0) (ci := 8) hX dX10_books_109 k_X10_lay q_1274 (c_X10_lay n M24 a0 1872 a4) (by decide) rfl rfl rfl ⟨Nat.le_of_ble_eq_true rfl, Nat.le_of_ble_eq_true rfl⟩ ⟨(Nat.le_of_ble_eq_true rfl), (Nat.le_of_ble_eq_true rfl)⟩ (Nat.le_of_ble_eq_true rfl) rfl rfl (fun r25 M26 => ?_)
      refine s_aload_n hX dX10_books_112 rfl ?_
      refine s_sipush (v := 1867) hX dX10_books_113 ks_1867 ?_
      refine s_iload hX dX10_books_116 rfl ?_
      refine s_iconst (v := 1) hX dX10_books_118 kc_1 ?_
      refine s_iadd hX dX10_books_119 ?_
      refine s_callVu (ck1 := 0) (sk1 := 0) (ci := 8) hX dX10_books_120 k_X10_lay q_1274 (c_X10_lay n M26 a0 1867 (v5 + 1)) (by decide) rfl rfl rfl ⟨Nat.le_of_ble_eq_true rfl, Nat.le_of_ble_eq_true rfl⟩ ⟨(Nat.le_of_ble_eq_true rfl), (Nat.le_of_ble_eq_true rfl)⟩ (Nat.le_of_ble_eq_true rfl) rfl rfl (fun r27 M28 => ?_)
      refine s_aload_n hX dX10_books_123 rfl ?_
      refine s_sipush (v := 1866) hX dX10_books_124 ks_1866 ?_
      refine s_iconst (v := 1) hX dX10_books_127 kc_1 ?_
      refine s_callVu (ck1 := 0) (sk1 := 0) (ci := 8) hX dX10_books_128 k_X10_add q_1294 (c_X10_add n M28 a0 1866 1) (by decide) rfl rfl rfl ⟨Nat.le_of_ble_eq_true rfl, Nat.le_of_ble_eq_true rfl⟩ ⟨(Nat.le_of_ble_eq_true rfl), (Nat.le_of_ble_eq_true rfl)⟩ (Nat.le_of_ble_eq_true rfl) rfl rfl (fun r29 M30 => ?_)
      refine s_aload_n hX dX10_books_131 rfl ?_
      refine s_sipush (v := 2068) hX dX10_books_132 ks_2068 ?_
      refine s_iconst (v := 4) hX dX10_books_135 kc_4 ?_
      refine s_iload_n hX dX10_books_136 rfl ?_
      refine s_imul hX dX10_books_137 ?_
      refine s_iadd hX dX10_books_138 ?_
      refine s_iload_n hX dX10_books_139 rfl ?_
      refine s_iadd hX dX10_books_140 ?_
      refine s_iload_n hX dX10_books_141 rfl ?_
      refine s_callVu (ck1 := 0) (sk1 := 0) (ci := 8) hX dX10_books_142 k_X10_add q_1294 (c_X10_add n M30 a0 ((2068 + (4 * a1)) + a2) a3) (by decide) rfl rfl rfl ⟨Nat.le_of_ble_eq_true rfl, Nat.le_of_ble_eq_true rfl⟩ ⟨(Nat.le_of_ble_eq_true rfl), (Nat.le_of_ble_eq_true rfl)⟩ (Nat.le_of_ble_eq_true rfl) rfl rfl (fun r31 M32 => ?_)
      exact s_vret hX hR dX10_books_145 (Nat.le_of_ble_eq_true rfl) (Nat.le_of_ble_eq_true rfl)
  · refine s_icge (tgt := 22) hX dX10_books_9 rfl ?_ ?_
    · refine s_bipush (v := 39) hX dX10_books_22 kb_39 ?_
      exact hK3 _
    · refine s_aload_n hX dX10_books_12 rfl ?_
      refine s_sipush (v := 1867) hX dX10_books_13 ks_1867 ?_
      refine s_callVi (ck1 := 0) (sk1 := 0) (ci := 8) hX dX10_books_16 k_X10_of q_1286 (c_X10_of n M2 a0 1867) (by decide) rfl rfl rfl ⟨Nat.le_of_ble_eq_true rfl, Nat.le_of_ble_eq_true rfl⟩ ⟨(Nat.le_of_ble_eq_true rfl), (Nat.le_of_ble_eq_true rfl)⟩ (Nat.le_of_ble_eq_true rfl) rfl rfl (fun r33 M34 => ?_)
      refine s_goto (tgt := 24) hX dX10_books_19 rfl ?_
      exact hK3 _
abbrev rm_X10_bookedIn : Room := { frames := 1, cells := 0, slots := 0, locals := 21 }
theorem k_X10_bookedIn : KYV yX10_bookedIn cX10_bookedIn 5 (some .int) 2 := ⟨⟨q_1640, q_9, by decide +kernel, by decide +kernel, by decide +kernel⟩, q_1639, p_91⟩
set_option maxHeartbeats 4000000 in
set_option maxRecDepth 100000 in
theorem c_X10_bookedIn (n : Nat) (M0 : MemT) (a0 : Nat) (a1 : Int32) (a2 : Int32) : Ct iI yX10_bookedIn cX10_bookedIn 5 (some .int) rm_X10_bookedIn [.ref a0, .int a1, .int a2] M0 (g_X10_bookedIn n M0 a0 a1 a2) := by
  unfold g_X10_bookedIn
  refine ct_intro RX10 2 [some (.ref a0), some (.int a1), some (.int a2), none, none] rfl (by decide +kernel) rfl (Nat.le_of_ble_eq_true rfl) (fun X A hX hnm hR => ?_)
  refine s_iconst (v := 0) hX dX10_bookedIn_0 kc_0 ?_
  refine s_istore3 hX dX10_bookedIn_1 (by first | exact trivial | exact rfl) (Nat.le_of_ble_eq_true rfl) ?_
  refine s_iconst (v := 4) hX dX10_bookedIn_2 kc_4 ?_
  refine s_iload_n hX dX10_bookedIn_3 rfl ?_
  refine s_imul hX dX10_bookedIn_4 ?_
  refine s_istore4 hX dX10_bookedIn_5 (by first | exact trivial | exact rfl) (Nat.le_of_ble_eq_true rfl) ?_
  refine s_loopE (stk := []) (fun (s : MemT × Int32 × Int32) => [some (.ref a0), some (.int a1), some (.int a2), some (.int s.2.1), some (.int s.2.2)]) (fun (s : MemT × Int32 × Int32) => s.1) 41 (fun (s : MemT × Int32 × Int32) => [some (.ref a0), some (.int a1), some (.int a2), some (.int s.2.1), some (.int s.2.2)]) (fun s B4 hB4 hE4 => ?_) (fun s => ?_) n (M0, 0, 4 * a2)
  · obtain ⟨M1, v2, v3⟩ := s
    dsimp only
    refine s_iload hX dX10_bookedIn_7 rfl ?_
    refine s_iconst (v := 4) hX dX10_bookedIn_9 kc_4 ?_
    refine s_iload_n hX dX10_bookedIn_10 rfl ?_
    refine s_imul hX dX10_bookedIn_11 ?_
    refine s_iconst (v := 4) hX dX10_bookedIn_12 kc_4 ?_
    refine s_iadd hX dX10_bookedIn_13 ?_
    refine s_icge (tgt := 41) hX dX10_bookedIn_14 rfl ?_ ?_
    · exact s_exit hE4
    · refine s_iload_n hX dX10_bookedIn_17 rfl ?_
      refine s_aload_n hX dX10_bookedIn_18 rfl ?_
      refine s_sipush (v := 1545) hX dX10_bookedIn_19 ks_1545 ?_
      refine s_bipush (v := 64) hX dX10_bookedIn_22 kb_64 ?_
      refine s_iload_n hX dX10_bookedIn_24 rfl ?_
      refine s_imul hX dX10_bookedIn_25 ?_
      refine s_iadd hX dX10_bookedIn_26 ?_
      refine s_iload hX dX10_bookedIn_27 rfl ?_
      refine s_iadd hX dX10_bookedIn_29 ?_
      refine s_callVi (ck1 := 0) (sk1 := 0) (ci := 8) hX dX10_bookedIn_30 k_X10_of q_1286 (c_X10_of n M1 a0 ((1545 + (64 * a1)) + v3)) (by decide) rfl rfl rfl ⟨Nat.le_of_ble_eq_true rfl, Nat.le_of_ble_eq_true rfl⟩ ⟨(Nat.le_of_ble_eq_true rfl), (Nat.le_of_ble_eq_true rfl)⟩ (Nat.le_of_ble_eq_true rfl) rfl rfl (fun r5 M6 => ?_)
      refine s_iadd hX dX10_bookedIn_33 ?_
      refine s_istore3 hX dX10_bookedIn_34 (by first | exact trivial | exact rfl) (Nat.le_of_ble_eq_true rfl) ?_
      refine s_iinc4 (v := v3 + 1) hX dX10_bookedIn_35 rfl (by first | exact trivial | exact rfl) (Nat.le_of_ble_eq_true rfl) ?_
      refine s_goto (tgt := 7) hX dX10_bookedIn_38 rfl ?_
      exact s_back hB4
  · obtain ⟨M7, v8, v9⟩ := s
    dsimp only
    refine s_iload_n hX dX10_bookedIn_41 rfl ?_
    exact s_iret hX hR dX10_bookedIn_42 (Nat.le_of_ble_eq_true rfl) (Nat.le_of_ble_eq_true rfl)
abbrev rm_X10_adjustedBy : Room := { frames := 3, cells := 0, slots := 0, locals := 73 }
theorem k_X10_adjustedBy : KYV yX10_adjustedBy cX10_adjustedBy 4 (some .long) 3 := ⟨⟨q_1665, q_9, by decide +kernel, by decide +kernel, by decide +kernel⟩, q_1664, p_97⟩
set_option maxHeartbeats 4000000 in
set_option maxRecDepth 100000 in
theorem c_X10_adjustedBy (n : Nat) (M0 : MemT) (a0 : Nat) (a1 : Int32) (a2 : Int32) (a3 : Int32) : Ct iJ yX10_adjustedBy cX10_adjustedBy 4 (some .long) rm_X10_adjustedBy [.ref a0, .int a1, .int a2, .int a3] M0 (g_X10_adjustedBy n M0 a0 a1 a2 a3) := by
  unfold g_X10_adjustedBy
  refine ct_intro RX10 0 [some (.ref a0), some (.int a1), some (.int a2), some (.int a3)] rfl (by decide +kernel) rfl (Nat.le_of_ble_eq_true rfl) (fun X A hX hnm hR => ?_)
  refine s_aload_n hX dX10_adjustedBy_0 rfl ?_
  refine s_aload_n hX dX10_adjustedBy_1 rfl ?_
  refine s_iload_n hX dX10_adjustedBy_2 rfl ?_
  refine s_iconst (v := 3) hX dX10_adjustedBy_3 kc_3 ?_
  refine s_callVi (ck1 := 0) (sk1 := 0) (ci := 8) hX dX10_adjustedBy_4 k_X10_at q_1550 (c_X10_at n M0 a0 a1 3) (by decide) rfl rfl rfl ⟨Nat.le_of_ble_eq_true rfl, Nat.le_of_ble_eq_true rfl⟩ ⟨(Nat.le_of_ble_eq_true rfl), (Nat.le_of_ble_eq_true rfl)⟩ (Nat.le_of_ble_eq_true rfl) rfl rfl (fun r1 M2 => ?_)
  refine s_i2l hX dX10_adjustedBy_7 ?_
  refine s_iload_n hX dX10_adjustedBy_8 rfl ?_
  refine s_iload_n hX dX10_adjustedBy_9 rfl ?_
  refine s_isub hX dX10_adjustedBy_10 ?_
  refine s_i2l hX dX10_adjustedBy_11 ?_
  refine s_lmul hX dX10_adjustedBy_12 ?_
  refine s_aload_n hX dX10_adjustedBy_13 rfl ?_
  refine s_iload_n hX dX10_adjustedBy_14 rfl ?_
  refine s_iconst (v := 4) hX dX10_adjustedBy_15 kc_4 ?_
  refine s_callVi (ck1 := 0) (sk1 := 0) (ci := 8) hX dX10_adjustedBy_16 k_X10_at q_1550 (c_X10_at n M2 a0 a1 4) (by decide) rfl rfl rfl ⟨Nat.le_of_ble_eq_true rfl, Nat.le_of_ble_eq_true rfl⟩ ⟨(Nat.le_of_ble_eq_true rfl), (Nat.le_of_ble_eq_true rfl)⟩ (Nat.le_of_ble_eq_true rfl) rfl rfl (fun r3 M4 => ?_)
  refine s_i2l hX dX10_adjustedBy_19 ?_
  refine s_aload_n hX dX10_adjustedBy_20 rfl ?_
  refine s_getO hX dX10_adjustedBy_21 q_1323 rfl (fun j5 => ?_)
  refine s_iconst (v := 1) hX dX10_adjustedBy_24 kc_1 ?_
  refine s_iald hX dX10_adjustedBy_25 (fun v6 => ?_)
  refine s_i2l hX dX10_adjustedBy_26 ?_
  refine s_lmul hX dX10_adjustedBy_27 ?_
  refine s_callVj (ck1 := 0) (sk1 := 0) (ci := 8) hX dX10_adjustedBy_28 k_X10_cut q_1654 (c_X10_cut n M4 a0 ((Int32.toInt64 r1) * (Int32.toInt64 (a2 - a3))) ((Int32.toInt64 r3) * (Int32.toInt64 v6))) (by decide) rfl rfl rfl ⟨Nat.le_of_ble_eq_true rfl, Nat.le_of_ble_eq_true rfl⟩ ⟨(Nat.le_of_ble_eq_true rfl), (Nat.le_of_ble_eq_true rfl)⟩ (Nat.le_of_ble_eq_true rfl) rfl rfl (fun r7 M8 => ?_)
  exact s_lret hX hR dX10_adjustedBy_31 (Nat.le_of_ble_eq_true rfl) (Nat.le_of_ble_eq_true rfl)
