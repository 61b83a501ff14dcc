/-! ===== PURE 68: each call, both sides one after the other ===== -/
section M13
variable {M : MemT} {r s q : Nat} {P : Nat → Nat} {old cnt tl kp nt U : Int} {T tr sl bu as B Bi : Int → Int} {Bs : Nat → Int → Int} {n : Nat}
theorem r_fault (h : TOP M r s q P old cnt tl kp nt T tr sl bu as B Bi Bs U) (hU2 : U ≤ 99000000) (hn : 100000010 < n) (x1 : Int32) : RunsTo (fun M => g_X9_fault n M 0 x1) (fun M => g_X10_fault n M 139 x1) M (U + 100000) := by
  refine Q_run h hU2 (fun M' F S S' ho ha sm hX hM hT he => ?_)
  obtain ⟨⟨c1, c2, c3⟩, hr, ⟨f1, f2⟩, ⟨t1, t2, t3⟩, hI⟩ := hT.2.2.2.2.2.2.2.2.1
  refine Q_fault hX hM ⟨hT.1.2.2.1.1, hT.1.1.2.2.1⟩ ?_ ?_ x1
  · rw [he 139 4 (by unfold scr; omega), f1]
  · rw [he 139 5 (by unfold scr; omega), f2]
theorem r_named (h : TOP M r s q P old cnt tl kp nt T tr sl bu as B Bi Bs U) (hU2 : U ≤ 99000000) (hn : 100000010 < n) (x1 : Int32) : RunsTo (fun M => g_X9_named n M 0 x1) (fun M => g_X10_named n M 139 x1) M (U + 100000) := by
  exact Q_run h hU2 (fun M' F S S' ho ha sm hX hM hT he => Q_named hX hM (by omega) x1)
theorem r_asset (h : TOP M r s q P old cnt tl kp nt T tr sl bu as B Bi Bs U) (hU2 : U ≤ 99000000) (hn : 100000010 < n) (x1 x2 : Int32) : RunsTo (fun M => g_X9_asset n M 0 x1 x2) (fun M => g_X10_asset n M 139 x1 x2) M (U + 100000) := by
  obtain ⟨y1, rfl, a1, b1⟩ := zi_ex x1
  obtain ⟨y2, rfl, a2, b2⟩ := zi_ex x2
  exact Q_run h hU2 (fun M' F S S' ho ha sm hX hM hT he => Q_asset hX hM (by omega) a1 b1 a2 b2)
theorem r_sale (h : TOP M r s q P old cnt tl kp nt T tr sl bu as B Bi Bs U) (hU2 : U ≤ 99000000) (hn : 100000010 < n) (x1 x2 x3 : Int32) : RunsTo (fun M => g_X9_sale n M 0 x1 x2 x3) (fun M => g_X10_sale n M 139 x1 x2 x3) M (U + 100000) := by
  obtain ⟨y1, rfl, a1, b1⟩ := zi_ex x1
  obtain ⟨y2, rfl, a2, b2⟩ := zi_ex x2
  obtain ⟨y3, rfl, a3, b3⟩ := zi_ex x3
  exact P_run h (by omega) hU2 (fun Mx M' Mu F S S' ho ha sm h1 h2 h3 h4 h5 => P_sale h1 h2 h3 h4 h5 (by omega) hU2 a1 b1 a2 b2 a3 b3)
theorem r_buy (h : TOP M r s q P old cnt tl kp nt T tr sl bu as B Bi Bs U) (hU2 : U ≤ 99000000) (hn : 100000010 < n) (x1 x2 x3 : Int32) : RunsTo (fun M => g_X9_buy n M 0 x1 x2 x3) (fun M => g_X10_buy n M 139 x1 x2 x3) M (U + 100000) := by
  obtain ⟨y1, rfl, a1, b1⟩ := zi_ex x1
  obtain ⟨y2, rfl, a2, b2⟩ := zi_ex x2
  obtain ⟨y3, rfl, a3, b3⟩ := zi_ex x3
  exact P_run h (by omega) hU2 (fun Mx M' Mu F S S' ho ha sm h1 h2 h3 h4 h5 => P_buy h1 h2 h3 h4 h5 (by omega) hU2 a1 b1 a2 b2 a3 b3)
theorem r_late (h : TOP M r s q P old cnt tl kp nt T tr sl bu as B Bi Bs U) (hU2 : U ≤ 99000000) (hn : 100000010 < n) (x1 x2 x3 x4 : Int32) : RunsTo (fun M => g_X9_late n M 0 x1 x2 x3 x4) (fun M => g_X10_late n M 139 x1 x2 x3 x4) M (U + 100000) := by
  obtain ⟨y1, rfl, a1, b1⟩ := zi_ex x1
  obtain ⟨y2, rfl, a2, b2⟩ := zi_ex x2
  obtain ⟨y3, rfl, a3, b3⟩ := zi_ex x3
  obtain ⟨y4, rfl, a4, b4⟩ := zi_ex x4
  exact P_run h (by omega) hU2 (fun Mx M' Mu F S S' ho ha sm h1 h2 h3 h4 h5 => P_late h1 h2 h3 h4 h5 (by omega) hU2 a1 b1 a2 b2 a3 b3 a4 b4)
theorem r_heads (h : TOP M r s q P old cnt tl kp nt T tr sl bu as B Bi Bs U) (hU2 : U ≤ 99000000) (hn : 100000010 < n) (x1 x2 x3 : Int32) : RunsTo (fun M => g_X9_heads n M 0 x1 x2 x3) (fun M => g_X10_heads n M 139 x1 x2 x3) M (U + 100000) := by
  obtain ⟨y1, rfl, a1, b1⟩ := zi_ex x1
  obtain ⟨y2, rfl, a2, b2⟩ := zi_ex x2
  obtain ⟨y3, rfl, a3, b3⟩ := zi_ex x3
  exact P_run h (by omega) hU2 (fun Mx M' Mu F S S' ho ha sm h1 h2 h3 h4 h5 => P_heads h1 h2 h3 h4 h5 (by omega) hU2 a1 b1 a2 b2 a3 b3)
theorem r_acquire (h : TOP M r s q P old cnt tl kp nt T tr sl bu as B Bi Bs U) (hU2 : U ≤ 99000000) (hn : 100000010 < n) (x1 x2 x3 x4 : Int32) : RunsTo (fun M => g_X9_acquire n M 0 x1 x2 x3 x4) (fun M => g_X10_acquire n M 139 x1 x2 x3 x4) M (U + 100000) := by
  obtain ⟨y1, rfl, a1, b1⟩ := zi_ex x1
  obtain ⟨y2, rfl, a2, b2⟩ := zi_ex x2
  obtain ⟨y3, rfl, a3, b3⟩ := zi_ex x3
  obtain ⟨y4, rfl, a4, b4⟩ := zi_ex x4
  exact P_run h (by omega) hU2 (fun Mx M' Mu F S S' ho ha sm h1 h2 h3 h4 h5 => P_acquire h1 h2 h3 h4 h5 (by omega) hU2 a1 b1 a2 b2 a3 b3 a4 b4)
theorem r_use (h : TOP M r s q P old cnt tl kp nt T tr sl bu as B Bi Bs U) (hU2 : U ≤ 99000000) (hn : 100000010 < n) (x1 x2 : Int32) : RunsTo (fun M => g_X9_use n M 0 x1 x2) (fun M => g_X10_use n M 139 x1 x2) M (U + 100000) := by
  obtain ⟨y1, rfl, a1, b1⟩ := zi_ex x1
  obtain ⟨y2, rfl, a2, b2⟩ := zi_ex x2
  exact P_run h (by omega) hU2 (fun Mx M' Mu F S S' ho ha sm h1 h2 h3 h4 h5 => P_use h1 h2 h3 h4 h5 (by omega) hU2 a1 b1 a2 b2)
theorem r_sell (h : TOP M r s q P old cnt tl kp nt T tr sl bu as B Bi Bs U) (hU2 : U ≤ 99000000) (hn : 100000010 < n) (x1 x2 x3 : Int32) : RunsTo (fun M => g_X9_sell n M 0 x1 x2 x3) (fun M => g_X10_sell n M 139 x1 x2 x3) M (U + 100000) := by
  obtain ⟨y1, rfl, a1, b1⟩ := zi_ex x1
  obtain ⟨y2, rfl, a2, b2⟩ := zi_ex x2
  obtain ⟨y3, rfl, a3, b3⟩ := zi_ex x3
  exact P_run h (by omega) hU2 (fun Mx M' Mu F S S' ho ha sm h1 h2 h3 h4 h5 => P_sell h1 h2 h3 h4 h5 (by omega) hU2 a1 b1 a2 b2 a3 b3)
theorem r_hand (h : TOP M r s q P old cnt tl kp nt T tr sl bu as B Bi Bs U) (hU2 : U ≤ 99000000) (hn : 100000010 < n) (x1 x2 : Int32) : RunsTo (fun M => g_X9_hand n M 0 x1 x2) (fun M => g_X10_hand n M 139 x1 x2) M (U + 100000) := by
  obtain ⟨y1, rfl, a1, b1⟩ := zi_ex x1
  obtain ⟨y2, rfl, a2, b2⟩ := zi_ex x2
  exact P_run h (by omega) hU2 (fun Mx M' Mu F S S' ho ha sm h1 h2 h3 h4 h5 => P_hand h1 h2 h3 h4 h5 (by omega) hU2 a1 b1 a2 b2)
theorem r_close (h : TOP M r s q P old cnt tl kp nt T tr sl bu as B Bi Bs U) (hU2 : U ≤ 99000000) (hn : 100000010 < n) (x1 : Int32) : RunsTo (fun M => g_X9_close n M 0 x1) (fun M => g_X10_close n M 139 x1) M (U + 100000) := by
  obtain ⟨y1, rfl, a1, b1⟩ := zi_ex x1
  exact P_run h (by omega) hU2 (fun Mx M' Mu F S S' ho ha sm h1 h2 h3 h4 h5 => P_close h1 h2 h3 h4 h5 (by omega) hU2 h.2.2.1.2.2.2.2.1 a1 b1)
theorem r_sum (h : TOP M r s q P old cnt tl kp nt T tr sl bu as B Bi Bs U) (hU2 : U ≤ 99000000) (hn : 100000010 < n) (x1 x2 x3 : Int32) : RunsTo (fun M => g_X9_sum n M 0 x1 x2 x3) (fun M => g_X10_sum n M 139 x1 x2 x3) M (U + 100000) := by
  obtain ⟨y1, rfl, a1, b1⟩ := zi_ex x1
  obtain ⟨y2, rfl, a2, b2⟩ := zi_ex x2
  obtain ⟨y3, rfl, a3, b3⟩ := zi_ex x3
  exact Q_run h hU2 (fun M' F S S' ho ha sm hX hM hT he => Q_sum hX hM a1 b1 a2 b2 a3 b3)
theorem r_provisional (h : TOP M r s q P old cnt tl kp nt T tr sl bu as B Bi Bs U) (hU2 : U ≤ 99000000) (hn : 100000010 < n) (x1 x2 : Int32) : RunsTo (fun M => g_X9_provisional n M 0 x1 x2) (fun M => g_X10_provisional n M 139 x1 x2) M (U + 100000) := by
  obtain ⟨y1, rfl, a1, b1⟩ := zi_ex x1
  obtain ⟨y2, rfl, a2, b2⟩ := zi_ex x2
  exact Q_run h hU2 (fun M' F S S' ho ha sm hX hM hT he => Q_provisional hX hM (by omega) a1 b1 a2 b2)
theorem r_recovered (h : TOP M r s q P old cnt tl kp nt T tr sl bu as B Bi Bs U) (hU2 : U ≤ 99000000) (hn : 100000010 < n) (x1 x2 : Int32) : RunsTo (fun M => g_X9_recovered n M 0 x1 x2) (fun M => g_X10_recovered n M 139 x1 x2) M (U + 100000) := by
  obtain ⟨y1, rfl, a1, b1⟩ := zi_ex x1
  obtain ⟨y2, rfl, a2, b2⟩ := zi_ex x2
  exact Q_run h hU2 (fun M' F S S' ho ha sm hX hM hT he => Q_recovered hX hM a1 b1 a2 b2)
theorem r_annual (h : TOP M r s q P old cnt tl kp nt T tr sl bu as B Bi Bs U) (hU2 : U ≤ 99000000) (hn : 100000010 < n) (x1 x2 x3 : Int32) : RunsTo (fun M => g_X9_annual n M 0 x1 x2 x3) (fun M => g_X10_annual n M 139 x1 x2 x3) M (U + 100000) := by
  obtain ⟨y1, rfl, a1, b1⟩ := zi_ex x1
  obtain ⟨y2, rfl, a2, b2⟩ := zi_ex x2
  obtain ⟨y3, rfl, a3, b3⟩ := zi_ex x3
  exact Q_run h hU2 (fun M' F S S' ho ha sm hX hM hT he => Q_annual hX hM (by omega) a1 b1 a2 b2 a3 b3)
theorem r_interval (h : TOP M r s q P old cnt tl kp nt T tr sl bu as B Bi Bs U) (hU2 : U ≤ 99000000) (hn : 100000010 < n) (x1 x2 x3 : Int32) : RunsTo (fun M => g_X9_interval n M 0 x1 x2 x3) (fun M => g_X10_interval n M 139 x1 x2 x3) M (U + 100000) := by
  obtain ⟨y1, rfl, a1, b1⟩ := zi_ex x1
  obtain ⟨y2, rfl, a2, b2⟩ := zi_ex x2
  obtain ⟨y3, rfl, a3, b3⟩ := zi_ex x3
  exact Q_run h hU2 (fun M' F S S' ho ha sm hX hM hT he => Q_interval hX hM a1 b1 a2 b2 a3 b3)
theorem r_taken (h : TOP M r s q P old cnt tl kp nt T tr sl bu as B Bi Bs U) (hU2 : U ≤ 99000000) (hn : 100000010 < n) (x1 : Int32) : RunsTo (fun M => g_X9_taken n M 0 x1) (fun M => g_X10_taken n M 139 x1) M (U + 100000) := by
  obtain ⟨y1, rfl, a1, b1⟩ := zi_ex x1
  exact Q_run h hU2 (fun M' F S S' ho ha sm hX hM hT he => Q_taken hX hM a1 b1)
theorem r_last (h : TOP M r s q P old cnt tl kp nt T tr sl bu as B Bi Bs U) (hU2 : U ≤ 99000000) (hn : 100000010 < n) (x1 : Int32) : RunsTo (fun M => g_X9_last n M 0 x1) (fun M => g_X10_last n M 139 x1) M (U + 100000) := by
  obtain ⟨y1, rfl, a1, b1⟩ := zi_ex x1
  exact Q_run h hU2 (fun M' F S S' ho ha sm hX hM hT he => Q_last hX hM a1 b1)
theorem r_booked (h : TOP M r s q P old cnt tl kp nt T tr sl bu as B Bi Bs U) (hU2 : U ≤ 99000000) (hn : 100000010 < n) (x1 x2 : Int32) : RunsTo (fun M => g_X9_booked n M 0 x1 x2) (fun M => g_X10_booked n M 139 x1 x2) M (U + 100000) := by
  obtain ⟨y1, rfl, a1, b1⟩ := zi_ex x1
  obtain ⟨y2, rfl, a2, b2⟩ := zi_ex x2
  exact Q_run h hU2 (fun M' F S S' ho ha sm hX hM hT he => Q_booked hX hM a1 b1 a2 b2)
theorem r_total (h : TOP M r s q P old cnt tl kp nt T tr sl bu as B Bi Bs U) (hU2 : U ≤ 99000000) (hn : 100000010 < n) (x1 x2 : Int32) : RunsTo (fun M => g_X9_total n M 0 x1 x2) (fun M => g_X10_total n M 139 x1 x2) M (U + 100000) := by
  obtain ⟨y1, rfl, a1, b1⟩ := zi_ex x1
  obtain ⟨y2, rfl, a2, b2⟩ := zi_ex x2
  exact Q_run h hU2 (fun M' F S S' ho ha sm hX hM hT he => Q_total hX hM a1 b1 a2 b2)
theorem r_by (h : TOP M r s q P old cnt tl kp nt T tr sl bu as B Bi Bs U) (hU2 : U ≤ 99000000) (hn : 100000010 < n) (x1 x2 x3 x4 x5 : Int32) : RunsTo (fun M => g_X9_by n M 0 x1 x2 x3 x4 x5) (fun M => g_X10_by n M 139 x1 x2 x3 x4 x5) M (U + 100000) := by
  obtain ⟨y1, rfl, a1, b1⟩ := zi_ex x1
  obtain ⟨y2, rfl, a2, b2⟩ := zi_ex x2
  obtain ⟨y3, rfl, a3, b3⟩ := zi_ex x3
  obtain ⟨y4, rfl, a4, b4⟩ := zi_ex x4
  obtain ⟨y5, rfl, a5, b5⟩ := zi_ex x5
  exact Q_run h hU2 (fun M' F S S' ho ha sm hX hM hT he => Q_by hX hM (by omega) a1 b1 a2 b2 a3 b3 a4 b4 a5 b5)
theorem r_bestMethod (h : TOP M r s q P old cnt tl kp nt T tr sl bu as B Bi Bs U) (hU2 : U ≤ 99000000) (hn : 100000010 < n) (x1 x2 : Int32) : RunsTo (fun M => g_X9_bestMethod n M 0 x1 x2) (fun M => g_X10_bestMethod n M 139 x1 x2) M (U + 100000) := by
  obtain ⟨y1, rfl, a1, b1⟩ := zi_ex x1
  obtain ⟨y2, rfl, a2, b2⟩ := zi_ex x2
  exact Q_run h hU2 (fun M' F S S' ho ha sm hX hM hT he => Q_bestMethod hX hM (by omega) a1 b1 a2 b2)
theorem r_bestStep (h : TOP M r s q P old cnt tl kp nt T tr sl bu as B Bi Bs U) (hU2 : U ≤ 99000000) (hn : 100000010 < n) (x1 x2 : Int32) : RunsTo (fun M => g_X9_bestStep n M 0 x1 x2) (fun M => g_X10_bestStep n M 139 x1 x2) M (U + 100000) := by
  obtain ⟨y1, rfl, a1, b1⟩ := zi_ex x1
  obtain ⟨y2, rfl, a2, b2⟩ := zi_ex x2
  exact Q_run h hU2 (fun M' F S S' ho ha sm hX hM hT he => Q_bestStep hX hM (by omega) a1 b1 a2 b2)
theorem r_joint (h : TOP M r s q P old cnt tl kp nt T tr sl bu as B Bi Bs U) (hU2 : U ≤ 99000000) (hn : 100000010 < n) (x1 x2 x3 : Int32) : RunsTo (fun M => g_X9_joint n M 0 x1 x2 x3) (fun M => g_X10_joint n M 139 x1 x2 x3) M (U + 100000) := by
  obtain ⟨y1, rfl, a1, b1⟩ := zi_ex x1
  obtain ⟨y2, rfl, a2, b2⟩ := zi_ex x2
  obtain ⟨y3, rfl, a3, b3⟩ := zi_ex x3
  exact Q_run h hU2 (fun M' F S S' ho ha sm hX hM hT he => Q_joint hX hM (by omega) a1 b1 a2 b2 a3 b3)
theorem r_limitFor (h : TOP M r s q P old cnt tl kp nt T tr sl bu as B Bi Bs U) (hU2 : U ≤ 99000000) (hn : 100000010 < n) (x1 x2 : Int32) : RunsTo (fun M => g_X9_limitFor n M 0 x1 x2) (fun M => g_X10_limitFor n M 139 x1 x2) M (U + 100000) := by
  obtain ⟨y1, rfl, a1, b1⟩ := zi_ex x1
  obtain ⟨y2, rfl, a2, b2⟩ := zi_ex x2
  exact Q_run h hU2 (fun M' F S S' ho ha sm hX hM hT he => Q_limitFor hX hM (by omega) a1 b1 a2 b2)
theorem r_byBasis (h : TOP M r s q P old cnt tl kp nt T tr sl bu as B Bi Bs U) (hU2 : U ≤ 99000000) (hn : 100000010 < n) (x1 x2 x3 : Int32) : RunsTo (fun M => g_X9_byBasis n M 0 x1 x2 x3) (fun M => g_X10_byBasis n M 139 x1 x2 x3) M (U + 100000) := by
  obtain ⟨y1, rfl, a1, b1⟩ := zi_ex x1
  obtain ⟨y2, rfl, a2, b2⟩ := zi_ex x2
  obtain ⟨y3, rfl, a3, b3⟩ := zi_ex x3
  exact Q_run h hU2 (fun M' F S S' ho ha sm hX hM hT he => Q_byBasis hX hM (by omega) a1 b1 a2 b2 a3 b3)
theorem r_leader (h : TOP M r s q P old cnt tl kp nt T tr sl bu as B Bi Bs U) (hU2 : U ≤ 99000000) (hn : 100000010 < n) (x1 : Int32) : RunsTo (fun M => g_X9_leader n M 0 x1) (fun M => g_X10_leader n M 139 x1) M (U + 100000) := by
  obtain ⟨y1, rfl, a1, b1⟩ := zi_ex x1
  exact Q_run h hU2 (fun M' F S S' ho ha sm hX hM hT he => Q_leader hX hM (by omega) a1 b1)
theorem r_rise (h : TOP M r s q P old cnt tl kp nt T tr sl bu as B Bi Bs U) (hU2 : U ≤ 99000000) (hn : 100000010 < n) (x1 : Int32) : RunsTo (fun M => g_X9_rise n M 0 x1) (fun M => g_X10_rise n M 139 x1) M (U + 100000) := by
  obtain ⟨y1, rfl, a1, b1⟩ := zi_ex x1
  exact Q_run h hU2 (fun M' F S S' ho ha sm hX hM hT he => Q_rise hX hM (by omega) a1 b1)
theorem r_need (h : TOP M r s q P old cnt tl kp nt T tr sl bu as B Bi Bs U) (hU2 : U ≤ 99000000) (hn : 100000010 < n) (x1 x2 : Int32) : RunsTo (fun M => g_X9_need n M 0 x1 x2) (fun M => g_X10_need n M 139 x1 x2) M (U + 100000) := by
  obtain ⟨y1, rfl, a1, b1⟩ := zi_ex x1
  obtain ⟨y2, rfl, a2, b2⟩ := zi_ex x2
  exact Q_run h hU2 (fun M' F S S' ho ha sm hX hM hT he => Q_need hX hM (by omega) a1 b1 a2 b2)
theorem r_room (h : TOP M r s q P old cnt tl kp nt T tr sl bu as B Bi Bs U) (hU2 : U ≤ 99000000) (hn : 100000010 < n) (x1 x2 : Int32) : RunsTo (fun M => g_X9_room n M 0 x1 x2) (fun M => g_X10_room n M 139 x1 x2) M (U + 100000) := by
  obtain ⟨y1, rfl, a1, b1⟩ := zi_ex x1
  obtain ⟨y2, rfl, a2, b2⟩ := zi_ex x2
  exact Q_run h hU2 (fun M' F S S' ho ha sm hX hM hT he => Q_room hX hM (by omega) a1 b1 a2 b2)
theorem r_would (h : TOP M r s q P old cnt tl kp nt T tr sl bu as B Bi Bs U) (hU2 : U ≤ 99000000) (hn : 100000010 < n) (x1 x2 : Int32) : RunsTo (fun M => g_X9_would n M 0 x1 x2) (fun M => g_X10_would n M 139 x1 x2) M (U + 100000) := by
  obtain ⟨y1, rfl, a1, b1⟩ := zi_ex x1
  obtain ⟨y2, rfl, a2, b2⟩ := zi_ex x2
  exact Q_run h hU2 (fun M' F S S' ho ha sm hX hM hT he => Q_would hX hM (by omega) a1 b1 a2 b2)
theorem r_bestWait (h : TOP M r s q P old cnt tl kp nt T tr sl bu as B Bi Bs U) (hU2 : U ≤ 99000000) (hn : 100000010 < n) (x1 x2 : Int32) : RunsTo (fun M => g_X9_bestWait n M 0 x1 x2) (fun M => g_X10_bestWait n M 139 x1 x2) M (U + 100000) := by
  obtain ⟨y1, rfl, a1, b1⟩ := zi_ex x1
  obtain ⟨y2, rfl, a2, b2⟩ := zi_ex x2
  exact Q_run h hU2 (fun M' F S S' ho ha sm hX hM hT he => Q_bestWait hX hM (by omega) a1 b1 a2 b2)
theorem r_project (h : TOP M r s q P old cnt tl kp nt T tr sl bu as B Bi Bs U) (hU2 : U ≤ 99000000) (hn : 100000010 < n) (x1 x2 : Int32) : RunsTo (fun M => g_X9_project n M 0 x1 x2) (fun M => g_X10_project n M 139 x1 x2) M (U + 100000) := by
  obtain ⟨y1, rfl, a1, b1⟩ := zi_ex x1
  obtain ⟨y2, rfl, a2, b2⟩ := zi_ex x2
  exact Q_run h hU2 (fun M' F S S' ho ha sm hX hM hT he => Q_project hX hM (by omega) a1 b1 a2 b2)
theorem r_ifUse (h : TOP M r s q P old cnt tl kp nt T tr sl bu as B Bi Bs U) (hU2 : U ≤ 99000000) (hn : 100000010 < n) (x1 x2 : Int32) : RunsTo (fun M => g_X9_ifUse n M 0 x1 x2) (fun M => g_X10_ifUse n M 139 x1 x2) M (U + 100000) := by
  obtain ⟨y1, rfl, a1, b1⟩ := zi_ex x1
  obtain ⟨y2, rfl, a2, b2⟩ := zi_ex x2
  exact Q_run h hU2 (fun M' F S S' ho ha sm hX hM hT he => Q_ifUse hX hM (by omega) a1 b1 a2 b2)
theorem r_owners (h : TOP M r s q P old cnt tl kp nt T tr sl bu as B Bi Bs U) (hU2 : U ≤ 99000000) (hn : 100000010 < n) (x1 : Int32) : RunsTo (fun M => g_X9_owners n M 0 x1) (fun M => g_X10_owners n M 139 x1) M (U + 100000) := by
  obtain ⟨y1, rfl, a1, b1⟩ := zi_ex x1
  exact Q_run h hU2 (fun M' F S S' ho ha sm hX hM hT he => Q_owners hX hM (by omega) a1 b1)
theorem r_even (h : TOP M r s q P old cnt tl kp nt T tr sl bu as B Bi Bs U) (hU2 : U ≤ 99000000) (hn : 100000010 < n) (x1 x2 : Int32) : RunsTo (fun M => g_X9_even n M 0 x1 x2) (fun M => g_X10_even n M 139 x1 x2) M (U + 100000) := by
  obtain ⟨y1, rfl, a1, b1⟩ := zi_ex x1
  obtain ⟨y2, rfl, a2, b2⟩ := zi_ex x2
  exact Q_run h hU2 (fun M' F S S' ho ha sm hX hM hT he => Q_even hX hM (by omega) a1 b1 a2 b2)
theorem r_worth (h : TOP M r s q P old cnt tl kp nt T tr sl bu as B Bi Bs U) (hU2 : U ≤ 99000000) (hn : 100000010 < n) (x1 : Int32) : RunsTo (fun M => g_X9_worth n M 0 x1) (fun M => g_X10_worth n M 139 x1) M (U + 100000) := by
  obtain ⟨y1, rfl, a1, b1⟩ := zi_ex x1
  exact Q_run h hU2 (fun M' F S S' ho ha sm hX hM hT he => Q_worth hX hM (by omega) a1 b1)
theorem r_farthest (h : TOP M r s q P old cnt tl kp nt T tr sl bu as B Bi Bs U) (hU2 : U ≤ 99000000) (hn : 100000010 < n) (x1 : Int32) : RunsTo (fun M => g_X9_farthest n M 0 x1) (fun M => g_X10_farthest n M 139 x1) M (U + 100000) := by
  obtain ⟨y1, rfl, a1, b1⟩ := zi_ex x1
  exact Q_run h hU2 (fun M' F S S' ho ha sm hX hM hT he => Q_farthest hX hM (by omega) a1 b1)
theorem r_count (h : TOP M r s q P old cnt tl kp nt T tr sl bu as B Bi Bs U) (hU2 : U ≤ 99000000) (hn : 100000010 < n) (x1 : Int32) : RunsTo (fun M => g_X9_count n M 0 x1) (fun M => g_X10_count n M 139 x1) M (U + 100000) := by
  refine Q_run h hU2 (fun M' F S S' ho ha sm hX hM hT he => ?_)
  obtain ⟨⟨c1, c2, c3⟩, hr, ⟨f1, f2⟩, ⟨t1, t2, t3⟩, hI⟩ := hT.2.2.2.2.2.2.2.2.1
  refine Q_count hX hM (by omega) (p := 137) ⟨hT.2.1.1.2.1, hT.2.1.2.1.1⟩ (by omega) ?_ ?_ x1
  · rw [he 139 22 (by unfold scr; omega), c1, c3]
  · rw [he 139 1 (by unfold scr; omega), t1, t2]
end M13
section M13L
variable {M : MemT} {n L : Nat} {sc : Nat → Int32} {i V : Int}
theorem law_ix (h0 : 0 ≤ i) (h1 : i + 6 ≤ L) (hL : L ≤ 3072) {j : Int} (j0 : 0 ≤ j) (j1 : j < 6) : ¬ (zi i + zi j < 0 ∨ L ≤ (zi i + zi j).toNatClampNeg) := by
  rw [zi_add]
  show ¬ (zi (i + j) < zi 0 ∨ _)
  rw [zi_lt (by omega) (by omega) (by omega) (by omega), zi_tn (by omega) (by omega)]
  omega
theorem lw_0 (hk : mK M 0 = 7) (h0 : 0 ≤ i) (h1 : i + 6 ≤ L) (hL : L ≤ 3072) (h : RunsTo (fun M => g_X9_feed n M 0 (sc (zi i + 1).toNatClampNeg) (sc (zi i + 2).toNatClampNeg) (sc (zi i + 3).toNatClampNeg) (sc (zi i + 4).toNatClampNeg) (sc (zi i + 5).toNatClampNeg)) (fun M => g_X10_feed n M 139 (sc (zi i + 1).toNatClampNeg) (sc (zi i + 2).toNatClampNeg) (sc (zi i + 3).toNatClampNeg) (sc (zi i + 4).toNatClampNeg) (sc (zi i + 5).toNatClampNeg)) M V) : ∃ M2, g_law_c0 n L sc 0 139 149 M (zi i) = some (.inl (M2, zi (i + 6))) ∧ TopE M2 V := by
  obtain ⟨v, M1, M2, g1, k1, g2, g3⟩ := h
  refine ⟨M2, ?_, g3⟩
  have i1 := law_ix (i := i) (j := 1) h0 h1 hL (by omega) (by omega)
  have i2 := law_ix (i := i) (j := 2) h0 h1 hL (by omega) (by omega)
  have i3 := law_ix (i := i) (j := 3) h0 h1 hL (by omega) (by omega)
  have i4 := law_ix (i := i) (j := 4) h0 h1 hL (by omega) (by omega)
  have i5 := law_ix (i := i) (j := 5) h0 h1 hL (by omega) (by omega)
  dsimp only at g1 g2
  unfold g_law_c0
  rw [if_neg (show ¬ (zi i + 1 < 0 ∨ L ≤ (zi i + 1).toNatClampNeg) from i1)]
  rw [if_neg (show ¬ (zi i + 2 < 0 ∨ L ≤ (zi i + 2).toNatClampNeg) from i2)]
  rw [if_neg (show ¬ (zi i + 3 < 0 ∨ L ≤ (zi i + 3).toNatClampNeg) from i3)]
  rw [if_neg (show ¬ (zi i + 4 < 0 ∨ L ≤ (zi i + 4).toNatClampNeg) from i4)]
  rw [if_neg (show ¬ (zi i + 5 < 0 ∨ L ≤ (zi i + 5).toNatClampNeg) from i5)]
  rw [i_chk hk, g1, i_bd]
  rw [if_neg (show ¬ (zi i + 1 < 0 ∨ L ≤ (zi i + 1).toNatClampNeg) from i1)]
  rw [if_neg (show ¬ (zi i + 2 < 0 ∨ L ≤ (zi i + 2).toNatClampNeg) from i2)]
  rw [if_neg (show ¬ (zi i + 3 < 0 ∨ L ≤ (zi i + 3).toNatClampNeg) from i3)]
  rw [if_neg (show ¬ (zi i + 4 < 0 ∨ L ≤ (zi i + 4).toNatClampNeg) from i4)]
  rw [if_neg (show ¬ (zi i + 5 < 0 ∨ L ≤ (zi i + 5).toNatClampNeg) from i5)]
  rw [i_chk k1, g2, i_bd, if_pos rfl, show zi i + 6 = zi (i + 6) from zi_add i 6]
theorem lw_1 (hk : mK M 0 = 7) (h0 : 0 ≤ i) (h1 : i + 6 ≤ L) (hL : L ≤ 3072) (h : RunsTo (fun M => g_X9_text n M 0 (sc (zi i + 1).toNatClampNeg)) (fun M => g_X10_text n M 139 (sc (zi i + 1).toNatClampNeg)) M V) : ∃ M2, g_law_c1 n L sc 0 139 149 M (zi i) = some (.inl (M2, zi (i + 6))) ∧ TopE M2 V := by
  obtain ⟨v, M1, M2, g1, k1, g2, g3⟩ := h
  refine ⟨M2, ?_, g3⟩
  have i1 := law_ix (i := i) (j := 1) h0 h1 hL (by omega) (by omega)
  dsimp only at g1 g2
  unfold g_law_c1
  rw [if_neg (show ¬ (zi i + 1 < 0 ∨ L ≤ (zi i + 1).toNatClampNeg) from i1)]
  rw [i_chk hk, g1, i_bd]
  rw [if_neg (show ¬ (zi i + 1 < 0 ∨ L ≤ (zi i + 1).toNatClampNeg) from i1)]
  rw [i_chk k1, g2, i_bd, if_pos rfl, show zi i + 6 = zi (i + 6) from zi_add i 6]
theorem lw_2 (hk : mK M 0 = 7) (h0 : 0 ≤ i) (h1 : i + 6 ≤ L) (hL : L ≤ 3072) (h : RunsTo (fun M => g_X9_fault n M 0 (sc (zi i + 1).toNatClampNeg)) (fun M => g_X10_fault n M 139 (sc (zi i + 1).toNatClampNeg)) M V) : ∃ M2, g_law_c2 n L sc 0 139 149 M (zi i) = some (.inl (M2, zi (i + 6))) ∧ TopE M2 V := by
  obtain ⟨v, M1, M2, g1, k1, g2, g3⟩ := h
  refine ⟨M2, ?_, g3⟩
  have i1 := law_ix (i := i) (j := 1) h0 h1 hL (by omega) (by omega)
  dsimp only at g1 g2
  unfold g_law_c2
  rw [if_neg (show ¬ (zi i + 1 < 0 ∨ L ≤ (zi i + 1).toNatClampNeg) from i1)]
  rw [i_chk hk, g1, i_bd]
  rw [if_neg (show ¬ (zi i + 1 < 0 ∨ L ≤ (zi i + 1).toNatClampNeg) from i1)]
  rw [i_chk k1, g2, i_bd, if_pos rfl, show zi i + 6 = zi (i + 6) from zi_add i 6]
theorem lw_3 (hk : mK M 0 = 7) (h0 : 0 ≤ i) (h1 : i + 6 ≤ L) (hL : L ≤ 3072) (h : RunsTo (fun M => g_X9_named n M 0 (sc (zi i + 1).toNatClampNeg)) (fun M => g_X10_named n M 139 (sc (zi i + 1).toNatClampNeg)) M V) : ∃ M2, g_law_c3 n L sc 0 139 149 M (zi i) = some (.inl (M2, zi (i + 6))) ∧ TopE M2 V := by
  obtain ⟨v, M1, M2, g1, k1, g2, g3⟩ := h
  refine ⟨M2, ?_, g3⟩
  have i1 := law_ix (i := i) (j := 1) h0 h1 hL (by omega) (by omega)
  dsimp only at g1 g2
  unfold g_law_c3
  rw [if_neg (show ¬ (zi i + 1 < 0 ∨ L ≤ (zi i + 1).toNatClampNeg) from i1)]
  rw [i_chk hk, g1, i_bd]
  rw [if_neg (show ¬ (zi i + 1 < 0 ∨ L ≤ (zi i + 1).toNatClampNeg) from i1)]
  rw [i_chk k1, g2, i_bd, if_pos rfl, show zi i + 6 = zi (i + 6) from zi_add i 6]
theorem lw_5 (hk : mK M 0 = 7) (h0 : 0 ≤ i) (h1 : i + 6 ≤ L) (hL : L ≤ 3072) (h : RunsTo (fun M => g_X9_asset n M 0 (sc (zi i + 1).toNatClampNeg) (sc (zi i + 2).toNatClampNeg)) (fun M => g_X10_asset n M 139 (sc (zi i + 1).toNatClampNeg) (sc (zi i + 2).toNatClampNeg)) M V) : ∃ M2, g_law_c5 n L sc 0 139 149 M (zi i) = some (.inl (M2, zi (i + 6))) ∧ TopE M2 V := by
  obtain ⟨v, M1, M2, g1, k1, g2, g3⟩ := h
  refine ⟨M2, ?_, g3⟩
  have i1 := law_ix (i := i) (j := 1) h0 h1 hL (by omega) (by omega)
  have i2 := law_ix (i := i) (j := 2) h0 h1 hL (by omega) (by omega)
  dsimp only at g1 g2
  unfold g_law_c5
  rw [if_neg (show ¬ (zi i + 1 < 0 ∨ L ≤ (zi i + 1).toNatClampNeg) from i1)]
  rw [if_neg (show ¬ (zi i + 2 < 0 ∨ L ≤ (zi i + 2).toNatClampNeg) from i2)]
  rw [i_chk hk, g1, i_bd]
  rw [if_neg (show ¬ (zi i + 1 < 0 ∨ L ≤ (zi i + 1).toNatClampNeg) from i1)]
  rw [if_neg (show ¬ (zi i + 2 < 0 ∨ L ≤ (zi i + 2).toNatClampNeg) from i2)]
  rw [i_chk k1, g2, i_bd, if_pos rfl, show zi i + 6 = zi (i + 6) from zi_add i 6]
theorem lw_6 (hk : mK M 0 = 7) (h0 : 0 ≤ i) (h1 : i + 6 ≤ L) (hL : L ≤ 3072) (h : RunsTo (fun M => g_X9_sale n M 0 (sc (zi i + 1).toNatClampNeg) (sc (zi i + 2).toNatClampNeg) (sc (zi i + 3).toNatClampNeg)) (fun M => g_X10_sale n M 139 (sc (zi i + 1).toNatClampNeg) (sc (zi i + 2).toNatClampNeg) (sc (zi i + 3).toNatClampNeg)) M V) : ∃ M2, g_law_c6 n L sc 0 139 149 M (zi i) = some (.inl (M2, zi (i + 6))) ∧ TopE M2 V := by
  obtain ⟨v, M1, M2, g1, k1, g2, g3⟩ := h
  refine ⟨M2, ?_, g3⟩
  have i1 := law_ix (i := i) (j := 1) h0 h1 hL (by omega) (by omega)
  have i2 := law_ix (i := i) (j := 2) h0 h1 hL (by omega) (by omega)
  have i3 := law_ix (i := i) (j := 3) h0 h1 hL (by omega) (by omega)
  dsimp only at g1 g2
  unfold g_law_c6
  rw [if_neg (show ¬ (zi i + 1 < 0 ∨ L ≤ (zi i + 1).toNatClampNeg) from i1)]
  rw [if_neg (show ¬ (zi i + 2 < 0 ∨ L ≤ (zi i + 2).toNatClampNeg) from i2)]
  rw [if_neg (show ¬ (zi i + 3 < 0 ∨ L ≤ (zi i + 3).toNatClampNeg) from i3)]
  rw [i_chk hk, g1, i_bd]
  rw [if_neg (show ¬ (zi i + 1 < 0 ∨ L ≤ (zi i + 1).toNatClampNeg) from i1)]
  rw [if_neg (show ¬ (zi i + 2 < 0 ∨ L ≤ (zi i + 2).toNatClampNeg) from i2)]
  rw [if_neg (show ¬ (zi i + 3 < 0 ∨ L ≤ (zi i + 3).toNatClampNeg) from i3)]
  rw [i_chk k1, g2, i_bd, if_pos rfl, show zi i + 6 = zi (i + 6) from zi_add i 6]
theorem lw_7 (hk : mK M 0 = 7) (h0 : 0 ≤ i) (h1 : i + 6 ≤ L) (hL : L ≤ 3072) (h : RunsTo (fun M => g_X9_buy n M 0 (sc (zi i + 1).toNatClampNeg) (sc (zi i + 2).toNatClampNeg) (sc (zi i + 3).toNatClampNeg)) (fun M => g_X10_buy n M 139 (sc (zi i + 1).toNatClampNeg) (sc (zi i + 2).toNatClampNeg) (sc (zi i + 3).toNatClampNeg)) M V) : ∃ M2, g_law_c7 n L sc 0 139 149 M (zi i) = some (.inl (M2, zi (i + 6))) ∧ TopE M2 V := by
  obtain ⟨v, M1, M2, g1, k1, g2, g3⟩ := h
  refine ⟨M2, ?_, g3⟩
  have i1 := law_ix (i := i) (j := 1) h0 h1 hL (by omega) (by omega)
  have i2 := law_ix (i := i) (j := 2) h0 h1 hL (by omega) (by omega)
  have i3 := law_ix (i := i) (j := 3) h0 h1 hL (by omega) (by omega)
  dsimp only at g1 g2
  unfold g_law_c7
  rw [if_neg (show ¬ (zi i + 1 < 0 ∨ L ≤ (zi i + 1).toNatClampNeg) from i1)]
  rw [if_neg (show ¬ (zi i + 2 < 0 ∨ L ≤ (zi i + 2).toNatClampNeg) from i2)]
  rw [if_neg (show ¬ (zi i + 3 < 0 ∨ L ≤ (zi i + 3).toNatClampNeg) from i3)]
  rw [i_chk hk, g1, i_bd]
  rw [if_neg (show ¬ (zi i + 1 < 0 ∨ L ≤ (zi i + 1).toNatClampNeg) from i1)]
  rw [if_neg (show ¬ (zi i + 2 < 0 ∨ L ≤ (zi i + 2).toNatClampNeg) from i2)]
  rw [if_neg (show ¬ (zi i + 3 < 0 ∨ L ≤ (zi i + 3).toNatClampNeg) from i3)]
  rw [i_chk k1, g2, i_bd, if_pos rfl, show zi i + 6 = zi (i + 6) from zi_add i 6]
theorem lw_8 (hk : mK M 0 = 7) (h0 : 0 ≤ i) (h1 : i + 6 ≤ L) (hL : L ≤ 3072) (h : RunsTo (fun M => g_X9_late n M 0 (sc (zi i + 1).toNatClampNeg) (sc (zi i + 2).toNatClampNeg) (sc (zi i + 3).toNatClampNeg) (sc (zi i + 4).toNatClampNeg)) (fun M => g_X10_late n M 139 (sc (zi i + 1).toNatClampNeg) (sc (zi i + 2).toNatClampNeg) (sc (zi i + 3).toNatClampNeg) (sc (zi i + 4).toNatClampNeg)) M V) : ∃ M2, g_law_c8 n L sc 0 139 149 M (zi i) = some (.inl (M2, zi (i + 6))) ∧ TopE M2 V := by
  obtain ⟨v, M1, M2, g1, k1, g2, g3⟩ := h
  refine ⟨M2, ?_, g3⟩
  have i1 := law_ix (i := i) (j := 1) h0 h1 hL (by omega) (by omega)
  have i2 := law_ix (i := i) (j := 2) h0 h1 hL (by omega) (by omega)
  have i3 := law_ix (i := i) (j := 3) h0 h1 hL (by omega) (by omega)
  have i4 := law_ix (i := i) (j := 4) h0 h1 hL (by omega) (by omega)
  dsimp only at g1 g2
  unfold g_law_c8
  rw [if_neg (show ¬ (zi i + 1 < 0 ∨ L ≤ (zi i + 1).toNatClampNeg) from i1)]
  rw [if_neg (show ¬ (zi i + 2 < 0 ∨ L ≤ (zi i + 2).toNatClampNeg) from i2)]
  rw [if_neg (show ¬ (zi i + 3 < 0 ∨ L ≤ (zi i + 3).toNatClampNeg) from i3)]
  rw [if_neg (show ¬ (zi i + 4 < 0 ∨ L ≤ (zi i + 4).toNatClampNeg) from i4)]
  rw [i_chk hk, g1, i_bd]
  rw [if_neg (show ¬ (zi i + 1 < 0 ∨ L ≤ (zi i + 1).toNatClampNeg) from i1)]
  rw [if_neg (show ¬ (zi i + 2 < 0 ∨ L ≤ (zi i + 2).toNatClampNeg) from i2)]
  rw [if_neg (show ¬ (zi i + 3 < 0 ∨ L ≤ (zi i + 3).toNatClampNeg) from i3)]
  rw [if_neg (show ¬ (zi i + 4 < 0 ∨ L ≤ (zi i + 4).toNatClampNeg) from i4)]
  rw [i_chk k1, g2, i_bd, if_pos rfl, show zi i + 6 = zi (i + 6) from zi_add i 6]
theorem lw_9 (hk : mK M 0 = 7) (h0 : 0 ≤ i) (h1 : i + 6 ≤ L) (hL : L ≤ 3072) (h : RunsTo (fun M => g_X9_heads n M 0 (sc (zi i + 1).toNatClampNeg) (sc (zi i + 2).toNatClampNeg) (sc (zi i + 3).toNatClampNeg)) (fun M => g_X10_heads n M 139 (sc (zi i + 1).toNatClampNeg) (sc (zi i + 2).toNatClampNeg) (sc (zi i + 3).toNatClampNeg)) M V) : ∃ M2, g_law_c9 n L sc 0 139 149 M (zi i) = some (.inl (M2, zi (i + 6))) ∧ TopE M2 V := by
  obtain ⟨v, M1, M2, g1, k1, g2, g3⟩ := h
  refine ⟨M2, ?_, g3⟩
  have i1 := law_ix (i := i) (j := 1) h0 h1 hL (by omega) (by omega)
  have i2 := law_ix (i := i) (j := 2) h0 h1 hL (by omega) (by omega)
  have i3 := law_ix (i := i) (j := 3) h0 h1 hL (by omega) (by omega)
  dsimp only at g1 g2
  unfold g_law_c9
  rw [if_neg (show ¬ (zi i + 1 < 0 ∨ L ≤ (zi i + 1).toNatClampNeg) from i1)]
  rw [if_neg (show ¬ (zi i + 2 < 0 ∨ L ≤ (zi i + 2).toNatClampNeg) from i2)]
  rw [if_neg (show ¬ (zi i + 3 < 0 ∨ L ≤ (zi i + 3).toNatClampNeg) from i3)]
  rw [i_chk hk, g1, i_bd]
  rw [if_neg (show ¬ (zi i + 1 < 0 ∨ L ≤ (zi i + 1).toNatClampNeg) from i1)]
  rw [if_neg (show ¬ (zi i + 2 < 0 ∨ L ≤ (zi i + 2).toNatClampNeg) from i2)]
  rw [if_neg (show ¬ (zi i + 3 < 0 ∨ L ≤ (zi i + 3).toNatClampNeg) from i3)]
  rw [i_chk k1, g2, i_bd, if_pos rfl, show zi i + 6 = zi (i + 6) from zi_add i 6]
theorem lw_10 (hk : mK M 0 = 7) (h0 : 0 ≤ i) (h1 : i + 6 ≤ L) (hL : L ≤ 3072) (h : RunsTo (fun M => g_X9_acquire n M 0 (sc (zi i + 1).toNatClampNeg) (sc (zi i + 2).toNatClampNeg) (sc (zi i + 3).toNatClampNeg) (sc (zi i + 4).toNatClampNeg)) (fun M => g_X10_acquire n M 139 (sc (zi i + 1).toNatClampNeg) (sc (zi i + 2).toNatClampNeg) (sc (zi i + 3).toNatClampNeg) (sc (zi i + 4).toNatClampNeg)) M V) : ∃ M2, g_law_c10 n L sc 0 139 149 M (zi i) = some (.inl (M2, zi (i + 6))) ∧ TopE M2 V := by
  obtain ⟨v, M1, M2, g1, k1, g2, g3⟩ := h
  refine ⟨M2, ?_, g3⟩
  have i1 := law_ix (i := i) (j := 1) h0 h1 hL (by omega) (by omega)
  have i2 := law_ix (i := i) (j := 2) h0 h1 hL (by omega) (by omega)
  have i3 := law_ix (i := i) (j := 3) h0 h1 hL (by omega) (by omega)
  have i4 := law_ix (i := i) (j := 4) h0 h1 hL (by omega) (by omega)
  dsimp only at g1 g2
  unfold g_law_c10
  rw [if_neg (show ¬ (zi i + 1 < 0 ∨ L ≤ (zi i + 1).toNatClampNeg) from i1)]
  rw [if_neg (show ¬ (zi i + 2 < 0 ∨ L ≤ (zi i + 2).toNatClampNeg) from i2)]
  rw [if_neg (show ¬ (zi i + 3 < 0 ∨ L ≤ (zi i + 3).toNatClampNeg) from i3)]
  rw [if_neg (show ¬ (zi i + 4 < 0 ∨ L ≤ (zi i + 4).toNatClampNeg) from i4)]
  rw [i_chk hk, g1, i_bd]
  rw [if_neg (show ¬ (zi i + 1 < 0 ∨ L ≤ (zi i + 1).toNatClampNeg) from i1)]
  rw [if_neg (show ¬ (zi i + 2 < 0 ∨ L ≤ (zi i + 2).toNatClampNeg) from i2)]
  rw [if_neg (show ¬ (zi i + 3 < 0 ∨ L ≤ (zi i + 3).toNatClampNeg) from i3)]
  rw [if_neg (show ¬ (zi i + 4 < 0 ∨ L ≤ (zi i + 4).toNatClampNeg) from i4)]
  rw [i_chk k1, g2, i_bd, if_pos rfl, show zi i + 6 = zi (i + 6) from zi_add i 6]
theorem lw_11 (hk : mK M 0 = 7) (h0 : 0 ≤ i) (h1 : i + 6 ≤ L) (hL : L ≤ 3072) (h : RunsTo (fun M => g_X9_use n M 0 (sc (zi i + 1).toNatClampNeg) (sc (zi i + 2).toNatClampNeg)) (fun M => g_X10_use n M 139 (sc (zi i + 1).toNatClampNeg) (sc (zi i + 2).toNatClampNeg)) M V) : ∃ M2, g_law_c11 n L sc 0 139 149 M (zi i) = some (.inl (M2, zi (i + 6))) ∧ TopE M2 V := by
  obtain ⟨v, M1, M2, g1, k1, g2, g3⟩ := h
  refine ⟨M2, ?_, g3⟩
  have i1 := law_ix (i := i) (j := 1) h0 h1 hL (by omega) (by omega)
  have i2 := law_ix (i := i) (j := 2) h0 h1 hL (by omega) (by omega)
  dsimp only at g1 g2
  unfold g_law_c11
  rw [if_neg (show ¬ (zi i + 1 < 0 ∨ L ≤ (zi i + 1).toNatClampNeg) from i1)]
  rw [if_neg (show ¬ (zi i + 2 < 0 ∨ L ≤ (zi i + 2).toNatClampNeg) from i2)]
  rw [i_chk hk, g1, i_bd]
  rw [if_neg (show ¬ (zi i + 1 < 0 ∨ L ≤ (zi i + 1).toNatClampNeg) from i1)]
  rw [if_neg (show ¬ (zi i + 2 < 0 ∨ L ≤ (zi i + 2).toNatClampNeg) from i2)]
  rw [i_chk k1, g2, i_bd, if_pos rfl, show zi i + 6 = zi (i + 6) from zi_add i 6]
theorem lw_12 (hk : mK M 0 = 7) (h0 : 0 ≤ i) (h1 : i + 6 ≤ L) (hL : L ≤ 3072) (h : RunsTo (fun M => g_X9_sell n M 0 (sc (zi i + 1).toNatClampNeg) (sc (zi i + 2).toNatClampNeg) (sc (zi i + 3).toNatClampNeg)) (fun M => g_X10_sell n M 139 (sc (zi i + 1).toNatClampNeg) (sc (zi i + 2).toNatClampNeg) (sc (zi i + 3).toNatClampNeg)) M V) : ∃ M2, g_law_c12 n L sc 0 139 149 M (zi i) = some (.inl (M2, zi (i + 6))) ∧ TopE M2 V := by
  obtain ⟨v, M1, M2, g1, k1, g2, g3⟩ := h
  refine ⟨M2, ?_, g3⟩
  have i1 := law_ix (i := i) (j := 1) h0 h1 hL (by omega) (by omega)
  have i2 := law_ix (i := i) (j := 2) h0 h1 hL (by omega) (by omega)
  have i3 := law_ix (i := i) (j := 3) h0 h1 hL (by omega) (by omega)
  dsimp only at g1 g2
  unfold g_law_c12
  rw [if_neg (show ¬ (zi i + 1 < 0 ∨ L ≤ (zi i + 1).toNatClampNeg) from i1)]
  rw [if_neg (show ¬ (zi i + 2 < 0 ∨ L ≤ (zi i + 2).toNatClampNeg) from i2)]
  rw [if_neg (show ¬ (zi i + 3 < 0 ∨ L ≤ (zi i + 3).toNatClampNeg) from i3)]
  rw [i_chk hk, g1, i_bd]
  rw [if_neg (show ¬ (zi i + 1 < 0 ∨ L ≤ (zi i + 1).toNatClampNeg) from i1)]
  rw [if_neg (show ¬ (zi i + 2 < 0 ∨ L ≤ (zi i + 2).toNatClampNeg) from i2)]
  rw [if_neg (show ¬ (zi i + 3 < 0 ∨ L ≤ (zi i + 3).toNatClampNeg) from i3)]
  rw [i_chk k1, g2, i_bd, if_pos rfl, show zi i + 6 = zi (i + 6) from zi_add i 6]
theorem lw_13 (hk : mK M 0 = 7) (h0 : 0 ≤ i) (h1 : i + 6 ≤ L) (hL : L ≤ 3072) (h : RunsTo (fun M => g_X9_hand n M 0 (sc (zi i + 1).toNatClampNeg) (sc (zi i + 2).toNatClampNeg)) (fun M => g_X10_hand n M 139 (sc (zi i + 1).toNatClampNeg) (sc (zi i + 2).toNatClampNeg)) M V) : ∃ M2, g_law_c13 n L sc 0 139 149 M (zi i) = some (.inl (M2, zi (i + 6))) ∧ TopE M2 V := by
  obtain ⟨v, M1, M2, g1, k1, g2, g3⟩ := h
  refine ⟨M2, ?_, g3⟩
  have i1 := law_ix (i := i) (j := 1) h0 h1 hL (by omega) (by omega)
  have i2 := law_ix (i := i) (j := 2) h0 h1 hL (by omega) (by omega)
  dsimp only at g1 g2
  unfold g_law_c13
  rw [if_neg (show ¬ (zi i + 1 < 0 ∨ L ≤ (zi i + 1).toNatClampNeg) from i1)]
  rw [if_neg (show ¬ (zi i + 2 < 0 ∨ L ≤ (zi i + 2).toNatClampNeg) from i2)]
  rw [i_chk hk, g1, i_bd]
  rw [if_neg (show ¬ (zi i + 1 < 0 ∨ L ≤ (zi i + 1).toNatClampNeg) from i1)]
  rw [if_neg (show ¬ (zi i + 2 < 0 ∨ L ≤ (zi i + 2).toNatClampNeg) from i2)]
  rw [i_chk k1, g2, i_bd, if_pos rfl, show zi i + 6 = zi (i + 6) from zi_add i 6]
theorem lw_14 (hk : mK M 0 = 7) (h0 : 0 ≤ i) (h1 : i + 6 ≤ L) (hL : L ≤ 3072) (h : RunsTo (fun M => g_X9_close n M 0 (sc (zi i + 1).toNatClampNeg)) (fun M => g_X10_close n M 139 (sc (zi i + 1).toNatClampNeg)) M V) : ∃ M2, g_law_c14 n L sc 0 139 149 M (zi i) = some (.inl (M2, zi (i + 6))) ∧ TopE M2 V := by
  obtain ⟨v, M1, M2, g1, k1, g2, g3⟩ := h
  refine ⟨M2, ?_, g3⟩
  have i1 := law_ix (i := i) (j := 1) h0 h1 hL (by omega) (by omega)
  dsimp only at g1 g2
  unfold g_law_c14
  rw [if_neg (show ¬ (zi i + 1 < 0 ∨ L ≤ (zi i + 1).toNatClampNeg) from i1)]
  rw [i_chk hk, g1, i_bd]
  rw [if_neg (show ¬ (zi i + 1 < 0 ∨ L ≤ (zi i + 1).toNatClampNeg) from i1)]
  rw [i_chk k1, g2, i_bd, if_pos rfl, show zi i + 6 = zi (i + 6) from zi_add i 6]
theorem lw_15 (hk : mK M 0 = 7) (h0 : 0 ≤ i) (h1 : i + 6 ≤ L) (hL : L ≤ 3072) (h : RunsTo (fun M => g_X9_sum n M 0 (sc (zi i + 1).toNatClampNeg) (sc (zi i + 2).toNatClampNeg) (sc (zi i + 3).toNatClampNeg)) (fun M => g_X10_sum n M 139 (sc (zi i + 1).toNatClampNeg) (sc (zi i + 2).toNatClampNeg) (sc (zi i + 3).toNatClampNeg)) M V) : ∃ M2, g_law_c15 n L sc 0 139 149 M (zi i) = some (.inl (M2, zi (i + 6))) ∧ TopE M2 V := by
  obtain ⟨v, M1, M2, g1, k1, g2, g3⟩ := h
  refine ⟨M2, ?_, g3⟩
  have i1 := law_ix (i := i) (j := 1) h0 h1 hL (by omega) (by omega)
  have i2 := law_ix (i := i) (j := 2) h0 h1 hL (by omega) (by omega)
  have i3 := law_ix (i := i) (j := 3) h0 h1 hL (by omega) (by omega)
  dsimp only at g1 g2
  unfold g_law_c15
  rw [if_neg (show ¬ (zi i + 1 < 0 ∨ L ≤ (zi i + 1).toNatClampNeg) from i1)]
  rw [if_neg (show ¬ (zi i + 2 < 0 ∨ L ≤ (zi i + 2).toNatClampNeg) from i2)]
  rw [if_neg (show ¬ (zi i + 3 < 0 ∨ L ≤ (zi i + 3).toNatClampNeg) from i3)]
  rw [i_chk hk, g1, i_bd]
  rw [if_neg (show ¬ (zi i + 1 < 0 ∨ L ≤ (zi i + 1).toNatClampNeg) from i1)]
  rw [if_neg (show ¬ (zi i + 2 < 0 ∨ L ≤ (zi i + 2).toNatClampNeg) from i2)]
  rw [if_neg (show ¬ (zi i + 3 < 0 ∨ L ≤ (zi i + 3).toNatClampNeg) from i3)]
  rw [i_chk k1, g2, i_bd, if_pos rfl, show zi i + 6 = zi (i + 6) from zi_add i 6]
theorem lw_16 (hk : mK M 0 = 7) (h0 : 0 ≤ i) (h1 : i + 6 ≤ L) (hL : L ≤ 3072) (h : RunsTo (fun M => g_X9_provisional n M 0 (sc (zi i + 1).toNatClampNeg) (sc (zi i + 2).toNatClampNeg)) (fun M => g_X10_provisional n M 139 (sc (zi i + 1).toNatClampNeg) (sc (zi i + 2).toNatClampNeg)) M V) : ∃ M2, g_law_c16 n L sc 0 139 149 M (zi i) = some (.inl (M2, zi (i + 6))) ∧ TopE M2 V := by
  obtain ⟨v, M1, M2, g1, k1, g2, g3⟩ := h
  refine ⟨M2, ?_, g3⟩
  have i1 := law_ix (i := i) (j := 1) h0 h1 hL (by omega) (by omega)
  have i2 := law_ix (i := i) (j := 2) h0 h1 hL (by omega) (by omega)
  dsimp only at g1 g2
  unfold g_law_c16
  rw [if_neg (show ¬ (zi i + 1 < 0 ∨ L ≤ (zi i + 1).toNatClampNeg) from i1)]
  rw [if_neg (show ¬ (zi i + 2 < 0 ∨ L ≤ (zi i + 2).toNatClampNeg) from i2)]
  rw [i_chk hk, g1, i_bd]
  rw [if_neg (show ¬ (zi i + 1 < 0 ∨ L ≤ (zi i + 1).toNatClampNeg) from i1)]
  rw [if_neg (show ¬ (zi i + 2 < 0 ∨ L ≤ (zi i + 2).toNatClampNeg) from i2)]
  rw [i_chk k1, g2, i_bd, if_pos rfl, show zi i + 6 = zi (i + 6) from zi_add i 6]
theorem lw_17 (hk : mK M 0 = 7) (h0 : 0 ≤ i) (h1 : i + 6 ≤ L) (hL : L ≤ 3072) (h : RunsTo (fun M => g_X9_recovered n M 0 (sc (zi i + 1).toNatClampNeg) (sc (zi i + 2).toNatClampNeg)) (fun M => g_X10_recovered n M 139 (sc (zi i + 1).toNatClampNeg) (sc (zi i + 2).toNatClampNeg)) M V) : ∃ M2, g_law_c17 n L sc 0 139 149 M (zi i) = some (.inl (M2, zi (i + 6))) ∧ TopE M2 V := by
  obtain ⟨v, M1, M2, g1, k1, g2, g3⟩ := h
  refine ⟨M2, ?_, g3⟩
  have i1 := law_ix (i := i) (j := 1) h0 h1 hL (by omega) (by omega)
  have i2 := law_ix (i := i) (j := 2) h0 h1 hL (by omega) (by omega)
  dsimp only at g1 g2
  unfold g_law_c17
  rw [if_neg (show ¬ (zi i + 1 < 0 ∨ L ≤ (zi i + 1).toNatClampNeg) from i1)]
  rw [if_neg (show ¬ (zi i + 2 < 0 ∨ L ≤ (zi i + 2).toNatClampNeg) from i2)]
  rw [i_chk hk, g1, i_bd]
  rw [if_neg (show ¬ (zi i + 1 < 0 ∨ L ≤ (zi i + 1).toNatClampNeg) from i1)]
  rw [if_neg (show ¬ (zi i + 2 < 0 ∨ L ≤ (zi i + 2).toNatClampNeg) from i2)]
  rw [i_chk k1, g2, i_bd, if_pos rfl, show zi i + 6 = zi (i + 6) from zi_add i 6]
theorem lw_18 (hk : mK M 0 = 7) (h0 : 0 ≤ i) (h1 : i + 6 ≤ L) (hL : L ≤ 3072) (h : RunsTo (fun M => g_X9_annual n M 0 (sc (zi i + 1).toNatClampNeg) (sc (zi i + 2).toNatClampNeg) (sc (zi i + 3).toNatClampNeg)) (fun M => g_X10_annual n M 139 (sc (zi i + 1).toNatClampNeg) (sc (zi i + 2).toNatClampNeg) (sc (zi i + 3).toNatClampNeg)) M V) : ∃ M2, g_law_c18 n L sc 0 139 149 M (zi i) = some (.inl (M2, zi (i + 6))) ∧ TopE M2 V := by
  obtain ⟨v, M1, M2, g1, k1, g2, g3⟩ := h
  refine ⟨M2, ?_, g3⟩
  have i1 := law_ix (i := i) (j := 1) h0 h1 hL (by omega) (by omega)
  have i2 := law_ix (i := i) (j := 2) h0 h1 hL (by omega) (by omega)
  have i3 := law_ix (i := i) (j := 3) h0 h1 hL (by omega) (by omega)
  dsimp only at g1 g2
  unfold g_law_c18
  rw [if_neg (show ¬ (zi i + 1 < 0 ∨ L ≤ (zi i + 1).toNatClampNeg) from i1)]
  rw [if_neg (show ¬ (zi i + 2 < 0 ∨ L ≤ (zi i + 2).toNatClampNeg) from i2)]
  rw [if_neg (show ¬ (zi i + 3 < 0 ∨ L ≤ (zi i + 3).toNatClampNeg) from i3)]
  rw [i_chk hk, g1, i_bd]
  rw [if_neg (show ¬ (zi i + 1 < 0 ∨ L ≤ (zi i + 1).toNatClampNeg) from i1)]
  rw [if_neg (show ¬ (zi i + 2 < 0 ∨ L ≤ (zi i + 2).toNatClampNeg) from i2)]
  rw [if_neg (show ¬ (zi i + 3 < 0 ∨ L ≤ (zi i + 3).toNatClampNeg) from i3)]
  rw [i_chk k1, g2, i_bd, if_pos rfl, show zi i + 6 = zi (i + 6) from zi_add i 6]
theorem lw_19 (hk : mK M 0 = 7) (h0 : 0 ≤ i) (h1 : i + 6 ≤ L) (hL : L ≤ 3072) (h : RunsTo (fun M => g_X9_interval n M 0 (sc (zi i + 1).toNatClampNeg) (sc (zi i + 2).toNatClampNeg) (sc (zi i + 3).toNatClampNeg)) (fun M => g_X10_interval n M 139 (sc (zi i + 1).toNatClampNeg) (sc (zi i + 2).toNatClampNeg) (sc (zi i + 3).toNatClampNeg)) M V) : ∃ M2, g_law_c19 n L sc 0 139 149 M (zi i) = some (.inl (M2, zi (i + 6))) ∧ TopE M2 V := by
  obtain ⟨v, M1, M2, g1, k1, g2, g3⟩ := h
  refine ⟨M2, ?_, g3⟩
  have i1 := law_ix (i := i) (j := 1) h0 h1 hL (by omega) (by omega)
  have i2 := law_ix (i := i) (j := 2) h0 h1 hL (by omega) (by omega)
  have i3 := law_ix (i := i) (j := 3) h0 h1 hL (by omega) (by omega)
  dsimp only at g1 g2
  unfold g_law_c19
  rw [if_neg (show ¬ (zi i + 1 < 0 ∨ L ≤ (zi i + 1).toNatClampNeg) from i1)]
  rw [if_neg (show ¬ (zi i + 2 < 0 ∨ L ≤ (zi i + 2).toNatClampNeg) from i2)]
  rw [if_neg (show ¬ (zi i + 3 < 0 ∨ L ≤ (zi i + 3).toNatClampNeg) from i3)]
  rw [i_chk hk, g1, i_bd]
  rw [if_neg (show ¬ (zi i + 1 < 0 ∨ L ≤ (zi i + 1).toNatClampNeg) from i1)]
  rw [if_neg (show ¬ (zi i + 2 < 0 ∨ L ≤ (zi i + 2).toNatClampNeg) from i2)]
  rw [if_neg (show ¬ (zi i + 3 < 0 ∨ L ≤ (zi i + 3).toNatClampNeg) from i3)]
  rw [i_chk k1, g2, i_bd, if_pos rfl, show zi i + 6 = zi (i + 6) from zi_add i 6]
theorem lw_20 (hk : mK M 0 = 7) (h0 : 0 ≤ i) (h1 : i + 6 ≤ L) (hL : L ≤ 3072) (h : RunsTo (fun M => g_X9_taken n M 0 (sc (zi i + 1).toNatClampNeg)) (fun M => g_X10_taken n M 139 (sc (zi i + 1).toNatClampNeg)) M V) : ∃ M2, g_law_c20 n L sc 0 139 149 M (zi i) = some (.inl (M2, zi (i + 6))) ∧ TopE M2 V := by
  obtain ⟨v, M1, M2, g1, k1, g2, g3⟩ := h
  refine ⟨M2, ?_, g3⟩
  have i1 := law_ix (i := i) (j := 1) h0 h1 hL (by omega) (by omega)
  dsimp only at g1 g2
  unfold g_law_c20
  rw [if_neg (show ¬ (zi i + 1 < 0 ∨ L ≤ (zi i + 1).toNatClampNeg) from i1)]
  rw [i_chk hk, g1, i_bd]
  rw [if_neg (show ¬ (zi i + 1 < 0 ∨ L ≤ (zi i + 1).toNatClampNeg) from i1)]
  rw [i_chk k1, g2, i_bd, if_pos rfl, show zi i + 6 = zi (i + 6) from zi_add i 6]
theorem lw_21 (hk : mK M 0 = 7) (h0 : 0 ≤ i) (h1 : i + 6 ≤ L) (hL : L ≤ 3072) (h : RunsTo (fun M => g_X9_last n M 0 (sc (zi i + 1).toNatClampNeg)) (fun M => g_X10_last n M 139 (sc (zi i + 1).toNatClampNeg)) M V) : ∃ M2, g_law_c21 n L sc 0 139 149 M (zi i) = some (.inl (M2, zi (i + 6))) ∧ TopE M2 V := by
  obtain ⟨v, M1, M2, g1, k1, g2, g3⟩ := h
  refine ⟨M2, ?_, g3⟩
  have i1 := law_ix (i := i) (j := 1) h0 h1 hL (by omega) (by omega)
  dsimp only at g1 g2
  unfold g_law_c21
  rw [if_neg (show ¬ (zi i + 1 < 0 ∨ L ≤ (zi i + 1).toNatClampNeg) from i1)]
  rw [i_chk hk, g1, i_bd]
  rw [if_neg (show ¬ (zi i + 1 < 0 ∨ L ≤ (zi i + 1).toNatClampNeg) from i1)]
  rw [i_chk k1, g2, i_bd, if_pos rfl, show zi i + 6 = zi (i + 6) from zi_add i 6]
theorem lw_22 (hk : mK M 0 = 7) (h0 : 0 ≤ i) (h1 : i + 6 ≤ L) (hL : L ≤ 3072) (h : RunsTo (fun M => g_X9_booked n M 0 (sc (zi i + 1).toNatClampNeg) (sc (zi i + 2).toNatClampNeg)) (fun M => g_X10_booked n M 139 (sc (zi i + 1).toNatClampNeg) (sc (zi i + 2).toNatClampNeg)) M V) : ∃ M2, g_law_c22 n L sc 0 139 149 M (zi i) = some (.inl (M2, zi (i + 6))) ∧ TopE M2 V := by
  obtain ⟨v, M1, M2, g1, k1, g2, g3⟩ := h
  refine ⟨M2, ?_, g3⟩
  have i1 := law_ix (i := i) (j := 1) h0 h1 hL (by omega) (by omega)
  have i2 := law_ix (i := i) (j := 2) h0 h1 hL (by omega) (by omega)
  dsimp only at g1 g2
  unfold g_law_c22
  rw [if_neg (show ¬ (zi i + 1 < 0 ∨ L ≤ (zi i + 1).toNatClampNeg) from i1)]
  rw [if_neg (show ¬ (zi i + 2 < 0 ∨ L ≤ (zi i + 2).toNatClampNeg) from i2)]
  rw [i_chk hk, g1, i_bd]
  rw [if_neg (show ¬ (zi i + 1 < 0 ∨ L ≤ (zi i + 1).toNatClampNeg) from i1)]
  rw [if_neg (show ¬ (zi i + 2 < 0 ∨ L ≤ (zi i + 2).toNatClampNeg) from i2)]
  rw [i_chk k1, g2, i_bd, if_pos rfl, show zi i + 6 = zi (i + 6) from zi_add i 6]
theorem lw_23 (hk : mK M 0 = 7) (h0 : 0 ≤ i) (h1 : i + 6 ≤ L) (hL : L ≤ 3072) (h : RunsTo (fun M => g_X9_total n M 0 (sc (zi i + 1).toNatClampNeg) (sc (zi i + 2).toNatClampNeg)) (fun M => g_X10_total n M 139 (sc (zi i + 1).toNatClampNeg) (sc (zi i + 2).toNatClampNeg)) M V) : ∃ M2, g_law_c23 n L sc 0 139 149 M (zi i) = some (.inl (M2, zi (i + 6))) ∧ TopE M2 V := by
  obtain ⟨v, M1, M2, g1, k1, g2, g3⟩ := h
  refine ⟨M2, ?_, g3⟩
  have i1 := law_ix (i := i) (j := 1) h0 h1 hL (by omega) (by omega)
  have i2 := law_ix (i := i) (j := 2) h0 h1 hL (by omega) (by omega)
  dsimp only at g1 g2
  unfold g_law_c23
  rw [if_neg (show ¬ (zi i + 1 < 0 ∨ L ≤ (zi i + 1).toNatClampNeg) from i1)]
  rw [if_neg (show ¬ (zi i + 2 < 0 ∨ L ≤ (zi i + 2).toNatClampNeg) from i2)]
  rw [i_chk hk, g1, i_bd]
  rw [if_neg (show ¬ (zi i + 1 < 0 ∨ L ≤ (zi i + 1).toNatClampNeg) from i1)]
  rw [if_neg (show ¬ (zi i + 2 < 0 ∨ L ≤ (zi i + 2).toNatClampNeg) from i2)]
  rw [i_chk k1, g2, i_bd, if_pos rfl, show zi i + 6 = zi (i + 6) from zi_add i 6]
theorem lw_24 (hk : mK M 0 = 7) (h0 : 0 ≤ i) (h1 : i + 6 ≤ L) (hL : L ≤ 3072) (h : RunsTo (fun M => g_X9_by n M 0 (sc (zi i + 1).toNatClampNeg) (sc (zi i + 2).toNatClampNeg) (sc (zi i + 3).toNatClampNeg) (sc (zi i + 4).toNatClampNeg) (sc (zi i + 5).toNatClampNeg)) (fun M => g_X10_by n M 139 (sc (zi i + 1).toNatClampNeg) (sc (zi i + 2).toNatClampNeg) (sc (zi i + 3).toNatClampNeg) (sc (zi i + 4).toNatClampNeg) (sc (zi i + 5).toNatClampNeg)) M V) : ∃ M2, g_law_c24 n L sc 0 139 149 M (zi i) = some (.inl (M2, zi (i + 6))) ∧ TopE M2 V := by
  obtain ⟨v, M1, M2, g1, k1, g2, g3⟩ := h
  refine ⟨M2, ?_, g3⟩
  have i1 := law_ix (i := i) (j := 1) h0 h1 hL (by omega) (by omega)
  have i2 := law_ix (i := i) (j := 2) h0 h1 hL (by omega) (by omega)
  have i3 := law_ix (i := i) (j := 3) h0 h1 hL (by omega) (by omega)
  have i4 := law_ix (i := i) (j := 4) h0 h1 hL (by omega) (by omega)
  have i5 := law_ix (i := i) (j := 5) h0 h1 hL (by omega) (by omega)
  dsimp only at g1 g2
  unfold g_law_c24
  rw [if_neg (show ¬ (zi i + 1 < 0 ∨ L ≤ (zi i + 1).toNatClampNeg) from i1)]
  rw [if_neg (show ¬ (zi i + 2 < 0 ∨ L ≤ (zi i + 2).toNatClampNeg) from i2)]
  rw [if_neg (show ¬ (zi i + 3 < 0 ∨ L ≤ (zi i + 3).toNatClampNeg) from i3)]
  rw [if_neg (show ¬ (zi i + 4 < 0 ∨ L ≤ (zi i + 4).toNatClampNeg) from i4)]
  rw [if_neg (show ¬ (zi i + 5 < 0 ∨ L ≤ (zi i + 5).toNatClampNeg) from i5)]
  rw [i_chk hk, g1, i_bd]
  rw [if_neg (show ¬ (zi i + 1 < 0 ∨ L ≤ (zi i + 1).toNatClampNeg) from i1)]
  rw [if_neg (show ¬ (zi i + 2 < 0 ∨ L ≤ (zi i + 2).toNatClampNeg) from i2)]
  rw [if_neg (show ¬ (zi i + 3 < 0 ∨ L ≤ (zi i + 3).toNatClampNeg) from i3)]
  rw [if_neg (show ¬ (zi i + 4 < 0 ∨ L ≤ (zi i + 4).toNatClampNeg) from i4)]
  rw [if_neg (show ¬ (zi i + 5 < 0 ∨ L ≤ (zi i + 5).toNatClampNeg) from i5)]
  rw [i_chk k1, g2, i_bd, if_pos rfl, show zi i + 6 = zi (i + 6) from zi_add i 6]
theorem lw_25 (hk : mK M 0 = 7) (h0 : 0 ≤ i) (h1 : i + 6 ≤ L) (hL : L ≤ 3072) (h : RunsTo (fun M => g_X9_bestMethod n M 0 (sc (zi i + 1).toNatClampNeg) (sc (zi i + 2).toNatClampNeg)) (fun M => g_X10_bestMethod n M 139 (sc (zi i + 1).toNatClampNeg) (sc (zi i + 2).toNatClampNeg)) M V) : ∃ M2, g_law_c25 n L sc 0 139 149 M (zi i) = some (.inl (M2, zi (i + 6))) ∧ TopE M2 V := by
  obtain ⟨v, M1, M2, g1, k1, g2, g3⟩ := h
  refine ⟨M2, ?_, g3⟩
  have i1 := law_ix (i := i) (j := 1) h0 h1 hL (by omega) (by omega)
  have i2 := law_ix (i := i) (j := 2) h0 h1 hL (by omega) (by omega)
  dsimp only at g1 g2
  unfold g_law_c25
  rw [if_neg (show ¬ (zi i + 1 < 0 ∨ L ≤ (zi i + 1).toNatClampNeg) from i1)]
  rw [if_neg (show ¬ (zi i + 2 < 0 ∨ L ≤ (zi i + 2).toNatClampNeg) from i2)]
  rw [i_chk hk, g1, i_bd]
  rw [if_neg (show ¬ (zi i + 1 < 0 ∨ L ≤ (zi i + 1).toNatClampNeg) from i1)]
  rw [if_neg (show ¬ (zi i + 2 < 0 ∨ L ≤ (zi i + 2).toNatClampNeg) from i2)]
  rw [i_chk k1, g2, i_bd, if_pos rfl, show zi i + 6 = zi (i + 6) from zi_add i 6]
theorem lw_26 (hk : mK M 0 = 7) (h0 : 0 ≤ i) (h1 : i + 6 ≤ L) (hL : L ≤ 3072) (h : RunsTo (fun M => g_X9_bestStep n M 0 (sc (zi i + 1).toNatClampNeg) (sc (zi i + 2).toNatClampNeg)) (fun M => g_X10_bestStep n M 139 (sc (zi i + 1).toNatClampNeg) (sc (zi i + 2).toNatClampNeg)) M V) : ∃ M2, g_law_c26 n L sc 0 139 149 M (zi i) = some (.inl (M2, zi (i + 6))) ∧ TopE M2 V := by
  obtain ⟨v, M1, M2, g1, k1, g2, g3⟩ := h
  refine ⟨M2, ?_, g3⟩
  have i1 := law_ix (i := i) (j := 1) h0 h1 hL (by omega) (by omega)
  have i2 := law_ix (i := i) (j := 2) h0 h1 hL (by omega) (by omega)
  dsimp only at g1 g2
  unfold g_law_c26
  rw [if_neg (show ¬ (zi i + 1 < 0 ∨ L ≤ (zi i + 1).toNatClampNeg) from i1)]
  rw [if_neg (show ¬ (zi i + 2 < 0 ∨ L ≤ (zi i + 2).toNatClampNeg) from i2)]
  rw [i_chk hk, g1, i_bd]
  rw [if_neg (show ¬ (zi i + 1 < 0 ∨ L ≤ (zi i + 1).toNatClampNeg) from i1)]
  rw [if_neg (show ¬ (zi i + 2 < 0 ∨ L ≤ (zi i + 2).toNatClampNeg) from i2)]
  rw [i_chk k1, g2, i_bd, if_pos rfl, show zi i + 6 = zi (i + 6) from zi_add i 6]
theorem lw_27 (hk : mK M 0 = 7) (h0 : 0 ≤ i) (h1 : i + 6 ≤ L) (hL : L ≤ 3072) (h : RunsTo (fun M => g_X9_joint n M 0 (sc (zi i + 1).toNatClampNeg) (sc (zi i + 2).toNatClampNeg) (sc (zi i + 3).toNatClampNeg)) (fun M => g_X10_joint n M 139 (sc (zi i + 1).toNatClampNeg) (sc (zi i + 2).toNatClampNeg) (sc (zi i + 3).toNatClampNeg)) M V) : ∃ M2, g_law_c27 n L sc 0 139 149 M (zi i) = some (.inl (M2, zi (i + 6))) ∧ TopE M2 V := by
  obtain ⟨v, M1, M2, g1, k1, g2, g3⟩ := h
  refine ⟨M2, ?_, g3⟩
  have i1 := law_ix (i := i) (j := 1) h0 h1 hL (by omega) (by omega)
  have i2 := law_ix (i := i) (j := 2) h0 h1 hL (by omega) (by omega)
  have i3 := law_ix (i := i) (j := 3) h0 h1 hL (by omega) (by omega)
  dsimp only at g1 g2
  unfold g_law_c27
  rw [if_neg (show ¬ (zi i + 1 < 0 ∨ L ≤ (zi i + 1).toNatClampNeg) from i1)]
  rw [if_neg (show ¬ (zi i + 2 < 0 ∨ L ≤ (zi i + 2).toNatClampNeg) from i2)]
  rw [if_neg (show ¬ (zi i + 3 < 0 ∨ L ≤ (zi i + 3).toNatClampNeg) from i3)]
  rw [i_chk hk, g1, i_bd]
  rw [if_neg (show ¬ (zi i + 1 < 0 ∨ L ≤ (zi i + 1).toNatClampNeg) from i1)]
  rw [if_neg (show ¬ (zi i + 2 < 0 ∨ L ≤ (zi i + 2).toNatClampNeg) from i2)]
  rw [if_neg (show ¬ (zi i + 3 < 0 ∨ L ≤ (zi i + 3).toNatClampNeg) from i3)]
  rw [i_chk k1, g2, i_bd, if_pos rfl, show zi i + 6 = zi (i + 6) from zi_add i 6]
theorem lw_28 (hk : mK M 0 = 7) (h0 : 0 ≤ i) (h1 : i + 6 ≤ L) (hL : L ≤ 3072) (h : RunsTo (fun M => g_X9_limitFor n M 0 (sc (zi i + 1).toNatClampNeg) (sc (zi i + 2).toNatClampNeg)) (fun M => g_X10_limitFor n M 139 (sc (zi i + 1).toNatClampNeg) (sc (zi i + 2).toNatClampNeg)) M V) : ∃ M2, g_law_c28 n L sc 0 139 149 M (zi i) = some (.inl (M2, zi (i + 6))) ∧ TopE M2 V := by
  obtain ⟨v, M1, M2, g1, k1, g2, g3⟩ := h
  refine ⟨M2, ?_, g3⟩
  have i1 := law_ix (i := i) (j := 1) h0 h1 hL (by omega) (by omega)
  have i2 := law_ix (i := i) (j := 2) h0 h1 hL (by omega) (by omega)
  dsimp only at g1 g2
  unfold g_law_c28
  rw [if_neg (show ¬ (zi i + 1 < 0 ∨ L ≤ (zi i + 1).toNatClampNeg) from i1)]
  rw [if_neg (show ¬ (zi i + 2 < 0 ∨ L ≤ (zi i + 2).toNatClampNeg) from i2)]
  rw [i_chk hk, g1, i_bd]
  rw [if_neg (show ¬ (zi i + 1 < 0 ∨ L ≤ (zi i + 1).toNatClampNeg) from i1)]
  rw [if_neg (show ¬ (zi i + 2 < 0 ∨ L ≤ (zi i + 2).toNatClampNeg) from i2)]
  rw [i_chk k1, g2, i_bd, if_pos rfl, show zi i + 6 = zi (i + 6) from zi_add i 6]
theorem lw_29 (hk : mK M 0 = 7) (h0 : 0 ≤ i) (h1 : i + 6 ≤ L) (hL : L ≤ 3072) (h : RunsTo (fun M => g_X9_byBasis n M 0 (sc (zi i + 1).toNatClampNeg) (sc (zi i + 2).toNatClampNeg) (sc (zi i + 3).toNatClampNeg)) (fun M => g_X10_byBasis n M 139 (sc (zi i + 1).toNatClampNeg) (sc (zi i + 2).toNatClampNeg) (sc (zi i + 3).toNatClampNeg)) M V) : ∃ M2, g_law_c29 n L sc 0 139 149 M (zi i) = some (.inl (M2, zi (i + 6))) ∧ TopE M2 V := by
  obtain ⟨v, M1, M2, g1, k1, g2, g3⟩ := h
  refine ⟨M2, ?_, g3⟩
  have i1 := law_ix (i := i) (j := 1) h0 h1 hL (by omega) (by omega)
  have i2 := law_ix (i := i) (j := 2) h0 h1 hL (by omega) (by omega)
  have i3 := law_ix (i := i) (j := 3) h0 h1 hL (by omega) (by omega)
  dsimp only at g1 g2
  unfold g_law_c29
  rw [if_neg (show ¬ (zi i + 1 < 0 ∨ L ≤ (zi i + 1).toNatClampNeg) from i1)]
  rw [if_neg (show ¬ (zi i + 2 < 0 ∨ L ≤ (zi i + 2).toNatClampNeg) from i2)]
  rw [if_neg (show ¬ (zi i + 3 < 0 ∨ L ≤ (zi i + 3).toNatClampNeg) from i3)]
  rw [i_chk hk, g1, i_bd]
  rw [if_neg (show ¬ (zi i + 1 < 0 ∨ L ≤ (zi i + 1).toNatClampNeg) from i1)]
  rw [if_neg (show ¬ (zi i + 2 < 0 ∨ L ≤ (zi i + 2).toNatClampNeg) from i2)]
  rw [if_neg (show ¬ (zi i + 3 < 0 ∨ L ≤ (zi i + 3).toNatClampNeg) from i3)]
  rw [i_chk k1, g2, i_bd, if_pos rfl, show zi i + 6 = zi (i + 6) from zi_add i 6]
theorem lw_30 (hk : mK M 0 = 7) (h0 : 0 ≤ i) (h1 : i + 6 ≤ L) (hL : L ≤ 3072) (h : RunsTo (fun M => g_X9_leader n M 0 (sc (zi i + 1).toNatClampNeg)) (fun M => g_X10_leader n M 139 (sc (zi i + 1).toNatClampNeg)) M V) : ∃ M2, g_law_c30 n L sc 0 139 149 M (zi i) = some (.inl (M2, zi (i + 6))) ∧ TopE M2 V := by
  obtain ⟨v, M1, M2, g1, k1, g2, g3⟩ := h
  refine ⟨M2, ?_, g3⟩
  have i1 := law_ix (i := i) (j := 1) h0 h1 hL (by omega) (by omega)
  dsimp only at g1 g2
  unfold g_law_c30
  rw [if_neg (show ¬ (zi i + 1 < 0 ∨ L ≤ (zi i + 1).toNatClampNeg) from i1)]
  rw [i_chk hk, g1, i_bd]
  rw [if_neg (show ¬ (zi i + 1 < 0 ∨ L ≤ (zi i + 1).toNatClampNeg) from i1)]
  rw [i_chk k1, g2, i_bd, if_pos rfl, show zi i + 6 = zi (i + 6) from zi_add i 6]
theorem lw_31 (hk : mK M 0 = 7) (h0 : 0 ≤ i) (h1 : i + 6 ≤ L) (hL : L ≤ 3072) (h : RunsTo (fun M => g_X9_rise n M 0 (sc (zi i + 1).toNatClampNeg)) (fun M => g_X10_rise n M 139 (sc (zi i + 1).toNatClampNeg)) M V) : ∃ M2, g_law_c31 n L sc 0 139 149 M (zi i) = some (.inl (M2, zi (i + 6))) ∧ TopE M2 V := by
  obtain ⟨v, M1, M2, g1, k1, g2, g3⟩ := h
  refine ⟨M2, ?_, g3⟩
  have i1 := law_ix (i := i) (j := 1) h0 h1 hL (by omega) (by omega)
  dsimp only at g1 g2
  unfold g_law_c31
  rw [if_neg (show ¬ (zi i + 1 < 0 ∨ L ≤ (zi i + 1).toNatClampNeg) from i1)]
  rw [i_chk hk, g1, i_bd]
  rw [if_neg (show ¬ (zi i + 1 < 0 ∨ L ≤ (zi i + 1).toNatClampNeg) from i1)]
  rw [i_chk k1, g2, i_bd, if_pos rfl, show zi i + 6 = zi (i + 6) from zi_add i 6]
theorem lw_32 (hk : mK M 0 = 7) (h0 : 0 ≤ i) (h1 : i + 6 ≤ L) (hL : L ≤ 3072) (h : RunsTo (fun M => g_X9_need n M 0 (sc (zi i + 1).toNatClampNeg) (sc (zi i + 2).toNatClampNeg)) (fun M => g_X10_need n M 139 (sc (zi i + 1).toNatClampNeg) (sc (zi i + 2).toNatClampNeg)) M V) : ∃ M2, g_law_c32 n L sc 0 139 149 M (zi i) = some (.inl (M2, zi (i + 6))) ∧ TopE M2 V := by
  obtain ⟨v, M1, M2, g1, k1, g2, g3⟩ := h
  refine ⟨M2, ?_, g3⟩
  have i1 := law_ix (i := i) (j := 1) h0 h1 hL (by omega) (by omega)
  have i2 := law_ix (i := i) (j := 2) h0 h1 hL (by omega) (by omega)
  dsimp only at g1 g2
  unfold g_law_c32
  rw [if_neg (show ¬ (zi i + 1 < 0 ∨ L ≤ (zi i + 1).toNatClampNeg) from i1)]
  rw [if_neg (show ¬ (zi i + 2 < 0 ∨ L ≤ (zi i + 2).toNatClampNeg) from i2)]
  rw [i_chk hk, g1, i_bd]
  rw [if_neg (show ¬ (zi i + 1 < 0 ∨ L ≤ (zi i + 1).toNatClampNeg) from i1)]
  rw [if_neg (show ¬ (zi i + 2 < 0 ∨ L ≤ (zi i + 2).toNatClampNeg) from i2)]
  rw [i_chk k1, g2, i_bd, if_pos rfl, show zi i + 6 = zi (i + 6) from zi_add i 6]
theorem lw_33 (hk : mK M 0 = 7) (h0 : 0 ≤ i) (h1 : i + 6 ≤ L) (hL : L ≤ 3072) (h : RunsTo (fun M => g_X9_room n M 0 (sc (zi i + 1).toNatClampNeg) (sc (zi i + 2).toNatClampNeg)) (fun M => g_X10_room n M 139 (sc (zi i + 1).toNatClampNeg) (sc (zi i + 2).toNatClampNeg)) M V) : ∃ M2, g_law_c33 n L sc 0 139 149 M (zi i) = some (.inl (M2, zi (i + 6))) ∧ TopE M2 V := by
  obtain ⟨v, M1, M2, g1, k1, g2, g3⟩ := h
  refine ⟨M2, ?_, g3⟩
  have i1 := law_ix (i := i) (j := 1) h0 h1 hL (by omega) (by omega)
  have i2 := law_ix (i := i) (j := 2) h0 h1 hL (by omega) (by omega)
  dsimp only at g1 g2
  unfold g_law_c33
  rw [if_neg (show ¬ (zi i + 1 < 0 ∨ L ≤ (zi i + 1).toNatClampNeg) from i1)]
  rw [if_neg (show ¬ (zi i + 2 < 0 ∨ L ≤ (zi i + 2).toNatClampNeg) from i2)]
  rw [i_chk hk, g1, i_bd]
  rw [if_neg (show ¬ (zi i + 1 < 0 ∨ L ≤ (zi i + 1).toNatClampNeg) from i1)]
  rw [if_neg (show ¬ (zi i + 2 < 0 ∨ L ≤ (zi i + 2).toNatClampNeg) from i2)]
  rw [i_chk k1, g2, i_bd, if_pos rfl, show zi i + 6 = zi (i + 6) from zi_add i 6]
theorem lw_34 (hk : mK M 0 = 7) (h0 : 0 ≤ i) (h1 : i + 6 ≤ L) (hL : L ≤ 3072) (h : RunsTo (fun M => g_X9_would n M 0 (sc (zi i + 1).toNatClampNeg) (sc (zi i + 2).toNatClampNeg)) (fun M => g_X10_would n M 139 (sc (zi i + 1).toNatClampNeg) (sc (zi i + 2).toNatClampNeg)) M V) : ∃ M2, g_law_c34 n L sc 0 139 149 M (zi i) = some (.inl (M2, zi (i + 6))) ∧ TopE M2 V := by
  obtain ⟨v, M1, M2, g1, k1, g2, g3⟩ := h
  refine ⟨M2, ?_, g3⟩
  have i1 := law_ix (i := i) (j := 1) h0 h1 hL (by omega) (by omega)
  have i2 := law_ix (i := i) (j := 2) h0 h1 hL (by omega) (by omega)
  dsimp only at g1 g2
  unfold g_law_c34
  rw [if_neg (show ¬ (zi i + 1 < 0 ∨ L ≤ (zi i + 1).toNatClampNeg) from i1)]
  rw [if_neg (show ¬ (zi i + 2 < 0 ∨ L ≤ (zi i + 2).toNatClampNeg) from i2)]
  rw [i_chk hk, g1, i_bd]
  rw [if_neg (show ¬ (zi i + 1 < 0 ∨ L ≤ (zi i + 1).toNatClampNeg) from i1)]
  rw [if_neg (show ¬ (zi i + 2 < 0 ∨ L ≤ (zi i + 2).toNatClampNeg) from i2)]
  rw [i_chk k1, g2, i_bd, if_pos rfl, show zi i + 6 = zi (i + 6) from zi_add i 6]
theorem lw_35 (hk : mK M 0 = 7) (h0 : 0 ≤ i) (h1 : i + 6 ≤ L) (hL : L ≤ 3072) (h : RunsTo (fun M => g_X9_bestWait n M 0 (sc (zi i + 1).toNatClampNeg) (sc (zi i + 2).toNatClampNeg)) (fun M => g_X10_bestWait n M 139 (sc (zi i + 1).toNatClampNeg) (sc (zi i + 2).toNatClampNeg)) M V) : ∃ M2, g_law_c35 n L sc 0 139 149 M (zi i) = some (.inl (M2, zi (i + 6))) ∧ TopE M2 V := by
  obtain ⟨v, M1, M2, g1, k1, g2, g3⟩ := h
  refine ⟨M2, ?_, g3⟩
  have i1 := law_ix (i := i) (j := 1) h0 h1 hL (by omega) (by omega)
  have i2 := law_ix (i := i) (j := 2) h0 h1 hL (by omega) (by omega)
  dsimp only at g1 g2
  unfold g_law_c35
  rw [if_neg (show ¬ (zi i + 1 < 0 ∨ L ≤ (zi i + 1).toNatClampNeg) from i1)]
  rw [if_neg (show ¬ (zi i + 2 < 0 ∨ L ≤ (zi i + 2).toNatClampNeg) from i2)]
  rw [i_chk hk, g1, i_bd]
  rw [if_neg (show ¬ (zi i + 1 < 0 ∨ L ≤ (zi i + 1).toNatClampNeg) from i1)]
  rw [if_neg (show ¬ (zi i + 2 < 0 ∨ L ≤ (zi i + 2).toNatClampNeg) from i2)]
  rw [i_chk k1, g2, i_bd, if_pos rfl, show zi i + 6 = zi (i + 6) from zi_add i 6]
theorem lw_36 (hk : mK M 0 = 7) (h0 : 0 ≤ i) (h1 : i + 6 ≤ L) (hL : L ≤ 3072) (h : RunsTo (fun M => g_X9_project n M 0 (sc (zi i + 1).toNatClampNeg) (sc (zi i + 2).toNatClampNeg)) (fun M => g_X10_project n M 139 (sc (zi i + 1).toNatClampNeg) (sc (zi i + 2).toNatClampNeg)) M V) : ∃ M2, g_law_c36 n L sc 0 139 149 M (zi i) = some (.inl (M2, zi (i + 6))) ∧ TopE M2 V := by
  obtain ⟨v, M1, M2, g1, k1, g2, g3⟩ := h
  refine ⟨M2, ?_, g3⟩
  have i1 := law_ix (i := i) (j := 1) h0 h1 hL (by omega) (by omega)
  have i2 := law_ix (i := i) (j := 2) h0 h1 hL (by omega) (by omega)
  dsimp only at g1 g2
  unfold g_law_c36
  rw [if_neg (show ¬ (zi i + 1 < 0 ∨ L ≤ (zi i + 1).toNatClampNeg) from i1)]
  rw [if_neg (show ¬ (zi i + 2 < 0 ∨ L ≤ (zi i + 2).toNatClampNeg) from i2)]
  rw [i_chk hk, g1, i_bd]
  rw [if_neg (show ¬ (zi i + 1 < 0 ∨ L ≤ (zi i + 1).toNatClampNeg) from i1)]
  rw [if_neg (show ¬ (zi i + 2 < 0 ∨ L ≤ (zi i + 2).toNatClampNeg) from i2)]
  rw [i_chk k1, g2, i_bd, if_pos rfl, show zi i + 6 = zi (i + 6) from zi_add i 6]
theorem lw_37 (hk : mK M 0 = 7) (h0 : 0 ≤ i) (h1 : i + 6 ≤ L) (hL : L ≤ 3072) (h : RunsTo (fun M => g_X9_ifUse n M 0 (sc (zi i + 1).toNatClampNeg) (sc (zi i + 2).toNatClampNeg)) (fun M => g_X10_ifUse n M 139 (sc (zi i + 1).toNatClampNeg) (sc (zi i + 2).toNatClampNeg)) M V) : ∃ M2, g_law_c37 n L sc 0 139 149 M (zi i) = some (.inl (M2, zi (i + 6))) ∧ TopE M2 V := by
  obtain ⟨v, M1, M2, g1, k1, g2, g3⟩ := h
  refine ⟨M2, ?_, g3⟩
  have i1 := law_ix (i := i) (j := 1) h0 h1 hL (by omega) (by omega)
  have i2 := law_ix (i := i) (j := 2) h0 h1 hL (by omega) (by omega)
  dsimp only at g1 g2
  unfold g_law_c37
  rw [if_neg (show ¬ (zi i + 1 < 0 ∨ L ≤ (zi i + 1).toNatClampNeg) from i1)]
  rw [if_neg (show ¬ (zi i + 2 < 0 ∨ L ≤ (zi i + 2).toNatClampNeg) from i2)]
  rw [i_chk hk, g1, i_bd]
  rw [if_neg (show ¬ (zi i + 1 < 0 ∨ L ≤ (zi i + 1).toNatClampNeg) from i1)]
  rw [if_neg (show ¬ (zi i + 2 < 0 ∨ L ≤ (zi i + 2).toNatClampNeg) from i2)]
  rw [i_chk k1, g2, i_bd, if_pos rfl, show zi i + 6 = zi (i + 6) from zi_add i 6]
theorem lw_38 (hk : mK M 0 = 7) (h0 : 0 ≤ i) (h1 : i + 6 ≤ L) (hL : L ≤ 3072) (h : RunsTo (fun M => g_X9_owners n M 0 (sc (zi i + 1).toNatClampNeg)) (fun M => g_X10_owners n M 139 (sc (zi i + 1).toNatClampNeg)) M V) : ∃ M2, g_law_c38 n L sc 0 139 149 M (zi i) = some (.inl (M2, zi (i + 6))) ∧ TopE M2 V := by
  obtain ⟨v, M1, M2, g1, k1, g2, g3⟩ := h
  refine ⟨M2, ?_, g3⟩
  have i1 := law_ix (i := i) (j := 1) h0 h1 hL (by omega) (by omega)
  dsimp only at g1 g2
  unfold g_law_c38
  rw [if_neg (show ¬ (zi i + 1 < 0 ∨ L ≤ (zi i + 1).toNatClampNeg) from i1)]
  rw [i_chk hk, g1, i_bd]
  rw [if_neg (show ¬ (zi i + 1 < 0 ∨ L ≤ (zi i + 1).toNatClampNeg) from i1)]
  rw [i_chk k1, g2, i_bd, if_pos rfl, show zi i + 6 = zi (i + 6) from zi_add i 6]
theorem lw_39 (hk : mK M 0 = 7) (h0 : 0 ≤ i) (h1 : i + 6 ≤ L) (hL : L ≤ 3072) (h : RunsTo (fun M => g_X9_even n M 0 (sc (zi i + 1).toNatClampNeg) (sc (zi i + 2).toNatClampNeg)) (fun M => g_X10_even n M 139 (sc (zi i + 1).toNatClampNeg) (sc (zi i + 2).toNatClampNeg)) M V) : ∃ M2, g_law_c39 n L sc 0 139 149 M (zi i) = some (.inl (M2, zi (i + 6))) ∧ TopE M2 V := by
  obtain ⟨v, M1, M2, g1, k1, g2, g3⟩ := h
  refine ⟨M2, ?_, g3⟩
  have i1 := law_ix (i := i) (j := 1) h0 h1 hL (by omega) (by omega)
  have i2 := law_ix (i := i) (j := 2) h0 h1 hL (by omega) (by omega)
  dsimp only at g1 g2
  unfold g_law_c39
  rw [if_neg (show ¬ (zi i + 1 < 0 ∨ L ≤ (zi i + 1).toNatClampNeg) from i1)]
  rw [if_neg (show ¬ (zi i + 2 < 0 ∨ L ≤ (zi i + 2).toNatClampNeg) from i2)]
  rw [i_chk hk, g1, i_bd]
  rw [if_neg (show ¬ (zi i + 1 < 0 ∨ L ≤ (zi i + 1).toNatClampNeg) from i1)]
  rw [if_neg (show ¬ (zi i + 2 < 0 ∨ L ≤ (zi i + 2).toNatClampNeg) from i2)]
  rw [i_chk k1, g2, i_bd, if_pos rfl, show zi i + 6 = zi (i + 6) from zi_add i 6]
theorem lw_40 (hk : mK M 0 = 7) (h0 : 0 ≤ i) (h1 : i + 6 ≤ L) (hL : L ≤ 3072) (h : RunsTo (fun M => g_X9_worth n M 0 (sc (zi i + 1).toNatClampNeg)) (fun M => g_X10_worth n M 139 (sc (zi i + 1).toNatClampNeg)) M V) : ∃ M2, g_law_c40 n L sc 0 139 149 M (zi i) = some (.inl (M2, zi (i + 6))) ∧ TopE M2 V := by
  obtain ⟨v, M1, M2, g1, k1, g2, g3⟩ := h
  refine ⟨M2, ?_, g3⟩
  have i1 := law_ix (i := i) (j := 1) h0 h1 hL (by omega) (by omega)
  dsimp only at g1 g2
  unfold g_law_c40
  rw [if_neg (show ¬ (zi i + 1 < 0 ∨ L ≤ (zi i + 1).toNatClampNeg) from i1)]
  rw [i_chk hk, g1, i_bd]
  rw [if_neg (show ¬ (zi i + 1 < 0 ∨ L ≤ (zi i + 1).toNatClampNeg) from i1)]
  rw [i_chk k1, g2, i_bd, if_pos rfl, show zi i + 6 = zi (i + 6) from zi_add i 6]
theorem lw_41 (hk : mK M 0 = 7) (h0 : 0 ≤ i) (h1 : i + 6 ≤ L) (hL : L ≤ 3072) (h : RunsTo (fun M => g_X9_tried n M 0 (sc (zi i + 1).toNatClampNeg) (sc (zi i + 2).toNatClampNeg) (sc (zi i + 3).toNatClampNeg)) (fun M => g_X10_tried n M 139 (sc (zi i + 1).toNatClampNeg) (sc (zi i + 2).toNatClampNeg) (sc (zi i + 3).toNatClampNeg)) M V) : ∃ M2, g_law_c41 n L sc 0 139 149 M (zi i) = some (.inl (M2, zi (i + 6))) ∧ TopE M2 V := by
  obtain ⟨v, M1, M2, g1, k1, g2, g3⟩ := h
  refine ⟨M2, ?_, g3⟩
  have i1 := law_ix (i := i) (j := 1) h0 h1 hL (by omega) (by omega)
  have i2 := law_ix (i := i) (j := 2) h0 h1 hL (by omega) (by omega)
  have i3 := law_ix (i := i) (j := 3) h0 h1 hL (by omega) (by omega)
  dsimp only at g1 g2
  unfold g_law_c41
  rw [if_neg (show ¬ (zi i + 1 < 0 ∨ L ≤ (zi i + 1).toNatClampNeg) from i1)]
  rw [if_neg (show ¬ (zi i + 2 < 0 ∨ L ≤ (zi i + 2).toNatClampNeg) from i2)]
  rw [if_neg (show ¬ (zi i + 3 < 0 ∨ L ≤ (zi i + 3).toNatClampNeg) from i3)]
  rw [i_chk hk, g1, i_bd]
  rw [if_neg (show ¬ (zi i + 1 < 0 ∨ L ≤ (zi i + 1).toNatClampNeg) from i1)]
  rw [if_neg (show ¬ (zi i + 2 < 0 ∨ L ≤ (zi i + 2).toNatClampNeg) from i2)]
  rw [if_neg (show ¬ (zi i + 3 < 0 ∨ L ≤ (zi i + 3).toNatClampNeg) from i3)]
  rw [i_chk k1, g2, i_bd, if_pos rfl, show zi i + 6 = zi (i + 6) from zi_add i 6]
theorem lw_42 (hk : mK M 0 = 7) (h0 : 0 ≤ i) (h1 : i + 6 ≤ L) (hL : L ≤ 3072) (h : RunsTo (fun M => g_X9_chance n M 0 (sc (zi i + 1).toNatClampNeg) (sc (zi i + 2).toNatClampNeg) (sc (zi i + 3).toNatClampNeg)) (fun M => g_X10_chance n M 139 (sc (zi i + 1).toNatClampNeg) (sc (zi i + 2).toNatClampNeg) (sc (zi i + 3).toNatClampNeg)) M V) : ∃ M2, g_law_c42 n L sc 0 139 149 M (zi i) = some (.inl (M2, zi (i + 6))) ∧ TopE M2 V := by
  obtain ⟨v, M1, M2, g1, k1, g2, g3⟩ := h
  refine ⟨M2, ?_, g3⟩
  have i1 := law_ix (i := i) (j := 1) h0 h1 hL (by omega) (by omega)
  have i2 := law_ix (i := i) (j := 2) h0 h1 hL (by omega) (by omega)
  have i3 := law_ix (i := i) (j := 3) h0 h1 hL (by omega) (by omega)
  dsimp only at g1 g2
  unfold g_law_c42
  rw [if_neg (show ¬ (zi i + 1 < 0 ∨ L ≤ (zi i + 1).toNatClampNeg) from i1)]
  rw [if_neg (show ¬ (zi i + 2 < 0 ∨ L ≤ (zi i + 2).toNatClampNeg) from i2)]
  rw [if_neg (show ¬ (zi i + 3 < 0 ∨ L ≤ (zi i + 3).toNatClampNeg) from i3)]
  rw [i_chk hk, g1, i_bd]
  rw [if_neg (show ¬ (zi i + 1 < 0 ∨ L ≤ (zi i + 1).toNatClampNeg) from i1)]
  rw [if_neg (show ¬ (zi i + 2 < 0 ∨ L ≤ (zi i + 2).toNatClampNeg) from i2)]
  rw [if_neg (show ¬ (zi i + 3 < 0 ∨ L ≤ (zi i + 3).toNatClampNeg) from i3)]
  rw [i_chk k1, g2, i_bd, if_pos rfl, show zi i + 6 = zi (i + 6) from zi_add i 6]
theorem lw_43 (hk : mK M 0 = 7) (h0 : 0 ≤ i) (h1 : i + 6 ≤ L) (hL : L ≤ 3072) (h : RunsTo (fun M => g_X9_farthest n M 0 (sc (zi i + 1).toNatClampNeg)) (fun M => g_X10_farthest n M 139 (sc (zi i + 1).toNatClampNeg)) M V) : ∃ M2, g_law_c43 n L sc 0 139 149 M (zi i) = some (.inl (M2, zi (i + 6))) ∧ TopE M2 V := by
  obtain ⟨v, M1, M2, g1, k1, g2, g3⟩ := h
  refine ⟨M2, ?_, g3⟩
  have i1 := law_ix (i := i) (j := 1) h0 h1 hL (by omega) (by omega)
  dsimp only at g1 g2
  unfold g_law_c43
  rw [if_neg (show ¬ (zi i + 1 < 0 ∨ L ≤ (zi i + 1).toNatClampNeg) from i1)]
  rw [i_chk hk, g1, i_bd]
  rw [if_neg (show ¬ (zi i + 1 < 0 ∨ L ≤ (zi i + 1).toNatClampNeg) from i1)]
  rw [i_chk k1, g2, i_bd, if_pos rfl, show zi i + 6 = zi (i + 6) from zi_add i 6]
theorem lw_44 (hk : mK M 0 = 7) (h0 : 0 ≤ i) (h1 : i + 6 ≤ L) (hL : L ≤ 3072) (h : RunsTo (fun M => g_X9_undo n M 0 ) (fun M => g_X10_undo n M 139 ) M V) : ∃ M2, g_law_c44 n L sc 0 139 149 M (zi i) = some (.inl (M2, zi (i + 6))) ∧ TopE M2 V := by
  obtain ⟨v, M1, M2, g1, k1, g2, g3⟩ := h
  refine ⟨M2, ?_, g3⟩
  dsimp only at g1 g2
  unfold g_law_c44
  rw [i_chk hk, g1, i_bd]
  rw [i_chk k1, g2, i_bd, if_pos rfl, show zi i + 6 = zi (i + 6) from zi_add i 6]
theorem lw_45 (hk : mK M 0 = 7) (h0 : 0 ≤ i) (h1 : i + 6 ≤ L) (hL : L ≤ 3072) (h : RunsTo (fun M => g_X9_keep n M 0 ) (fun M => g_X10_keep n M 139 ) M V) : ∃ M2, g_law_c45 n L sc 0 139 149 M (zi i) = some (.inl (M2, zi (i + 6))) ∧ TopE M2 V := by
  obtain ⟨v, M1, M2, g1, k1, g2, g3⟩ := h
  refine ⟨M2, ?_, g3⟩
  dsimp only at g1 g2
  unfold g_law_c45
  rw [i_chk hk, g1, i_bd]
  rw [i_chk k1, g2, i_bd, if_pos rfl, show zi i + 6 = zi (i + 6) from zi_add i 6]
theorem lw_46 (hk : mK M 0 = 7) (h0 : 0 ≤ i) (h1 : i + 6 ≤ L) (hL : L ≤ 3072) (h : RunsTo (fun M => g_X9_back n M 0 ) (fun M => g_X10_back n M 139 ) M V) : ∃ M2, g_law_c46 n L sc 0 139 149 M (zi i) = some (.inl (M2, zi (i + 6))) ∧ TopE M2 V := by
  obtain ⟨v, M1, M2, g1, k1, g2, g3⟩ := h
  refine ⟨M2, ?_, g3⟩
  dsimp only at g1 g2
  unfold g_law_c46
  rw [i_chk hk, g1, i_bd]
  rw [i_chk k1, g2, i_bd, if_pos rfl, show zi i + 6 = zi (i + 6) from zi_add i 6]
theorem lw_47 (hk : mK M 0 = 7) (h0 : 0 ≤ i) (h1 : i + 6 ≤ L) (hL : L ≤ 3072) (h : RunsTo (fun M => g_X9_count n M 0 (sc (zi i + 1).toNatClampNeg)) (fun M => g_X10_count n M 139 (sc (zi i + 1).toNatClampNeg)) M V) : ∃ M2, g_law_c47 n L sc 0 139 149 M (zi i) = some (.inl (M2, zi (i + 6))) ∧ TopE M2 V := by
  obtain ⟨v, M1, M2, g1, k1, g2, g3⟩ := h
  refine ⟨M2, ?_, g3⟩
  have i1 := law_ix (i := i) (j := 1) h0 h1 hL (by omega) (by omega)
  dsimp only at g1 g2
  unfold g_law_c47
  rw [if_neg (show ¬ (zi i + 1 < 0 ∨ L ≤ (zi i + 1).toNatClampNeg) from i1)]
  rw [i_chk hk, g1, i_bd]
  rw [if_neg (show ¬ (zi i + 1 < 0 ∨ L ≤ (zi i + 1).toNatClampNeg) from i1)]
  rw [i_chk k1, g2, i_bd, if_pos rfl, show zi i + 6 = zi (i + 6) from zi_add i 6]
end M13L
