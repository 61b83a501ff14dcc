def g_law_c0 (n L : Nat) (sc : Nat → Int32) (x m out : Nat) (M : MemT) (i : Int32) : Option ((MemT × Int32) ⊕ (Int32 × MemT)) :=
  (if (i + 1) < 0 ∨ L ≤ (i + 1).toNatClampNeg then none else (if (i + 2) < 0 ∨ L ≤ (i + 2).toNatClampNeg then none else (if (i + 3) < 0 ∨ L ≤ (i + 3).toNatClampNeg then none else (if (i + 4) < 0 ∨ L ≤ (i + 4).toNatClampNeg then none else (if (i + 5) < 0 ∨ L ≤ (i + 5).toNatClampNeg then none else chk M 7 x (bd (g_X9_feed n M x (sc (i + 1).toNatClampNeg) (sc (i + 2).toNatClampNeg) (sc (i + 3).toNatClampNeg) (sc (i + 4).toNatClampNeg) (sc (i + 5).toNatClampNeg)) (fun r15 M16 => (if (i + 1) < 0 ∨ L ≤ (i + 1).toNatClampNeg then none else (if (i + 2) < 0 ∨ L ≤ (i + 2).toNatClampNeg then none else (if (i + 3) < 0 ∨ L ≤ (i + 3).toNatClampNeg then none else (if (i + 4) < 0 ∨ L ≤ (i + 4).toNatClampNeg then none else (if (i + 5) < 0 ∨ L ≤ (i + 5).toNatClampNeg then none else chk M16 8 m (bd (g_X10_feed n M16 m (sc (i + 1).toNatClampNeg) (sc (i + 2).toNatClampNeg) (sc (i + 3).toNatClampNeg) (sc (i + 4).toNatClampNeg) (sc (i + 5).toNatClampNeg)) (fun r17 M18 => (if r15 = r17 then some (.inl (M18, i + 6)) else some (.inr ((0, M18))))))))))))))))))
set_option maxHeartbeats 4000000 in
set_option maxRecDepth 100000 in
theorem t_law_c0 {X : CxT} {A : Int32 × MemT → Prop} {B : (MemT × Int32) ⊕ (Int32 × MemT) → Prop} {j : Nat} (hj : j < 513) (n L : Nat) (sc : Nat → Int32) (x m out : Nat) (M : MemT) (i : Int32) (hX : CxOk X cL_law 7 RL room_1) (hl : (xl X).stackTraces = false) (hR : RetL X A) (hS : Scr X L sc) (hB : ∀ s1, B (.inl s1) → WW X 7 (160 + (j + 1) * 60) (64282 + (j + 1) * 3000) 23 (lawL x m out s1) [] (lawM s1)) (hI : ∀ u, B (.inr u) → A u) : Sim X 7 B (g_law_c0 n L sc x m out M i) (160 + j * 60) (64282 + j * 3000) 248 [some (kv ((some 70))), some (.ref x), some (.ref m), some (.ref out), some (.int i), none, none] [] M := by
  unfold g_law_c0
  refine s_aload_n hX dL_law_248 rfl ?_
  refine s_kloadK_n (r := (some 70)) hX dL_law_249 rfl ?_
  refine s_iload hX dL_law_250 rfl ?_
  refine s_iconst (v := 1) hX dL_law_252 kc_1 ?_
  refine s_iadd hX dL_law_253 ?_
  refine s_sld hX hS dL_law_254 ?_
  refine s_kloadK_n (r := (some 70)) hX dL_law_255 rfl ?_
  refine s_iload hX dL_law_256 rfl ?_
  refine s_iconst (v := 2) hX dL_law_258 kc_2 ?_
  refine s_iadd hX dL_law_259 ?_
  refine s_sld hX hS dL_law_260 ?_
  refine s_kloadK_n (r := (some 70)) hX dL_law_261 rfl ?_
  refine s_iload hX dL_law_262 rfl ?_
  refine s_iconst (v := 3) hX dL_law_264 kc_3 ?_
  refine s_iadd hX dL_law_265 ?_
  refine s_sld hX hS dL_law_266 ?_
  refine s_kloadK_n (r := (some 70)) hX dL_law_267 rfl ?_
  refine s_iload hX dL_law_268 rfl ?_
  refine s_iconst (v := 4) hX dL_law_270 kc_4 ?_
  refine s_iadd hX dL_law_271 ?_
  refine s_sld hX hS dL_law_272 ?_
  refine s_kloadK_n (r := (some 70)) hX dL_law_273 rfl ?_
  refine s_iload hX dL_law_274 rfl ?_
  refine s_iconst (v := 5) hX dL_law_276 kc_5 ?_
  refine s_iadd hX dL_law_277 ?_
  refine s_sld hX hS dL_law_278 ?_
  refine s_callVi (ck1 := 160 + j * 60) (sk1 := 64282 + j * 3000) (ci := 7) hX dL_law_279 k_X9_feed q_448 (c_X9_feed n M x (sc (i + 1).toNatClampNeg) (sc (i + 2).toNatClampNeg) (sc (i + 3).toNatClampNeg) (sc (i + 4).toNatClampNeg) (sc (i + 5).toNatClampNeg)) (by decide) rfl rfl rfl ⟨Nat.le_of_ble_eq_true rfl, Nat.le_of_ble_eq_true rfl⟩ ⟨(by first | omega | (simp only [room_1, NC]; omega)), (by first | omega | (simp only [room_1, NC]; omega))⟩ (Nat.le_of_ble_eq_true rfl) rfl rfl (fun r15 M16 => ?_)
  refine s_aload_n hX dL_law_282 rfl ?_
  refine s_kloadK_n (r := (some 70)) hX dL_law_283 rfl ?_
  refine s_iload hX dL_law_284 rfl ?_
  refine s_iconst (v := 1) hX dL_law_286 kc_1 ?_
  refine s_iadd hX dL_law_287 ?_
  refine s_sld hX hS dL_law_288 ?_
  refine s_kloadK_n (r := (some 70)) hX dL_law_289 rfl ?_
  refine s_iload hX dL_law_290 rfl ?_
  refine s_iconst (v := 2) hX dL_law_292 kc_2 ?_
  refine s_iadd hX dL_law_293 ?_
  refine s_sld hX hS dL_law_294 ?_
  refine s_kloadK_n (r := (some 70)) hX dL_law_295 rfl ?_
  refine s_iload hX dL_law_296 rfl ?_
  refine s_iconst (v := 3) hX dL_law_298 kc_3 ?_
  refine s_iadd hX dL_law_299 ?_
  refine s_sld hX hS dL_law_300 ?_
  refine s_kloadK_n (r := (some 70)) hX dL_law_301 rfl ?_
  refine s_iload hX dL_law_302 rfl ?_
  refine s_iconst (v := 4) hX dL_law_304 kc_4 ?_
  refine s_iadd hX dL_law_305 ?_
  refine s_sld hX hS dL_law_306 ?_
  refine s_kloadK_n (r := (some 70)) hX dL_law_307 rfl ?_
  refine s_iload hX dL_law_308 rfl ?_
  refine s_iconst (v := 5) hX dL_law_310 kc_5 ?_
  refine s_iadd hX dL_law_311 ?_
  refine s_sld hX hS dL_law_312 ?_
  refine s_callVi (ck1 := 160 + j * 60) (sk1 := 64282 + j * 3000) (ci := 8) hX dL_law_313 k_X10_feed q_1398 (c_X10_feed n M16 m (sc (i + 1).toNatClampNeg) (sc (i + 2).toNatClampNeg) (sc (i + 3).toNatClampNeg) (sc (i + 4).toNatClampNeg) (sc (i + 5).toNatClampNeg)) (by decide) rfl rfl rfl ⟨Nat.le_of_ble_eq_true rfl, Nat.le_of_ble_eq_true rfl⟩ ⟨(by first | omega | (simp only [room_1, NC]; omega)), (by first | omega | (simp only [room_1, NC]; omega))⟩ (Nat.le_of_ble_eq_true rfl) rfl rfl (fun r17 M18 => ?_)
  refine s_iceq (tgt := 2091) hX dL_law_316 rfl ?_ ?_
  · refine s_iinc4 (v := i + 6) hX dL_law_2091 rfl (by first | exact trivial | exact rfl) (Nat.le_of_ble_eq_true rfl) ?_
    refine s_goto (tgt := 23) hX dL_law_2094 rfl ?_
    refine s_widen (ck1 := 160 + (j + 1) * 60) (sk1 := 64282 + (j + 1) * 3000) (by omega) (by omega) ?_
    exact s_back hB
  · refine s_iconst (v := 0) hX dL_law_319 kc_0 ?_
    exact s_inr hI (s_lawret hX hR dL_law_320 (by first | omega | (simp only [room_1, NC]; omega)) (by first | omega | (simp only [room_1, NC]; omega)))
def g_law_c1 (n L : Nat) (sc : Nat → Int32) (x m out : Nat) (M : MemT) (i : Int32) : Option ((MemT × Int32) ⊕ (Int32 × MemT)) :=
  (if (i + 1) < 0 ∨ L ≤ (i + 1).toNatClampNeg then none else chk M 7 x (bd (g_X9_text n M x (sc (i + 1).toNatClampNeg)) (fun r20 M21 => (if (i + 1) < 0 ∨ L ≤ (i + 1).toNatClampNeg then none else chk M21 8 m (bd (g_X10_text n M21 m (sc (i + 1).toNatClampNeg)) (fun r22 M23 => (if r20 = r22 then some (.inl (M23, i + 6)) else some (.inr ((0, M23))))))))))
set_option maxHeartbeats 4000000 in
set_option maxRecDepth 100000 in
theorem t_law_c1 {X : CxT} {A : Int32 × MemT → Prop} {B : (MemT × Int32) ⊕ (Int32 × MemT) → Prop} {j : Nat} (hj : j < 513) (n L : Nat) (sc : Nat → Int32) (x m out : Nat) (M : MemT) (i : Int32) (hX : CxOk X cL_law 7 RL room_1) (hl : (xl X).stackTraces = false) (hR : RetL X A) (hS : Scr X L sc) (hB : ∀ s1, B (.inl s1) → WW X 7 (160 + (j + 1) * 60) (64282 + (j + 1) * 3000) 23 (lawL x m out s1) [] (lawM s1)) (hI : ∀ u, B (.inr u) → A u) : Sim X 7 B (g_law_c1 n L sc x m out M i) (160 + j * 60) (64282 + j * 3000) 321 [some (kv ((some 70))), some (.ref x), some (.ref m), some (.ref out), some (.int i), none, none] [] M := by
  unfold g_law_c1
  refine s_aload_n hX dL_law_321 rfl ?_
  refine s_kloadK_n (r := (some 70)) hX dL_law_322 rfl ?_
  refine s_iload hX dL_law_323 rfl ?_
  refine s_iconst (v := 1) hX dL_law_325 kc_1 ?_
  refine s_iadd hX dL_law_326 ?_
  refine s_sld hX hS dL_law_327 ?_
  refine s_callVi (ck1 := 160 + j * 60) (sk1 := 64282 + j * 3000) (ci := 7) hX dL_law_328 k_X9_text q_456 (c_X9_text n M x (sc (i + 1).toNatClampNeg)) (by decide) rfl rfl rfl ⟨Nat.le_of_ble_eq_true rfl, Nat.le_of_ble_eq_true rfl⟩ ⟨(by first | omega | (simp only [room_1, NC]; omega)), (by first | omega | (simp only [room_1, NC]; omega))⟩ (Nat.le_of_ble_eq_true rfl) rfl rfl (fun r20 M21 => ?_)
  refine s_aload_n hX dL_law_331 rfl ?_
  refine s_kloadK_n (r := (some 70)) hX dL_law_332 rfl ?_
  refine s_iload hX dL_law_333 rfl ?_
  refine s_iconst (v := 1) hX dL_law_335 kc_1 ?_
  refine s_iadd hX dL_law_336 ?_
  refine s_sld hX hS dL_law_337 ?_
  refine s_callVi (ck1 := 160 + j * 60) (sk1 := 64282 + j * 3000) (ci := 8) hX dL_law_338 k_X10_text q_1402 (c_X10_text n M21 m (sc (i + 1).toNatClampNeg)) (by decide) rfl rfl rfl ⟨Nat.le_of_ble_eq_true rfl, Nat.le_of_ble_eq_true rfl⟩ ⟨(by first | omega | (simp only [room_1, NC]; omega)), (by first | omega | (simp only [room_1, NC]; omega))⟩ (Nat.le_of_ble_eq_true rfl) rfl rfl (fun r22 M23 => ?_)
  refine s_iceq (tgt := 2091) hX dL_law_341 rfl ?_ ?_
  · refine s_iinc4 (v := i + 6) hX dL_law_2091 rfl (by first | exact trivial | exact rfl) (Nat.le_of_ble_eq_true rfl) ?_
    refine s_goto (tgt := 23) hX dL_law_2094 rfl ?_
    refine s_widen (ck1 := 160 + (j + 1) * 60) (sk1 := 64282 + (j + 1) * 3000) (by omega) (by omega) ?_
    exact s_back hB
  · refine s_iconst (v := 0) hX dL_law_344 kc_0 ?_
    exact s_inr hI (s_lawret hX hR dL_law_345 (by first | omega | (simp only [room_1, NC]; omega)) (by first | omega | (simp only [room_1, NC]; omega)))
def g_law_c2 (n L : Nat) (sc : Nat → Int32) (x m out : Nat) (M : MemT) (i : Int32) : Option ((MemT × Int32) ⊕ (Int32 × MemT)) :=
  (if (i + 1) < 0 ∨ L ≤ (i + 1).toNatClampNeg then none else chk M 7 x (bd (g_X9_fault n M x (sc (i + 1).toNatClampNeg)) (fun r25 M26 => (if (i + 1) < 0 ∨ L ≤ (i + 1).toNatClampNeg then none else chk M26 8 m (bd (g_X10_fault n M26 m (sc (i + 1).toNatClampNeg)) (fun r27 M28 => (if r25 = r27 then some (.inl (M28, i + 6)) else some (.inr ((0, M28))))))))))
set_option maxHeartbeats 4000000 in
set_option maxRecDepth 100000 in
theorem t_law_c2 {X : CxT} {A : Int32 × MemT → Prop} {B : (MemT × Int32) ⊕ (Int32 × MemT) → Prop} {j : Nat} (hj : j < 513) (n L : Nat) (sc : Nat → Int32) (x m out : Nat) (M : MemT) (i : Int32) (hX : CxOk X cL_law 7 RL room_1) (hl : (xl X).stackTraces = false) (hR : RetL X A) (hS : Scr X L sc) (hB : ∀ s1, B (.inl s1) → WW X 7 (160 + (j + 1) * 60) (64282 + (j + 1) * 3000) 23 (lawL x m out s1) [] (lawM s1)) (hI : ∀ u, B (.inr u) → A u) : Sim X 7 B (g_law_c2 n L sc x m out M i) (160 + j * 60) (64282 + j * 3000) 346 [some (kv ((some 70))), some (.ref x), some (.ref m), some (.ref out), some (.int i), none, none] [] M := by
  unfold g_law_c2
  refine s_aload_n hX dL_law_346 rfl ?_
  refine s_kloadK_n (r := (some 70)) hX dL_law_347 rfl ?_
  refine s_iload hX dL_law_348 rfl ?_
  refine s_iconst (v := 1) hX dL_law_350 kc_1 ?_
  refine s_iadd hX dL_law_351 ?_
  refine s_sld hX hS dL_law_352 ?_
  refine s_callVi (ck1 := 160 + j * 60) (sk1 := 64282 + j * 3000) (ci := 7) hX dL_law_353 k_X9_fault q_698 (c_X9_fault n M x (sc (i + 1).toNatClampNeg)) (by decide) rfl rfl rfl ⟨Nat.le_of_ble_eq_true rfl, Nat.le_of_ble_eq_true rfl⟩ ⟨(by first | omega | (simp only [room_1, NC]; omega)), (by first | omega | (simp only [room_1, NC]; omega))⟩ (Nat.le_of_ble_eq_true rfl) rfl rfl (fun r25 M26 => ?_)
  refine s_aload_n hX dL_law_356 rfl ?_
  refine s_kloadK_n (r := (some 70)) hX dL_law_357 rfl ?_
  refine s_iload hX dL_law_358 rfl ?_
  refine s_iconst (v := 1) hX dL_law_360 kc_1 ?_
  refine s_iadd hX dL_law_361 ?_
  refine s_sld hX hS dL_law_362 ?_
  refine s_callVi (ck1 := 160 + j * 60) (sk1 := 64282 + j * 3000) (ci := 8) hX dL_law_363 k_X10_fault q_1482 (c_X10_fault n M26 m (sc (i + 1).toNatClampNeg)) (by decide) rfl rfl rfl ⟨Nat.le_of_ble_eq_true rfl, Nat.le_of_ble_eq_true rfl⟩ ⟨(by first | omega | (simp only [room_1, NC]; omega)), (by first | omega | (simp only [room_1, NC]; omega))⟩ (Nat.le_of_ble_eq_true rfl) rfl rfl (fun r27 M28 => ?_)
  refine s_iceq (tgt := 2091) hX dL_law_366 rfl ?_ ?_
  · refine s_iinc4 (v := i + 6) hX dL_law_2091 rfl (by first | exact trivial | exact rfl) (Nat.le_of_ble_eq_true rfl) ?_
    refine s_goto (tgt := 23) hX dL_law_2094 rfl ?_
    refine s_widen (ck1 := 160 + (j + 1) * 60) (sk1 := 64282 + (j + 1) * 3000) (by omega) (by omega) ?_
    exact s_back hB
  · refine s_iconst (v := 0) hX dL_law_369 kc_0 ?_
    exact s_inr hI (s_lawret hX hR dL_law_370 (by first | omega | (simp only [room_1, NC]; omega)) (by first | omega | (simp only [room_1, NC]; omega)))
def g_law_c3 (n L : Nat) (sc : Nat → Int32) (x m out : Nat) (M : MemT) (i : Int32) : Option ((MemT × Int32) ⊕ (Int32 × MemT)) :=
  (if (i + 1) < 0 ∨ L ≤ (i + 1).toNatClampNeg then none else chk M 7 x (bd (g_X9_named n M x (sc (i + 1).toNatClampNeg)) (fun r30 M31 => (if (i + 1) < 0 ∨ L ≤ (i + 1).toNatClampNeg then none else chk M31 8 m (bd (g_X10_named n M31 m (sc (i + 1).toNatClampNeg)) (fun r32 M33 => (if r30 = r32 then some (.inl (M33, i + 6)) else some (.inr ((0, M33))))))))))
set_option maxHeartbeats 4000000 in
set_option maxRecDepth 100000 in
theorem t_law_c3 {X : CxT} {A : Int32 × MemT → Prop} {B : (MemT × Int32) ⊕ (Int32 × MemT) → Prop} {j : Nat} (hj : j < 513) (n L : Nat) (sc : Nat → Int32) (x m out : Nat) (M : MemT) (i : Int32) (hX : CxOk X cL_law 7 RL room_1) (hl : (xl X).stackTraces = false) (hR : RetL X A) (hS : Scr X L sc) (hB : ∀ s1, B (.inl s1) → WW X 7 (160 + (j + 1) * 60) (64282 + (j + 1) * 3000) 23 (lawL x m out s1) [] (lawM s1)) (hI : ∀ u, B (.inr u) → A u) : Sim X 7 B (g_law_c3 n L sc x m out M i) (160 + j * 60) (64282 + j * 3000) 371 [some (kv ((some 70))), some (.ref x), some (.ref m), some (.ref out), some (.int i), none, none] [] M := by
  unfold g_law_c3
  refine s_aload_n hX dL_law_371 rfl ?_
  refine s_kloadK_n (r := (some 70)) hX dL_law_372 rfl ?_
  refine s_iload hX dL_law_373 rfl ?_
  refine s_iconst (v := 1) hX dL_law_375 kc_1 ?_
  refine s_iadd hX dL_law_376 ?_
  refine s_sld hX hS dL_law_377 ?_
  refine s_callVi (ck1 := 160 + j * 60) (sk1 := 64282 + j * 3000) (ci := 7) hX dL_law_378 k_X9_named q_702 (c_X9_named n M x (sc (i + 1).toNatClampNeg)) (by decide) rfl rfl rfl ⟨Nat.le_of_ble_eq_true rfl, Nat.le_of_ble_eq_true rfl⟩ ⟨(by first | omega | (simp only [room_1, NC]; omega)), (by first | omega | (simp only [room_1, NC]; omega))⟩ (Nat.le_of_ble_eq_true rfl) rfl rfl (fun r30 M31 => ?_)
  refine s_aload_n hX dL_law_381 rfl ?_
  refine s_kloadK_n (r := (some 70)) hX dL_law_382 rfl ?_
  refine s_iload hX dL_law_383 rfl ?_
  refine s_iconst (v := 1) hX dL_law_385 kc_1 ?_
  refine s_iadd hX dL_law_386 ?_
  refine s_sld hX hS dL_law_387 ?_
  refine s_callVi (ck1 := 160 + j * 60) (sk1 := 64282 + j * 3000) (ci := 8) hX dL_law_388 k_X10_named q_1486 (c_X10_named n M31 m (sc (i + 1).toNatClampNeg)) (by decide) rfl rfl rfl ⟨Nat.le_of_ble_eq_true rfl, Nat.le_of_ble_eq_true rfl⟩ ⟨(by first | omega | (simp only [room_1, NC]; omega)), (by first | omega | (simp only [room_1, NC]; omega))⟩ (Nat.le_of_ble_eq_true rfl) rfl rfl (fun r32 M33 => ?_)
  refine s_iceq (tgt := 2091) hX dL_law_391 rfl ?_ ?_
  · refine s_iinc4 (v := i + 6) hX dL_law_2091 rfl (by first | exact trivial | exact rfl) (Nat.le_of_ble_eq_true rfl) ?_
    refine s_goto (tgt := 23) hX dL_law_2094 rfl ?_
    refine s_widen (ck1 := 160 + (j + 1) * 60) (sk1 := 64282 + (j + 1) * 3000) (by omega) (by omega) ?_
    exact s_back hB
  · refine s_iconst (v := 0) hX dL_law_394 kc_0 ?_
    exact s_inr hI (s_lawret hX hR dL_law_395 (by first | omega | (simp only [room_1, NC]; omega)) (by first | omega | (simp only [room_1, NC]; omega)))
def g_law_c4 (n L : Nat) (sc : Nat → Int32) (x m out : Nat) (M : MemT) (i : Int32) : Option ((MemT × Int32) ⊕ (Int32 × MemT)) :=
  (if (i + 1) < 0 ∨ L ≤ (i + 1).toNatClampNeg then none else (if (i + 2) < 0 ∨ L ≤ (i + 2).toNatClampNeg then none else bd (g_L_trader n M x (sc (i + 1).toNatClampNeg) (sc (i + 2).toNatClampNeg) out) (fun r35 M36 => (if (i + 1) < 0 ∨ L ≤ (i + 1).toNatClampNeg then none else (if (i + 2) < 0 ∨ L ≤ (i + 2).toNatClampNeg then none else chk M36 8 m (bd (g_X10_trader n M36 m (sc (i + 1).toNatClampNeg) (sc (i + 2).toNatClampNeg)) (fun r37 M38 => chk M38 8 m (bd (g_X10_thrown n M38 m) (fun r39 M40 => (if r39 = r35 then (if r35 = 0 then (aJ M40 out 0).bind (fun v41 => (if (lg_cmp v41 (Int32.toInt64 r37)) = 0 then some (.inl (M40, i + 6)) else some (.inr ((0, M40))))) else some (.inl (M40, i + 6))) else some (.inr ((0, M40)))))))))))))
set_option maxHeartbeats 4000000 in
set_option maxRecDepth 100000 in
theorem t_law_c4 {X : CxT} {A : Int32 × MemT → Prop} {B : (MemT × Int32) ⊕ (Int32 × MemT) → Prop} {j : Nat} (hj : j < 513) (n L : Nat) (sc : Nat → Int32) (x m out : Nat) (M : MemT) (i : Int32) (hX : CxOk X cL_law 7 RL room_1) (hl : (xl X).stackTraces = false) (hR : RetL X A) (hS : Scr X L sc) (hB : ∀ s1, B (.inl s1) → WW X 7 (160 + (j + 1) * 60) (64282 + (j + 1) * 3000) 23 (lawL x m out s1) [] (lawM s1)) (hI : ∀ u, B (.inr u) → A u) : Sim X 7 B (g_law_c4 n L sc x m out M i) (160 + j * 60) (64282 + j * 3000) 396 [some (kv ((some 70))), some (.ref x), some (.ref m), some (.ref out), some (.int i), none, none] [] M := by
  unfold g_law_c4
  refine s_aload_n hX dL_law_396 rfl ?_
  refine s_kloadK_n (r := (some 70)) hX dL_law_397 rfl ?_
  refine s_iload hX dL_law_398 rfl ?_
  refine s_iconst (v := 1) hX dL_law_400 kc_1 ?_
  refine s_iadd hX dL_law_401 ?_
  refine s_sld hX hS dL_law_402 ?_
  refine s_kloadK_n (r := (some 70)) hX dL_law_403 rfl ?_
  refine s_iload hX dL_law_404 rfl ?_
  refine s_iconst (v := 2) hX dL_law_406 kc_2 ?_
  refine s_iadd hX dL_law_407 ?_
  refine s_sld hX hS dL_law_408 ?_
  refine s_aload_n hX dL_law_409 rfl ?_
  refine s_callSW (ck1 := 160 + j * 60 + 1) (sk1 := 64282 + j * 3000 + 6) hX hl dL_law_410 q_1161 (c_L_trader n M x (sc (i + 1).toNatClampNeg) (sc (i + 2).toNatClampNeg) out) rfl rfl ⟨Nat.le_of_ble_eq_true rfl, Nat.le_of_ble_eq_true rfl⟩ ⟨(by first | omega | (simp only [room_1, NC]; omega)), (by first | omega | (simp only [room_1, NC]; omega))⟩ (Nat.le_of_ble_eq_true rfl) rfl rfl (fun r35 M36 => ?_)
  refine s_istore5 hX dL_law_413 (by first | exact trivial | exact rfl) (Nat.le_of_ble_eq_true rfl) ?_
  refine s_aload_n hX dL_law_415 rfl ?_
  refine s_kloadK_n (r := (some 70)) hX dL_law_416 rfl ?_
  refine s_iload hX dL_law_417 rfl ?_
  refine s_iconst (v := 1) hX dL_law_419 kc_1 ?_
  refine s_iadd hX dL_law_420 ?_
  refine s_sld hX hS dL_law_421 ?_
  refine s_kloadK_n (r := (some 70)) hX dL_law_422 rfl ?_
  refine s_iload hX dL_law_423 rfl ?_
  refine s_iconst (v := 2) hX dL_law_425 kc_2 ?_
  refine s_iadd hX dL_law_426 ?_
  refine s_sld hX hS dL_law_427 ?_
  refine s_callVi (ck1 := 160 + j * 60 + 1) (sk1 := 64282 + j * 3000 + 6) (ci := 8) hX dL_law_428 k_X10_trader q_1674 (c_X10_trader n M36 m (sc (i + 1).toNatClampNeg) (sc (i + 2).toNatClampNeg)) (by decide) rfl rfl rfl ⟨Nat.le_of_ble_eq_true rfl, Nat.le_of_ble_eq_true rfl⟩ ⟨(by first | omega | (simp only [room_1, NC]; omega)), (by first | omega | (simp only [room_1, NC]; omega))⟩ (Nat.le_of_ble_eq_true rfl) rfl rfl (fun r37 M38 => ?_)
  refine s_istore6 hX dL_law_431 (by first | exact trivial | exact rfl) (Nat.le_of_ble_eq_true rfl) ?_
  refine s_aload_n hX dL_law_433 rfl ?_
  refine s_callVi (ck1 := 160 + j * 60 + 1) (sk1 := 64282 + j * 3000 + 6) (ci := 8) hX dL_law_434 k_X10_thrown q_1394 (c_X10_thrown n M38 m) (by decide) rfl rfl rfl ⟨Nat.le_of_ble_eq_true rfl, Nat.le_of_ble_eq_true rfl⟩ ⟨(by first | omega | (simp only [room_1, NC]; omega)), (by first | omega | (simp only [room_1, NC]; omega))⟩ (Nat.le_of_ble_eq_true rfl) rfl rfl (fun r39 M40 => ?_)
  refine s_iload hX dL_law_437 rfl ?_
  refine s_iceq (tgt := 444) hX dL_law_439 rfl ?_ ?_
  · refine s_iload hX dL_law_444 rfl ?_
    refine s_ifne (tgt := 461) hX dL_law_446 rfl ?_ ?_
    · refine s_aload_n hX dL_law_449 rfl ?_
      refine s_iconst (v := 0) hX dL_law_450 kc_0 ?_
      refine s_lald hX dL_law_451 (fun v41 => ?_)
      refine s_iload hX dL_law_452 rfl ?_
      refine s_i2l hX dL_law_454 ?_
      refine s_lcmp hX dL_law_455 ?_
      refine s_ifeq (tgt := 461) hX dL_law_456 rfl ?_ ?_
      · refine s_goto (tgt := 2091) hX dL_law_461 rfl ?_
        refine s_iinc4 (v := i + 6) hX dL_law_2091 rfl (by first | exact trivial | exact rfl) (Nat.le_of_ble_eq_true rfl) ?_
        refine s_goto (tgt := 23) hX dL_law_2094 rfl ?_
        refine s_forget (loc1 := [some (kv ((some 70))), some (.ref x), some (.ref m), some (.ref out), some (.int (i + 6)), none, none]) ⟨rfl, rfl, rfl, rfl, rfl, trivial⟩ ?_
        refine s_widen (ck1 := 160 + (j + 1) * 60) (sk1 := 64282 + (j + 1) * 3000) (by omega) (by omega) ?_
        exact s_back hB
      · refine s_iconst (v := 0) hX dL_law_459 kc_0 ?_
        exact s_inr hI (s_lawret hX hR dL_law_460 (by first | omega | (simp only [room_1, NC]; omega)) (by first | omega | (simp only [room_1, NC]; omega)))
    · refine s_goto (tgt := 2091) hX dL_law_461 rfl ?_
      refine s_iinc4 (v := i + 6) hX dL_law_2091 rfl (by first | exact trivial | exact rfl) (Nat.le_of_ble_eq_true rfl) ?_
      refine s_goto (tgt := 23) hX dL_law_2094 rfl ?_
      refine s_forget (loc1 := [some (kv ((some 70))), some (.ref x), some (.ref m), some (.ref out), some (.int (i + 6)), none, none]) ⟨rfl, rfl, rfl, rfl, rfl, trivial⟩ ?_
      refine s_widen (ck1 := 160 + (j + 1) * 60) (sk1 := 64282 + (j + 1) * 3000) (by omega) (by omega) ?_
      exact s_back hB
  · refine s_iconst (v := 0) hX dL_law_442 kc_0 ?_
    exact s_inr hI (s_lawret hX hR dL_law_443 (by first | omega | (simp only [room_1, NC]; omega)) (by first | omega | (simp only [room_1, NC]; omega)))
def g_law_c5 (n L : Nat) (sc : Nat → Int32) (x m out : Nat) (M : MemT) (i : Int32) : Option ((MemT × Int32) ⊕ (Int32 × MemT)) :=
  (if (i + 1) < 0 ∨ L ≤ (i + 1).toNatClampNeg then none else (if (i + 2) < 0 ∨ L ≤ (i + 2).toNatClampNeg then none else chk M 7 x (bd (g_X9_asset n M x (sc (i + 1).toNatClampNeg) (sc (i + 2).toNatClampNeg)) (fun r43 M44 => (if (i + 1) < 0 ∨ L ≤ (i + 1).toNatClampNeg then none else (if (i + 2) < 0 ∨ L ≤ (i + 2).toNatClampNeg then none else chk M44 8 m (bd (g_X10_asset n M44 m (sc (i + 1).toNatClampNeg) (sc (i + 2).toNatClampNeg)) (fun r45 M46 => (if r43 = r45 then some (.inl (M46, i + 6)) else some (.inr ((0, M46))))))))))))
set_option maxHeartbeats 4000000 in
set_option maxRecDepth 100000 in
theorem t_law_c5 {X : CxT} {A : Int32 × MemT → Prop} {B : (MemT × Int32) ⊕ (Int32 × MemT) → Prop} {j : Nat} (hj : j < 513) (n L : Nat) (sc : Nat → Int32) (x m out : Nat) (M : MemT) (i : Int32) (hX : CxOk X cL_law 7 RL room_1) (hl : (xl X).stackTraces = false) (hR : RetL X A) (hS : Scr X L sc) (hB : ∀ s1, B (.inl s1) → WW X 7 (160 + (j + 1) * 60) (64282 + (j + 1) * 3000) 23 (lawL x m out s1) [] (lawM s1)) (hI : ∀ u, B (.inr u) → A u) : Sim X 7 B (g_law_c5 n L sc x m out M i) (160 + j * 60) (64282 + j * 3000) 464 [some (kv ((some 70))), some (.ref x), some (.ref m), some (.ref out), some (.int i), none, none] [] M := by
  unfold g_law_c5
  refine s_aload_n hX dL_law_464 rfl ?_
  refine s_kloadK_n (r := (some 70)) hX dL_law_465 rfl ?_
  refine s_iload hX dL_law_466 rfl ?_
  refine s_iconst (v := 1) hX dL_law_468 kc_1 ?_
  refine s_iadd hX dL_law_469 ?_
  refine s_sld hX hS dL_law_470 ?_
  refine s_kloadK_n (r := (some 70)) hX dL_law_471 rfl ?_
  refine s_iload hX dL_law_472 rfl ?_
  refine s_iconst (v := 2) hX dL_law_474 kc_2 ?_
  refine s_iadd hX dL_law_475 ?_
  refine s_sld hX hS dL_law_476 ?_
  refine s_callVi (ck1 := 160 + j * 60) (sk1 := 64282 + j * 3000) (ci := 7) hX dL_law_477 k_X9_asset q_707 (c_X9_asset n M x (sc (i + 1).toNatClampNeg) (sc (i + 2).toNatClampNeg)) (by decide) rfl rfl rfl ⟨Nat.le_of_ble_eq_true rfl, Nat.le_of_ble_eq_true rfl⟩ ⟨(by first | omega | (simp only [room_1, NC]; omega)), (by first | omega | (simp only [room_1, NC]; omega))⟩ (Nat.le_of_ble_eq_true rfl) rfl rfl (fun r43 M44 => ?_)
  refine s_aload_n hX dL_law_480 rfl ?_
  refine s_kloadK_n (r := (some 70)) hX dL_law_481 rfl ?_
  refine s_iload hX dL_law_482 rfl ?_
  refine s_iconst (v := 1) hX dL_law_484 kc_1 ?_
  refine s_iadd hX dL_law_485 ?_
  refine s_sld hX hS dL_law_486 ?_
  refine s_kloadK_n (r := (some 70)) hX dL_law_487 rfl ?_
  refine s_iload hX dL_law_488 rfl ?_
  refine s_iconst (v := 2) hX dL_law_490 kc_2 ?_
  refine s_iadd hX dL_law_491 ?_
  refine s_sld hX hS dL_law_492 ?_
  refine s_callVi (ck1 := 160 + j * 60) (sk1 := 64282 + j * 3000) (ci := 8) hX dL_law_493 k_X10_asset q_1682 (c_X10_asset n M44 m (sc (i + 1).toNatClampNeg) (sc (i + 2).toNatClampNeg)) (by decide) rfl rfl rfl ⟨Nat.le_of_ble_eq_true rfl, Nat.le_of_ble_eq_true rfl⟩ ⟨(by first | omega | (simp only [room_1, NC]; omega)), (by first | omega | (simp only [room_1, NC]; omega))⟩ (Nat.le_of_ble_eq_true rfl) rfl rfl (fun r45 M46 => ?_)
  refine s_iceq (tgt := 2091) hX dL_law_496 rfl ?_ ?_
  · refine s_iinc4 (v := i + 6) hX dL_law_2091 rfl (by first | exact trivial | exact rfl) (Nat.le_of_ble_eq_true rfl) ?_
    refine s_goto (tgt := 23) hX dL_law_2094 rfl ?_
    refine s_widen (ck1 := 160 + (j + 1) * 60) (sk1 := 64282 + (j + 1) * 3000) (by omega) (by omega) ?_
    exact s_back hB
  · refine s_iconst (v := 0) hX dL_law_499 kc_0 ?_
    exact s_inr hI (s_lawret hX hR dL_law_500 (by first | omega | (simp only [room_1, NC]; omega)) (by first | omega | (simp only [room_1, NC]; omega)))
def g_law_c6 (n L : Nat) (sc : Nat → Int32) (x m out : Nat) (M : MemT) (i : Int32) : Option ((MemT × Int32) ⊕ (Int32 × MemT)) :=
  (if (i + 1) < 0 ∨ L ≤ (i + 1).toNatClampNeg then none else (if (i + 2) < 0 ∨ L ≤ (i + 2).toNatClampNeg then none else (if (i + 3) < 0 ∨ L ≤ (i + 3).toNatClampNeg then none else chk M 7 x (bd (g_X9_sale n M x (sc (i + 1).toNatClampNeg) (sc (i + 2).toNatClampNeg) (sc (i + 3).toNatClampNeg)) (fun r48 M49 => (if (i + 1) < 0 ∨ L ≤ (i + 1).toNatClampNeg then none else (if (i + 2) < 0 ∨ L ≤ (i + 2).toNatClampNeg then none else (if (i + 3) < 0 ∨ L ≤ (i + 3).toNatClampNeg then none else chk M49 8 m (bd (g_X10_sale n M49 m (sc (i + 1).toNatClampNeg) (sc (i + 2).toNatClampNeg) (sc (i + 3).toNatClampNeg)) (fun r50 M51 => (if r48 = r50 then some (.inl (M51, i + 6)) else some (.inr ((0, M51))))))))))))))
set_option maxHeartbeats 4000000 in
set_option maxRecDepth 100000 in
theorem t_law_c6 {X : CxT} {A : Int32 × MemT → Prop} {B : (MemT × Int32) ⊕ (Int32 × MemT) → Prop} {j : Nat} (hj : j < 513) (n L : Nat) (sc : Nat → Int32) (x m out : Nat) (M : MemT) (i : Int32) (hX : CxOk X cL_law 7 RL room_1) (hl : (xl X).stackTraces = false) (hR : RetL X A) (hS : Scr X L sc) (hB : ∀ s1, B (.inl s1) → WW X 7 (160 + (j + 1) * 60) (64282 + (j + 1) * 3000) 23 (lawL x m out s1) [] (lawM s1)) (hI : ∀ u, B (.inr u) → A u) : Sim X 7 B (g_law_c6 n L sc x m out M i) (160 + j * 60) (64282 + j * 3000) 501 [some (kv ((some 70))), some (.ref x), some (.ref m), some (.ref out), some (.int i), none, none] [] M := by
  unfold g_law_c6
  refine s_aload_n hX dL_law_501 rfl ?_
  refine s_kloadK_n (r := (some 70)) hX dL_law_502 rfl ?_
  refine s_iload hX dL_law_503 rfl ?_
  refine s_iconst (v := 1) hX dL_law_505 kc_1 ?_
  refine s_iadd hX dL_law_506 ?_
  refine s_sld hX hS dL_law_507 ?_
  refine s_kloadK_n (r := (some 70)) hX dL_law_508 rfl ?_
  refine s_iload hX dL_law_509 rfl ?_
  refine s_iconst (v := 2) hX dL_law_511 kc_2 ?_
  refine s_iadd hX dL_law_512 ?_
  refine s_sld hX hS dL_law_513 ?_
  refine s_kloadK_n (r := (some 70)) hX dL_law_514 rfl ?_
  refine s_iload hX dL_law_515 rfl ?_
  refine s_iconst (v := 3) hX dL_law_517 kc_3 ?_
  refine s_iadd hX dL_law_518 ?_
  refine s_sld hX hS dL_law_519 ?_
  refine s_callVi (ck1 := 160 + j * 60 + 55) (sk1 := 64282 + j * 3000 + 2577) (ci := 7) hX dL_law_520 k_X9_sale q_716 (c_X9_sale n M x (sc (i + 1).toNatClampNeg) (sc (i + 2).toNatClampNeg) (sc (i + 3).toNatClampNeg)) (by decide) rfl rfl rfl ⟨Nat.le_of_ble_eq_true rfl, Nat.le_of_ble_eq_true rfl⟩ ⟨(by first | omega | (simp only [room_1, NC]; omega)), (by first | omega | (simp only [room_1, NC]; omega))⟩ (Nat.le_of_ble_eq_true rfl) rfl rfl (fun r48 M49 => ?_)
  refine s_aload_n hX dL_law_523 rfl ?_
  refine s_kloadK_n (r := (some 70)) hX dL_law_524 rfl ?_
  refine s_iload hX dL_law_525 rfl ?_
  refine s_iconst (v := 1) hX dL_law_527 kc_1 ?_
  refine s_iadd hX dL_law_528 ?_
  refine s_sld hX hS dL_law_529 ?_
  refine s_kloadK_n (r := (some 70)) hX dL_law_530 rfl ?_
  refine s_iload hX dL_law_531 rfl ?_
  refine s_iconst (v := 2) hX dL_law_533 kc_2 ?_
  refine s_iadd hX dL_law_534 ?_
  refine s_sld hX hS dL_law_535 ?_
  refine s_kloadK_n (r := (some 70)) hX dL_law_536 rfl ?_
  refine s_iload hX dL_law_537 rfl ?_
  refine s_iconst (v := 3) hX dL_law_539 kc_3 ?_
  refine s_iadd hX dL_law_540 ?_
  refine s_sld hX hS dL_law_541 ?_
  refine s_callVi (ck1 := 160 + j * 60 + 55) (sk1 := 64282 + j * 3000 + 2577) (ci := 8) hX dL_law_542 k_X10_sale q_1506 (c_X10_sale n M49 m (sc (i + 1).toNatClampNeg) (sc (i + 2).toNatClampNeg) (sc (i + 3).toNatClampNeg)) (by decide) rfl rfl rfl ⟨Nat.le_of_ble_eq_true rfl, Nat.le_of_ble_eq_true rfl⟩ ⟨(by first | omega | (simp only [room_1, NC]; omega)), (by first | omega | (simp only [room_1, NC]; omega))⟩ (Nat.le_of_ble_eq_true rfl) rfl rfl (fun r50 M51 => ?_)
  refine s_iceq (tgt := 2091) hX dL_law_545 rfl ?_ ?_
  · refine s_iinc4 (v := i + 6) hX dL_law_2091 rfl (by first | exact trivial | exact rfl) (Nat.le_of_ble_eq_true rfl) ?_
    refine s_goto (tgt := 23) hX dL_law_2094 rfl ?_
    refine s_widen (ck1 := 160 + (j + 1) * 60) (sk1 := 64282 + (j + 1) * 3000) (by omega) (by omega) ?_
    exact s_back hB
  · refine s_iconst (v := 0) hX dL_law_548 kc_0 ?_
    exact s_inr hI (s_lawret hX hR dL_law_549 (by first | omega | (simp only [room_1, NC]; omega)) (by first | omega | (simp only [room_1, NC]; omega)))
def g_law_c7 (n L : Nat) (sc : Nat → Int32) (x m out : Nat) (M : MemT) (i : Int32) : Option ((MemT × Int32) ⊕ (Int32 × MemT)) :=
  (if (i + 1) < 0 ∨ L ≤ (i + 1).toNatClampNeg then none else (if (i + 2) < 0 ∨ L ≤ (i + 2).toNatClampNeg then none else (if (i + 3) < 0 ∨ L ≤ (i + 3).toNatClampNeg then none else chk M 7 x (bd (g_X9_buy n M x (sc (i + 1).toNatClampNeg) (sc (i + 2).toNatClampNeg) (sc (i + 3).toNatClampNeg)) (fun r53 M54 => (if (i + 1) < 0 ∨ L ≤ (i + 1).toNatClampNeg then none else (if (i + 2) < 0 ∨ L ≤ (i + 2).toNatClampNeg then none else (if (i + 3) < 0 ∨ L ≤ (i + 3).toNatClampNeg then none else chk M54 8 m (bd (g_X10_buy n M54 m (sc (i + 1).toNatClampNeg) (sc (i + 2).toNatClampNeg) (sc (i + 3).toNatClampNeg)) (fun r55 M56 => (if r53 = r55 then some (.inl (M56, i + 6)) else some (.inr ((0, M56))))))))))))))
set_option maxHeartbeats 4000000 in
set_option maxRecDepth 100000 in
theorem t_law_c7 {X : CxT} {A : Int32 × MemT → Prop} {B : (MemT × Int32) ⊕ (Int32 × MemT) → Prop} {j : Nat} (hj : j < 513) (n L : Nat) (sc : Nat → Int32) (x m out : Nat) (M : MemT) (i : Int32) (hX : CxOk X cL_law 7 RL room_1) (hl : (xl X).stackTraces = false) (hR : RetL X A) (hS : Scr X L sc) (hB : ∀ s1, B (.inl s1) → WW X 7 (160 + (j + 1) * 60) (64282 + (j + 1) * 3000) 23 (lawL x m out s1) [] (lawM s1)) (hI : ∀ u, B (.inr u) → A u) : Sim X 7 B (g_law_c7 n L sc x m out M i) (160 + j * 60) (64282 + j * 3000) 550 [some (kv ((some 70))), some (.ref x), some (.ref m), some (.ref out), some (.int i), none, none] [] M := by
  unfold g_law_c7
  refine s_aload_n hX dL_law_550 rfl ?_
  refine s_kloadK_n (r := (some 70)) hX dL_law_551 rfl ?_
  refine s_iload hX dL_law_552 rfl ?_
  refine s_iconst (v := 1) hX dL_law_554 kc_1 ?_
  refine s_iadd hX dL_law_555 ?_
  refine s_sld hX hS dL_law_556 ?_
  refine s_kloadK_n (r := (some 70)) hX dL_law_557 rfl ?_
  refine s_iload hX dL_law_558 rfl ?_
  refine s_iconst (v := 2) hX dL_law_560 kc_2 ?_
  refine s_iadd hX dL_law_561 ?_
  refine s_sld hX hS dL_law_562 ?_
  refine s_kloadK_n (r := (some 70)) hX dL_law_563 rfl ?_
  refine s_iload hX dL_law_564 rfl ?_
  refine s_iconst (v := 3) hX dL_law_566 kc_3 ?_
  refine s_iadd hX dL_law_567 ?_
  refine s_sld hX hS dL_law_568 ?_
  refine s_callVi (ck1 := 160 + j * 60 + 55) (sk1 := 64282 + j * 3000 + 2577) (ci := 7) hX dL_law_569 k_X9_buy q_741 (c_X9_buy n M x (sc (i + 1).toNatClampNeg) (sc (i + 2).toNatClampNeg) (sc (i + 3).toNatClampNeg)) (by decide) rfl rfl rfl ⟨Nat.le_of_ble_eq_true rfl, Nat.le_of_ble_eq_true rfl⟩ ⟨(by first | omega | (simp only [room_1, NC]; omega)), (by first | omega | (simp only [room_1, NC]; omega))⟩ (Nat.le_of_ble_eq_true rfl) rfl rfl (fun r53 M54 => ?_)
  refine s_aload_n hX dL_law_572 rfl ?_
  refine s_kloadK_n (r := (some 70)) hX dL_law_573 rfl ?_
  refine s_iload hX dL_law_574 rfl ?_
  refine s_iconst (v := 1) hX dL_law_576 kc_1 ?_
  refine s_iadd hX dL_law_577 ?_
  refine s_sld hX hS dL_law_578 ?_
  refine s_kloadK_n (r := (some 70)) hX dL_law_579 rfl ?_
  refine s_iload hX dL_law_580 rfl ?_
  refine s_iconst (v := 2) hX dL_law_582 kc_2 ?_
  refine s_iadd hX dL_law_583 ?_
  refine s_sld hX hS dL_law_584 ?_
  refine s_kloadK_n (r := (some 70)) hX dL_law_585 rfl ?_
  refine s_iload hX dL_law_586 rfl ?_
  refine s_iconst (v := 3) hX dL_law_588 kc_3 ?_
  refine s_iadd hX dL_law_589 ?_
  refine s_sld hX hS dL_law_590 ?_
  refine s_callVi (ck1 := 160 + j * 60 + 55) (sk1 := 64282 + j * 3000 + 2577) (ci := 8) hX dL_law_591 k_X10_buy q_1518 (c_X10_buy n M54 m (sc (i + 1).toNatClampNeg) (sc (i + 2).toNatClampNeg) (sc (i + 3).toNatClampNeg)) (by decide) rfl rfl rfl ⟨Nat.le_of_ble_eq_true rfl, Nat.le_of_ble_eq_true rfl⟩ ⟨(by first | omega | (simp only [room_1, NC]; omega)), (by first | omega | (simp only [room_1, NC]; omega))⟩ (Nat.le_of_ble_eq_true rfl) rfl rfl (fun r55 M56 => ?_)
  refine s_iceq (tgt := 2091) hX dL_law_594 rfl ?_ ?_
  · refine s_iinc4 (v := i + 6) hX dL_law_2091 rfl (by first | exact trivial | exact rfl) (Nat.le_of_ble_eq_true rfl) ?_
    refine s_goto (tgt := 23) hX dL_law_2094 rfl ?_
    refine s_widen (ck1 := 160 + (j + 1) * 60) (sk1 := 64282 + (j + 1) * 3000) (by omega) (by omega) ?_
    exact s_back hB
  · refine s_iconst (v := 0) hX dL_law_597 kc_0 ?_
    exact s_inr hI (s_lawret hX hR dL_law_598 (by first | omega | (simp only [room_1, NC]; omega)) (by first | omega | (simp only [room_1, NC]; omega)))
def g_law_c8 (n L : Nat) (sc : Nat → Int32) (x m out : Nat) (M : MemT) (i : Int32) : Option ((MemT × Int32) ⊕ (Int32 × MemT)) :=
  (if (i + 1) < 0 ∨ L ≤ (i + 1).toNatClampNeg then none else (if (i + 2) < 0 ∨ L ≤ (i + 2).toNatClampNeg then none else (if (i + 3) < 0 ∨ L ≤ (i + 3).toNatClampNeg then none else (if (i + 4) < 0 ∨ L ≤ (i + 4).toNatClampNeg then none else chk M 7 x (bd (g_X9_late n M x (sc (i + 1).toNatClampNeg) (sc (i + 2).toNatClampNeg) (sc (i + 3).toNatClampNeg) (sc (i + 4).toNatClampNeg)) (fun r58 M59 => (if (i + 1) < 0 ∨ L ≤ (i + 1).toNatClampNeg then none else (if (i + 2) < 0 ∨ L ≤ (i + 2).toNatClampNeg then none else (if (i + 3) < 0 ∨ L ≤ (i + 3).toNatClampNeg then none else (if (i + 4) < 0 ∨ L ≤ (i + 4).toNatClampNeg then none else chk M59 8 m (bd (g_X10_late n M59 m (sc (i + 1).toNatClampNeg) (sc (i + 2).toNatClampNeg) (sc (i + 3).toNatClampNeg) (sc (i + 4).toNatClampNeg)) (fun r60 M61 => (if r58 = r60 then some (.inl (M61, i + 6)) else some (.inr ((0, M61))))))))))))))))
set_option maxHeartbeats 4000000 in
set_option maxRecDepth 100000 in
theorem t_law_c8 {X : CxT} {A : Int32 × MemT → Prop} {B : (MemT × Int32) ⊕ (Int32 × MemT) → Prop} {j : Nat} (hj : j < 513) (n L : Nat) (sc : Nat → Int32) (x m out : Nat) (M : MemT) (i : Int32) (hX : CxOk X cL_law 7 RL room_1) (hl : (xl X).stackTraces = false) (hR : RetL X A) (hS : Scr X L sc) (hB : ∀ s1, B (.inl s1) → WW X 7 (160 + (j + 1) * 60) (64282 + (j + 1) * 3000) 23 (lawL x m out s1) [] (lawM s1)) (hI : ∀ u, B (.inr u) → A u) : Sim X 7 B (g_law_c8 n L sc x m out M i) (160 + j * 60) (64282 + j * 3000) 599 [some (kv ((some 70))), some (.ref x), some (.ref m), some (.ref out), some (.int i), none, none] [] M := by
  unfold g_law_c8
  refine s_aload_n hX dL_law_599 rfl ?_
  refine s_kloadK_n (r := (some 70)) hX dL_law_600 rfl ?_
  refine s_iload hX dL_law_601 rfl ?_
  refine s_iconst (v := 1) hX dL_law_603 kc_1 ?_
  refine s_iadd hX dL_law_604 ?_
  refine s_sld hX hS dL_law_605 ?_
  refine s_kloadK_n (r := (some 70)) hX dL_law_606 rfl ?_
  refine s_iload hX dL_law_607 rfl ?_
  refine s_iconst (v := 2) hX dL_law_609 kc_2 ?_
  refine s_iadd hX dL_law_610 ?_
  refine s_sld hX hS dL_law_611 ?_
  refine s_kloadK_n (r := (some 70)) hX dL_law_612 rfl ?_
  refine s_iload hX dL_law_613 rfl ?_
  refine s_iconst (v := 3) hX dL_law_615 kc_3 ?_
  refine s_iadd hX dL_law_616 ?_
  refine s_sld hX hS dL_law_617 ?_
  refine s_kloadK_n (r := (some 70)) hX dL_law_618 rfl ?_
  refine s_iload hX dL_law_619 rfl ?_
  refine s_iconst (v := 4) hX dL_law_621 kc_4 ?_
  refine s_iadd hX dL_law_622 ?_
  refine s_sld hX hS dL_law_623 ?_
  refine s_callVi (ck1 := 160 + j * 60 + 55) (sk1 := 64282 + j * 3000 + 2577) (ci := 7) hX dL_law_624 k_X9_late q_745 (c_X9_late n M x (sc (i + 1).toNatClampNeg) (sc (i + 2).toNatClampNeg) (sc (i + 3).toNatClampNeg) (sc (i + 4).toNatClampNeg)) (by decide) rfl rfl rfl ⟨Nat.le_of_ble_eq_true rfl, Nat.le_of_ble_eq_true rfl⟩ ⟨(by first | omega | (simp only [room_1, NC]; omega)), (by first | omega | (simp only [room_1, NC]; omega))⟩ (Nat.le_of_ble_eq_true rfl) rfl rfl (fun r58 M59 => ?_)
  refine s_aload_n hX dL_law_627 rfl ?_
  refine s_kloadK_n (r := (some 70)) hX dL_law_628 rfl ?_
  refine s_iload hX dL_law_629 rfl ?_
  refine s_iconst (v := 1) hX dL_law_631 kc_1 ?_
  refine s_iadd hX dL_law_632 ?_
  refine s_sld hX hS dL_law_633 ?_
  refine s_kloadK_n (r := (some 70)) hX dL_law_634 rfl ?_
  refine s_iload hX dL_law_635 rfl ?_
  refine s_iconst (v := 2) hX dL_law_637 kc_2 ?_
  refine s_iadd hX dL_law_638 ?_
  refine s_sld hX hS dL_law_639 ?_
  refine s_kloadK_n (r := (some 70)) hX dL_law_640 rfl ?_
  refine s_iload hX dL_law_641 rfl ?_
  refine s_iconst (v := 3) hX dL_law_643 kc_3 ?_
  refine s_iadd hX dL_law_644 ?_
  refine s_sld hX hS dL_law_645 ?_
  refine s_kloadK_n (r := (some 70)) hX dL_law_646 rfl ?_
  refine s_iload hX dL_law_647 rfl ?_
  refine s_iconst (v := 4) hX dL_law_649 kc_4 ?_
  refine s_iadd hX dL_law_650 ?_
  refine s_sld hX hS dL_law_651 ?_
  refine s_callVi (ck1 := 160 + j * 60 + 55) (sk1 := 64282 + j * 3000 + 2577) (ci := 8) hX dL_law_652 k_X10_late q_1522 (c_X10_late n M59 m (sc (i + 1).toNatClampNeg) (sc (i + 2).toNatClampNeg) (sc (i + 3).toNatClampNeg) (sc (i + 4).toNatClampNeg)) (by decide) rfl rfl rfl ⟨Nat.le_of_ble_eq_true rfl, Nat.le_of_ble_eq_true rfl⟩ ⟨(by first | omega | (simp only [room_1, NC]; omega)), (by first | omega | (simp only [room_1, NC]; omega))⟩ (Nat.le_of_ble_eq_true rfl) rfl rfl (fun r60 M61 => ?_)
  refine s_iceq (tgt := 2091) hX dL_law_655 rfl ?_ ?_
  · refine s_iinc4 (v := i + 6) hX dL_law_2091 rfl (by first | exact trivial | exact rfl) (Nat.le_of_ble_eq_true rfl) ?_
    refine s_goto (tgt := 23) hX dL_law_2094 rfl ?_
    refine s_widen (ck1 := 160 + (j + 1) * 60) (sk1 := 64282 + (j + 1) * 3000) (by omega) (by omega) ?_
    exact s_back hB
  · refine s_iconst (v := 0) hX dL_law_658 kc_0 ?_
    exact s_inr hI (s_lawret hX hR dL_law_659 (by first | omega | (simp only [room_1, NC]; omega)) (by first | omega | (simp only [room_1, NC]; omega)))
def g_law_c9 (n L : Nat) (sc : Nat → Int32) (x m out : Nat) (M : MemT) (i : Int32) : Option ((MemT × Int32) ⊕ (Int32 × MemT)) :=
  (if (i + 1) < 0 ∨ L ≤ (i + 1).toNatClampNeg then none else (if (i + 2) < 0 ∨ L ≤ (i + 2).toNatClampNeg then none else (if (i + 3) < 0 ∨ L ≤ (i + 3).toNatClampNeg then none else chk M 7 x (bd (g_X9_heads n M x (sc (i + 1).toNatClampNeg) (sc (i + 2).toNatClampNeg) (sc (i + 3).toNatClampNeg)) (fun r63 M64 => (if (i + 1) < 0 ∨ L ≤ (i + 1).toNatClampNeg then none else (if (i + 2) < 0 ∨ L ≤ (i + 2).toNatClampNeg then none else (if (i + 3) < 0 ∨ L ≤ (i + 3).toNatClampNeg then none else chk M64 8 m (bd (g_X10_heads n M64 m (sc (i + 1).toNatClampNeg) (sc (i + 2).toNatClampNeg) (sc (i + 3).toNatClampNeg)) (fun r65 M66 => (if r63 = r65 then some (.inl (M66, i + 6)) else some (.inr ((0, M66))))))))))))))
set_option maxHeartbeats 4000000 in
set_option maxRecDepth 100000 in
theorem t_law_c9 {X : CxT} {A : Int32 × MemT → Prop} {B : (MemT × Int32) ⊕ (Int32 × MemT) → Prop} {j : Nat} (hj : j < 513) (n L : Nat) (sc : Nat → Int32) (x m out : Nat) (M : MemT) (i : Int32) (hX : CxOk X cL_law 7 RL room_1) (hl : (xl X).stackTraces = false) (hR : RetL X A) (hS : Scr X L sc) (hB : ∀ s1, B (.inl s1) → WW X 7 (160 + (j + 1) * 60) (64282 + (j + 1) * 3000) 23 (lawL x m out s1) [] (lawM s1)) (hI : ∀ u, B (.inr u) → A u) : Sim X 7 B (g_law_c9 n L sc x m out M i) (160 + j * 60) (64282 + j * 3000) 660 [some (kv ((some 70))), some (.ref x), some (.ref m), some (.ref out), some (.int i), none, none] [] M := by
  unfold g_law_c9
  refine s_aload_n hX dL_law_660 rfl ?_
  refine s_kloadK_n (r := (some 70)) hX dL_law_661 rfl ?_
  refine s_iload hX dL_law_662 rfl ?_
  refine s_iconst (v := 1) hX dL_law_664 kc_1 ?_
  refine s_iadd hX dL_law_665 ?_
  refine s_sld hX hS dL_law_666 ?_
  refine s_kloadK_n (r := (some 70)) hX dL_law_667 rfl ?_
  refine s_iload hX dL_law_668 rfl ?_
  refine s_iconst (v := 2) hX dL_law_670 kc_2 ?_
  refine s_iadd hX dL_law_671 ?_
  refine s_sld hX hS dL_law_672 ?_
  refine s_kloadK_n (r := (some 70)) hX dL_law_673 rfl ?_
  refine s_iload hX dL_law_674 rfl ?_
  refine s_iconst (v := 3) hX dL_law_676 kc_3 ?_
  refine s_iadd hX dL_law_677 ?_
  refine s_sld hX hS dL_law_678 ?_
  refine s_callVi (ck1 := 160 + j * 60 + 55) (sk1 := 64282 + j * 3000 + 2577) (ci := 7) hX dL_law_679 k_X9_heads q_749 (c_X9_heads n M x (sc (i + 1).toNatClampNeg) (sc (i + 2).toNatClampNeg) (sc (i + 3).toNatClampNeg)) (by decide) rfl rfl rfl ⟨Nat.le_of_ble_eq_true rfl, Nat.le_of_ble_eq_true rfl⟩ ⟨(by first | omega | (simp only [room_1, NC]; omega)), (by first | omega | (simp only [room_1, NC]; omega))⟩ (Nat.le_of_ble_eq_true rfl) rfl rfl (fun r63 M64 => ?_)
  refine s_aload_n hX dL_law_682 rfl ?_
  refine s_kloadK_n (r := (some 70)) hX dL_law_683 rfl ?_
  refine s_iload hX dL_law_684 rfl ?_
  refine s_iconst (v := 1) hX dL_law_686 kc_1 ?_
  refine s_iadd hX dL_law_687 ?_
  refine s_sld hX hS dL_law_688 ?_
  refine s_kloadK_n (r := (some 70)) hX dL_law_689 rfl ?_
  refine s_iload hX dL_law_690 rfl ?_
  refine s_iconst (v := 2) hX dL_law_692 kc_2 ?_
  refine s_iadd hX dL_law_693 ?_
  refine s_sld hX hS dL_law_694 ?_
  refine s_kloadK_n (r := (some 70)) hX dL_law_695 rfl ?_
  refine s_iload hX dL_law_696 rfl ?_
  refine s_iconst (v := 3) hX dL_law_698 kc_3 ?_
  refine s_iadd hX dL_law_699 ?_
  refine s_sld hX hS dL_law_700 ?_
  refine s_callVi (ck1 := 160 + j * 60 + 55) (sk1 := 64282 + j * 3000 + 2577) (ci := 8) hX dL_law_701 k_X10_heads q_1530 (c_X10_heads n M64 m (sc (i + 1).toNatClampNeg) (sc (i + 2).toNatClampNeg) (sc (i + 3).toNatClampNeg)) (by decide) rfl rfl rfl ⟨Nat.le_of_ble_eq_true rfl, Nat.le_of_ble_eq_true rfl⟩ ⟨(by first | omega | (simp only [room_1, NC]; omega)), (by first | omega | (simp only [room_1, NC]; omega))⟩ (Nat.le_of_ble_eq_true rfl) rfl rfl (fun r65 M66 => ?_)
  refine s_iceq (tgt := 2091) hX dL_law_704 rfl ?_ ?_
  · refine s_iinc4 (v := i + 6) hX dL_law_2091 rfl (by first | exact trivial | exact rfl) (Nat.le_of_ble_eq_true rfl) ?_
    refine s_goto (tgt := 23) hX dL_law_2094 rfl ?_
    refine s_widen (ck1 := 160 + (j + 1) * 60) (sk1 := 64282 + (j + 1) * 3000) (by omega) (by omega) ?_
    exact s_back hB
  · refine s_iconst (v := 0) hX dL_law_707 kc_0 ?_
    exact s_inr hI (s_lawret hX hR dL_law_708 (by first | omega | (simp only [room_1, NC]; omega)) (by first | omega | (simp only [room_1, NC]; omega)))
def g_law_c10 (n L : Nat) (sc : Nat → Int32) (x m out : Nat) (M : MemT) (i : Int32) : Option ((MemT × Int32) ⊕ (Int32 × MemT)) :=
  (if (i + 1) < 0 ∨ L ≤ (i + 1).toNatClampNeg then none else (if (i + 2) < 0 ∨ L ≤ (i + 2).toNatClampNeg then none else (if (i + 3) < 0 ∨ L ≤ (i + 3).toNatClampNeg then none else (if (i + 4) < 0 ∨ L ≤ (i + 4).toNatClampNeg then none else chk M 7 x (bd (g_X9_acquire n M x (sc (i + 1).toNatClampNeg) (sc (i + 2).toNatClampNeg) (sc (i + 3).toNatClampNeg) (sc (i + 4).toNatClampNeg)) (fun r68 M69 => (if (i + 1) < 0 ∨ L ≤ (i + 1).toNatClampNeg then none else (if (i + 2) < 0 ∨ L ≤ (i + 2).toNatClampNeg then none else (if (i + 3) < 0 ∨ L ≤ (i + 3).toNatClampNeg then none else (if (i + 4) < 0 ∨ L ≤ (i + 4).toNatClampNeg then none else chk M69 8 m (bd (g_X10_acquire n M69 m (sc (i + 1).toNatClampNeg) (sc (i + 2).toNatClampNeg) (sc (i + 3).toNatClampNeg) (sc (i + 4).toNatClampNeg)) (fun r70 M71 => (if r68 = r70 then some (.inl (M71, i + 6)) else some (.inr ((0, M71))))))))))))))))
set_option maxHeartbeats 4000000 in
set_option maxRecDepth 100000 in
theorem t_law_c10 {X : CxT} {A : Int32 × MemT → Prop} {B : (MemT × Int32) ⊕ (Int32 × MemT) → Prop} {j : Nat} (hj : j < 513) (n L : Nat) (sc : Nat → Int32) (x m out : Nat) (M : MemT) (i : Int32) (hX : CxOk X cL_law 7 RL room_1) (hl : (xl X).stackTraces = false) (hR : RetL X A) (hS : Scr X L sc) (hB : ∀ s1, B (.inl s1) → WW X 7 (160 + (j + 1) * 60) (64282 + (j + 1) * 3000) 23 (lawL x m out s1) [] (lawM s1)) (hI : ∀ u, B (.inr u) → A u) : Sim X 7 B (g_law_c10 n L sc x m out M i) (160 + j * 60) (64282 + j * 3000) 709 [some (kv ((some 70))), some (.ref x), some (.ref m), some (.ref out), some (.int i), none, none] [] M := by
  unfold g_law_c10
  refine s_aload_n hX dL_law_709 rfl ?_
  refine s_kloadK_n (r := (some 70)) hX dL_law_710 rfl ?_
  refine s_iload hX dL_law_711 rfl ?_
  refine s_iconst (v := 1) hX dL_law_713 kc_1 ?_
  refine s_iadd hX dL_law_714 ?_
  refine s_sld hX hS dL_law_715 ?_
  refine s_kloadK_n (r := (some 70)) hX dL_law_716 rfl ?_
  refine s_iload hX dL_law_717 rfl ?_
  refine s_iconst (v := 2) hX dL_law_719 kc_2 ?_
  refine s_iadd hX dL_law_720 ?_
  refine s_sld hX hS dL_law_721 ?_
  refine s_kloadK_n (r := (some 70)) hX dL_law_722 rfl ?_
  refine s_iload hX dL_law_723 rfl ?_
  refine s_iconst (v := 3) hX dL_law_725 kc_3 ?_
  refine s_iadd hX dL_law_726 ?_
  refine s_sld hX hS dL_law_727 ?_
  refine s_kloadK_n (r := (some 70)) hX dL_law_728 rfl ?_
  refine s_iload hX dL_law_729 rfl ?_
  refine s_iconst (v := 4) hX dL_law_731 kc_4 ?_
  refine s_iadd hX dL_law_732 ?_
  refine s_sld hX hS dL_law_733 ?_
  refine s_callVi (ck1 := 160 + j * 60 + 55) (sk1 := 64282 + j * 3000 + 2577) (ci := 7) hX dL_law_734 k_X9_acquire q_753 (c_X9_acquire n M x (sc (i + 1).toNatClampNeg) (sc (i + 2).toNatClampNeg) (sc (i + 3).toNatClampNeg) (sc (i + 4).toNatClampNeg)) (by decide) rfl rfl rfl ⟨Nat.le_of_ble_eq_true rfl, Nat.le_of_ble_eq_true rfl⟩ ⟨(by first | omega | (simp only [room_1, NC]; omega)), (by first | omega | (simp only [room_1, NC]; omega))⟩ (Nat.le_of_ble_eq_true rfl) rfl rfl (fun r68 M69 => ?_)
  refine s_aload_n hX dL_law_737 rfl ?_
  refine s_kloadK_n (r := (some 70)) hX dL_law_738 rfl ?_
  refine s_iload hX dL_law_739 rfl ?_
  refine s_iconst (v := 1) hX dL_law_741 kc_1 ?_
  refine s_iadd hX dL_law_742 ?_
  refine s_sld hX hS dL_law_743 ?_
  refine s_kloadK_n (r := (some 70)) hX dL_law_744 rfl ?_
  refine s_iload hX dL_law_745 rfl ?_
  refine s_iconst (v := 2) hX dL_law_747 kc_2 ?_
  refine s_iadd hX dL_law_748 ?_
  refine s_sld hX hS dL_law_749 ?_
  refine s_kloadK_n (r := (some 70)) hX dL_law_750 rfl ?_
  refine s_iload hX dL_law_751 rfl ?_
  refine s_iconst (v := 3) hX dL_law_753 kc_3 ?_
  refine s_iadd hX dL_law_754 ?_
  refine s_sld hX hS dL_law_755 ?_
  refine s_kloadK_n (r := (some 70)) hX dL_law_756 rfl ?_
  refine s_iload hX dL_law_757 rfl ?_
  refine s_iconst (v := 4) hX dL_law_759 kc_4 ?_
  refine s_iadd hX dL_law_760 ?_
  refine s_sld hX hS dL_law_761 ?_
  refine s_callVi (ck1 := 160 + j * 60 + 55) (sk1 := 64282 + j * 3000 + 2577) (ci := 8) hX dL_law_762 k_X10_acquire q_1534 (c_X10_acquire n M69 m (sc (i + 1).toNatClampNeg) (sc (i + 2).toNatClampNeg) (sc (i + 3).toNatClampNeg) (sc (i + 4).toNatClampNeg)) (by decide) rfl rfl rfl ⟨Nat.le_of_ble_eq_true rfl, Nat.le_of_ble_eq_true rfl⟩ ⟨(by first | omega | (simp only [room_1, NC]; omega)), (by first | omega | (simp only [room_1, NC]; omega))⟩ (Nat.le_of_ble_eq_true rfl) rfl rfl (fun r70 M71 => ?_)
  refine s_iceq (tgt := 2091) hX dL_law_765 rfl ?_ ?_
  · refine s_iinc4 (v := i + 6) hX dL_law_2091 rfl (by first | exact trivial | exact rfl) (Nat.le_of_ble_eq_true rfl) ?_
    refine s_goto (tgt := 23) hX dL_law_2094 rfl ?_
    refine s_widen (ck1 := 160 + (j + 1) * 60) (sk1 := 64282 + (j + 1) * 3000) (by omega) (by omega) ?_
    exact s_back hB
  · refine s_iconst (v := 0) hX dL_law_768 kc_0 ?_
    exact s_inr hI (s_lawret hX hR dL_law_769 (by first | omega | (simp only [room_1, NC]; omega)) (by first | omega | (simp only [room_1, NC]; omega)))
def g_law_c11 (n L : Nat) (sc : Nat → Int32) (x m out : Nat) (M : MemT) (i : Int32) : Option ((MemT × Int32) ⊕ (Int32 × MemT)) :=
  (if (i + 1) < 0 ∨ L ≤ (i + 1).toNatClampNeg then none else (if (i + 2) < 0 ∨ L ≤ (i + 2).toNatClampNeg then none else chk M 7 x (bd (g_X9_use n M x (sc (i + 1).toNatClampNeg) (sc (i + 2).toNatClampNeg)) (fun r73 M74 => (if (i + 1) < 0 ∨ L ≤ (i + 1).toNatClampNeg then none else (if (i + 2) < 0 ∨ L ≤ (i + 2).toNatClampNeg then none else chk M74 8 m (bd (g_X10_use n M74 m (sc (i + 1).toNatClampNeg) (sc (i + 2).toNatClampNeg)) (fun r75 M76 => (if r73 = r75 then some (.inl (M76, i + 6)) else some (.inr ((0, M76))))))))))))
set_option maxHeartbeats 4000000 in
set_option maxRecDepth 100000 in
theorem t_law_c11 {X : CxT} {A : Int32 × MemT → Prop} {B : (MemT × Int32) ⊕ (Int32 × MemT) → Prop} {j : Nat} (hj : j < 513) (n L : Nat) (sc : Nat → Int32) (x m out : Nat) (M : MemT) (i : Int32) (hX : CxOk X cL_law 7 RL room_1) (hl : (xl X).stackTraces = false) (hR : RetL X A) (hS : Scr X L sc) (hB : ∀ s1, B (.inl s1) → WW X 7 (160 + (j + 1) * 60) (64282 + (j + 1) * 3000) 23 (lawL x m out s1) [] (lawM s1)) (hI : ∀ u, B (.inr u) → A u) : Sim X 7 B (g_law_c11 n L sc x m out M i) (160 + j * 60) (64282 + j * 3000) 770 [some (kv ((some 70))), some (.ref x), some (.ref m), some (.ref out), some (.int i), none, none] [] M := by
  unfold g_law_c11
  refine s_aload_n hX dL_law_770 rfl ?_
  refine s_kloadK_n (r := (some 70)) hX dL_law_771 rfl ?_
  refine s_iload hX dL_law_772 rfl ?_
  refine s_iconst (v := 1) hX dL_law_774 kc_1 ?_
  refine s_iadd hX dL_law_775 ?_
  refine s_sld hX hS dL_law_776 ?_
  refine s_kloadK_n (r := (some 70)) hX dL_law_777 rfl ?_
  refine s_iload hX dL_law_778 rfl ?_
  refine s_iconst (v := 2) hX dL_law_780 kc_2 ?_
  refine s_iadd hX dL_law_781 ?_
  refine s_sld hX hS dL_law_782 ?_
  refine s_callVi (ck1 := 160 + j * 60 + 55) (sk1 := 64282 + j * 3000 + 2577) (ci := 7) hX dL_law_783 k_X9_use q_759 (c_X9_use n M x (sc (i + 1).toNatClampNeg) (sc (i + 2).toNatClampNeg)) (by decide) rfl rfl rfl ⟨Nat.le_of_ble_eq_true rfl, Nat.le_of_ble_eq_true rfl⟩ ⟨(by first | omega | (simp only [room_1, NC]; omega)), (by first | omega | (simp only [room_1, NC]; omega))⟩ (Nat.le_of_ble_eq_true rfl) rfl rfl (fun r73 M74 => ?_)
  refine s_aload_n hX dL_law_786 rfl ?_
  refine s_kloadK_n (r := (some 70)) hX dL_law_787 rfl ?_
  refine s_iload hX dL_law_788 rfl ?_
  refine s_iconst (v := 1) hX dL_law_790 kc_1 ?_
  refine s_iadd hX dL_law_791 ?_
  refine s_sld hX hS dL_law_792 ?_
  refine s_kloadK_n (r := (some 70)) hX dL_law_793 rfl ?_
  refine s_iload hX dL_law_794 rfl ?_
  refine s_iconst (v := 2) hX dL_law_796 kc_2 ?_
  refine s_iadd hX dL_law_797 ?_
  refine s_sld hX hS dL_law_798 ?_
  refine s_callVi (ck1 := 160 + j * 60 + 55) (sk1 := 64282 + j * 3000 + 2577) (ci := 8) hX dL_law_799 k_X10_use q_1538 (c_X10_use n M74 m (sc (i + 1).toNatClampNeg) (sc (i + 2).toNatClampNeg)) (by decide) rfl rfl rfl ⟨Nat.le_of_ble_eq_true rfl, Nat.le_of_ble_eq_true rfl⟩ ⟨(by first | omega | (simp only [room_1, NC]; omega)), (by first | omega | (simp only [room_1, NC]; omega))⟩ (Nat.le_of_ble_eq_true rfl) rfl rfl (fun r75 M76 => ?_)
  refine s_iceq (tgt := 2091) hX dL_law_802 rfl ?_ ?_
  · refine s_iinc4 (v := i + 6) hX dL_law_2091 rfl (by first | exact trivial | exact rfl) (Nat.le_of_ble_eq_true rfl) ?_
    refine s_goto (tgt := 23) hX dL_law_2094 rfl ?_
    refine s_widen (ck1 := 160 + (j + 1) * 60) (sk1 := 64282 + (j + 1) * 3000) (by omega) (by omega) ?_
    exact s_back hB
  · refine s_iconst (v := 0) hX dL_law_805 kc_0 ?_
    exact s_inr hI (s_lawret hX hR dL_law_806 (by first | omega | (simp only [room_1, NC]; omega)) (by first | omega | (simp only [room_1, NC]; omega)))
def g_law_c12 (n L : Nat) (sc : Nat → Int32) (x m out : Nat) (M : MemT) (i : Int32) : Option ((MemT × Int32) ⊕ (Int32 × MemT)) :=
  (if (i + 1) < 0 ∨ L ≤ (i + 1).toNatClampNeg then none else (if (i + 2) < 0 ∨ L ≤ (i + 2).toNatClampNeg then none else (if (i + 3) < 0 ∨ L ≤ (i + 3).toNatClampNeg then none else chk M 7 x (bd (g_X9_sell n M x (sc (i + 1).toNatClampNeg) (sc (i + 2).toNatClampNeg) (sc (i + 3).toNatClampNeg)) (fun r78 M79 => (if (i + 1) < 0 ∨ L ≤ (i + 1).toNatClampNeg then none else (if (i + 2) < 0 ∨ L ≤ (i + 2).toNatClampNeg then none else (if (i + 3) < 0 ∨ L ≤ (i + 3).toNatClampNeg then none else chk M79 8 m (bd (g_X10_sell n M79 m (sc (i + 1).toNatClampNeg) (sc (i + 2).toNatClampNeg) (sc (i + 3).toNatClampNeg)) (fun r80 M81 => (if r78 = r80 then some (.inl (M81, i + 6)) else some (.inr ((0, M81))))))))))))))
set_option maxHeartbeats 4000000 in
set_option maxRecDepth 100000 in
theorem t_law_c12 {X : CxT} {A : Int32 × MemT → Prop} {B : (MemT × Int32) ⊕ (Int32 × MemT) → Prop} {j : Nat} (hj : j < 513) (n L : Nat) (sc : Nat → Int32) (x m out : Nat) (M : MemT) (i : Int32) (hX : CxOk X cL_law 7 RL room_1) (hl : (xl X).stackTraces = false) (hR : RetL X A) (hS : Scr X L sc) (hB : ∀ s1, B (.inl s1) → WW X 7 (160 + (j + 1) * 60) (64282 + (j + 1) * 3000) 23 (lawL x m out s1) [] (lawM s1)) (hI : ∀ u, B (.inr u) → A u) : Sim X 7 B (g_law_c12 n L sc x m out M i) (160 + j * 60) (64282 + j * 3000) 807 [some (kv ((some 70))), some (.ref x), some (.ref m), some (.ref out), some (.int i), none, none] [] M := by
  unfold g_law_c12
  refine s_aload_n hX dL_law_807 rfl ?_
  refine s_kloadK_n (r := (some 70)) hX dL_law_808 rfl ?_
  refine s_iload hX dL_law_809 rfl ?_
  refine s_iconst (v := 1) hX dL_law_811 kc_1 ?_
  refine s_iadd hX dL_law_812 ?_
  refine s_sld hX hS dL_law_813 ?_
  refine s_kloadK_n (r := (some 70)) hX dL_law_814 rfl ?_
  refine s_iload hX dL_law_815 rfl ?_
  refine s_iconst (v := 2) hX dL_law_817 kc_2 ?_
  refine s_iadd hX dL_law_818 ?_
  refine s_sld hX hS dL_law_819 ?_
  refine s_kloadK_n (r := (some 70)) hX dL_law_820 rfl ?_
  refine s_iload hX dL_law_821 rfl ?_
  refine s_iconst (v := 3) hX dL_law_823 kc_3 ?_
  refine s_iadd hX dL_law_824 ?_
  refine s_sld hX hS dL_law_825 ?_
  refine s_callVi (ck1 := 160 + j * 60 + 55) (sk1 := 64282 + j * 3000 + 2577) (ci := 7) hX dL_law_826 k_X9_sell q_771 (c_X9_sell n M x (sc (i + 1).toNatClampNeg) (sc (i + 2).toNatClampNeg) (sc (i + 3).toNatClampNeg)) (by decide) rfl rfl rfl ⟨Nat.le_of_ble_eq_true rfl, Nat.le_of_ble_eq_true rfl⟩ ⟨(by first | omega | (simp only [room_1, NC]; omega)), (by first | omega | (simp only [room_1, NC]; omega))⟩ (Nat.le_of_ble_eq_true rfl) rfl rfl (fun r78 M79 => ?_)
  refine s_aload_n hX dL_law_829 rfl ?_
  refine s_kloadK_n (r := (some 70)) hX dL_law_830 rfl ?_
  refine s_iload hX dL_law_831 rfl ?_
  refine s_iconst (v := 1) hX dL_law_833 kc_1 ?_
  refine s_iadd hX dL_law_834 ?_
  refine s_sld hX hS dL_law_835 ?_
  refine s_kloadK_n (r := (some 70)) hX dL_law_836 rfl ?_
  refine s_iload hX dL_law_837 rfl ?_
  refine s_iconst (v := 2) hX dL_law_839 kc_2 ?_
  refine s_iadd hX dL_law_840 ?_
  refine s_sld hX hS dL_law_841 ?_
  refine s_kloadK_n (r := (some 70)) hX dL_law_842 rfl ?_
  refine s_iload hX dL_law_843 rfl ?_
  refine s_iconst (v := 3) hX dL_law_845 kc_3 ?_
  refine s_iadd hX dL_law_846 ?_
  refine s_sld hX hS dL_law_847 ?_
  refine s_callVi (ck1 := 160 + j * 60 + 55) (sk1 := 64282 + j * 3000 + 2577) (ci := 8) hX dL_law_848 k_X10_sell q_1558 (c_X10_sell n M79 m (sc (i + 1).toNatClampNeg) (sc (i + 2).toNatClampNeg) (sc (i + 3).toNatClampNeg)) (by decide) rfl rfl rfl ⟨Nat.le_of_ble_eq_true rfl, Nat.le_of_ble_eq_true rfl⟩ ⟨(by first | omega | (simp only [room_1, NC]; omega)), (by first | omega | (simp only [room_1, NC]; omega))⟩ (Nat.le_of_ble_eq_true rfl) rfl rfl (fun r80 M81 => ?_)
  refine s_iceq (tgt := 2091) hX dL_law_851 rfl ?_ ?_
  · refine s_iinc4 (v := i + 6) hX dL_law_2091 rfl (by first | exact trivial | exact rfl) (Nat.le_of_ble_eq_true rfl) ?_
    refine s_goto (tgt := 23) hX dL_law_2094 rfl ?_
    refine s_widen (ck1 := 160 + (j + 1) * 60) (sk1 := 64282 + (j + 1) * 3000) (by omega) (by omega) ?_
    exact s_back hB
  · refine s_iconst (v := 0) hX dL_law_854 kc_0 ?_
    exact s_inr hI (s_lawret hX hR dL_law_855 (by first | omega | (simp only [room_1, NC]; omega)) (by first | omega | (simp only [room_1, NC]; omega)))
def g_law_c13 (n L : Nat) (sc : Nat → Int32) (x m out : Nat) (M : MemT) (i : Int32) : Option ((MemT × Int32) ⊕ (Int32 × MemT)) :=
  (if (i + 1) < 0 ∨ L ≤ (i + 1).toNatClampNeg then none else (if (i + 2) < 0 ∨ L ≤ (i + 2).toNatClampNeg then none else chk M 7 x (bd (g_X9_hand n M x (sc (i + 1).toNatClampNeg) (sc (i + 2).toNatClampNeg)) (fun r83 M84 => (if (i + 1) < 0 ∨ L ≤ (i + 1).toNatClampNeg then none else (if (i + 2) < 0 ∨ L ≤ (i + 2).toNatClampNeg then none else chk M84 8 m (bd (g_X10_hand n M84 m (sc (i + 1).toNatClampNeg) (sc (i + 2).toNatClampNeg)) (fun r85 M86 => (if r83 = r85 then some (.inl (M86, i + 6)) else some (.inr ((0, M86))))))))))))
set_option maxHeartbeats 4000000 in
set_option maxRecDepth 100000 in
theorem t_law_c13 {X : CxT} {A : Int32 × MemT → Prop} {B : (MemT × Int32) ⊕ (Int32 × MemT) → Prop} {j : Nat} (hj : j < 513) (n L : Nat) (sc : Nat → Int32) (x m out : Nat) (M : MemT) (i : Int32) (hX : CxOk X cL_law 7 RL room_1) (hl : (xl X).stackTraces = false) (hR : RetL X A) (hS : Scr X L sc) (hB : ∀ s1, B (.inl s1) → WW X 7 (160 + (j + 1) * 60) (64282 + (j + 1) * 3000) 23 (lawL x m out s1) [] (lawM s1)) (hI : ∀ u, B (.inr u) → A u) : Sim X 7 B (g_law_c13 n L sc x m out M i) (160 + j * 60) (64282 + j * 3000) 856 [some (kv ((some 70))), some (.ref x), some (.ref m), some (.ref out), some (.int i), none, none] [] M := by
  unfold g_law_c13
  refine s_aload_n hX dL_law_856 rfl ?_
  refine s_kloadK_n (r := (some 70)) hX dL_law_857 rfl ?_
  refine s_iload hX dL_law_858 rfl ?_
  refine s_iconst (v := 1) hX dL_law_860 kc_1 ?_
  refine s_iadd hX dL_law_861 ?_
  refine s_sld hX hS dL_law_862 ?_
  refine s_kloadK_n (r := (some 70)) hX dL_law_863 rfl ?_
  refine s_iload hX dL_law_864 rfl ?_
  refine s_iconst (v := 2) hX dL_law_866 kc_2 ?_
  refine s_iadd hX dL_law_867 ?_
  refine s_sld hX hS dL_law_868 ?_
  refine s_callVi (ck1 := 160 + j * 60 + 55) (sk1 := 64282 + j * 3000 + 2577) (ci := 7) hX dL_law_869 k_X9_hand q_780 (c_X9_hand n M x (sc (i + 1).toNatClampNeg) (sc (i + 2).toNatClampNeg)) (by decide) rfl rfl rfl ⟨Nat.le_of_ble_eq_true rfl, Nat.le_of_ble_eq_true rfl⟩ ⟨(by first | omega | (simp only [room_1, NC]; omega)), (by first | omega | (simp only [room_1, NC]; omega))⟩ (Nat.le_of_ble_eq_true rfl) rfl rfl (fun r83 M84 => ?_)
  refine s_aload_n hX dL_law_872 rfl ?_
  refine s_kloadK_n (r := (some 70)) hX dL_law_873 rfl ?_
  refine s_iload hX dL_law_874 rfl ?_
  refine s_iconst (v := 1) hX dL_law_876 kc_1 ?_
  refine s_iadd hX dL_law_877 ?_
  refine s_sld hX hS dL_law_878 ?_
  refine s_kloadK_n (r := (some 70)) hX dL_law_879 rfl ?_
  refine s_iload hX dL_law_880 rfl ?_
  refine s_iconst (v := 2) hX dL_law_882 kc_2 ?_
  refine s_iadd hX dL_law_883 ?_
  refine s_sld hX hS dL_law_884 ?_
  refine s_callVi (ck1 := 160 + j * 60 + 55) (sk1 := 64282 + j * 3000 + 2577) (ci := 8) hX dL_law_885 k_X10_hand q_1566 (c_X10_hand n M84 m (sc (i + 1).toNatClampNeg) (sc (i + 2).toNatClampNeg)) (by decide) rfl rfl rfl ⟨Nat.le_of_ble_eq_true rfl, Nat.le_of_ble_eq_true rfl⟩ ⟨(by first | omega | (simp only [room_1, NC]; omega)), (by first | omega | (simp only [room_1, NC]; omega))⟩ (Nat.le_of_ble_eq_true rfl) rfl rfl (fun r85 M86 => ?_)
  refine s_iceq (tgt := 2091) hX dL_law_888 rfl ?_ ?_
  · refine s_iinc4 (v := i + 6) hX dL_law_2091 rfl (by first | exact trivial | exact rfl) (Nat.le_of_ble_eq_true rfl) ?_
    refine s_goto (tgt := 23) hX dL_law_2094 rfl ?_
    refine s_widen (ck1 := 160 + (j + 1) * 60) (sk1 := 64282 + (j + 1) * 3000) (by omega) (by omega) ?_
    exact s_back hB
  · refine s_iconst (v := 0) hX dL_law_891 kc_0 ?_
    exact s_inr hI (s_lawret hX hR dL_law_892 (by first | omega | (simp only [room_1, NC]; omega)) (by first | omega | (simp only [room_1, NC]; omega)))
def g_law_c14 (n L : Nat) (sc : Nat → Int32) (x m out : Nat) (M : MemT) (i : Int32) : Option ((MemT × Int32) ⊕ (Int32 × MemT)) :=
  (if (i + 1) < 0 ∨ L ≤ (i + 1).toNatClampNeg then none else chk M 7 x (bd (g_X9_close n M x (sc (i + 1).toNatClampNeg)) (fun r88 M89 => (if (i + 1) < 0 ∨ L ≤ (i + 1).toNatClampNeg then none else chk M89 8 m (bd (g_X10_close n M89 m (sc (i + 1).toNatClampNeg)) (fun r90 M91 => (if r88 = r90 then some (.inl (M91, i + 6)) else some (.inr ((0, M91))))))))))
set_option maxHeartbeats 4000000 in
set_option maxRecDepth 100000 in
theorem t_law_c14 {X : CxT} {A : Int32 × MemT → Prop} {B : (MemT × Int32) ⊕ (Int32 × MemT) → Prop} {j : Nat} (hj : j < 513) (n L : Nat) (sc : Nat → Int32) (x m out : Nat) (M : MemT) (i : Int32) (hX : CxOk X cL_law 7 RL room_1) (hl : (xl X).stackTraces = false) (hR : RetL X A) (hS : Scr X L sc) (hB : ∀ s1, B (.inl s1) → WW X 7 (160 + (j + 1) * 60) (64282 + (j + 1) * 3000) 23 (lawL x m out s1) [] (lawM s1)) (hI : ∀ u, B (.inr u) → A u) : Sim X 7 B (g_law_c14 n L sc x m out M i) (160 + j * 60) (64282 + j * 3000) 893 [some (kv ((some 70))), some (.ref x), some (.ref m), some (.ref out), some (.int i), none, none] [] M := by
  unfold g_law_c14
  refine s_aload_n hX dL_law_893 rfl ?_
  refine s_kloadK_n (r := (some 70)) hX dL_law_894 rfl ?_
  refine s_iload hX dL_law_895 rfl ?_
  refine s_iconst (v := 1) hX dL_law_897 kc_1 ?_
  refine s_iadd hX dL_law_898 ?_
  refine s_sld hX hS dL_law_899 ?_
  refine s_callVi (ck1 := 160 + j * 60 + 55) (sk1 := 64282 + j * 3000 + 2577) (ci := 7) hX dL_law_900 k_X9_close q_784 (c_X9_close n M x (sc (i + 1).toNatClampNeg)) (by decide) rfl rfl rfl ⟨Nat.le_of_ble_eq_true rfl, Nat.le_of_ble_eq_true rfl⟩ ⟨(by first | omega | (simp only [room_1, NC]; omega)), (by first | omega | (simp only [room_1, NC]; omega))⟩ (Nat.le_of_ble_eq_true rfl) rfl rfl (fun r88 M89 => ?_)
  refine s_aload_n hX dL_law_903 rfl ?_
  refine s_kloadK_n (r := (some 70)) hX dL_law_904 rfl ?_
  refine s_iload hX dL_law_905 rfl ?_
  refine s_iconst (v := 1) hX dL_law_907 kc_1 ?_
  refine s_iadd hX dL_law_908 ?_
  refine s_sld hX hS dL_law_909 ?_
  refine s_callVi (ck1 := 160 + j * 60 + 55) (sk1 := 64282 + j * 3000 + 2577) (ci := 8) hX dL_law_910 k_X10_close q_1570 (c_X10_close n M89 m (sc (i + 1).toNatClampNeg)) (by decide) rfl rfl rfl ⟨Nat.le_of_ble_eq_true rfl, Nat.le_of_ble_eq_true rfl⟩ ⟨(by first | omega | (simp only [room_1, NC]; omega)), (by first | omega | (simp only [room_1, NC]; omega))⟩ (Nat.le_of_ble_eq_true rfl) rfl rfl (fun r90 M91 => ?_)
  refine s_iceq (tgt := 2091) hX dL_law_913 rfl ?_ ?_
  · refine s_iinc4 (v := i + 6) hX dL_law_2091 rfl (by first | exact trivial | exact rfl) (Nat.le_of_ble_eq_true rfl) ?_
    refine s_goto (tgt := 23) hX dL_law_2094 rfl ?_
    refine s_widen (ck1 := 160 + (j + 1) * 60) (sk1 := 64282 + (j + 1) * 3000) (by omega) (by omega) ?_
    exact s_back hB
  · refine s_iconst (v := 0) hX dL_law_916 kc_0 ?_
    exact s_inr hI (s_lawret hX hR dL_law_917 (by first | omega | (simp only [room_1, NC]; omega)) (by first | omega | (simp only [room_1, NC]; omega)))
def g_law_c15 (n L : Nat) (sc : Nat → Int32) (x m out : Nat) (M : MemT) (i : Int32) : Option ((MemT × Int32) ⊕ (Int32 × MemT)) :=
  (if (i + 1) < 0 ∨ L ≤ (i + 1).toNatClampNeg then none else (if (i + 2) < 0 ∨ L ≤ (i + 2).toNatClampNeg then none else (if (i + 3) < 0 ∨ L ≤ (i + 3).toNatClampNeg then none else chk M 7 x (bd (g_X9_sum n M x (sc (i + 1).toNatClampNeg) (sc (i + 2).toNatClampNeg) (sc (i + 3).toNatClampNeg)) (fun r93 M94 => (if (i + 1) < 0 ∨ L ≤ (i + 1).toNatClampNeg then none else (if (i + 2) < 0 ∨ L ≤ (i + 2).toNatClampNeg then none else (if (i + 3) < 0 ∨ L ≤ (i + 3).toNatClampNeg then none else chk M94 8 m (bd (g_X10_sum n M94 m (sc (i + 1).toNatClampNeg) (sc (i + 2).toNatClampNeg) (sc (i + 3).toNatClampNeg)) (fun r95 M96 => (if r93 = r95 then some (.inl (M96, i + 6)) else some (.inr ((0, M96))))))))))))))
set_option maxHeartbeats 4000000 in
set_option maxRecDepth 100000 in
theorem t_law_c15 {X : CxT} {A : Int32 × MemT → Prop} {B : (MemT × Int32) ⊕ (Int32 × MemT) → Prop} {j : Nat} (hj : j < 513) (n L : Nat) (sc : Nat → Int32) (x m out : Nat) (M : MemT) (i : Int32) (hX : CxOk X cL_law 7 RL room_1) (hl : (xl X).stackTraces = false) (hR : RetL X A) (hS : Scr X L sc) (hB : ∀ s1, B (.inl s1) → WW X 7 (160 + (j + 1) * 60) (64282 + (j + 1) * 3000) 23 (lawL x m out s1) [] (lawM s1)) (hI : ∀ u, B (.inr u) → A u) : Sim X 7 B (g_law_c15 n L sc x m out M i) (160 + j * 60) (64282 + j * 3000) 918 [some (kv ((some 70))), some (.ref x), some (.ref m), some (.ref out), some (.int i), none, none] [] M := by
  unfold g_law_c15
  refine s_aload_n hX dL_law_918 rfl ?_
  refine s_kloadK_n (r := (some 70)) hX dL_law_919 rfl ?_
  refine s_iload hX dL_law_920 rfl ?_
  refine s_iconst (v := 1) hX dL_law_922 kc_1 ?_
  refine s_iadd hX dL_law_923 ?_
  refine s_sld hX hS dL_law_924 ?_
  refine s_kloadK_n (r := (some 70)) hX dL_law_925 rfl ?_
  refine s_iload hX dL_law_926 rfl ?_
  refine s_iconst (v := 2) hX dL_law_928 kc_2 ?_
  refine s_iadd hX dL_law_929 ?_
  refine s_sld hX hS dL_law_930 ?_
  refine s_kloadK_n (r := (some 70)) hX dL_law_931 rfl ?_
  refine s_iload hX dL_law_932 rfl ?_
  refine s_iconst (v := 3) hX dL_law_934 kc_3 ?_
  refine s_iadd hX dL_law_935 ?_
  refine s_sld hX hS dL_law_936 ?_
  refine s_callVi (ck1 := 160 + j * 60) (sk1 := 64282 + j * 3000) (ci := 7) hX dL_law_937 k_X9_sum q_915 (c_X9_sum n M x (sc (i + 1).toNatClampNeg) (sc (i + 2).toNatClampNeg) (sc (i + 3).toNatClampNeg)) (by decide) rfl rfl rfl ⟨Nat.le_of_ble_eq_true rfl, Nat.le_of_ble_eq_true rfl⟩ ⟨(by first | omega | (simp only [room_1, NC]; omega)), (by first | omega | (simp only [room_1, NC]; omega))⟩ (Nat.le_of_ble_eq_true rfl) rfl rfl (fun r93 M94 => ?_)
  refine s_aload_n hX dL_law_940 rfl ?_
  refine s_kloadK_n (r := (some 70)) hX dL_law_941 rfl ?_
  refine s_iload hX dL_law_942 rfl ?_
  refine s_iconst (v := 1) hX dL_law_944 kc_1 ?_
  refine s_iadd hX dL_law_945 ?_
  refine s_sld hX hS dL_law_946 ?_
  refine s_kloadK_n (r := (some 70)) hX dL_law_947 rfl ?_
  refine s_iload hX dL_law_948 rfl ?_
  refine s_iconst (v := 2) hX dL_law_950 kc_2 ?_
  refine s_iadd hX dL_law_951 ?_
  refine s_sld hX hS dL_law_952 ?_
  refine s_kloadK_n (r := (some 70)) hX dL_law_953 rfl ?_
  refine s_iload hX dL_law_954 rfl ?_
  refine s_iconst (v := 3) hX dL_law_956 kc_3 ?_
  refine s_iadd hX dL_law_957 ?_
  refine s_sld hX hS dL_law_958 ?_
  refine s_callVi (ck1 := 160 + j * 60) (sk1 := 64282 + j * 3000) (ci := 8) hX dL_law_959 k_X10_sum q_1690 (c_X10_sum n M94 m (sc (i + 1).toNatClampNeg) (sc (i + 2).toNatClampNeg) (sc (i + 3).toNatClampNeg)) (by decide) rfl rfl rfl ⟨Nat.le_of_ble_eq_true rfl, Nat.le_of_ble_eq_true rfl⟩ ⟨(by first | omega | (simp only [room_1, NC]; omega)), (by first | omega | (simp only [room_1, NC]; omega))⟩ (Nat.le_of_ble_eq_true rfl) rfl rfl (fun r95 M96 => ?_)
  refine s_iceq (tgt := 2091) hX dL_law_962 rfl ?_ ?_
  · refine s_iinc4 (v := i + 6) hX dL_law_2091 rfl (by first | exact trivial | exact rfl) (Nat.le_of_ble_eq_true rfl) ?_
    refine s_goto (tgt := 23) hX dL_law_2094 rfl ?_
    refine s_widen (ck1 := 160 + (j + 1) * 60) (sk1 := 64282 + (j + 1) * 3000) (by omega) (by omega) ?_
    exact s_back hB
  · refine s_iconst (v := 0) hX dL_law_965 kc_0 ?_
    exact s_inr hI (s_lawret hX hR dL_law_966 (by first | omega | (simp only [room_1, NC]; omega)) (by first | omega | (simp only [room_1, NC]; omega)))
def g_law_c16 (n L : Nat) (sc : Nat → Int32) (x m out : Nat) (M : MemT) (i : Int32) : Option ((MemT × Int32) ⊕ (Int32 × MemT)) :=
  (if (i + 1) < 0 ∨ L ≤ (i + 1).toNatClampNeg then none else (if (i + 2) < 0 ∨ L ≤ (i + 2).toNatClampNeg then none else chk M 7 x (bd (g_X9_provisional n M x (sc (i + 1).toNatClampNeg) (sc (i + 2).toNatClampNeg)) (fun r98 M99 => (if (i + 1) < 0 ∨ L ≤ (i + 1).toNatClampNeg then none else (if (i + 2) < 0 ∨ L ≤ (i + 2).toNatClampNeg then none else chk M99 8 m (bd (g_X10_provisional n M99 m (sc (i + 1).toNatClampNeg) (sc (i + 2).toNatClampNeg)) (fun r100 M101 => (if r98 = r100 then some (.inl (M101, i + 6)) else some (.inr ((0, M101))))))))))))
set_option maxHeartbeats 4000000 in
set_option maxRecDepth 100000 in
theorem t_law_c16 {X : CxT} {A : Int32 × MemT → Prop} {B : (MemT × Int32) ⊕ (Int32 × MemT) → Prop} {j : Nat} (hj : j < 513) (n L : Nat) (sc : Nat → Int32) (x m out : Nat) (M : MemT) (i : Int32) (hX : CxOk X cL_law 7 RL room_1) (hl : (xl X).stackTraces = false) (hR : RetL X A) (hS : Scr X L sc) (hB : ∀ s1, B (.inl s1) → WW X 7 (160 + (j + 1) * 60) (64282 + (j + 1) * 3000) 23 (lawL x m out s1) [] (lawM s1)) (hI : ∀ u, B (.inr u) → A u) : Sim X 7 B (g_law_c16 n L sc x m out M i) (160 + j * 60) (64282 + j * 3000) 967 [some (kv ((some 70))), some (.ref x), some (.ref m), some (.ref out), some (.int i), none, none] [] M := by
  unfold g_law_c16
  refine s_aload_n hX dL_law_967 rfl ?_
  refine s_kloadK_n (r := (some 70)) hX dL_law_968 rfl ?_
  refine s_iload hX dL_law_969 rfl ?_
  refine s_iconst (v := 1) hX dL_law_971 kc_1 ?_
  refine s_iadd hX dL_law_972 ?_
  refine s_sld hX hS dL_law_973 ?_
  refine s_kloadK_n (r := (some 70)) hX dL_law_974 rfl ?_
  refine s_iload hX dL_law_975 rfl ?_
  refine s_iconst (v := 2) hX dL_law_977 kc_2 ?_
  refine s_iadd hX dL_law_978 ?_
  refine s_sld hX hS dL_law_979 ?_
  refine s_callVi (ck1 := 160 + j * 60) (sk1 := 64282 + j * 3000) (ci := 7) hX dL_law_980 k_X9_provisional q_920 (c_X9_provisional n M x (sc (i + 1).toNatClampNeg) (sc (i + 2).toNatClampNeg)) (by decide) rfl rfl rfl ⟨Nat.le_of_ble_eq_true rfl, Nat.le_of_ble_eq_true rfl⟩ ⟨(by first | omega | (simp only [room_1, NC]; omega)), (by first | omega | (simp only [room_1, NC]; omega))⟩ (Nat.le_of_ble_eq_true rfl) rfl rfl (fun r98 M99 => ?_)
  refine s_aload_n hX dL_law_983 rfl ?_
  refine s_kloadK_n (r := (some 70)) hX dL_law_984 rfl ?_
  refine s_iload hX dL_law_985 rfl ?_
  refine s_iconst (v := 1) hX dL_law_987 kc_1 ?_
  refine s_iadd hX dL_law_988 ?_
  refine s_sld hX hS dL_law_989 ?_
  refine s_kloadK_n (r := (some 70)) hX dL_law_990 rfl ?_
  refine s_iload hX dL_law_991 rfl ?_
  refine s_iconst (v := 2) hX dL_law_993 kc_2 ?_
  refine s_iadd hX dL_law_994 ?_
  refine s_sld hX hS dL_law_995 ?_
  refine s_callVi (ck1 := 160 + j * 60) (sk1 := 64282 + j * 3000) (ci := 8) hX dL_law_996 k_X10_provisional q_1698 (c_X10_provisional n M99 m (sc (i + 1).toNatClampNeg) (sc (i + 2).toNatClampNeg)) (by decide) rfl rfl rfl ⟨Nat.le_of_ble_eq_true rfl, Nat.le_of_ble_eq_true rfl⟩ ⟨(by first | omega | (simp only [room_1, NC]; omega)), (by first | omega | (simp only [room_1, NC]; omega))⟩ (Nat.le_of_ble_eq_true rfl) rfl rfl (fun r100 M101 => ?_)
  refine s_iceq (tgt := 2091) hX dL_law_999 rfl ?_ ?_
  · refine s_iinc4 (v := i + 6) hX dL_law_2091 rfl (by first | exact trivial | exact rfl) (Nat.le_of_ble_eq_true rfl) ?_
    refine s_goto (tgt := 23) hX dL_law_2094 rfl ?_
    refine s_widen (ck1 := 160 + (j + 1) * 60) (sk1 := 64282 + (j + 1) * 3000) (by omega) (by omega) ?_
    exact s_back hB
  · refine s_iconst (v := 0) hX dL_law_1002 kc_0 ?_
    exact s_inr hI (s_lawret hX hR dL_law_1003 (by first | omega | (simp only [room_1, NC]; omega)) (by first | omega | (simp only [room_1, NC]; omega)))
def g_law_c17 (n L : Nat) (sc : Nat → Int32) (x m out : Nat) (M : MemT) (i : Int32) : Option ((MemT × Int32) ⊕ (Int32 × MemT)) :=
  (if (i + 1) < 0 ∨ L ≤ (i + 1).toNatClampNeg then none else (if (i + 2) < 0 ∨ L ≤ (i + 2).toNatClampNeg then none else chk M 7 x (bd (g_X9_recovered n M x (sc (i + 1).toNatClampNeg) (sc (i + 2).toNatClampNeg)) (fun r103 M104 => (if (i + 1) < 0 ∨ L ≤ (i + 1).toNatClampNeg then none else (if (i + 2) < 0 ∨ L ≤ (i + 2).toNatClampNeg then none else chk M104 8 m (bd (g_X10_recovered n M104 m (sc (i + 1).toNatClampNeg) (sc (i + 2).toNatClampNeg)) (fun r105 M106 => (if r103 = r105 then some (.inl (M106, i + 6)) else some (.inr ((0, M106))))))))))))
set_option maxHeartbeats 4000000 in
set_option maxRecDepth 100000 in
theorem t_law_c17 {X : CxT} {A : Int32 × MemT → Prop} {B : (MemT × Int32) ⊕ (Int32 × MemT) → Prop} {j : Nat} (hj : j < 513) (n L : Nat) (sc : Nat → Int32) (x m out : Nat) (M : MemT) (i : Int32) (hX : CxOk X cL_law 7 RL room_1) (hl : (xl X).stackTraces = false) (hR : RetL X A) (hS : Scr X L sc) (hB : ∀ s1, B (.inl s1) → WW X 7 (160 + (j + 1) * 60) (64282 + (j + 1) * 3000) 23 (lawL x m out s1) [] (lawM s1)) (hI : ∀ u, B (.inr u) → A u) : Sim X 7 B (g_law_c17 n L sc x m out M i) (160 + j * 60) (64282 + j * 3000) 1004 [some (kv ((some 70))), some (.ref x), some (.ref m), some (.ref out), some (.int i), none, none] [] M := by
  unfold g_law_c17
  refine s_aload_n hX dL_law_1004 rfl ?_
  refine s_kloadK_n (r := (some 70)) hX dL_law_1005 rfl ?_
  refine s_iload hX dL_law_1006 rfl ?_
  refine s_iconst (v := 1) hX dL_law_1008 kc_1 ?_
  refine s_iadd hX dL_law_1009 ?_
  refine s_sld hX hS dL_law_1010 ?_
  refine s_kloadK_n (r := (some 70)) hX dL_law_1011 rfl ?_
  refine s_iload hX dL_law_1012 rfl ?_
  refine s_iconst (v := 2) hX dL_law_1014 kc_2 ?_
  refine s_iadd hX dL_law_1015 ?_
  refine s_sld hX hS dL_law_1016 ?_
  refine s_callVi (ck1 := 160 + j * 60) (sk1 := 64282 + j * 3000) (ci := 7) hX dL_law_1017 k_X9_recovered q_929 (c_X9_recovered n M x (sc (i + 1).toNatClampNeg) (sc (i + 2).toNatClampNeg)) (by decide) rfl rfl rfl ⟨Nat.le_of_ble_eq_true rfl, Nat.le_of_ble_eq_true rfl⟩ ⟨(by first | omega | (simp only [room_1, NC]; omega)), (by first | omega | (simp only [room_1, NC]; omega))⟩ (Nat.le_of_ble_eq_true rfl) rfl rfl (fun r103 M104 => ?_)
  refine s_aload_n hX dL_law_1020 rfl ?_
  refine s_kloadK_n (r := (some 70)) hX dL_law_1021 rfl ?_
  refine s_iload hX dL_law_1022 rfl ?_
  refine s_iconst (v := 1) hX dL_law_1024 kc_1 ?_
  refine s_iadd hX dL_law_1025 ?_
  refine s_sld hX hS dL_law_1026 ?_
  refine s_kloadK_n (r := (some 70)) hX dL_law_1027 rfl ?_
  refine s_iload hX dL_law_1028 rfl ?_
  refine s_iconst (v := 2) hX dL_law_1030 kc_2 ?_
  refine s_iadd hX dL_law_1031 ?_
  refine s_sld hX hS dL_law_1032 ?_
  refine s_callVi (ck1 := 160 + j * 60) (sk1 := 64282 + j * 3000) (ci := 8) hX dL_law_1033 k_X10_recovered q_1702 (c_X10_recovered n M104 m (sc (i + 1).toNatClampNeg) (sc (i + 2).toNatClampNeg)) (by decide) rfl rfl rfl ⟨Nat.le_of_ble_eq_true rfl, Nat.le_of_ble_eq_true rfl⟩ ⟨(by first | omega | (simp only [room_1, NC]; omega)), (by first | omega | (simp only [room_1, NC]; omega))⟩ (Nat.le_of_ble_eq_true rfl) rfl rfl (fun r105 M106 => ?_)
  refine s_iceq (tgt := 2091) hX dL_law_1036 rfl ?_ ?_
  · refine s_iinc4 (v := i + 6) hX dL_law_2091 rfl (by first | exact trivial | exact rfl) (Nat.le_of_ble_eq_true rfl) ?_
    refine s_goto (tgt := 23) hX dL_law_2094 rfl ?_
    refine s_widen (ck1 := 160 + (j + 1) * 60) (sk1 := 64282 + (j + 1) * 3000) (by omega) (by omega) ?_
    exact s_back hB
  · refine s_iconst (v := 0) hX dL_law_1039 kc_0 ?_
    exact s_inr hI (s_lawret hX hR dL_law_1040 (by first | omega | (simp only [room_1, NC]; omega)) (by first | omega | (simp only [room_1, NC]; omega)))
def g_law_c18 (n L : Nat) (sc : Nat → Int32) (x m out : Nat) (M : MemT) (i : Int32) : Option ((MemT × Int32) ⊕ (Int32 × MemT)) :=
  (if (i + 1) < 0 ∨ L ≤ (i + 1).toNatClampNeg then none else (if (i + 2) < 0 ∨ L ≤ (i + 2).toNatClampNeg then none else (if (i + 3) < 0 ∨ L ≤ (i + 3).toNatClampNeg then none else chk M 7 x (bd (g_X9_annual n M x (sc (i + 1).toNatClampNeg) (sc (i + 2).toNatClampNeg) (sc (i + 3).toNatClampNeg)) (fun r108 M109 => (if (i + 1) < 0 ∨ L ≤ (i + 1).toNatClampNeg then none else (if (i + 2) < 0 ∨ L ≤ (i + 2).toNatClampNeg then none else (if (i + 3) < 0 ∨ L ≤ (i + 3).toNatClampNeg then none else chk M109 8 m (bd (g_X10_annual n M109 m (sc (i + 1).toNatClampNeg) (sc (i + 2).toNatClampNeg) (sc (i + 3).toNatClampNeg)) (fun r110 M111 => (if r108 = r110 then some (.inl (M111, i + 6)) else some (.inr ((0, M111))))))))))))))
set_option maxHeartbeats 4000000 in
set_option maxRecDepth 100000 in
theorem t_law_c18 {X : CxT} {A : Int32 × MemT → Prop} {B : (MemT × Int32) ⊕ (Int32 × MemT) → Prop} {j : Nat} (hj : j < 513) (n L : Nat) (sc : Nat → Int32) (x m out : Nat) (M : MemT) (i : Int32) (hX : CxOk X cL_law 7 RL room_1) (hl : (xl X).stackTraces = false) (hR : RetL X A) (hS : Scr X L sc) (hB : ∀ s1, B (.inl s1) → WW X 7 (160 + (j + 1) * 60) (64282 + (j + 1) * 3000) 23 (lawL x m out s1) [] (lawM s1)) (hI : ∀ u, B (.inr u) → A u) : Sim X 7 B (g_law_c18 n L sc x m out M i) (160 + j * 60) (64282 + j * 3000) 1041 [some (kv ((some 70))), some (.ref x), some (.ref m), some (.ref out), some (.int i), none, none] [] M := by
  unfold g_law_c18
  refine s_aload_n hX dL_law_1041 rfl ?_
  refine s_kloadK_n (r := (some 70)) hX dL_law_1042 rfl ?_
  refine s_iload hX dL_law_1043 rfl ?_
  refine s_iconst (v := 1) hX dL_law_1045 kc_1 ?_
  refine s_iadd hX dL_law_1046 ?_
  refine s_sld hX hS dL_law_1047 ?_
  refine s_kloadK_n (r := (some 70)) hX dL_law_1048 rfl ?_
  refine s_iload hX dL_law_1049 rfl ?_
  refine s_iconst (v := 2) hX dL_law_1051 kc_2 ?_
  refine s_iadd hX dL_law_1052 ?_
  refine s_sld hX hS dL_law_1053 ?_
  refine s_kloadK_n (r := (some 70)) hX dL_law_1054 rfl ?_
  refine s_iload hX dL_law_1055 rfl ?_
  refine s_iconst (v := 3) hX dL_law_1057 kc_3 ?_
  refine s_iadd hX dL_law_1058 ?_
  refine s_sld hX hS dL_law_1059 ?_
  refine s_callVi (ck1 := 160 + j * 60) (sk1 := 64282 + j * 3000) (ci := 7) hX dL_law_1060 k_X9_annual q_937 (c_X9_annual n M x (sc (i + 1).toNatClampNeg) (sc (i + 2).toNatClampNeg) (sc (i + 3).toNatClampNeg)) (by decide) rfl rfl rfl ⟨Nat.le_of_ble_eq_true rfl, Nat.le_of_ble_eq_true rfl⟩ ⟨(by first | omega | (simp only [room_1, NC]; omega)), (by first | omega | (simp only [room_1, NC]; omega))⟩ (Nat.le_of_ble_eq_true rfl) rfl rfl (fun r108 M109 => ?_)
  refine s_aload_n hX dL_law_1063 rfl ?_
  refine s_kloadK_n (r := (some 70)) hX dL_law_1064 rfl ?_
  refine s_iload hX dL_law_1065 rfl ?_
  refine s_iconst (v := 1) hX dL_law_1067 kc_1 ?_
  refine s_iadd hX dL_law_1068 ?_
  refine s_sld hX hS dL_law_1069 ?_
  refine s_kloadK_n (r := (some 70)) hX dL_law_1070 rfl ?_
  refine s_iload hX dL_law_1071 rfl ?_
  refine s_iconst (v := 2) hX dL_law_1073 kc_2 ?_
  refine s_iadd hX dL_law_1074 ?_
  refine s_sld hX hS dL_law_1075 ?_
  refine s_kloadK_n (r := (some 70)) hX dL_law_1076 rfl ?_
  refine s_iload hX dL_law_1077 rfl ?_
  refine s_iconst (v := 3) hX dL_law_1079 kc_3 ?_
  refine s_iadd hX dL_law_1080 ?_
  refine s_sld hX hS dL_law_1081 ?_
  refine s_callVi (ck1 := 160 + j * 60) (sk1 := 64282 + j * 3000) (ci := 8) hX dL_law_1082 k_X10_annual q_1706 (c_X10_annual n M109 m (sc (i + 1).toNatClampNeg) (sc (i + 2).toNatClampNeg) (sc (i + 3).toNatClampNeg)) (by decide) rfl rfl rfl ⟨Nat.le_of_ble_eq_true rfl, Nat.le_of_ble_eq_true rfl⟩ ⟨(by first | omega | (simp only [room_1, NC]; omega)), (by first | omega | (simp only [room_1, NC]; omega))⟩ (Nat.le_of_ble_eq_true rfl) rfl rfl (fun r110 M111 => ?_)
  refine s_iceq (tgt := 2091) hX dL_law_1085 rfl ?_ ?_
  · refine s_iinc4 (v := i + 6) hX dL_law_2091 rfl (by first | exact trivial | exact rfl) (Nat.le_of_ble_eq_true rfl) ?_
    refine s_goto (tgt := 23) hX dL_law_2094 rfl ?_
    refine s_widen (ck1 := 160 + (j + 1) * 60) (sk1 := 64282 + (j + 1) * 3000) (by omega) (by omega) ?_
    exact s_back hB
  · refine s_iconst (v := 0) hX dL_law_1088 kc_0 ?_
    exact s_inr hI (s_lawret hX hR dL_law_1089 (by first | omega | (simp only [room_1, NC]; omega)) (by first | omega | (simp only [room_1, NC]; omega)))
def g_law_c19 (n L : Nat) (sc : Nat → Int32) (x m out : Nat) (M : MemT) (i : Int32) : Option ((MemT × Int32) ⊕ (Int32 × MemT)) :=
  (if (i + 1) < 0 ∨ L ≤ (i + 1).toNatClampNeg then none else (if (i + 2) < 0 ∨ L ≤ (i + 2).toNatClampNeg then none else (if (i + 3) < 0 ∨ L ≤ (i + 3).toNatClampNeg then none else chk M 7 x (bd (g_X9_interval n M x (sc (i + 1).toNatClampNeg) (sc (i + 2).toNatClampNeg) (sc (i + 3).toNatClampNeg)) (fun r113 M114 => (if (i + 1) < 0 ∨ L ≤ (i + 1).toNatClampNeg then none else (if (i + 2) < 0 ∨ L ≤ (i + 2).toNatClampNeg then none else (if (i + 3) < 0 ∨ L ≤ (i + 3).toNatClampNeg then none else chk M114 8 m (bd (g_X10_interval n M114 m (sc (i + 1).toNatClampNeg) (sc (i + 2).toNatClampNeg) (sc (i + 3).toNatClampNeg)) (fun r115 M116 => (if r113 = r115 then some (.inl (M116, i + 6)) else some (.inr ((0, M116))))))))))))))
set_option maxHeartbeats 4000000 in
set_option maxRecDepth 100000 in
theorem t_law_c19 {X : CxT} {A : Int32 × MemT → Prop} {B : (MemT × Int32) ⊕ (Int32 × MemT) → Prop} {j : Nat} (hj : j < 513) (n L : Nat) (sc : Nat → Int32) (x m out : Nat) (M : MemT) (i : Int32) (hX : CxOk X cL_law 7 RL room_1) (hl : (xl X).stackTraces = false) (hR : RetL X A) (hS : Scr X L sc) (hB : ∀ s1, B (.inl s1) → WW X 7 (160 + (j + 1) * 60) (64282 + (j + 1) * 3000) 23 (lawL x m out s1) [] (lawM s1)) (hI : ∀ u, B (.inr u) → A u) : Sim X 7 B (g_law_c19 n L sc x m out M i) (160 + j * 60) (64282 + j * 3000) 1090 [some (kv ((some 70))), some (.ref x), some (.ref m), some (.ref out), some (.int i), none, none] [] M := by
  unfold g_law_c19
  refine s_aload_n hX dL_law_1090 rfl ?_
  refine s_kloadK_n (r := (some 70)) hX dL_law_1091 rfl ?_
  refine s_iload hX dL_law_1092 rfl ?_
  refine s_iconst (v := 1) hX dL_law_1094 kc_1 ?_
  refine s_iadd hX dL_law_1095 ?_
  refine s_sld hX hS dL_law_1096 ?_
  refine s_kloadK_n (r := (some 70)) hX dL_law_1097 rfl ?_
  refine s_iload hX dL_law_1098 rfl ?_
  refine s_iconst (v := 2) hX dL_law_1100 kc_2 ?_
  refine s_iadd hX dL_law_1101 ?_
  refine s_sld hX hS dL_law_1102 ?_
  refine s_kloadK_n (r := (some 70)) hX dL_law_1103 rfl ?_
  refine s_iload hX dL_law_1104 rfl ?_
  refine s_iconst (v := 3) hX dL_law_1106 kc_3 ?_
  refine s_iadd hX dL_law_1107 ?_
  refine s_sld hX hS dL_law_1108 ?_
  refine s_callVi (ck1 := 160 + j * 60) (sk1 := 64282 + j * 3000) (ci := 7) hX dL_law_1109 k_X9_interval q_966 (c_X9_interval n M x (sc (i + 1).toNatClampNeg) (sc (i + 2).toNatClampNeg) (sc (i + 3).toNatClampNeg)) (by decide) rfl rfl rfl ⟨Nat.le_of_ble_eq_true rfl, Nat.le_of_ble_eq_true rfl⟩ ⟨(by first | omega | (simp only [room_1, NC]; omega)), (by first | omega | (simp only [room_1, NC]; omega))⟩ (Nat.le_of_ble_eq_true rfl) rfl rfl (fun r113 M114 => ?_)
  refine s_aload_n hX dL_law_1112 rfl ?_
  refine s_kloadK_n (r := (some 70)) hX dL_law_1113 rfl ?_
  refine s_iload hX dL_law_1114 rfl ?_
  refine s_iconst (v := 1) hX dL_law_1116 kc_1 ?_
  refine s_iadd hX dL_law_1117 ?_
  refine s_sld hX hS dL_law_1118 ?_
  refine s_kloadK_n (r := (some 70)) hX dL_law_1119 rfl ?_
  refine s_iload hX dL_law_1120 rfl ?_
  refine s_iconst (v := 2) hX dL_law_1122 kc_2 ?_
  refine s_iadd hX dL_law_1123 ?_
  refine s_sld hX hS dL_law_1124 ?_
  refine s_kloadK_n (r := (some 70)) hX dL_law_1125 rfl ?_
  refine s_iload hX dL_law_1126 rfl ?_
  refine s_iconst (v := 3) hX dL_law_1128 kc_3 ?_
  refine s_iadd hX dL_law_1129 ?_
  refine s_sld hX hS dL_law_1130 ?_
  refine s_callVi (ck1 := 160 + j * 60) (sk1 := 64282 + j * 3000) (ci := 8) hX dL_law_1131 k_X10_interval q_1719 (c_X10_interval n M114 m (sc (i + 1).toNatClampNeg) (sc (i + 2).toNatClampNeg) (sc (i + 3).toNatClampNeg)) (by decide) rfl rfl rfl ⟨Nat.le_of_ble_eq_true rfl, Nat.le_of_ble_eq_true rfl⟩ ⟨(by first | omega | (simp only [room_1, NC]; omega)), (by first | omega | (simp only [room_1, NC]; omega))⟩ (Nat.le_of_ble_eq_true rfl) rfl rfl (fun r115 M116 => ?_)
  refine s_iceq (tgt := 2091) hX dL_law_1134 rfl ?_ ?_
  · refine s_iinc4 (v := i + 6) hX dL_law_2091 rfl (by first | exact trivial | exact rfl) (Nat.le_of_ble_eq_true rfl) ?_
    refine s_goto (tgt := 23) hX dL_law_2094 rfl ?_
    refine s_widen (ck1 := 160 + (j + 1) * 60) (sk1 := 64282 + (j + 1) * 3000) (by omega) (by omega) ?_
    exact s_back hB
  · refine s_iconst (v := 0) hX dL_law_1137 kc_0 ?_
    exact s_inr hI (s_lawret hX hR dL_law_1138 (by first | omega | (simp only [room_1, NC]; omega)) (by first | omega | (simp only [room_1, NC]; omega)))
def g_law_c20 (n L : Nat) (sc : Nat → Int32) (x m out : Nat) (M : MemT) (i : Int32) : Option ((MemT × Int32) ⊕ (Int32 × MemT)) :=
  (if (i + 1) < 0 ∨ L ≤ (i + 1).toNatClampNeg then none else chk M 7 x (bd (g_X9_taken n M x (sc (i + 1).toNatClampNeg)) (fun r118 M119 => (if (i + 1) < 0 ∨ L ≤ (i + 1).toNatClampNeg then none else chk M119 8 m (bd (g_X10_taken n M119 m (sc (i + 1).toNatClampNeg)) (fun r120 M121 => (if r118 = r120 then some (.inl (M121, i + 6)) else some (.inr ((0, M121))))))))))
set_option maxHeartbeats 4000000 in
set_option maxRecDepth 100000 in
theorem t_law_c20 {X : CxT} {A : Int32 × MemT → Prop} {B : (MemT × Int32) ⊕ (Int32 × MemT) → Prop} {j : Nat} (hj : j < 513) (n L : Nat) (sc : Nat → Int32) (x m out : Nat) (M : MemT) (i : Int32) (hX : CxOk X cL_law 7 RL room_1) (hl : (xl X).stackTraces = false) (hR : RetL X A) (hS : Scr X L sc) (hB : ∀ s1, B (.inl s1) → WW X 7 (160 + (j + 1) * 60) (64282 + (j + 1) * 3000) 23 (lawL x m out s1) [] (lawM s1)) (hI : ∀ u, B (.inr u) → A u) : Sim X 7 B (g_law_c20 n L sc x m out M i) (160 + j * 60) (64282 + j * 3000) 1139 [some (kv ((some 70))), some (.ref x), some (.ref m), some (.ref out), some (.int i), none, none] [] M := by
  unfold g_law_c20
  refine s_aload_n hX dL_law_1139 rfl ?_
  refine s_kloadK_n (r := (some 70)) hX dL_law_1140 rfl ?_
  refine s_iload hX dL_law_1141 rfl ?_
  refine s_iconst (v := 1) hX dL_law_1143 kc_1 ?_
  refine s_iadd hX dL_law_1144 ?_
  refine s_sld hX hS dL_law_1145 ?_
  refine s_callVi (ck1 := 160 + j * 60) (sk1 := 64282 + j * 3000) (ci := 7) hX dL_law_1146 k_X9_taken q_970 (c_X9_taken n M x (sc (i + 1).toNatClampNeg)) (by decide) rfl rfl rfl ⟨Nat.le_of_ble_eq_true rfl, Nat.le_of_ble_eq_true rfl⟩ ⟨(by first | omega | (simp only [room_1, NC]; omega)), (by first | omega | (simp only [room_1, NC]; omega))⟩ (Nat.le_of_ble_eq_true rfl) rfl rfl (fun r118 M119 => ?_)
  refine s_aload_n hX dL_law_1149 rfl ?_
  refine s_kloadK_n (r := (some 70)) hX dL_law_1150 rfl ?_
  refine s_iload hX dL_law_1151 rfl ?_
  refine s_iconst (v := 1) hX dL_law_1153 kc_1 ?_
  refine s_iadd hX dL_law_1154 ?_
  refine s_sld hX hS dL_law_1155 ?_
  refine s_callVi (ck1 := 160 + j * 60) (sk1 := 64282 + j * 3000) (ci := 8) hX dL_law_1156 k_X10_taken q_1723 (c_X10_taken n M119 m (sc (i + 1).toNatClampNeg)) (by decide) rfl rfl rfl ⟨Nat.le_of_ble_eq_true rfl, Nat.le_of_ble_eq_true rfl⟩ ⟨(by first | omega | (simp only [room_1, NC]; omega)), (by first | omega | (simp only [room_1, NC]; omega))⟩ (Nat.le_of_ble_eq_true rfl) rfl rfl (fun r120 M121 => ?_)
  refine s_iceq (tgt := 2091) hX dL_law_1159 rfl ?_ ?_
  · refine s_iinc4 (v := i + 6) hX dL_law_2091 rfl (by first | exact trivial | exact rfl) (Nat.le_of_ble_eq_true rfl) ?_
    refine s_goto (tgt := 23) hX dL_law_2094 rfl ?_
    refine s_widen (ck1 := 160 + (j + 1) * 60) (sk1 := 64282 + (j + 1) * 3000) (by omega) (by omega) ?_
    exact s_back hB
  · refine s_iconst (v := 0) hX dL_law_1162 kc_0 ?_
    exact s_inr hI (s_lawret hX hR dL_law_1163 (by first | omega | (simp only [room_1, NC]; omega)) (by first | omega | (simp only [room_1, NC]; omega)))
def g_law_c21 (n L : Nat) (sc : Nat → Int32) (x m out : Nat) (M : MemT) (i : Int32) : Option ((MemT × Int32) ⊕ (Int32 × MemT)) :=
  (if (i + 1) < 0 ∨ L ≤ (i + 1).toNatClampNeg then none else chk M 7 x (bd (g_X9_last n M x (sc (i + 1).toNatClampNeg)) (fun r123 M124 => (if (i + 1) < 0 ∨ L ≤ (i + 1).toNatClampNeg then none else chk M124 8 m (bd (g_X10_last n M124 m (sc (i + 1).toNatClampNeg)) (fun r125 M126 => (if r123 = r125 then some (.inl (M126, i + 6)) else some (.inr ((0, M126))))))))))
set_option maxHeartbeats 4000000 in
set_option maxRecDepth 100000 in
theorem t_law_c21 {X : CxT} {A : Int32 × MemT → Prop} {B : (MemT × Int32) ⊕ (Int32 × MemT) → Prop} {j : Nat} (hj : j < 513) (n L : Nat) (sc : Nat → Int32) (x m out : Nat) (M : MemT) (i : Int32) (hX : CxOk X cL_law 7 RL room_1) (hl : (xl X).stackTraces = false) (hR : RetL X A) (hS : Scr X L sc) (hB : ∀ s1, B (.inl s1) → WW X 7 (160 + (j + 1) * 60) (64282 + (j + 1) * 3000) 23 (lawL x m out s1) [] (lawM s1)) (hI : ∀ u, B (.inr u) → A u) : Sim X 7 B (g_law_c21 n L sc x m out M i) (160 + j * 60) (64282 + j * 3000) 1164 [some (kv ((some 70))), some (.ref x), some (.ref m), some (.ref out), some (.int i), none, none] [] M := by
  unfold g_law_c21
  refine s_aload_n hX dL_law_1164 rfl ?_
  refine s_kloadK_n (r := (some 70)) hX dL_law_1165 rfl ?_
  refine s_iload hX dL_law_1166 rfl ?_
  refine s_iconst (v := 1) hX dL_law_1168 kc_1 ?_
  refine s_iadd hX dL_law_1169 ?_
  refine s_sld hX hS dL_law_1170 ?_
  refine s_callVi (ck1 := 160 + j * 60) (sk1 := 64282 + j * 3000) (ci := 7) hX dL_law_1171 k_X9_last q_974 (c_X9_last n M x (sc (i + 1).toNatClampNeg)) (by decide) rfl rfl rfl ⟨Nat.le_of_ble_eq_true rfl, Nat.le_of_ble_eq_true rfl⟩ ⟨(by first | omega | (simp only [room_1, NC]; omega)), (by first | omega | (simp only [room_1, NC]; omega))⟩ (Nat.le_of_ble_eq_true rfl) rfl rfl (fun r123 M124 => ?_)
  refine s_aload_n hX dL_law_1174 rfl ?_
  refine s_kloadK_n (r := (some 70)) hX dL_law_1175 rfl ?_
  refine s_iload hX dL_law_1176 rfl ?_
  refine s_iconst (v := 1) hX dL_law_1178 kc_1 ?_
  refine s_iadd hX dL_law_1179 ?_
  refine s_sld hX hS dL_law_1180 ?_
  refine s_callVi (ck1 := 160 + j * 60) (sk1 := 64282 + j * 3000) (ci := 8) hX dL_law_1181 k_X10_last q_1727 (c_X10_last n M124 m (sc (i + 1).toNatClampNeg)) (by decide) rfl rfl rfl ⟨Nat.le_of_ble_eq_true rfl, Nat.le_of_ble_eq_true rfl⟩ ⟨(by first | omega | (simp only [room_1, NC]; omega)), (by first | omega | (simp only [room_1, NC]; omega))⟩ (Nat.le_of_ble_eq_true rfl) rfl rfl (fun r125 M126 => ?_)
  refine s_iceq (tgt := 2091) hX dL_law_1184 rfl ?_ ?_
  · refine s_iinc4 (v := i + 6) hX dL_law_2091 rfl (by first | exact trivial | exact rfl) (Nat.le_of_ble_eq_true rfl) ?_
    refine s_goto (tgt := 23) hX dL_law_2094 rfl ?_
    refine s_widen (ck1 := 160 + (j + 1) * 60) (sk1 := 64282 + (j + 1) * 3000) (by omega) (by omega) ?_
    exact s_back hB
  · refine s_iconst (v := 0) hX dL_law_1187 kc_0 ?_
    exact s_inr hI (s_lawret hX hR dL_law_1188 (by first | omega | (simp only [room_1, NC]; omega)) (by first | omega | (simp only [room_1, NC]; omega)))
def g_law_c22 (n L : Nat) (sc : Nat → Int32) (x m out : Nat) (M : MemT) (i : Int32) : Option ((MemT × Int32) ⊕ (Int32 × MemT)) :=
  (if (i + 1) < 0 ∨ L ≤ (i + 1).toNatClampNeg then none else (if (i + 2) < 0 ∨ L ≤ (i + 2).toNatClampNeg then none else chk M 7 x (bd (g_X9_booked n M x (sc (i + 1).toNatClampNeg) (sc (i + 2).toNatClampNeg)) (fun r128 M129 => (if (i + 1) < 0 ∨ L ≤ (i + 1).toNatClampNeg then none else (if (i + 2) < 0 ∨ L ≤ (i + 2).toNatClampNeg then none else chk M129 8 m (bd (g_X10_booked n M129 m (sc (i + 1).toNatClampNeg) (sc (i + 2).toNatClampNeg)) (fun r130 M131 => (if r128 = r130 then some (.inl (M131, i + 6)) else some (.inr ((0, M131))))))))))))
set_option maxHeartbeats 4000000 in
set_option maxRecDepth 100000 in
theorem t_law_c22 {X : CxT} {A : Int32 × MemT → Prop} {B : (MemT × Int32) ⊕ (Int32 × MemT) → Prop} {j : Nat} (hj : j < 513) (n L : Nat) (sc : Nat → Int32) (x m out : Nat) (M : MemT) (i : Int32) (hX : CxOk X cL_law 7 RL room_1) (hl : (xl X).stackTraces = false) (hR : RetL X A) (hS : Scr X L sc) (hB : ∀ s1, B (.inl s1) → WW X 7 (160 + (j + 1) * 60) (64282 + (j + 1) * 3000) 23 (lawL x m out s1) [] (lawM s1)) (hI : ∀ u, B (.inr u) → A u) : Sim X 7 B (g_law_c22 n L sc x m out M i) (160 + j * 60) (64282 + j * 3000) 1189 [some (kv ((some 70))), some (.ref x), some (.ref m), some (.ref out), some (.int i), none, none] [] M := by
  unfold g_law_c22
  refine s_aload_n hX dL_law_1189 rfl ?_
  refine s_kloadK_n (r := (some 70)) hX dL_law_1190 rfl ?_
  refine s_iload hX dL_law_1191 rfl ?_
  refine s_iconst (v := 1) hX dL_law_1193 kc_1 ?_
  refine s_iadd hX dL_law_1194 ?_
  refine s_sld hX hS dL_law_1195 ?_
  refine s_kloadK_n (r := (some 70)) hX dL_law_1196 rfl ?_
  refine s_iload hX dL_law_1197 rfl ?_
  refine s_iconst (v := 2) hX dL_law_1199 kc_2 ?_
  refine s_iadd hX dL_law_1200 ?_
  refine s_sld hX hS dL_law_1201 ?_
  refine s_callVi (ck1 := 160 + j * 60) (sk1 := 64282 + j * 3000) (ci := 7) hX dL_law_1202 k_X9_booked q_978 (c_X9_booked n M x (sc (i + 1).toNatClampNeg) (sc (i + 2).toNatClampNeg)) (by decide) rfl rfl rfl ⟨Nat.le_of_ble_eq_true rfl, Nat.le_of_ble_eq_true rfl⟩ ⟨(by first | omega | (simp only [room_1, NC]; omega)), (by first | omega | (simp only [room_1, NC]; omega))⟩ (Nat.le_of_ble_eq_true rfl) rfl rfl (fun r128 M129 => ?_)
  refine s_aload_n hX dL_law_1205 rfl ?_
  refine s_kloadK_n (r := (some 70)) hX dL_law_1206 rfl ?_
  refine s_iload hX dL_law_1207 rfl ?_
  refine s_iconst (v := 1) hX dL_law_1209 kc_1 ?_
  refine s_iadd hX dL_law_1210 ?_
  refine s_sld hX hS dL_law_1211 ?_
  refine s_kloadK_n (r := (some 70)) hX dL_law_1212 rfl ?_
  refine s_iload hX dL_law_1213 rfl ?_
  refine s_iconst (v := 2) hX dL_law_1215 kc_2 ?_
  refine s_iadd hX dL_law_1216 ?_
  refine s_sld hX hS dL_law_1217 ?_
  refine s_callVi (ck1 := 160 + j * 60) (sk1 := 64282 + j * 3000) (ci := 8) hX dL_law_1218 k_X10_booked q_1731 (c_X10_booked n M129 m (sc (i + 1).toNatClampNeg) (sc (i + 2).toNatClampNeg)) (by decide) rfl rfl rfl ⟨Nat.le_of_ble_eq_true rfl, Nat.le_of_ble_eq_true rfl⟩ ⟨(by first | omega | (simp only [room_1, NC]; omega)), (by first | omega | (simp only [room_1, NC]; omega))⟩ (Nat.le_of_ble_eq_true rfl) rfl rfl (fun r130 M131 => ?_)
  refine s_iceq (tgt := 2091) hX dL_law_1221 rfl ?_ ?_
  · refine s_iinc4 (v := i + 6) hX dL_law_2091 rfl (by first | exact trivial | exact rfl) (Nat.le_of_ble_eq_true rfl) ?_
    refine s_goto (tgt := 23) hX dL_law_2094 rfl ?_
    refine s_widen (ck1 := 160 + (j + 1) * 60) (sk1 := 64282 + (j + 1) * 3000) (by omega) (by omega) ?_
    exact s_back hB
  · refine s_iconst (v := 0) hX dL_law_1224 kc_0 ?_
    exact s_inr hI (s_lawret hX hR dL_law_1225 (by first | omega | (simp only [room_1, NC]; omega)) (by first | omega | (simp only [room_1, NC]; omega)))
def g_law_c23 (n L : Nat) (sc : Nat → Int32) (x m out : Nat) (M : MemT) (i : Int32) : Option ((MemT × Int32) ⊕ (Int32 × MemT)) :=
  (if (i + 1) < 0 ∨ L ≤ (i + 1).toNatClampNeg then none else (if (i + 2) < 0 ∨ L ≤ (i + 2).toNatClampNeg then none else chk M 7 x (bd (g_X9_total n M x (sc (i + 1).toNatClampNeg) (sc (i + 2).toNatClampNeg)) (fun r133 M134 => (if (i + 1) < 0 ∨ L ≤ (i + 1).toNatClampNeg then none else (if (i + 2) < 0 ∨ L ≤ (i + 2).toNatClampNeg then none else chk M134 8 m (bd (g_X10_total n M134 m (sc (i + 1).toNatClampNeg) (sc (i + 2).toNatClampNeg)) (fun r135 M136 => (if r133 = r135 then some (.inl (M136, i + 6)) else some (.inr ((0, M136))))))))))))
set_option maxHeartbeats 4000000 in
set_option maxRecDepth 100000 in
theorem t_law_c23 {X : CxT} {A : Int32 × MemT → Prop} {B : (MemT × Int32) ⊕ (Int32 × MemT) → Prop} {j : Nat} (hj : j < 513) (n L : Nat) (sc : Nat → Int32) (x m out : Nat) (M : MemT) (i : Int32) (hX : CxOk X cL_law 7 RL room_1) (hl : (xl X).stackTraces = false) (hR : RetL X A) (hS : Scr X L sc) (hB : ∀ s1, B (.inl s1) → WW X 7 (160 + (j + 1) * 60) (64282 + (j + 1) * 3000) 23 (lawL x m out s1) [] (lawM s1)) (hI : ∀ u, B (.inr u) → A u) : Sim X 7 B (g_law_c23 n L sc x m out M i) (160 + j * 60) (64282 + j * 3000) 1226 [some (kv ((some 70))), some (.ref x), some (.ref m), some (.ref out), some (.int i), none, none] [] M := by
  unfold g_law_c23
  refine s_aload_n hX dL_law_1226 rfl ?_
  refine s_kloadK_n (r := (some 70)) hX dL_law_1227 rfl ?_
  refine s_iload hX dL_law_1228 rfl ?_
  refine s_iconst (v := 1) hX dL_law_1230 kc_1 ?_
  refine s_iadd hX dL_law_1231 ?_
  refine s_sld hX hS dL_law_1232 ?_
  refine s_kloadK_n (r := (some 70)) hX dL_law_1233 rfl ?_
  refine s_iload hX dL_law_1234 rfl ?_
  refine s_iconst (v := 2) hX dL_law_1236 kc_2 ?_
  refine s_iadd hX dL_law_1237 ?_
  refine s_sld hX hS dL_law_1238 ?_
  refine s_callVi (ck1 := 160 + j * 60) (sk1 := 64282 + j * 3000) (ci := 7) hX dL_law_1239 k_X9_total q_986 (c_X9_total n M x (sc (i + 1).toNatClampNeg) (sc (i + 2).toNatClampNeg)) (by decide) rfl rfl rfl ⟨Nat.le_of_ble_eq_true rfl, Nat.le_of_ble_eq_true rfl⟩ ⟨(by first | omega | (simp only [room_1, NC]; omega)), (by first | omega | (simp only [room_1, NC]; omega))⟩ (Nat.le_of_ble_eq_true rfl) rfl rfl (fun r133 M134 => ?_)
  refine s_aload_n hX dL_law_1242 rfl ?_
  refine s_kloadK_n (r := (some 70)) hX dL_law_1243 rfl ?_
  refine s_iload hX dL_law_1244 rfl ?_
  refine s_iconst (v := 1) hX dL_law_1246 kc_1 ?_
  refine s_iadd hX dL_law_1247 ?_
  refine s_sld hX hS dL_law_1248 ?_
  refine s_kloadK_n (r := (some 70)) hX dL_law_1249 rfl ?_
  refine s_iload hX dL_law_1250 rfl ?_
  refine s_iconst (v := 2) hX dL_law_1252 kc_2 ?_
  refine s_iadd hX dL_law_1253 ?_
  refine s_sld hX hS dL_law_1254 ?_
  refine s_callVi (ck1 := 160 + j * 60) (sk1 := 64282 + j * 3000) (ci := 8) hX dL_law_1255 k_X10_total q_1735 (c_X10_total n M134 m (sc (i + 1).toNatClampNeg) (sc (i + 2).toNatClampNeg)) (by decide) rfl rfl rfl ⟨Nat.le_of_ble_eq_true rfl, Nat.le_of_ble_eq_true rfl⟩ ⟨(by first | omega | (simp only [room_1, NC]; omega)), (by first | omega | (simp only [room_1, NC]; omega))⟩ (Nat.le_of_ble_eq_true rfl) rfl rfl (fun r135 M136 => ?_)
  refine s_iceq (tgt := 2091) hX dL_law_1258 rfl ?_ ?_
  · refine s_iinc4 (v := i + 6) hX dL_law_2091 rfl (by first | exact trivial | exact rfl) (Nat.le_of_ble_eq_true rfl) ?_
    refine s_goto (tgt := 23) hX dL_law_2094 rfl ?_
    refine s_widen (ck1 := 160 + (j + 1) * 60) (sk1 := 64282 + (j + 1) * 3000) (by omega) (by omega) ?_
    exact s_back hB
  · refine s_iconst (v := 0) hX dL_law_1261 kc_0 ?_
    exact s_inr hI (s_lawret hX hR dL_law_1262 (by first | omega | (simp only [room_1, NC]; omega)) (by first | omega | (simp only [room_1, NC]; omega)))
def g_law_c24 (n L : Nat) (sc : Nat → Int32) (x m out : Nat) (M : MemT) (i : Int32) : Option ((MemT × Int32) ⊕ (Int32 × MemT)) :=
  (if (i + 1) < 0 ∨ L ≤ (i + 1).toNatClampNeg then none else (if (i + 2) < 0 ∨ L ≤ (i + 2).toNatClampNeg then none else (if (i + 3) < 0 ∨ L ≤ (i + 3).toNatClampNeg then none else (if (i + 4) < 0 ∨ L ≤ (i + 4).toNatClampNeg then none else (if (i + 5) < 0 ∨ L ≤ (i + 5).toNatClampNeg then none else chk M 7 x (bd (g_X9_by n M x (sc (i + 1).toNatClampNeg) (sc (i + 2).toNatClampNeg) (sc (i + 3).toNatClampNeg) (sc (i + 4).toNatClampNeg) (sc (i + 5).toNatClampNeg)) (fun r138 M139 => (if (i + 1) < 0 ∨ L ≤ (i + 1).toNatClampNeg then none else (if (i + 2) < 0 ∨ L ≤ (i + 2).toNatClampNeg then none else (if (i + 3) < 0 ∨ L ≤ (i + 3).toNatClampNeg then none else (if (i + 4) < 0 ∨ L ≤ (i + 4).toNatClampNeg then none else (if (i + 5) < 0 ∨ L ≤ (i + 5).toNatClampNeg then none else chk M139 8 m (bd (g_X10_by n M139 m (sc (i + 1).toNatClampNeg) (sc (i + 2).toNatClampNeg) (sc (i + 3).toNatClampNeg) (sc (i + 4).toNatClampNeg) (sc (i + 5).toNatClampNeg)) (fun r140 M141 => (if r138 = r140 then some (.inl (M141, i + 6)) else some (.inr ((0, M141))))))))))))))))))
set_option maxHeartbeats 4000000 in
set_option maxRecDepth 100000 in
theorem t_law_c24 {X : CxT} {A : Int32 × MemT → Prop} {B : (MemT × Int32) ⊕ (Int32 × MemT) → Prop} {j : Nat} (hj : j < 513) (n L : Nat) (sc : Nat → Int32) (x m out : Nat) (M : MemT) (i : Int32) (hX : CxOk X cL_law 7 RL room_1) (hl : (xl X).stackTraces = false) (hR : RetL X A) (hS : Scr X L sc) (hB : ∀ s1, B (.inl s1) → WW X 7 (160 + (j + 1) * 60) (64282 + (j + 1) * 3000) 23 (lawL x m out s1) [] (lawM s1)) (hI : ∀ u, B (.inr u) → A u) : Sim X 7 B (g_law_c24 n L sc x m out M i) (160 + j * 60) (64282 + j * 3000) 1263 [some (kv ((some 70))), some (.ref x), some (.ref m), some (.ref out), some (.int i), none, none] [] M := by
  unfold g_law_c24
  refine s_aload_n hX dL_law_1263 rfl ?_
  refine s_kloadK_n (r := (some 70)) hX dL_law_1264 rfl ?_
  refine s_iload hX dL_law_1265 rfl ?_
  refine s_iconst (v := 1) hX dL_law_1267 kc_1 ?_
  refine s_iadd hX dL_law_1268 ?_
  refine s_sld hX hS dL_law_1269 ?_
  refine s_kloadK_n (r := (some 70)) hX dL_law_1270 rfl ?_
  refine s_iload hX dL_law_1271 rfl ?_
  refine s_iconst (v := 2) hX dL_law_1273 kc_2 ?_
  refine s_iadd hX dL_law_1274 ?_
  refine s_sld hX hS dL_law_1275 ?_
  refine s_kloadK_n (r := (some 70)) hX dL_law_1276 rfl ?_
  refine s_iload hX dL_law_1277 rfl ?_
  refine s_iconst (v := 3) hX dL_law_1279 kc_3 ?_
  refine s_iadd hX dL_law_1280 ?_
  refine s_sld hX hS dL_law_1281 ?_
  refine s_kloadK_n (r := (some 70)) hX dL_law_1282 rfl ?_
  refine s_iload hX dL_law_1283 rfl ?_
  refine s_iconst (v := 4) hX dL_law_1285 kc_4 ?_
  refine s_iadd hX dL_law_1286 ?_
  refine s_sld hX hS dL_law_1287 ?_
  refine s_kloadK_n (r := (some 70)) hX dL_law_1288 rfl ?_
  refine s_iload hX dL_law_1289 rfl ?_
  refine s_iconst (v := 5) hX dL_law_1291 kc_5 ?_
  refine s_iadd hX dL_law_1292 ?_
  refine s_sld hX hS dL_law_1293 ?_
  refine s_callVi (ck1 := 160 + j * 60) (sk1 := 64282 + j * 3000) (ci := 7) hX dL_law_1294 k_X9_by q_994 (c_X9_by n M x (sc (i + 1).toNatClampNeg) (sc (i + 2).toNatClampNeg) (sc (i + 3).toNatClampNeg) (sc (i + 4).toNatClampNeg) (sc (i + 5).toNatClampNeg)) (by decide) rfl rfl rfl ⟨Nat.le_of_ble_eq_true rfl, Nat.le_of_ble_eq_true rfl⟩ ⟨(by first | omega | (simp only [room_1, NC]; omega)), (by first | omega | (simp only [room_1, NC]; omega))⟩ (Nat.le_of_ble_eq_true rfl) rfl rfl (fun r138 M139 => ?_)
  refine s_aload_n hX dL_law_1297 rfl ?_
  refine s_kloadK_n (r := (some 70)) hX dL_law_1298 rfl ?_
  refine s_iload hX dL_law_1299 rfl ?_
  refine s_iconst (v := 1) hX dL_law_1301 kc_1 ?_
  refine s_iadd hX dL_law_1302 ?_
  refine s_sld hX hS dL_law_1303 ?_
  refine s_kloadK_n (r := (some 70)) hX dL_law_1304 rfl ?_
  refine s_iload hX dL_law_1305 rfl ?_
  refine s_iconst (v := 2) hX dL_law_1307 kc_2 ?_
  refine s_iadd hX dL_law_1308 ?_
  refine s_sld hX hS dL_law_1309 ?_
  refine s_kloadK_n (r := (some 70)) hX dL_law_1310 rfl ?_
  refine s_iload hX dL_law_1311 rfl ?_
  refine s_iconst (v := 3) hX dL_law_1313 kc_3 ?_
  refine s_iadd hX dL_law_1314 ?_
  refine s_sld hX hS dL_law_1315 ?_
  refine s_kloadK_n (r := (some 70)) hX dL_law_1316 rfl ?_
  refine s_iload hX dL_law_1317 rfl ?_
  refine s_iconst (v := 4) hX dL_law_1319 kc_4 ?_
  refine s_iadd hX dL_law_1320 ?_
  refine s_sld hX hS dL_law_1321 ?_
  refine s_kloadK_n (r := (some 70)) hX dL_law_1322 rfl ?_
  refine s_iload hX dL_law_1323 rfl ?_
  refine s_iconst (v := 5) hX dL_law_1325 kc_5 ?_
  refine s_iadd hX dL_law_1326 ?_
  refine s_sld hX hS dL_law_1327 ?_
  refine s_callVi (ck1 := 160 + j * 60) (sk1 := 64282 + j * 3000) (ci := 8) hX dL_law_1328 k_X10_by q_1739 (c_X10_by n M139 m (sc (i + 1).toNatClampNeg) (sc (i + 2).toNatClampNeg) (sc (i + 3).toNatClampNeg) (sc (i + 4).toNatClampNeg) (sc (i + 5).toNatClampNeg)) (by decide) rfl rfl rfl ⟨Nat.le_of_ble_eq_true rfl, Nat.le_of_ble_eq_true rfl⟩ ⟨(by first | omega | (simp only [room_1, NC]; omega)), (by first | omega | (simp only [room_1, NC]; omega))⟩ (Nat.le_of_ble_eq_true rfl) rfl rfl (fun r140 M141 => ?_)
  refine s_iceq (tgt := 2091) hX dL_law_1331 rfl ?_ ?_
  · refine s_iinc4 (v := i + 6) hX dL_law_2091 rfl (by first | exact trivial | exact rfl) (Nat.le_of_ble_eq_true rfl) ?_
    refine s_goto (tgt := 23) hX dL_law_2094 rfl ?_
    refine s_widen (ck1 := 160 + (j + 1) * 60) (sk1 := 64282 + (j + 1) * 3000) (by omega) (by omega) ?_
    exact s_back hB
  · refine s_iconst (v := 0) hX dL_law_1334 kc_0 ?_
    exact s_inr hI (s_lawret hX hR dL_law_1335 (by first | omega | (simp only [room_1, NC]; omega)) (by first | omega | (simp only [room_1, NC]; omega)))
def g_law_c25 (n L : Nat) (sc : Nat → Int32) (x m out : Nat) (M : MemT) (i : Int32) : Option ((MemT × Int32) ⊕ (Int32 × MemT)) :=
  (if (i + 1) < 0 ∨ L ≤ (i + 1).toNatClampNeg then none else (if (i + 2) < 0 ∨ L ≤ (i + 2).toNatClampNeg then none else chk M 7 x (bd (g_X9_bestMethod n M x (sc (i + 1).toNatClampNeg) (sc (i + 2).toNatClampNeg)) (fun r143 M144 => (if (i + 1) < 0 ∨ L ≤ (i + 1).toNatClampNeg then none else (if (i + 2) < 0 ∨ L ≤ (i + 2).toNatClampNeg then none else chk M144 8 m (bd (g_X10_bestMethod n M144 m (sc (i + 1).toNatClampNeg) (sc (i + 2).toNatClampNeg)) (fun r145 M146 => (if r143 = r145 then some (.inl (M146, i + 6)) else some (.inr ((0, M146))))))))))))
set_option maxHeartbeats 4000000 in
set_option maxRecDepth 100000 in
theorem t_law_c25 {X : CxT} {A : Int32 × MemT → Prop} {B : (MemT × Int32) ⊕ (Int32 × MemT) → Prop} {j : Nat} (hj : j < 513) (n L : Nat) (sc : Nat → Int32) (x m out : Nat) (M : MemT) (i : Int32) (hX : CxOk X cL_law 7 RL room_1) (hl : (xl X).stackTraces = false) (hR : RetL X A) (hS : Scr X L sc) (hB : ∀ s1, B (.inl s1) → WW X 7 (160 + (j + 1) * 60) (64282 + (j + 1) * 3000) 23 (lawL x m out s1) [] (lawM s1)) (hI : ∀ u, B (.inr u) → A u) : Sim X 7 B (g_law_c25 n L sc x m out M i) (160 + j * 60) (64282 + j * 3000) 1336 [some (kv ((some 70))), some (.ref x), some (.ref m), some (.ref out), some (.int i), none, none] [] M := by
  unfold g_law_c25
  refine s_aload_n hX dL_law_1336 rfl ?_
  refine s_kloadK_n (r := (some 70)) hX dL_law_1337 rfl ?_
  refine s_iload hX dL_law_1338 rfl ?_
  refine s_iconst (v := 1) hX dL_law_1340 kc_1 ?_
  refine s_iadd hX dL_law_1341 ?_
  refine s_sld hX hS dL_law_1342 ?_
  refine s_kloadK_n (r := (some 70)) hX dL_law_1343 rfl ?_
  refine s_iload hX dL_law_1344 rfl ?_
  refine s_iconst (v := 2) hX dL_law_1346 kc_2 ?_
  refine s_iadd hX dL_law_1347 ?_
  refine s_sld hX hS dL_law_1348 ?_
  refine s_callVi (ck1 := 160 + j * 60) (sk1 := 64282 + j * 3000) (ci := 7) hX dL_law_1349 k_X9_bestMethod q_999 (c_X9_bestMethod n M x (sc (i + 1).toNatClampNeg) (sc (i + 2).toNatClampNeg)) (by decide) rfl rfl rfl ⟨Nat.le_of_ble_eq_true rfl, Nat.le_of_ble_eq_true rfl⟩ ⟨(by first | omega | (simp only [room_1, NC]; omega)), (by first | omega | (simp only [room_1, NC]; omega))⟩ (Nat.le_of_ble_eq_true rfl) rfl rfl (fun r143 M144 => ?_)
  refine s_aload_n hX dL_law_1352 rfl ?_
  refine s_kloadK_n (r := (some 70)) hX dL_law_1353 rfl ?_
  refine s_iload hX dL_law_1354 rfl ?_
  refine s_iconst (v := 1) hX dL_law_1356 kc_1 ?_
  refine s_iadd hX dL_law_1357 ?_
  refine s_sld hX hS dL_law_1358 ?_
  refine s_kloadK_n (r := (some 70)) hX dL_law_1359 rfl ?_
  refine s_iload hX dL_law_1360 rfl ?_
  refine s_iconst (v := 2) hX dL_law_1362 kc_2 ?_
  refine s_iadd hX dL_law_1363 ?_
  refine s_sld hX hS dL_law_1364 ?_
  refine s_callVi (ck1 := 160 + j * 60) (sk1 := 64282 + j * 3000) (ci := 8) hX dL_law_1365 k_X10_bestMethod q_1743 (c_X10_bestMethod n M144 m (sc (i + 1).toNatClampNeg) (sc (i + 2).toNatClampNeg)) (by decide) rfl rfl rfl ⟨Nat.le_of_ble_eq_true rfl, Nat.le_of_ble_eq_true rfl⟩ ⟨(by first | omega | (simp only [room_1, NC]; omega)), (by first | omega | (simp only [room_1, NC]; omega))⟩ (Nat.le_of_ble_eq_true rfl) rfl rfl (fun r145 M146 => ?_)
  refine s_iceq (tgt := 2091) hX dL_law_1368 rfl ?_ ?_
  · refine s_iinc4 (v := i + 6) hX dL_law_2091 rfl (by first | exact trivial | exact rfl) (Nat.le_of_ble_eq_true rfl) ?_
    refine s_goto (tgt := 23) hX dL_law_2094 rfl ?_
    refine s_widen (ck1 := 160 + (j + 1) * 60) (sk1 := 64282 + (j + 1) * 3000) (by omega) (by omega) ?_
    exact s_back hB
  · refine s_iconst (v := 0) hX dL_law_1371 kc_0 ?_
    exact s_inr hI (s_lawret hX hR dL_law_1372 (by first | omega | (simp only [room_1, NC]; omega)) (by first | omega | (simp only [room_1, NC]; omega)))
def g_law_c26 (n L : Nat) (sc : Nat → Int32) (x m out : Nat) (M : MemT) (i : Int32) : Option ((MemT × Int32) ⊕ (Int32 × MemT)) :=
  (if (i + 1) < 0 ∨ L ≤ (i + 1).toNatClampNeg then none else (if (i + 2) < 0 ∨ L ≤ (i + 2).toNatClampNeg then none else chk M 7 x (bd (g_X9_bestStep n M x (sc (i + 1).toNatClampNeg) (sc (i + 2).toNatClampNeg)) (fun r148 M149 => (if (i + 1) < 0 ∨ L ≤ (i + 1).toNatClampNeg then none else (if (i + 2) < 0 ∨ L ≤ (i + 2).toNatClampNeg then none else chk M149 8 m (bd (g_X10_bestStep n M149 m (sc (i + 1).toNatClampNeg) (sc (i + 2).toNatClampNeg)) (fun r150 M151 => (if r148 = r150 then some (.inl (M151, i + 6)) else some (.inr ((0, M151))))))))))))
set_option maxHeartbeats 4000000 in
set_option maxRecDepth 100000 in
theorem t_law_c26 {X : CxT} {A : Int32 × MemT → Prop} {B : (MemT × Int32) ⊕ (Int32 × MemT) → Prop} {j : Nat} (hj : j < 513) (n L : Nat) (sc : Nat → Int32) (x m out : Nat) (M : MemT) (i : Int32) (hX : CxOk X cL_law 7 RL room_1) (hl : (xl X).stackTraces = false) (hR : RetL X A) (hS : Scr X L sc) (hB : ∀ s1, B (.inl s1) → WW X 7 (160 + (j + 1) * 60) (64282 + (j + 1) * 3000) 23 (lawL x m out s1) [] (lawM s1)) (hI : ∀ u, B (.inr u) → A u) : Sim X 7 B (g_law_c26 n L sc x m out M i) (160 + j * 60) (64282 + j * 3000) 1373 [some (kv ((some 70))), some (.ref x), some (.ref m), some (.ref out), some (.int i), none, none] [] M := by
  unfold g_law_c26
  refine s_aload_n hX dL_law_1373 rfl ?_
  refine s_kloadK_n (r := (some 70)) hX dL_law_1374 rfl ?_
  refine s_iload hX dL_law_1375 rfl ?_
  refine s_iconst (v := 1) hX dL_law_1377 kc_1 ?_
  refine s_iadd hX dL_law_1378 ?_
  refine s_sld hX hS dL_law_1379 ?_
  refine s_kloadK_n (r := (some 70)) hX dL_law_1380 rfl ?_
  refine s_iload hX dL_law_1381 rfl ?_
  refine s_iconst (v := 2) hX dL_law_1383 kc_2 ?_
  refine s_iadd hX dL_law_1384 ?_
  refine s_sld hX hS dL_law_1385 ?_
  refine s_callVi (ck1 := 160 + j * 60) (sk1 := 64282 + j * 3000) (ci := 7) hX dL_law_1386 k_X9_bestStep q_1006 (c_X9_bestStep n M x (sc (i + 1).toNatClampNeg) (sc (i + 2).toNatClampNeg)) (by decide) rfl rfl rfl ⟨Nat.le_of_ble_eq_true rfl, Nat.le_of_ble_eq_true rfl⟩ ⟨(by first | omega | (simp only [room_1, NC]; omega)), (by first | omega | (simp only [room_1, NC]; omega))⟩ (Nat.le_of_ble_eq_true rfl) rfl rfl (fun r148 M149 => ?_)
  refine s_aload_n hX dL_law_1389 rfl ?_
  refine s_kloadK_n (r := (some 70)) hX dL_law_1390 rfl ?_
  refine s_iload hX dL_law_1391 rfl ?_
  refine s_iconst (v := 1) hX dL_law_1393 kc_1 ?_
  refine s_iadd hX dL_law_1394 ?_
  refine s_sld hX hS dL_law_1395 ?_
  refine s_kloadK_n (r := (some 70)) hX dL_law_1396 rfl ?_
  refine s_iload hX dL_law_1397 rfl ?_
  refine s_iconst (v := 2) hX dL_law_1399 kc_2 ?_
  refine s_iadd hX dL_law_1400 ?_
  refine s_sld hX hS dL_law_1401 ?_
  refine s_callVi (ck1 := 160 + j * 60) (sk1 := 64282 + j * 3000) (ci := 8) hX dL_law_1402 k_X10_bestStep q_1747 (c_X10_bestStep n M149 m (sc (i + 1).toNatClampNeg) (sc (i + 2).toNatClampNeg)) (by decide) rfl rfl rfl ⟨Nat.le_of_ble_eq_true rfl, Nat.le_of_ble_eq_true rfl⟩ ⟨(by first | omega | (simp only [room_1, NC]; omega)), (by first | omega | (simp only [room_1, NC]; omega))⟩ (Nat.le_of_ble_eq_true rfl) rfl rfl (fun r150 M151 => ?_)
  refine s_iceq (tgt := 2091) hX dL_law_1405 rfl ?_ ?_
  · refine s_iinc4 (v := i + 6) hX dL_law_2091 rfl (by first | exact trivial | exact rfl) (Nat.le_of_ble_eq_true rfl) ?_
    refine s_goto (tgt := 23) hX dL_law_2094 rfl ?_
    refine s_widen (ck1 := 160 + (j + 1) * 60) (sk1 := 64282 + (j + 1) * 3000) (by omega) (by omega) ?_
    exact s_back hB
  · refine s_iconst (v := 0) hX dL_law_1408 kc_0 ?_
    exact s_inr hI (s_lawret hX hR dL_law_1409 (by first | omega | (simp only [room_1, NC]; omega)) (by first | omega | (simp only [room_1, NC]; omega)))
def g_law_c27 (n L : Nat) (sc : Nat → Int32) (x m out : Nat) (M : MemT) (i : Int32) : Option ((MemT × Int32) ⊕ (Int32 × MemT)) :=
  (if (i + 1) < 0 ∨ L ≤ (i + 1).toNatClampNeg then none else (if (i + 2) < 0 ∨ L ≤ (i + 2).toNatClampNeg then none else (if (i + 3) < 0 ∨ L ≤ (i + 3).toNatClampNeg then none else chk M 7 x (bd (g_X9_joint n M x (sc (i + 1).toNatClampNeg) (sc (i + 2).toNatClampNeg) (sc (i + 3).toNatClampNeg)) (fun r153 M154 => (if (i + 1) < 0 ∨ L ≤ (i + 1).toNatClampNeg then none else (if (i + 2) < 0 ∨ L ≤ (i + 2).toNatClampNeg then none else (if (i + 3) < 0 ∨ L ≤ (i + 3).toNatClampNeg then none else chk M154 8 m (bd (g_X10_joint n M154 m (sc (i + 1).toNatClampNeg) (sc (i + 2).toNatClampNeg) (sc (i + 3).toNatClampNeg)) (fun r155 M156 => (if r153 = r155 then some (.inl (M156, i + 6)) else some (.inr ((0, M156))))))))))))))
set_option maxHeartbeats 4000000 in
set_option maxRecDepth 100000 in
theorem t_law_c27 {X : CxT} {A : Int32 × MemT → Prop} {B : (MemT × Int32) ⊕ (Int32 × MemT) → Prop} {j : Nat} (hj : j < 513) (n L : Nat) (sc : Nat → Int32) (x m out : Nat) (M : MemT) (i : Int32) (hX : CxOk X cL_law 7 RL room_1) (hl : (xl X).stackTraces = false) (hR : RetL X A) (hS : Scr X L sc) (hB : ∀ s1, B (.inl s1) → WW X 7 (160 + (j + 1) * 60) (64282 + (j + 1) * 3000) 23 (lawL x m out s1) [] (lawM s1)) (hI : ∀ u, B (.inr u) → A u) : Sim X 7 B (g_law_c27 n L sc x m out M i) (160 + j * 60) (64282 + j * 3000) 1410 [some (kv ((some 70))), some (.ref x), some (.ref m), some (.ref out), some (.int i), none, none] [] M := by
  unfold g_law_c27
  refine s_aload_n hX dL_law_1410 rfl ?_
  refine s_kloadK_n (r := (some 70)) hX dL_law_1411 rfl ?_
  refine s_iload hX dL_law_1412 rfl ?_
  refine s_iconst (v := 1) hX dL_law_1414 kc_1 ?_
  refine s_iadd hX dL_law_1415 ?_
  refine s_sld hX hS dL_law_1416 ?_
  refine s_kloadK_n (r := (some 70)) hX dL_law_1417 rfl ?_
  refine s_iload hX dL_law_1418 rfl ?_
  refine s_iconst (v := 2) hX dL_law_1420 kc_2 ?_
  refine s_iadd hX dL_law_1421 ?_
  refine s_sld hX hS dL_law_1422 ?_
  refine s_kloadK_n (r := (some 70)) hX dL_law_1423 rfl ?_
  refine s_iload hX dL_law_1424 rfl ?_
  refine s_iconst (v := 3) hX dL_law_1426 kc_3 ?_
  refine s_iadd hX dL_law_1427 ?_
  refine s_sld hX hS dL_law_1428 ?_
  refine s_callVi (ck1 := 160 + j * 60) (sk1 := 64282 + j * 3000) (ci := 7) hX dL_law_1429 k_X9_joint q_1010 (c_X9_joint n M x (sc (i + 1).toNatClampNeg) (sc (i + 2).toNatClampNeg) (sc (i + 3).toNatClampNeg)) (by decide) rfl rfl rfl ⟨Nat.le_of_ble_eq_true rfl, Nat.le_of_ble_eq_true rfl⟩ ⟨(by first | omega | (simp only [room_1, NC]; omega)), (by first | omega | (simp only [room_1, NC]; omega))⟩ (Nat.le_of_ble_eq_true rfl) rfl rfl (fun r153 M154 => ?_)
  refine s_aload_n hX dL_law_1432 rfl ?_
  refine s_kloadK_n (r := (some 70)) hX dL_law_1433 rfl ?_
  refine s_iload hX dL_law_1434 rfl ?_
  refine s_iconst (v := 1) hX dL_law_1436 kc_1 ?_
  refine s_iadd hX dL_law_1437 ?_
  refine s_sld hX hS dL_law_1438 ?_
  refine s_kloadK_n (r := (some 70)) hX dL_law_1439 rfl ?_
  refine s_iload hX dL_law_1440 rfl ?_
  refine s_iconst (v := 2) hX dL_law_1442 kc_2 ?_
  refine s_iadd hX dL_law_1443 ?_
  refine s_sld hX hS dL_law_1444 ?_
  refine s_kloadK_n (r := (some 70)) hX dL_law_1445 rfl ?_
  refine s_iload hX dL_law_1446 rfl ?_
  refine s_iconst (v := 3) hX dL_law_1448 kc_3 ?_
  refine s_iadd hX dL_law_1449 ?_
  refine s_sld hX hS dL_law_1450 ?_
  refine s_callVi (ck1 := 160 + j * 60) (sk1 := 64282 + j * 3000) (ci := 8) hX dL_law_1451 k_X10_joint q_1751 (c_X10_joint n M154 m (sc (i + 1).toNatClampNeg) (sc (i + 2).toNatClampNeg) (sc (i + 3).toNatClampNeg)) (by decide) rfl rfl rfl ⟨Nat.le_of_ble_eq_true rfl, Nat.le_of_ble_eq_true rfl⟩ ⟨(by first | omega | (simp only [room_1, NC]; omega)), (by first | omega | (simp only [room_1, NC]; omega))⟩ (Nat.le_of_ble_eq_true rfl) rfl rfl (fun r155 M156 => ?_)
  refine s_iceq (tgt := 2091) hX dL_law_1454 rfl ?_ ?_
  · refine s_iinc4 (v := i + 6) hX dL_law_2091 rfl (by first | exact trivial | exact rfl) (Nat.le_of_ble_eq_true rfl) ?_
    refine s_goto (tgt := 23) hX dL_law_2094 rfl ?_
    refine s_widen (ck1 := 160 + (j + 1) * 60) (sk1 := 64282 + (j + 1) * 3000) (by omega) (by omega) ?_
    exact s_back hB
  · refine s_iconst (v := 0) hX dL_law_1457 kc_0 ?_
    exact s_inr hI (s_lawret hX hR dL_law_1458 (by first | omega | (simp only [room_1, NC]; omega)) (by first | omega | (simp only [room_1, NC]; omega)))
def g_law_c28 (n L : Nat) (sc : Nat → Int32) (x m out : Nat) (M : MemT) (i : Int32) : Option ((MemT × Int32) ⊕ (Int32 × MemT)) :=
  (if (i + 1) < 0 ∨ L ≤ (i + 1).toNatClampNeg then none else (if (i + 2) < 0 ∨ L ≤ (i + 2).toNatClampNeg then none else chk M 7 x (bd (g_X9_limitFor n M x (sc (i + 1).toNatClampNeg) (sc (i + 2).toNatClampNeg)) (fun r158 M159 => (if (i + 1) < 0 ∨ L ≤ (i + 1).toNatClampNeg then none else (if (i + 2) < 0 ∨ L ≤ (i + 2).toNatClampNeg then none else chk M159 8 m (bd (g_X10_limitFor n M159 m (sc (i + 1).toNatClampNeg) (sc (i + 2).toNatClampNeg)) (fun r160 M161 => (if r158 = r160 then some (.inl (M161, i + 6)) else some (.inr ((0, M161))))))))))))
set_option maxHeartbeats 4000000 in
set_option maxRecDepth 100000 in
theorem t_law_c28 {X : CxT} {A : Int32 × MemT → Prop} {B : (MemT × Int32) ⊕ (Int32 × MemT) → Prop} {j : Nat} (hj : j < 513) (n L : Nat) (sc : Nat → Int32) (x m out : Nat) (M : MemT) (i : Int32) (hX : CxOk X cL_law 7 RL room_1) (hl : (xl X).stackTraces = false) (hR : RetL X A) (hS : Scr X L sc) (hB : ∀ s1, B (.inl s1) → WW X 7 (160 + (j + 1) * 60) (64282 + (j + 1) * 3000) 23 (lawL x m out s1) [] (lawM s1)) (hI : ∀ u, B (.inr u) → A u) : Sim X 7 B (g_law_c28 n L sc x m out M i) (160 + j * 60) (64282 + j * 3000) 1459 [some (kv ((some 70))), some (.ref x), some (.ref m), some (.ref out), some (.int i), none, none] [] M := by
  unfold g_law_c28
  refine s_aload_n hX dL_law_1459 rfl ?_
  refine s_kloadK_n (r := (some 70)) hX dL_law_1460 rfl ?_
  refine s_iload hX dL_law_1461 rfl ?_
  refine s_iconst (v := 1) hX dL_law_1463 kc_1 ?_
  refine s_iadd hX dL_law_1464 ?_
  refine s_sld hX hS dL_law_1465 ?_
  refine s_kloadK_n (r := (some 70)) hX dL_law_1466 rfl ?_
  refine s_iload hX dL_law_1467 rfl ?_
  refine s_iconst (v := 2) hX dL_law_1469 kc_2 ?_
  refine s_iadd hX dL_law_1470 ?_
  refine s_sld hX hS dL_law_1471 ?_
  refine s_callVi (ck1 := 160 + j * 60) (sk1 := 64282 + j * 3000) (ci := 7) hX dL_law_1472 k_X9_limitFor q_1018 (c_X9_limitFor n M x (sc (i + 1).toNatClampNeg) (sc (i + 2).toNatClampNeg)) (by decide) rfl rfl rfl ⟨Nat.le_of_ble_eq_true rfl, Nat.le_of_ble_eq_true rfl⟩ ⟨(by first | omega | (simp only [room_1, NC]; omega)), (by first | omega | (simp only [room_1, NC]; omega))⟩ (Nat.le_of_ble_eq_true rfl) rfl rfl (fun r158 M159 => ?_)
  refine s_aload_n hX dL_law_1475 rfl ?_
  refine s_kloadK_n (r := (some 70)) hX dL_law_1476 rfl ?_
  refine s_iload hX dL_law_1477 rfl ?_
  refine s_iconst (v := 1) hX dL_law_1479 kc_1 ?_
  refine s_iadd hX dL_law_1480 ?_
  refine s_sld hX hS dL_law_1481 ?_
  refine s_kloadK_n (r := (some 70)) hX dL_law_1482 rfl ?_
  refine s_iload hX dL_law_1483 rfl ?_
  refine s_iconst (v := 2) hX dL_law_1485 kc_2 ?_
  refine s_iadd hX dL_law_1486 ?_
  refine s_sld hX hS dL_law_1487 ?_
  refine s_callVi (ck1 := 160 + j * 60) (sk1 := 64282 + j * 3000) (ci := 8) hX dL_law_1488 k_X10_limitFor q_1755 (c_X10_limitFor n M159 m (sc (i + 1).toNatClampNeg) (sc (i + 2).toNatClampNeg)) (by decide) rfl rfl rfl ⟨Nat.le_of_ble_eq_true rfl, Nat.le_of_ble_eq_true rfl⟩ ⟨(by first | omega | (simp only [room_1, NC]; omega)), (by first | omega | (simp only [room_1, NC]; omega))⟩ (Nat.le_of_ble_eq_true rfl) rfl rfl (fun r160 M161 => ?_)
  refine s_iceq (tgt := 2091) hX dL_law_1491 rfl ?_ ?_
  · refine s_iinc4 (v := i + 6) hX dL_law_2091 rfl (by first | exact trivial | exact rfl) (Nat.le_of_ble_eq_true rfl) ?_
    refine s_goto (tgt := 23) hX dL_law_2094 rfl ?_
    refine s_widen (ck1 := 160 + (j + 1) * 60) (sk1 := 64282 + (j + 1) * 3000) (by omega) (by omega) ?_
    exact s_back hB
  · refine s_iconst (v := 0) hX dL_law_1494 kc_0 ?_
    exact s_inr hI (s_lawret hX hR dL_law_1495 (by first | omega | (simp only [room_1, NC]; omega)) (by first | omega | (simp only [room_1, NC]; omega)))
def g_law_c29 (n L : Nat) (sc : Nat → Int32) (x m out : Nat) (M : MemT) (i : Int32) : Option ((MemT × Int32) ⊕ (Int32 × MemT)) :=
  (if (i + 1) < 0 ∨ L ≤ (i + 1).toNatClampNeg then none else (if (i + 2) < 0 ∨ L ≤ (i + 2).toNatClampNeg then none else (if (i + 3) < 0 ∨ L ≤ (i + 3).toNatClampNeg then none else chk M 7 x (bd (g_X9_byBasis n M x (sc (i + 1).toNatClampNeg) (sc (i + 2).toNatClampNeg) (sc (i + 3).toNatClampNeg)) (fun r163 M164 => (if (i + 1) < 0 ∨ L ≤ (i + 1).toNatClampNeg then none else (if (i + 2) < 0 ∨ L ≤ (i + 2).toNatClampNeg then none else (if (i + 3) < 0 ∨ L ≤ (i + 3).toNatClampNeg then none else chk M164 8 m (bd (g_X10_byBasis n M164 m (sc (i + 1).toNatClampNeg) (sc (i + 2).toNatClampNeg) (sc (i + 3).toNatClampNeg)) (fun r165 M166 => (if r163 = r165 then some (.inl (M166, i + 6)) else some (.inr ((0, M166))))))))))))))
set_option maxHeartbeats 4000000 in
set_option maxRecDepth 100000 in
theorem t_law_c29 {X : CxT} {A : Int32 × MemT → Prop} {B : (MemT × Int32) ⊕ (Int32 × MemT) → Prop} {j : Nat} (hj : j < 513) (n L : Nat) (sc : Nat → Int32) (x m out : Nat) (M : MemT) (i : Int32) (hX : CxOk X cL_law 7 RL room_1) (hl : (xl X).stackTraces = false) (hR : RetL X A) (hS : Scr X L sc) (hB : ∀ s1, B (.inl s1) → WW X 7 (160 + (j + 1) * 60) (64282 + (j + 1) * 3000) 23 (lawL x m out s1) [] (lawM s1)) (hI : ∀ u, B (.inr u) → A u) : Sim X 7 B (g_law_c29 n L sc x m out M i) (160 + j * 60) (64282 + j * 3000) 1496 [some (kv ((some 70))), some (.ref x), some (.ref m), some (.ref out), some (.int i), none, none] [] M := by
  unfold g_law_c29
  refine s_aload_n hX dL_law_1496 rfl ?_
  refine s_kloadK_n (r := (some 70)) hX dL_law_1497 rfl ?_
  refine s_iload hX dL_law_1498 rfl ?_
  refine s_iconst (v := 1) hX dL_law_1500 kc_1 ?_
  refine s_iadd hX dL_law_1501 ?_
  refine s_sld hX hS dL_law_1502 ?_
  refine s_kloadK_n (r := (some 70)) hX dL_law_1503 rfl ?_
  refine s_iload hX dL_law_1504 rfl ?_
  refine s_iconst (v := 2) hX dL_law_1506 kc_2 ?_
  refine s_iadd hX dL_law_1507 ?_
  refine s_sld hX hS dL_law_1508 ?_
  refine s_kloadK_n (r := (some 70)) hX dL_law_1509 rfl ?_
  refine s_iload hX dL_law_1510 rfl ?_
  refine s_iconst (v := 3) hX dL_law_1512 kc_3 ?_
  refine s_iadd hX dL_law_1513 ?_
  refine s_sld hX hS dL_law_1514 ?_
  refine s_callVi (ck1 := 160 + j * 60) (sk1 := 64282 + j * 3000) (ci := 7) hX dL_law_1515 k_X9_byBasis q_1026 (c_X9_byBasis n M x (sc (i + 1).toNatClampNeg) (sc (i + 2).toNatClampNeg) (sc (i + 3).toNatClampNeg)) (by decide) rfl rfl rfl ⟨Nat.le_of_ble_eq_true rfl, Nat.le_of_ble_eq_true rfl⟩ ⟨(by first | omega | (simp only [room_1, NC]; omega)), (by first | omega | (simp only [room_1, NC]; omega))⟩ (Nat.le_of_ble_eq_true rfl) rfl rfl (fun r163 M164 => ?_)
  refine s_aload_n hX dL_law_1518 rfl ?_
  refine s_kloadK_n (r := (some 70)) hX dL_law_1519 rfl ?_
  refine s_iload hX dL_law_1520 rfl ?_
  refine s_iconst (v := 1) hX dL_law_1522 kc_1 ?_
  refine s_iadd hX dL_law_1523 ?_
  refine s_sld hX hS dL_law_1524 ?_
  refine s_kloadK_n (r := (some 70)) hX dL_law_1525 rfl ?_
  refine s_iload hX dL_law_1526 rfl ?_
  refine s_iconst (v := 2) hX dL_law_1528 kc_2 ?_
  refine s_iadd hX dL_law_1529 ?_
  refine s_sld hX hS dL_law_1530 ?_
  refine s_kloadK_n (r := (some 70)) hX dL_law_1531 rfl ?_
  refine s_iload hX dL_law_1532 rfl ?_
  refine s_iconst (v := 3) hX dL_law_1534 kc_3 ?_
  refine s_iadd hX dL_law_1535 ?_
  refine s_sld hX hS dL_law_1536 ?_
  refine s_callVi (ck1 := 160 + j * 60) (sk1 := 64282 + j * 3000) (ci := 8) hX dL_law_1537 k_X10_byBasis q_1759 (c_X10_byBasis n M164 m (sc (i + 1).toNatClampNeg) (sc (i + 2).toNatClampNeg) (sc (i + 3).toNatClampNeg)) (by decide) rfl rfl rfl ⟨Nat.le_of_ble_eq_true rfl, Nat.le_of_ble_eq_true rfl⟩ ⟨(by first | omega | (simp only [room_1, NC]; omega)), (by first | omega | (simp only [room_1, NC]; omega))⟩ (Nat.le_of_ble_eq_true rfl) rfl rfl (fun r165 M166 => ?_)
  refine s_iceq (tgt := 2091) hX dL_law_1540 rfl ?_ ?_
  · refine s_iinc4 (v := i + 6) hX dL_law_2091 rfl (by first | exact trivial | exact rfl) (Nat.le_of_ble_eq_true rfl) ?_
    refine s_goto (tgt := 23) hX dL_law_2094 rfl ?_
    refine s_widen (ck1 := 160 + (j + 1) * 60) (sk1 := 64282 + (j + 1) * 3000) (by omega) (by omega) ?_
    exact s_back hB
  · refine s_iconst (v := 0) hX dL_law_1543 kc_0 ?_
    exact s_inr hI (s_lawret hX hR dL_law_1544 (by first | omega | (simp only [room_1, NC]; omega)) (by first | omega | (simp only [room_1, NC]; omega)))
def g_law_c30 (n L : Nat) (sc : Nat → Int32) (x m out : Nat) (M : MemT) (i : Int32) : Option ((MemT × Int32) ⊕ (Int32 × MemT)) :=
  (if (i + 1) < 0 ∨ L ≤ (i + 1).toNatClampNeg then none else chk M 7 x (bd (g_X9_leader n M x (sc (i + 1).toNatClampNeg)) (fun r168 M169 => (if (i + 1) < 0 ∨ L ≤ (i + 1).toNatClampNeg then none else chk M169 8 m (bd (g_X10_leader n M169 m (sc (i + 1).toNatClampNeg)) (fun r170 M171 => (if r168 = r170 then some (.inl (M171, i + 6)) else some (.inr ((0, M171))))))))))
set_option maxHeartbeats 4000000 in
set_option maxRecDepth 100000 in
theorem t_law_c30 {X : CxT} {A : Int32 × MemT → Prop} {B : (MemT × Int32) ⊕ (Int32 × MemT) → Prop} {j : Nat} (hj : j < 513) (n L : Nat) (sc : Nat → Int32) (x m out : Nat) (M : MemT) (i : Int32) (hX : CxOk X cL_law 7 RL room_1) (hl : (xl X).stackTraces = false) (hR : RetL X A) (hS : Scr X L sc) (hB : ∀ s1, B (.inl s1) → WW X 7 (160 + (j + 1) * 60) (64282 + (j + 1) * 3000) 23 (lawL x m out s1) [] (lawM s1)) (hI : ∀ u, B (.inr u) → A u) : Sim X 7 B (g_law_c30 n L sc x m out M i) (160 + j * 60) (64282 + j * 3000) 1545 [some (kv ((some 70))), some (.ref x), some (.ref m), some (.ref out), some (.int i), none, none] [] M := by
  unfold g_law_c30
  refine s_aload_n hX dL_law_1545 rfl ?_
  refine s_kloadK_n (r := (some 70)) hX dL_law_1546 rfl ?_
  refine s_iload hX dL_law_1547 rfl ?_
  refine s_iconst (v := 1) hX dL_law_1549 kc_1 ?_
  refine s_iadd hX dL_law_1550 ?_
  refine s_sld hX hS dL_law_1551 ?_
  refine s_callVi (ck1 := 160 + j * 60) (sk1 := 64282 + j * 3000) (ci := 7) hX dL_law_1552 k_X9_leader q_1031 (c_X9_leader n M x (sc (i + 1).toNatClampNeg)) (by decide) rfl rfl rfl ⟨Nat.le_of_ble_eq_true rfl, Nat.le_of_ble_eq_true rfl⟩ ⟨(by first | omega | (simp only [room_1, NC]; omega)), (by first | omega | (simp only [room_1, NC]; omega))⟩ (Nat.le_of_ble_eq_true rfl) rfl rfl (fun r168 M169 => ?_)
  refine s_aload_n hX dL_law_1555 rfl ?_
  refine s_kloadK_n (r := (some 70)) hX dL_law_1556 rfl ?_
  refine s_iload hX dL_law_1557 rfl ?_
  refine s_iconst (v := 1) hX dL_law_1559 kc_1 ?_
  refine s_iadd hX dL_law_1560 ?_
  refine s_sld hX hS dL_law_1561 ?_
  refine s_callVi (ck1 := 160 + j * 60) (sk1 := 64282 + j * 3000) (ci := 8) hX dL_law_1562 k_X10_leader q_1763 (c_X10_leader n M169 m (sc (i + 1).toNatClampNeg)) (by decide) rfl rfl rfl ⟨Nat.le_of_ble_eq_true rfl, Nat.le_of_ble_eq_true rfl⟩ ⟨(by first | omega | (simp only [room_1, NC]; omega)), (by first | omega | (simp only [room_1, NC]; omega))⟩ (Nat.le_of_ble_eq_true rfl) rfl rfl (fun r170 M171 => ?_)
  refine s_iceq (tgt := 2091) hX dL_law_1565 rfl ?_ ?_
  · refine s_iinc4 (v := i + 6) hX dL_law_2091 rfl (by first | exact trivial | exact rfl) (Nat.le_of_ble_eq_true rfl) ?_
    refine s_goto (tgt := 23) hX dL_law_2094 rfl ?_
    refine s_widen (ck1 := 160 + (j + 1) * 60) (sk1 := 64282 + (j + 1) * 3000) (by omega) (by omega) ?_
    exact s_back hB
  · refine s_iconst (v := 0) hX dL_law_1568 kc_0 ?_
    exact s_inr hI (s_lawret hX hR dL_law_1569 (by first | omega | (simp only [room_1, NC]; omega)) (by first | omega | (simp only [room_1, NC]; omega)))
def g_law_c31 (n L : Nat) (sc : Nat → Int32) (x m out : Nat) (M : MemT) (i : Int32) : Option ((MemT × Int32) ⊕ (Int32 × MemT)) :=
  (if (i + 1) < 0 ∨ L ≤ (i + 1).toNatClampNeg then none else chk M 7 x (bd (g_X9_rise n M x (sc (i + 1).toNatClampNeg)) (fun r173 M174 => (if (i + 1) < 0 ∨ L ≤ (i + 1).toNatClampNeg then none else chk M174 8 m (bd (g_X10_rise n M174 m (sc (i + 1).toNatClampNeg)) (fun r175 M176 => (if r173 = r175 then some (.inl (M176, i + 6)) else some (.inr ((0, M176))))))))))
set_option maxHeartbeats 4000000 in
set_option maxRecDepth 100000 in
theorem t_law_c31 {X : CxT} {A : Int32 × MemT → Prop} {B : (MemT × Int32) ⊕ (Int32 × MemT) → Prop} {j : Nat} (hj : j < 513) (n L : Nat) (sc : Nat → Int32) (x m out : Nat) (M : MemT) (i : Int32) (hX : CxOk X cL_law 7 RL room_1) (hl : (xl X).stackTraces = false) (hR : RetL X A) (hS : Scr X L sc) (hB : ∀ s1, B (.inl s1) → WW X 7 (160 + (j + 1) * 60) (64282 + (j + 1) * 3000) 23 (lawL x m out s1) [] (lawM s1)) (hI : ∀ u, B (.inr u) → A u) : Sim X 7 B (g_law_c31 n L sc x m out M i) (160 + j * 60) (64282 + j * 3000) 1570 [some (kv ((some 70))), some (.ref x), some (.ref m), some (.ref out), some (.int i), none, none] [] M := by
  unfold g_law_c31
  refine s_aload_n hX dL_law_1570 rfl ?_
  refine s_kloadK_n (r := (some 70)) hX dL_law_1571 rfl ?_
  refine s_iload hX dL_law_1572 rfl ?_
  refine s_iconst (v := 1) hX dL_law_1574 kc_1 ?_
  refine s_iadd hX dL_law_1575 ?_
  refine s_sld hX hS dL_law_1576 ?_
  refine s_callVi (ck1 := 160 + j * 60) (sk1 := 64282 + j * 3000) (ci := 7) hX dL_law_1577 k_X9_rise q_1036 (c_X9_rise n M x (sc (i + 1).toNatClampNeg)) (by decide) rfl rfl rfl ⟨Nat.le_of_ble_eq_true rfl, Nat.le_of_ble_eq_true rfl⟩ ⟨(by first | omega | (simp only [room_1, NC]; omega)), (by first | omega | (simp only [room_1, NC]; omega))⟩ (Nat.le_of_ble_eq_true rfl) rfl rfl (fun r173 M174 => ?_)
  refine s_aload_n hX dL_law_1580 rfl ?_
  refine s_kloadK_n (r := (some 70)) hX dL_law_1581 rfl ?_
  refine s_iload hX dL_law_1582 rfl ?_
  refine s_iconst (v := 1) hX dL_law_1584 kc_1 ?_
  refine s_iadd hX dL_law_1585 ?_
  refine s_sld hX hS dL_law_1586 ?_
  refine s_callVi (ck1 := 160 + j * 60) (sk1 := 64282 + j * 3000) (ci := 8) hX dL_law_1587 k_X10_rise q_1767 (c_X10_rise n M174 m (sc (i + 1).toNatClampNeg)) (by decide) rfl rfl rfl ⟨Nat.le_of_ble_eq_true rfl, Nat.le_of_ble_eq_true rfl⟩ ⟨(by first | omega | (simp only [room_1, NC]; omega)), (by first | omega | (simp only [room_1, NC]; omega))⟩ (Nat.le_of_ble_eq_true rfl) rfl rfl (fun r175 M176 => ?_)
  refine s_iceq (tgt := 2091) hX dL_law_1590 rfl ?_ ?_
  · refine s_iinc4 (v := i + 6) hX dL_law_2091 rfl (by first | exact trivial | exact rfl) (Nat.le_of_ble_eq_true rfl) ?_
    refine s_goto (tgt := 23) hX dL_law_2094 rfl ?_
    refine s_widen (ck1 := 160 + (j + 1) * 60) (sk1 := 64282 + (j + 1) * 3000) (by omega) (by omega) ?_
    exact s_back hB
  · refine s_iconst (v := 0) hX dL_law_1593 kc_0 ?_
    exact s_inr hI (s_lawret hX hR dL_law_1594 (by first | omega | (simp only [room_1, NC]; omega)) (by first | omega | (simp only [room_1, NC]; omega)))
def g_law_c32 (n L : Nat) (sc : Nat → Int32) (x m out : Nat) (M : MemT) (i : Int32) : Option ((MemT × Int32) ⊕ (Int32 × MemT)) :=
  (if (i + 1) < 0 ∨ L ≤ (i + 1).toNatClampNeg then none else (if (i + 2) < 0 ∨ L ≤ (i + 2).toNatClampNeg then none else chk M 7 x (bd (g_X9_need n M x (sc (i + 1).toNatClampNeg) (sc (i + 2).toNatClampNeg)) (fun r178 M179 => (if (i + 1) < 0 ∨ L ≤ (i + 1).toNatClampNeg then none else (if (i + 2) < 0 ∨ L ≤ (i + 2).toNatClampNeg then none else chk M179 8 m (bd (g_X10_need n M179 m (sc (i + 1).toNatClampNeg) (sc (i + 2).toNatClampNeg)) (fun r180 M181 => (if r178 = r180 then some (.inl (M181, i + 6)) else some (.inr ((0, M181))))))))))))
set_option maxHeartbeats 4000000 in
set_option maxRecDepth 100000 in
theorem t_law_c32 {X : CxT} {A : Int32 × MemT → Prop} {B : (MemT × Int32) ⊕ (Int32 × MemT) → Prop} {j : Nat} (hj : j < 513) (n L : Nat) (sc : Nat → Int32) (x m out : Nat) (M : MemT) (i : Int32) (hX : CxOk X cL_law 7 RL room_1) (hl : (xl X).stackTraces = false) (hR : RetL X A) (hS : Scr X L sc) (hB : ∀ s1, B (.inl s1) → WW X 7 (160 + (j + 1) * 60) (64282 + (j + 1) * 3000) 23 (lawL x m out s1) [] (lawM s1)) (hI : ∀ u, B (.inr u) → A u) : Sim X 7 B (g_law_c32 n L sc x m out M i) (160 + j * 60) (64282 + j * 3000) 1595 [some (kv ((some 70))), some (.ref x), some (.ref m), some (.ref out), some (.int i), none, none] [] M := by
  unfold g_law_c32
  refine s_aload_n hX dL_law_1595 rfl ?_
  refine s_kloadK_n (r := (some 70)) hX dL_law_1596 rfl ?_
  refine s_iload hX dL_law_1597 rfl ?_
  refine s_iconst (v := 1) hX dL_law_1599 kc_1 ?_
  refine s_iadd hX dL_law_1600 ?_
  refine s_sld hX hS dL_law_1601 ?_
  refine s_kloadK_n (r := (some 70)) hX dL_law_1602 rfl ?_
  refine s_iload hX dL_law_1603 rfl ?_
  refine s_iconst (v := 2) hX dL_law_1605 kc_2 ?_
  refine s_iadd hX dL_law_1606 ?_
  refine s_sld hX hS dL_law_1607 ?_
  refine s_callVi (ck1 := 160 + j * 60) (sk1 := 64282 + j * 3000) (ci := 7) hX dL_law_1608 k_X9_need q_1043 (c_X9_need n M x (sc (i + 1).toNatClampNeg) (sc (i + 2).toNatClampNeg)) (by decide) rfl rfl rfl ⟨Nat.le_of_ble_eq_true rfl, Nat.le_of_ble_eq_true rfl⟩ ⟨(by first | omega | (simp only [room_1, NC]; omega)), (by first | omega | (simp only [room_1, NC]; omega))⟩ (Nat.le_of_ble_eq_true rfl) rfl rfl (fun r178 M179 => ?_)
  refine s_aload_n hX dL_law_1611 rfl ?_
  refine s_kloadK_n (r := (some 70)) hX dL_law_1612 rfl ?_
  refine s_iload hX dL_law_1613 rfl ?_
  refine s_iconst (v := 1) hX dL_law_1615 kc_1 ?_
  refine s_iadd hX dL_law_1616 ?_
  refine s_sld hX hS dL_law_1617 ?_
  refine s_kloadK_n (r := (some 70)) hX dL_law_1618 rfl ?_
  refine s_iload hX dL_law_1619 rfl ?_
  refine s_iconst (v := 2) hX dL_law_1621 kc_2 ?_
  refine s_iadd hX dL_law_1622 ?_
  refine s_sld hX hS dL_law_1623 ?_
  refine s_callVi (ck1 := 160 + j * 60) (sk1 := 64282 + j * 3000) (ci := 8) hX dL_law_1624 k_X10_need q_1771 (c_X10_need n M179 m (sc (i + 1).toNatClampNeg) (sc (i + 2).toNatClampNeg)) (by decide) rfl rfl rfl ⟨Nat.le_of_ble_eq_true rfl, Nat.le_of_ble_eq_true rfl⟩ ⟨(by first | omega | (simp only [room_1, NC]; omega)), (by first | omega | (simp only [room_1, NC]; omega))⟩ (Nat.le_of_ble_eq_true rfl) rfl rfl (fun r180 M181 => ?_)
  refine s_iceq (tgt := 2091) hX dL_law_1627 rfl ?_ ?_
  · refine s_iinc4 (v := i + 6) hX dL_law_2091 rfl (by first | exact trivial | exact rfl) (Nat.le_of_ble_eq_true rfl) ?_
    refine s_goto (tgt := 23) hX dL_law_2094 rfl ?_
    refine s_widen (ck1 := 160 + (j + 1) * 60) (sk1 := 64282 + (j + 1) * 3000) (by omega) (by omega) ?_
    exact s_back hB
  · refine s_iconst (v := 0) hX dL_law_1630 kc_0 ?_
    exact s_inr hI (s_lawret hX hR dL_law_1631 (by first | omega | (simp only [room_1, NC]; omega)) (by first | omega | (simp only [room_1, NC]; omega)))
def g_law_c33 (n L : Nat) (sc : Nat → Int32) (x m out : Nat) (M : MemT) (i : Int32) : Option ((MemT × Int32) ⊕ (Int32 × MemT)) :=
  (if (i + 1) < 0 ∨ L ≤ (i + 1).toNatClampNeg then none else (if (i + 2) < 0 ∨ L ≤ (i + 2).toNatClampNeg then none else chk M 7 x (bd (g_X9_room n M x (sc (i + 1).toNatClampNeg) (sc (i + 2).toNatClampNeg)) (fun r183 M184 => (if (i + 1) < 0 ∨ L ≤ (i + 1).toNatClampNeg then none else (if (i + 2) < 0 ∨ L ≤ (i + 2).toNatClampNeg then none else chk M184 8 m (bd (g_X10_room n M184 m (sc (i + 1).toNatClampNeg) (sc (i + 2).toNatClampNeg)) (fun r185 M186 => (if r183 = r185 then some (.inl (M186, i + 6)) else some (.inr ((0, M186))))))))))))
set_option maxHeartbeats 4000000 in
set_option maxRecDepth 100000 in
theorem t_law_c33 {X : CxT} {A : Int32 × MemT → Prop} {B : (MemT × Int32) ⊕ (Int32 × MemT) → Prop} {j : Nat} (hj : j < 513) (n L : Nat) (sc : Nat → Int32) (x m out : Nat) (M : MemT) (i : Int32) (hX : CxOk X cL_law 7 RL room_1) (hl : (xl X).stackTraces = false) (hR : RetL X A) (hS : Scr X L sc) (hB : ∀ s1, B (.inl s1) → WW X 7 (160 + (j + 1) * 60) (64282 + (j + 1) * 3000) 23 (lawL x m out s1) [] (lawM s1)) (hI : ∀ u, B (.inr u) → A u) : Sim X 7 B (g_law_c33 n L sc x m out M i) (160 + j * 60) (64282 + j * 3000) 1632 [some (kv ((some 70))), some (.ref x), some (.ref m), some (.ref out), some (.int i), none, none] [] M := by
  unfold g_law_c33
  refine s_aload_n hX dL_law_1632 rfl ?_
  refine s_kloadK_n (r := (some 70)) hX dL_law_1633 rfl ?_
  refine s_iload hX dL_law_1634 rfl ?_
  refine s_iconst (v := 1) hX dL_law_1636 kc_1 ?_
  refine s_iadd hX dL_law_1637 ?_
  refine s_sld hX hS dL_law_1638 ?_
  refine s_kloadK_n (r := (some 70)) hX dL_law_1639 rfl ?_
  refine s_iload hX dL_law_1640 rfl ?_
  refine s_iconst (v := 2) hX dL_law_1642 kc_2 ?_
  refine s_iadd hX dL_law_1643 ?_
  refine s_sld hX hS dL_law_1644 ?_
  refine s_callVi (ck1 := 160 + j * 60) (sk1 := 64282 + j * 3000) (ci := 7) hX dL_law_1645 k_X9_room q_1052 (c_X9_room n M x (sc (i + 1).toNatClampNeg) (sc (i + 2).toNatClampNeg)) (by decide) rfl rfl rfl ⟨Nat.le_of_ble_eq_true rfl, Nat.le_of_ble_eq_true rfl⟩ ⟨(by first | omega | (simp only [room_1, NC]; omega)), (by first | omega | (simp only [room_1, NC]; omega))⟩ (Nat.le_of_ble_eq_true rfl) rfl rfl (fun r183 M184 => ?_)
  refine s_aload_n hX dL_law_1648 rfl ?_
  refine s_kloadK_n (r := (some 70)) hX dL_law_1649 rfl ?_
  refine s_iload hX dL_law_1650 rfl ?_
  refine s_iconst (v := 1) hX dL_law_1652 kc_1 ?_
  refine s_iadd hX dL_law_1653 ?_
  refine s_sld hX hS dL_law_1654 ?_
  refine s_kloadK_n (r := (some 70)) hX dL_law_1655 rfl ?_
  refine s_iload hX dL_law_1656 rfl ?_
  refine s_iconst (v := 2) hX dL_law_1658 kc_2 ?_
  refine s_iadd hX dL_law_1659 ?_
  refine s_sld hX hS dL_law_1660 ?_
  refine s_callVi (ck1 := 160 + j * 60) (sk1 := 64282 + j * 3000) (ci := 8) hX dL_law_1661 k_X10_room q_1776 (c_X10_room n M184 m (sc (i + 1).toNatClampNeg) (sc (i + 2).toNatClampNeg)) (by decide) rfl rfl rfl ⟨Nat.le_of_ble_eq_true rfl, Nat.le_of_ble_eq_true rfl⟩ ⟨(by first | omega | (simp only [room_1, NC]; omega)), (by first | omega | (simp only [room_1, NC]; omega))⟩ (Nat.le_of_ble_eq_true rfl) rfl rfl (fun r185 M186 => ?_)
  refine s_iceq (tgt := 2091) hX dL_law_1664 rfl ?_ ?_
  · refine s_iinc4 (v := i + 6) hX dL_law_2091 rfl (by first | exact trivial | exact rfl) (Nat.le_of_ble_eq_true rfl) ?_
    refine s_goto (tgt := 23) hX dL_law_2094 rfl ?_
    refine s_widen (ck1 := 160 + (j + 1) * 60) (sk1 := 64282 + (j + 1) * 3000) (by omega) (by omega) ?_
    exact s_back hB
  · refine s_iconst (v := 0) hX dL_law_1667 kc_0 ?_
    exact s_inr hI (s_lawret hX hR dL_law_1668 (by first | omega | (simp only [room_1, NC]; omega)) (by first | omega | (simp only [room_1, NC]; omega)))
def g_law_c34 (n L : Nat) (sc : Nat → Int32) (x m out : Nat) (M : MemT) (i : Int32) : Option ((MemT × Int32) ⊕ (Int32 × MemT)) :=
  (if (i + 1) < 0 ∨ L ≤ (i + 1).toNatClampNeg then none else (if (i + 2) < 0 ∨ L ≤ (i + 2).toNatClampNeg then none else chk M 7 x (bd (g_X9_would n M x (sc (i + 1).toNatClampNeg) (sc (i + 2).toNatClampNeg)) (fun r188 M189 => (if (i + 1) < 0 ∨ L ≤ (i + 1).toNatClampNeg then none else (if (i + 2) < 0 ∨ L ≤ (i + 2).toNatClampNeg then none else chk M189 8 m (bd (g_X10_would n M189 m (sc (i + 1).toNatClampNeg) (sc (i + 2).toNatClampNeg)) (fun r190 M191 => (if r188 = r190 then some (.inl (M191, i + 6)) else some (.inr ((0, M191))))))))))))
set_option maxHeartbeats 4000000 in
set_option maxRecDepth 100000 in
theorem t_law_c34 {X : CxT} {A : Int32 × MemT → Prop} {B : (MemT × Int32) ⊕ (Int32 × MemT) → Prop} {j : Nat} (hj : j < 513) (n L : Nat) (sc : Nat → Int32) (x m out : Nat) (M : MemT) (i : Int32) (hX : CxOk X cL_law 7 RL room_1) (hl : (xl X).stackTraces = false) (hR : RetL X A) (hS : Scr X L sc) (hB : ∀ s1, B (.inl s1) → WW X 7 (160 + (j + 1) * 60) (64282 + (j + 1) * 3000) 23 (lawL x m out s1) [] (lawM s1)) (hI : ∀ u, B (.inr u) → A u) : Sim X 7 B (g_law_c34 n L sc x m out M i) (160 + j * 60) (64282 + j * 3000) 1669 [some (kv ((some 70))), some (.ref x), some (.ref m), some (.ref out), some (.int i), none, none] [] M := by
  unfold g_law_c34
  refine s_aload_n hX dL_law_1669 rfl ?_
  refine s_kloadK_n (r := (some 70)) hX dL_law_1670 rfl ?_
  refine s_iload hX dL_law_1671 rfl ?_
  refine s_iconst (v := 1) hX dL_law_1673 kc_1 ?_
  refine s_iadd hX dL_law_1674 ?_
  refine s_sld hX hS dL_law_1675 ?_
  refine s_kloadK_n (r := (some 70)) hX dL_law_1676 rfl ?_
  refine s_iload hX dL_law_1677 rfl ?_
  refine s_iconst (v := 2) hX dL_law_1679 kc_2 ?_
  refine s_iadd hX dL_law_1680 ?_
  refine s_sld hX hS dL_law_1681 ?_
  refine s_callVi (ck1 := 160 + j * 60) (sk1 := 64282 + j * 3000) (ci := 7) hX dL_law_1682 k_X9_would q_1056 (c_X9_would n M x (sc (i + 1).toNatClampNeg) (sc (i + 2).toNatClampNeg)) (by decide) rfl rfl rfl ⟨Nat.le_of_ble_eq_true rfl, Nat.le_of_ble_eq_true rfl⟩ ⟨(by first | omega | (simp only [room_1, NC]; omega)), (by first | omega | (simp only [room_1, NC]; omega))⟩ (Nat.le_of_ble_eq_true rfl) rfl rfl (fun r188 M189 => ?_)
  refine s_aload_n hX dL_law_1685 rfl ?_
  refine s_kloadK_n (r := (some 70)) hX dL_law_1686 rfl ?_
  refine s_iload hX dL_law_1687 rfl ?_
  refine s_iconst (v := 1) hX dL_law_1689 kc_1 ?_
  refine s_iadd hX dL_law_1690 ?_
  refine s_sld hX hS dL_law_1691 ?_
  refine s_kloadK_n (r := (some 70)) hX dL_law_1692 rfl ?_
  refine s_iload hX dL_law_1693 rfl ?_
  refine s_iconst (v := 2) hX dL_law_1695 kc_2 ?_
  refine s_iadd hX dL_law_1696 ?_
  refine s_sld hX hS dL_law_1697 ?_
  refine s_callVi (ck1 := 160 + j * 60) (sk1 := 64282 + j * 3000) (ci := 8) hX dL_law_1698 k_X10_would q_1780 (c_X10_would n M189 m (sc (i + 1).toNatClampNeg) (sc (i + 2).toNatClampNeg)) (by decide) rfl rfl rfl ⟨Nat.le_of_ble_eq_true rfl, Nat.le_of_ble_eq_true rfl⟩ ⟨(by first | omega | (simp only [room_1, NC]; omega)), (by first | omega | (simp only [room_1, NC]; omega))⟩ (Nat.le_of_ble_eq_true rfl) rfl rfl (fun r190 M191 => ?_)
  refine s_iceq (tgt := 2091) hX dL_law_1701 rfl ?_ ?_
  · refine s_iinc4 (v := i + 6) hX dL_law_2091 rfl (by first | exact trivial | exact rfl) (Nat.le_of_ble_eq_true rfl) ?_
    refine s_goto (tgt := 23) hX dL_law_2094 rfl ?_
    refine s_widen (ck1 := 160 + (j + 1) * 60) (sk1 := 64282 + (j + 1) * 3000) (by omega) (by omega) ?_
    exact s_back hB
  · refine s_iconst (v := 0) hX dL_law_1704 kc_0 ?_
    exact s_inr hI (s_lawret hX hR dL_law_1705 (by first | omega | (simp only [room_1, NC]; omega)) (by first | omega | (simp only [room_1, NC]; omega)))
def g_law_c35 (n L : Nat) (sc : Nat → Int32) (x m out : Nat) (M : MemT) (i : Int32) : Option ((MemT × Int32) ⊕ (Int32 × MemT)) :=
  (if (i + 1) < 0 ∨ L ≤ (i + 1).toNatClampNeg then none else (if (i + 2) < 0 ∨ L ≤ (i + 2).toNatClampNeg then none else chk M 7 x (bd (g_X9_bestWait n M x (sc (i + 1).toNatClampNeg) (sc (i + 2).toNatClampNeg)) (fun r193 M194 => (if (i + 1) < 0 ∨ L ≤ (i + 1).toNatClampNeg then none else (if (i + 2) < 0 ∨ L ≤ (i + 2).toNatClampNeg then none else chk M194 8 m (bd (g_X10_bestWait n M194 m (sc (i + 1).toNatClampNeg) (sc (i + 2).toNatClampNeg)) (fun r195 M196 => (if r193 = r195 then some (.inl (M196, i + 6)) else some (.inr ((0, M196))))))))))))
set_option maxHeartbeats 4000000 in
set_option maxRecDepth 100000 in
theorem t_law_c35 {X : CxT} {A : Int32 × MemT → Prop} {B : (MemT × Int32) ⊕ (Int32 × MemT) → Prop} {j : Nat} (hj : j < 513) (n L : Nat) (sc : Nat → Int32) (x m out : Nat) (M : MemT) (i : Int32) (hX : CxOk X cL_law 7 RL room_1) (hl : (xl X).stackTraces = false) (hR : RetL X A) (hS : Scr X L sc) (hB : ∀ s1, B (.inl s1) → WW X 7 (160 + (j + 1) * 60) (64282 + (j + 1) * 3000) 23 (lawL x m out s1) [] (lawM s1)) (hI : ∀ u, B (.inr u) → A u) : Sim X 7 B (g_law_c35 n L sc x m out M i) (160 + j * 60) (64282 + j * 3000) 1706 [some (kv ((some 70))), some (.ref x), some (.ref m), some (.ref out), some (.int i), none, none] [] M := by
  unfold g_law_c35
  refine s_aload_n hX dL_law_1706 rfl ?_
  refine s_kloadK_n (r := (some 70)) hX dL_law_1707 rfl ?_
  refine s_iload hX dL_law_1708 rfl ?_
  refine s_iconst (v := 1) hX dL_law_1710 kc_1 ?_
  refine s_iadd hX dL_law_1711 ?_
  refine s_sld hX hS dL_law_1712 ?_
  refine s_kloadK_n (r := (some 70)) hX dL_law_1713 rfl ?_
  refine s_iload hX dL_law_1714 rfl ?_
  refine s_iconst (v := 2) hX dL_law_1716 kc_2 ?_
  refine s_iadd hX dL_law_1717 ?_
  refine s_sld hX hS dL_law_1718 ?_
  refine s_callVi (ck1 := 160 + j * 60) (sk1 := 64282 + j * 3000) (ci := 7) hX dL_law_1719 k_X9_bestWait q_1073 (c_X9_bestWait n M x (sc (i + 1).toNatClampNeg) (sc (i + 2).toNatClampNeg)) (by decide) rfl rfl rfl ⟨Nat.le_of_ble_eq_true rfl, Nat.le_of_ble_eq_true rfl⟩ ⟨(by first | omega | (simp only [room_1, NC]; omega)), (by first | omega | (simp only [room_1, NC]; omega))⟩ (Nat.le_of_ble_eq_true rfl) rfl rfl (fun r193 M194 => ?_)
  refine s_aload_n hX dL_law_1722 rfl ?_
  refine s_kloadK_n (r := (some 70)) hX dL_law_1723 rfl ?_
  refine s_iload hX dL_law_1724 rfl ?_
  refine s_iconst (v := 1) hX dL_law_1726 kc_1 ?_
  refine s_iadd hX dL_law_1727 ?_
  refine s_sld hX hS dL_law_1728 ?_
  refine s_kloadK_n (r := (some 70)) hX dL_law_1729 rfl ?_
  refine s_iload hX dL_law_1730 rfl ?_
  refine s_iconst (v := 2) hX dL_law_1732 kc_2 ?_
  refine s_iadd hX dL_law_1733 ?_
  refine s_sld hX hS dL_law_1734 ?_
  refine s_callVi (ck1 := 160 + j * 60) (sk1 := 64282 + j * 3000) (ci := 8) hX dL_law_1735 k_X10_bestWait q_1788 (c_X10_bestWait n M194 m (sc (i + 1).toNatClampNeg) (sc (i + 2).toNatClampNeg)) (by decide) rfl rfl rfl ⟨Nat.le_of_ble_eq_true rfl, Nat.le_of_ble_eq_true rfl⟩ ⟨(by first | omega | (simp only [room_1, NC]; omega)), (by first | omega | (simp only [room_1, NC]; omega))⟩ (Nat.le_of_ble_eq_true rfl) rfl rfl (fun r195 M196 => ?_)
  refine s_iceq (tgt := 2091) hX dL_law_1738 rfl ?_ ?_
  · refine s_iinc4 (v := i + 6) hX dL_law_2091 rfl (by first | exact trivial | exact rfl) (Nat.le_of_ble_eq_true rfl) ?_
    refine s_goto (tgt := 23) hX dL_law_2094 rfl ?_
    refine s_widen (ck1 := 160 + (j + 1) * 60) (sk1 := 64282 + (j + 1) * 3000) (by omega) (by omega) ?_
    exact s_back hB
  · refine s_iconst (v := 0) hX dL_law_1741 kc_0 ?_
    exact s_inr hI (s_lawret hX hR dL_law_1742 (by first | omega | (simp only [room_1, NC]; omega)) (by first | omega | (simp only [room_1, NC]; omega)))
def g_law_c36 (n L : Nat) (sc : Nat → Int32) (x m out : Nat) (M : MemT) (i : Int32) : Option ((MemT × Int32) ⊕ (Int32 × MemT)) :=
  (if (i + 1) < 0 ∨ L ≤ (i + 1).toNatClampNeg then none else (if (i + 2) < 0 ∨ L ≤ (i + 2).toNatClampNeg then none else chk M 7 x (bd (g_X9_project n M x (sc (i + 1).toNatClampNeg) (sc (i + 2).toNatClampNeg)) (fun r198 M199 => (if (i + 1) < 0 ∨ L ≤ (i + 1).toNatClampNeg then none else (if (i + 2) < 0 ∨ L ≤ (i + 2).toNatClampNeg then none else chk M199 8 m (bd (g_X10_project n M199 m (sc (i + 1).toNatClampNeg) (sc (i + 2).toNatClampNeg)) (fun r200 M201 => (if r198 = r200 then some (.inl (M201, i + 6)) else some (.inr ((0, M201))))))))))))
set_option maxHeartbeats 4000000 in
set_option maxRecDepth 100000 in
theorem t_law_c36 {X : CxT} {A : Int32 × MemT → Prop} {B : (MemT × Int32) ⊕ (Int32 × MemT) → Prop} {j : Nat} (hj : j < 513) (n L : Nat) (sc : Nat → Int32) (x m out : Nat) (M : MemT) (i : Int32) (hX : CxOk X cL_law 7 RL room_1) (hl : (xl X).stackTraces = false) (hR : RetL X A) (hS : Scr X L sc) (hB : ∀ s1, B (.inl s1) → WW X 7 (160 + (j + 1) * 60) (64282 + (j + 1) * 3000) 23 (lawL x m out s1) [] (lawM s1)) (hI : ∀ u, B (.inr u) → A u) : Sim X 7 B (g_law_c36 n L sc x m out M i) (160 + j * 60) (64282 + j * 3000) 1743 [some (kv ((some 70))), some (.ref x), some (.ref m), some (.ref out), some (.int i), none, none] [] M := by
  unfold g_law_c36
  refine s_aload_n hX dL_law_1743 rfl ?_
  refine s_kloadK_n (r := (some 70)) hX dL_law_1744 rfl ?_
  refine s_iload hX dL_law_1745 rfl ?_
  refine s_iconst (v := 1) hX dL_law_1747 kc_1 ?_
  refine s_iadd hX dL_law_1748 ?_
  refine s_sld hX hS dL_law_1749 ?_
  refine s_kloadK_n (r := (some 70)) hX dL_law_1750 rfl ?_
  refine s_iload hX dL_law_1751 rfl ?_
  refine s_iconst (v := 2) hX dL_law_1753 kc_2 ?_
  refine s_iadd hX dL_law_1754 ?_
  refine s_sld hX hS dL_law_1755 ?_
  refine s_callVi (ck1 := 160 + j * 60) (sk1 := 64282 + j * 3000) (ci := 7) hX dL_law_1756 k_X9_project q_1079 (c_X9_project n M x (sc (i + 1).toNatClampNeg) (sc (i + 2).toNatClampNeg)) (by decide) rfl rfl rfl ⟨Nat.le_of_ble_eq_true rfl, Nat.le_of_ble_eq_true rfl⟩ ⟨(by first | omega | (simp only [room_1, NC]; omega)), (by first | omega | (simp only [room_1, NC]; omega))⟩ (Nat.le_of_ble_eq_true rfl) rfl rfl (fun r198 M199 => ?_)
  refine s_aload_n hX dL_law_1759 rfl ?_
  refine s_kloadK_n (r := (some 70)) hX dL_law_1760 rfl ?_
  refine s_iload hX dL_law_1761 rfl ?_
  refine s_iconst (v := 1) hX dL_law_1763 kc_1 ?_
  refine s_iadd hX dL_law_1764 ?_
  refine s_sld hX hS dL_law_1765 ?_
  refine s_kloadK_n (r := (some 70)) hX dL_law_1766 rfl ?_
  refine s_iload hX dL_law_1767 rfl ?_
  refine s_iconst (v := 2) hX dL_law_1769 kc_2 ?_
  refine s_iadd hX dL_law_1770 ?_
  refine s_sld hX hS dL_law_1771 ?_
  refine s_callVi (ck1 := 160 + j * 60) (sk1 := 64282 + j * 3000) (ci := 8) hX dL_law_1772 k_X10_project q_1792 (c_X10_project n M199 m (sc (i + 1).toNatClampNeg) (sc (i + 2).toNatClampNeg)) (by decide) rfl rfl rfl ⟨Nat.le_of_ble_eq_true rfl, Nat.le_of_ble_eq_true rfl⟩ ⟨(by first | omega | (simp only [room_1, NC]; omega)), (by first | omega | (simp only [room_1, NC]; omega))⟩ (Nat.le_of_ble_eq_true rfl) rfl rfl (fun r200 M201 => ?_)
  refine s_iceq (tgt := 2091) hX dL_law_1775 rfl ?_ ?_
  · refine s_iinc4 (v := i + 6) hX dL_law_2091 rfl (by first | exact trivial | exact rfl) (Nat.le_of_ble_eq_true rfl) ?_
    refine s_goto (tgt := 23) hX dL_law_2094 rfl ?_
    refine s_widen (ck1 := 160 + (j + 1) * 60) (sk1 := 64282 + (j + 1) * 3000) (by omega) (by omega) ?_
    exact s_back hB
  · refine s_iconst (v := 0) hX dL_law_1778 kc_0 ?_
    exact s_inr hI (s_lawret hX hR dL_law_1779 (by first | omega | (simp only [room_1, NC]; omega)) (by first | omega | (simp only [room_1, NC]; omega)))
def g_law_c37 (n L : Nat) (sc : Nat → Int32) (x m out : Nat) (M : MemT) (i : Int32) : Option ((MemT × Int32) ⊕ (Int32 × MemT)) :=
  (if (i + 1) < 0 ∨ L ≤ (i + 1).toNatClampNeg then none else (if (i + 2) < 0 ∨ L ≤ (i + 2).toNatClampNeg then none else chk M 7 x (bd (g_X9_ifUse n M x (sc (i + 1).toNatClampNeg) (sc (i + 2).toNatClampNeg)) (fun r203 M204 => (if (i + 1) < 0 ∨ L ≤ (i + 1).toNatClampNeg then none else (if (i + 2) < 0 ∨ L ≤ (i + 2).toNatClampNeg then none else chk M204 8 m (bd (g_X10_ifUse n M204 m (sc (i + 1).toNatClampNeg) (sc (i + 2).toNatClampNeg)) (fun r205 M206 => (if r203 = r205 then some (.inl (M206, i + 6)) else some (.inr ((0, M206))))))))))))
set_option maxHeartbeats 4000000 in
set_option maxRecDepth 100000 in
theorem t_law_c37 {X : CxT} {A : Int32 × MemT → Prop} {B : (MemT × Int32) ⊕ (Int32 × MemT) → Prop} {j : Nat} (hj : j < 513) (n L : Nat) (sc : Nat → Int32) (x m out : Nat) (M : MemT) (i : Int32) (hX : CxOk X cL_law 7 RL room_1) (hl : (xl X).stackTraces = false) (hR : RetL X A) (hS : Scr X L sc) (hB : ∀ s1, B (.inl s1) → WW X 7 (160 + (j + 1) * 60) (64282 + (j + 1) * 3000) 23 (lawL x m out s1) [] (lawM s1)) (hI : ∀ u, B (.inr u) → A u) : Sim X 7 B (g_law_c37 n L sc x m out M i) (160 + j * 60) (64282 + j * 3000) 1780 [some (kv ((some 70))), some (.ref x), some (.ref m), some (.ref out), some (.int i), none, none] [] M := by
  unfold g_law_c37
  refine s_aload_n hX dL_law_1780 rfl ?_
  refine s_kloadK_n (r := (some 70)) hX dL_law_1781 rfl ?_
  refine s_iload hX dL_law_1782 rfl ?_
  refine s_iconst (v := 1) hX dL_law_1784 kc_1 ?_
  refine s_iadd hX dL_law_1785 ?_
  refine s_sld hX hS dL_law_1786 ?_
  refine s_kloadK_n (r := (some 70)) hX dL_law_1787 rfl ?_
  refine s_iload hX dL_law_1788 rfl ?_
  refine s_iconst (v := 2) hX dL_law_1790 kc_2 ?_
  refine s_iadd hX dL_law_1791 ?_
  refine s_sld hX hS dL_law_1792 ?_
  refine s_callVi (ck1 := 160 + j * 60) (sk1 := 64282 + j * 3000) (ci := 7) hX dL_law_1793 k_X9_ifUse q_1084 (c_X9_ifUse n M x (sc (i + 1).toNatClampNeg) (sc (i + 2).toNatClampNeg)) (by decide) rfl rfl rfl ⟨Nat.le_of_ble_eq_true rfl, Nat.le_of_ble_eq_true rfl⟩ ⟨(by first | omega | (simp only [room_1, NC]; omega)), (by first | omega | (simp only [room_1, NC]; omega))⟩ (Nat.le_of_ble_eq_true rfl) rfl rfl (fun r203 M204 => ?_)
  refine s_aload_n hX dL_law_1796 rfl ?_
  refine s_kloadK_n (r := (some 70)) hX dL_law_1797 rfl ?_
  refine s_iload hX dL_law_1798 rfl ?_
  refine s_iconst (v := 1) hX dL_law_1800 kc_1 ?_
  refine s_iadd hX dL_law_1801 ?_
  refine s_sld hX hS dL_law_1802 ?_
  refine s_kloadK_n (r := (some 70)) hX dL_law_1803 rfl ?_
  refine s_iload hX dL_law_1804 rfl ?_
  refine s_iconst (v := 2) hX dL_law_1806 kc_2 ?_
  refine s_iadd hX dL_law_1807 ?_
  refine s_sld hX hS dL_law_1808 ?_
  refine s_callVi (ck1 := 160 + j * 60) (sk1 := 64282 + j * 3000) (ci := 8) hX dL_law_1809 k_X10_ifUse q_1796 (c_X10_ifUse n M204 m (sc (i + 1).toNatClampNeg) (sc (i + 2).toNatClampNeg)) (by decide) rfl rfl rfl ⟨Nat.le_of_ble_eq_true rfl, Nat.le_of_ble_eq_true rfl⟩ ⟨(by first | omega | (simp only [room_1, NC]; omega)), (by first | omega | (simp only [room_1, NC]; omega))⟩ (Nat.le_of_ble_eq_true rfl) rfl rfl (fun r205 M206 => ?_)
  refine s_iceq (tgt := 2091) hX dL_law_1812 rfl ?_ ?_
  · refine s_iinc4 (v := i + 6) hX dL_law_2091 rfl (by first | exact trivial | exact rfl) (Nat.le_of_ble_eq_true rfl) ?_
    refine s_goto (tgt := 23) hX dL_law_2094 rfl ?_
    refine s_widen (ck1 := 160 + (j + 1) * 60) (sk1 := 64282 + (j + 1) * 3000) (by omega) (by omega) ?_
    exact s_back hB
  · refine s_iconst (v := 0) hX dL_law_1815 kc_0 ?_
    exact s_inr hI (s_lawret hX hR dL_law_1816 (by first | omega | (simp only [room_1, NC]; omega)) (by first | omega | (simp only [room_1, NC]; omega)))
def g_law_c38 (n L : Nat) (sc : Nat → Int32) (x m out : Nat) (M : MemT) (i : Int32) : Option ((MemT × Int32) ⊕ (Int32 × MemT)) :=
  (if (i + 1) < 0 ∨ L ≤ (i + 1).toNatClampNeg then none else chk M 7 x (bd (g_X9_owners n M x (sc (i + 1).toNatClampNeg)) (fun r208 M209 => (if (i + 1) < 0 ∨ L ≤ (i + 1).toNatClampNeg then none else chk M209 8 m (bd (g_X10_owners n M209 m (sc (i + 1).toNatClampNeg)) (fun r210 M211 => (if r208 = r210 then some (.inl (M211, i + 6)) else some (.inr ((0, M211))))))))))
set_option maxHeartbeats 4000000 in
set_option maxRecDepth 100000 in
theorem t_law_c38 {X : CxT} {A : Int32 × MemT → Prop} {B : (MemT × Int32) ⊕ (Int32 × MemT) → Prop} {j : Nat} (hj : j < 513) (n L : Nat) (sc : Nat → Int32) (x m out : Nat) (M : MemT) (i : Int32) (hX : CxOk X cL_law 7 RL room_1) (hl : (xl X).stackTraces = false) (hR : RetL X A) (hS : Scr X L sc) (hB : ∀ s1, B (.inl s1) → WW X 7 (160 + (j + 1) * 60) (64282 + (j + 1) * 3000) 23 (lawL x m out s1) [] (lawM s1)) (hI : ∀ u, B (.inr u) → A u) : Sim X 7 B (g_law_c38 n L sc x m out M i) (160 + j * 60) (64282 + j * 3000) 1817 [some (kv ((some 70))), some (.ref x), some (.ref m), some (.ref out), some (.int i), none, none] [] M := by
  unfold g_law_c38
  refine s_aload_n hX dL_law_1817 rfl ?_
  refine s_kloadK_n (r := (some 70)) hX dL_law_1818 rfl ?_
  refine s_iload hX dL_law_1819 rfl ?_
  refine s_iconst (v := 1) hX dL_law_1821 kc_1 ?_
  refine s_iadd hX dL_law_1822 ?_
  refine s_sld hX hS dL_law_1823 ?_
  refine s_callVi (ck1 := 160 + j * 60) (sk1 := 64282 + j * 3000) (ci := 7) hX dL_law_1824 k_X9_owners q_1088 (c_X9_owners n M x (sc (i + 1).toNatClampNeg)) (by decide) rfl rfl rfl ⟨Nat.le_of_ble_eq_true rfl, Nat.le_of_ble_eq_true rfl⟩ ⟨(by first | omega | (simp only [room_1, NC]; omega)), (by first | omega | (simp only [room_1, NC]; omega))⟩ (Nat.le_of_ble_eq_true rfl) rfl rfl (fun r208 M209 => ?_)
  refine s_aload_n hX dL_law_1827 rfl ?_
  refine s_kloadK_n (r := (some 70)) hX dL_law_1828 rfl ?_
  refine s_iload hX dL_law_1829 rfl ?_
  refine s_iconst (v := 1) hX dL_law_1831 kc_1 ?_
  refine s_iadd hX dL_law_1832 ?_
  refine s_sld hX hS dL_law_1833 ?_
  refine s_callVi (ck1 := 160 + j * 60) (sk1 := 64282 + j * 3000) (ci := 8) hX dL_law_1834 k_X10_owners q_1800 (c_X10_owners n M209 m (sc (i + 1).toNatClampNeg)) (by decide) rfl rfl rfl ⟨Nat.le_of_ble_eq_true rfl, Nat.le_of_ble_eq_true rfl⟩ ⟨(by first | omega | (simp only [room_1, NC]; omega)), (by first | omega | (simp only [room_1, NC]; omega))⟩ (Nat.le_of_ble_eq_true rfl) rfl rfl (fun r210 M211 => ?_)
  refine s_iceq (tgt := 2091) hX dL_law_1837 rfl ?_ ?_
  · refine s_iinc4 (v := i + 6) hX dL_law_2091 rfl (by first | exact trivial | exact rfl) (Nat.le_of_ble_eq_true rfl) ?_
    refine s_goto (tgt := 23) hX dL_law_2094 rfl ?_
    refine s_widen (ck1 := 160 + (j + 1) * 60) (sk1 := 64282 + (j + 1) * 3000) (by omega) (by omega) ?_
    exact s_back hB
  · refine s_iconst (v := 0) hX dL_law_1840 kc_0 ?_
    exact s_inr hI (s_lawret hX hR dL_law_1841 (by first | omega | (simp only [room_1, NC]; omega)) (by first | omega | (simp only [room_1, NC]; omega)))
def g_law_c39 (n L : Nat) (sc : Nat → Int32) (x m out : Nat) (M : MemT) (i : Int32) : Option ((MemT × Int32) ⊕ (Int32 × MemT)) :=
  (if (i + 1) < 0 ∨ L ≤ (i + 1).toNatClampNeg then none else (if (i + 2) < 0 ∨ L ≤ (i + 2).toNatClampNeg then none else chk M 7 x (bd (g_X9_even n M x (sc (i + 1).toNatClampNeg) (sc (i + 2).toNatClampNeg)) (fun r213 M214 => (if (i + 1) < 0 ∨ L ≤ (i + 1).toNatClampNeg then none else (if (i + 2) < 0 ∨ L ≤ (i + 2).toNatClampNeg then none else chk M214 8 m (bd (g_X10_even n M214 m (sc (i + 1).toNatClampNeg) (sc (i + 2).toNatClampNeg)) (fun r215 M216 => (if r213 = r215 then some (.inl (M216, i + 6)) else some (.inr ((0, M216))))))))))))
set_option maxHeartbeats 4000000 in
set_option maxRecDepth 100000 in
theorem t_law_c39 {X : CxT} {A : Int32 × MemT → Prop} {B : (MemT × Int32) ⊕ (Int32 × MemT) → Prop} {j : Nat} (hj : j < 513) (n L : Nat) (sc : Nat → Int32) (x m out : Nat) (M : MemT) (i : Int32) (hX : CxOk X cL_law 7 RL room_1) (hl : (xl X).stackTraces = false) (hR : RetL X A) (hS : Scr X L sc) (hB : ∀ s1, B (.inl s1) → WW X 7 (160 + (j + 1) * 60) (64282 + (j + 1) * 3000) 23 (lawL x m out s1) [] (lawM s1)) (hI : ∀ u, B (.inr u) → A u) : Sim X 7 B (g_law_c39 n L sc x m out M i) (160 + j * 60) (64282 + j * 3000) 1842 [some (kv ((some 70))), some (.ref x), some (.ref m), some (.ref out), some (.int i), none, none] [] M := by
  unfold g_law_c39
  refine s_aload_n hX dL_law_1842 rfl ?_
  refine s_kloadK_n (r := (some 70)) hX dL_law_1843 rfl ?_
  refine s_iload hX dL_law_1844 rfl ?_
  refine s_iconst (v := 1) hX dL_law_1846 kc_1 ?_
  refine s_iadd hX dL_law_1847 ?_
  refine s_sld hX hS dL_law_1848 ?_
  refine s_kloadK_n (r := (some 70)) hX dL_law_1849 rfl ?_
  refine s_iload hX dL_law_1850 rfl ?_
  refine s_iconst (v := 2) hX dL_law_1852 kc_2 ?_
  refine s_iadd hX dL_law_1853 ?_
  refine s_sld hX hS dL_law_1854 ?_
  refine s_callVi (ck1 := 160 + j * 60) (sk1 := 64282 + j * 3000) (ci := 7) hX dL_law_1855 k_X9_even q_1098 (c_X9_even n M x (sc (i + 1).toNatClampNeg) (sc (i + 2).toNatClampNeg)) (by decide) rfl rfl rfl ⟨Nat.le_of_ble_eq_true rfl, Nat.le_of_ble_eq_true rfl⟩ ⟨(by first | omega | (simp only [room_1, NC]; omega)), (by first | omega | (simp only [room_1, NC]; omega))⟩ (Nat.le_of_ble_eq_true rfl) rfl rfl (fun r213 M214 => ?_)
  refine s_aload_n hX dL_law_1858 rfl ?_
  refine s_kloadK_n (r := (some 70)) hX dL_law_1859 rfl ?_
  refine s_iload hX dL_law_1860 rfl ?_
  refine s_iconst (v := 1) hX dL_law_1862 kc_1 ?_
  refine s_iadd hX dL_law_1863 ?_
  refine s_sld hX hS dL_law_1864 ?_
  refine s_kloadK_n (r := (some 70)) hX dL_law_1865 rfl ?_
  refine s_iload hX dL_law_1866 rfl ?_
  refine s_iconst (v := 2) hX dL_law_1868 kc_2 ?_
  refine s_iadd hX dL_law_1869 ?_
  refine s_sld hX hS dL_law_1870 ?_
  refine s_callVi (ck1 := 160 + j * 60) (sk1 := 64282 + j * 3000) (ci := 8) hX dL_law_1871 k_X10_even q_1804 (c_X10_even n M214 m (sc (i + 1).toNatClampNeg) (sc (i + 2).toNatClampNeg)) (by decide) rfl rfl rfl ⟨Nat.le_of_ble_eq_true rfl, Nat.le_of_ble_eq_true rfl⟩ ⟨(by first | omega | (simp only [room_1, NC]; omega)), (by first | omega | (simp only [room_1, NC]; omega))⟩ (Nat.le_of_ble_eq_true rfl) rfl rfl (fun r215 M216 => ?_)
  refine s_iceq (tgt := 2091) hX dL_law_1874 rfl ?_ ?_
  · refine s_iinc4 (v := i + 6) hX dL_law_2091 rfl (by first | exact trivial | exact rfl) (Nat.le_of_ble_eq_true rfl) ?_
    refine s_goto (tgt := 23) hX dL_law_2094 rfl ?_
    refine s_widen (ck1 := 160 + (j + 1) * 60) (sk1 := 64282 + (j + 1) * 3000) (by omega) (by omega) ?_
    exact s_back hB
  · refine s_iconst (v := 0) hX dL_law_1877 kc_0 ?_
    exact s_inr hI (s_lawret hX hR dL_law_1878 (by first | omega | (simp only [room_1, NC]; omega)) (by first | omega | (simp only [room_1, NC]; omega)))
def g_law_c40 (n L : Nat) (sc : Nat → Int32) (x m out : Nat) (M : MemT) (i : Int32) : Option ((MemT × Int32) ⊕ (Int32 × MemT)) :=
  (if (i + 1) < 0 ∨ L ≤ (i + 1).toNatClampNeg then none else chk M 7 x (bd (g_X9_worth n M x (sc (i + 1).toNatClampNeg)) (fun r218 M219 => (if (i + 1) < 0 ∨ L ≤ (i + 1).toNatClampNeg then none else chk M219 8 m (bd (g_X10_worth n M219 m (sc (i + 1).toNatClampNeg)) (fun r220 M221 => (if r218 = r220 then some (.inl (M221, i + 6)) else some (.inr ((0, M221))))))))))
set_option maxHeartbeats 4000000 in
set_option maxRecDepth 100000 in
theorem t_law_c40 {X : CxT} {A : Int32 × MemT → Prop} {B : (MemT × Int32) ⊕ (Int32 × MemT) → Prop} {j : Nat} (hj : j < 513) (n L : Nat) (sc : Nat → Int32) (x m out : Nat) (M : MemT) (i : Int32) (hX : CxOk X cL_law 7 RL room_1) (hl : (xl X).stackTraces = false) (hR : RetL X A) (hS : Scr X L sc) (hB : ∀ s1, B (.inl s1) → WW X 7 (160 + (j + 1) * 60) (64282 + (j + 1) * 3000) 23 (lawL x m out s1) [] (lawM s1)) (hI : ∀ u, B (.inr u) → A u) : Sim X 7 B (g_law_c40 n L sc x m out M i) (160 + j * 60) (64282 + j * 3000) 1879 [some (kv ((some 70))), some (.ref x), some (.ref m), some (.ref out), some (.int i), none, none] [] M := by
  unfold g_law_c40
  refine s_aload_n hX dL_law_1879 rfl ?_
  refine s_kloadK_n (r := (some 70)) hX dL_law_1880 rfl ?_
  refine s_iload hX dL_law_1881 rfl ?_
  refine s_iconst (v := 1) hX dL_law_1883 kc_1 ?_
  refine s_iadd hX dL_law_1884 ?_
  refine s_sld hX hS dL_law_1885 ?_
  refine s_callVi (ck1 := 160 + j * 60) (sk1 := 64282 + j * 3000) (ci := 7) hX dL_law_1886 k_X9_worth q_1103 (c_X9_worth n M x (sc (i + 1).toNatClampNeg)) (by decide) rfl rfl rfl ⟨Nat.le_of_ble_eq_true rfl, Nat.le_of_ble_eq_true rfl⟩ ⟨(by first | omega | (simp only [room_1, NC]; omega)), (by first | omega | (simp only [room_1, NC]; omega))⟩ (Nat.le_of_ble_eq_true rfl) rfl rfl (fun r218 M219 => ?_)
  refine s_aload_n hX dL_law_1889 rfl ?_
  refine s_kloadK_n (r := (some 70)) hX dL_law_1890 rfl ?_
  refine s_iload hX dL_law_1891 rfl ?_
  refine s_iconst (v := 1) hX dL_law_1893 kc_1 ?_
  refine s_iadd hX dL_law_1894 ?_
  refine s_sld hX hS dL_law_1895 ?_
  refine s_callVi (ck1 := 160 + j * 60) (sk1 := 64282 + j * 3000) (ci := 8) hX dL_law_1896 k_X10_worth q_1809 (c_X10_worth n M219 m (sc (i + 1).toNatClampNeg)) (by decide) rfl rfl rfl ⟨Nat.le_of_ble_eq_true rfl, Nat.le_of_ble_eq_true rfl⟩ ⟨(by first | omega | (simp only [room_1, NC]; omega)), (by first | omega | (simp only [room_1, NC]; omega))⟩ (Nat.le_of_ble_eq_true rfl) rfl rfl (fun r220 M221 => ?_)
  refine s_iceq (tgt := 2091) hX dL_law_1899 rfl ?_ ?_
  · refine s_iinc4 (v := i + 6) hX dL_law_2091 rfl (by first | exact trivial | exact rfl) (Nat.le_of_ble_eq_true rfl) ?_
    refine s_goto (tgt := 23) hX dL_law_2094 rfl ?_
    refine s_widen (ck1 := 160 + (j + 1) * 60) (sk1 := 64282 + (j + 1) * 3000) (by omega) (by omega) ?_
    exact s_back hB
  · refine s_iconst (v := 0) hX dL_law_1902 kc_0 ?_
    exact s_inr hI (s_lawret hX hR dL_law_1903 (by first | omega | (simp only [room_1, NC]; omega)) (by first | omega | (simp only [room_1, NC]; omega)))
def g_law_c41 (n L : Nat) (sc : Nat → Int32) (x m out : Nat) (M : MemT) (i : Int32) : Option ((MemT × Int32) ⊕ (Int32 × MemT)) :=
  (if (i + 1) < 0 ∨ L ≤ (i + 1).toNatClampNeg then none else (if (i + 2) < 0 ∨ L ≤ (i + 2).toNatClampNeg then none else (if (i + 3) < 0 ∨ L ≤ (i + 3).toNatClampNeg then none else chk M 7 x (bd (g_X9_tried n M x (sc (i + 1).toNatClampNeg) (sc (i + 2).toNatClampNeg) (sc (i + 3).toNatClampNeg)) (fun r223 M224 => (if (i + 1) < 0 ∨ L ≤ (i + 1).toNatClampNeg then none else (if (i + 2) < 0 ∨ L ≤ (i + 2).toNatClampNeg then none else (if (i + 3) < 0 ∨ L ≤ (i + 3).toNatClampNeg then none else chk M224 8 m (bd (g_X10_tried n M224 m (sc (i + 1).toNatClampNeg) (sc (i + 2).toNatClampNeg) (sc (i + 3).toNatClampNeg)) (fun r225 M226 => (if r223 = r225 then some (.inl (M226, i + 6)) else some (.inr ((0, M226))))))))))))))
set_option maxHeartbeats 4000000 in
set_option maxRecDepth 100000 in
theorem t_law_c41 {X : CxT} {A : Int32 × MemT → Prop} {B : (MemT × Int32) ⊕ (Int32 × MemT) → Prop} {j : Nat} (hj : j < 513) (n L : Nat) (sc : Nat → Int32) (x m out : Nat) (M : MemT) (i : Int32) (hX : CxOk X cL_law 7 RL room_1) (hl : (xl X).stackTraces = false) (hR : RetL X A) (hS : Scr X L sc) (hB : ∀ s1, B (.inl s1) → WW X 7 (160 + (j + 1) * 60) (64282 + (j + 1) * 3000) 23 (lawL x m out s1) [] (lawM s1)) (hI : ∀ u, B (.inr u) → A u) : Sim X 7 B (g_law_c41 n L sc x m out M i) (160 + j * 60) (64282 + j * 3000) 1904 [some (kv ((some 70))), some (.ref x), some (.ref m), some (.ref out), some (.int i), none, none] [] M := by
  unfold g_law_c41
  refine s_aload_n hX dL_law_1904 rfl ?_
  refine s_kloadK_n (r := (some 70)) hX dL_law_1905 rfl ?_
  refine s_iload hX dL_law_1906 rfl ?_
  refine s_iconst (v := 1) hX dL_law_1908 kc_1 ?_
  refine s_iadd hX dL_law_1909 ?_
  refine s_sld hX hS dL_law_1910 ?_
  refine s_kloadK_n (r := (some 70)) hX dL_law_1911 rfl ?_
  refine s_iload hX dL_law_1912 rfl ?_
  refine s_iconst (v := 2) hX dL_law_1914 kc_2 ?_
  refine s_iadd hX dL_law_1915 ?_
  refine s_sld hX hS dL_law_1916 ?_
  refine s_kloadK_n (r := (some 70)) hX dL_law_1917 rfl ?_
  refine s_iload hX dL_law_1918 rfl ?_
  refine s_iconst (v := 3) hX dL_law_1920 kc_3 ?_
  refine s_iadd hX dL_law_1921 ?_
  refine s_sld hX hS dL_law_1922 ?_
  refine s_callVi (ck1 := 160 + j * 60) (sk1 := 64282 + j * 3000) (ci := 7) hX dL_law_1923 k_X9_tried q_1107 (c_X9_tried n M x (sc (i + 1).toNatClampNeg) (sc (i + 2).toNatClampNeg) (sc (i + 3).toNatClampNeg)) (by decide) rfl rfl rfl ⟨Nat.le_of_ble_eq_true rfl, Nat.le_of_ble_eq_true rfl⟩ ⟨(by first | omega | (simp only [room_1, NC]; omega)), (by first | omega | (simp only [room_1, NC]; omega))⟩ (Nat.le_of_ble_eq_true rfl) rfl rfl (fun r223 M224 => ?_)
  refine s_aload_n hX dL_law_1926 rfl ?_
  refine s_kloadK_n (r := (some 70)) hX dL_law_1927 rfl ?_
  refine s_iload hX dL_law_1928 rfl ?_
  refine s_iconst (v := 1) hX dL_law_1930 kc_1 ?_
  refine s_iadd hX dL_law_1931 ?_
  refine s_sld hX hS dL_law_1932 ?_
  refine s_kloadK_n (r := (some 70)) hX dL_law_1933 rfl ?_
  refine s_iload hX dL_law_1934 rfl ?_
  refine s_iconst (v := 2) hX dL_law_1936 kc_2 ?_
  refine s_iadd hX dL_law_1937 ?_
  refine s_sld hX hS dL_law_1938 ?_
  refine s_kloadK_n (r := (some 70)) hX dL_law_1939 rfl ?_
  refine s_iload hX dL_law_1940 rfl ?_
  refine s_iconst (v := 3) hX dL_law_1942 kc_3 ?_
  refine s_iadd hX dL_law_1943 ?_
  refine s_sld hX hS dL_law_1944 ?_
  refine s_callVi (ck1 := 160 + j * 60) (sk1 := 64282 + j * 3000) (ci := 8) hX dL_law_1945 k_X10_tried q_1813 (c_X10_tried n M224 m (sc (i + 1).toNatClampNeg) (sc (i + 2).toNatClampNeg) (sc (i + 3).toNatClampNeg)) (by decide) rfl rfl rfl ⟨Nat.le_of_ble_eq_true rfl, Nat.le_of_ble_eq_true rfl⟩ ⟨(by first | omega | (simp only [room_1, NC]; omega)), (by first | omega | (simp only [room_1, NC]; omega))⟩ (Nat.le_of_ble_eq_true rfl) rfl rfl (fun r225 M226 => ?_)
  refine s_iceq (tgt := 2091) hX dL_law_1948 rfl ?_ ?_
  · refine s_iinc4 (v := i + 6) hX dL_law_2091 rfl (by first | exact trivial | exact rfl) (Nat.le_of_ble_eq_true rfl) ?_
    refine s_goto (tgt := 23) hX dL_law_2094 rfl ?_
    refine s_widen (ck1 := 160 + (j + 1) * 60) (sk1 := 64282 + (j + 1) * 3000) (by omega) (by omega) ?_
    exact s_back hB
  · refine s_iconst (v := 0) hX dL_law_1951 kc_0 ?_
    exact s_inr hI (s_lawret hX hR dL_law_1952 (by first | omega | (simp only [room_1, NC]; omega)) (by first | omega | (simp only [room_1, NC]; omega)))
def g_law_c42 (n L : Nat) (sc : Nat → Int32) (x m out : Nat) (M : MemT) (i : Int32) : Option ((MemT × Int32) ⊕ (Int32 × MemT)) :=
  (if (i + 1) < 0 ∨ L ≤ (i + 1).toNatClampNeg then none else (if (i + 2) < 0 ∨ L ≤ (i + 2).toNatClampNeg then none else (if (i + 3) < 0 ∨ L ≤ (i + 3).toNatClampNeg then none else chk M 7 x (bd (g_X9_chance n M x (sc (i + 1).toNatClampNeg) (sc (i + 2).toNatClampNeg) (sc (i + 3).toNatClampNeg)) (fun r228 M229 => (if (i + 1) < 0 ∨ L ≤ (i + 1).toNatClampNeg then none else (if (i + 2) < 0 ∨ L ≤ (i + 2).toNatClampNeg then none else (if (i + 3) < 0 ∨ L ≤ (i + 3).toNatClampNeg then none else chk M229 8 m (bd (g_X10_chance n M229 m (sc (i + 1).toNatClampNeg) (sc (i + 2).toNatClampNeg) (sc (i + 3).toNatClampNeg)) (fun r230 M231 => (if r228 = r230 then some (.inl (M231, i + 6)) else some (.inr ((0, M231))))))))))))))
set_option maxHeartbeats 4000000 in
set_option maxRecDepth 100000 in
theorem t_law_c42 {X : CxT} {A : Int32 × MemT → Prop} {B : (MemT × Int32) ⊕ (Int32 × MemT) → Prop} {j : Nat} (hj : j < 513) (n L : Nat) (sc : Nat → Int32) (x m out : Nat) (M : MemT) (i : Int32) (hX : CxOk X cL_law 7 RL room_1) (hl : (xl X).stackTraces = false) (hR : RetL X A) (hS : Scr X L sc) (hB : ∀ s1, B (.inl s1) → WW X 7 (160 + (j + 1) * 60) (64282 + (j + 1) * 3000) 23 (lawL x m out s1) [] (lawM s1)) (hI : ∀ u, B (.inr u) → A u) : Sim X 7 B (g_law_c42 n L sc x m out M i) (160 + j * 60) (64282 + j * 3000) 1953 [some (kv ((some 70))), some (.ref x), some (.ref m), some (.ref out), some (.int i), none, none] [] M := by
  unfold g_law_c42
  refine s_aload_n hX dL_law_1953 rfl ?_
  refine s_kloadK_n (r := (some 70)) hX dL_law_1954 rfl ?_
  refine s_iload hX dL_law_1955 rfl ?_
  refine s_iconst (v := 1) hX dL_law_1957 kc_1 ?_
  refine s_iadd hX dL_law_1958 ?_
  refine s_sld hX hS dL_law_1959 ?_
  refine s_kloadK_n (r := (some 70)) hX dL_law_1960 rfl ?_
  refine s_iload hX dL_law_1961 rfl ?_
  refine s_iconst (v := 2) hX dL_law_1963 kc_2 ?_
  refine s_iadd hX dL_law_1964 ?_
  refine s_sld hX hS dL_law_1965 ?_
  refine s_kloadK_n (r := (some 70)) hX dL_law_1966 rfl ?_
  refine s_iload hX dL_law_1967 rfl ?_
  refine s_iconst (v := 3) hX dL_law_1969 kc_3 ?_
  refine s_iadd hX dL_law_1970 ?_
  refine s_sld hX hS dL_law_1971 ?_
  refine s_callVi (ck1 := 160 + j * 60) (sk1 := 64282 + j * 3000) (ci := 7) hX dL_law_1972 k_X9_chance q_1116 (c_X9_chance n M x (sc (i + 1).toNatClampNeg) (sc (i + 2).toNatClampNeg) (sc (i + 3).toNatClampNeg)) (by decide) rfl rfl rfl ⟨Nat.le_of_ble_eq_true rfl, Nat.le_of_ble_eq_true rfl⟩ ⟨(by first | omega | (simp only [room_1, NC]; omega)), (by first | omega | (simp only [room_1, NC]; omega))⟩ (Nat.le_of_ble_eq_true rfl) rfl rfl (fun r228 M229 => ?_)
  refine s_aload_n hX dL_law_1975 rfl ?_
  refine s_kloadK_n (r := (some 70)) hX dL_law_1976 rfl ?_
  refine s_iload hX dL_law_1977 rfl ?_
  refine s_iconst (v := 1) hX dL_law_1979 kc_1 ?_
  refine s_iadd hX dL_law_1980 ?_
  refine s_sld hX hS dL_law_1981 ?_
  refine s_kloadK_n (r := (some 70)) hX dL_law_1982 rfl ?_
  refine s_iload hX dL_law_1983 rfl ?_
  refine s_iconst (v := 2) hX dL_law_1985 kc_2 ?_
  refine s_iadd hX dL_law_1986 ?_
  refine s_sld hX hS dL_law_1987 ?_
  refine s_kloadK_n (r := (some 70)) hX dL_law_1988 rfl ?_
  refine s_iload hX dL_law_1989 rfl ?_
  refine s_iconst (v := 3) hX dL_law_1991 kc_3 ?_
  refine s_iadd hX dL_law_1992 ?_
  refine s_sld hX hS dL_law_1993 ?_
  refine s_callVi (ck1 := 160 + j * 60) (sk1 := 64282 + j * 3000) (ci := 8) hX dL_law_1994 k_X10_chance q_1821 (c_X10_chance n M229 m (sc (i + 1).toNatClampNeg) (sc (i + 2).toNatClampNeg) (sc (i + 3).toNatClampNeg)) (by decide) rfl rfl rfl ⟨Nat.le_of_ble_eq_true rfl, Nat.le_of_ble_eq_true rfl⟩ ⟨(by first | omega | (simp only [room_1, NC]; omega)), (by first | omega | (simp only [room_1, NC]; omega))⟩ (Nat.le_of_ble_eq_true rfl) rfl rfl (fun r230 M231 => ?_)
  refine s_iceq (tgt := 2091) hX dL_law_1997 rfl ?_ ?_
  · refine s_iinc4 (v := i + 6) hX dL_law_2091 rfl (by first | exact trivial | exact rfl) (Nat.le_of_ble_eq_true rfl) ?_
    refine s_goto (tgt := 23) hX dL_law_2094 rfl ?_
    refine s_widen (ck1 := 160 + (j + 1) * 60) (sk1 := 64282 + (j + 1) * 3000) (by omega) (by omega) ?_
    exact s_back hB
  · refine s_iconst (v := 0) hX dL_law_2000 kc_0 ?_
    exact s_inr hI (s_lawret hX hR dL_law_2001 (by first | omega | (simp only [room_1, NC]; omega)) (by first | omega | (simp only [room_1, NC]; omega)))
def g_law_c43 (n L : Nat) (sc : Nat → Int32) (x m out : Nat) (M : MemT) (i : Int32) : Option ((MemT × Int32) ⊕ (Int32 × MemT)) :=
  (if (i + 1) < 0 ∨ L ≤ (i + 1).toNatClampNeg then none else chk M 7 x (bd (g_X9_farthest n M x (sc (i + 1).toNatClampNeg)) (fun r233 M234 => (if (i + 1) < 0 ∨ L ≤ (i + 1).toNatClampNeg then none else chk M234 8 m (bd (g_X10_farthest n M234 m (sc (i + 1).toNatClampNeg)) (fun r235 M236 => (if r233 = r235 then some (.inl (M236, i + 6)) else some (.inr ((0, M236))))))))))
set_option maxHeartbeats 4000000 in
set_option maxRecDepth 100000 in
theorem t_law_c43 {X : CxT} {A : Int32 × MemT → Prop} {B : (MemT × Int32) ⊕ (Int32 × MemT) → Prop} {j : Nat} (hj : j < 513) (n L : Nat) (sc : Nat → Int32) (x m out : Nat) (M : MemT) (i : Int32) (hX : CxOk X cL_law 7 RL room_1) (hl : (xl X).stackTraces = false) (hR : RetL X A) (hS : Scr X L sc) (hB : ∀ s1, B (.inl s1) → WW X 7 (160 + (j + 1) * 60) (64282 + (j + 1) * 3000) 23 (lawL x m out s1) [] (lawM s1)) (hI : ∀ u, B (.inr u) → A u) : Sim X 7 B (g_law_c43 n L sc x m out M i) (160 + j * 60) (64282 + j * 3000) 2002 [some (kv ((some 70))), some (.ref x), some (.ref m), some (.ref out), some (.int i), none, none] [] M := by
  unfold g_law_c43
  refine s_aload_n hX dL_law_2002 rfl ?_
  refine s_kloadK_n (r := (some 70)) hX dL_law_2003 rfl ?_
  refine s_iload hX dL_law_2004 rfl ?_
  refine s_iconst (v := 1) hX dL_law_2006 kc_1 ?_
  refine s_iadd hX dL_law_2007 ?_
  refine s_sld hX hS dL_law_2008 ?_
  refine s_callVi (ck1 := 160 + j * 60) (sk1 := 64282 + j * 3000) (ci := 7) hX dL_law_2009 k_X9_farthest q_1127 (c_X9_farthest n M x (sc (i + 1).toNatClampNeg)) (by decide) rfl rfl rfl ⟨Nat.le_of_ble_eq_true rfl, Nat.le_of_ble_eq_true rfl⟩ ⟨(by first | omega | (simp only [room_1, NC]; omega)), (by first | omega | (simp only [room_1, NC]; omega))⟩ (Nat.le_of_ble_eq_true rfl) rfl rfl (fun r233 M234 => ?_)
  refine s_aload_n hX dL_law_2012 rfl ?_
  refine s_kloadK_n (r := (some 70)) hX dL_law_2013 rfl ?_
  refine s_iload hX dL_law_2014 rfl ?_
  refine s_iconst (v := 1) hX dL_law_2016 kc_1 ?_
  refine s_iadd hX dL_law_2017 ?_
  refine s_sld hX hS dL_law_2018 ?_
  refine s_callVi (ck1 := 160 + j * 60) (sk1 := 64282 + j * 3000) (ci := 8) hX dL_law_2019 k_X10_farthest q_1837 (c_X10_farthest n M234 m (sc (i + 1).toNatClampNeg)) (by decide) rfl rfl rfl ⟨Nat.le_of_ble_eq_true rfl, Nat.le_of_ble_eq_true rfl⟩ ⟨(by first | omega | (simp only [room_1, NC]; omega)), (by first | omega | (simp only [room_1, NC]; omega))⟩ (Nat.le_of_ble_eq_true rfl) rfl rfl (fun r235 M236 => ?_)
  refine s_iceq (tgt := 2091) hX dL_law_2022 rfl ?_ ?_
  · refine s_iinc4 (v := i + 6) hX dL_law_2091 rfl (by first | exact trivial | exact rfl) (Nat.le_of_ble_eq_true rfl) ?_
    refine s_goto (tgt := 23) hX dL_law_2094 rfl ?_
    refine s_widen (ck1 := 160 + (j + 1) * 60) (sk1 := 64282 + (j + 1) * 3000) (by omega) (by omega) ?_
    exact s_back hB
  · refine s_iconst (v := 0) hX dL_law_2025 kc_0 ?_
    exact s_inr hI (s_lawret hX hR dL_law_2026 (by first | omega | (simp only [room_1, NC]; omega)) (by first | omega | (simp only [room_1, NC]; omega)))
def g_law_c44 (n L : Nat) (sc : Nat → Int32) (x m out : Nat) (M : MemT) (i : Int32) : Option ((MemT × Int32) ⊕ (Int32 × MemT)) :=
  chk M 7 x (bd (g_X9_undo n M x) (fun r238 M239 => chk M239 8 m (bd (g_X10_undo n M239 m) (fun r240 M241 => (if r238 = r240 then some (.inl (M241, i + 6)) else some (.inr ((0, M241))))))))
set_option maxHeartbeats 4000000 in
set_option maxRecDepth 100000 in
theorem t_law_c44 {X : CxT} {A : Int32 × MemT → Prop} {B : (MemT × Int32) ⊕ (Int32 × MemT) → Prop} {j : Nat} (hj : j < 513) (n L : Nat) (sc : Nat → Int32) (x m out : Nat) (M : MemT) (i : Int32) (hX : CxOk X cL_law 7 RL room_1) (hl : (xl X).stackTraces = false) (hR : RetL X A) (hS : Scr X L sc) (hB : ∀ s1, B (.inl s1) → WW X 7 (160 + (j + 1) * 60) (64282 + (j + 1) * 3000) 23 (lawL x m out s1) [] (lawM s1)) (hI : ∀ u, B (.inr u) → A u) : Sim X 7 B (g_law_c44 n L sc x m out M i) (160 + j * 60) (64282 + j * 3000) 2027 [some (kv ((some 70))), some (.ref x), some (.ref m), some (.ref out), some (.int i), none, none] [] M := by
  unfold g_law_c44
  refine s_aload_n hX dL_law_2027 rfl ?_
  refine s_callVi (ck1 := 160 + j * 60) (sk1 := 64282 + j * 3000) (ci := 7) hX dL_law_2028 k_X9_undo q_1134 (c_X9_undo n M x) (by decide) rfl rfl rfl ⟨Nat.le_of_ble_eq_true rfl, Nat.le_of_ble_eq_true rfl⟩ ⟨(by first | omega | (simp only [room_1, NC]; omega)), (by first | omega | (simp only [room_1, NC]; omega))⟩ (Nat.le_of_ble_eq_true rfl) rfl rfl (fun r238 M239 => ?_)
  refine s_aload_n hX dL_law_2031 rfl ?_
  refine s_callVi (ck1 := 160 + j * 60) (sk1 := 64282 + j * 3000) (ci := 8) hX dL_law_2032 k_X10_undo q_1490 (c_X10_undo n M239 m) (by decide) rfl rfl rfl ⟨Nat.le_of_ble_eq_true rfl, Nat.le_of_ble_eq_true rfl⟩ ⟨(by first | omega | (simp only [room_1, NC]; omega)), (by first | omega | (simp only [room_1, NC]; omega))⟩ (Nat.le_of_ble_eq_true rfl) rfl rfl (fun r240 M241 => ?_)
  refine s_iceq (tgt := 2091) hX dL_law_2035 rfl ?_ ?_
  · refine s_iinc4 (v := i + 6) hX dL_law_2091 rfl (by first | exact trivial | exact rfl) (Nat.le_of_ble_eq_true rfl) ?_
    refine s_goto (tgt := 23) hX dL_law_2094 rfl ?_
    refine s_widen (ck1 := 160 + (j + 1) * 60) (sk1 := 64282 + (j + 1) * 3000) (by omega) (by omega) ?_
    exact s_back hB
  · refine s_iconst (v := 0) hX dL_law_2038 kc_0 ?_
    exact s_inr hI (s_lawret hX hR dL_law_2039 (by first | omega | (simp only [room_1, NC]; omega)) (by first | omega | (simp only [room_1, NC]; omega)))
def g_law_c45 (n L : Nat) (sc : Nat → Int32) (x m out : Nat) (M : MemT) (i : Int32) : Option ((MemT × Int32) ⊕ (Int32 × MemT)) :=
  chk M 7 x (bd (g_X9_keep n M x) (fun r243 M244 => chk M244 8 m (bd (g_X10_keep n M244 m) (fun r245 M246 => (if r243 = r245 then some (.inl (M246, i + 6)) else some (.inr ((0, M246))))))))
set_option maxHeartbeats 4000000 in
set_option maxRecDepth 100000 in
theorem t_law_c45 {X : CxT} {A : Int32 × MemT → Prop} {B : (MemT × Int32) ⊕ (Int32 × MemT) → Prop} {j : Nat} (hj : j < 513) (n L : Nat) (sc : Nat → Int32) (x m out : Nat) (M : MemT) (i : Int32) (hX : CxOk X cL_law 7 RL room_1) (hl : (xl X).stackTraces = false) (hR : RetL X A) (hS : Scr X L sc) (hB : ∀ s1, B (.inl s1) → WW X 7 (160 + (j + 1) * 60) (64282 + (j + 1) * 3000) 23 (lawL x m out s1) [] (lawM s1)) (hI : ∀ u, B (.inr u) → A u) : Sim X 7 B (g_law_c45 n L sc x m out M i) (160 + j * 60) (64282 + j * 3000) 2040 [some (kv ((some 70))), some (.ref x), some (.ref m), some (.ref out), some (.int i), none, none] [] M := by
  unfold g_law_c45
  refine s_aload_n hX dL_law_2040 rfl ?_
  refine s_callVi (ck1 := 160 + j * 60 + 55) (sk1 := 64282 + j * 3000 + 2577) (ci := 7) hX dL_law_2041 k_X9_keep q_1142 (c_X9_keep n M x) (by decide) rfl rfl rfl ⟨Nat.le_of_ble_eq_true rfl, Nat.le_of_ble_eq_true rfl⟩ ⟨(by first | omega | (simp only [room_1, NC]; omega)), (by first | omega | (simp only [room_1, NC]; omega))⟩ (Nat.le_of_ble_eq_true rfl) rfl rfl (fun r243 M244 => ?_)
  refine s_aload_n hX dL_law_2044 rfl ?_
  refine s_callVi (ck1 := 160 + j * 60 + 55) (sk1 := 64282 + j * 3000 + 2577) (ci := 8) hX dL_law_2045 k_X10_keep q_1498 (c_X10_keep n M244 m) (by decide) rfl rfl rfl ⟨Nat.le_of_ble_eq_true rfl, Nat.le_of_ble_eq_true rfl⟩ ⟨(by first | omega | (simp only [room_1, NC]; omega)), (by first | omega | (simp only [room_1, NC]; omega))⟩ (Nat.le_of_ble_eq_true rfl) rfl rfl (fun r245 M246 => ?_)
  refine s_iceq (tgt := 2091) hX dL_law_2048 rfl ?_ ?_
  · refine s_iinc4 (v := i + 6) hX dL_law_2091 rfl (by first | exact trivial | exact rfl) (Nat.le_of_ble_eq_true rfl) ?_
    refine s_goto (tgt := 23) hX dL_law_2094 rfl ?_
    refine s_widen (ck1 := 160 + (j + 1) * 60) (sk1 := 64282 + (j + 1) * 3000) (by omega) (by omega) ?_
    exact s_back hB
  · refine s_iconst (v := 0) hX dL_law_2051 kc_0 ?_
    exact s_inr hI (s_lawret hX hR dL_law_2052 (by first | omega | (simp only [room_1, NC]; omega)) (by first | omega | (simp only [room_1, NC]; omega)))
def g_law_c46 (n L : Nat) (sc : Nat → Int32) (x m out : Nat) (M : MemT) (i : Int32) : Option ((MemT × Int32) ⊕ (Int32 × MemT)) :=
  chk M 7 x (bd (g_X9_back n M x) (fun r248 M249 => chk M249 8 m (bd (g_X10_back n M249 m) (fun r250 M251 => (if r248 = r250 then some (.inl (M251, i + 6)) else some (.inr ((0, M251))))))))
set_option maxHeartbeats 4000000 in
set_option maxRecDepth 100000 in
theorem t_law_c46 {X : CxT} {A : Int32 × MemT → Prop} {B : (MemT × Int32) ⊕ (Int32 × MemT) → Prop} {j : Nat} (hj : j < 513) (n L : Nat) (sc : Nat → Int32) (x m out : Nat) (M : MemT) (i : Int32) (hX : CxOk X cL_law 7 RL room_1) (hl : (xl X).stackTraces = false) (hR : RetL X A) (hS : Scr X L sc) (hB : ∀ s1, B (.inl s1) → WW X 7 (160 + (j + 1) * 60) (64282 + (j + 1) * 3000) 23 (lawL x m out s1) [] (lawM s1)) (hI : ∀ u, B (.inr u) → A u) : Sim X 7 B (g_law_c46 n L sc x m out M i) (160 + j * 60) (64282 + j * 3000) 2053 [some (kv ((some 70))), some (.ref x), some (.ref m), some (.ref out), some (.int i), none, none] [] M := by
  unfold g_law_c46
  refine s_aload_n hX dL_law_2053 rfl ?_
  refine s_callVi (ck1 := 160 + j * 60) (sk1 := 64282 + j * 3000) (ci := 7) hX dL_law_2054 k_X9_back q_1149 (c_X9_back n M x) (by decide) rfl rfl rfl ⟨Nat.le_of_ble_eq_true rfl, Nat.le_of_ble_eq_true rfl⟩ ⟨(by first | omega | (simp only [room_1, NC]; omega)), (by first | omega | (simp only [room_1, NC]; omega))⟩ (Nat.le_of_ble_eq_true rfl) rfl rfl (fun r248 M249 => ?_)
  refine s_aload_n hX dL_law_2057 rfl ?_
  refine s_callVi (ck1 := 160 + j * 60) (sk1 := 64282 + j * 3000) (ci := 8) hX dL_law_2058 k_X10_back q_1502 (c_X10_back n M249 m) (by decide) rfl rfl rfl ⟨Nat.le_of_ble_eq_true rfl, Nat.le_of_ble_eq_true rfl⟩ ⟨(by first | omega | (simp only [room_1, NC]; omega)), (by first | omega | (simp only [room_1, NC]; omega))⟩ (Nat.le_of_ble_eq_true rfl) rfl rfl (fun r250 M251 => ?_)
  refine s_iceq (tgt := 2091) hX dL_law_2061 rfl ?_ ?_
  · refine s_iinc4 (v := i + 6) hX dL_law_2091 rfl (by first | exact trivial | exact rfl) (Nat.le_of_ble_eq_true rfl) ?_
    refine s_goto (tgt := 23) hX dL_law_2094 rfl ?_
    refine s_widen (ck1 := 160 + (j + 1) * 60) (sk1 := 64282 + (j + 1) * 3000) (by omega) (by omega) ?_
    exact s_back hB
  · refine s_iconst (v := 0) hX dL_law_2064 kc_0 ?_
    exact s_inr hI (s_lawret hX hR dL_law_2065 (by first | omega | (simp only [room_1, NC]; omega)) (by first | omega | (simp only [room_1, NC]; omega)))
def g_law_c47 (n L : Nat) (sc : Nat → Int32) (x m out : Nat) (M : MemT) (i : Int32) : Option ((MemT × Int32) ⊕ (Int32 × MemT)) :=
  (if (i + 1) < 0 ∨ L ≤ (i + 1).toNatClampNeg then none else chk M 7 x (bd (g_X9_count n M x (sc (i + 1).toNatClampNeg)) (fun r253 M254 => (if (i + 1) < 0 ∨ L ≤ (i + 1).toNatClampNeg then none else chk M254 8 m (bd (g_X10_count n M254 m (sc (i + 1).toNatClampNeg)) (fun r255 M256 => (if r253 = r255 then some (.inl (M256, i + 6)) else some (.inr ((0, M256))))))))))
set_option maxHeartbeats 4000000 in
set_option maxRecDepth 100000 in
theorem t_law_c47 {X : CxT} {A : Int32 × MemT → Prop} {B : (MemT × Int32) ⊕ (Int32 × MemT) → Prop} {j : Nat} (hj : j < 513) (n L : Nat) (sc : Nat → Int32) (x m out : Nat) (M : MemT) (i : Int32) (hX : CxOk X cL_law 7 RL room_1) (hl : (xl X).stackTraces = false) (hR : RetL X A) (hS : Scr X L sc) (hB : ∀ s1, B (.inl s1) → WW X 7 (160 + (j + 1) * 60) (64282 + (j + 1) * 3000) 23 (lawL x m out s1) [] (lawM s1)) (hI : ∀ u, B (.inr u) → A u) : Sim X 7 B (g_law_c47 n L sc x m out M i) (160 + j * 60) (64282 + j * 3000) 2066 [some (kv ((some 70))), some (.ref x), some (.ref m), some (.ref out), some (.int i), none, none] [] M := by
  unfold g_law_c47
  refine s_aload_n hX dL_law_2066 rfl ?_
  refine s_kloadK_n (r := (some 70)) hX dL_law_2067 rfl ?_
  refine s_iload hX dL_law_2068 rfl ?_
  refine s_iconst (v := 1) hX dL_law_2070 kc_1 ?_
  refine s_iadd hX dL_law_2071 ?_
  refine s_sld hX hS dL_law_2072 ?_
  refine s_callVi (ck1 := 160 + j * 60) (sk1 := 64282 + j * 3000) (ci := 7) hX dL_law_2073 k_X9_count q_1153 (c_X9_count n M x (sc (i + 1).toNatClampNeg)) (by decide) rfl rfl rfl ⟨Nat.le_of_ble_eq_true rfl, Nat.le_of_ble_eq_true rfl⟩ ⟨(by first | omega | (simp only [room_1, NC]; omega)), (by first | omega | (simp only [room_1, NC]; omega))⟩ (Nat.le_of_ble_eq_true rfl) rfl rfl (fun r253 M254 => ?_)
  refine s_aload_n hX dL_law_2076 rfl ?_
  refine s_kloadK_n (r := (some 70)) hX dL_law_2077 rfl ?_
  refine s_iload hX dL_law_2078 rfl ?_
  refine s_iconst (v := 1) hX dL_law_2080 kc_1 ?_
  refine s_iadd hX dL_law_2081 ?_
  refine s_sld hX hS dL_law_2082 ?_
  refine s_callVi (ck1 := 160 + j * 60) (sk1 := 64282 + j * 3000) (ci := 8) hX dL_law_2083 k_X10_count q_1841 (c_X10_count n M254 m (sc (i + 1).toNatClampNeg)) (by decide) rfl rfl rfl ⟨Nat.le_of_ble_eq_true rfl, Nat.le_of_ble_eq_true rfl⟩ ⟨(by first | omega | (simp only [room_1, NC]; omega)), (by first | omega | (simp only [room_1, NC]; omega))⟩ (Nat.le_of_ble_eq_true rfl) rfl rfl (fun r255 M256 => ?_)
  refine s_iceq (tgt := 2091) hX dL_law_2086 rfl ?_ ?_
  · refine s_iinc4 (v := i + 6) hX dL_law_2091 rfl (by first | exact trivial | exact rfl) (Nat.le_of_ble_eq_true rfl) ?_
    refine s_goto (tgt := 23) hX dL_law_2094 rfl ?_
    refine s_widen (ck1 := 160 + (j + 1) * 60) (sk1 := 64282 + (j + 1) * 3000) (by omega) (by omega) ?_
    exact s_back hB
  · refine s_iconst (v := 0) hX dL_law_2089 kc_0 ?_
    exact s_inr hI (s_lawret hX hR dL_law_2090 (by first | omega | (simp only [room_1, NC]; omega)) (by first | omega | (simp only [room_1, NC]; omega)))
def g_L_law (n L : Nat) (sc : Nat → Int32) (M0 : MemT) : Option (Int32 × MemT) :=
  nwO M0 7 (fun j1 M2 => bd (g_X9_init n M2 j1) (fun r3 M4 => nwO M4 8 (fun j5 M6 => bd (g_X10_init n M6 j5) (fun r7 M8 => nwA M8 13 1 (fun j9 M10 => loopF (fun (s : MemT × Int32) => (fun (M11 : MemT) (v12 : Int32) => (if (((nI L)) - 6) < v12 then some (.inr ((1, M11))) else (if v12 < 0 ∨ L ≤ v12.toNatClampNeg then none else (if ((sc v12.toNatClampNeg) &&& 63) = 0 then g_law_c0 n L sc j1 j5 j9 M11 v12 else (if ((sc v12.toNatClampNeg) &&& 63) = 1 then g_law_c1 n L sc j1 j5 j9 M11 v12 else (if ((sc v12.toNatClampNeg) &&& 63) = 2 then g_law_c2 n L sc j1 j5 j9 M11 v12 else (if ((sc v12.toNatClampNeg) &&& 63) = 3 then g_law_c3 n L sc j1 j5 j9 M11 v12 else (if ((sc v12.toNatClampNeg) &&& 63) = 4 then g_law_c4 n L sc j1 j5 j9 M11 v12 else (if ((sc v12.toNatClampNeg) &&& 63) = 5 then g_law_c5 n L sc j1 j5 j9 M11 v12 else (if ((sc v12.toNatClampNeg) &&& 63) = 6 then g_law_c6 n L sc j1 j5 j9 M11 v12 else (if ((sc v12.toNatClampNeg) &&& 63) = 7 then g_law_c7 n L sc j1 j5 j9 M11 v12 else (if ((sc v12.toNatClampNeg) &&& 63) = 8 then g_law_c8 n L sc j1 j5 j9 M11 v12 else (if ((sc v12.toNatClampNeg) &&& 63) = 9 then g_law_c9 n L sc j1 j5 j9 M11 v12 else (if ((sc v12.toNatClampNeg) &&& 63) = 10 then g_law_c10 n L sc j1 j5 j9 M11 v12 else (if ((sc v12.toNatClampNeg) &&& 63) = 11 then g_law_c11 n L sc j1 j5 j9 M11 v12 else (if ((sc v12.toNatClampNeg) &&& 63) = 12 then g_law_c12 n L sc j1 j5 j9 M11 v12 else (if ((sc v12.toNatClampNeg) &&& 63) = 13 then g_law_c13 n L sc j1 j5 j9 M11 v12 else (if ((sc v12.toNatClampNeg) &&& 63) = 14 then g_law_c14 n L sc j1 j5 j9 M11 v12 else (if ((sc v12.toNatClampNeg) &&& 63) = 15 then g_law_c15 n L sc j1 j5 j9 M11 v12 else (if ((sc v12.toNatClampNeg) &&& 63) = 16 then g_law_c16 n L sc j1 j5 j9 M11 v12 else (if ((sc v12.toNatClampNeg) &&& 63) = 17 then g_law_c17 n L sc j1 j5 j9 M11 v12 else (if ((sc v12.toNatClampNeg) &&& 63) = 18 then g_law_c18 n L sc j1 j5 j9 M11 v12 else (if ((sc v12.toNatClampNeg) &&& 63) = 19 then g_law_c19 n L sc j1 j5 j9 M11 v12 else (if ((sc v12.toNatClampNeg) &&& 63) = 20 then g_law_c20 n L sc j1 j5 j9 M11 v12 else (if ((sc v12.toNatClampNeg) &&& 63) = 21 then g_law_c21 n L sc j1 j5 j9 M11 v12 else (if ((sc v12.toNatClampNeg) &&& 63) = 22 then g_law_c22 n L sc j1 j5 j9 M11 v12 else (if ((sc v12.toNatClampNeg) &&& 63) = 23 then g_law_c23 n L sc j1 j5 j9 M11 v12 else (if ((sc v12.toNatClampNeg) &&& 63) = 24 then g_law_c24 n L sc j1 j5 j9 M11 v12 else (if ((sc v12.toNatClampNeg) &&& 63) = 25 then g_law_c25 n L sc j1 j5 j9 M11 v12 else (if ((sc v12.toNatClampNeg) &&& 63) = 26 then g_law_c26 n L sc j1 j5 j9 M11 v12 else (if ((sc v12.toNatClampNeg) &&& 63) = 27 then g_law_c27 n L sc j1 j5 j9 M11 v12 else (if ((sc v12.toNatClampNeg) &&& 63) = 28 then g_law_c28 n L sc j1 j5 j9 M11 v12 else (if ((sc v12.toNatClampNeg) &&& 63) = 29 then g_law_c29 n L sc j1 j5 j9 M11 v12 else (if ((sc v12.toNatClampNeg) &&& 63) = 30 then g_law_c30 n L sc j1 j5 j9 M11 v12 else (if ((sc v12.toNatClampNeg) &&& 63) = 31 then g_law_c31 n L sc j1 j5 j9 M11 v12 else (if ((sc v12.toNatClampNeg) &&& 63) = 32 then g_law_c32 n L sc j1 j5 j9 M11 v12 else (if ((sc v12.toNatClampNeg) &&& 63) = 33 then g_law_c33 n L sc j1 j5 j9 M11 v12 else (if ((sc v12.toNatClampNeg) &&& 63) = 34 then g_law_c34 n L sc j1 j5 j9 M11 v12 else (if ((sc v12.toNatClampNeg) &&& 63) = 35 then g_law_c35 n L sc j1 j5 j9 M11 v12 else (if ((sc v12.toNatClampNeg) &&& 63) = 36 then g_law_c36 n L sc j1 j5 j9 M11 v12 else (if ((sc v12.toNatClampNeg) &&& 63) = 37 then g_law_c37 n L sc j1 j5 j9 M11 v12 else (if ((sc v12.toNatClampNeg) &&& 63) = 38 then g_law_c38 n L sc j1 j5 j9 M11 v12 else (if ((sc v12.toNatClampNeg) &&& 63) = 39 then g_law_c39 n L sc j1 j5 j9 M11 v12 else (if ((sc v12.toNatClampNeg) &&& 63) = 40 then g_law_c40 n L sc j1 j5 j9 M11 v12 else (if ((sc v12.toNatClampNeg) &&& 63) = 41 then g_law_c41 n L sc j1 j5 j9 M11 v12 else (if ((sc v12.toNatClampNeg) &&& 63) = 42 then g_law_c42 n L sc j1 j5 j9 M11 v12 else (if ((sc v12.toNatClampNeg) &&& 63) = 43 then g_law_c43 n L sc j1 j5 j9 M11 v12 else (if ((sc v12.toNatClampNeg) &&& 63) = 44 then g_law_c44 n L sc j1 j5 j9 M11 v12 else (if ((sc v12.toNatClampNeg) &&& 63) = 45 then g_law_c45 n L sc j1 j5 j9 M11 v12 else (if ((sc v12.toNatClampNeg) &&& 63) = 46 then g_law_c46 n L sc j1 j5 j9 M11 v12 else (if ((sc v12.toNatClampNeg) &&& 63) = 47 then g_law_c47 n L sc j1 j5 j9 M11 v12 else some (.inl (M11, v12 + 6))))))))))))))))))))))))))))))))))))))))))))))))))))) s.1 s.2) 513 (M10, 0))))))
set_option maxHeartbeats 4000000 in
set_option maxRecDepth 100000 in
theorem t_L_law {X : CxT} {A : Int32 × MemT → Prop} (n L : Nat) (sc : Nat → Int32) (M0 : MemT) (hX : CxOk X cL_law 7 RL room_1) (hl : (xl X).stackTraces = false) (hR : RetL X A) (hS : Scr X L sc) : Sim X 7 A (g_L_law n L sc M0) 0 0 0 [some (kv ((some 70))), none, none, none, none, none, none] [] M0 := by
  unfold g_L_law
  refine s_new (ck1 := 1) (sk1 := 9) hX dL_law_0 (by decide) q_25 q_26 q_1 (Nat.le_of_ble_eq_true rfl) (Nat.le_of_ble_eq_true rfl) rfl rfl (fun j1 M2 => ?_)
  refine s_dup hX dL_law_3 rfl ?_
  refine s_callIu (ck1 := 149) (sk1 := 6405) hX dL_law_4 k_X9_init q_27 (c_X9_init n M2 j1) rfl rfl ⟨Nat.le_of_ble_eq_true rfl, Nat.le_of_ble_eq_true rfl⟩ ⟨(Nat.le_of_ble_eq_true rfl), (Nat.le_of_ble_eq_true rfl)⟩ (Nat.le_of_ble_eq_true rfl) rfl rfl (fun r3 M4 => ?_)
  refine s_astore1 hX dL_law_7 (by first | exact trivial | exact rfl) (Nat.le_of_ble_eq_true rfl) ?_
  refine s_new (ck1 := 150) (sk1 := 6434) hX dL_law_8 (by decide) q_1256 q_1257 q_9 (Nat.le_of_ble_eq_true rfl) (Nat.le_of_ble_eq_true rfl) rfl rfl (fun j5 M6 => ?_)
  refine s_dup hX dL_law_11 rfl ?_
  refine s_callIu (ck1 := 159) (sk1 := 64281) hX dL_law_12 k_X10_init q_1258 (c_X10_init n M6 j5) rfl rfl ⟨Nat.le_of_ble_eq_true rfl, Nat.le_of_ble_eq_true rfl⟩ ⟨(Nat.le_of_ble_eq_true rfl), (Nat.le_of_ble_eq_true rfl)⟩ (Nat.le_of_ble_eq_true rfl) rfl rfl (fun r7 M8 => ?_)
  refine s_astore2 hX dL_law_15 (by first | exact trivial | exact rfl) (Nat.le_of_ble_eq_true rfl) ?_
  refine s_iconst (v := 1) hX dL_law_16 kc_1 ?_
  refine s_newaJ (N := 1) (ck1 := 160) (sk1 := 64282) hX dL_law_17 q_388 (by decide) (by decide) (by decide) (Nat.le_of_ble_eq_true rfl) (Nat.le_of_ble_eq_true rfl) rfl rfl (fun j9 M10 => ?_)
  refine s_astore3 hX dL_law_19 (by first | exact trivial | exact rfl) (Nat.le_of_ble_eq_true rfl) ?_
  refine s_iconst (v := 0) hX dL_law_20 kc_0 ?_
  refine s_istore4 hX dL_law_21 (by first | exact trivial | exact rfl) (Nat.le_of_ble_eq_true rfl) ?_
  refine s_loop0A (N := 513) (dc := 60) (ds := 3000) (cL := (fun (s : MemT × Int32) => [some (kv ((some 70))), some (.ref j1), some (.ref j5), some (.ref j9), some (.int s.2), none, none])) (cM := (fun (s : MemT × Int32) => s.1)) (s_loopA (stk := []) (fun (s : MemT × Int32) => [some (kv ((some 70))), some (.ref j1), some (.ref j5), some (.ref j9), some (.int s.2), none, none]) (fun (s : MemT × Int32) => s.1) 513 60 3000 160 64282 (fun j13 hj13 s B13 hB13 hI13 => ?_) 513 (M10, 0) (Nat.le_refl _))
  obtain ⟨M11, v12⟩ := s
  dsimp only
  refine s_iload hX dL_law_23 rfl ?_
  refine s_kloadK_n (r := (some 70)) hX dL_law_25 rfl ?_
  refine s_slen hX hS dL_law_26 ?_
  refine s_bipush (v := 6) hX dL_law_27 kb_6 ?_
  refine s_isub hX dL_law_29 ?_
  refine s_icgt (tgt := 2097) hX dL_law_30 rfl ?_ ?_
  · refine s_iconst (v := 1) hX dL_law_2097 kc_1 ?_
    exact s_inr hI13 (s_lawret hX hR dL_law_2098 (by first | omega | (simp only [room_1, NC]; omega)) (by first | omega | (simp only [room_1, NC]; omega)))
  · refine s_kloadK_n (r := (some 70)) hX dL_law_33 rfl ?_
    refine s_iload hX dL_law_34 rfl ?_
    refine s_sld hX hS dL_law_36 ?_
    refine s_bipush (v := 63) hX dL_law_37 kb_63 ?_
    refine s_iand hX dL_law_39 ?_
    have b14 := sw_0 ((sc v12.toNatClampNeg) &&& 63) 0
    refine s_swC (tgt := 248) (v := 0) 0 hX dL_law_40 b14 (by decide) ⟨by decide, by decide⟩ rfl rfl ?_ (fun b19 => ?_)
    · exact t_law_c0 hj13 n L sc _ _ _ _ _ hX hl hR hS hB13 hI13
    refine s_swC (tgt := 321) (v := 1) 1 hX dL_law_40 b19 (by decide) ⟨by decide, by decide⟩ rfl rfl ?_ (fun b24 => ?_)
    · exact t_law_c1 hj13 n L sc _ _ _ _ _ hX hl hR hS hB13 hI13
    refine s_swC (tgt := 346) (v := 2) 2 hX dL_law_40 b24 (by decide) ⟨by decide, by decide⟩ rfl rfl ?_ (fun b29 => ?_)
    · exact t_law_c2 hj13 n L sc _ _ _ _ _ hX hl hR hS hB13 hI13
    refine s_swC (tgt := 371) (v := 3) 3 hX dL_law_40 b29 (by decide) ⟨by decide, by decide⟩ rfl rfl ?_ (fun b34 => ?_)
    · exact t_law_c3 hj13 n L sc _ _ _ _ _ hX hl hR hS hB13 hI13
    refine s_swC (tgt := 396) (v := 4) 4 hX dL_law_40 b34 (by decide) ⟨by decide, by decide⟩ rfl rfl ?_ (fun b42 => ?_)
    · exact t_law_c4 hj13 n L sc _ _ _ _ _ hX hl hR hS hB13 hI13
    refine s_swC (tgt := 464) (v := 5) 5 hX dL_law_40 b42 (by decide) ⟨by decide, by decide⟩ rfl rfl ?_ (fun b47 => ?_)
    · exact t_law_c5 hj13 n L sc _ _ _ _ _ hX hl hR hS hB13 hI13
    refine s_swC (tgt := 501) (v := 6) 6 hX dL_law_40 b47 (by decide) ⟨by decide, by decide⟩ rfl rfl ?_ (fun b52 => ?_)
    · exact t_law_c6 hj13 n L sc _ _ _ _ _ hX hl hR hS hB13 hI13
    refine s_swC (tgt := 550) (v := 7) 7 hX dL_law_40 b52 (by decide) ⟨by decide, by decide⟩ rfl rfl ?_ (fun b57 => ?_)
    · exact t_law_c7 hj13 n L sc _ _ _ _ _ hX hl hR hS hB13 hI13
    refine s_swC (tgt := 599) (v := 8) 8 hX dL_law_40 b57 (by decide) ⟨by decide, by decide⟩ rfl rfl ?_ (fun b62 => ?_)
    · exact t_law_c8 hj13 n L sc _ _ _ _ _ hX hl hR hS hB13 hI13
    refine s_swC (tgt := 660) (v := 9) 9 hX dL_law_40 b62 (by decide) ⟨by decide, by decide⟩ rfl rfl ?_ (fun b67 => ?_)
    · exact t_law_c9 hj13 n L sc _ _ _ _ _ hX hl hR hS hB13 hI13
    refine s_swC (tgt := 709) (v := 10) 10 hX dL_law_40 b67 (by decide) ⟨by decide, by decide⟩ rfl rfl ?_ (fun b72 => ?_)
    · exact t_law_c10 hj13 n L sc _ _ _ _ _ hX hl hR hS hB13 hI13
    refine s_swC (tgt := 770) (v := 11) 11 hX dL_law_40 b72 (by decide) ⟨by decide, by decide⟩ rfl rfl ?_ (fun b77 => ?_)
    · exact t_law_c11 hj13 n L sc _ _ _ _ _ hX hl hR hS hB13 hI13
    refine s_swC (tgt := 807) (v := 12) 12 hX dL_law_40 b77 (by decide) ⟨by decide, by decide⟩ rfl rfl ?_ (fun b82 => ?_)
    · exact t_law_c12 hj13 n L sc _ _ _ _ _ hX hl hR hS hB13 hI13
    refine s_swC (tgt := 856) (v := 13) 13 hX dL_law_40 b82 (by decide) ⟨by decide, by decide⟩ rfl rfl ?_ (fun b87 => ?_)
    · exact t_law_c13 hj13 n L sc _ _ _ _ _ hX hl hR hS hB13 hI13
    refine s_swC (tgt := 893) (v := 14) 14 hX dL_law_40 b87 (by decide) ⟨by decide, by decide⟩ rfl rfl ?_ (fun b92 => ?_)
    · exact t_law_c14 hj13 n L sc _ _ _ _ _ hX hl hR hS hB13 hI13
    refine s_swC (tgt := 918) (v := 15) 15 hX dL_law_40 b92 (by decide) ⟨by decide, by decide⟩ rfl rfl ?_ (fun b97 => ?_)
    · exact t_law_c15 hj13 n L sc _ _ _ _ _ hX hl hR hS hB13 hI13
    refine s_swC (tgt := 967) (v := 16) 16 hX dL_law_40 b97 (by decide) ⟨by decide, by decide⟩ rfl rfl ?_ (fun b102 => ?_)
    · exact t_law_c16 hj13 n L sc _ _ _ _ _ hX hl hR hS hB13 hI13
    refine s_swC (tgt := 1004) (v := 17) 17 hX dL_law_40 b102 (by decide) ⟨by decide, by decide⟩ rfl rfl ?_ (fun b107 => ?_)
    · exact t_law_c17 hj13 n L sc _ _ _ _ _ hX hl hR hS hB13 hI13
    refine s_swC (tgt := 1041) (v := 18) 18 hX dL_law_40 b107 (by decide) ⟨by decide, by decide⟩ rfl rfl ?_ (fun b112 => ?_)
    · exact t_law_c18 hj13 n L sc _ _ _ _ _ hX hl hR hS hB13 hI13
    refine s_swC (tgt := 1090) (v := 19) 19 hX dL_law_40 b112 (by decide) ⟨by decide, by decide⟩ rfl rfl ?_ (fun b117 => ?_)
    · exact t_law_c19 hj13 n L sc _ _ _ _ _ hX hl hR hS hB13 hI13
    refine s_swC (tgt := 1139) (v := 20) 20 hX dL_law_40 b117 (by decide) ⟨by decide, by decide⟩ rfl rfl ?_ (fun b122 => ?_)
    · exact t_law_c20 hj13 n L sc _ _ _ _ _ hX hl hR hS hB13 hI13
    refine s_swC (tgt := 1164) (v := 21) 21 hX dL_law_40 b122 (by decide) ⟨by decide, by decide⟩ rfl rfl ?_ (fun b127 => ?_)
    · exact t_law_c21 hj13 n L sc _ _ _ _ _ hX hl hR hS hB13 hI13
    refine s_swC (tgt := 1189) (v := 22) 22 hX dL_law_40 b127 (by decide) ⟨by decide, by decide⟩ rfl rfl ?_ (fun b132 => ?_)
    · exact t_law_c22 hj13 n L sc _ _ _ _ _ hX hl hR hS hB13 hI13
    refine s_swC (tgt := 1226) (v := 23) 23 hX dL_law_40 b132 (by decide) ⟨by decide, by decide⟩ rfl rfl ?_ (fun b137 => ?_)
    · exact t_law_c23 hj13 n L sc _ _ _ _ _ hX hl hR hS hB13 hI13
    refine s_swC (tgt := 1263) (v := 24) 24 hX dL_law_40 b137 (by decide) ⟨by decide, by decide⟩ rfl rfl ?_ (fun b142 => ?_)
    · exact t_law_c24 hj13 n L sc _ _ _ _ _ hX hl hR hS hB13 hI13
    refine s_swC (tgt := 1336) (v := 25) 25 hX dL_law_40 b142 (by decide) ⟨by decide, by decide⟩ rfl rfl ?_ (fun b147 => ?_)
    · exact t_law_c25 hj13 n L sc _ _ _ _ _ hX hl hR hS hB13 hI13
    refine s_swC (tgt := 1373) (v := 26) 26 hX dL_law_40 b147 (by decide) ⟨by decide, by decide⟩ rfl rfl ?_ (fun b152 => ?_)
    · exact t_law_c26 hj13 n L sc _ _ _ _ _ hX hl hR hS hB13 hI13
    refine s_swC (tgt := 1410) (v := 27) 27 hX dL_law_40 b152 (by decide) ⟨by decide, by decide⟩ rfl rfl ?_ (fun b157 => ?_)
    · exact t_law_c27 hj13 n L sc _ _ _ _ _ hX hl hR hS hB13 hI13
    refine s_swC (tgt := 1459) (v := 28) 28 hX dL_law_40 b157 (by decide) ⟨by decide, by decide⟩ rfl rfl ?_ (fun b162 => ?_)
    · exact t_law_c28 hj13 n L sc _ _ _ _ _ hX hl hR hS hB13 hI13
    refine s_swC (tgt := 1496) (v := 29) 29 hX dL_law_40 b162 (by decide) ⟨by decide, by decide⟩ rfl rfl ?_ (fun b167 => ?_)
    · exact t_law_c29 hj13 n L sc _ _ _ _ _ hX hl hR hS hB13 hI13
    refine s_swC (tgt := 1545) (v := 30) 30 hX dL_law_40 b167 (by decide) ⟨by decide, by decide⟩ rfl rfl ?_ (fun b172 => ?_)
    · exact t_law_c30 hj13 n L sc _ _ _ _ _ hX hl hR hS hB13 hI13
    refine s_swC (tgt := 1570) (v := 31) 31 hX dL_law_40 b172 (by decide) ⟨by decide, by decide⟩ rfl rfl ?_ (fun b177 => ?_)
    · exact t_law_c31 hj13 n L sc _ _ _ _ _ hX hl hR hS hB13 hI13
    refine s_swC (tgt := 1595) (v := 32) 32 hX dL_law_40 b177 (by decide) ⟨by decide, by decide⟩ rfl rfl ?_ (fun b182 => ?_)
    · exact t_law_c32 hj13 n L sc _ _ _ _ _ hX hl hR hS hB13 hI13
    refine s_swC (tgt := 1632) (v := 33) 33 hX dL_law_40 b182 (by decide) ⟨by decide, by decide⟩ rfl rfl ?_ (fun b187 => ?_)
    · exact t_law_c33 hj13 n L sc _ _ _ _ _ hX hl hR hS hB13 hI13
    refine s_swC (tgt := 1669) (v := 34) 34 hX dL_law_40 b187 (by decide) ⟨by decide, by decide⟩ rfl rfl ?_ (fun b192 => ?_)
    · exact t_law_c34 hj13 n L sc _ _ _ _ _ hX hl hR hS hB13 hI13
    refine s_swC (tgt := 1706) (v := 35) 35 hX dL_law_40 b192 (by decide) ⟨by decide, by decide⟩ rfl rfl ?_ (fun b197 => ?_)
    · exact t_law_c35 hj13 n L sc _ _ _ _ _ hX hl hR hS hB13 hI13
    refine s_swC (tgt := 1743) (v := 36) 36 hX dL_law_40 b197 (by decide) ⟨by decide, by decide⟩ rfl rfl ?_ (fun b202 => ?_)
    · exact t_law_c36 hj13 n L sc _ _ _ _ _ hX hl hR hS hB13 hI13
    refine s_swC (tgt := 1780) (v := 37) 37 hX dL_law_40 b202 (by decide) ⟨by decide, by decide⟩ rfl rfl ?_ (fun b207 => ?_)
    · exact t_law_c37 hj13 n L sc _ _ _ _ _ hX hl hR hS hB13 hI13
    refine s_swC (tgt := 1817) (v := 38) 38 hX dL_law_40 b207 (by decide) ⟨by decide, by decide⟩ rfl rfl ?_ (fun b212 => ?_)
    · exact t_law_c38 hj13 n L sc _ _ _ _ _ hX hl hR hS hB13 hI13
    refine s_swC (tgt := 1842) (v := 39) 39 hX dL_law_40 b212 (by decide) ⟨by decide, by decide⟩ rfl rfl ?_ (fun b217 => ?_)
    · exact t_law_c39 hj13 n L sc _ _ _ _ _ hX hl hR hS hB13 hI13
    refine s_swC (tgt := 1879) (v := 40) 40 hX dL_law_40 b217 (by decide) ⟨by decide, by decide⟩ rfl rfl ?_ (fun b222 => ?_)
    · exact t_law_c40 hj13 n L sc _ _ _ _ _ hX hl hR hS hB13 hI13
    refine s_swC (tgt := 1904) (v := 41) 41 hX dL_law_40 b222 (by decide) ⟨by decide, by decide⟩ rfl rfl ?_ (fun b227 => ?_)
    · exact t_law_c41 hj13 n L sc _ _ _ _ _ hX hl hR hS hB13 hI13
    refine s_swC (tgt := 1953) (v := 42) 42 hX dL_law_40 b227 (by decide) ⟨by decide, by decide⟩ rfl rfl ?_ (fun b232 => ?_)
    · exact t_law_c42 hj13 n L sc _ _ _ _ _ hX hl hR hS hB13 hI13
    refine s_swC (tgt := 2002) (v := 43) 43 hX dL_law_40 b232 (by decide) ⟨by decide, by decide⟩ rfl rfl ?_ (fun b237 => ?_)
    · exact t_law_c43 hj13 n L sc _ _ _ _ _ hX hl hR hS hB13 hI13
    refine s_swC (tgt := 2027) (v := 44) 44 hX dL_law_40 b237 (by decide) ⟨by decide, by decide⟩ rfl rfl ?_ (fun b242 => ?_)
    · exact t_law_c44 hj13 n L sc _ _ _ _ _ hX hl hR hS hB13 hI13
    refine s_swC (tgt := 2040) (v := 45) 45 hX dL_law_40 b242 (by decide) ⟨by decide, by decide⟩ rfl rfl ?_ (fun b247 => ?_)
    · exact t_law_c45 hj13 n L sc _ _ _ _ _ hX hl hR hS hB13 hI13
    refine s_swC (tgt := 2053) (v := 46) 46 hX dL_law_40 b247 (by decide) ⟨by decide, by decide⟩ rfl rfl ?_ (fun b252 => ?_)
    · exact t_law_c46 hj13 n L sc _ _ _ _ _ hX hl hR hS hB13 hI13
    refine s_swC (tgt := 2066) (v := 47) 47 hX dL_law_40 b252 (by decide) ⟨by decide, by decide⟩ rfl rfl ?_ (fun b257 => ?_)
    · exact t_law_c47 hj13 n L sc _ _ _ _ _ hX hl hR hS hB13 hI13
    refine s_swD (tgt := 2091) 48 hX dL_law_40 b257 rfl rfl ?_
    refine s_iinc4 (v := v12 + 6) hX dL_law_2091 rfl (by first | exact trivial | exact rfl) (Nat.le_of_ble_eq_true rfl) ?_
    refine s_goto (tgt := 23) hX dL_law_2094 rfl ?_
    refine s_widen (ck1 := 160 + (j13 + 1) * 60) (sk1 := 64282 + (j13 + 1) * 3000) (by omega) (by omega) ?_
    exact s_back hB13
