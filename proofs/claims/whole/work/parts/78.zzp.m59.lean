/-! ===== PURE 114: the start: the reference's words ===== -/
section M59
variable {M : MemT} {x : Nat}
theorem wo_all {β : Type} {f : MemT → Option β} (hk : mK M x = 10) (hl : mL M x = 68) : (wI M x 0 116).bind (fun M1 => (wI M1 x 1 114).bind (fun M2 => (wI M2 x 2 97).bind (fun M3 => (wI M3 x 3 100).bind (fun M4 => (wI M4 x 4 101).bind (fun M5 => (wI M5 x 5 114).bind (fun M6 => (wI M6 x 6 32).bind (fun M7 => (wI M7 x 7 104).bind (fun M8 => (wI M8 x 8 101).bind (fun M9 => (wI M9 x 9 97).bind (fun M10 => (wI M10 x 10 100).bind (fun M11 => (wI M11 x 11 32).bind (fun M12 => (wI M12 x 12 115).bind (fun M13 => (wI M13 x 13 116).bind (fun M14 => (wI M14 x 14 97).bind (fun M15 => (wI M15 x 15 114).bind (fun M16 => (wI M16 x 16 116).bind (fun M17 => (wI M17 x 17 32).bind (fun M18 => (wI M18 x 18 114).bind (fun M19 => (wI M19 x 19 111).bind (fun M20 => (wI M20 x 20 117).bind (fun M21 => (wI M21 x 21 110).bind (fun M22 => (wI M22 x 22 100).bind (fun M23 => (wI M23 x 23 32).bind (fun M24 => (wI M24 x 24 115).bind (fun M25 => (wI M25 x 25 116).bind (fun M26 => (wI M26 x 26 101).bind (fun M27 => (wI M27 x 27 112).bind (fun M28 => (wI M28 x 28 32).bind (fun M29 => (wI M29 x 29 108).bind (fun M30 => (wI M30 x 30 105).bind (fun M31 => (wI M31 x 31 109).bind (fun M32 => (wI M32 x 32 105).bind (fun M33 => (wI M33 x 33 116).bind (fun M34 => (wI M34 x 34 32).bind (fun M35 => (wI M35 x 35 115).bind (fun M36 => (wI M36 x 36 101).bind (fun M37 => (wI M37 x 37 101).bind (fun M38 => (wI M38 x 38 100).bind (fun M39 => (wI M39 x 39 32).bind (fun M40 => (wI M40 x 40 115).bind (fun M41 => (wI M41 x 41 97).bind (fun M42 => (wI M42 x 42 108).bind (fun M43 => (wI M43 x 43 101).bind (fun M44 => (wI M44 x 44 32).bind (fun M45 => (wI M45 x 45 98).bind (fun M46 => (wI M46 x 46 117).bind (fun M47 => (wI M47 x 47 121).bind (fun M48 => (wI M48 x 48 32).bind (fun M49 => (wI M49 x 49 97).bind (fun M50 => (wI M50 x 50 115).bind (fun M51 => (wI M51 x 51 115).bind (fun M52 => (wI M52 x 52 101).bind (fun M53 => (wI M53 x 53 116).bind (fun M54 => (wI M54 x 54 32).bind (fun M55 => (wI M55 x 55 117).bind (fun M56 => (wI M56 x 56 112).bind (fun M57 => (wI M57 x 57 32).bind (fun M58 => (wI M58 x 58 100).bind (fun M59 => (wI M59 x 59 111).bind (fun M60 => (wI M60 x 60 119).bind (fun M61 => (wI M61 x 61 110).bind (fun M62 => (wI M62 x 62 32).bind (fun M63 => (wI M63 x 63 110).bind (fun M64 => (wI M64 x 64 101).bind (fun M65 => (wI M65 x 65 97).bind (fun M66 => (wI M66 x 66 114).bind (fun M67 => (wI M67 x 67 32).bind (fun M68 => f M68)))))))))))))))))))))))))))))))))))))))))))))))))))))))))))))))))))) = f (woM M x 68) := by
  have e0 : wI M x 0 116 = wI (woM M x 0) x 0 116 := by rw [wo_0]
  rw [e0]
  refine Eq.trans (wo_w (i := 0) hk hl (by omega) rfl rfl) ?_
  refine Eq.trans (wo_w (i := 1) hk hl (by omega) rfl rfl) ?_
  refine Eq.trans (wo_w (i := 2) hk hl (by omega) rfl rfl) ?_
  refine Eq.trans (wo_w (i := 3) hk hl (by omega) rfl rfl) ?_
  refine Eq.trans (wo_w (i := 4) hk hl (by omega) rfl rfl) ?_
  refine Eq.trans (wo_w (i := 5) hk hl (by omega) rfl rfl) ?_
  refine Eq.trans (wo_w (i := 6) hk hl (by omega) rfl rfl) ?_
  refine Eq.trans (wo_w (i := 7) hk hl (by omega) rfl rfl) ?_
  refine Eq.trans (wo_w (i := 8) hk hl (by omega) rfl rfl) ?_
  refine Eq.trans (wo_w (i := 9) hk hl (by omega) rfl rfl) ?_
  refine Eq.trans (wo_w (i := 10) hk hl (by omega) rfl rfl) ?_
  refine Eq.trans (wo_w (i := 11) hk hl (by omega) rfl rfl) ?_
  refine Eq.trans (wo_w (i := 12) hk hl (by omega) rfl rfl) ?_
  refine Eq.trans (wo_w (i := 13) hk hl (by omega) rfl rfl) ?_
  refine Eq.trans (wo_w (i := 14) hk hl (by omega) rfl rfl) ?_
  refine Eq.trans (wo_w (i := 15) hk hl (by omega) rfl rfl) ?_
  refine Eq.trans (wo_w (i := 16) hk hl (by omega) rfl rfl) ?_
  refine Eq.trans (wo_w (i := 17) hk hl (by omega) rfl rfl) ?_
  refine Eq.trans (wo_w (i := 18) hk hl (by omega) rfl rfl) ?_
  refine Eq.trans (wo_w (i := 19) hk hl (by omega) rfl rfl) ?_
  refine Eq.trans (wo_w (i := 20) hk hl (by omega) rfl rfl) ?_
  refine Eq.trans (wo_w (i := 21) hk hl (by omega) rfl rfl) ?_
  refine Eq.trans (wo_w (i := 22) hk hl (by omega) rfl rfl) ?_
  refine Eq.trans (wo_w (i := 23) hk hl (by omega) rfl rfl) ?_
  refine Eq.trans (wo_w (i := 24) hk hl (by omega) rfl rfl) ?_
  refine Eq.trans (wo_w (i := 25) hk hl (by omega) rfl rfl) ?_
  refine Eq.trans (wo_w (i := 26) hk hl (by omega) rfl rfl) ?_
  refine Eq.trans (wo_w (i := 27) hk hl (by omega) rfl rfl) ?_
  refine Eq.trans (wo_w (i := 28) hk hl (by omega) rfl rfl) ?_
  refine Eq.trans (wo_w (i := 29) hk hl (by omega) rfl rfl) ?_
  refine Eq.trans (wo_w (i := 30) hk hl (by omega) rfl rfl) ?_
  refine Eq.trans (wo_w (i := 31) hk hl (by omega) rfl rfl) ?_
  refine Eq.trans (wo_w (i := 32) hk hl (by omega) rfl rfl) ?_
  refine Eq.trans (wo_w (i := 33) hk hl (by omega) rfl rfl) ?_
  refine Eq.trans (wo_w (i := 34) hk hl (by omega) rfl rfl) ?_
  refine Eq.trans (wo_w (i := 35) hk hl (by omega) rfl rfl) ?_
  refine Eq.trans (wo_w (i := 36) hk hl (by omega) rfl rfl) ?_
  refine Eq.trans (wo_w (i := 37) hk hl (by omega) rfl rfl) ?_
  refine Eq.trans (wo_w (i := 38) hk hl (by omega) rfl rfl) ?_
  refine Eq.trans (wo_w (i := 39) hk hl (by omega) rfl rfl) ?_
  refine Eq.trans (wo_w (i := 40) hk hl (by omega) rfl rfl) ?_
  refine Eq.trans (wo_w (i := 41) hk hl (by omega) rfl rfl) ?_
  refine Eq.trans (wo_w (i := 42) hk hl (by omega) rfl rfl) ?_
  refine Eq.trans (wo_w (i := 43) hk hl (by omega) rfl rfl) ?_
  refine Eq.trans (wo_w (i := 44) hk hl (by omega) rfl rfl) ?_
  refine Eq.trans (wo_w (i := 45) hk hl (by omega) rfl rfl) ?_
  refine Eq.trans (wo_w (i := 46) hk hl (by omega) rfl rfl) ?_
  refine Eq.trans (wo_w (i := 47) hk hl (by omega) rfl rfl) ?_
  refine Eq.trans (wo_w (i := 48) hk hl (by omega) rfl rfl) ?_
  refine Eq.trans (wo_w (i := 49) hk hl (by omega) rfl rfl) ?_
  refine Eq.trans (wo_w (i := 50) hk hl (by omega) rfl rfl) ?_
  refine Eq.trans (wo_w (i := 51) hk hl (by omega) rfl rfl) ?_
  refine Eq.trans (wo_w (i := 52) hk hl (by omega) rfl rfl) ?_
  refine Eq.trans (wo_w (i := 53) hk hl (by omega) rfl rfl) ?_
  refine Eq.trans (wo_w (i := 54) hk hl (by omega) rfl rfl) ?_
  refine Eq.trans (wo_w (i := 55) hk hl (by omega) rfl rfl) ?_
  refine Eq.trans (wo_w (i := 56) hk hl (by omega) rfl rfl) ?_
  refine Eq.trans (wo_w (i := 57) hk hl (by omega) rfl rfl) ?_
  refine Eq.trans (wo_w (i := 58) hk hl (by omega) rfl rfl) ?_
  refine Eq.trans (wo_w (i := 59) hk hl (by omega) rfl rfl) ?_
  refine Eq.trans (wo_w (i := 60) hk hl (by omega) rfl rfl) ?_
  refine Eq.trans (wo_w (i := 61) hk hl (by omega) rfl rfl) ?_
  refine Eq.trans (wo_w (i := 62) hk hl (by omega) rfl rfl) ?_
  refine Eq.trans (wo_w (i := 63) hk hl (by omega) rfl rfl) ?_
  refine Eq.trans (wo_w (i := 64) hk hl (by omega) rfl rfl) ?_
  refine Eq.trans (wo_w (i := 65) hk hl (by omega) rfl rfl) ?_
  refine Eq.trans (wo_w (i := 66) hk hl (by omega) rfl rfl) ?_
  refine Eq.trans (wo_w (i := 67) hk hl (by omega) rfl rfl) ?_
  rfl
end M59
