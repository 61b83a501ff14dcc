/-! ===== PURE 95: the component opens what a text told ===== -/
def hdB (nt : Int) (tr : Int → Int) : Int → Int := fun k => if 1281 ≤ k ∧ k < 1281 + 2 * nt then (if (k - 1281) % 2 = 0 then tr (8 * ((k - 1281) / 2) + 4) else tr (8 * ((k - 1281) / 2) + 5)) else 0
def zR : Nat → Int32 := fun _ => 0
def clrR (R : Nat → Nat → Int32) : Nat → Nat → Int32 := ucp (ucp (ucp (ucp (ucp (up2 (up2 (up2 R 0 0 0) 0 1 0) 0 2 0) zR 4 1280) zR 5 256) zR 6 64) zR 7 256) zR 8 16
section M40
variable {M : MemT} {b c r s : Nat} {R : Nat → Nat → Int32} {F : Nat → Int32} {S T tr sl bu as : Int → Int} {nt U : Int} {n : Nat}
theorem hdB_0 (h : nt ≤ 4) {k : Int} (hk : k < 1281 ∨ 1289 ≤ k) : hdB nt tr k = 0 := if_neg (by omega)
theorem hdB_o {t : Int} (h0 : 0 ≤ t) (h1 : t < nt) : hdB nt tr (1281 + 2 * t) = tr (8 * t + 4) := by
  unfold hdB
  rw [if_pos (by omega), if_pos (by omega), show (1281 + 2 * t - 1281) / 2 = t by omega]
theorem hdB_a {t : Int} (h0 : 0 ≤ t) (h1 : t < nt) : hdB nt tr (1282 + 2 * t) = tr (8 * t + 5) := by
  unfold hdB
  rw [if_pos (by omega), if_neg (by omega), show (1282 + 2 * t - 1281) / 2 = t by omega]
theorem x_clrRow {o N : Nat} (ho : o < 50) (hk : mK M (b + o) = 10) (hl : mL M (b + o) = N) (hN : N ≤ 2000) (hn : 2000 < n) : g_X2_clearRow n (WR M b R) (b + o) = some ((), WR M b (ucp R zR o N)) := by
  have e0 : ucp R zR o 0 = R := funext fun x => funext fun k => if_neg (fun q => by omega)
  have es : ∀ i : Nat, up2 (ucp R zR o i) o i 0 = ucp R zR o (i + 1) := fun i => by
    funext x k
    show (if x = o ∧ k = i then 0 else if x = o ∧ k < i then zR k else R x k) = (if x = o ∧ k < i + 1 then zR k else R x k)
    by_cases c1 : x = o ∧ k = i
    · rw [if_pos c1, if_pos (by omega)]; rfl
    · rw [if_neg c1]
      by_cases c2 : x = o ∧ k < i
      · rw [if_pos c2, if_pos (by omega)]
      · rw [if_neg c2, if_neg (by omega)]
  have key := loop_k (step := fun (s : MemT × Int32) => (fun (M1 : MemT) (v2 : Int32) => (aL M1 (b + o)).bind (fun v4 => (if v4 ≤ v2 then some (.inr (M1, v2)) else (wI M1 (b + o) v2 0).bind (fun M5 => (some (.inl (M5, v2 + 1)) : Option ((MemT × Int32) ⊕ (MemT × Int32))))))) s.1 s.2) (fun i : Nat => (WR M b (ucp R zR o i), zi (i : Int))) (WR M b (ucp R zR o N), zi (N : Int)) N (fun i hi => ?_) ?_ n (by omega)
  · unfold g_X2_clearRow
    dsimp only at key
    rw [e0] at key
    rw [show loopF _ n (WR M b R, (0 : Int32)) = some (WR M b (ucp R zR o N), zi (N : Int)) from key, i_sb]
  · dsimp only
    rw [i_aL (M := WR M b (ucp R zR o i)) hk hl, i_sb, if_neg (by rw [zi_le (by omega) (by omega) (by omega) (by omega)]; omega), x_wI ho hk hl (by omega) (by omega) hN, i_sb, Int.toNat_natCast, es, show zi (i : Int) + 1 = zi ((i + 1 : Nat) : Int) from zi_add (i : Int) 1]
  · dsimp only
    rw [i_aL (M := WR M b (ucp R zR o N)) hk hl, i_sb, if_pos (Int32.le_refl _)]
theorem x_clr (h : BSh M b) (hn : 2000 < n) : g_X2_clear n (WR M b R) b = some ((), WR M b (clrR R)) := by
  obtain ⟨-, -, -, ⟨-, -, k4, k5, k6, k7, k8, -⟩, ⟨-, -, l4, l5, l6, l7, l8, -⟩, -⟩ := id h
  unfold g_X2_clear
  rw [x_pB h, i_sb, x_pB h, i_sb, x_pB h, i_sb, x_o6 h, i_sb, x_clrRow (by omega) k4 l4 (by omega) hn, i_bd, x_o7 h, i_sb, x_clrRow (by omega) k5 l5 (by omega) hn, i_bd, x_o8 h, i_sb, x_clrRow (by omega) k6 l6 (by omega) hn, i_bd, x_o9 h, i_sb, x_clrRow (by omega) k7 l7 (by omega) hn, i_bd, x_o10 h, i_sb, x_clrRow (by omega) k8 l8 (by omega) hn, i_bd]
  rfl
theorem RBk_hd (h5 : ∀ t : Int, 0 ≤ t → t < nt → F t.toNat = zi (tr (8 * t + 4))) {G : Nat → Int32} (h6 : ∀ t : Int, 0 ≤ t → t < nt → G t.toNat = zi (tr (8 * t + 5))) (hnt : nt ≤ 4) : RBk T (hdB nt tr) nt (ucp (ucp (clrR R) F 1 4) G 2 4) := by
  have e1865 : hdB nt tr 1865 = 0 := hdB_0 hnt (by omega)
  have e1867 : hdB nt tr 1867 = 0 := hdB_0 hnt (by omega)
  refine ⟨⟨⟨?_, ?_, ?_⟩, fun k h0 h1 => ?_, fun k h0 h1 => ?_, fun k h0 h1 => ?_, fun k h0 h1 => ?_, fun k h0 h1 => ?_, fun k w h0 h1 => ?_⟩, fun t h0 h1 => ⟨?_, ?_⟩, fun a ha => ?_⟩
  · rw [hdB_0 hnt (by omega)]; rfl
  · rw [hdB_0 hnt (by omega)]; rfl
  · rw [hdB_0 hnt (by omega)]; rfl
  · rw [hdB_0 hnt (by omega), ucp_o (by omega), ucp_o (by omega)]
    unfold clrR
    rw [ucp_o (by omega), ucp_o (by omega), ucp_o (by omega), ucp_o (by omega), ucp_in (by omega)]; rfl
  · rw [hdB_0 hnt (by omega), ucp_o (by omega), ucp_o (by omega)]
    unfold clrR
    rw [ucp_o (by omega), ucp_o (by omega), ucp_o (by omega), ucp_in (by omega)]; rfl
  · rw [hdB_0 hnt (by omega), ucp_o (by omega), ucp_o (by omega)]
    unfold clrR
    rw [ucp_o (by omega), ucp_o (by omega), ucp_in (by omega)]; rfl
  · rw [hdB_0 hnt (by omega), ucp_o (by omega), ucp_o (by omega)]
    unfold clrR
    rw [ucp_o (by omega), ucp_in (by omega)]; rfl
  · rw [hdB_0 hnt (by omega), ucp_o (by omega), ucp_o (by omega)]
    unfold clrR
    rw [ucp_in (by omega)]; rfl
  · rw [e1867] at h1; omega
  · rw [ucp_o (by omega), ucp_in (by omega), hdB_o h0 h1]
    exact h5 t h0 h1
  · rw [ucp_in (by omega), hdB_a h0 h1]
    exact h6 t h0 h1
  · rw [e1865] at ha; omega
theorem c_open (h : CSh (sR M c 0 (some r)) c r) (hU : RU M r nt T tr sl bu as) (hRows : RowsOk T sl bu as) (hnt : nt ≤ 4) (hn : 2000 < n) : ∃ R1, g_X3_open n (WX M c R F S) c r = some ((), WX (sR M c 0 (some r)) c R1 F S) ∧ RBk T (comZ T sl bu as (hdB nt tr)) nt R1 := by
  have hr := h.2.2.2.2
  have hRS := h.2.2.2.1
  have hB := wx_B (F := F) (S := S) h
  have k2 : mK M c = 2 := h.1.1
  have e1865 : hdB nt tr 1865 = 0 := hdB_0 hnt (by omega)
  have e1867 : hdB nt tr 1867 = 0 := hdB_0 hnt (by omega)
  have e00 : hdB nt tr 0 = 0 := hdB_0 hnt (by omega)
  have kr : ∀ R', mK (WR (WF (sR M c 0 (some r)) (c + 60) F S) (c + 10) R') r = 6 := fun _ => hRS.1
  have f5 : mI (WF (sR M c 0 (some r)) (c + 60) F S) (r + 5) = mI M (r + 5) := funext fun k => if_neg (by omega)
  have f6 : mI (WF (sR M c 0 (some r)) (c + 60) F S) (r + 6) = mI M (r + 6) := funext fun k => if_neg (by omega)
  have hU' : RU (sR M c 0 (some r)) r nt T tr sl bu as := hU
  have hbk : RBk T (hdB nt tr) nt (ucp (ucp (clrR R) (mI M (r + 5)) 1 4) (mI M (r + 6)) 2 4) := RBk_hd (fun t h0 h1 => (hU.2.1 t h0 h1).2.2.2.2.1) (fun t h0 h1 => (hU.2.1 t h0 h1).2.2.2.2.2) hnt
  obtain ⟨R1, g1, g2⟩ := c_bringTold (n := n) (F := F) (S := S) h hU' hRows hbk hnt (by unfold BN; rw [e00]; omega) (by rw [e1867]; omega) (by rw [e1865]; omega) (fun a a0 a1 => by rw [e1865] at a1; omega) (by omega)
  refine ⟨R1, ?_, g2⟩
  have x1 : ∀ R', g_X2_clear n (WX (sR M c 0 (some r)) c R' F S) (c + 10) = some ((), WX (sR M c 0 (some r)) c (clrR R') F S) := fun R' => x_clr hB hn
  have x2 : ∀ R', gO (WX (sR M c 0 (some r)) c R' F S) 1 (c + 10) 3 = some (c + 10 + 1) := fun R' => x_o3 hB
  have x3 : ∀ R', gO (WX (sR M c 0 (some r)) c R' F S) 1 (c + 10) 4 = some (c + 10 + 2) := fun R' => x_o4 hB
  have x4 : ∀ R', g_X9_copyRow n (WX (sR M c 0 (some r)) c R' F S) (r + 5) (c + 10 + 1) = some ((), WX (sR M c 0 (some r)) c (ucp R' (mI M (r + 5)) 1 4) F S) := fun R' => x_copyRow (by omega) hB.2.2.2.1.1 hB.2.2.2.2.1.1 hRS.2.2.1.2.2.2.2.1 hRS.2.2.2.2.2.2.2.1 (by omega) (by omega) f5
  have x5 : ∀ R', g_X9_copyRow n (WX (sR M c 0 (some r)) c R' F S) (r + 6) (c + 10 + 2) = some ((), WX (sR M c 0 (some r)) c (ucp R' (mI M (r + 6)) 2 4) F S) := fun R' => x_copyRow (by omega) hB.2.2.2.1.2.1 hB.2.2.2.2.1.2.1 hRS.2.2.1.2.2.2.2.2.1 hRS.2.2.2.2.2.2.2.2.1 (by omega) (by omega) f6
  have x6 : ∀ R', gO (WX (sR M c 0 (some r)) c R' F S) 6 r 5 = some (r + 5) := fun R' => i_gO (kr R') hRS.2.1.2.2.2.2.1
  have x7 : ∀ R', gO (WX (sR M c 0 (some r)) c R' F S) 6 r 6 = some (r + 6) := fun R' => i_gO (kr R') hRS.2.1.2.2.2.2.2.1
  unfold g_X3_open
  rw [i_pO (M := WX M c R F S) k2, i_sb, show sR (WX M c R F S) c 0 (some r) = WX (sR M c 0 (some r)) c R F S from rfl, c_o1 h, i_sb, c_kB h, x1, i_bd, x6, i_sb, c_o1 h, i_sb, x2, i_sb, x4, i_bd, x7, i_sb, c_o1 h, i_sb, x3, i_sb, x5, i_bd, c_kC h, g1, i_bd]
end M40
