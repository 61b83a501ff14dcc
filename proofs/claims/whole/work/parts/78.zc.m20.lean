/-! ===== PURE 75: feed ===== -/
theorem byte_r (x : Int32) : ∃ z : Int, (-128 ≤ z ∧ z < 128) ∧ (x.toInt8).toInt32 = zi z ∧ x &&& 255 = zi (if z < 0 then z + 256 else z) := by
  refine ⟨x.toInt8.toInt, ?_, ?_, ?_⟩
  · have h1 := x.toInt8.le_toInt
    have h2 := x.toInt8.toInt_lt
    omega
  · show _ = Int32.ofInt _
    rw [← Int32.toInt_inj, Int8.toInt_toInt32, Int32.toInt_ofInt_of_le]
    · have h1 := x.toInt8.le_toInt
      omega
    · have h2 := x.toInt8.toInt_lt
      omega
  · have h1 := x.toInt8.le_toInt
    have h2 := x.toInt8.toInt_lt
    have h3 : x.toInt8.toInt = x.toInt.bmod (2 ^ 8) := Int32.toInt_toInt8 x
    have h : (x &&& 255).toBitVec = x.toBitVec &&& 255#32 := rfl
    have hn : (x.toBitVec &&& 255#32).toNat = x.toBitVec.toNat % 256 := by
      rw [BitVec.toNat_and]
      exact Nat.and_two_pow_sub_one_eq_mod _ 8
    have hx : x.toInt = x.toBitVec.toInt := rfl
    have hc := BitVec.toInt_eq_toNat_cond (x := x.toBitVec)
    show _ = Int32.ofInt _
    rw [← Int32.toInt_inj, Int32.toInt_ofInt_of_le (by split <;> omega) (by split <;> omega), ← Int32.toInt_toBitVec, h, BitVec.toInt_eq_toNat_of_lt (by omega), hn]
    rw [Int.bmod_def] at h3
    split at h3 <;> split at hc <;> split <;> omega
def fX (M : MemT) (f : Nat → Int32) (l : Int32) : MemT := (M.1, M.2.1, M.2.2.1, M.2.2.2.1, fun x k => if x = 1 then f k else if x = 0 ∧ k = 1 then l else M.2.2.2.2.1 x k, M.2.2.2.2.2)
def fM (M : MemT) (f : Nat → Int32) : MemT := (M.1, M.2.1, M.2.2.1, M.2.2.2.1, fun x k => if x = 140 then f k else M.2.2.2.2.1 x k, M.2.2.2.2.2)
theorem loop5 {σ T : Type} {step : σ → Option (σ ⊕ T)} {s0 s1 s2 s3 s4 : σ} {t : T} (h0 : step s0 = some (.inl s1)) (h1 : step s1 = some (.inl s2)) (h2 : step s2 = some (.inl s3)) (h3 : step s3 = some (.inl s4)) (h4 : step s4 = some (.inr t)) {n : Nat} (hn : 4 < n) : loopF step n s0 = some t := by
  refine loop_k (fun i => if i = 0 then s0 else if i = 1 then s1 else if i = 2 then s2 else if i = 3 then s3 else s4) t 4 (fun i hi => ?_) h4 n hn
  rcases (show i = 0 ∨ i = 1 ∨ i = 2 ∨ i = 3 by omega) with q | q | q | q
  · subst q; exact h0
  · subst q; exact h1
  · subst q; exact h2
  · subst q; exact h3
theorem i_aLg {M : MemT} {x N : Nat} (hk : 10 ≤ mK M x ∧ mK M x < 16) (hl : mL M x = N) : aL M x = some (zi (N : Int)) := by
  unfold aL
  rw [if_pos hk, hl, zi_nI]
def bX (a : Int32) (s : Int32) : Int32 := (Int32.toInt8 (a >>> (s &&& 31))).toInt32
def bM (a : Int32) (s : Int32) : Int32 := (a >>> (s &&& 31)) &&& 255
def sel (a1 a2 a3 a4 a5 : Int32) (i : Nat) : Int32 := if i < 4 then a1 else if i < 8 then a2 else if i < 12 then a3 else if i < 16 then a4 else a5
theorem fX_I {M : MemT} {f : Nat → Int32} {l : Int32} {x k : Nat} : mI (fX M f l) x k = if x = 1 then f k else if x = 0 ∧ k = 1 then l else mI M x k := rfl
theorem fM_I {M : MemT} {f : Nat → Int32} {x k : Nat} : mI (fM M f) x k = if x = 140 then f k else mI M x k := rfl
section M20
variable {M : MemT} {f : Nat → Int32} {l : Int} {n : Nat} {a a1 a2 a3 a4 a5 : Int32}
theorem fX_set {g : Nat → Int32} {v w : Int32} {k : Nat} : sI (sI (fX M g w) 1 k v) 0 1 (w + 1) = fX M (up1 g k v) (w + 1) := by
  unfold fX sI
  refine Prod.ext rfl (Prod.ext rfl (Prod.ext rfl (Prod.ext rfl (Prod.ext ?_ rfl))))
  funext x j
  show (if x = 0 ∧ j = 1 then w + 1 else if x = 1 ∧ j = k then v else if x = 1 then g j else if x = 0 ∧ j = 1 then w else M.2.2.2.2.1 x j) = (if x = 1 then (if j = k then v else g j) else if x = 0 ∧ j = 1 then w + 1 else M.2.2.2.2.1 x j)
  by_cases c1 : x = 1
  · subst c1
    by_cases c2 : j = k
    · simp [c2]
    · simp [c2]
  · by_cases c2 : x = 0 ∧ j = 1
    · simp [c1, c2]
    · simp [c1, c2]
theorem i_wB {x : Nat} {k N : Int} {v : Int32} (hk : mK M x = 11) (hl : (mL M x : Int) = N) (h0 : 0 ≤ k) (h1 : k < N) (h2 : N ≤ 2147483647) : wB M x (zi k) v = some (sI M x k.toNat (v.toInt8.toInt32)) := by
  unfold wB inA
  have e0 : ¬ (zi k < 0 ∨ mL M x ≤ (zi k).toNatClampNeg) := by
    show ¬ (zi k < zi 0 ∨ _)
    rw [zi_lt (by omega) (by omega) (by omega) (by omega), zi_tn (by omega) h0]
    omega
  rw [if_pos ⟨hk, e0⟩, zi_tn (by omega) h0]
theorem bX_id {s : Int32} : (bX a s).toInt8.toInt32 = bX a s := by
  unfold bX
  rw [Int8.toInt8_toInt32]
theorem x_four (k7 : mK M 0 = 7) (r0 : mR M 0 0 = some 1) (k11 : mK M 1 = 11) (l7 : mL M 1 = 700) (l0 : 0 ≤ l) (l1 : l + 4 ≤ 700) (hn : 4 < n) : g_X9_addFourBytes n (fX M f (zi l)) 0 a = some ((), fX M (up1 (up1 (up1 (up1 f l.toNat (bX a 24)) (l + 1).toNat (bX a 16)) (l + 2).toNat (bX a 8)) (l + 3).toNat (bX a 0)) (zi (l + 4))) := by
  have st : ∀ (g : Nat → Int32) (e s : Int), 0 ≤ e → e < 700 → 0 ≤ s → s ≤ 24 → (fun (s : MemT × Int32) => (fun (M1 : MemT) (v2 : Int32) => (if v2 < 0 then some (.inr (M1, v2)) else (gI M1 7 0 1).bind (fun v4 => (gO M1 7 0 0).bind (fun j5 => (aL M1 j5).bind (fun v6 => (if v6 ≤ v4 then some (.inl (M1, v2 + (-8))) else (gO M1 7 0 0).bind (fun j7 => (gI M1 7 0 1).bind (fun v8 => (wB M1 j7 v8 ((Int32.toInt8 (a >>> (v2 &&& 31))).toInt32)).bind (fun M9 => (gI M9 7 0 1).bind (fun v10 => (pI M9 7 0 1 (v10 + 1)).bind (fun M11 => (some (.inl (M11, v2 + (-8))) : Option ((MemT × Int32) ⊕ (MemT × Int32)))))))))))))) s.1 s.2) (fX M g (zi e), zi s) = some (.inl (fX M (up1 g e.toNat (bX a (zi s))) (zi (e + 1)), zi (s - 8))) := fun g e s e0 e1 s0 s1 => by
    have gi : mI (fX M g (zi e)) 0 1 = zi e := by rw [fX_I, if_neg (by omega), if_pos ⟨rfl, rfl⟩]
    have gL : aL (fX M g (zi e)) 1 = some (zi 700) := i_aLg (M := fX M g (zi e)) (N := 700) (show 10 ≤ mK M 1 ∧ mK M 1 < 16 by omega) l7
    dsimp only
    rw [if_neg (by show ¬ (zi s < zi 0); rw [zi_lt (by omega) (by omega) (by omega) (by omega)]; omega), i_gI (M := fX M g (zi e)) k7, i_sb, gi, i_gO (M := fX M g (zi e)) k7 r0, i_sb, gL, i_sb, if_neg (by rw [zi_le (by omega) (by omega) (by omega) (by omega)]; omega), i_sb, i_sb, i_wB (M := fX M g (zi e)) (N := 700) k11 (by show (mL M 1 : Int) = 700; rw [l7]; rfl) e0 e1 (by omega), i_sb]
    have gi2 : ∀ v, mI (sI (fX M g (zi e)) 1 e.toNat v) 0 1 = zi e := fun v => (sI_ne (by omega)).trans gi
    rw [i_gI (M := sI (fX M g (zi e)) 1 e.toNat _) k7, i_sb, gi2, i_pI (M := sI (fX M g (zi e)) 1 e.toNat _) k7, i_sb, fX_set]
    rw [show (a >>> (zi s &&& 31)).toInt8.toInt32 = bX a (zi s) from rfl, bX_id, show zi e + 1 = zi (e + 1) from zi_add e 1, show (-8 : Int32) = zi (-8) by decide, zi_add, show s + -8 = s - 8 by omega]
  unfold g_X9_addFourBytes
  have q0 := st f l 24 l0 (by omega) (by omega) (by omega)
  have q1 := st (up1 f l.toNat (bX a 24)) (l + 1) 16 (by omega) (by omega) (by omega) (by omega)
  have q2 := st (up1 (up1 f l.toNat (bX a 24)) (l + 1).toNat (bX a 16)) (l + 2) 8 (by omega) (by omega) (by omega) (by omega)
  have q3 := st (up1 (up1 (up1 f l.toNat (bX a 24)) (l + 1).toNat (bX a 16)) (l + 2).toNat (bX a 8)) (l + 3) 0 (by omega) (by omega) (by omega) (by omega)
  rw [show l + 1 + 1 = l + 2 by omega] at q1
  rw [show l + 2 + 1 = l + 3 by omega] at q2
  rw [show l + 3 + 1 = l + 4 by omega] at q3
  rw [loop5 (s0 := (fX M f (zi l), 24)) q0 q1 q2 q3 (t := (fX M (up1 (up1 (up1 (up1 f l.toNat (bX a 24)) (l + 1).toNat (bX a 16)) (l + 2).toNat (bX a 8)) (l + 3).toNat (bX a 0)) (zi (l + 4)), zi (0 - 8))) ?_ hn, i_sb]
  dsimp only
  rw [if_pos (by decide)]
  rfl
/-- what the component's tape is, twenty bytes on -/
def gX (f : Nat → Int32) (l : Nat) (b : Nat → Int32) (m : Nat) : Nat → Int32 := fun k => if l ≤ k ∧ k < l + m then b (k - l) else f k
theorem gX_0 {b : Nat → Int32} {l : Nat} : gX f l b 0 = f := by
  funext k
  exact if_neg (by omega)
theorem gX_s {b : Nat → Int32} {l m : Nat} : up1 (gX f l b m) (l + m) (b m) = gX f l b (m + 1) := by
  funext k
  show (if k = l + m then b m else if l ≤ k ∧ k < l + m then b (k - l) else f k) = if l ≤ k ∧ k < l + (m + 1) then b (k - l) else f k
  by_cases c : k = l + m
  · rw [if_pos c, if_pos (by omega), c, Nat.add_sub_cancel_left]
  · rw [if_neg c]
    by_cases d : l ≤ k ∧ k < l + m
    · rw [if_pos d, if_pos (by omega)]
    · rw [if_neg d, if_neg (by omega)]
theorem x_four2 (k7 : mK M 0 = 7) (r0 : mR M 0 0 = some 1) (k11 : mK M 1 = 11) (l7 : mL M 1 = 700) {L m : Nat} {b : Nat → Int32} (l1 : L + m + 4 ≤ 700) (hn : 4 < n) (b0 : b m = bX a 24) (b1 : b (m + 1) = bX a 16) (b2 : b (m + 2) = bX a 8) (b3 : b (m + 3) = bX a 0) : g_X9_addFourBytes n (fX M (gX f L b m) (zi ((L + m : Nat) : Int))) 0 a = some ((), fX M (gX f L b (m + 4)) (zi ((L + (m + 4) : Nat) : Int))) := by
  rw [x_four k7 r0 k11 l7 (by omega) (by omega) hn, ← b0, ← b1, ← b2, ← b3, show (((L + m : Nat) : Int)).toNat = L + m by omega, show (((L + m : Nat) : Int) + 1).toNat = L + (m + 1) by omega, show (((L + m : Nat) : Int) + 2).toNat = L + (m + 2) by omega, show (((L + m : Nat) : Int) + 3).toNat = L + (m + 3) by omega, gX_s, gX_s, gX_s, gX_s, show (((L + m : Nat) : Int) + 4) = ((L + (m + 4) : Nat) : Int) by omega]
/-- the shift of a byte -/
def shf (i : Nat) : Int32 := zi (24 - 8 * ((i : Int) % 4))
theorem x_feed (k7 : mK M 0 = 7) (r0 : mR M 0 0 = some 1) (k11 : mK M 1 = 11) (l7 : mL M 1 = 700) {L : Nat} (hL : L + 20 ≤ 700) (hI : mI M 0 1 = zi (L : Int)) (hn : 4 < n) : g_X9_feed n M 0 a1 a2 a3 a4 a5 = some (zi ((L + 20 : Nat) : Int), fX M (gX (mI M 1) L (fun i => bX (sel a1 a2 a3 a4 a5 i) (shf i)) 20) (zi ((L + 20 : Nat) : Int))) := by
  have e0 : M = fX M (gX (mI M 1) L (fun i => bX (sel a1 a2 a3 a4 a5 i) (shf i)) 0) (zi ((L + 0 : Nat) : Int)) := by
    rw [gX_0]
    unfold fX
    refine Prod.ext rfl (Prod.ext rfl (Prod.ext rfl (Prod.ext rfl (Prod.ext ?_ rfl))))
    funext x j
    show mI M x j = (if x = 1 then mI M 1 j else if x = 0 ∧ j = 1 then zi ((L + 0 : Nat) : Int) else mI M x j)
    by_cases c : x = 1
    · rw [if_pos c, c]
    · rw [if_neg c]
      by_cases d : x = 0 ∧ j = 1
      · rw [if_pos d, d.1, d.2, hI]
        rfl
      · rw [if_neg d]
  have q : ∀ (m : Nat) (a : Int32), m + 4 ≤ 20 → (sel a1 a2 a3 a4 a5 m = a ∧ sel a1 a2 a3 a4 a5 (m + 1) = a ∧ sel a1 a2 a3 a4 a5 (m + 2) = a ∧ sel a1 a2 a3 a4 a5 (m + 3) = a) → (m % 4 = 0) → g_X9_addFourBytes n (fX M (gX (mI M 1) L (fun i => bX (sel a1 a2 a3 a4 a5 i) (shf i)) m) (zi ((L + m : Nat) : Int))) 0 a = some ((), fX M (gX (mI M 1) L (fun i => bX (sel a1 a2 a3 a4 a5 i) (shf i)) (m + 4)) (zi ((L + (m + 4) : Nat) : Int))) := fun m a hm hs h4 => by
    refine x_four2 k7 r0 k11 l7 (by omega) hn ?_ ?_ ?_ ?_
    · rw [hs.1, show shf m = 24 from congrArg zi (show (24 - 8 * ((m : Int) % 4)) = 24 by omega)]
    · rw [hs.2.1, show shf (m + 1) = 16 from congrArg zi (show (24 - 8 * (((m + 1 : Nat) : Int) % 4)) = 16 by omega)]
    · rw [hs.2.2.1, show shf (m + 2) = 8 from congrArg zi (show (24 - 8 * (((m + 2 : Nat) : Int) % 4)) = 8 by omega)]
    · rw [hs.2.2.2, show shf (m + 3) = 0 from congrArg zi (show (24 - 8 * (((m + 3 : Nat) : Int) % 4)) = 0 by omega)]
  have q0 := q 0 a1 (by omega) ⟨rfl, rfl, rfl, rfl⟩ rfl
  rw [← e0] at q0
  have q1 := q 4 a2 (by omega) ⟨rfl, rfl, rfl, rfl⟩ rfl
  have q2 := q 8 a3 (by omega) ⟨rfl, rfl, rfl, rfl⟩ rfl
  have q3 := q 12 a4 (by omega) ⟨rfl, rfl, rfl, rfl⟩ rfl
  have q4 := q 16 a5 (by omega) ⟨rfl, rfl, rfl, rfl⟩ rfl
  have el : (zi (L : Int) + 20 ≤ 700) = (L + 20 ≤ 700) := by
    show (zi (L : Int) + zi 20 ≤ zi 700) = _
    rw [zi_add, zi_le (by omega) (by omega) (by omega) (by omega)]
    exact propext (by omega)
  have kk : ∀ g w, mK (fX M g w) 0 = 7 := fun _ _ => k7
  unfold g_X9_feed
  rw [i_gI k7, i_sb, hI, if_pos (by rw [el]; exact hL), i_chk k7, q0, i_bd, i_chk (kk _ _), q1, i_bd, i_chk (kk _ _), q2, i_bd, i_chk (kk _ _), q3, i_bd, i_chk (kk _ _), q4, i_bd, i_gI (kk _ _), i_sb]
  rfl
theorem fM_set {g : Nat → Int32} {v : Int32} {k : Nat} : sI (fM M g) 140 k v = fM M (up1 g k v) := by
  unfold fM sI
  refine Prod.ext rfl (Prod.ext rfl (Prod.ext rfl (Prod.ext rfl (Prod.ext ?_ rfl))))
  funext x j
  show (if x = 140 ∧ j = k then v else if x = 140 then g j else M.2.2.2.2.1 x j) = (if x = 140 then (if j = k then v else g j) else M.2.2.2.2.1 x j)
  by_cases c1 : x = 140
  · subst c1
    by_cases c2 : j = k
    · simp [c2]
    · simp [c2]
  · simp [c1]
theorem m_feed (hS : MShape M) {L : Nat} (hL : L + 20 ≤ 700) (hI : mI M 139 1 = zi (L : Int)) (hn : 20 < n) : g_X10_feed n M 139 a1 a2 a3 a4 a5 = some (zi ((L + 20 : Nat) : Int), sI (fM (sI M 139 2 0) (gX (mI M 140) L (fun i => bM (sel a1 a2 a3 a4 a5 i) (shf i)) 20)) 139 1 (zi ((L + 20 : Nat) : Int))) := by
  have k8 : mK M 139 = 8 := hS.1
  have e0 : sI M 139 2 0 = fM (sI M 139 2 0) (gX (mI M 140) L (fun i => bM (sel a1 a2 a3 a4 a5 i) (shf i)) 0) := by
    rw [gX_0]
    unfold fM
    refine Prod.ext rfl (Prod.ext rfl (Prod.ext rfl (Prod.ext rfl (Prod.ext ?_ rfl))))
    funext x j
    show mI (sI M 139 2 0) x j = (if x = 140 then mI M 140 j else mI (sI M 139 2 0) x j)
    by_cases c : x = 140
    · rw [if_pos c, c, sI_ne (by omega)]
    · rw [if_neg c]
  have i1 : ∀ g, mI (fM (sI M 139 2 0) g) 139 1 = zi (L : Int) := fun g => by rw [fM_I, if_neg (by omega), sI_ne (by omega), hI]
  have el : (zi (L : Int) + 20 ≤ 700) = (L + 20 ≤ 700) := by
    show (zi (L : Int) + zi 20 ≤ zi 700) = _
    rw [zi_add, zi_le (by omega) (by omega) (by omega) (by omega)]
    exact propext (by omega)
  have kk : ∀ g, mK (fM (sI M 139 2 0) g) 139 = 8 := fun _ => k8
  have o0 : ∀ g, gO (fM (sI M 139 2 0) g) 8 139 0 = some 140 := fun g => i_gO (kk g) hS.2.1.1
  have hl : (mL M 140 : Int) = 700 := by rw [hS.2.2.2.1]; rfl
  have key := loop_k (step := fun (s : MemT × Int32) => (fun (M3 : MemT) (v4 : Int32) => (if 20 ≤ v4 then some (.inr (M3, v4)) else jp (fun (s : MemT × Int32) => (fun (M7 : MemT) (v8 : Int32) => (gO M7 8 139 0).bind (fun j9 => (gI M7 8 139 1).bind (fun v10 => (if (4 : Int32) = 0 then none else (wI M7 j9 (v10 + v4) ((v8 >>> ((24 - (8 * (v4 - v4 / 4 * 4))) &&& 31)) &&& 255)).bind (fun M11 => (some (.inl (M11, v4 + 1)) : Option ((MemT × Int32) ⊕ (MemT × Int32)))))))) s.1 s.2) (fun K6 => (if 4 ≤ v4 then (if 8 ≤ v4 then (if 12 ≤ v4 then (if 16 ≤ v4 then K6 (M3, a5) else K6 (M3, a4)) else K6 (M3, a3)) else K6 (M3, a2)) else K6 (M3, a1))))) s.1 s.2) (fun i : Nat => (fM (sI M 139 2 0) (gX (mI M 140) L (fun i => bM (sel a1 a2 a3 a4 a5 i) (shf i)) i), zi (i : Int))) (fM (sI M 139 2 0) (gX (mI M 140) L (fun i => bM (sel a1 a2 a3 a4 a5 i) (shf i)) 20), zi 20) 20 (fun i hi => ?_) ?_ n hn
  · unfold g_X10_feed
    dsimp only at key
    rw [i_pI k8, i_sb, i_gI (M := sI M 139 2 0) k8, i_sb, sI_ne (by omega), hI, if_pos (by rw [el]; exact hL)]
    rw [show (sI M 139 2 0, (0 : Int32)) = (fM (sI M 139 2 0) (gX (mI M 140) L (fun i => bM (sel a1 a2 a3 a4 a5 i) (shf i)) 0), zi ((0 : Nat) : Int)) from congrArg (fun z => (z, (0 : Int32))) e0, key, i_sb]
    dsimp only
    rw [i_gI (kk _), i_sb, i1, i_pI (kk _), i_sb]
    have e20 : zi (L : Int) + 20 = zi ((L + 20 : Nat) : Int) := zi_add (L : Int) 20
    rw [e20, i_gI (M := sI (fM (sI M 139 2 0) (gX (mI M 140) L (fun i => bM (sel a1 a2 a3 a4 a5 i) (shf i)) 20)) 139 1 (zi ((L + 20 : Nat) : Int))) k8, i_sb, sI_at]
  · dsimp only
    have es : zi (i : Int) - zi (i : Int) / 4 * 4 = zi ((i : Int) % 4) := zi_rem (m := 4) (by omega) (by omega) (by omega) (by omega)
    have e8 : (24 : Int32) - 8 * zi ((i : Int) % 4) = shf i := by
      show zi 24 - zi 8 * zi ((i : Int) % 4) = _
      rw [zi_mul, zi_sub]
      rfl
    have le : ∀ c : Int, 0 ≤ c → c ≤ 100 → (zi c ≤ zi (i : Int)) = (c ≤ i) := fun c c0 c1 => zi_le (by omega) (by omega) (by omega) (by omega)
    have fin : ∀ v, v = sel a1 a2 a3 a4 a5 i → (gO (fM (sI M 139 2 0) (gX (mI M 140) L (fun i => bM (sel a1 a2 a3 a4 a5 i) (shf i)) i)) 8 139 0).bind (fun j9 => (gI (fM (sI M 139 2 0) (gX (mI M 140) L (fun i => bM (sel a1 a2 a3 a4 a5 i) (shf i)) i)) 8 139 1).bind (fun v10 => (if (4 : Int32) = 0 then none else (wI (fM (sI M 139 2 0) (gX (mI M 140) L (fun i => bM (sel a1 a2 a3 a4 a5 i) (shf i)) i)) j9 (v10 + zi (i : Int)) ((v >>> ((24 - (8 * (zi (i : Int) - zi (i : Int) / 4 * 4))) &&& 31)) &&& 255)).bind (fun M11 => (some (.inl (M11, zi (i : Int) + 1)) : Option ((MemT × Int32) ⊕ (MemT × Int32))))))) = some (.inl (fM (sI M 139 2 0) (gX (mI M 140) L (fun i => bM (sel a1 a2 a3 a4 a5 i) (shf i)) (i + 1)), zi ((i + 1 : Nat) : Int))) := fun v hv => by
      rw [o0, i_sb, i_gI (kk _), i_sb, i1, if_neg (by decide), zi_add, es, e8, i_wI (M := fM (sI M 139 2 0) _) (N := 700) hS.2.2.1.1 hl (by omega) (by omega) (by omega), i_sb, fM_set, hv, show ((L : Int) + (i : Int)).toNat = L + i by omega, show zi (i : Int) + 1 = zi ((i + 1 : Nat) : Int) from zi_add (i : Int) 1]
      rw [show (sel a1 a2 a3 a4 a5 i >>> (shf i &&& 31)) &&& 255 = (fun i => bM (sel a1 a2 a3 a4 a5 i) (shf i)) i from rfl, gX_s]
    rw [if_neg (by show ¬ (zi 20 ≤ zi (i : Int)); rw [le 20 (by omega) (by omega)]; omega)]
    rw [i_jp]
    by_cases c1 : 4 ≤ i
    · rw [if_pos (by show zi 4 ≤ zi (i : Int); rw [le 4 (by omega) (by omega)]; omega)]
      by_cases c2 : 8 ≤ i
      · rw [if_pos (by show zi 8 ≤ zi (i : Int); rw [le 8 (by omega) (by omega)]; omega)]
        by_cases c3 : 12 ≤ i
        · rw [if_pos (by show zi 12 ≤ zi (i : Int); rw [le 12 (by omega) (by omega)]; omega)]
          by_cases c4 : 16 ≤ i
          · rw [if_pos (by show zi 16 ≤ zi (i : Int); rw [le 16 (by omega) (by omega)]; omega)]
            exact fin a5 (by unfold sel; rw [if_neg (by omega), if_neg (by omega), if_neg (by omega), if_neg (by omega)])
          · rw [if_neg (by show ¬ (zi 16 ≤ zi (i : Int)); rw [le 16 (by omega) (by omega)]; omega)]
            exact fin a4 (by unfold sel; rw [if_neg (by omega), if_neg (by omega), if_neg (by omega), if_pos (by omega)])
        · rw [if_neg (by show ¬ (zi 12 ≤ zi (i : Int)); rw [le 12 (by omega) (by omega)]; omega)]
          exact fin a3 (by unfold sel; rw [if_neg (by omega), if_neg (by omega), if_pos (by omega)])
      · rw [if_neg (by show ¬ (zi 8 ≤ zi (i : Int)); rw [le 8 (by omega) (by omega)]; omega)]
        exact fin a2 (by unfold sel; rw [if_neg (by omega), if_pos (by omega)])
    · rw [if_neg (by show ¬ (zi 4 ≤ zi (i : Int)); rw [le 4 (by omega) (by omega)]; omega)]
      exact fin a1 (by unfold sel; rw [if_pos (by omega)])
  · dsimp only
    rw [if_pos (by show zi 20 ≤ zi ((20 : Nat) : Int); exact Int32.le_refl _)]
    rfl
end M20
section M20R
variable {M : MemT} {r s q : Nat} {P : Nat → Nat} {old cnt tl kp nt U : Int} {T tr sl bu as B Bi : Int → Int} {Bs : Nat → Int → Int} {n : Nat}
theorem TOP_tp (h : TOP M r s q P old cnt tl kp nt T tr sl bu as B Bi Bs U) {M2 : MemT} {tl2 : Int} (hS : ∀ y, SE M M2 y) (hN : mN M2 = mN M) (ht2 : 0 ≤ tl2 ∧ tl2 ≤ 700) (h1 : mI M2 0 1 = zi tl2 ∧ mI M2 139 1 = zi tl2) (htp : ∀ k : Nat, k < 700 → ∃ x : Int, (-128 ≤ x ∧ x < 128) ∧ mI M2 1 k = zi x ∧ mI M2 140 k = zi (if x < 0 then x + 256 else x)) (e : ∀ y k, ¬ scr y k → y ≠ 1 → y ≠ 140 → ¬ (y = 0 ∧ k = 1) → ¬ (y = 139 ∧ k = 1) → mI M2 y k = mI M y k) : TOP M2 r s q P old cnt tl2 kp nt T tr sl bu as B Bi Bs U := by
  obtain ⟨tS, hP, hD, hU, hR0, hB0, hM, hb0, hI, hu, hi⟩ := h
  have h150 := hP.2.2.2.1
  have hrs := tS.2.2.2.2.2.2.1
  refine ⟨TSh_f tS (fun y _ _ => hS y), PGe_f hP (by omega) (fun y _ => hS y), hD, RU_f hU (fun y g1 g2 => funext fun k => e y k (by unfold scr; omega) (by omega) (by omega) (by omega) (by omega)), RBk_c hR0 (fun o ho => funext fun k => e _ k (by unfold scr; omega) (by omega) (by omega) (by omega) (by omega)) (BI_8 hB0).2, hB0, ?_, fun j j0 j1 => (e 147 _ (by unfold scr; omega) (by omega) (by omega) (by omega) (by omega)).trans (hb0 j j0 j1), ?_, UDs_f hu ⟨hI.2.1.1.1, hI.2.1.1.2, hI.2.1.2.2⟩ hP (fun y k g1 g2 g3 => e y k g3 (by omega) (by omega) (by omega) (by omega)), IMs_f hi hP (fun y k g1 g2 g3 => e y k g3 (by omega) (by omega) (by omega) (by omega))⟩
  · obtain ⟨hS0, hb, hb1, hn, h1, h2, h3, h4, h5⟩ := hM
    exact ⟨MShape_f hS0 (fun y _ _ => hS y), (e 139 21 (by unfold scr; omega) (by omega) (by omega) (by omega) (by omega)).trans hb, hb1, (e 139 11 (by unfold scr; omega) (by omega) (by omega) (by omega) (by omega)).trans hn, fun k k0 k1 => (e _ _ (by unfold scr; omega) (by omega) (by omega) (by omega) (by omega)).trans (h1 k k0 k1), fun k k0 k1 => (e _ _ (by unfold scr; omega) (by omega) (by omega) (by omega) (by omega)).trans (h2 k k0 k1), fun k k0 k1 => (e _ _ (by unfold scr; omega) (by omega) (by omega) (by omega) (by omega)).trans (h3 k k0 k1), fun k k0 k1 => (e _ _ (by unfold scr; omega) (by omega) (by omega) (by omega) (by omega)).trans (h4 k k0 k1), fun k k0 k1 => (e _ _ (by unfold scr; omega) (by omega) (by omega) (by omega) (by omega)).trans (h5 k k0 k1)⟩
  · obtain ⟨⟨a1, a2, a3⟩, hr, ⟨b1, b2⟩, -, ⟨d1, d2, d3⟩, -, hw⟩ := hI
    have g : ∀ y k, y < 147 → y ≠ 73 → (y < 85 ∨ 137 ≤ y) → (y ≠ 139 ∨ k = 4 ∨ k = 5 ∨ k = 11 ∨ k = 21 ∨ k = 22 ∨ k = 23) → y ≠ 1 → y ≠ 140 → ¬ (y = 0 ∧ k = 1) → mI M2 y k = mI M y k := fun y k q1 q2 q3 q4 q5 q6 q7 => e y k (by unfold scr; omega) q5 q6 q7 (by omega)
    refine ⟨⟨(g _ _ (by omega) (by omega) (by omega) (by omega) (by omega) (by omega) (by omega)).trans a1, (g _ _ (by omega) (by omega) (by omega) (by omega) (by omega) (by omega) (by omega)).trans a2, (g _ _ (by omega) (by omega) (by omega) (by omega) (by omega) (by omega) (by omega)).trans a3⟩, hr, ⟨?_, ?_⟩, ⟨h1.1, h1.2, ht2⟩, ⟨(g _ _ (by omega) (by omega) (by omega) (by omega) (by omega) (by omega) (by omega)).trans d1, (g _ _ (by omega) (by omega) (by omega) (by omega) (by omega) (by omega) (by omega)).trans d2, d3⟩, htp, ⟨fun k hk => (g _ _ (by omega) (by omega) (by omega) (by omega) (by omega) (by omega) (by omega)).trans (hw.1 k hk), TR2_f hw.2 (fun k => g _ _ (by omega) (by omega) (by omega) (by omega) (by omega) (by omega) (by omega))⟩⟩
    · rw [g 2 0 (by omega) (by omega) (by omega) (by omega) (by omega) (by omega) (by omega), g 139 4 (by omega) (by omega) (by omega) (by omega) (by omega) (by omega) (by omega), b1]
    · rw [g 2 1 (by omega) (by omega) (by omega) (by omega) (by omega) (by omega) (by omega), g 139 5 (by omega) (by omega) (by omega) (by omega) (by omega) (by omega) (by omega), b2]
theorem r_feed (h : TOP M r s q P old cnt tl kp nt T tr sl bu as B Bi Bs U) (hU2 : U ≤ 99000000) (hn : 100000010 < n) (x1 x2 x3 x4 x5 : Int32) : RunsTo (fun M => g_X9_feed n M 0 x1 x2 x3 x4 x5) (fun M => g_X10_feed n M 139 x1 x2 x3 x4 x5) M (U + 100000) := by
  obtain ⟨tS, hP, hD, hU, hR0, hB0, hM, hb0, hI, hu, hi⟩ := id h
  obtain ⟨-, -, -, ⟨c1, c2, c3, c4⟩, -, ht, -⟩ := id hI
  have k7 := tS.1.1
  have k8 : mK M 139 = 8 := hM.1.1
  have el : (zi tl + 20 ≤ 700) = (tl + 20 ≤ 700) := by
    show (zi tl + zi 20 ≤ zi 700) = _
    rw [zi_add, zi_le (by omega) (by omega) (by omega) (by omega)]
  by_cases c : tl + 20 ≤ 700
  · have e1 : ((tl.toNat : Nat) : Int) = tl := by omega
    have gx := x_feed (n := n) (a1 := x1) (a2 := x2) (a3 := x3) (a4 := x4) (a5 := x5) (L := tl.toNat) k7 tS.1.2.1 tS.2.1.1 tS.2.1.2 (by omega) (by rw [e1]; exact c1) (by omega)
    generalize hM1 : fX M (gX (mI M 1) tl.toNat (fun i => bX (sel x1 x2 x3 x4 x5 i) (shf i)) 20) (zi ((tl.toNat + 20 : Nat) : Int)) = M1 at gx
    have i1 : ∀ y k, mI M1 y k = if y = 1 then gX (mI M 1) tl.toNat (fun i => bX (sel x1 x2 x3 x4 x5 i) (shf i)) 20 k else if y = 0 ∧ k = 1 then zi ((tl.toNat + 20 : Nat) : Int) else mI M y k := fun y k => by rw [← hM1]; rfl
    have S1 : ∀ y, SE M M1 y := fun y => by rw [← hM1]; exact ⟨rfl, rfl, fun _ => rfl⟩
    have gm := m_feed (n := n) (M := M1) (a1 := x1) (a2 := x2) (a3 := x3) (a4 := x4) (a5 := x5) (L := tl.toNat) (MShape_f hM.1 (fun y _ _ => S1 y)) (by omega) (by rw [i1, if_neg (by omega), if_neg (by omega), e1]; exact c2) (by omega)
    have e140 : mI M1 140 = mI M 140 := funext fun k => by rw [i1, if_neg (by omega), if_neg (by omega)]
    rw [e140] at gm
    have i2 : ∀ y k, mI (sI (fM (sI M1 139 2 0) (gX (mI M 140) tl.toNat (fun i => bM (sel x1 x2 x3 x4 x5 i) (shf i)) 20)) 139 1 (zi ((tl.toNat + 20 : Nat) : Int))) y k = if y = 139 ∧ k = 1 then zi ((tl.toNat + 20 : Nat) : Int) else if y = 140 then gX (mI M 140) tl.toNat (fun i => bM (sel x1 x2 x3 x4 x5 i) (shf i)) 20 k else if y = 139 ∧ k = 2 then 0 else mI M1 y k := fun y k => rfl
    have hN2 : mN M1 = mN M := by rw [← hM1]; rfl
    have hT : TOP (sI (fM (sI M1 139 2 0) (gX (mI M 140) tl.toNat (fun i => bM (sel x1 x2 x3 x4 x5 i) (shf i)) 20)) 139 1 (zi ((tl.toNat + 20 : Nat) : Int))) r s q P old cnt (tl + 20) kp nt T tr sl bu as B Bi Bs U := by
      refine TOP_tp h (fun y => SE_t (S1 y) ⟨rfl, rfl, fun _ => rfl⟩) hN2 (by omega) ⟨?_, ?_⟩ (fun k hk => ?_) (fun y k q1 q2 q3 q4 q5 => ?_)
      · rw [i2, if_neg (by omega), if_neg (by omega), if_neg (by omega), i1, if_neg (by omega), if_pos ⟨rfl, rfl⟩]
        exact congrArg zi (by omega)
      · rw [i2, if_pos ⟨rfl, rfl⟩]
        exact congrArg zi (by omega)
      · rw [i2, if_neg (by omega), if_neg (by omega), if_neg (by omega), i1, if_pos rfl, i2, if_neg (by omega), if_pos rfl]
        unfold gX
        by_cases d : tl.toNat ≤ k ∧ k < tl.toNat + 20
        · rw [if_pos d, if_pos d]
          exact byte_r _
        · rw [if_neg d, if_neg d]
          exact ht k hk
      · unfold scr at q1
        rw [i2, if_neg q5, if_neg q3, if_neg (by omega), i1, if_neg q2, if_neg q4]
    exact ⟨_, M1, _, gx, (S1 139).1.trans k8, gm, TOP_E (TOP_U hT hU2)⟩
  · refine ⟨zi (-1), M, sI M 139 2 0, ?_, k8, ?_, TOP_E (TOP_U (top_M0 h) hU2)⟩
    · show g_X9_feed n M 0 x1 x2 x3 x4 x5 = _
      unfold g_X9_feed
      rw [i_gI k7, i_sb, c1, if_neg (by rw [el]; exact c)]
      rfl
    · show g_X10_feed n M 139 x1 x2 x3 x4 x5 = _
      unfold g_X10_feed
      rw [i_pI k8, i_sb, i_gI (M := sI M 139 2 0) k8, i_sb, sI_ne (by omega), c2, if_neg (by rw [el]; exact c)]
      rfl
end M20R
