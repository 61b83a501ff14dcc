/-! ===== PURE 52: bestWait ===== -/
def bwV (T B : Int → Int) (a w b aj : Int) (i : Nat) : Int := aj * i + lastZ T B a (AtZ B a 4 - 1 - AtZ B a 47 - i) w b
def bwM (T B : Int → Int) (a w b aj d : Int) (k : Nat) : Int := if k = 0 then 0 else (bwZ (bwV T B a w b aj) k).2 + aj * d
theorem lastZ_r2 {T B : Int → Int} {a d k b : Int} (hT : told3 T) (hA : AO B a) (hd : -10 ≤ d ∧ d ≤ 10) (hb : 0 ≤ b ∧ b ≤ 1000) : -999990001 ≤ lastZ T B a d k b ∧ lastZ T B a d k b ≤ 999990001 := by
  have hs := spanT hT hA
  have c3 := hA.2.2.2.1
  have t1 := hT.2.1
  have hp1 := mul_rng (a := AtZ B a 3) (b := d) (x := 99999) (y := 10) (by omega) (by omega) (by omega) (by omega)
  have hg : -1000 ≤ (if k = 0 then T 1 else 0) - b ∧ (if k = 0 then T 1 else 0) - b ≤ 1000 := by split <;> omega
  have hp := mul_rng (a := AtZ B a 3 * d) (b := (if k = 0 then T 1 else 0) - b) (x := 999990) (y := 1000) (by omega) (by omega) hg.1 hg.2
  have hc := cutZ_abs (w := T 0) (a := AtZ B a 3 * d * ((if k = 0 then T 1 else 0) - b)) hs.1
  unfold lastZ
  omega
theorem bwV_r {T B : Int → Int} {a w b aj : Int} {i : Nat} (hT : told3 T) (hA : AO B a) (hb : 0 ≤ b ∧ b ≤ 1000) (haj : -99999001 ≤ aj ∧ aj ≤ 99999001) (hi : (i : Int) ≤ AtZ B a 4 - 1 - AtZ B a 47) (h47 : 0 ≤ AtZ B a 47) : -1899981010 ≤ bwV T B a w b aj i ∧ bwV T B a w b aj i ≤ 1899981010 := by
  have c4 := hA.2.2.2.2.1
  have hl := lastZ_r2 (d := AtZ B a 4 - 1 - AtZ B a 47 - i) (k := w) (b := b) hT hA (by omega) hb
  have hp := mul_rng (a := aj) (b := (i : Int)) (x := 99999001) (y := 9) (by omega) (by omega) (by omega) (by omega)
  unfold bwV
  omega
theorem jp_d {σ τ : Type} {p : Prop} [Decidable p] {m : σ} {x y z : Int32} {K : σ × Int32 → Option τ} (h1 : p → y = z) (h2 : ¬ p → x = z) : jp K (fun K25 => if bI2 p = 0 then K25 (m, x) else K25 (m, y)) = K (m, z) := by
  rw [i_jp]
  by_cases c : p
  · rw [if_neg (show ¬ (bI2 p = (0 : Int32)) from fun q => ((bI_0 _).mp q) c), h1 c]
  · rw [if_pos (show bI2 p = (0 : Int32) from (bI_0 _).mpr c), h2 c]
section Q13
variable {M M' : MemT} {c r : Nat} {R : Nat → Nat → Int32} {F : Nat → Int32} {S S' : Int → Int} {n : Nat} {T tr sl bu as B : Int → Int} {nt U ho ha : Int} {sm : Int32}
theorem xq_bw (hx : XQr M c r R nt T tr sl bu as B U) (hm : MQr M' nt T tr sl bu as B U) {a' : Nat} (c1 : (a' : Int) < B 1865) (hn : 20 < n) {w b aj : Int} (hw : 0 ≤ w ∧ w ≤ 1) (hb : 0 ≤ b ∧ b ≤ 1000) (haj : -99999001 ≤ aj ∧ aj ≤ 99999001) : loopF (fun (s : MemT × Int32 × Int32 × Int32) => (fun (M21 : MemT) (v22 : Int32) (v23 : Int32) (v24 : Int32) => chk M21 0 (c + 10 + 10 + 5 * a') (bd (g_X1_intervalsBehind n M21 (c + 10 + 10 + 5 * a')) (fun r26 M27 => (if r26 < v24 then some (.inr (M27, v22, v23, v24)) else (gO M27 7 0 4).bind (fun j28 => chk M27 0 (c + 10 + 10 + 5 * a') (bd (g_X1_intervalsBehind n M27 (c + 10 + 10 + 5 * a')) (fun r29 M30 => chk M30 2 j28 (bd (g_X3_finalFor n M30 j28 (c + 10 + 10 + 5 * a') (zi w) (r29 - v24) (zi b)) (fun r31 M32 => jp (fun (s : MemT) => (fun (M34 : MemT)  => some (.inl (M34, v24, ((zi aj) * v24) + r31, v24 + 1))) s) (fun K33 => (if v24 = 0 then K33 M32 else (if (((zi aj) * v24) + r31) ≤ v23 then some (.inl (M32, v22, v23, v24 + 1)) else K33 M32)))))))))))) s.1 s.2.1 s.2.2.1 s.2.2.2) n (WX M c R F S, 0, 0, 0) = some (WX M c R F S, zi (bwZ (bwV T B a' w b aj) (AtZ B a' 4 - 1 - AtZ B a' 47 + 1).toNat).1, zi (bwZ (bwV T B a' w b aj) (AtZ B a' 4 - 1 - AtZ B a' 47 + 1).toNat).2, zi ((AtZ B a' 4 - 1 - AtZ B a' 47 + 1).toNat : Int)) := by
  have h8 := mq_8 hm
  have a8 : a' < 8 := by omega
  have hT := hm.2.2.1
  have ra := hx.2.1.2.2.1.2.2 a' c1
  have ax := mq_A hm (show (0 : Int) ≤ a' by omega) c1
  have e47 := ax.1.2.2.2.2.2.2.2.2.2.2.2.2
  have e4 := ax.1.2.2.2.2.1
  rw [show (WX M c R F S, (0 : Int32), (0 : Int32), (0 : Int32)) = (fun i : Nat => (WX M c R F S, zi (bwZ (bwV T B a' w b aj) i).1, zi (bwZ (bwV T B a' w b aj) i).2, zi (i : Int))) 0 from rfl]
  refine loop_k (fun i : Nat => (WX M c R F S, zi (bwZ (bwV T B a' w b aj) i).1, zi (bwZ (bwV T B a' w b aj) i).2, zi (i : Int))) _ (AtZ B a' 4 - 1 - AtZ B a' 47 + 1).toNat (fun i hi => ?_) ?_ n (by omega)
  · have g2 := c_finalFor (n := n) (R := R) (F := F) (S := S) (a := a') (d := AtZ B a' 4 - 1 - AtZ B a' 47 - i) (k := w) (b := b) (xq_C hx) (xq_U hx) hT a8 ra.1.2.2.2.1 ra.1.2.2.2.2.1 ax.1 (by omega) (by omega) hb
    have ev : zi aj * zi (i : Int) + zi (lastZ T B a' (AtZ B a' 4 - 1 - AtZ B a' 47 - i) w b) = zi (bwV T B a' w b aj i) := by rw [zi_mul, zi_add]; rfl
    have hr := bwV_r (w := w) (b := b) (i := i) hT ax.1 hb haj (by omega) (by omega)
    have hbr := bwZ_r (val := bwV T B a' w b aj) (lo := -1899981010) (hi := 1899981010) (by omega) i (fun j hj => bwV_r (w := w) (b := b) (i := j) hT ax.1 hb haj (by omega) (by omega))
    have ei : zi (i : Int) + 1 = zi ((i + 1 : Nat) : Int) := zi_add (i : Int) 1
    dsimp only
    rw [c_kA (xq_C hx) a8, xq_behind hx c1, i_bd, if_neg (by rw [zi_lt (by omega) (by omega) (by omega) (by omega)]; omega), xq_o4 hx, i_sb, c_kA (xq_C hx) a8, xq_behind hx c1, i_bd, c_kC (xq_C hx), zi_sub, g2, i_bd, i_jp, ev, ei]
    show _ = some (Sum.inl (WX M c R F S, zi (if i = 0 ∨ (bwZ (bwV T B a' w b aj) i).2 < bwV T B a' w b aj i then ((i : Int), bwV T B a' w b aj i) else bwZ (bwV T B a' w b aj) i).1, zi (if i = 0 ∨ (bwZ (bwV T B a' w b aj) i).2 < bwV T B a' w b aj i then ((i : Int), bwV T B a' w b aj i) else bwZ (bwV T B a' w b aj) i).2, zi ((i + 1 : Nat) : Int)))
    have e0 : (zi (i : Int) = 0) = ((i : Int) = 0) := zi_eq (b := 0) (by omega) (by omega) (by omega) (by omega)
    by_cases d0 : i = 0
    · rw [if_pos (by rw [e0]; omega), if_pos (Or.inl d0)]
    · rw [if_neg (by rw [e0]; omega)]
      by_cases d1 : (bwZ (bwV T B a' w b aj) i).2 < bwV T B a' w b aj i
      · rw [if_neg (by rw [zi_le (by omega) (by omega) (by omega) (by omega)]; omega), if_pos (Or.inr d1)]
      · rw [if_pos (by rw [zi_le (by omega) (by omega) (by omega) (by omega)]; omega), if_neg (by omega)]
  · dsimp only
    rw [c_kA (xq_C hx) a8, xq_behind hx c1, i_bd, if_pos (by rw [zi_lt (by omega) (by omega) (by omega) (by omega)]; omega)]
theorem mq_bw (hm0 : MQr M' nt T tr sl bu as B U) {a' : Nat} (c1 : (a' : Int) < B 1865) (h9 : AtZ B a' 9 ≠ 1) (hn : 20 < n) {w b aj : Int} (hw : 0 ≤ w ∧ w ≤ 1) (hb : 0 ≤ b ∧ b ≤ 1000) (haj : -99999001 ≤ aj ∧ aj ≤ 99999001) : ∃ v, loopF (fun (s : MemT × Int32 × Int64 × Int32) => (fun (M16 : MemT) (v17 : Int32) (v18 : Int64) (v19 : Int32) => chk M16 8 139 (bd (g_X10_behindOf n M16 139 (zi (a' : Int))) (fun r21 M22 => (if r21 < v19 then some (.inr (M22, v17, v18, v19)) else chk M22 8 139 (bd (g_X10_isThrough n M22 139 (zi (a' : Int))) (fun r23 M24 => jp (fun (s : MemT × Int32) => (fun (M26 : MemT) (v27 : Int32) => chk M26 8 139 (bd (g_X10_behindOf n M26 139 (zi (a' : Int))) (fun r28 M29 => chk M29 8 139 (bd (g_X10_lastBy n M29 139 (zi (a' : Int)) (r28 - v19) (zi w) (zi b)) (fun r30 M31 => jp (fun (s : MemT) => (fun (M33 : MemT)  => some (.inl (M33, v19, ((zj aj) * (Int32.toInt64 v27)) + r30, v19 + 1))) s) (fun K32 => (if v19 ≤ 0 then K32 M31 else (if 0 < (lg_cmp (((zj aj) * (Int32.toInt64 v27)) + r30) v18) then K32 M31 else some (.inl (M31, v17, v18, v19 + 1)))))))))) s.1 s.2) (fun K25 => (if r23 = 0 then K25 (M24, v19) else K25 (M24, v19 + 1))))))))) s.1 s.2.1 s.2.2.1 s.2.2.2) n (WC M' 0 B S ho ha sm, 0, 0, 0) = some (WC M' 0 B S ho ha sm, zi (bwZ (bwV T B a' w b aj) (AtZ B a' 4 - 1 - AtZ B a' 47 + 1).toNat).1, v, zi ((AtZ B a' 4 - 1 - AtZ B a' 47 + 1).toNat : Int)) := by
  have h8 := mq_8 hm0
  have hT := hm0.2.2.1
  have ax := mq_A hm0 (show (0 : Int) ≤ a' by omega) c1
  have e47 := ax.1.2.2.2.2.2.2.2.2.2.2.2.2
  have e4 := ax.1.2.2.2.2.1
  obtain ⟨d, hd, hd1⟩ : ∃ d : Int, d = (if 0 < AtZ B a' 47 then 1 else 0) ∧ (0 ≤ d ∧ d ≤ 1) := ⟨_, rfl, by split <;> omega⟩
  refine ⟨zj (bwM T B a' w b aj d (AtZ B a' 4 - 1 - AtZ B a' 47 + 1).toNat), ?_⟩
  rw [show (WC M' 0 B S ho ha sm, (0 : Int32), (0 : Int64), (0 : Int32)) = (fun i : Nat => (WC M' 0 B S ho ha sm, zi (bwZ (bwV T B a' w b aj) i).1, zj (bwM T B a' w b aj d i), zi (i : Int))) 0 from rfl]
  refine loop_k (fun i : Nat => (WC M' 0 B S ho ha sm, zi (bwZ (bwV T B a' w b aj) i).1, zj (bwM T B a' w b aj d i), zi (i : Int))) _ (AtZ B a' 4 - 1 - AtZ B a' 47 + 1).toNat (fun i hi => ?_) ?_ n (by omega)
  · have g2 := m_lastBy (n := n) (B := B) (S := S) (ho := ho) (ha := ha) (sm := sm) (a := (a' : Int)) (d := AtZ B a' 4 - 1 - AtZ B a' 47 - i) (k := w) (b := b) (mq_h hm0) hT (by omega) (by omega) ax.1 (by omega) (by omega) hb
    have ev : zj aj * (zi ((i : Int) + d)).toInt64 + zj (lastZ T B a' (AtZ B a' 4 - 1 - AtZ B a' 47 - i) w b) = zj (bwV T B a' w b aj i + aj * d) := by
      rw [zi_64 (by omega) (by omega), zj_mul, zj_add]
      unfold bwV
      rw [Int.mul_add]
      congr 1
      omega
    have hr := bwV_r (w := w) (b := b) (i := i) hT ax.1 hb haj (by omega) (by omega)
    have hbr := bwZ_r (val := bwV T B a' w b aj) (lo := -1899981010) (hi := 1899981010) (by omega) i (fun j hj => bwV_r (w := w) (b := b) (i := j) hT ax.1 hb haj (by omega) (by omega))
    have hp := mul_rng (a := aj) (b := d) (x := 99999001) (y := 1) (by omega) (by omega) (by omega) (by omega)
    have ei : zi (i : Int) + 1 = zi ((i + 1 : Nat) : Int) := zi_add (i : Int) 1
    have k1 : 0 < AtZ B a' 47 → zi (i : Int) + 1 = zi ((i : Int) + d) := fun q => by rw [hd, if_pos q]; exact zi_add (i : Int) 1
    have k2 : ¬ 0 < AtZ B a' 47 → zi (i : Int) = zi ((i : Int) + d) := fun q => by rw [hd, if_neg q, Int.add_zero]
    dsimp only
    rw [m_chk (mq_h hm0), mq_behind hm0 (by omega) c1 h9, i_bd, if_neg (by rw [zi_lt (by omega) (by omega) (by omega) (by omega)]; omega), m_chk (mq_h hm0), mq_thr hm0 (by omega) c1, i_bd, jp_d k1 k2]
    dsimp only
    rw [m_chk (mq_h hm0), mq_behind hm0 (by omega) c1 h9, i_bd, m_chk (mq_h hm0), zi_sub, g2, i_bd, i_jp, ev, ei]
    show _ = some (Sum.inl (WC M' 0 B S ho ha sm, zi (if i = 0 ∨ (bwZ (bwV T B a' w b aj) i).2 < bwV T B a' w b aj i then ((i : Int), bwV T B a' w b aj i) else bwZ (bwV T B a' w b aj) i).1, zj ((if i = 0 ∨ (bwZ (bwV T B a' w b aj) i).2 < bwV T B a' w b aj i then ((i : Int), bwV T B a' w b aj i) else bwZ (bwV T B a' w b aj) i).2 + aj * d), zi ((i + 1 : Nat) : Int)))
    have e0 : (zi (i : Int) ≤ 0) = ((i : Int) ≤ 0) := zi_le (b := 0) (by omega) (by omega) (by omega) (by omega)
    by_cases d0 : i = 0
    · rw [if_pos (by rw [e0]; omega), if_pos (Or.inl d0)]
    · rw [if_neg (by rw [e0]; omega), show bwM T B a' w b aj d i = (bwZ (bwV T B a' w b aj) i).2 + aj * d from if_neg d0]
      by_cases d1 : (bwZ (bwV T B a' w b aj) i).2 < bwV T B a' w b aj i
      · rw [if_pos (by rw [lg_gt, zj_lt (by omega) (by omega) (by omega) (by omega)]; omega), if_pos (Or.inr d1)]
      · rw [if_neg (by rw [lg_gt, zj_lt (by omega) (by omega) (by omega) (by omega)]; omega), if_neg (by omega)]
  · dsimp only
    rw [m_chk (mq_h hm0), mq_behind hm0 (by omega) c1 h9, i_bd, if_pos (by rw [zi_lt (by omega) (by omega) (by omega) (by omega)]; omega)]
theorem Q_bestWait (hx : XQr M c r R nt T tr sl bu as B U) (hm : MQr M' nt T tr sl bu as B U) (hn : 20 < n) {a : Int} {w : Int} (a1 : -2147483648 ≤ a) (a2 : a ≤ 2147483647) (w1 : -2147483648 ≤ w) (w2 : w ≤ 2147483647) : QP (g_X9_bestWait n (WX M c R F S) 0 (zi a) (zi w)) (g_X10_bestWait n (WC M' 0 B S' ho ha sm) 139 (zi a) (zi w)) M (sI M' 139 2 0) c R B := by
  have hm0 := mq_thr0 (v := zi 0) hm
  have hnt := hm.2.1
  have h8 := mq_8 hm
  obtain ⟨n1, n2⟩ := mq_N hm
  have hy : 0 ≤ yearZ B ∧ yearZ B < 16 := by unfold yearZ; omega
  have hT := hm.2.2.1
  have htr := hm.2.2.2.1
  have hAN := AN2_r (mq_N hm) hm.2.2.2.2.2.1.2.2.2.2.2.2.1
  have t1r := hT.2.1
  have t2r := hT.2.2
  have hmz := mq_thr0 (v := (0 : Int32)) hm
  have gX' : ∀ F S, g_X9_isIn n (WX M c R F S) (zi w) 0 1 = some (bI2 (0 ≤ w ∧ w ≤ 1), WX M c R F S) := fun F S => x_isIn2 (n := n) (x := w) (a := 0) (b := 1) w1 w2 (by omega) (by omega) (by omega) (by omega)
  have gM' : g_X10_isIn n (WC (sI M' 139 2 0) 0 B S' ho ha sm) (zi w) 0 1 = some (bI2 (0 ≤ w ∧ w ≤ 1), WC (sI M' 139 2 0) 0 B S' ho ha sm) := m_isIn2 (n := n) (x := w) (a := 0) (b := 1) w1 w2 (by omega) (by omega) (by omega) (by omega)
  by_cases c1 : 0 ≤ a ∧ a < B 1865
  · have z1 : bI2 (0 ≤ a ∧ a < B 1865) ≠ (0 : Int32) := fun q => ((bI_0 _).mp q) c1
    obtain ⟨a', rfl⟩ := Int.eq_ofNat_of_zero_le c1.1
    have a8 : a' < 8 := by omega
    have ra := hx.2.1.2.2.1.2.2 a' c1.2
    have ax := mq_A hm c1.1 c1.2
    have ef := fun S F => xq_freeAsset (n := n) (F := F) (S := S) hx (a := (a' : Int)) (by omega) (by omega)
    by_cases c2 : 0 ≤ w ∧ w ≤ 1
    · have z2 : bI2 (0 ≤ w ∧ w ≤ 1) ≠ (0 : Int32) := fun q => ((bI_0 _).mp q) c2
      by_cases c3 : ¬ (AtZ B a' 9 = 1 ∨ 0 < AtZ B a' 7)
      · have c9 : AtZ B a' 9 ≠ 1 := fun q => c3 (Or.inl q)
        have z3 : bI2 ((0 ≤ (a' : Int) ∧ (a' : Int) < B 1865) ∧ ¬ (AtZ B a' 9 = 1 ∨ 0 < AtZ B a' 7)) ≠ (0 : Int32) := fun q => ((bI_0 _).mp q) ⟨c1, c3⟩
        have z4 : bI2 (AtZ B a' 9 = 1 ∨ 0 < AtZ B a' 7) = (0 : Int32) := (bI_0 _).mpr c3
        obtain ⟨F1, S1, gx⟩ := c_baseNow (n := n) (F := F) (S := S) (a := a') hx.2.1 a8 ra ax.1 ax.2.1 (ax.2.2.2.1 c9).1 (by omega)
        obtain ⟨F2, S2, gw⟩ := c_worthNow (n := n) (F := F1) (S := S1) (a := a') (use := AtZ B a' 2) hx.2.1 a8 ra ax.1 ax.2.1 (ax.2.2.2.1 c9).1 (by omega) ax.1.2.2.1
        have hws := worthZ_rng (tr := tr) (use := AtZ B a' 2) hT (mq_BS hm) (mq_N hm) ax.1
        have e6 := ax.1.2.2.2.2.2.2.1
        have hbz : 0 ≤ basZ T tr B a' ∧ basZ T tr B a' ≤ 1000 := by
          unfold basZ
          split <;> omega
        have hwb : -1000 ≤ worthZ T tr B a' (AtZ B a' 2) - basZ T tr B a' ∧ worthZ T tr B a' (AtZ B a' 2) - basZ T tr B a' ≤ 1000 := by omega
        have hadj := adjZ_r hT ax.1 hwb
        have g2 := c_adjustedBy (n := n) (R := R) (F := F2) (S := S2) (a := a') (w := worthZ T tr B a' (AtZ B a' 2)) (b := basZ T tr B a') (xq_C hx) (xq_U hx) hT a8 ra.1.2.2.2.1 ra.1.2.2.2.2.1 ax.1 hwb
        obtain ⟨S3, ho3, ha3, gm⟩ := m_baseNow (n := n) (B := B) (S := S') (ho := ho) (ha := ha) (sm := sm) (a := (a' : Int)) (mq_h hmz) hT htr (by omega) (mq_BS hm) (mq_N hm) (by omega) (by omega) ax.1
        have ebz : (if 0 < AtZ B a' 47 then AtZ B a' 6 else worthZ T tr B a' (AtZ B a' 2)) = basZ T tr B a' := rfl
        rw [ebz] at gm
        obtain ⟨S4, ho4, ha4, gmw⟩ := m_worthBy (n := n) (B := B) (S := S3) (ho := ho3) (ha := ha3) (sm := sm) (a := (a' : Int)) (use := AtZ B a' 2) (mq_h hmz) hT htr (by omega) (mq_BS hm) (mq_N hm) (by omega) (by omega) ax.1 ax.1.2.2.1
        have gma := m_adjustedBy (n := n) (B := B) (S := S4) (ho := ho4) (ha := ha4) (sm := sm) (a := (a' : Int)) (w := worthZ T tr B a' (AtZ B a' 2)) (b := basZ T tr B a') (mq_h hmz) hT (by omega) (by omega) ax.1 hwb
        have r2 : g_X10_at n (WC (sI M' 139 2 0) 0 B S3 ho3 ha3 sm) 139 (zi (a' : Int)) 2 = some (zi (AtZ B a' 2), _) := m_at (mq_h hmz) (k := 2) (by omega) (by omega) (by omega) (by omega)
        have gl := xq_bw (n := n) (F := F2) (S := S2) hx hm c1.2 hn c2 hbz hadj
        obtain ⟨v, gn⟩ := mq_bw (n := n) (S := S4) (ho := ho4) (ha := ha4) (sm := sm) hmz c1.2 c9 hn c2 hbz hadj
        dsimp only at gl gn
        refine qp_mk (bwZ (bwV T B a' w (basZ T tr B a') (adjZ T B a' (worthZ T tr B a' (AtZ B a' 2)) (basZ T tr B a'))) (AtZ B a' 4 - 1 - AtZ B a' 47 + 1).toNat).1 (F1 := F2) (S1 := S2) (S2 := S4) (ho2 := ho4) (ha2 := ha4) (sm2 := sm) ?_ ?_
        · unfold g_X9_bestWait
          rw [xq_ko hx, xq_as hx a1 a2, i_bd, if_neg z1, gX', i_bd, if_neg z2, xq_ko hx, ef, i_bd, if_neg z3, xq_o4 hx, i_sb, c_o1 (xq_C hx), i_sb, c_o5 (xq_C hx), i_sb, c_oA (xq_C hx) a8, i_sb, i_sb, c_kC (xq_C hx), gx, i_bd, xq_o4 hx, i_sb, i_sb, c_gA (xq_C hx) a8, i_sb, ra.1.2.2.1, c_kC (xq_C hx), gw, i_bd, c_kC (xq_C hx), g2, i_bd, gl]
          rfl
        · unfold g_X10_bestWait
          rw [m_thr0 (mq_h hm), i_sb, m_chk (mq_h hmz), mq_as hmz a1 a2, i_bd, if_neg z1, gM', i_bd, if_neg z2, m_chk (mq_h hmz), mq_gone hmz c1.1 c1.2, i_bd, if_pos z4, m_chk (mq_h hmz), gm, i_bd, m_chk (mq_h hmz), r2, i_bd, m_chk (mq_h hmz), gmw, i_bd, m_chk (mq_h hmz), gma, i_bd, gn]
          rfl
      · have c3' : AtZ B a' 9 = 1 ∨ 0 < AtZ B a' 7 := Classical.not_not.mp c3
        have z3 : bI2 ((0 ≤ (a' : Int) ∧ (a' : Int) < B 1865) ∧ ¬ (AtZ B a' 9 = 1 ∨ 0 < AtZ B a' 7)) = (0 : Int32) := (bI_0 _).mpr (fun q => q.2 c3')
        have z4 : bI2 (AtZ B a' 9 = 1 ∨ 0 < AtZ B a' 7) ≠ (0 : Int32) := fun q => ((bI_0 _).mp q) c3'
        refine qp_mk (-2) (F1 := F) (S1 := S) (S2 := S') (ho2 := ho) (ha2 := ha) (sm2 := sm) ?_ ?_
        · unfold g_X9_bestWait
          rw [xq_ko hx, xq_as hx a1 a2, i_bd, if_neg z1, gX', i_bd, if_neg z2, xq_ko hx, ef, i_bd, if_pos z3]
          rfl
        · unfold g_X10_bestWait
          rw [m_thr0 (mq_h hm), i_sb, m_chk (mq_h hmz), mq_as hmz a1 a2, i_bd, if_neg z1, gM', i_bd, if_neg z2, m_chk (mq_h hmz), mq_gone hmz c1.1 c1.2, i_bd, if_neg z4]
          rfl
    · have z2 : bI2 (0 ≤ w ∧ w ≤ 1) = (0 : Int32) := (bI_0 _).mpr c2
      refine qp_mk (-1) (F1 := F) (S1 := S) (S2 := S') (ho2 := ho) (ha2 := ha) (sm2 := sm) ?_ ?_
      · unfold g_X9_bestWait
        rw [xq_ko hx, xq_as hx a1 a2, i_bd, if_neg z1, gX', i_bd, if_pos z2]
        rfl
      · unfold g_X10_bestWait
        rw [m_thr0 (mq_h hm), i_sb, m_chk (mq_h hmz), mq_as hmz a1 a2, i_bd, if_neg z1, gM', i_bd, if_pos z2]
        rfl
  · have hmz := mq_thr0 (v := (0 : Int32)) hm
    have e0 : bI2 (0 ≤ a ∧ a < B 1865) = (0 : Int32) := (bI_0 (0 ≤ a ∧ a < B 1865)).mpr c1
    refine qp_mk (-1) (F1 := F) (S1 := S) (S2 := S') (ho2 := ho) (ha2 := ha) (sm2 := sm) ?_ ?_
    · unfold g_X9_bestWait
      rw [xq_ko hx, xq_as hx a1 a2, i_bd, if_pos e0]
      rfl
    · unfold g_X10_bestWait
      rw [m_thr0 (mq_h hm), i_sb, m_chk (mq_h hmz), mq_as hmz a1 a2, i_bd, if_pos e0]
      rfl
end Q13
