/-! ===== PURE 39: questions: both sides ===== -/
def X0 (M : MemT) (c : Nat) : Prop := mK M 0 = 7 ∧ mR M 0 4 = some c ∧ 0 < c
def XQr (M : MemT) (c r : Nat) (R : Nat → Nat → Int32) (nt : Int) (T tr sl bu as B : Int → Int) (U : Int) : Prop := X0 M c ∧ COk M c r R nt T tr sl bu as B ∧ RowsOk T sl bu as ∧ BI T nt U B ∧ (2000000 ≤ U ∧ U ≤ 100000000)
def MQr (M : MemT) (nt : Int) (T tr sl bu as B : Int → Int) (U : Int) : Prop := MOk M 0 nt T tr sl bu as ∧ (0 ≤ nt ∧ nt ≤ 4) ∧ told3 T ∧ trOk tr ∧ RowsOk T sl bu as ∧ BI T nt U B ∧ (2000000 ≤ U ∧ U ≤ 100000000)
/-- both sides answer alike, a memory each but for what is scratch -/
def QP (gx gm : Option (Int32 × MemT)) (M M' : MemT) (c : Nat) (R : Nat → Nat → Int32) (B : Int → Int) : Prop := ∃ v F1 S1 S2 ho2 ha2 sm2, gx = some (v, WX M c R F1 S1) ∧ gm = some (v, WC M' 0 B S2 ho2 ha2 sm2)
theorem qp_mk {gx gm : Option (Int32 × MemT)} {M M' : MemT} {c : Nat} {R : Nat → Nat → Int32} {B : Int → Int} {F1 : Nat → Int32} {S1 S2 : Int → Int} {ho2 ha2 : Int} {sm2 : Int32} (v : Int) (h1 : gx = some (zi v, WX M c R F1 S1)) (h2 : gm = some (zi v, WC M' 0 B S2 ho2 ha2 sm2)) : QP gx gm M M' c R B := ⟨_, _, _, _, _, _, _, h1, h2⟩
theorem zi_ex (x : Int32) : ∃ a : Int, x = zi a ∧ -2147483648 ≤ a ∧ a ≤ 2147483647 := ⟨x.toInt, (zi_int x).symm, x.le_toInt, by have := x.toInt_lt; omega⟩
theorem bI_z (p : Prop) [Decidable p] : (bI2 p = zi 0) = ¬ p := bI_0 p
theorem bI_c {p q : Prop} [Decidable p] [Decidable q] (h : p ↔ q) : bI2 p = bI2 q := by
  unfold bI2
  by_cases c : p
  · rw [if_pos c, if_pos (h.mp c)]
  · rw [if_neg c, if_neg (fun z => c (h.mpr z))]
theorem bI_eq (p : Prop) [Decidable p] : (if p then (1 : Int32) else 0) = bI2 p := rfl
section Q0
variable {M M' : MemT} {c r : Nat} {R : Nat → Nat → Int32} {F : Nat → Int32} {S S' : Int → Int} {n : Nat} {T tr sl bu as B : Int → Int} {nt U ho ha : Int} {sm : Int32}
theorem xq_o4 (h : XQr M c r R nt T tr sl bu as B U) : gO (WX M c R F S) 7 0 4 = some c := i_gO h.1.1 h.1.2.1
theorem xq_ko {β : Type} {e : Option β} (h : XQr M c r R nt T tr sl bu as B U) : chk (WX M c R F S) 7 0 e = e := i_chk h.1.1
theorem xq_C (h : XQr M c r R nt T tr sl bu as B U) : CSh M c r := h.2.1.1
theorem xq_U (h : XQr M c r R nt T tr sl bu as B U) : RU M r nt T tr sl bu as := h.2.1.2.1
theorem xq_R (h : XQr M c r R nt T tr sl bu as B U) : RM B R := h.2.1.2.2.1.1
theorem xq_tr (h : XQr M c r R nt T tr sl bu as B U) {t : Int} (h1 : -2147483648 ≤ t) (h2 : t ≤ 2147483647) : g_X9_isTrader n (WX M c R F S) 0 (zi t) = some (bI2 (0 ≤ t ∧ t < nt), WX M c R F S) := by
  have hnt := h.2.1.2.2.2.1
  unfold g_X9_isTrader
  rw [xq_o4 h, i_sb, c_o0 (xq_C h), i_sb, c_gR (xq_C h), i_sb, (xq_U h).1.1]
  show bd (g_X9_isIn n _ (zi t) (zi 0) (zi nt - zi 1)) _ = _
  rw [zi_sub, x_isIn2 h1 h2 (by omega) (by omega) (by omega) (by omega), i_bd, rz_bI, bI_c (show (0 ≤ t ∧ t ≤ nt - 1) ↔ (0 ≤ t ∧ t < nt) by omega)]
theorem xq_as (h : XQr M c r R nt T tr sl bu as B U) {t : Int} (h1 : -2147483648 ≤ t) (h2 : t ≤ 2147483647) : g_X9_isAsset n (WX M c R F S) 0 (zi t) = some (bI2 (0 ≤ t ∧ t < B 1865), WX M c R F S) := by
  have h8 := h.2.2.2.1.2.2.2.2.2.2.2.2.1
  unfold g_X9_isAsset
  rw [xq_o4 h, i_sb, c_o1 (xq_C h), i_sb, c_now (xq_C h), i_sb, (xq_R h).1.2.1]
  show bd (g_X9_isIn n _ (zi t) (zi 0) (zi (B 1865) - zi 1)) _ = _
  rw [zi_sub, x_isIn2 h1 h2 (by omega) (by omega) (by omega) (by omega), i_bd, rz_bI, bI_c (show (0 ≤ t ∧ t ≤ B 1865 - 1) ↔ (0 ≤ t ∧ t < B 1865) by omega)]
theorem xq_bg (h : XQr M c r R nt T tr sl bu as B U) {t : Int} (h1 : -2147483648 ≤ t) (h2 : t ≤ 2147483647) : g_X9_isBegun n (WX M c R F S) 0 (zi t) = some (bI2 (0 ≤ t ∧ t ≤ yearZ B), WX M c R F S) := by
  have hN := h.2.2.2.1.2.1
  obtain ⟨n1, n2⟩ := id hN
  have hy : 0 ≤ yearZ B ∧ yearZ B < 16 := by unfold yearZ; omega
  unfold g_X9_isBegun
  rw [xq_o4 h, i_sb, c_kC (xq_C h), c_thisYear (xq_C h) (xq_R h) hN, i_bd]
  show bd (g_X9_isIn n _ (zi t) (zi 0) _) _ = _
  rw [x_isIn2 h1 h2 (by omega) (by omega) (by omega) (by omega), i_bd, rz_bI]
theorem xq_yr {M : MemT} {t : Int} (h1 : -2147483648 ≤ t) (h2 : t ≤ 2147483647) : g_X9_isYear n M (zi t) = some (bI2 (0 ≤ t ∧ t ≤ 15), M) := by
  unfold g_X9_isYear
  show bd (g_X9_isIn n _ (zi t) (zi 0) (zi 15)) _ = _
  rw [x_isIn2 h1 h2 (by omega) (by omega) (by omega) (by omega), i_bd, rz_bI]
theorem mq_h (h : MQr M nt T tr sl bu as B U) : MOk M 0 nt T tr sl bu as := h.1
theorem mq_tr (h : MQr M nt T tr sl bu as B U) {t : Int} (h1 : -2147483648 ≤ t) (h2 : t ≤ 2147483647) : g_X10_isTrader n (WC M 0 B S ho ha sm) 139 (zi t) = some (bI2 (0 ≤ t ∧ t < nt), WC M 0 B S ho ha sm) := by
  have hnt := h.2.1
  have e1 : (zi t < 0) = (t < 0) := zi_lt (b := 0) h1 h2 (by omega) (by omega)
  have e2 : (zi nt ≤ zi t) = (nt ≤ t) := zi_le (by omega) (by omega) h1 h2
  unfold g_X10_isTrader bI2
  rw [m_gnt h.1, i_sb]
  simp only [e1, e2]
  by_cases c1 : t < 0
  · rw [if_pos c1, if_neg (by omega)]; exact rz_0
  · rw [if_neg c1]
    by_cases c2 : nt ≤ t
    · rw [if_pos c2, if_neg (by omega)]; exact rz_0
    · rw [if_neg c2, if_pos (by omega)]; exact rz_1
theorem mq_as (h : MQr M nt T tr sl bu as B U) {t : Int} (h1 : -2147483648 ≤ t) (h2 : t ≤ 2147483647) : g_X10_isAsset n (WC M 0 B S ho ha sm) 139 (zi t) = some (bI2 (0 ≤ t ∧ t < B 1865), WC M 0 B S ho ha sm) :=
  m_isAsset h.1 h.2.2.2.2.2.1.2.2.2.2.2.2.2.2.1 ⟨h1, h2⟩
theorem mq_A (h : MQr M nt T tr sl bu as B U) {a : Int} (h1 : 0 ≤ a) (h2 : a < B 1865) : AX B nt a := h.2.2.2.2.2.1.2.2.2.2.2.2.2.2.2 a h1 h2
theorem mq_8 (h : MQr M nt T tr sl bu as B U) : 0 ≤ B 1865 ∧ B 1865 ≤ 8 := h.2.2.2.2.2.1.2.2.2.2.2.2.2.2.1
theorem mq_N (h : MQr M nt T tr sl bu as B U) : BN B := h.2.2.2.2.2.1.2.1
theorem mq_BS (h : MQr M nt T tr sl bu as B U) : BS B := h.2.2.2.2.2.1.1
theorem mq_gone (h : MQr M nt T tr sl bu as B U) {a : Int} (h1 : 0 ≤ a) (h2 : a < B 1865) : g_X10_isGone n (WC M 0 B S ho ha sm) 139 (zi a) = some (bI2 (AtZ B a 9 = 1 ∨ 0 < AtZ B a 7), WC M 0 B S ho ha sm) :=
  m_isGone h.1 h1 (by have := mq_8 h; omega) (mq_A h h1 h2).1
theorem mq_thr (h : MQr M nt T tr sl bu as B U) {a : Int} (h1 : 0 ≤ a) (h2 : a < B 1865) : g_X10_isThrough n (WC M 0 B S ho ha sm) 139 (zi a) = some (bI2 (0 < AtZ B a 47), WC M 0 B S ho ha sm) :=
  m_isThrough h.1 h1 (by have := mq_8 h; omega) (mq_A h h1 h2).1
theorem mq_y (h : MQr M nt T tr sl bu as B U) : g_X10_year n (WC M 0 B S ho ha sm) 139 = some (zi (yearZ B), WC M 0 B S ho ha sm) := m_year h.1 (mq_N h)
theorem mq_yr (h : MQr M nt T tr sl bu as B U) {t y : Int} (h1 : -2147483648 ≤ t) (h2 : t ≤ 2147483647) (h3 : -2147483648 ≤ y) (h4 : y ≤ 2147483647) : g_X10_isYear n (WC M 0 B S ho ha sm) 139 (zi t) (zi y) = some (bI2 ((0 ≤ t ∧ t < nt) ∧ 0 ≤ y ∧ y ≤ yearZ B), WC M 0 B S ho ha sm) := by
  obtain ⟨n1, n2⟩ := mq_N h
  have hy : 0 ≤ yearZ B ∧ yearZ B < 16 := by unfold yearZ; omega
  have e1 : (zi y < 0) = (y < 0) := zi_lt (b := 0) h3 h4 (by omega) (by omega)
  have e2 : (zi (yearZ B) < zi y) = (yearZ B < y) := zi_lt (by omega) (by omega) h3 h4
  unfold g_X10_isYear
  rw [m_chk h.1, mq_tr h h1 h2, i_bd, m_chk h.1, mq_y h, i_bd]
  show (if bI2 _ = zi 0 then _ else _) = _
  simp only [bI_0, e1, e2]
  unfold bI2
  by_cases c0 : 0 ≤ t ∧ t < nt
  · rw [if_neg (fun q => q c0)]
    by_cases c1 : y < 0
    · rw [if_pos c1, if_neg (by omega)]; exact rz_0
    · rw [if_neg c1]
      by_cases c2 : yearZ B < y
      · rw [if_pos c2, if_neg (by omega)]; exact rz_0
      · rw [if_neg c2, if_pos (by omega)]; exact rz_1
  · rw [if_pos c0, if_neg (fun q => c0 q.1)]; exact rz_0
theorem mq_q {M : MemT} {m : Nat} {q : Int} (h1 : -2147483648 ≤ q) (h2 : q ≤ 2147483647) : g_X10_isQuarter n M m (zi q) = some (bI2 (0 ≤ q ∧ q < 64), M) := by
  have e1 : (zi q < 0) = (q < 0) := zi_lt (b := 0) h1 h2 (by omega) (by omega)
  have e2 : (64 ≤ zi q) = (64 ≤ q) := zi_le (a := 64) (by omega) (by omega) h1 h2
  unfold g_X10_isQuarter bI2
  simp only [e1, e2]
  by_cases c1 : q < 0
  · rw [if_pos c1, if_neg (by omega)]; exact rz_0
  · rw [if_neg c1]
    by_cases c2 : 64 ≤ q
    · rw [if_pos c2, if_neg (by omega)]; exact rz_0
    · rw [if_neg c2, if_pos (by omega)]; exact rz_1
/-- the exception word is laid first -/
theorem m_thr0 (h : MOk M 0 nt T tr sl bu as) {v : Int32} : pI (WC M 0 B S ho ha sm) 8 139 2 v = some (WC (sI M 139 2 v) 0 B S ho ha sm) := by
  rw [i_pI (M := WC M 0 B S ho ha sm) h.1.1]
  congr 1
  unfold WC sI
  refine Prod.ext rfl (Prod.ext rfl (Prod.ext rfl (Prod.ext rfl (Prod.ext ?_ rfl))))
  funext x k
  show (if x = 139 ∧ k = 2 then v else if x = 147 then _ else if x = 139 ∧ k = 27 then sm else M.2.2.2.2.1 x k) = if x = 147 then (if _ then _ else (if (147 : Nat) = 139 ∧ k = 2 then v else M.2.2.2.2.1 147 k)) else if x = 139 ∧ k = 27 then sm else (if x = 139 ∧ k = 2 then v else M.2.2.2.2.1 x k)
  by_cases hx : x = 147
  · rw [if_neg (by omega), if_pos hx, if_pos hx, if_neg (show ¬ ((147 : Nat) = 139 ∧ k = 2) by omega)]
    rfl
  · rw [if_neg hx, if_neg hx]
    by_cases h27 : x = 139 ∧ k = 27
    · rw [if_neg (by omega), if_pos h27, if_pos h27]
    · rw [if_neg h27, if_neg h27]
theorem mok_thr (h : MOk M 0 nt T tr sl bu as) {v : Int32} : MOk (sI M 139 2 v) 0 nt T tr sl bu as := by
  obtain ⟨hS, hb, hb1, hn, h1, h2, h3, h4, h5⟩ := h
  have e : ∀ x k, x ≠ 139 → mI (sI M 139 2 v) x k = mI M x k := fun x k hx => if_neg (fun q => hx q.1)
  have e' : ∀ k, k ≠ 2 → mI (sI M 139 2 v) 139 k = mI M 139 k := fun k hk => if_neg (fun q => hk q.2)
  refine ⟨hS, (e' 21 (by omega)).trans hb, hb1, (e' 11 (by omega)).trans hn, fun k k0 k1 => (e _ _ (by omega)).trans (h1 k k0 k1), fun k k0 k1 => (e _ _ (by omega)).trans (h2 k k0 k1), fun k k0 k1 => (e _ _ (by omega)).trans (h3 k k0 k1), fun k k0 k1 => (e _ _ (by omega)).trans (h4 k k0 k1), fun k k0 k1 => (e _ _ (by omega)).trans (h5 k k0 k1)⟩
theorem mq_thr0 (h : MQr M nt T tr sl bu as B U) {v : Int32} : MQr (sI M 139 2 v) nt T tr sl bu as B U := ⟨mok_thr h.1, h.2⟩
end Q0
