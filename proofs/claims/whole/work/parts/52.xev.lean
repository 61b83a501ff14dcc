/-! ===== PURE 22: evaluation: literals, conditions ===== -/
theorem zl_0 : (0 : Int32) = zi 0 := rfl
theorem zl_1 : (1 : Int32) = zi 1 := rfl
theorem zl_2 : (2 : Int32) = zi 2 := rfl
theorem zl_3 : (3 : Int32) = zi 3 := rfl
theorem zl_4 : (4 : Int32) = zi 4 := rfl
theorem zl_5 : (5 : Int32) = zi 5 := rfl
theorem zl_6 : (6 : Int32) = zi 6 := rfl
theorem zl_7 : (7 : Int32) = zi 7 := rfl
theorem zl_8 : (8 : Int32) = zi 8 := rfl
theorem zl_9 : (9 : Int32) = zi 9 := rfl
theorem zl_10 : (10 : Int32) = zi 10 := rfl
theorem zl_11 : (11 : Int32) = zi 11 := rfl
theorem zl_12 : (12 : Int32) = zi 12 := rfl
theorem zl_13 : (13 : Int32) = zi 13 := rfl
theorem zl_14 : (14 : Int32) = zi 14 := rfl
theorem zl_15 : (15 : Int32) = zi 15 := rfl
theorem zl_16 : (16 : Int32) = zi 16 := rfl
theorem zl_17 : (17 : Int32) = zi 17 := rfl
theorem zl_18 : (18 : Int32) = zi 18 := rfl
theorem zl_19 : (19 : Int32) = zi 19 := rfl
theorem zl_20 : (20 : Int32) = zi 20 := rfl
theorem zl_21 : (21 : Int32) = zi 21 := rfl
theorem zl_22 : (22 : Int32) = zi 22 := rfl
theorem zl_23 : (23 : Int32) = zi 23 := rfl
theorem zl_24 : (24 : Int32) = zi 24 := rfl
theorem zl_25 : (25 : Int32) = zi 25 := rfl
theorem zl_26 : (26 : Int32) = zi 26 := rfl
theorem zl_27 : (27 : Int32) = zi 27 := rfl
theorem zl_28 : (28 : Int32) = zi 28 := rfl
theorem zl_29 : (29 : Int32) = zi 29 := rfl
theorem zl_30 : (30 : Int32) = zi 30 := rfl
theorem zl_31 : (31 : Int32) = zi 31 := rfl
theorem zl_32 : (32 : Int32) = zi 32 := rfl
theorem zl_33 : (33 : Int32) = zi 33 := rfl
theorem zl_34 : (34 : Int32) = zi 34 := rfl
theorem zl_35 : (35 : Int32) = zi 35 := rfl
theorem zl_36 : (36 : Int32) = zi 36 := rfl
theorem zl_37 : (37 : Int32) = zi 37 := rfl
theorem zl_38 : (38 : Int32) = zi 38 := rfl
theorem zl_39 : (39 : Int32) = zi 39 := rfl
theorem zl_40 : (40 : Int32) = zi 40 := rfl
theorem zl_41 : (41 : Int32) = zi 41 := rfl
theorem zl_42 : (42 : Int32) = zi 42 := rfl
theorem zl_43 : (43 : Int32) = zi 43 := rfl
theorem zl_44 : (44 : Int32) = zi 44 := rfl
theorem zl_45 : (45 : Int32) = zi 45 := rfl
theorem zl_46 : (46 : Int32) = zi 46 := rfl
theorem zl_47 : (47 : Int32) = zi 47 := rfl
theorem zl_48 : (48 : Int32) = zi 48 := rfl
theorem zl_49 : (49 : Int32) = zi 49 := rfl
theorem zl_50 : (50 : Int32) = zi 50 := rfl
theorem zl_51 : (51 : Int32) = zi 51 := rfl
theorem zl_52 : (52 : Int32) = zi 52 := rfl
theorem zl_53 : (53 : Int32) = zi 53 := rfl
theorem zl_54 : (54 : Int32) = zi 54 := rfl
theorem zl_55 : (55 : Int32) = zi 55 := rfl
theorem zl_56 : (56 : Int32) = zi 56 := rfl
theorem zl_57 : (57 : Int32) = zi 57 := rfl
theorem zl_58 : (58 : Int32) = zi 58 := rfl
theorem zl_59 : (59 : Int32) = zi 59 := rfl
theorem zl_60 : (60 : Int32) = zi 60 := rfl
theorem zl_61 : (61 : Int32) = zi 61 := rfl
theorem zl_62 : (62 : Int32) = zi 62 := rfl
theorem zl_63 : (63 : Int32) = zi 63 := rfl
theorem zl_64 : (64 : Int32) = zi 64 := rfl
theorem zl_65 : (65 : Int32) = zi 65 := rfl
theorem zl_66 : (66 : Int32) = zi 66 := rfl
theorem zl_67 : (67 : Int32) = zi 67 := rfl
theorem zl_68 : (68 : Int32) = zi 68 := rfl
theorem zl_69 : (69 : Int32) = zi 69 := rfl
theorem zl_70 : (70 : Int32) = zi 70 := rfl
theorem zl_96 : (96 : Int32) = zi 96 := rfl
theorem zl_97 : (97 : Int32) = zi 97 := rfl
theorem zl_98 : (98 : Int32) = zi 98 := rfl
theorem zl_99 : (99 : Int32) = zi 99 := rfl
theorem zl_100 : (100 : Int32) = zi 100 := rfl
theorem zl_101 : (101 : Int32) = zi 101 := rfl
theorem zl_102 : (102 : Int32) = zi 102 := rfl
theorem zl_103 : (103 : Int32) = zi 103 := rfl
theorem zl_104 : (104 : Int32) = zi 104 := rfl
theorem zl_105 : (105 : Int32) = zi 105 := rfl
theorem zl_106 : (106 : Int32) = zi 106 := rfl
theorem zl_107 : (107 : Int32) = zi 107 := rfl
theorem zl_108 : (108 : Int32) = zi 108 := rfl
theorem zl_109 : (109 : Int32) = zi 109 := rfl
theorem zl_110 : (110 : Int32) = zi 110 := rfl
theorem zl_111 : (111 : Int32) = zi 111 := rfl
theorem zl_112 : (112 : Int32) = zi 112 := rfl
theorem zl_113 : (113 : Int32) = zi 113 := rfl
theorem zl_114 : (114 : Int32) = zi 114 := rfl
theorem zl_115 : (115 : Int32) = zi 115 := rfl
theorem zl_116 : (116 : Int32) = zi 116 := rfl
theorem zl_117 : (117 : Int32) = zi 117 := rfl
theorem zl_118 : (118 : Int32) = zi 118 := rfl
theorem zl_119 : (119 : Int32) = zi 119 := rfl
theorem zl_120 : (120 : Int32) = zi 120 := rfl
theorem zl_121 : (121 : Int32) = zi 121 := rfl
theorem zl_122 : (122 : Int32) = zi 122 := rfl
theorem zl_255 : (255 : Int32) = zi 255 := rfl
theorem zl_256 : (256 : Int32) = zi 256 := rfl
theorem zl_320 : (320 : Int32) = zi 320 := rfl
theorem zl_700 : (700 : Int32) = zi 700 := rfl
theorem zl_999 : (999 : Int32) = zi 999 := rfl
theorem zl_1000 : (1000 : Int32) = zi 1000 := rfl
theorem zl_1280 : (1280 : Int32) = zi 1280 := rfl
theorem zl_1281 : (1281 : Int32) = zi 1281 := rfl
theorem zl_1282 : (1282 : Int32) = zi 1282 := rfl
theorem zl_1289 : (1289 : Int32) = zi 1289 := rfl
theorem zl_1545 : (1545 : Int32) = zi 1545 := rfl
theorem zl_1801 : (1801 : Int32) = zi 1801 := rfl
theorem zl_1865 : (1865 : Int32) = zi 1865 := rfl
theorem zl_1866 : (1866 : Int32) = zi 1866 := rfl
theorem zl_1867 : (1867 : Int32) = zi 1867 := rfl
theorem zl_1868 : (1868 : Int32) = zi 1868 := rfl
theorem zl_2068 : (2068 : Int32) = zi 2068 := rfl
theorem zl_2084 : (2084 : Int32) = zi 2084 := rfl
theorem zl_2468 : (2468 : Int32) = zi 2468 := rfl
theorem zl_9999 : (9999 : Int32) = zi 9999 := rfl
theorem zl_10000 : (10000 : Int32) = zi 10000 := rfl
theorem zl_65536 : (65536 : Int32) = zi 65536 := rfl
theorem zl_99999 : (99999 : Int32) = zi 99999 := rfl
theorem zl_100000 : (100000 : Int32) = zi 100000 := rfl
theorem zl_999999 : (999999 : Int32) = zi 999999 := rfl
theorem zl_1000000 : (1000000 : Int32) = zi 1000000 := rfl
theorem zl_99999999 : (99999999 : Int32) = zi 99999999 := rfl
theorem zl_100000000 : (100000000 : Int32) = zi 100000000 := rfl
theorem yl_0 : (0 : Int64) = zj 0 := rfl
theorem yl_1 : (1 : Int64) = zj 1 := rfl
theorem yl_2 : (2 : Int64) = zj 2 := rfl
theorem yl_3 : (3 : Int64) = zj 3 := rfl
theorem yl_4 : (4 : Int64) = zj 4 := rfl
theorem yl_10 : (10 : Int64) = zj 10 := rfl
theorem yl_16 : (16 : Int64) = zj 16 := rfl
theorem yl_1000 : (1000 : Int64) = zj 1000 := rfl
theorem yl_65536 : (65536 : Int64) = zj 65536 := rfl
theorem yl_100000000 : (100000000 : Int64) = zj 100000000 := rfl
theorem c_ltT {a b : Int} (h : a < b) (h1 : -2147483648 ≤ a) (h2 : a ≤ 2147483647) (h3 : -2147483648 ≤ b) (h4 : b ≤ 2147483647) : (zi a < zi b) = True := (zi_lt h1 h2 h3 h4).trans (eq_true h)
theorem c_ltF {a b : Int} (h : b ≤ a) (h1 : -2147483648 ≤ a) (h2 : a ≤ 2147483647) (h3 : -2147483648 ≤ b) (h4 : b ≤ 2147483647) : (zi a < zi b) = False := (zi_lt h1 h2 h3 h4).trans (eq_false (by omega))
theorem c_leT {a b : Int} (h : a ≤ b) (h1 : -2147483648 ≤ a) (h2 : a ≤ 2147483647) (h3 : -2147483648 ≤ b) (h4 : b ≤ 2147483647) : (zi a ≤ zi b) = True := (zi_le h1 h2 h3 h4).trans (eq_true h)
theorem c_leF {a b : Int} (h : b < a) (h1 : -2147483648 ≤ a) (h2 : a ≤ 2147483647) (h3 : -2147483648 ≤ b) (h4 : b ≤ 2147483647) : (zi a ≤ zi b) = False := (zi_le h1 h2 h3 h4).trans (eq_false (by omega))
theorem c_eqT {a b : Int} (h : a = b) : (zi a = zi b) = True := by rw [h]; exact eq_true rfl
theorem c_eqF {a b : Int} (h : a ≠ b) (h1 : -2147483648 ≤ a) (h2 : a ≤ 2147483647) (h3 : -2147483648 ≤ b) (h4 : b ≤ 2147483647) : (zi a = zi b) = False := (zi_eq h1 h2 h3 h4).trans (eq_false h)
def bI2 (p : Prop) [Decidable p] : Int32 := if p then zi 1 else zi 0
theorem bI_0 (p : Prop) [Decidable p] : (bI2 p = zi 0) = ¬ p := by
  unfold bI2
  by_cases c : p
  · rw [if_pos c]; exact propext ⟨fun q => absurd q (by decide), fun q => absurd c q⟩
  · rw [if_neg c]; exact propext ⟨fun _ => c, fun _ => rfl⟩
theorem rz_bI (p : Prop) [Decidable p] {M : MemT} : rz (bI2 p) M = some (bI2 p, M) := by
  unfold bI2 rz
  split
  · exact if_pos (Or.inr rfl)
  · exact if_pos (Or.inl rfl)
theorem rz_0 {M : MemT} : rz (zi 0) M = some (zi 0, M) := if_pos (Or.inl rfl)
theorem rz_1 {M : MemT} : rz (zi 1) M = some (zi 1, M) := if_pos (Or.inr rfl)
theorem m_isIn2 {n : Nat} {x a b : Int} {M : MemT} (x1 : -2147483648 ≤ x) (x2 : x ≤ 2147483647) (a1 : -2147483648 ≤ a) (a2 : a ≤ 2147483647) (b1 : -2147483648 ≤ b) (b2 : b ≤ 2147483647) : g_X10_isIn n M (zi x) (zi a) (zi b) = some (bI2 (a ≤ x ∧ x ≤ b), M) := m_isIn ⟨x1, x2⟩ ⟨a1, a2⟩ ⟨b1, b2⟩
theorem x_isIn2 {n : Nat} {x a b : Int} {M : MemT} (x1 : -2147483648 ≤ x) (x2 : x ≤ 2147483647) (a1 : -2147483648 ≤ a) (a2 : a ≤ 2147483647) (b1 : -2147483648 ≤ b) (b2 : b ≤ 2147483647) : g_X9_isIn n M (zi x) (zi a) (zi b) = some (bI2 (a ≤ x ∧ x ≤ b), M) := x_isIn ⟨x1, x2⟩ ⟨a1, a2⟩ ⟨b1, b2⟩
/-! the relation of the component's rows and a bank -/
def RA (T B : Int → Int) (R : Nat → Nat → Int32) (a : Nat) : Prop :=
  (R (10 + 5 * a) 0 = zi (AtZ B a 0) ∧ R (10 + 5 * a) 1 = zi (AtZ B a 1) ∧ R (10 + 5 * a) 2 = zi (AtZ B a 2) ∧ R (10 + 5 * a) 3 = zi (AtZ B a 3) ∧ R (10 + 5 * a) 4 = zi (AtZ B a 4) ∧ R (10 + 5 * a) 5 = zi (AtZ B a 5)) ∧
  (R (10 + 5 * a) 6 = zi (if AtZ B a 7 = 0 then -2 else AtZ B a 7 - 1) ∧ (AtZ B a 7 ≠ 0 → R (10 + 5 * a) 7 = zi (AtZ B a 8)) ∧ R (10 + 5 * a) 8 = zi (AtZ B a 9) ∧ R (10 + 5 * a) 9 = zi (AtZ B a 6) ∧ (0 < AtZ B a 47 → R (10 + 5 * a) 10 = zi (fstZ T B a (AtZ B a 6))) ∧ R (10 + 5 * a) 11 = zi (AtZ B a 10) ∧ R (10 + 5 * a) 12 = zi (AtZ B a 11) ∧ (AtZ B a 11 = 1 → R (10 + 5 * a) 13 = zi (AtZ B a 12)) ∧ R (10 + 5 * a) 14 = zi (AtZ B a 47)) ∧
  (0 < AtZ B a 47 → ∀ j : Int, 0 ≤ j → j < B 0 % 4 → R (10 + 5 * a + 1) j.toNat = zi (AtZ B a (13 + j))) ∧
  (∀ i : Int, 0 ≤ i → i < AtZ B a 47 → R (10 + 5 * a + 2) i.toNat = zi (AtZ B a (17 + i)) ∧ R (10 + 5 * a + 3) i.toNat = zi (AtZ B a (27 + i)) ∧ R (10 + 5 * a + 4) i.toNat = zi (AtZ B a (37 + i)))
def RH (B : Int → Int) (nt : Int) (R : Nat → Nat → Int32) : Prop := ∀ t : Int, 0 ≤ t → t < nt → R 1 t.toNat = zi (B (1281 + 2 * t)) ∧ R 2 t.toNat = zi (B (1282 + 2 * t))
def RM (B : Int → Int) (R : Nat → Nat → Int32) : Prop :=
  (R 0 0 = zi (B 0) ∧ R 0 1 = zi (B 1865) ∧ R 0 2 = zi (B 1866)) ∧
  (∀ k : Int, 0 ≤ k → k < 1280 → R 4 k.toNat = zi (B (1 + k))) ∧ (∀ k : Int, 0 ≤ k → k < 256 → R 5 k.toNat = zi (B (1289 + k))) ∧ (∀ k : Int, 0 ≤ k → k < 64 → R 6 k.toNat = zi (B (1801 + k))) ∧ (∀ k : Int, 0 ≤ k → k < 256 → R 7 k.toNat = zi (B (1545 + k))) ∧ (∀ k : Int, 0 ≤ k → k < 16 → R 8 k.toNat = zi (B (2068 + k))) ∧
  (∀ k w : Int, 0 ≤ k → k < B 1867 → 0 ≤ w → w < 5 → R 9 ((B 1866 - 1 - k) % 40 * 5 + w).toNat = zi (B (1868 + 5 * k + w)))
def RBk (T B : Int → Int) (nt : Int) (R : Nat → Nat → Int32) : Prop := RM B R ∧ RH B nt R ∧ ∀ a : Nat, (a : Int) < B 1865 → RA T B R a
