/-! ===== PURE 12: what a place of an asset holds behind a writing; the words of an asset's close ===== -/
theorem AtZ_up {B : Int → Int} {a k v j : Int} : AtZ (upZ B (2084 + 48 * a + k) v) a j = if j = k then v else AtZ B a j := by
  unfold AtZ upZ
  by_cases h : j = k
  · rw [if_pos h, if_pos (by omega)]
  · rw [if_neg h, if_neg (by omega)]
theorem AtZ_oth {B : Int → Int} {a c k v j : Int} (hk : 0 ≤ k ∧ k < 48) (hj : 0 ≤ j ∧ j < 48) (h : a ≠ c) : AtZ (upZ B (2084 + 48 * c + k) v) a j = AtZ B a j := by
  unfold AtZ upZ
  rw [if_neg (by omega)]
def okV (b0 k v : Int) : Prop :=
  (k = 0 → 0 ≤ v ∧ v < 4) ∧ (k = 1 → 0 ≤ v ∧ v < 4) ∧ (k = 2 → 0 ≤ v ∧ v ≤ 2) ∧ (k = 3 → 1 ≤ v ∧ v ≤ 99999) ∧ (k = 4 → v = 5 ∨ v = 10) ∧ (k = 5 → 0 ≤ v ∧ v ≤ b0) ∧ (k = 6 → 0 ≤ v ∧ v ≤ 1000) ∧ (k = 7 → 0 ≤ v ∧ v ≤ 3) ∧ (k = 8 → -1 ≤ v ∧ v ≤ 99999) ∧ (k = 9 → v = 0 ∨ v = 1) ∧ (k = 11 → v = 0 ∨ v = 1) ∧ (13 ≤ k ∧ k < 17 → 0 ≤ v ∧ v ≤ 2) ∧ (k = 47 → 0 ≤ v ∧ v ≤ 10)
theorem AO_set {B : Int → Int} {a k v : Int} (h : AO B a) (h0 : 0 ≤ a) (hk : 0 ≤ k) (hv : okV (B 0) k v) : AO (upZ B (2084 + 48 * a + k) v) a := by
  obtain ⟨c0, c1, c2, c3, c4, c5, c6, c7, c8, c9, c11, cu, c47⟩ := h
  obtain ⟨v0, v1, v2, v3, v4, v5, v6, v7, v8, v9, v11, vu, v47⟩ := hv
  have hz : upZ B (2084 + 48 * a + k) v 0 = B 0 := upZ_ne (by omega)
  unfold AO
  rw [hz]
  simp only [AtZ_up]
  refine ⟨?_, ?_, ?_, ?_, ?_, ?_, ?_, ?_, ?_, ?_, ?_, fun q q0 q1 => ?_, ?_⟩
  · split
    · exact v0 (by omega)
    · exact c0
  · split
    · exact v1 (by omega)
    · exact c1
  · split
    · exact v2 (by omega)
    · exact c2
  · split
    · exact v3 (by omega)
    · exact c3
  · split
    · exact v4 (by omega)
    · exact c4
  · split
    · exact v5 (by omega)
    · exact c5
  · split
    · exact v6 (by omega)
    · exact c6
  · split
    · exact v7 (by omega)
    · exact c7
  · split
    · exact v8 (by omega)
    · exact c8
  · split
    · exact v9 (by omega)
    · exact c9
  · split
    · exact v11 (by omega)
    · exact c11
  · split
    · exact vu (by omega)
    · exact cu q q0 q1
  · split
    · exact v47 (by omega)
    · exact c47
/-- a bank that agrees on an asset's places and on now -/
theorem AO_eq {B B1 : Int → Int} {a : Int} (h : AO B a) (hz : B1 0 = B 0) (hk : ∀ j : Int, 0 ≤ j → j < 48 → AtZ B1 a j = AtZ B a j) : AO B1 a := by
  obtain ⟨c0, c1, c2, c3, c4, c5, c6, c7, c8, c9, c11, cu, c47⟩ := h
  unfold AO
  rw [hz, hk 0 (by omega) (by omega), hk 1 (by omega) (by omega), hk 2 (by omega) (by omega), hk 3 (by omega) (by omega), hk 4 (by omega) (by omega), hk 5 (by omega) (by omega), hk 6 (by omega) (by omega), hk 7 (by omega) (by omega), hk 8 (by omega) (by omega), hk 9 (by omega) (by omega), hk 11 (by omega) (by omega), hk 47 (by omega) (by omega)]
  exact ⟨c0, c1, c2, c3, c4, c5, c6, c7, c8, c9, c11, fun q q0 q1 => by rw [hk (13 + q) (by omega) (by omega)]; exact cu q q0 q1, c47⟩
theorem book_hi {B : Int → Int} {t so v x i : Int} (h0 : 0 ≤ t) (h1 : t < 4) (h2 : 0 ≤ so) (h3 : so < 4) (hk : 0 ≤ B 1867 ∧ B 1867 ≤ 40) (hi : 2084 ≤ i) : bookZ B t so v x i = B i := by
  have hm : (if 40 ≤ B 1867 then 39 else B 1867) ≤ 39 := by split <;> omega
  unfold bookZ
  dsimp only
  rw [if_neg (by omega), if_neg (by omega), if_neg (by omega), if_neg (by omega), if_neg (by omega), if_neg (by omega), if_neg (by omega), if_neg (by omega), if_neg (by omega)]
theorem book_lo {B : Int → Int} {t so v x i : Int} (h0 : 0 ≤ t) (h2 : 0 ≤ so) (hi : i < 1866) : bookZ B t so v x i = B i := by
  unfold bookZ
  dsimp only
  rw [if_neg (by omega), if_neg (by omega), if_neg (by omega), if_neg (by omega), if_neg (by omega), if_neg (by omega), if_neg (by omega), if_neg (by omega), if_neg (by omega)]
theorem book_kept {B : Int → Int} {t so v x : Int} (h0 : 0 ≤ t) (h2 : 0 ≤ so) (hk : 0 ≤ B 1867 ∧ B 1867 ≤ 40) : 0 ≤ bookZ B t so v x 1867 ∧ bookZ B t so v x 1867 ≤ 40 := by
  have hm : 0 ≤ (if 40 ≤ B 1867 then 39 else B 1867) ∧ (if 40 ≤ B 1867 then 39 else B 1867) ≤ 39 := by split <;> omega
  unfold bookZ
  dsimp only
  rw [if_neg (by omega), if_neg (by omega), if_pos rfl]
  omega
theorem AO_book {B : Int → Int} {a t so v x : Int} (h : AO B a) (ha : 0 ≤ a) (h0 : 0 ≤ t) (h1 : t < 4) (h2 : 0 ≤ so) (h3 : so < 4) (hk : 0 ≤ B 1867 ∧ B 1867 ≤ 40) : AO (bookZ B t so v x) a :=
  AO_eq h (book_lo h0 h2 (by omega)) (fun j j0 j1 => book_hi h0 h1 h2 h3 hk (by omega))
def clsB (B : Int → Int) (a i w : Int) : Int → Int := upZ (upZ (upZ B (2084 + 48 * a + (17 + i)) w) (2084 + 48 * a + (37 + i)) (AtZ B a 0)) (2084 + 48 * a + 47) (i + 1)
def clsC (T B : Int → Int) (a i w : Int) : Int → Int := if i = 0 then upZ (upZ B (2084 + 48 * a + 6) w) (2084 + 48 * a + 10) (fstZ T (upZ B (2084 + 48 * a + 6) w) a w) else bookFor (upZ B (2084 + 48 * a + (27 + i)) (adjZ T B a w (AtZ B a 6))) a 2 (adjZ T B a w (AtZ B a 6))
def capZ (B : Int → Int) (a v : Int) : Int := if 0 ≤ AtZ B a 8 ∧ AtZ B a 8 < v then AtZ B a 8 else v
def clsD (T B : Int → Int) (a d k : Int) : Int → Int := if k = 0 ∨ k = 1 then bookFor (upZ (upZ B (2084 + 48 * a + 11) 1) (2084 + 48 * a + 12) (capZ B a (lastZ T B a d k (AtZ B a 6)))) a 3 (capZ B a (lastZ T B a d k (AtZ B a 6))) else B
def clsE1 (B : Int → Int) (a d k : Int) : Int → Int := if 0 ≤ k ∨ d = 0 then upZ B (2084 + 48 * a + 9) 1 else B
def clsE (B : Int → Int) (a d k : Int) : Int → Int := upZ (clsE1 B a d k) (2084 + 48 * a + 0) (AtZ (clsE1 B a d k) a 1)
def clsF (T B : Int → Int) (a i : Int) : Int → Int := clsE (clsD T B a (AtZ B a 4 - 1 - i) (AtZ B a 7 - 1)) a (AtZ B a 4 - 1 - i) (AtZ B a 7 - 1)
/-- an asset's close at the end of the year y -/
def clsZ (T tr B : Int → Int) (a y : Int) : Int → Int := if AtZ B a 9 = 1 then B else clsF T (clsC T (clsB B a (y - AtZ B a 5 / 4) (worthZ T tr B a (AtZ B a 2))) a (y - AtZ B a 5 / 4) (worthZ T tr B a (AtZ B a 2))) a (y - AtZ B a 5 / 4)
