/-! THE SAME ANSWERS: crossings of the class and of the reference, by whole numbers. -/
theorem l_sub {x y : Int64} (h1 : -4611686018427387904 ≤ x.toInt - y.toInt) (h2 : x.toInt - y.toInt ≤ 4611686018427387904) : (x - y).toInt = x.toInt - y.toInt := by
  rw [Int64.toInt_sub]; exact Int.bmod_eq_of_le (by omega) (by omega)
theorem l_mul {x y : Int64} (h1 : -4611686018427387904 ≤ x.toInt * y.toInt) (h2 : x.toInt * y.toInt ≤ 4611686018427387904) : (x * y).toInt = x.toInt * y.toInt := by
  rw [Int64.toInt_mul]; exact Int.bmod_eq_of_le (by omega) (by omega)
theorem wide_bound {x y : Int} (hx : -4294967296 ≤ x ∧ x ≤ 4294967296) (hy : -32768 ≤ y ∧ y ≤ 32768) : -140737488355328 ≤ x * y ∧ x * y ≤ 140737488355328 := by
  have h : (x * y).natAbs ≤ 4294967296 * 32768 := by
    rw [Int.natAbs_mul]; exact Nat.mul_le_mul (by omega) (by omega)
  omega
/-- a quotient cut downwards is below a whole number just if the fraction is -/
theorem fl_lt {E F q m : Int} (h : fl_is E F q) : q < m ↔ (0 < F ∧ E < m * F) ∨ (F < 0 ∧ m * F < E) := by
  rcases h with ⟨hF, h1, h2⟩ | ⟨hF, h1, h2⟩
  · constructor
    · intro hq
      have : (q + 1) * F ≤ m * F := Int.mul_le_mul_of_nonneg_right (by omega) (Int.le_of_lt hF)
      rw [Int.add_mul, Int.one_mul] at this
      exact Or.inl ⟨hF, by omega⟩
    · rintro (⟨_, h3⟩ | ⟨h3, _⟩)
      · exact Int.lt_of_mul_lt_mul_right (Int.lt_of_le_of_lt h1 h3) (Int.le_of_lt hF)
      · omega
  · constructor
    · intro hq
      have : m * F ≤ (q + 1) * F := Int.mul_le_mul_of_nonpos_right (by omega) (Int.le_of_lt hF)
      rw [Int.add_mul, Int.one_mul] at this
      exact Or.inr ⟨hF, by omega⟩
    · rintro (⟨h3, _⟩ | ⟨_, h3⟩)
      · omega
      · rcases Int.lt_or_le q m with h4 | h4
        · exact h4
        · exfalso
          have : q * F ≤ m * F := Int.mul_le_mul_of_nonpos_right h4 (Int.le_of_lt hF)
          omega
theorem cross_id (A B C E X Y : Int) : (A - C) * (Y - E) - (X - C) * (B - E) = (A - C) * (Y - B) - (A - X) * (E - B) := by
  simp only [Int.sub_mul, Int.mul_sub]
  omega
theorem cross_id2 (A B C E X Y : Int) : (C - A) * (Y - B) - (X - A) * (E - B) = (A - X) * (E - B) - (A - C) * (Y - B) := by
  simp only [Int.sub_mul, Int.mul_sub]
  omega
/-- where the edge meets the line: the class's place is above x just if the reference's products say so -/
theorem cu_iff {a b c d x y : Int32} (ha : cO a) (hb : cO b) (hc : cO c) (hd : cO d) (hm : (y.toInt < b.toInt ∧ d.toInt ≤ y.toInt) ∨ (b.toInt ≤ y.toInt ∧ y.toInt < d.toInt)) :
    (¬ a - fl_i ((a - c) * (y - b)) (d - b) ≤ x) ↔ ((0 < d.toInt - b.toInt ∧ (a.toInt - c.toInt) * (y.toInt - b.toInt) < (a.toInt - x.toInt) * (d.toInt - b.toInt)) ∨ (d.toInt - b.toInt < 0 ∧ (a.toInt - x.toInt) * (d.toInt - b.toInt) < (a.toInt - c.toInt) * (y.toInt - b.toInt))) := by
  have hy : cO y := by unfold cO at *; omega
  obtain ⟨m1, m2, m3⟩ := co_mul ha hc hy hb
  have y1 := co_sub hd hb
  have hne : ¬ d - b = 0 := fun h => by
    have := congrArg Int32.toInt h
    rw [y1, show (0 : Int32).toInt = 0 from rfl] at this; omega
  have hf := fl_ok (x := (a - c) * (y - b)) (y := d - b) hne (by rw [m1]; omega)
  rw [m1, y1] at hf
  obtain ⟨r1, r2⟩ := fl_range hf (by omega)
  rw [← fl_lt hf]
  have hq : -32768 ≤ (fl_i ((a - c) * (y - b)) (d - b)).toInt ∧ (fl_i ((a - c) * (y - b)) (d - b)).toInt ≤ 32768 := by
    unfold cO at ha hc
    by_cases hE : 0 ≤ a.toInt - c.toInt
    · have := r1 hE; omega
    · have := r2 (by omega); omega
  have hs : (a - fl_i ((a - c) * (y - b)) (d - b)).toInt = a.toInt - (fl_i ((a - c) * (y - b)) (d - b)).toInt := by
    unfold cO at ha
    exact fl_sub (by omega) (by omega)
  rw [Int32.le_iff_toInt_le, hs]
  omega
theorem nx_eq {n k : Nat} (h : k < n) : nxM n k = nxN n k := by
  unfold nxM nxN
  by_cases h2 : k + 1 = n
  · rw [if_pos h2, if_neg (by omega)]
  · rw [if_neg h2, if_pos (by omega)]
theorem crM_eq {a b c d x y : Int32} (ha : cO a) (hb : cO b) (hc : cO c) (hd : cO d) :
    crM a.toInt64 b.toInt64 c.toInt64 d.toInt64 x.toInt64 y.toInt64 = ((decide (y < b) != decide (y < d)) && decide (¬ a - fl_i ((a - c) * (y - b)) (d - b) ≤ x)) := by
  have e1 : (0 < lg_cmp b.toInt64 y.toInt64) ↔ y < b := by rw [lg_cmp_gt, Int32.toInt64_lt]
  have e2 : (0 < lg_cmp d.toInt64 y.toInt64) ↔ y < d := by rw [lg_cmp_gt, Int32.toInt64_lt]
  unfold crM
  by_cases h1 : y < b
  · by_cases h2 : y < d
    · rw [if_pos (iff_of_true (e1.mpr h1) (e2.mpr h2)), decide_eq_true h1, decide_eq_true h2]; rfl
    · rw [if_neg (fun q => h2 (e2.mp (q.mp (e1.mpr h1)))), if_pos (e1.mpr h1), decide_eq_true h1, decide_eq_false h2]
      show _ = decide _
      rw [decide_eq_decide, lg_cmp_le]
      rw [Int32.lt_iff_toInt_lt] at h1 h2
      rw [cu_iff ha hb hc hd (by omega), Int64.le_iff_toInt_le]
      have hx1 := Int32.toInt_lt x
      have hx2 := Int32.le_toInt x
      unfold cO at ha hb hc hd
      have s1 : (a.toInt64 - c.toInt64).toInt = a.toInt - c.toInt := by rw [l_sub] <;> simp only [Int32.toInt_toInt64] <;> omega
      have s2 : (y.toInt64 - d.toInt64).toInt = y.toInt - d.toInt := by rw [l_sub] <;> simp only [Int32.toInt_toInt64] <;> omega
      have s3 : (x.toInt64 - c.toInt64).toInt = x.toInt - c.toInt := by rw [l_sub] <;> simp only [Int32.toInt_toInt64] <;> omega
      have s4 : (b.toInt64 - d.toInt64).toInt = b.toInt - d.toInt := by rw [l_sub] <;> simp only [Int32.toInt_toInt64] <;> omega
      have b1 := wide_bound (x := a.toInt - c.toInt) (y := y.toInt - d.toInt) (by omega) (by omega)
      have b2 := wide_bound (x := x.toInt - c.toInt) (y := b.toInt - d.toInt) (by omega) (by omega)
      have p1 : ((a.toInt64 - c.toInt64) * (y.toInt64 - d.toInt64)).toInt = (a.toInt - c.toInt) * (y.toInt - d.toInt) := by rw [l_mul] <;> rw [s1, s2] <;> omega
      have p2 : ((x.toInt64 - c.toInt64) * (b.toInt64 - d.toInt64)).toInt = (x.toInt - c.toInt) * (b.toInt - d.toInt) := by rw [l_mul] <;> rw [s3, s4] <;> omega
      rw [p1, p2]
      have hid := cross_id a.toInt b.toInt c.toInt d.toInt x.toInt y.toInt
      omega
  · by_cases h2 : y < d
    · rw [if_neg (fun q => h1 (e1.mp (q.mpr (e2.mpr h2)))), if_neg (fun q => h1 (e1.mp q)), decide_eq_false h1, decide_eq_true h2]
      show _ = decide _
      rw [decide_eq_decide, lg_cmp_le]
      rw [Int32.lt_iff_toInt_lt] at h1 h2
      rw [cu_iff ha hb hc hd (by omega), Int64.le_iff_toInt_le]
      have hx1 := Int32.toInt_lt x
      have hx2 := Int32.le_toInt x
      unfold cO at ha hb hc hd
      have s1 : (c.toInt64 - a.toInt64).toInt = c.toInt - a.toInt := by rw [l_sub] <;> simp only [Int32.toInt_toInt64] <;> omega
      have s2 : (y.toInt64 - b.toInt64).toInt = y.toInt - b.toInt := by rw [l_sub] <;> simp only [Int32.toInt_toInt64] <;> omega
      have s3 : (x.toInt64 - a.toInt64).toInt = x.toInt - a.toInt := by rw [l_sub] <;> simp only [Int32.toInt_toInt64] <;> omega
      have s4 : (d.toInt64 - b.toInt64).toInt = d.toInt - b.toInt := by rw [l_sub] <;> simp only [Int32.toInt_toInt64] <;> omega
      have b1 := wide_bound (x := c.toInt - a.toInt) (y := y.toInt - b.toInt) (by omega) (by omega)
      have b2 := wide_bound (x := x.toInt - a.toInt) (y := d.toInt - b.toInt) (by omega) (by omega)
      have p1 : ((c.toInt64 - a.toInt64) * (y.toInt64 - b.toInt64)).toInt = (c.toInt - a.toInt) * (y.toInt - b.toInt) := by rw [l_mul] <;> rw [s1, s2] <;> omega
      have p2 : ((x.toInt64 - a.toInt64) * (d.toInt64 - b.toInt64)).toInt = (x.toInt - a.toInt) * (d.toInt - b.toInt) := by rw [l_mul] <;> rw [s3, s4] <;> omega
      rw [p1, p2]
      have hid := cross_id2 a.toInt b.toInt c.toInt d.toInt x.toInt y.toInt
      omega
    · rw [if_pos (iff_of_false (fun q => h1 (e1.mp q)) (fun q => h2 (e2.mp q))), decide_eq_false h1, decide_eq_false h2]; rfl
/-- both sides' vertices: the crossings are the same -/
theorem cr_same {xs ys mx my : Nat → Int32} {L : List (Int32 × Int32)} (h1 : hoL xs ys L) (h2 : hoL mx my L) (hc : coL L) (x y : Int32) {k : Nat} (hk : k < L.length) : crB xs ys L.length x y k = crQ mx my L.length x y k := by
  have hj := nxN_lt hk
  unfold crQ crB emB cuI
  rw [nx_eq hk, (hoL_x h1 hk).1, (hoL_x h1 hk).2, (hoL_x h1 hj).1, (hoL_x h1 hj).2, (hoL_x h2 hk).1, (hoL_x h2 hk).2, (hoL_x h2 hj).1, (hoL_x h2 hj).2]
  exact (crM_eq (lX_co hc hk).1 (lX_co hc hk).2 (lX_co hc hj).1 (lX_co hc hj).2).symm
theorem odd_congr {f g : Nat → Bool} : ∀ k, (∀ i, i < k → f i = g i) → oddB f k = oddB g k := by
  intro k
  induction k with
  | zero => intro _; rfl
  | succ k ih => intro h; rw [oddB, oddB, ih (fun i hi => h i (by omega)), h k (by omega)]
theorem in_same {xs ys mx my : Nat → Int32} {L : List (Int32 × Int32)} {n : Nat} (hn : n = L.length) (h1 : hoL xs ys L) (h2 : hoL mx my L) (hc : coL L) (x y : Int32) : oddB (crB xs ys n x y) n = oddB (crQ mx my n x y) n := by
  subst hn
  exact odd_congr _ (fun i hi => cr_same h1 h2 hc x y hi)
theorem vx_same {xs ys mx my : Nat → Int32} {L : List (Int32 × Int32)} {n : Nat} (hn : n = L.length) (h60 : n ≤ 60) (h1 : hoL xs ys L) (h2 : hoL mx my L) (i : Int32) : vxI xs n i = vxI mx n i ∧ vxI ys n i = vxI my n i := by
  unfold vxI
  by_cases h : hsB i (nI n) = true
  · obtain ⟨j, hj, rfl⟩ := hs_ix h60 h
    rw [if_pos h, if_pos h, if_pos h, if_pos h, nI_clamp (by omega), (hoL_x h1 (by omega)).1, (hoL_x h1 (by omega)).2, (hoL_x h2 (by omega)).1, (hoL_x h2 (by omega)).2]
    exact ⟨rfl, rfl⟩
  · rw [if_neg h, if_neg h, if_neg h, if_neg h]; exact ⟨rfl, rfl⟩
theorem px_same {col px : Nat → Int32} {wd hg : Nat} (hw : wd ≤ 24) (hh : hg ≤ 24) (h : ∀ x y, x < wd → y < hg → col (y * wd + x) = px (24 * y + x)) (x y : Int32) : pxI col (nI wd) (nI hg) x y (fun i j => j * wd + i) = pxI px (nI wd) (nI hg) x y (fun i j => 24 * j + i) := by
  unfold pxI
  by_cases hc : ¬ x < 0 ∧ ¬ nI wd ≤ x ∧ ¬ y < 0 ∧ ¬ nI hg ≤ y
  · obtain ⟨i, hi, rfl⟩ := ge_ix (by omega) hc.1 hc.2.1
    obtain ⟨j, hj, rfl⟩ := ge_ix (by omega) hc.2.2.1 hc.2.2.2
    rw [if_pos hc, if_pos hc, nI_clamp (by omega), nI_clamp (by omega)]
    exact h i j hi hj
  · rw [if_neg hc, if_neg hc]
theorem rg_same (a0 b0 a1 b1 : Int32) : (rgB a0 a1 = true ∧ rgB b0 b1 = true) ↔ (coB a0 = true ∧ coB b0 = true ∧ coB a1 = true ∧ coB b1 = true ∧ a0 ≤ a1 ∧ b0 ≤ b1) := by
  unfold rgB
  rw [decide_eq_true_iff, decide_eq_true_iff, Int32.not_lt, Int32.not_lt]
  constructor
  · rintro ⟨⟨h1, h2, h3⟩, h4, h5, h6⟩; exact ⟨h1, h4, h2, h5, h3, h6⟩
  · rintro ⟨h1, h4, h2, h5, h3, h6⟩; exact ⟨⟨h1, h2, h3⟩, h4, h5, h6⟩
theorem ho_snoc {xs ys : Nat → Int32} {L : List (Int32 × Int32)} {n : Nat} (hn : n = L.length) (h : hoL xs ys L) (x y : Int32) : hoL (upd xs n x) (upd ys n y) (L ++ [(x, y)]) := by
  intro i hi
  rw [List.length_append, List.length_singleton] at hi
  by_cases he : i = n
  · rw [he, pk_us, pk_us, hn, List.getElem?_append_right (Nat.le_refl _), Nat.sub_self]; rfl
  · rw [pk_un he, pk_un he, List.getElem?_append_left (by omega)]
    exact h i (by omega)
/-- what the two sides have in common between the calls -/
def lwI (wd hg cap n : Nat) (L : List (Int32 × Int32)) (xs ys mx my sd col px : Nat → Int32) : Prop := n = L.length ∧ hoL xs ys L ∧ hoL mx my L ∧ coL L ∧ n ≤ cap ∧ (∀ k, k < 4 → cO (sd k)) ∧ ∀ x y, x < wd → y < hg → col (y * wd + x) = px (24 * y + x)
theorem law_c {L i : Nat} (hL : L ≤ 2563) (hi : i ≤ 3000) : (nI L - 5 < nI i) ↔ L < i + 5 := by
  have h5 : (nI L - 5).toInt = (L : Int) - 5 := pk_sub_toInt (a := L) (b := 5) (by omega) (by omega)
  rw [Int32.lt_iff_toInt_lt, h5, nI_toInt (by omega)]; omega
