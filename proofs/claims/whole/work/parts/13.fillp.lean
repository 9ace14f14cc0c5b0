/-! FILLING: parities of places, counts, the frame's pixels. -/
/-- the place that a crossing is marked at -/
def clN (w : Nat) (v : Int32) : Nat := (neI v 0 (nI w)).toNatClampNeg
theorem clN_ok {w : Nat} (hw : w ≤ 24) (v : Int32) : neI v 0 (nI w) = nI (clN w v) ∧ clN w v ≤ w := by
  have hm : ∃ j : Nat, j ≤ w ∧ neI v 0 (nI w) = nI j := by
    unfold neI
    by_cases h1 : v < nI w
    · rw [if_pos h1]
      by_cases h2 : (0 : Int32) < v
      · rw [if_pos h2]
        rcases pk_ix v (n := w) (by omega) with h3 | h3 | ⟨j, h3, h4⟩
        · exact absurd (Int32.lt_trans h3 h2) Int32.lt_irrefl
        · exact absurd (Int32.lt_of_lt_of_le h1 h3) Int32.lt_irrefl
        · exact ⟨j, by omega, h4⟩
      · rw [if_neg h2]; exact ⟨0, Nat.zero_le _, rfl⟩
    · rw [if_neg h1]
      by_cases h2 : (0 : Int32) < nI w
      · rw [if_pos h2]; exact ⟨w, Nat.le_refl _, rfl⟩
      · rw [if_neg h2]; exact ⟨0, Nat.zero_le _, rfl⟩
  obtain ⟨j, hj, e⟩ := hm
  have e2 : clN w v = j := by unfold clN; rw [e]; exact nI_clamp (by omega)
  rw [e2]; exact ⟨e, hj⟩
/-- which places are marked after k edges -/
def tuB (xs ys : Nat → Int32) (n w : Nat) (y : Int32) : Nat → Nat → Bool
  | 0 => fun _ => false
  | k + 1 => if emB ys n k y = true then (fun i => if i = clN w (cuI xs ys n k y) then !(tuB xs ys n w y k i) else tuB xs ys n w y k i) else tuB xs ys n w y k
theorem tu_f {xs ys : Nat → Int32} {n w k : Nat} {y : Int32} (h : emB ys n k y = false) : tuB xs ys n w y (k + 1) = tuB xs ys n w y k := by
  rw [tuB, if_neg (by rw [h]; decide)]
theorem tu_t {xs ys : Nat → Int32} {n w k : Nat} {y : Int32} (h : emB ys n k y = true) : tuB xs ys n w y (k + 1) = fun i => if i = clN w (cuI xs ys n k y) then !(tuB xs ys n w y k i) else tuB xs ys n w y k i := by
  rw [tuB, if_pos h]
/-- the odd ones among the last d marks -/
def sfD (T : Nat → Bool) (w : Nat) : Nat → Bool
  | 0 => false
  | d + 1 => T (w - d) != sfD T w d
theorem sf_0 (w d : Nat) : sfD (fun _ => false) w d = false := by
  induction d with
  | zero => rfl
  | succ d ih => rw [sfD, ih]; rfl
theorem sf_tog {T : Nat → Bool} {w c : Nat} (hc : c ≤ w) : ∀ d, d ≤ w → sfD (fun i => if i = c then !(T i) else T i) w d = (if w < c + d then !(sfD T w d) else sfD T w d) := by
  intro d
  induction d with
  | zero => intro _; rw [if_neg (by omega)]; rfl
  | succ d ih =>
    intro hd
    rw [sfD, sfD, ih (by omega)]
    by_cases h1 : w - d = c
    · rw [if_pos h1, if_neg (by omega), if_pos (by omega)]
      cases T (w - d) <;> cases sfD T w d <;> rfl
    · rw [if_neg h1]
      by_cases h2 : w < c + d
      · rw [if_pos h2, if_pos (by omega)]
        cases T (w - d) <;> cases sfD T w d <;> rfl
      · rw [if_neg h2, if_neg (by omega)]
/-- a pixel's row of marks is what is inside -/
theorem sf_in {xs ys : Nat → Int32} {n w x : Nat} {y : Int32} (hw : w ≤ 24) (hx : x < w) : ∀ k, sfD (tuB xs ys n w y k) w (w - x) = oddB (crB xs ys n (nI x) y) k := by
  intro k
  induction k with
  | zero => exact sf_0 _ _
  | succ k ih =>
    by_cases h : emB ys n k y = true
    · obtain ⟨e, hle⟩ := clN_ok hw (cuI xs ys n k y)
      rw [tu_t h, sf_tog hle (w - x) (by omega), ih, oddB, crB, h]
      have key : (w < clN w (cuI xs ys n k y) + (w - x)) ↔ ¬ cuI xs ys n k y ≤ nI x := by
        have hq : ¬ cuI xs ys n k y ≤ nI x ↔ nI x < neI (cuI xs ys n k y) 0 (nI w) := by
          generalize cuI xs ys n k y = v
          have h0 : (0 : Int32) ≤ nI x := nI_pos' (by omega)
          have hxw : nI x < nI w := nI_lt hx (by omega)
          have h0w : (0 : Int32) < nI w := by
            have := nI_lt (a := 0) (b := w) (by omega) (by omega); exact this
          simp only [Int32.le_iff_toInt_le, Int32.lt_iff_toInt_lt, show (0 : Int32).toInt = 0 from rfl] at h0 hxw h0w ⊢
          unfold neI
          by_cases h1 : v < nI w
          · rw [if_pos h1]
            by_cases h2 : (0 : Int32) < v
            · rw [if_pos h2]; omega
            · rw [if_neg h2]
              simp only [Int32.lt_iff_toInt_lt, show (0 : Int32).toInt = 0 from rfl] at h2 ⊢
              omega
          · rw [if_neg h1]
            simp only [Int32.lt_iff_toInt_lt] at h1
            rw [if_pos (by rw [Int32.lt_iff_toInt_lt]; exact h0w)]
            omega
        rw [hq, e, nI_ltI (by omega) (by omega)]; omega
      by_cases h5 : cuI xs ys n k y ≤ nI x
      · rw [if_neg (fun q => key.mp q h5), decide_eq_false (fun q => q h5)]
        cases oddB (crB xs ys n (nI x) y) k <;> rfl
      · rw [if_pos (key.mpr h5), decide_eq_true h5]
        cases oddB (crB xs ys n (nI x) y) k <;> rfl
    · have h6 : emB ys n k y = false := by cases h7 : emB ys n k y; rfl; exact absurd h7 h
      rw [tu_f h6, ih, odd_f (cr_f h6)]
/-- how many of the first n -/
def cnB (f : Nat → Bool) : Nat → Nat
  | 0 => 0
  | k + 1 => cnB f k + (if f k = true then 1 else 0)
theorem cn_le (f : Nat → Bool) (k : Nat) : cnB f k ≤ k := by
  induction k with
  | zero => exact Nat.le_refl _
  | succ k ih => rw [cnB]; split <;> omega
theorem cn_mono {f : Nat → Bool} {k m : Nat} (h : k ≤ m) : cnB f k ≤ cnB f m := by
  induction m with
  | zero => rw [Nat.le_zero.mp h]; exact Nat.le_refl _
  | succ m ih =>
    by_cases he : k = m + 1
    · rw [he]; exact Nat.le_refl _
    · rw [cnB]; have := ih (by omega); omega
theorem cn_t {f : Nat → Bool} {k : Nat} (h : f k = true) : cnB f (k + 1) = cnB f k + 1 := by rw [cnB, if_pos h]
theorem cn_f {f : Nat → Bool} {k : Nat} (h : f k = false) : cnB f (k + 1) = cnB f k := by rw [cnB, if_neg (by rw [h]; decide)]; rfl
theorem cn_congr {f g : Nat → Bool} : ∀ k, (∀ i, i < k → f i = g i) → cnB f k = cnB g k := by
  intro k
  induction k with
  | zero => intro _; rfl
  | succ k ih => intro h; rw [cnB, cnB, ih (fun i hi => h i (by omega)), h k (by omega)]
def suN (f : Nat → Nat) : Nat → Nat
  | 0 => 0
  | k + 1 => suN f k + f k
theorem su_congr {f g : Nat → Nat} : ∀ k, (∀ i, i < k → f i = g i) → suN f k = suN g k := by
  intro k
  induction k with
  | zero => intro _; rfl
  | succ k ih => intro h; rw [suN, suN, ih (fun i hi => h i (by omega)), h k (by omega)]
theorem su_le {f : Nat → Nat} {b : Nat} (h : ∀ i, f i ≤ b) : ∀ k, suN f k ≤ k * b := by
  intro k
  induction k with
  | zero => exact Nat.zero_le _
  | succ k ih => rw [suN, Nat.add_mul, Nat.one_mul]; have := h k; omega
/-- places in the frame are apart -/
theorem at_inj {w i j a b : Nat} (hi : i < w) (ha : a < w) (h : j * w + i = b * w + a) : j = b ∧ i = a := by
  have h1 : (j * w + i) / w = j := by
    rw [Nat.mul_comm, Nat.mul_add_div (by omega), Nat.div_eq_of_lt hi]; omega
  have h2 : (b * w + a) / w = b := by
    rw [Nat.mul_comm, Nat.mul_add_div (by omega), Nat.div_eq_of_lt ha]; omega
  have h3 : j = b := by rw [← h1, ← h2, h]
  subst h3
  exact ⟨rfl, by omega⟩
