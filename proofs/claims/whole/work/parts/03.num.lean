/-! Numbers: quotients cut downwards; sums and products that fit. -/
/-- q is a / b, cut downwards -/
def fl_is (a b q : Int) : Prop := (0 < b ∧ q * b ≤ a ∧ a < q * b + b) ∨ (b < 0 ∧ a ≤ q * b ∧ q * b + b < a)
/-- Math.floorDiv of ints, as its code does it -/
def fl_i (x y : Int32) : Int32 := if 0 ≤ (x ^^^ y) then x / y else if x / y * y = x then x / y else x / y - 1
theorem fl_mul {x y : Int32} (h1 : -2147483648 ≤ x.toInt * y.toInt) (h2 : x.toInt * y.toInt ≤ 2147483647) : (x * y).toInt = x.toInt * y.toInt := by
  rw [Int32.toInt_mul]; exact Int.bmod_eq_of_le (by omega) (by omega)
theorem fl_add {x y : Int32} (h1 : -2147483648 ≤ x.toInt + y.toInt) (h2 : x.toInt + y.toInt ≤ 2147483647) : (x + y).toInt = x.toInt + y.toInt := by
  rw [Int32.toInt_add]; exact Int.bmod_eq_of_le (by omega) (by omega)
theorem fl_sub {x y : Int32} (h1 : -2147483648 ≤ x.toInt - y.toInt) (h2 : x.toInt - y.toInt ≤ 2147483647) : (x - y).toInt = x.toInt - y.toInt := by
  rw [Int32.toInt_sub]; exact Int.bmod_eq_of_le (by omega) (by omega)
theorem fl_xor (x y : Int32) : (x ^^^ y) < 0 ↔ ¬ (x.toInt < 0 ↔ y.toInt < 0) := by
  have e : ∀ z : Int32, z.toInt < 0 ↔ z.toBitVec.msb = true := fun z => by
    rw [← Int32.toInt_toBitVec, BitVec.toInt_neg_iff, BitVec.msb_eq_decide, decide_eq_true_iff]; omega
  rw [Int32.lt_iff_toInt_lt, show (0 : Int32).toInt = 0 from rfl, e, e, e]
  rw [Int32.toBitVec_xor, BitVec.msb_xor]
  cases x.toBitVec.msb <;> cases y.toBitVec.msb <;> simp
theorem fl_same {x y : Int32} (h : 0 ≤ (x ^^^ y)) : (x.toInt < 0 ∧ y.toInt < 0) ∨ (0 ≤ x.toInt ∧ 0 ≤ y.toInt) := by
  have h2 : ¬ (x ^^^ y) < 0 := fun h3 => absurd h (Int32.not_le.mpr h3)
  rw [fl_xor] at h2
  by_cases hx : x.toInt < 0 <;> by_cases hy : y.toInt < 0
  · exact Or.inl ⟨hx, hy⟩
  · exact absurd (fun q => absurd (q.mp hx) hy) h2
  · exact absurd (fun q => absurd (q.mpr hy) hx) h2
  · exact Or.inr ⟨by omega, by omega⟩
theorem fl_diff {x y : Int32} (h : ¬ 0 ≤ (x ^^^ y)) : (x.toInt < 0 ∧ 0 ≤ y.toInt) ∨ (0 ≤ x.toInt ∧ y.toInt < 0) := by
  have h2 : (x ^^^ y) < 0 := Int32.not_le.mp h
  rw [fl_xor] at h2
  by_cases hx : x.toInt < 0 <;> by_cases hy : y.toInt < 0
  · exact absurd ⟨fun _ => hy, fun _ => hx⟩ h2
  · exact Or.inl ⟨hx, by omega⟩
  · exact Or.inr ⟨by omega, hy⟩
  · exact absurd ⟨fun q => absurd q hx, fun q => absurd q hy⟩ h2
theorem fl_ok {x y : Int32} (h0 : ¬ y = 0) (h1 : -2147483648 < x.toInt) : fl_is x.toInt y.toInt (fl_i x y).toInt := by
  have hy : y.toInt ≠ 0 := fun h => h0 (Int32.toInt_inj.mp (by rw [h]; rfl))
  have hx : x ≠ Int32.minValue := fun h => by rw [h] at h1; exact absurd h1 (by decide)
  have hq : (x / y).toInt = x.toInt.tdiv y.toInt := Int32.toInt_div_of_ne_left x y hx
  have hb := Int32.toInt_lt x
  have hyb := Int32.toInt_lt y
  have hyc := Int32.le_toInt y
  have hm : x.toInt.tdiv y.toInt * y.toInt + x.toInt.tmod y.toInt = x.toInt := Int.tdiv_mul_add_tmod _ _
  have hn : (x.toInt.tmod y.toInt).natAbs < y.toInt.natAbs := by
    rw [Int.natAbs_tmod]; exact Nat.mod_lt _ (by omega)
  have hsg : (0 ≤ x.toInt ∧ 0 ≤ x.toInt.tmod y.toInt) ∨ (x.toInt < 0 ∧ x.toInt.tmod y.toInt ≤ 0) := by
    rcases Int.lt_or_le x.toInt 0 with h | h
    rotate_left
    · exact Or.inl ⟨h, Int.tmod_nonneg _ h⟩
    · have h2 := Int.tmod_nonneg (a := -x.toInt) y.toInt (by omega)
      rw [Int.neg_tmod] at h2; exact Or.inr ⟨h, by omega⟩
  have hqy : (x / y * y).toInt = x.toInt.tdiv y.toInt * y.toInt := by
    rw [← hq]
    refine fl_mul ?_ ?_ <;> rw [hq] <;> omega
  have heq : x / y * y = x ↔ x.toInt.tmod y.toInt = 0 := by
    rw [← Int32.toInt_inj, hqy]; omega
  have hql : (x / y).toInt ≤ x.toInt.natAbs ∧ -(x.toInt.natAbs : Int) ≤ (x / y).toInt := by
    have h3 : (x.toInt.tdiv y.toInt).natAbs ≤ x.toInt.natAbs := by
      rw [Int.natAbs_tdiv]; exact Nat.div_le_self _ _
    rw [hq]; omega
  unfold fl_i
  generalize hr : x.toInt.tmod y.toInt = r at *
  split
  · rename_i hs
    have hs := fl_same hs
    rw [hq]; unfold fl_is; omega
  · rename_i hs
    have hs := fl_diff hs
    split
    · rename_i h
      rw [heq] at h
      rw [hq]; unfold fl_is; omega
    · rename_i h
      rw [heq] at h
      have h5 : (x / y).toInt * y.toInt = x.toInt.tdiv y.toInt * y.toInt := by rw [hq]
      rw [fl_sub (by rw [show (1 : Int32).toInt = 1 from rfl]; omega) (by rw [show (1 : Int32).toInt = 1 from rfl]; omega), show (1 : Int32).toInt = 1 from rfl]
      unfold fl_is
      rw [Int.sub_mul, h5]; omega
/-- the same, as the reference's code does it -/
def qt_i (a b : Int32) : Int32 := if a / b * b = a then a / b else if (0 ≤ a ↔ 0 ≤ b) then a / b else a / b - 1
theorem qt_fl (a b : Int32) : qt_i a b = fl_i a b := by
  unfold qt_i fl_i
  by_cases h1 : a / b * b = a
  · simp [h1]
  · simp only [h1, if_false]
    have z : ∀ q : Int32, 0 ≤ q ↔ 0 ≤ q.toInt := fun q => by rw [Int32.le_iff_toInt_le]; rfl
    by_cases h2 : 0 ≤ (a ^^^ b)
    · rw [if_pos h2, if_pos]
      have h3 := fl_same h2
      rw [z, z]
      constructor <;> intro h <;> omega
    · rw [if_neg h2, if_neg]
      have h3 := fl_diff h2
      rw [z, z]
      intro h
      rcases h3 with ⟨h4, h5⟩ | ⟨h4, h5⟩
      · have := h.mpr h5; omega
      · have := h.mp h4; omega
/-- the quotient is one alone -/
theorem fl_one {a b q q' : Int} (h : fl_is a b q) (h' : fl_is a b q') : q = q' := by
  unfold fl_is at h h'
  rcases Int.lt_trichotomy q q' with h3 | h3 | h3
  · exfalso
    rcases h with ⟨hb, h1, h2⟩ | ⟨hb, h1, h2⟩
    · have : (q + 1) * b ≤ q' * b := Int.mul_le_mul_of_nonneg_right (by omega) (by omega)
      rw [Int.add_mul, Int.one_mul] at this; omega
    · have : q' * b ≤ (q + 1) * b := Int.mul_le_mul_of_nonpos_right (by omega) (by omega)
      rw [Int.add_mul, Int.one_mul] at this; omega
  · exact h3
  · exfalso
    rcases h with ⟨hb, h1, h2⟩ | ⟨hb, h1, h2⟩
    · have : (q' + 1) * b ≤ q * b := Int.mul_le_mul_of_nonneg_right (by omega) (by omega)
      rw [Int.add_mul, Int.one_mul] at this; omega
    · have : q * b ≤ (q' + 1) * b := Int.mul_le_mul_of_nonpos_right (by omega) (by omega)
      rw [Int.add_mul, Int.one_mul] at this; omega
