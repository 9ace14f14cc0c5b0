/-! COORDINATES: a pass keeps them; there the reference's good vertices are the class's. -/
def cO (x : Int32) : Prop := -16384 ≤ x.toInt ∧ x.toInt ≤ 16384
theorem coB_iff {x : Int32} : coB x = true ↔ cO x := by
  unfold coB cO
  rw [decide_eq_true_iff, Int32.not_lt, Int32.not_lt, Int32.le_iff_toInt_le, Int32.le_iff_toInt_le]
  exact Iff.rfl
def coL (L : List (Int32 × Int32)) : Prop := ∀ v ∈ L, cO v.1 ∧ cO v.2
theorem fl_rangeP {E t Y q : Int} (hY : 0 < Y) (h0 : 0 ≤ t) (h1 : t ≤ Y) (h2 : q * Y ≤ E * t) (h3 : E * t < q * Y + Y) : (0 ≤ E → 0 ≤ q ∧ q ≤ E) ∧ (E < 0 → E ≤ q ∧ q ≤ 0) := by
  have h3' : E * t < (q + 1) * Y := by rw [Int.add_mul, Int.one_mul]; exact h3
  refine ⟨fun hE => ⟨?_, ?_⟩, fun hE => ⟨?_, ?_⟩⟩
  · have : 0 ≤ E * t := Int.mul_nonneg hE h0
    have h4 : 0 * Y < (q + 1) * Y := by rw [Int.zero_mul]; omega
    have := Int.lt_of_mul_lt_mul_right h4 (Int.le_of_lt hY)
    omega
  · have h5 : E * t ≤ E * Y := Int.mul_le_mul_of_nonneg_left h1 hE
    exact Int.le_of_mul_le_mul_right (Int.le_trans h2 h5) hY
  · have h5 : E * Y ≤ E * t := Int.mul_le_mul_of_nonpos_left (by omega) h1
    have h6 : E * Y < (q + 1) * Y := Int.lt_of_le_of_lt h5 h3'
    have := Int.lt_of_mul_lt_mul_right h6 (Int.le_of_lt hY)
    omega
  · have h5 : E * t ≤ 0 := Int.mul_nonpos_of_nonpos_of_nonneg (Int.le_of_lt hE) h0
    have h6 : q * Y ≤ 0 * Y := by rw [Int.zero_mul]; omega
    exact Int.le_of_mul_le_mul_right h6 hY
theorem fl_range {E t Y q : Int} (h : fl_is (E * t) Y q) (ht : (0 ≤ t ∧ t ≤ Y) ∨ (Y ≤ t ∧ t ≤ 0)) : (0 ≤ E → 0 ≤ q ∧ q ≤ E) ∧ (E < 0 → E ≤ q ∧ q ≤ 0) := by
  rcases h with ⟨hY, h2, h3⟩ | ⟨hY, h2, h3⟩
  · exact fl_rangeP hY (by omega) (by omega) h2 h3
  · refine fl_rangeP (E := E) (t := -t) (Y := -Y) (q := q) (by omega) (by omega) (by omega) ?_ ?_
    · rw [Int.mul_neg, Int.mul_neg]; omega
    · rw [Int.mul_neg, Int.mul_neg]; omega
/-- differences of coordinates, and their products, fit -/
theorem co_sub {a b : Int32} (ha : cO a) (hb : cO b) : (a - b).toInt = a.toInt - b.toInt := by
  unfold cO at ha hb; exact fl_sub (by omega) (by omega)
theorem mul_bound {x y : Int} (hx : -32768 ≤ x ∧ x ≤ 32768) (hy : -32768 ≤ y ∧ y ≤ 32768) : -1073741824 ≤ x * y ∧ x * y ≤ 1073741824 := by
  have h : (x * y).natAbs ≤ 32768 * 32768 := by
    rw [Int.natAbs_mul]; exact Nat.mul_le_mul (by omega) (by omega)
  omega
theorem co_mul {a b c d : Int32} (ha : cO a) (hb : cO b) (hc : cO c) (hd : cO d) : ((a - b) * (c - d)).toInt = (a.toInt - b.toInt) * (c.toInt - d.toInt) ∧ -1073741824 ≤ (a.toInt - b.toInt) * (c.toInt - d.toInt) ∧ (a.toInt - b.toInt) * (c.toInt - d.toInt) ≤ 1073741824 := by
  have h1 := co_sub ha hb
  have h2 := co_sub hc hd
  unfold cO at ha hb hc hd
  have h3 := mul_bound (x := a.toInt - b.toInt) (y := c.toInt - d.toInt) (by omega) (by omega)
  refine ⟨?_, h3⟩
  rw [fl_mul, h1, h2]
  · rw [h1, h2]; omega
  · rw [h1, h2]; omega
theorem ne0 {a b : Int32} (ha : cO a) (hb : cO b) (h : ¬ a - b = 0) : a.toInt - b.toInt ≠ 0 := by
  intro h2
  apply h
  apply Int32.toInt_inj.mp
  rw [co_sub ha hb, h2]; rfl
theorem ca_co {a b c d s : Int32} (ha : cO a) (hb : cO b) (hc : cO c) (hd : cO d) (hs : cO s) (h : (a ≤ s ∧ s ≤ c) ∨ (c ≤ s ∧ s ≤ a)) (hne : ¬ c - a = 0) : cO (caI a b c d s) := by
  obtain ⟨m1, m2, m3⟩ := co_mul hd hb hs ha
  have y1 := co_sub hc ha
  have hf := fl_ok (x := (d - b) * (s - a)) (y := c - a) hne (by rw [m1]; omega)
  rw [m1, y1] at hf
  simp only [Int32.le_iff_toInt_le] at h
  obtain ⟨r1, r2⟩ := fl_range hf (by omega)
  unfold caI
  unfold cO at *
  generalize hq : (fl_i ((d - b) * (s - a)) (c - a)).toInt = q at *
  have hqr : (b.toInt ≤ b.toInt + q ∧ b.toInt + q ≤ d.toInt) ∨ (d.toInt ≤ b.toInt + q ∧ b.toInt + q ≤ b.toInt) := by
    by_cases hE : 0 ≤ d.toInt - b.toInt
    · have := r1 hE; left; omega
    · have := r2 (by omega); right; omega
  rw [fl_add (by rw [hq]; omega) (by rw [hq]; omega), hq]
  omega
theorem gd_bt {q : Nat} {v v' s : Int32} (h : ¬ gdB q v s = gdB q v' s) : (v' ≤ s ∧ s ≤ v) ∨ (v ≤ s ∧ s ≤ v') := by
  unfold gdB at h
  by_cases hq : q % 2 = 0
  · rw [if_pos hq, if_pos hq] at h
    by_cases h1 : v < s
    · by_cases h2 : v' < s
      · exact absurd (by simp [h1, h2]) h
      · exact Or.inr ⟨Int32.le_of_lt h1, Int32.not_lt.mp h2⟩
    · by_cases h2 : v' < s
      · exact Or.inl ⟨Int32.le_of_lt h2, Int32.not_lt.mp h1⟩
      · exact absurd (by simp [h1, h2]) h
  · rw [if_neg hq, if_neg hq] at h
    by_cases h1 : s < v
    · by_cases h2 : s < v'
      · exact absurd (by simp [h1, h2]) h
      · exact Or.inl ⟨Int32.not_lt.mp h2, Int32.le_of_lt h1⟩
    · by_cases h2 : s < v'
      · exact Or.inr ⟨Int32.not_lt.mp h1, Int32.le_of_lt h2⟩
      · exact absurd (by simp [h1, h2]) h
theorem ct_co {q : Nat} {s : Int32} {fx fy : Nat → Int32} {P k : Nat} (hP : cO (fx P) ∧ cO (fy P)) (hk : cO (fx k) ∧ cO (fy k)) (hs : cO s) (h : ¬ gV q s fx fy k = gV q s fx fy P) : cO (ctV q s fx fy P k).1 ∧ cO (ctV q s fx fy P k).2 := by
  unfold gV at h
  unfold ctV
  by_cases hq : q < 2
  · rw [if_pos hq, if_pos hq] at h
    rw [if_pos hq]
    refine ⟨hs, ca_co hP.1 hP.2 hk.1 hk.2 hs ?_ (gd_ne h)⟩
    rcases gd_bt h with h2 | h2
    · exact Or.inl h2
    · exact Or.inr h2
  · rw [if_neg hq, if_neg hq] at h
    rw [if_neg hq]
    refine ⟨ca_co hP.2 hP.1 hk.2 hk.1 hs ?_ (gd_ne h), hs⟩
    rcases gd_bt h with h2 | h2
    · exact Or.inl h2
    · exact Or.inr h2
theorem ps_co {q : Nat} {s : Int32} {fx fy : Nat → Int32} {n : Nat} (hf : ∀ i, i < n → cO (fx i) ∧ cO (fy i)) (hs : cO s) : ∀ k, k ≤ n → coL (psL q s fx fy n k) := by
  intro k
  induction k with
  | zero => intro _ v hv; exact absurd hv List.not_mem_nil
  | succ k ih =>
    intro hk v hv
    unfold psL at hv
    rw [outL, List.mem_append] at hv
    rcases hv with hv | hv
    · exact ih (by omega) v hv
    · rw [stL, List.mem_append] at hv
      rcases hv with hv | hv
      · by_cases h : gV q s fx fy k = gV q s fx fy (prN n k)
        · rw [if_pos h] at hv; exact absurd hv List.not_mem_nil
        · rw [if_neg h, List.mem_singleton] at hv
          rw [hv]; exact ct_co (hf _ (prN_lt (by omega))) (hf k (by omega)) hs h
      · by_cases h : gV q s fx fy k = true
        · rw [if_pos h, List.mem_singleton] at hv
          rw [hv]; exact hf k (by omega)
        · rw [if_neg h] at hv; exact absurd hv List.not_mem_nil
theorem lX_co {L : List (Int32 × Int32)} (h : coL L) {i : Nat} (hi : i < L.length) : cO (lX L i) ∧ cO (lY L i) := by
  unfold lX lY
  rw [List.getD_eq_getElem?_getD, List.getElem?_eq_getElem hi]
  exact h _ (List.getElem_mem hi)
theorem pas_co {q : Nat} {s : Int32} {L : List (Int32 × Int32)} (h : coL L) (hs : cO s) : coL (pasL q s L) := ps_co (fun _ hi => lX_co h hi) hs _ (Nat.le_refl _)
theorem clp_co {cap : Nat} {sd : Nat → Int32} {L : List (Int32 × Int32)} (h : coL L) (hs : ∀ k, k < 4 → cO (sd k)) : ∀ k, k ≤ 4 → ∀ M, clpL cap sd L k = some M → coL M := by
  intro k
  induction k with
  | zero => intro _ M hM; cases hM; exact h
  | succ k ih =>
    intro hk M hM
    rw [clpL] at hM
    split at hM
    · cases hM
    · rename_i N hN
      split at hM
      · cases hM; exact pas_co (ih (by omega) N hN) (hs k (by omega))
      · cases hM
theorem clp_len {cap : Nat} {sd : Nat → Int32} {L : List (Int32 × Int32)} (h : L.length ≤ cap) : ∀ k M, clpL cap sd L k = some M → M.length ≤ cap := by
  intro k
  induction k with
  | zero => intro M hM; cases hM; exact h
  | succ k ih =>
    intro M hM
    rw [clpL] at hM
    split at hM
    · cases hM
    · split at hM
      · cases hM; assumption
      · cases hM
/-- where all are coordinates, the reference's good vertices are the class's -/
theorem gM_gV {q : Nat} {sd fx fy : Nat → Int32} {i : Nat} (hq : q < 4) (hi : cO (fx i) ∧ cO (fy i)) (hs : ∀ k, k < 4 → cO (sd k)) : gM q sd fx fy i = gV q (sd q) fx fy i := by
  have key : ∀ a b : Int32, cO a → cO b → ((a - b < 0) ↔ a < b) := fun a b ha hb => by
    rw [Int32.lt_iff_toInt_lt, Int32.lt_iff_toInt_lt, co_sub ha hb, show (0 : Int32).toInt = 0 from rfl]; omega
  have h0 := hs 0 (by decide)
  have h1 := hs 1 (by decide)
  have h2 := hs 2 (by decide)
  have h3 := hs 3 (by decide)
  unfold gM gV gdB dpI
  rcases (show q = 0 ∨ q = 1 ∨ q = 2 ∨ q = 3 by omega) with rfl | rfl | rfl | rfl
  · show decide (¬ fx i - sd 0 < 0) = decide (¬ fx i < sd 0)
    exact decide_eq_decide.mpr (not_congr (key _ _ hi.1 h0))
  · show decide (¬ sd 1 - fx i < 0) = decide (¬ sd 1 < fx i)
    exact decide_eq_decide.mpr (not_congr (key _ _ h1 hi.1))
  · show decide (¬ fy i - sd 2 < 0) = decide (¬ fy i < sd 2)
    exact decide_eq_decide.mpr (not_congr (key _ _ hi.2 h2))
  · show decide (¬ sd 3 - fy i < 0) = decide (¬ sd 3 < fy i)
    exact decide_eq_decide.mpr (not_congr (key _ _ h3 hi.2))
theorem mpL_pas {q : Nat} {sd fx fy : Nat → Int32} {M : List (Int32 × Int32)} (hq : q < 4) (ho : hoL fx fy M) (hc : coL M) (hs : ∀ k, k < 4 → cO (sd k)) : mpL q sd fx fy M.length M.length = pasL q (sd q) M := by
  rw [← psL_pas ho]
  unfold mpL psL
  refine out_congr (fun i hi => gM_gV hq ?_ hs) (fun _ _ _ _ _ => rfl) (fun _ _ => rfl) _ (Nat.le_refl _)
  rw [(hoL_x ho hi).1, (hoL_x ho hi).2]; exact lX_co hc hi
/-- the first k of f, the rest of g -/
def cpN (f g : Nat → Int32) (k : Nat) : Nat → Int32 := fun i => if i < k then f i else g i
theorem cpN_0 (f g : Nat → Int32) : cpN f g 0 = g := rfl
theorem cpN_s (f g : Nat → Int32) (k : Nat) : upd (cpN f g k) k (f k) = cpN f g (k + 1) := by
  funext i
  unfold upd cpN
  by_cases h : i = k
  · subst h; simp
  · by_cases h2 : i < k
    · rw [if_neg h, if_pos h2, if_pos (by omega)]
    · rw [if_neg h, if_neg h2, if_neg (by omega)]
theorem cpN_ho {fx fy gx gy : Nat → Int32} {M : List (Int32 × Int32)} (h : hoL fx fy M) {n : Nat} (hn : n = M.length) : hoL (cpN fx gx n) (cpN fy gy n) M := by
  intro i hi
  rw [h i hi]; unfold cpN; rw [if_pos (by omega), if_pos (by omega)]
