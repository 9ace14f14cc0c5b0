/-! LISTS: what a pass makes, vertex by vertex; what arrays hold of it. -/
def mpU (cap : Nat) (tx ty : Nat → Int32) (L : List (Int32 × Int32)) : Nat × (Nat → Int32) × (Nat → Int32) := L.foldl (fun u v => adP cap u v.1 v.2) (0, tx, ty)
theorem mpU_0 (cap : Nat) (tx ty : Nat → Int32) : mpU cap tx ty [] = (0, tx, ty) := rfl
theorem mpU_snoc (cap : Nat) (tx ty : Nat → Int32) (L : List (Int32 × Int32)) (v : Int32 × Int32) : mpU cap tx ty (L ++ [v]) = adP cap (mpU cap tx ty L) v.1 v.2 := by
  unfold mpU; rw [List.foldl_append]; rfl
theorem adP_1 (cap : Nat) (u : Nat × (Nat → Int32) × (Nat → Int32)) (x y : Int32) : (adP cap u x y).1 = u.1 + 1 := by unfold adP; split <;> rfl
theorem fold_1 (cap : Nat) (L : List (Int32 × Int32)) : ∀ u, (L.foldl (fun u v => adP cap u v.1 v.2) u).1 = u.1 + L.length := by
  induction L with
  | nil => intro u; rfl
  | cons v L ih => intro u; rw [List.foldl_cons, ih, adP_1, List.length_cons]; omega
theorem mpU_1 (cap : Nat) (tx ty : Nat → Int32) (L : List (Int32 × Int32)) : (mpU cap tx ty L).1 = L.length := by
  unfold mpU; rw [fold_1]; show 0 + L.length = L.length; omega
theorem fold_get (cap : Nat) (L : List (Int32 × Int32)) : ∀ (u : Nat × (Nat → Int32) × (Nat → Int32)) (i : Nat),
    (i < u.1 → (L.foldl (fun u v => adP cap u v.1 v.2) u).2.1 i = u.2.1 i ∧ (L.foldl (fun u v => adP cap u v.1 v.2) u).2.2 i = u.2.2 i) ∧
    (u.1 ≤ i → i < u.1 + L.length → i < cap → some ((L.foldl (fun u v => adP cap u v.1 v.2) u).2.1 i, (L.foldl (fun u v => adP cap u v.1 v.2) u).2.2 i) = L[i - u.1]?) := by
  induction L with
  | nil => intro u i; exact ⟨fun _ => ⟨rfl, rfl⟩, fun h1 h2 => absurd h2 (by simp only [List.length_nil]; omega)⟩
  | cons v L ih =>
    intro u i
    rw [List.foldl_cons]
    obtain ⟨h1, h2⟩ := ih (adP cap u v.1 v.2) i
    rw [adP_1] at h1 h2
    have keep : i < u.1 → (adP cap u v.1 v.2).2.1 i = u.2.1 i ∧ (adP cap u v.1 v.2).2.2 i = u.2.2 i := by
      intro h
      unfold adP
      split
      · exact ⟨if_neg (by omega), if_neg (by omega)⟩
      · exact ⟨rfl, rfl⟩
    refine ⟨fun h => ?_, fun h3 h4 h5 => ?_⟩
    · rw [(h1 (by omega)).1, (h1 (by omega)).2]; exact keep h
    · rw [List.length_cons] at h4
      by_cases he : i = u.1
      · subst he
        rw [(h1 (by omega)).1, (h1 (by omega)).2]
        have e : adP cap u v.1 v.2 = (u.1 + 1, upd u.2.1 u.1 v.1, upd u.2.2 u.1 v.2) := if_pos h5
        rw [e]
        rw [Nat.sub_self, List.getElem?_cons_zero]
        show some (upd u.2.1 u.1 v.1 u.1, upd u.2.2 u.1 v.2 u.1) = some v
        rw [pk_us, pk_us]
      · rw [h2 (by omega) (by omega) h5]
        rw [show i - u.1 = (i - (u.1 + 1)) + 1 by omega, List.getElem?_cons_succ]
/-- arrays hold a list -/
def hoL (fx fy : Nat → Int32) (L : List (Int32 × Int32)) : Prop := ∀ i : Nat, i < L.length → L[i]? = some (fx i, fy i)
theorem mpU_ho {cap : Nat} {tx ty : Nat → Int32} {L : List (Int32 × Int32)} (h : L.length ≤ cap) : hoL (mpU cap tx ty L).2.1 (mpU cap tx ty L).2.2 L := by
  intro i hi
  have h2 := (fold_get cap L (0, tx, ty) i).2 (Nat.zero_le _) (by show i < 0 + L.length; omega) (by omega)
  exact h2.symm
/-- the one before, going round -/
def prN (n k : Nat) : Nat := if k = 0 then n - 1 else k - 1
theorem prN_lt {n k : Nat} (h : k < n) : prN n k < n := by unfold prN; split <;> omega
def stL (g : Nat → Bool) (c : Nat → Nat → Int32 × Int32) (f : Nat → Int32 × Int32) (P k : Nat) : List (Int32 × Int32) := (if g k = g P then [] else [c P k]) ++ (if g k = true then [f k] else [])
def outL (g : Nat → Bool) (c : Nat → Nat → Int32 × Int32) (f : Nat → Int32 × Int32) (n : Nat) : Nat → List (Int32 × Int32)
  | 0 => []
  | k + 1 => outL g c f n k ++ stL g c f (prN n k) k
section OUT
variable {g : Nat → Bool} {c : Nat → Nat → Int32 × Int32} {f : Nat → Int32 × Int32} {n k : Nat}
theorem out_00 (h : g k = g (prN n k)) (h2 : g k = false) : outL g c f n (k + 1) = outL g c f n k := by
  rw [outL, stL, if_pos h, if_neg (by rw [h2]; decide), List.append_nil, List.append_nil]
theorem out_01 (h : g k = g (prN n k)) (h2 : g k = true) : outL g c f n (k + 1) = outL g c f n k ++ [f k] := by
  rw [outL, stL, if_pos h, if_pos h2, List.nil_append]
theorem out_10 (h : ¬ g k = g (prN n k)) (h2 : g k = false) : outL g c f n (k + 1) = outL g c f n k ++ [c (prN n k) k] := by
  rw [outL, stL, if_neg h, if_neg (by rw [h2]; decide), List.append_nil]
theorem out_11 (h : ¬ g k = g (prN n k)) (h2 : g k = true) : outL g c f n (k + 1) = (outL g c f n k ++ [c (prN n k) k]) ++ [f k] := by
  rw [outL, stL, if_neg h, if_pos h2, List.append_assoc]
theorem out_mono {m : Nat} (h : k ≤ m) : (outL g c f n k).length ≤ (outL g c f n m).length := by
  induction m with
  | zero => rw [Nat.le_zero.mp h]; exact Nat.le_refl _
  | succ m ih =>
    by_cases he : k = m + 1
    · rw [he]; exact Nat.le_refl _
    · rw [outL, List.length_append]; have := ih (by omega); omega
theorem out_len (k : Nat) : (outL g c f n k).length ≤ 2 * k := by
  induction k with
  | zero => exact Nat.le_refl _
  | succ k ih =>
    rw [outL, List.length_append, stL, List.length_append]
    have h1 : (if g k = g (prN n k) then ([] : List (Int32 × Int32)) else [c (prN n k) k]).length ≤ 1 := by split <;> simp
    have h2 : (if g k = true then [f k] else []).length ≤ 1 := by split <;> simp
    omega
theorem out_cutlt (h : ¬ g k = g (prN n k)) : (outL g c f n k).length < (outL g c f n (k + 1)).length := by
  rw [outL, List.length_append, stL, if_neg h, List.length_append, List.length_singleton]; omega
theorem out_goodlt (h : ¬ g k = g (prN n k)) (h2 : g k = true) : (outL g c f n k).length + 1 < (outL g c f n (k + 1)).length := by
  rw [out_11 h h2, List.length_append, List.length_append, List.length_singleton, List.length_singleton]; omega
theorem out_goodlt0 (h2 : g k = true) : (outL g c f n k).length < (outL g c f n (k + 1)).length := by
  rw [outL, List.length_append, stL, if_pos h2, List.length_append, List.length_singleton]; omega
end OUT
theorem out_congr {g g' : Nat → Bool} {c c' : Nat → Nat → Int32 × Int32} {f f' : Nat → Int32 × Int32} {n : Nat} (hg : ∀ i, i < n → g i = g' i) (hc : ∀ i j, i < n → j < n → ¬ g' j = g' i → c i j = c' i j) (hf : ∀ i, i < n → f i = f' i) : ∀ k, k ≤ n → outL g c f n k = outL g' c' f' n k := by
  intro k
  induction k with
  | zero => intro _; rfl
  | succ k ih =>
    intro hk
    rw [outL, outL, ih (by omega), stL, stL, hg k (by omega), hg (prN n k) (prN_lt (by omega)), hf k (by omega)]
    by_cases h : g' k = g' (prN n k)
    · rw [if_pos h, if_pos h]
    · rw [if_neg h, if_neg h, hc (prN n k) k (prN_lt (by omega)) (by omega) h]
/-- which vertices are good, and the cut, of side q at s -/
def gV (q : Nat) (s : Int32) (fx fy : Nat → Int32) (i : Nat) : Bool := gdB q (if q < 2 then fx i else fy i) s
def ctV (q : Nat) (s : Int32) (fx fy : Nat → Int32) (P k : Nat) : Int32 × Int32 := if q < 2 then (s, caI (fx P) (fy P) (fx k) (fy k) s) else (caI (fy P) (fx P) (fy k) (fx k) s, s)
def psL (q : Nat) (s : Int32) (fx fy : Nat → Int32) (n k : Nat) : List (Int32 × Int32) := outL (gV q s fx fy) (ctV q s fx fy) (fun i => (fx i, fy i)) n k
theorem gd_ne {q : Nat} {v v' s : Int32} (h : ¬ gdB q v s = gdB q v' s) : ¬ v - v' = 0 := fun h2 => h (by rw [sub0 h2])
/-- a list's own arrays -/
def lX (L : List (Int32 × Int32)) (i : Nat) : Int32 := (L.getD i (0, 0)).1
def lY (L : List (Int32 × Int32)) (i : Nat) : Int32 := (L.getD i (0, 0)).2
def pasL (q : Nat) (s : Int32) (L : List (Int32 × Int32)) : List (Int32 × Int32) := psL q s (lX L) (lY L) L.length L.length
theorem hoL_x {fx fy : Nat → Int32} {L : List (Int32 × Int32)} (h : hoL fx fy L) {i : Nat} (hi : i < L.length) : fx i = lX L i ∧ fy i = lY L i := by
  have h2 := h i hi
  unfold lX lY
  rw [List.getD_eq_getElem?_getD, h2]; exact ⟨rfl, rfl⟩
theorem psL_pas {q : Nat} {s : Int32} {fx fy : Nat → Int32} {L : List (Int32 × Int32)} (h : hoL fx fy L) : psL q s fx fy L.length L.length = pasL q s L := by
  unfold pasL psL
  refine out_congr (fun i hi => ?_) (fun i j hi hj _ => ?_) (fun i hi => ?_) _ (Nat.le_refl _)
  · unfold gV; rw [(hoL_x h hi).1, (hoL_x h hi).2]
  · unfold ctV; rw [(hoL_x h hi).1, (hoL_x h hi).2, (hoL_x h hj).1, (hoL_x h hj).2]
  · rw [(hoL_x h hi).1, (hoL_x h hi).2]
/-- the first k passes; none where there would be too many -/
def clpL (cap : Nat) (sd : Nat → Int32) (L : List (Int32 × Int32)) : Nat → Option (List (Int32 × Int32))
  | 0 => some L
  | k + 1 => match clpL cap sd L k with
    | none => none
    | some M => if (pasL k (sd k) M).length ≤ cap then some (pasL k (sd k) M) else none
theorem clp_s {cap : Nat} {sd : Nat → Int32} {L M : List (Int32 × Int32)} {k : Nat} (h : clpL cap sd L k = some M) (h2 : (pasL k (sd k) M).length ≤ cap) : clpL cap sd L (k + 1) = some (pasL k (sd k) M) := by
  rw [clpL, h]; exact if_pos h2
theorem clp_n {cap : Nat} {sd : Nat → Int32} {L M : List (Int32 × Int32)} {k : Nat} (h : clpL cap sd L k = some M) (h2 : ¬ (pasL k (sd k) M).length ≤ cap) : clpL cap sd L (k + 1) = none := by
  rw [clpL, h]; exact if_neg h2
theorem clp_nn {cap : Nat} {sd : Nat → Int32} {L : List (Int32 × Int32)} {k : Nat} (h : clpL cap sd L k = none) : ∀ m, clpL cap sd L (k + m) = none := by
  intro m
  induction m with
  | zero => exact h
  | succ m ih => rw [← Nat.add_assoc, clpL, ih]
theorem clp_none {cap : Nat} {sd : Nat → Int32} {L M : List (Int32 × Int32)} {k : Nat} (hk : k < 4) (h : clpL cap sd L k = some M) (h2 : ¬ (pasL k (sd k) M).length ≤ cap) : clpL cap sd L 4 = none := by
  have h3 := clp_nn (clp_n h h2) (4 - (k + 1))
  rwa [show k + 1 + (4 - (k + 1)) = 4 by omega] at h3
