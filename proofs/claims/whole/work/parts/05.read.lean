/-! READERS of the frame and of the reference. -/
theorem sub0 {a b : Int32} (h : a - b = 0) : a = b := by
  have h2 : a - b + b = 0 + b := by rw [h]
  rwa [Int32.sub_add_cancel, Int32.zero_add] at h2
def vxI (xs : Nat → Int32) (n : Nat) (i : Int32) : Int32 := if hsB i (nI n) = true then xs i.toNatClampNeg else (-32768)
theorem hs_ix {i : Int32} {n : Nat} (hn : n ≤ 60) (h : hsB i (nI n) = true) : ∃ j : Nat, j < n ∧ i = nI j := by
  have h2 := of_decide_eq_true h
  rcases pk_ix i (n := n) (by omega) with h3 | h3 | h3
  · exact absurd h3 h2.1
  · exact absurd h3 h2.2
  · exact h3
theorem em_ne {ys : Nat → Int32} {n k : Nat} {y : Int32} (h : emB ys n k y = true) : ¬ ys (nxN n k) - ys k = 0 := by
  intro h2
  rw [emB, sub0 h2] at h
  simp at h
/-- edge k crosses the line of y at a place above x -/
def crB (xs ys : Nat → Int32) (n : Nat) (x y : Int32) (k : Nat) : Bool := emB ys n k y && decide (¬ cuI xs ys n k y ≤ x)
theorem cr_f {xs ys : Nat → Int32} {n : Nat} {x y : Int32} {k : Nat} (h : emB ys n k y = false) : crB xs ys n x y k = false := by rw [crB, h]; rfl
theorem cr_g {xs ys : Nat → Int32} {n : Nat} {x y : Int32} {k : Nat} (h : cuI xs ys n k y ≤ x) : crB xs ys n x y k = false := by rw [crB, decide_eq_false (fun q => q h), Bool.and_false]
theorem cr_t {xs ys : Nat → Int32} {n : Nat} {x y : Int32} {k : Nat} (h : emB ys n k y = true) (h2 : ¬ cuI xs ys n k y ≤ x) : crB xs ys n x y k = true := by rw [crB, h, decide_eq_true h2]; rfl
/-- is the number of the first k of them odd -/
def oddB (f : Nat → Bool) : Nat → Bool
  | 0 => false
  | k + 1 => f k != oddB f k
theorem odd_f {f : Nat → Bool} {k : Nat} (h : f k = false) : oddB f (k + 1) = oddB f k := by rw [oddB, h]; cases oddB f k <;> rfl
theorem odd_t1 {f : Nat → Bool} {k : Nat} (h : f k = true) (h2 : oddB f k = false) : oddB f (k + 1) = true := by rw [oddB, h, h2]; rfl
theorem odd_t0 {f : Nat → Bool} {k : Nat} (h : f k = true) (h2 : oddB f k = true) : oddB f (k + 1) = false := by rw [oddB, h, h2]; rfl
theorem at_lt {w h i j : Nat} (hi : i < w) (hj : j < h) : j * w + i < w * h := by
  have h1 : (j + 1) * w ≤ h * w := Nat.mul_le_mul_right w hj
  rw [Nat.add_mul, Nat.one_mul] at h1
  rw [Nat.mul_comm w h]; omega
def pxI (col : Nat → Int32) (w h x y : Int32) (f : Nat → Nat → Nat) : Int32 := if ¬ x < 0 ∧ ¬ w ≤ x ∧ ¬ y < 0 ∧ ¬ h ≤ y then col (f x.toNatClampNeg y.toNatClampNeg) else (-1)
theorem ge_ix {i : Int32} {n : Nat} (hn : n ≤ 60) (h1 : ¬ i < 0) (h2 : ¬ nI n ≤ i) : ∃ j : Nat, j < n ∧ i = nI j := by
  rcases pk_ix i (n := n) (by omega) with h3 | h3 | h3
  · exact absurd h3 h1
  · exact absurd h3 h2
  · exact h3
theorem nX1_vertices_X1 : ∀ w ∈ wsX10, w ∈ wsX1_vertices := fun w h => List.mem_cons_of_mem _ (List.mem_append_left _ (List.mem_append_right _ h))
theorem nX1_vertices_X0 : ∀ w ∈ wsX00, w ∈ wsX1_vertices := fun w h => List.mem_cons_of_mem _ (List.mem_append_right _ h)
set_option maxHeartbeats 4000000 in
set_option maxRecDepth 100000 in
theorem kX1_vertices (l : Launch) (D : va_G) (cI cZ : ClassId) (p0 aC aT aS r0 rO rE wd hg : Nat) (ax ay n cap : Nat) (xs ys : Nat → Int32)  : Met l yX1_vertices wsX1_vertices ({ frames := 0, cells := 0, slots := 0, locals := 0 }) (va_Pc [.ref p0] (rdP D cI cZ [(p0, .inr (1, [.int (nI wd), .int (nI hg), .ref aC, .ref aT, .ref aS, .ref r0, .ref rO, .ref rE])), (r0, .inr (0, [.ref ax, .ref ay, .int (nI n)])), (ax, .inl (cI, cap, .inl xs)), (ay, .inl (cI, cap, .inl ys))])) (QcRead (nI n)) 0 0 (fun _ => False) := by
  refine Met.ofW (cc := cX1_vertices) (maxL := 1) (ret := (some .int)) (by decide) rfl ?_
  intro p e s m args below meth c s₁ B hml hv
  obtain ⟨rfl, hP, hK⟩ := hv
  have hx := B.exec
  have hb := B.bytes
  have hr := B.returns
  have hts := atoms_spec (ws := wsX1_vertices) B.pre
  have hown : s.vm.findClass RX1 = some m.cls := findClass_of_methodNamed B.named
  have hlocks := B.notSynchronized
  have hP : va_P D vwCl [(p0, .inr (1, [.int (nI wd), .int (nI hg), .ref aC, .ref aT, .ref aS, .ref r0, .ref rO, .ref rE])), (r0, .inr (0, [.ref ax, .ref ay, .int (nI n)])), (ax, .inl (cI, cap, .inl xs)), (ay, .inl (cI, cap, .inl ys))] s.heap := hP
  have hl := lv_entry ([.ref p0]) (n := 1) (Nat.le_of_ble_eq_true rfl)
  rw [lg_entry_eq]
  generalize (lg_sl ([.ref p0]) ++ List.replicate (1 - (lg_sl ([.ref p0])).length) Slot.unset).toArray = ls at hl ⊢
  have hl : lv_has ls 1 [(0, .ref p0)] := hl
  refine lv_aload_n hx hb dX1_vertices_0 rfl (lv_at hl 0 rfl) ?_
  refine va_get (D := D) (ci := 1) (v := .ref r0) (C := RX1) (T := TX1) (N := 8) hx hb hts nX1_vertices_X1 hown hK.1 hP 0 rfl rfl 5 (by decide) (hts (.fieldLink RX1 36 "PolygonFrame" "polygon" "LPolygonFrame$Ring;") (by decide +kernel)) (fun _ h9 => h9) rfl dX1_vertices_1 ?_
  refine va_getN (D := D) (ci := 0) (v := .int (nI n)) (C := RX0) (T := TX0) (N := 3) hx hb hts nX1_vertices_X0 hown hK.1 hP 1 rfl rfl 2 (by decide) (hK.2.count _) (fun _ h9 => h9) rfl dX1_vertices_4 ?_
  exact W.iret (v := (nI n)) hx hb hr (fun t ht _ => ⟨rfl, ht⟩) (fun _ h => absurd h List.not_mem_nil) dX1_vertices_7
theorem nX1_vx_X1 : ∀ w ∈ wsX10, w ∈ wsX1_vx := fun w h => List.mem_cons_of_mem _ (List.mem_append_left _ (List.mem_append_right _ h))
theorem nX1_vx_X0 : ∀ w ∈ wsX00, w ∈ wsX1_vx := fun w h => List.mem_cons_of_mem _ (List.mem_append_right _ h)
set_option maxHeartbeats 4000000 in
set_option maxRecDepth 100000 in
theorem kX1_vx (l : Launch) (D : va_G) (cI cZ : ClassId) (p0 aC aT aS r0 rO rE wd hg : Nat) (ax ay n cap : Nat) (xs ys : Nat → Int32) (i : Int32) (hn : n ≤ cap) (hc : cap ≤ 60) : Met l yX1_vx wsX1_vx ({ frames := 1, cells := 0, slots := 0, locals := 21 }) (va_Pc [.ref p0, .int i] (rdP D cI cZ [(p0, .inr (1, [.int (nI wd), .int (nI hg), .ref aC, .ref aT, .ref aS, .ref r0, .ref rO, .ref rE])), (r0, .inr (0, [.ref ax, .ref ay, .int (nI n)])), (ax, .inl (cI, cap, .inl xs)), (ay, .inl (cI, cap, .inl ys))])) (QcRead (vxI xs n i)) 0 0 (fun _ => False) := by
  refine Met.ofW (cc := cX1_vx) (maxL := 2) (ret := (some .int)) (by decide) rfl ?_
  intro p e s m args below meth c s₁ B hml hv
  obtain ⟨rfl, hP, hK⟩ := hv
  have hx := B.exec
  have hb := B.bytes
  have hr := B.returns
  have hts := atoms_spec (ws := wsX1_vx) B.pre
  have hown : s.vm.findClass RX1 = some m.cls := findClass_of_methodNamed B.named
  have hlocks := B.notSynchronized
  have hP : va_P D vwCl [(p0, .inr (1, [.int (nI wd), .int (nI hg), .ref aC, .ref aT, .ref aS, .ref r0, .ref rO, .ref rE])), (r0, .inr (0, [.ref ax, .ref ay, .int (nI n)])), (ax, .inl (cI, cap, .inl xs)), (ay, .inl (cI, cap, .inl ys))] s.heap := hP
  have hl := lv_entry ([.ref p0, .int i]) (n := 2) (Nat.le_of_ble_eq_true rfl)
  rw [lg_entry_eq]
  generalize (lg_sl ([.ref p0, .int i]) ++ List.replicate (2 - (lg_sl ([.ref p0, .int i])).length) Slot.unset).toArray = ls at hl ⊢
  have hl : lv_has ls 2 [(0, .ref p0), (1, .int i)] := hl
  refine lv_aload_n hx hb dX1_vx_0 rfl (lv_at hl 0 rfl) ?_
  refine va_get (D := D) (ci := 1) (v := .ref r0) (C := RX1) (T := TX1) (N := 8) hx hb hts nX1_vx_X1 hown hK.1 hP 0 rfl rfl 5 (by decide) (hts (.fieldLink RX1 36 "PolygonFrame" "polygon" "LPolygonFrame$Ring;") (by decide +kernel)) (fun _ h9 => h9) rfl dX1_vx_1 ?_
  refine lv_iload_n hx hb dX1_vx_4 rfl (lv_at hl 1 rfl) ?_
  refine rd_i (va_runVN (C := RX0) (As := [.int i]) ⟨hx, hb, hml, hown, hts⟩ (kX0_has l D cI cZ r0 ax ay n cap xs ys i) ⟨va_cnB 1 hts gX1_vx_X0_has_n70 rfl rfl rfl hK.2.2.2.2.2.2.1 (hts (.initialized RX0) (by decide +kernel)) (by decide +kernel) ⟨Nat.le_of_ble_eq_true rfl, Nat.le_of_ble_eq_true rfl⟩, hts (.instanceMethod yX0_has) (by decide +kernel), hts (.selects RX0 yX0_has yX0_has) (by decide +kernel)⟩ (rd_preV (ci := 0) (q0 := 0) (hP.sub [1, 2, 3] rfl) hK rfl rfl) rfl rfl hl.1 rfl (lv_room (Nat.le_of_ble_eq_true rfl)) dX1_vx_5 ⟨Nat.zero_le _, Nat.zero_le _⟩) ?_
  refine lv_if_eq (tgt := 23) hx hb dX1_vx_8 (by decide) (fun c8 => ?_) (fun c8 => ?_)
  · skip
    refine lv_sipush (v := (-32768)) hx hb dX1_vx_23 (by decide) ?_
    exact W.iret (v := (-32768)) hx hb hr (fun t ht _ => ⟨oI (by rw [vxI, if_neg (by rw [bI_eq0.mp c8]; decide)]), ht⟩) (fun _ h => absurd h List.not_mem_nil) dX1_vx_26
  · skip
    obtain ⟨j, hj, rfl⟩ := hs_ix (Nat.le_trans hn hc) (bI_ne c8)
    refine lv_aload_n hx hb dX1_vx_11 rfl (lv_at hl 0 rfl) ?_
    refine va_get (D := D) (ci := 1) (v := .ref r0) (C := RX1) (T := TX1) (N := 8) hx hb hts nX1_vx_X1 hown hK.1 hP 0 rfl rfl 5 (by decide) (hts (.fieldLink RX1 36 "PolygonFrame" "polygon" "LPolygonFrame$Ring;") (by decide +kernel)) (fun _ h9 => h9) rfl dX1_vx_12 ?_
    refine va_getN (D := D) (ci := 0) (v := .ref ax) (C := RX0) (T := TX0) (N := 3) hx hb hts nX1_vx_X0 hown hK.1 hP 1 rfl rfl 0 (by decide) (hK.2.xs _) (fun _ h9 => h9) rfl dX1_vx_15 ?_
    refine lv_iload_n hx hb dX1_vx_18 rfl (lv_at hl 1 rfl) ?_
    refine q_iald (k := j) hx hb hK.1 hP 2 0 rfl rfl (by omega) (by omega) dX1_vx_19 ?_
    refine lv_goto (tgt := 26) hx hb dX1_vx_20 (by decide) ?_
    exact W.iret (v := (xs j)) hx hb hr (fun t ht _ => ⟨oI (by rw [vxI, if_pos (bI_ne c8), nI_clamp (by omega)]), ht⟩) (fun _ h => absurd h List.not_mem_nil) dX1_vx_26
theorem nX1_vy_X1 : ∀ w ∈ wsX10, w ∈ wsX1_vy := fun w h => List.mem_cons_of_mem _ (List.mem_append_left _ (List.mem_append_right _ h))
theorem nX1_vy_X0 : ∀ w ∈ wsX00, w ∈ wsX1_vy := fun w h => List.mem_cons_of_mem _ (List.mem_append_right _ h)
set_option maxHeartbeats 4000000 in
set_option maxRecDepth 100000 in
theorem kX1_vy (l : Launch) (D : va_G) (cI cZ : ClassId) (p0 aC aT aS r0 rO rE wd hg : Nat) (ax ay n cap : Nat) (xs ys : Nat → Int32) (i : Int32) (hn : n ≤ cap) (hc : cap ≤ 60) : Met l yX1_vy wsX1_vy ({ frames := 1, cells := 0, slots := 0, locals := 21 }) (va_Pc [.ref p0, .int i] (rdP D cI cZ [(p0, .inr (1, [.int (nI wd), .int (nI hg), .ref aC, .ref aT, .ref aS, .ref r0, .ref rO, .ref rE])), (r0, .inr (0, [.ref ax, .ref ay, .int (nI n)])), (ax, .inl (cI, cap, .inl xs)), (ay, .inl (cI, cap, .inl ys))])) (QcRead (vxI ys n i)) 0 0 (fun _ => False) := by
  refine Met.ofW (cc := cX1_vy) (maxL := 2) (ret := (some .int)) (by decide) rfl ?_
  intro p e s m args below meth c s₁ B hml hv
  obtain ⟨rfl, hP, hK⟩ := hv
  have hx := B.exec
  have hb := B.bytes
  have hr := B.returns
  have hts := atoms_spec (ws := wsX1_vy) B.pre
  have hown : s.vm.findClass RX1 = some m.cls := findClass_of_methodNamed B.named
  have hlocks := B.notSynchronized
  have hP : va_P D vwCl [(p0, .inr (1, [.int (nI wd), .int (nI hg), .ref aC, .ref aT, .ref aS, .ref r0, .ref rO, .ref rE])), (r0, .inr (0, [.ref ax, .ref ay, .int (nI n)])), (ax, .inl (cI, cap, .inl xs)), (ay, .inl (cI, cap, .inl ys))] s.heap := hP
  have hl := lv_entry ([.ref p0, .int i]) (n := 2) (Nat.le_of_ble_eq_true rfl)
  rw [lg_entry_eq]
  generalize (lg_sl ([.ref p0, .int i]) ++ List.replicate (2 - (lg_sl ([.ref p0, .int i])).length) Slot.unset).toArray = ls at hl ⊢
  have hl : lv_has ls 2 [(0, .ref p0), (1, .int i)] := hl
  refine lv_aload_n hx hb dX1_vy_0 rfl (lv_at hl 0 rfl) ?_
  refine va_get (D := D) (ci := 1) (v := .ref r0) (C := RX1) (T := TX1) (N := 8) hx hb hts nX1_vy_X1 hown hK.1 hP 0 rfl rfl 5 (by decide) (hts (.fieldLink RX1 36 "PolygonFrame" "polygon" "LPolygonFrame$Ring;") (by decide +kernel)) (fun _ h9 => h9) rfl dX1_vy_1 ?_
  refine lv_iload_n hx hb dX1_vy_4 rfl (lv_at hl 1 rfl) ?_
  refine rd_i (va_runVN (C := RX0) (As := [.int i]) ⟨hx, hb, hml, hown, hts⟩ (kX0_has l D cI cZ r0 ax ay n cap xs ys i) ⟨va_cnB 1 hts gX1_vy_X0_has_n70 rfl rfl rfl hK.2.2.2.2.2.2.1 (hts (.initialized RX0) (by decide +kernel)) (by decide +kernel) ⟨Nat.le_of_ble_eq_true rfl, Nat.le_of_ble_eq_true rfl⟩, hts (.instanceMethod yX0_has) (by decide +kernel), hts (.selects RX0 yX0_has yX0_has) (by decide +kernel)⟩ (rd_preV (ci := 0) (q0 := 0) (hP.sub [1, 2, 3] rfl) hK rfl rfl) rfl rfl hl.1 rfl (lv_room (Nat.le_of_ble_eq_true rfl)) dX1_vy_5 ⟨Nat.zero_le _, Nat.zero_le _⟩) ?_
  refine lv_if_eq (tgt := 23) hx hb dX1_vy_8 (by decide) (fun c8 => ?_) (fun c8 => ?_)
  · skip
    refine lv_sipush (v := (-32768)) hx hb dX1_vy_23 (by decide) ?_
    exact W.iret (v := (-32768)) hx hb hr (fun t ht _ => ⟨oI (by rw [vxI, if_neg (by rw [bI_eq0.mp c8]; decide)]), ht⟩) (fun _ h => absurd h List.not_mem_nil) dX1_vy_26
  · skip
    obtain ⟨j, hj, rfl⟩ := hs_ix (Nat.le_trans hn hc) (bI_ne c8)
    refine lv_aload_n hx hb dX1_vy_11 rfl (lv_at hl 0 rfl) ?_
    refine va_get (D := D) (ci := 1) (v := .ref r0) (C := RX1) (T := TX1) (N := 8) hx hb hts nX1_vy_X1 hown hK.1 hP 0 rfl rfl 5 (by decide) (hts (.fieldLink RX1 36 "PolygonFrame" "polygon" "LPolygonFrame$Ring;") (by decide +kernel)) (fun _ h9 => h9) rfl dX1_vy_12 ?_
    refine va_getN (D := D) (ci := 0) (v := .ref ay) (C := RX0) (T := TX0) (N := 3) hx hb hts nX1_vy_X0 hown hK.1 hP 1 rfl rfl 1 (by decide) (hK.2.ys _) (fun _ h9 => h9) rfl dX1_vy_15 ?_
    refine lv_iload_n hx hb dX1_vy_18 rfl (lv_at hl 1 rfl) ?_
    refine q_iald (k := j) hx hb hK.1 hP 3 0 rfl rfl (by omega) (by omega) dX1_vy_19 ?_
    refine lv_goto (tgt := 26) hx hb dX1_vy_20 (by decide) ?_
    exact W.iret (v := (ys j)) hx hb hr (fun t ht _ => ⟨oI (by rw [vxI, if_pos (bI_ne c8), nI_clamp (by omega)]), ht⟩) (fun _ h => absurd h List.not_mem_nil) dX1_vy_26
theorem nX1_inside_X1 : ∀ w ∈ wsX10, w ∈ wsX1_inside := fun w h => List.mem_cons_of_mem _ (List.mem_append_left _ (List.mem_append_right _ h))
theorem nX1_inside_X0 : ∀ w ∈ wsX00, w ∈ wsX1_inside := fun w h => List.mem_cons_of_mem _ (List.mem_append_right _ h)
set_option maxHeartbeats 4000000 in
set_option maxRecDepth 100000 in
theorem kX1_inside (l : Launch) (D : va_G) (cI cZ : ClassId) (p0 aC aT aS r0 rO rE wd hg : Nat) (ax ay n cap : Nat) (xs ys : Nat → Int32) (x y : Int32) (hn : n ≤ cap) (hc : cap ≤ 60) : Met l yX1_inside wsX1_inside ({ frames := 2, cells := 0, slots := 0, locals := 60 }) (va_Pc [.ref p0, .int x, .int y] (rdP D cI cZ [(p0, .inr (1, [.int (nI wd), .int (nI hg), .ref aC, .ref aT, .ref aS, .ref r0, .ref rO, .ref rE])), (r0, .inr (0, [.ref ax, .ref ay, .int (nI n)])), (ax, .inl (cI, cap, .inl xs)), (ay, .inl (cI, cap, .inl ys))])) (QcRead (bI (oddB (crB xs ys n x y) n))) 0 0 (fun _ => False) := by
  refine Met.ofW (cc := cX1_inside) (maxL := 5) (ret := (some .boolean)) (by decide) rfl ?_
  intro p e s m args below meth c s₁ B hml hv
  obtain ⟨rfl, hP, hK⟩ := hv
  have hx := B.exec
  have hb := B.bytes
  have hr := B.returns
  have hts := atoms_spec (ws := wsX1_inside) B.pre
  have hown : s.vm.findClass RX1 = some m.cls := findClass_of_methodNamed B.named
  have hlocks := B.notSynchronized
  have hP : va_P D vwCl [(p0, .inr (1, [.int (nI wd), .int (nI hg), .ref aC, .ref aT, .ref aS, .ref r0, .ref rO, .ref rE])), (r0, .inr (0, [.ref ax, .ref ay, .int (nI n)])), (ax, .inl (cI, cap, .inl xs)), (ay, .inl (cI, cap, .inl ys))] s.heap := hP
  have hl := lv_entry ([.ref p0, .int x, .int y]) (n := 5) (Nat.le_of_ble_eq_true rfl)
  rw [lg_entry_eq]
  generalize (lg_sl ([.ref p0, .int x, .int y]) ++ List.replicate (5 - (lg_sl ([.ref p0, .int x, .int y])).length) Slot.unset).toArray = ls at hl ⊢
  have hl : lv_has ls 5 [(0, .ref p0), (1, .int x), (2, .int y)] := hl
  have LOOP : ∀ (j k : Nat), k ≤ n → n < k + j → ∀ ls : Array Slot, lv_has ls 5 [(0, .ref p0), (1, .int x), (2, .int y), (3, .int (bI (oddB (crB xs ys n x y) k))), (4, .int (nI k))] → W p l e ({ frames := 2, cells := 0, slots := 0, locals := 60 } : Room) s m #[.ref p0, .int x, .int y] below meth c s.heap [] 0 0 (MQ below (QcRead (bI (oddB (crB xs ys n x y) n))) #[.ref p0, .int x, .int y] s 0 0 (fun _ => False)) (F0 m 5 ls []) := by
    intro j
    induction j with
    | zero => intro k h1 h2; omega
    | succ j ih =>
      intro k hk hkj ls hl
      refine lv_iload hx hb dX1_inside_5 (lv_at hl 4 rfl) ?_
      refine lv_aload_n hx hb dX1_inside_7 rfl (lv_at hl 0 rfl) ?_
      refine va_get (D := D) (ci := 1) (v := .ref r0) (C := RX1) (T := TX1) (N := 8) hx hb hts nX1_inside_X1 hown hK.1 hP 0 rfl rfl 5 (by decide) (hts (.fieldLink RX1 36 "PolygonFrame" "polygon" "LPolygonFrame$Ring;") (by decide +kernel)) (fun _ h9 => h9) rfl dX1_inside_8 ?_
      refine va_getN (D := D) (ci := 0) (v := .int (nI n)) (C := RX0) (T := TX0) (N := 3) hx hb hts nX1_inside_X0 hown hK.1 hP 1 rfl rfl 2 (by decide) (hK.2.count _) (fun _ h9 => h9) rfl dX1_inside_11 ?_
      refine lv_icmp_ge (tgt := 60) hx hb dX1_inside_14 (by decide) (fun c14 => ?_) (fun c14 => ?_)
      · skip
        have hkn : k = n := Nat.le_antisymm hk ((nI_leI (by omega) (by omega)).mp c14)
        refine lv_iload_n hx hb dX1_inside_60 rfl (lv_at hl 3 rfl) ?_
        exact W.zret (v := (bI (oddB (crB xs ys n x y) k))) hx hb hr (bI_nar _) (fun t ht _ => ⟨oI (by rw [hkn]), ht⟩) (fun _ h => absurd h List.not_mem_nil) dX1_inside_61
      · skip
        have hk2 : k < n := Nat.lt_of_not_le (fun h => c14 (nI_le h (by omega)))
        refine lv_aload_n hx hb dX1_inside_17 rfl (lv_at hl 0 rfl) ?_
        refine va_get (D := D) (ci := 1) (v := .ref r0) (C := RX1) (T := TX1) (N := 8) hx hb hts nX1_inside_X1 hown hK.1 hP 0 rfl rfl 5 (by decide) (hts (.fieldLink RX1 36 "PolygonFrame" "polygon" "LPolygonFrame$Ring;") (by decide +kernel)) (fun _ h9 => h9) rfl dX1_inside_18 ?_
        refine lv_iload hx hb dX1_inside_21 (lv_at hl 4 rfl) ?_
        refine lv_iload_n hx hb dX1_inside_23 rfl (lv_at hl 2 rfl) ?_
        refine rd_i (va_runVN (C := RX0) (As := [.int (nI k), .int y]) ⟨hx, hb, hml, hown, hts⟩ (kX0_edgeMeets l D cI cZ r0 ax ay n cap k xs ys y hk2 hn hc) ⟨va_cnB 2 hts gX1_inside_X0_edgeMeets_n86 rfl rfl rfl hK.2.2.2.2.2.2.2.1 (hts (.initialized RX0) (by decide +kernel)) (by decide +kernel) ⟨Nat.le_of_ble_eq_true rfl, Nat.le_of_ble_eq_true rfl⟩, hts (.instanceMethod yX0_edgeMeets) (by decide +kernel), hts (.selects RX0 yX0_edgeMeets yX0_edgeMeets) (by decide +kernel)⟩ (rd_preV (ci := 0) (q0 := 0) (hP.sub [1, 2, 3] rfl) hK rfl rfl) rfl rfl hl.1 rfl (lv_room (Nat.le_of_ble_eq_true rfl)) dX1_inside_24 ⟨Nat.zero_le _, Nat.zero_le _⟩) ?_
        refine lv_if_eq (tgt := 54) hx hb dX1_inside_27 (by decide) (fun c27 => ?_) (fun c27 => ?_)
        · skip
          refine lv_iinc (v := (nI (k + 1))) (lv' := [(4, .int (nI (k + 1))), (0, .ref p0), (1, .int x), (2, .int y), (3, .int (bI (oddB (crB xs ys n x y) k)))]) hx hb dX1_inside_54 hl (k := 4) rfl (nI_1 _) (by decide) rfl (fun ls hl => ?_)
          refine lv_goto (tgt := 5) hx hb dX1_inside_57 (by decide) ?_
          exact ih (k + 1) (by omega) (by omega) ls (by rw [odd_f (cr_f (bI_eq0.mp c27))]; exact lv_sub hl [1, 2, 3, 4, 0] rfl)
        · skip
          refine lv_aload_n hx hb dX1_inside_30 rfl (lv_at hl 0 rfl) ?_
          refine va_get (D := D) (ci := 1) (v := .ref r0) (C := RX1) (T := TX1) (N := 8) hx hb hts nX1_inside_X1 hown hK.1 hP 0 rfl rfl 5 (by decide) (hts (.fieldLink RX1 36 "PolygonFrame" "polygon" "LPolygonFrame$Ring;") (by decide +kernel)) (fun _ h9 => h9) rfl dX1_inside_31 ?_
          refine lv_iload hx hb dX1_inside_34 (lv_at hl 4 rfl) ?_
          refine lv_iload_n hx hb dX1_inside_36 rfl (lv_at hl 2 rfl) ?_
          refine rd_i (va_runVN (C := RX0) (As := [.int (nI k), .int y]) ⟨hx, hb, hml, hown, hts⟩ (kX0_crossingUpwards l D cI cZ r0 ax ay n cap k xs ys y hk2 hn hc (em_ne (bI_ne c27))) ⟨va_cnB 2 hts gX1_inside_X0_crossingUpwards_n89 rfl rfl rfl hK.2.2.2.2.2.2.2.2.1 (hts (.initialized RX0) (by decide +kernel)) (by decide +kernel) ⟨Nat.le_of_ble_eq_true rfl, Nat.le_of_ble_eq_true rfl⟩, hts (.instanceMethod yX0_crossingUpwards) (by decide +kernel), hts (.selects RX0 yX0_crossingUpwards yX0_crossingUpwards) (by decide +kernel)⟩ (rd_preV (ci := 0) (q0 := 0) (hP.sub [1, 2, 3] rfl) hK rfl rfl) rfl rfl hl.1 rfl (lv_room (Nat.le_of_ble_eq_true rfl)) dX1_inside_37 ⟨Nat.zero_le _, Nat.zero_le _⟩) ?_
          refine lv_iload_n hx hb dX1_inside_40 rfl (lv_at hl 1 rfl) ?_
          refine lv_icmp_le (tgt := 54) hx hb dX1_inside_41 (by decide) (fun c41 => ?_) (fun c41 => ?_)
          · skip
            refine lv_iinc (v := (nI (k + 1))) (lv' := [(4, .int (nI (k + 1))), (0, .ref p0), (1, .int x), (2, .int y), (3, .int (bI (oddB (crB xs ys n x y) k)))]) hx hb dX1_inside_54 hl (k := 4) rfl (nI_1 _) (by decide) rfl (fun ls hl => ?_)
            refine lv_goto (tgt := 5) hx hb dX1_inside_57 (by decide) ?_
            exact ih (k + 1) (by omega) (by omega) ls (by rw [odd_f (cr_g c41)]; exact lv_sub hl [1, 2, 3, 4, 0] rfl)
          · skip
            refine lv_iload_n hx hb dX1_inside_44 rfl (lv_at hl 3 rfl) ?_
            refine lv_if_ne (tgt := 52) hx hb dX1_inside_45 (by decide) (fun c45 => ?_) (fun c45 => ?_)
            · skip
              refine lv_iconst (v := 0) hx hb dX1_inside_52 (by decide) ?_
              refine lv_istore_n (lv' := [(3, .int 0), (0, .ref p0), (1, .int x), (2, .int y), (4, .int (nI k))]) hx hb dX1_inside_53 rfl hl (by decide) rfl (fun ls hl => ?_)
              refine lv_iinc (v := (nI (k + 1))) (lv' := [(4, .int (nI (k + 1))), (3, .int 0), (0, .ref p0), (1, .int x), (2, .int y)]) hx hb dX1_inside_54 hl (k := 4) rfl (nI_1 _) (by decide) rfl (fun ls hl => ?_)
              refine lv_goto (tgt := 5) hx hb dX1_inside_57 (by decide) ?_
              exact ih (k + 1) (by omega) (by omega) ls (by rw [odd_t0 (cr_t (bI_ne c27) c41) (bI_ne c45)]; exact lv_sub hl [2, 3, 4, 1, 0] rfl)
            · skip
              refine lv_iconst (v := 1) hx hb dX1_inside_48 (by decide) ?_
              refine lv_goto (tgt := 53) hx hb dX1_inside_49 (by decide) ?_
              refine lv_istore_n (lv' := [(3, .int 1), (0, .ref p0), (1, .int x), (2, .int y), (4, .int (nI k))]) hx hb dX1_inside_53 rfl hl (by decide) rfl (fun ls hl => ?_)
              refine lv_iinc (v := (nI (k + 1))) (lv' := [(4, .int (nI (k + 1))), (3, .int 1), (0, .ref p0), (1, .int x), (2, .int y)]) hx hb dX1_inside_54 hl (k := 4) rfl (nI_1 _) (by decide) rfl (fun ls hl => ?_)
              refine lv_goto (tgt := 5) hx hb dX1_inside_57 (by decide) ?_
              exact ih (k + 1) (by omega) (by omega) ls (by rw [odd_t1 (cr_t (bI_ne c27) c41) (bI_eq0.mp c45)]; exact lv_sub hl [2, 3, 4, 1, 0] rfl)
  refine lv_iconst (v := 0) hx hb dX1_inside_0 (by decide) ?_
  refine lv_istore_n (lv' := [(3, .int 0), (0, .ref p0), (1, .int x), (2, .int y)]) hx hb dX1_inside_1 rfl hl (by decide) rfl (fun ls hl => ?_)
  refine lv_iconst (v := 0) hx hb dX1_inside_2 (by decide) ?_
  refine lv_istore (lv' := [(4, .int 0), (3, .int 0), (0, .ref p0), (1, .int x), (2, .int y)]) hx hb dX1_inside_3 hl (by decide) rfl (fun ls hl => ?_)
  exact LOOP (n + 1) 0 (Nat.zero_le _) (by omega) ls (lv_sub hl [2, 3, 4, 1, 0] rfl)
theorem nX1_pixel_X1 : ∀ w ∈ wsX10, w ∈ wsX1_pixel := fun w h => List.mem_cons_of_mem _ (List.mem_append_right _ h)
set_option maxHeartbeats 4000000 in
set_option maxRecDepth 100000 in
theorem kX1_pixel (l : Launch) (D : va_G) (cI cZ : ClassId) (p0 aC aT aS rP rO rE wd hg : Nat) (col : Nat → Int32) (x y : Int32) (hw : wd ≤ 24) (hh : hg ≤ 24) : Met l yX1_pixel wsX1_pixel ({ frames := 0, cells := 0, slots := 0, locals := 0 }) (va_Pc [.ref p0, .int x, .int y] (rdP D cI cZ [(p0, .inr (1, [.int (nI wd), .int (nI hg), .ref aC, .ref aT, .ref aS, .ref rP, .ref rO, .ref rE])), (aC, .inl (cI, (wd * hg), .inl col))])) (QcRead (pxI col (nI wd) (nI hg) x y (fun i j => j * wd + i))) 0 0 (fun _ => False) := by
  refine Met.ofW (cc := cX1_pixel) (maxL := 3) (ret := (some .int)) (by decide) rfl ?_
  intro p e s m args below meth c s₁ B hml hv
  obtain ⟨rfl, hP, hK⟩ := hv
  have hx := B.exec
  have hb := B.bytes
  have hr := B.returns
  have hts := atoms_spec (ws := wsX1_pixel) B.pre
  have hown : s.vm.findClass RX1 = some m.cls := findClass_of_methodNamed B.named
  have hlocks := B.notSynchronized
  have hP : va_P D vwCl [(p0, .inr (1, [.int (nI wd), .int (nI hg), .ref aC, .ref aT, .ref aS, .ref rP, .ref rO, .ref rE])), (aC, .inl (cI, (wd * hg), .inl col))] s.heap := hP
  have hl := lv_entry ([.ref p0, .int x, .int y]) (n := 3) (Nat.le_of_ble_eq_true rfl)
  rw [lg_entry_eq]
  generalize (lg_sl ([.ref p0, .int x, .int y]) ++ List.replicate (3 - (lg_sl ([.ref p0, .int x, .int y])).length) Slot.unset).toArray = ls at hl ⊢
  have hl : lv_has ls 3 [(0, .ref p0), (1, .int x), (2, .int y)] := hl
  refine lv_iload_n hx hb dX1_pixel_0 rfl (lv_at hl 1 rfl) ?_
  refine lv_if_lt (tgt := 24) hx hb dX1_pixel_1 (by decide) (fun c1 => ?_) (fun c1 => ?_)
  · skip
    refine lv_iconst (v := (-1)) hx hb dX1_pixel_24 (by decide) ?_
    exact W.iret (v := (-1)) hx hb hr (fun t ht _ => ⟨oI (by rw [pxI, if_neg (fun h => h.1 c1)]), ht⟩) (fun _ h => absurd h List.not_mem_nil) dX1_pixel_25
  · skip
    refine lv_iload_n hx hb dX1_pixel_4 rfl (lv_at hl 1 rfl) ?_
    refine lv_aload_n hx hb dX1_pixel_5 rfl (lv_at hl 0 rfl) ?_
    refine va_get (D := D) (ci := 1) (v := .int (nI wd)) (C := RX1) (T := TX1) (N := 8) hx hb hts nX1_pixel_X1 hown hK.1 hP 0 rfl rfl 0 (by decide) (hts (.fieldLink RX1 13 "PolygonFrame" "width" "I") (by decide +kernel)) (fun _ h9 => h9) rfl dX1_pixel_6 ?_
    refine lv_icmp_ge (tgt := 24) hx hb dX1_pixel_9 (by decide) (fun c9 => ?_) (fun c9 => ?_)
    · skip
      refine lv_iconst (v := (-1)) hx hb dX1_pixel_24 (by decide) ?_
      exact W.iret (v := (-1)) hx hb hr (fun t ht _ => ⟨oI (by rw [pxI, if_neg (fun h => h.2.1 c9)]), ht⟩) (fun _ h => absurd h List.not_mem_nil) dX1_pixel_25
    · skip
      refine lv_iload_n hx hb dX1_pixel_12 rfl (lv_at hl 2 rfl) ?_
      refine lv_if_lt (tgt := 24) hx hb dX1_pixel_13 (by decide) (fun c13 => ?_) (fun c13 => ?_)
      · skip
        refine lv_iconst (v := (-1)) hx hb dX1_pixel_24 (by decide) ?_
        exact W.iret (v := (-1)) hx hb hr (fun t ht _ => ⟨oI (by rw [pxI, if_neg (fun h => h.2.2.1 c13)]), ht⟩) (fun _ h => absurd h List.not_mem_nil) dX1_pixel_25
      · skip
        refine lv_iload_n hx hb dX1_pixel_16 rfl (lv_at hl 2 rfl) ?_
        refine lv_aload_n hx hb dX1_pixel_17 rfl (lv_at hl 0 rfl) ?_
        refine va_get (D := D) (ci := 1) (v := .int (nI hg)) (C := RX1) (T := TX1) (N := 8) hx hb hts nX1_pixel_X1 hown hK.1 hP 0 rfl rfl 1 (by decide) (hts (.fieldLink RX1 17 "PolygonFrame" "height" "I") (by decide +kernel)) (fun _ h9 => h9) rfl dX1_pixel_18 ?_
        refine lv_icmp_lt (tgt := 26) hx hb dX1_pixel_21 (by decide) (fun c21 => ?_) (fun c21 => ?_)
        · skip
          obtain ⟨i, hi, rfl⟩ := ge_ix (by omega) c1 c9
          obtain ⟨j, hj, rfl⟩ := ge_ix (by omega) c13 (fun h => absurd (Int32.lt_of_lt_of_le c21 h) Int32.lt_irrefl)
          have hij := at_lt hi hj
          have hwh : wd * hg ≤ 24 * 24 := Nat.mul_le_mul hw hh
          refine lv_aload_n hx hb dX1_pixel_26 rfl (lv_at hl 0 rfl) ?_
          refine va_get (D := D) (ci := 1) (v := .ref aC) (C := RX1) (T := TX1) (N := 8) hx hb hts nX1_pixel_X1 hown hK.1 hP 0 rfl rfl 2 (by decide) (hts (.fieldLink RX1 20 "PolygonFrame" "colours" "[I") (by decide +kernel)) (fun _ h9 => h9) rfl dX1_pixel_27 ?_
          refine lv_iload_n hx hb dX1_pixel_30 rfl (lv_at hl 2 rfl) ?_
          refine lv_aload_n hx hb dX1_pixel_31 rfl (lv_at hl 0 rfl) ?_
          refine va_get (D := D) (ci := 1) (v := .int (nI wd)) (C := RX1) (T := TX1) (N := 8) hx hb hts nX1_pixel_X1 hown hK.1 hP 0 rfl rfl 0 (by decide) (hts (.fieldLink RX1 13 "PolygonFrame" "width" "I") (by decide +kernel)) (fun _ h9 => h9) rfl dX1_pixel_32 ?_
          refine lv_imul hx hb dX1_pixel_35 ?_
          refine lv_iload_n hx hb dX1_pixel_36 rfl (lv_at hl 1 rfl) ?_
          refine lv_iadd hx hb dX1_pixel_37 ?_
          refine q_eq (show nI j * nI wd + nI i = nI (j * wd + i) by rw [pk_mul, nI_add]) ?_
          refine q_iald (k := (j * wd + i)) hx hb hK.1 hP 1 0 rfl rfl (by omega) (by omega) dX1_pixel_38 ?_
          exact W.iret (v := (col (j * wd + i))) hx hb hr (fun t ht _ => ⟨oI (by rw [pxI, if_pos ⟨c1, c9, c13, fun h => absurd (Int32.lt_of_lt_of_le c21 h) Int32.lt_irrefl⟩, nI_clamp (by omega), nI_clamp (by omega)]), ht⟩) (fun _ h => absurd h List.not_mem_nil) dX1_pixel_39
        · skip
          refine lv_iconst (v := (-1)) hx hb dX1_pixel_24 (by decide) ?_
          exact W.iret (v := (-1)) hx hb hr (fun t ht _ => ⟨oI (by rw [pxI, if_neg (fun h => c21 (Int32.not_le.mp h.2.2.2))]), ht⟩) (fun _ h => absurd h List.not_mem_nil) dX1_pixel_25
theorem nX2_isVertex_X2 : ∀ w ∈ wsX20, w ∈ wsX2_isVertex := fun w h => List.mem_cons_of_mem _ (List.mem_append_right _ h)
set_option maxHeartbeats 4000000 in
set_option maxRecDepth 100000 in
theorem kX2_isVertex (l : Launch) (D : va_G) (cI cZ : ClassId) (m0 aP ax ay afx afy atx aty wd hg cap n : Nat) (fr tt x0 x1 y0 y1 : Int32) (xs ys : Nat → Int32) (i : Int32)  : Met l yX2_isVertex wsX2_isVertex ({ frames := 0, cells := 0, slots := 0, locals := 0 }) (va_Pc [.ref m0, .int i] (rdP D cI cZ [(m0, .inr (2, [.int (nI wd), .int (nI hg), .int (nI cap), .ref aP, .ref ax, .ref ay, .int (nI n), .ref afx, .ref afy, .ref atx, .ref aty, .int fr, .int tt, .int x0, .int x1, .int y0, .int y1])), (ax, .inl (cI, 60, .inl xs)), (ay, .inl (cI, 60, .inl ys))])) (QcRead (bI (hsB i (nI n)))) 0 0 (fun _ => False) := by
  refine Met.ofW (cc := cX2_isVertex) (maxL := 2) (ret := (some .boolean)) (by decide) rfl ?_
  intro p e s m args below meth c s₁ B hml hv
  obtain ⟨rfl, hP, hK⟩ := hv
  have hx := B.exec
  have hb := B.bytes
  have hr := B.returns
  have hts := atoms_spec (ws := wsX2_isVertex) B.pre
  have hown : s.vm.findClass RX2 = some m.cls := findClass_of_methodNamed B.named
  have hlocks := B.notSynchronized
  have hP : va_P D vwCl [(m0, .inr (2, [.int (nI wd), .int (nI hg), .int (nI cap), .ref aP, .ref ax, .ref ay, .int (nI n), .ref afx, .ref afy, .ref atx, .ref aty, .int fr, .int tt, .int x0, .int x1, .int y0, .int y1])), (ax, .inl (cI, 60, .inl xs)), (ay, .inl (cI, 60, .inl ys))] s.heap := hP
  have hl := lv_entry ([.ref m0, .int i]) (n := 2) (Nat.le_of_ble_eq_true rfl)
  rw [lg_entry_eq]
  generalize (lg_sl ([.ref m0, .int i]) ++ List.replicate (2 - (lg_sl ([.ref m0, .int i])).length) Slot.unset).toArray = ls at hl ⊢
  have hl : lv_has ls 2 [(0, .ref m0), (1, .int i)] := hl
  refine lv_iload_n hx hb dX2_isVertex_0 rfl (lv_at hl 1 rfl) ?_
  refine lv_if_lt (tgt := 16) hx hb dX2_isVertex_1 (by decide) (fun c1 => ?_) (fun c1 => ?_)
  · skip
    refine lv_iconst (v := 0) hx hb dX2_isVertex_16 (by decide) ?_
    exact W.zret (v := 0) hx hb hr rfl (fun t ht _ => ⟨oI (bI_ff (decide_eq_false (fun h => h.1 c1))), ht⟩) (fun _ h => absurd h List.not_mem_nil) dX2_isVertex_17
  · skip
    refine lv_iload_n hx hb dX2_isVertex_4 rfl (lv_at hl 1 rfl) ?_
    refine lv_aload_n hx hb dX2_isVertex_5 rfl (lv_at hl 0 rfl) ?_
    refine va_get (D := D) (ci := 2) (v := .int (nI n)) (C := RX2) (T := TX2) (N := 17) hx hb hts nX2_isVertex_X2 hown hK.1 hP 0 rfl rfl 6 (by decide) (hts (.fieldLink RX2 57 "PolygonFrameModel" "size" "I") (by decide +kernel)) (fun _ h9 => h9) rfl dX2_isVertex_6 ?_
    refine lv_icmp_ge (tgt := 16) hx hb dX2_isVertex_9 (by decide) (fun c9 => ?_) (fun c9 => ?_)
    · skip
      refine lv_iconst (v := 0) hx hb dX2_isVertex_16 (by decide) ?_
      exact W.zret (v := 0) hx hb hr rfl (fun t ht _ => ⟨oI (bI_ff (decide_eq_false (fun h => h.2 c9))), ht⟩) (fun _ h => absurd h List.not_mem_nil) dX2_isVertex_17
    · skip
      refine lv_iconst (v := 1) hx hb dX2_isVertex_12 (by decide) ?_
      refine lv_goto (tgt := 17) hx hb dX2_isVertex_13 (by decide) ?_
      exact W.zret (v := 1) hx hb hr rfl (fun t ht _ => ⟨oI (bI_tt (decide_eq_true ⟨c1, c9⟩)), ht⟩) (fun _ h => absurd h List.not_mem_nil) dX2_isVertex_17
theorem nX2_vertices_X2 : ∀ w ∈ wsX20, w ∈ wsX2_vertices := fun w h => List.mem_cons_of_mem _ (List.mem_append_right _ h)
set_option maxHeartbeats 4000000 in
set_option maxRecDepth 100000 in
theorem kX2_vertices (l : Launch) (D : va_G) (cI cZ : ClassId) (m0 aP ax ay afx afy atx aty wd hg cap n : Nat) (fr tt x0 x1 y0 y1 : Int32) (xs ys : Nat → Int32)  : Met l yX2_vertices wsX2_vertices ({ frames := 0, cells := 0, slots := 0, locals := 0 }) (va_Pc [.ref m0] (rdP D cI cZ [(m0, .inr (2, [.int (nI wd), .int (nI hg), .int (nI cap), .ref aP, .ref ax, .ref ay, .int (nI n), .ref afx, .ref afy, .ref atx, .ref aty, .int fr, .int tt, .int x0, .int x1, .int y0, .int y1])), (ax, .inl (cI, 60, .inl xs)), (ay, .inl (cI, 60, .inl ys))])) (QcRead (nI n)) 0 0 (fun _ => False) := by
  refine Met.ofW (cc := cX2_vertices) (maxL := 1) (ret := (some .int)) (by decide) rfl ?_
  intro p e s m args below meth c s₁ B hml hv
  obtain ⟨rfl, hP, hK⟩ := hv
  have hx := B.exec
  have hb := B.bytes
  have hr := B.returns
  have hts := atoms_spec (ws := wsX2_vertices) B.pre
  have hown : s.vm.findClass RX2 = some m.cls := findClass_of_methodNamed B.named
  have hlocks := B.notSynchronized
  have hP : va_P D vwCl [(m0, .inr (2, [.int (nI wd), .int (nI hg), .int (nI cap), .ref aP, .ref ax, .ref ay, .int (nI n), .ref afx, .ref afy, .ref atx, .ref aty, .int fr, .int tt, .int x0, .int x1, .int y0, .int y1])), (ax, .inl (cI, 60, .inl xs)), (ay, .inl (cI, 60, .inl ys))] s.heap := hP
  have hl := lv_entry ([.ref m0]) (n := 1) (Nat.le_of_ble_eq_true rfl)
  rw [lg_entry_eq]
  generalize (lg_sl ([.ref m0]) ++ List.replicate (1 - (lg_sl ([.ref m0])).length) Slot.unset).toArray = ls at hl ⊢
  have hl : lv_has ls 1 [(0, .ref m0)] := hl
  refine lv_aload_n hx hb dX2_vertices_0 rfl (lv_at hl 0 rfl) ?_
  refine va_get (D := D) (ci := 2) (v := .int (nI n)) (C := RX2) (T := TX2) (N := 17) hx hb hts nX2_vertices_X2 hown hK.1 hP 0 rfl rfl 6 (by decide) (hts (.fieldLink RX2 57 "PolygonFrameModel" "size" "I") (by decide +kernel)) (fun _ h9 => h9) rfl dX2_vertices_1 ?_
  exact W.iret (v := (nI n)) hx hb hr (fun t ht _ => ⟨rfl, ht⟩) (fun _ h => absurd h List.not_mem_nil) dX2_vertices_4
theorem nX2_vx_X2 : ∀ w ∈ wsX20, w ∈ wsX2_vx := fun w h => List.mem_cons_of_mem _ (List.mem_append_right _ h)
set_option maxHeartbeats 4000000 in
set_option maxRecDepth 100000 in
theorem kX2_vx (l : Launch) (D : va_G) (cI cZ : ClassId) (m0 aP ax ay afx afy atx aty wd hg cap n : Nat) (fr tt x0 x1 y0 y1 : Int32) (xs ys : Nat → Int32) (i : Int32) (hn : n ≤ 60) : Met l yX2_vx wsX2_vx ({ frames := 1, cells := 0, slots := 0, locals := 21 }) (va_Pc [.ref m0, .int i] (rdP D cI cZ [(m0, .inr (2, [.int (nI wd), .int (nI hg), .int (nI cap), .ref aP, .ref ax, .ref ay, .int (nI n), .ref afx, .ref afy, .ref atx, .ref aty, .int fr, .int tt, .int x0, .int x1, .int y0, .int y1])), (ax, .inl (cI, 60, .inl xs)), (ay, .inl (cI, 60, .inl ys))])) (QcRead (vxI xs n i)) 0 0 (fun _ => False) := by
  refine Met.ofW (cc := cX2_vx) (maxL := 2) (ret := (some .int)) (by decide) rfl ?_
  intro p e s m args below meth c s₁ B hml hv
  obtain ⟨rfl, hP, hK⟩ := hv
  have hx := B.exec
  have hb := B.bytes
  have hr := B.returns
  have hts := atoms_spec (ws := wsX2_vx) B.pre
  have hown : s.vm.findClass RX2 = some m.cls := findClass_of_methodNamed B.named
  have hlocks := B.notSynchronized
  have hP : va_P D vwCl [(m0, .inr (2, [.int (nI wd), .int (nI hg), .int (nI cap), .ref aP, .ref ax, .ref ay, .int (nI n), .ref afx, .ref afy, .ref atx, .ref aty, .int fr, .int tt, .int x0, .int x1, .int y0, .int y1])), (ax, .inl (cI, 60, .inl xs)), (ay, .inl (cI, 60, .inl ys))] s.heap := hP
  have hl := lv_entry ([.ref m0, .int i]) (n := 2) (Nat.le_of_ble_eq_true rfl)
  rw [lg_entry_eq]
  generalize (lg_sl ([.ref m0, .int i]) ++ List.replicate (2 - (lg_sl ([.ref m0, .int i])).length) Slot.unset).toArray = ls at hl ⊢
  have hl : lv_has ls 2 [(0, .ref m0), (1, .int i)] := hl
  refine lv_aload_n hx hb dX2_vx_0 rfl (lv_at hl 0 rfl) ?_
  refine lv_iload_n hx hb dX2_vx_1 rfl (lv_at hl 1 rfl) ?_
  refine rd_i (va_runV (As := [.int i]) ⟨hx, hb, hml, hown, hts⟩ (kX2_isVertex l D cI cZ m0 aP ax ay afx afy atx aty wd hg cap n fr tt x0 x1 y0 y1 xs ys i) (cwV 1 hts gX2_vx_X2_isVertex rfl rfl rfl (by decide +kernel) ⟨Nat.le_of_ble_eq_true rfl, Nat.le_of_ble_eq_true rfl⟩) (rd_preV (ci := 2) (q0 := 0) (hP.sub [0, 1, 2] rfl) hK rfl rfl) rfl rfl hl.1 rfl (lv_room (Nat.le_of_ble_eq_true rfl)) dX2_vx_2 ⟨Nat.zero_le _, Nat.zero_le _⟩) ?_
  refine lv_if_eq (tgt := 17) hx hb dX2_vx_5 (by decide) (fun c5 => ?_) (fun c5 => ?_)
  · skip
    refine lv_sipush (v := (-32768)) hx hb dX2_vx_17 (by decide) ?_
    exact W.iret (v := (-32768)) hx hb hr (fun t ht _ => ⟨oI (by rw [vxI, if_neg (by rw [bI_eq0.mp c5]; decide)]), ht⟩) (fun _ h => absurd h List.not_mem_nil) dX2_vx_20
  · skip
    obtain ⟨j, hj, rfl⟩ := hs_ix hn (bI_ne c5)
    refine lv_aload_n hx hb dX2_vx_8 rfl (lv_at hl 0 rfl) ?_
    refine va_get (D := D) (ci := 2) (v := .ref ax) (C := RX2) (T := TX2) (N := 17) hx hb hts nX2_vx_X2 hown hK.1 hP 0 rfl rfl 4 (by decide) (hts (.fieldLink RX2 13 "PolygonFrameModel" "xs" "[I") (by decide +kernel)) (fun _ h9 => h9) rfl dX2_vx_9 ?_
    refine lv_iload_n hx hb dX2_vx_12 rfl (lv_at hl 1 rfl) ?_
    refine q_iald (k := j) hx hb hK.1 hP 1 0 rfl rfl (by omega) (by omega) dX2_vx_13 ?_
    refine lv_goto (tgt := 20) hx hb dX2_vx_14 (by decide) ?_
    exact W.iret (v := (xs j)) hx hb hr (fun t ht _ => ⟨oI (by rw [vxI, if_pos (bI_ne c5), nI_clamp (by omega)]), ht⟩) (fun _ h => absurd h List.not_mem_nil) dX2_vx_20
theorem nX2_vy_X2 : ∀ w ∈ wsX20, w ∈ wsX2_vy := fun w h => List.mem_cons_of_mem _ (List.mem_append_right _ h)
set_option maxHeartbeats 4000000 in
set_option maxRecDepth 100000 in
theorem kX2_vy (l : Launch) (D : va_G) (cI cZ : ClassId) (m0 aP ax ay afx afy atx aty wd hg cap n : Nat) (fr tt x0 x1 y0 y1 : Int32) (xs ys : Nat → Int32) (i : Int32) (hn : n ≤ 60) : Met l yX2_vy wsX2_vy ({ frames := 1, cells := 0, slots := 0, locals := 21 }) (va_Pc [.ref m0, .int i] (rdP D cI cZ [(m0, .inr (2, [.int (nI wd), .int (nI hg), .int (nI cap), .ref aP, .ref ax, .ref ay, .int (nI n), .ref afx, .ref afy, .ref atx, .ref aty, .int fr, .int tt, .int x0, .int x1, .int y0, .int y1])), (ax, .inl (cI, 60, .inl xs)), (ay, .inl (cI, 60, .inl ys))])) (QcRead (vxI ys n i)) 0 0 (fun _ => False) := by
  refine Met.ofW (cc := cX2_vy) (maxL := 2) (ret := (some .int)) (by decide) rfl ?_
  intro p e s m args below meth c s₁ B hml hv
  obtain ⟨rfl, hP, hK⟩ := hv
  have hx := B.exec
  have hb := B.bytes
  have hr := B.returns
  have hts := atoms_spec (ws := wsX2_vy) B.pre
  have hown : s.vm.findClass RX2 = some m.cls := findClass_of_methodNamed B.named
  have hlocks := B.notSynchronized
  have hP : va_P D vwCl [(m0, .inr (2, [.int (nI wd), .int (nI hg), .int (nI cap), .ref aP, .ref ax, .ref ay, .int (nI n), .ref afx, .ref afy, .ref atx, .ref aty, .int fr, .int tt, .int x0, .int x1, .int y0, .int y1])), (ax, .inl (cI, 60, .inl xs)), (ay, .inl (cI, 60, .inl ys))] s.heap := hP
  have hl := lv_entry ([.ref m0, .int i]) (n := 2) (Nat.le_of_ble_eq_true rfl)
  rw [lg_entry_eq]
  generalize (lg_sl ([.ref m0, .int i]) ++ List.replicate (2 - (lg_sl ([.ref m0, .int i])).length) Slot.unset).toArray = ls at hl ⊢
  have hl : lv_has ls 2 [(0, .ref m0), (1, .int i)] := hl
  refine lv_aload_n hx hb dX2_vy_0 rfl (lv_at hl 0 rfl) ?_
  refine lv_iload_n hx hb dX2_vy_1 rfl (lv_at hl 1 rfl) ?_
  refine rd_i (va_runV (As := [.int i]) ⟨hx, hb, hml, hown, hts⟩ (kX2_isVertex l D cI cZ m0 aP ax ay afx afy atx aty wd hg cap n fr tt x0 x1 y0 y1 xs ys i) (cwV 1 hts gX2_vy_X2_isVertex rfl rfl rfl (by decide +kernel) ⟨Nat.le_of_ble_eq_true rfl, Nat.le_of_ble_eq_true rfl⟩) (rd_preV (ci := 2) (q0 := 0) (hP.sub [0, 1, 2] rfl) hK rfl rfl) rfl rfl hl.1 rfl (lv_room (Nat.le_of_ble_eq_true rfl)) dX2_vy_2 ⟨Nat.zero_le _, Nat.zero_le _⟩) ?_
  refine lv_if_eq (tgt := 17) hx hb dX2_vy_5 (by decide) (fun c5 => ?_) (fun c5 => ?_)
  · skip
    refine lv_sipush (v := (-32768)) hx hb dX2_vy_17 (by decide) ?_
    exact W.iret (v := (-32768)) hx hb hr (fun t ht _ => ⟨oI (by rw [vxI, if_neg (by rw [bI_eq0.mp c5]; decide)]), ht⟩) (fun _ h => absurd h List.not_mem_nil) dX2_vy_20
  · skip
    obtain ⟨j, hj, rfl⟩ := hs_ix hn (bI_ne c5)
    refine lv_aload_n hx hb dX2_vy_8 rfl (lv_at hl 0 rfl) ?_
    refine va_get (D := D) (ci := 2) (v := .ref ay) (C := RX2) (T := TX2) (N := 17) hx hb hts nX2_vy_X2 hown hK.1 hP 0 rfl rfl 5 (by decide) (hts (.fieldLink RX2 16 "PolygonFrameModel" "ys" "[I") (by decide +kernel)) (fun _ h9 => h9) rfl dX2_vy_9 ?_
    refine lv_iload_n hx hb dX2_vy_12 rfl (lv_at hl 1 rfl) ?_
    refine q_iald (k := j) hx hb hK.1 hP 2 0 rfl rfl (by omega) (by omega) dX2_vy_13 ?_
    refine lv_goto (tgt := 20) hx hb dX2_vy_14 (by decide) ?_
    exact W.iret (v := (ys j)) hx hb hr (fun t ht _ => ⟨oI (by rw [vxI, if_pos (bI_ne c5), nI_clamp (by omega)]), ht⟩) (fun _ h => absurd h List.not_mem_nil) dX2_vy_20
def dpI (side : Nat) (x y x0 x1 y0 y1 : Int32) : Int32 := if side = 0 then x - x0 else if side = 1 then x1 - x else if side = 2 then y - y0 else y1 - y
theorem nX2_depth_X2 : ∀ w ∈ wsX20, w ∈ wsX2_depth := fun w h => List.mem_cons_of_mem _ (List.mem_append_right _ h)
set_option maxHeartbeats 4000000 in
set_option maxRecDepth 100000 in
theorem kX2_depth (l : Launch) (D : va_G) (cI cZ : ClassId) (m0 aP ax ay afx afy atx aty wd hg cap n : Nat) (fr tt x0 x1 y0 y1 : Int32) (k : Nat) (x y : Int32) (hk : k < 4) : Met l yX2_depth wsX2_depth ({ frames := 0, cells := 0, slots := 0, locals := 0 }) (va_Pc [.ref m0, .int (nI k), .int x, .int y] (rdP D cI cZ [(m0, .inr (2, [.int (nI wd), .int (nI hg), .int (nI cap), .ref aP, .ref ax, .ref ay, .int (nI n), .ref afx, .ref afy, .ref atx, .ref aty, .int fr, .int tt, .int x0, .int x1, .int y0, .int y1]))])) (QcRead (dpI k x y x0 x1 y0 y1)) 0 0 (fun _ => False) := by
  refine Met.ofW (cc := cX2_depth) (maxL := 4) (ret := (some .int)) (by decide) rfl ?_
  intro p e s m args below meth c s₁ B hml hv
  obtain ⟨rfl, hP, hK⟩ := hv
  have hx := B.exec
  have hb := B.bytes
  have hr := B.returns
  have hts := atoms_spec (ws := wsX2_depth) B.pre
  have hown : s.vm.findClass RX2 = some m.cls := findClass_of_methodNamed B.named
  have hlocks := B.notSynchronized
  have hP : va_P D vwCl [(m0, .inr (2, [.int (nI wd), .int (nI hg), .int (nI cap), .ref aP, .ref ax, .ref ay, .int (nI n), .ref afx, .ref afy, .ref atx, .ref aty, .int fr, .int tt, .int x0, .int x1, .int y0, .int y1]))] s.heap := hP
  have hl := lv_entry ([.ref m0, .int (nI k), .int x, .int y]) (n := 4) (Nat.le_of_ble_eq_true rfl)
  rw [lg_entry_eq]
  generalize (lg_sl ([.ref m0, .int (nI k), .int x, .int y]) ++ List.replicate (4 - (lg_sl ([.ref m0, .int (nI k), .int x, .int y])).length) Slot.unset).toArray = ls at hl ⊢
  have hl : lv_has ls 4 [(0, .ref m0), (1, .int (nI k)), (2, .int x), (3, .int y)] := hl
  refine lv_iload_n hx hb dX2_depth_0 rfl (lv_at hl 1 rfl) ?_
  refine lv_if_ne (tgt := 13) hx hb dX2_depth_1 (by decide) (fun c1 => ?_) (fun c1 => ?_)
  · skip
    refine lv_iload_n hx hb dX2_depth_13 rfl (lv_at hl 1 rfl) ?_
    refine lv_iconst (v := 1) hx hb dX2_depth_14 (by decide) ?_
    refine lv_icmp_ne (tgt := 27) hx hb dX2_depth_15 (by decide) (fun c15 => ?_) (fun c15 => ?_)
    · skip
      refine lv_iload_n hx hb dX2_depth_27 rfl (lv_at hl 1 rfl) ?_
      refine lv_iconst (v := 2) hx hb dX2_depth_28 (by decide) ?_
      refine lv_icmp_ne (tgt := 41) hx hb dX2_depth_29 (by decide) (fun c29 => ?_) (fun c29 => ?_)
      · skip
        refine lv_aload_n hx hb dX2_depth_41 rfl (lv_at hl 0 rfl) ?_
        refine va_get (D := D) (ci := 2) (v := .int y1) (C := RX2) (T := TX2) (N := 17) hx hb hts nX2_depth_X2 hown hK.1 hP 0 rfl rfl 16 (by decide) (hts (.fieldLink RX2 41 "PolygonFrameModel" "top" "I") (by decide +kernel)) (fun _ h9 => h9) rfl dX2_depth_42 ?_
        refine lv_iload_n hx hb dX2_depth_45 rfl (lv_at hl 3 rfl) ?_
        refine lv_isub hx hb dX2_depth_46 ?_
        exact W.iret (v := (y1 - y)) hx hb hr (fun t ht _ => ⟨oI (by rw [dpI, if_neg (fun h => c1 (by rw [h]; rfl)), if_neg (fun h => c15 (by rw [h]; rfl)), if_neg (fun h => c29 (by rw [h]; rfl))]), ht⟩) (fun _ h => absurd h List.not_mem_nil) dX2_depth_47
      · skip
        refine lv_iload_n hx hb dX2_depth_32 rfl (lv_at hl 3 rfl) ?_
        refine lv_aload_n hx hb dX2_depth_33 rfl (lv_at hl 0 rfl) ?_
        refine va_get (D := D) (ci := 2) (v := .int y0) (C := RX2) (T := TX2) (N := 17) hx hb hts nX2_depth_X2 hown hK.1 hP 0 rfl rfl 15 (by decide) (hts (.fieldLink RX2 38 "PolygonFrameModel" "low" "I") (by decide +kernel)) (fun _ h9 => h9) rfl dX2_depth_34 ?_
        refine lv_isub hx hb dX2_depth_37 ?_
        refine lv_goto (tgt := 47) hx hb dX2_depth_38 (by decide) ?_
        exact W.iret (v := (y - y0)) hx hb hr (fun t ht _ => ⟨oI (by rw [dpI, if_neg (fun h => c1 (by rw [h]; rfl)), if_neg (fun h => c15 (by rw [h]; rfl)), if_pos ((nI_eq (a := k) (b := 2) (by omega) (by decide)).mp c29)]), ht⟩) (fun _ h => absurd h List.not_mem_nil) dX2_depth_47
    · skip
      refine lv_aload_n hx hb dX2_depth_18 rfl (lv_at hl 0 rfl) ?_
      refine va_get (D := D) (ci := 2) (v := .int x1) (C := RX2) (T := TX2) (N := 17) hx hb hts nX2_depth_X2 hown hK.1 hP 0 rfl rfl 14 (by decide) (hts (.fieldLink RX2 35 "PolygonFrameModel" "right" "I") (by decide +kernel)) (fun _ h9 => h9) rfl dX2_depth_19 ?_
      refine lv_iload_n hx hb dX2_depth_22 rfl (lv_at hl 2 rfl) ?_
      refine lv_isub hx hb dX2_depth_23 ?_
      refine lv_goto (tgt := 47) hx hb dX2_depth_24 (by decide) ?_
      exact W.iret (v := (x1 - x)) hx hb hr (fun t ht _ => ⟨oI (by rw [dpI, if_neg (fun h => c1 (by rw [h]; rfl)), if_pos ((nI_eq (a := k) (b := 1) (by omega) (by decide)).mp c15)]), ht⟩) (fun _ h => absurd h List.not_mem_nil) dX2_depth_47
  · skip
    refine lv_iload_n hx hb dX2_depth_4 rfl (lv_at hl 2 rfl) ?_
    refine lv_aload_n hx hb dX2_depth_5 rfl (lv_at hl 0 rfl) ?_
    refine va_get (D := D) (ci := 2) (v := .int x0) (C := RX2) (T := TX2) (N := 17) hx hb hts nX2_depth_X2 hown hK.1 hP 0 rfl rfl 13 (by decide) (hts (.fieldLink RX2 31 "PolygonFrameModel" "left" "I") (by decide +kernel)) (fun _ h9 => h9) rfl dX2_depth_6 ?_
    refine lv_isub hx hb dX2_depth_9 ?_
    refine lv_goto (tgt := 47) hx hb dX2_depth_10 (by decide) ?_
    exact W.iret (v := (x - x0)) hx hb hr (fun t ht _ => ⟨oI (by rw [dpI, if_pos ((nI_eq (a := k) (b := 0) (by omega) (by decide)).mp c1)]), ht⟩) (fun _ h => absurd h List.not_mem_nil) dX2_depth_47
def crM (a b c d x y : Int64) : Bool := if (0 < lg_cmp b y ↔ 0 < lg_cmp d y) then false else if 0 < lg_cmp b y then decide (¬ lg_cmp ((a - c) * (y - d)) ((x - c) * (b - d)) ≤ 0) else decide (¬ lg_cmp ((c - a) * (y - b)) ((x - a) * (d - b)) ≤ 0)
set_option maxHeartbeats 4000000 in
set_option maxRecDepth 100000 in
theorem kX2_crosses (l : Launch) (D : va_G) (cI cZ : ClassId) (a0 b0 c0 d0 x y : Int64)  : Met l yX2_crosses wsX2_crosses ({ frames := 0, cells := 0, slots := 0, locals := 0 }) (va_Pc [.long a0, .long b0, .long c0, .long d0, .long x, .long y] (fun _ => True)) (QcRead (bI (crM a0 b0 c0 d0 x y))) 0 0 (fun _ => False) := by
  refine Met.ofW (cc := cX2_crosses) (maxL := 21) (ret := (some .boolean)) (by decide) rfl ?_
  intro p e s m args below meth c s₁ B hml hv
  obtain ⟨rfl, -⟩ := hv
  have hx := B.exec
  have hb := B.bytes
  have hr := B.returns
  have hts := atoms_spec (ws := wsX2_crosses) B.pre
  have hown : s.vm.findClass RX2 = some m.cls := findClass_of_methodNamed B.named
  have hlocks := B.notSynchronized
  have hl := lv_entry ([.long a0, .long b0, .long c0, .long d0, .long x, .long y]) (n := 21) (Nat.le_of_ble_eq_true rfl)
  rw [lg_entry_eq]
  generalize (lg_sl ([.long a0, .long b0, .long c0, .long d0, .long x, .long y]) ++ List.replicate (21 - (lg_sl ([.long a0, .long b0, .long c0, .long d0, .long x, .long y])).length) Slot.unset).toArray = ls at hl ⊢
  have hl : lv_has ls 21 [(0, .long a0), (2, .long b0), (4, .long c0), (6, .long d0), (8, .long x), (10, .long y)] := hl
  refine lv_lload_n hx hb dX2_crosses_0 rfl (lv_at hl 1 rfl) ?_
  refine lv_lload hx hb dX2_crosses_1 (lv_at hl 5 rfl) ?_
  refine W.lcmp hx hb dX2_crosses_3 ?_
  refine lv_if_gt (tgt := 11) hx hb dX2_crosses_4 (by decide) (fun c4 => ?_) (fun c4 => ?_)
  · skip
    refine lv_iconst (v := 0) hx hb dX2_crosses_11 (by decide) ?_
    refine lv_lload hx hb dX2_crosses_12 (lv_at hl 3 rfl) ?_
    refine lv_lload hx hb dX2_crosses_14 (lv_at hl 5 rfl) ?_
    refine W.lcmp hx hb dX2_crosses_16 ?_
    refine lv_if_gt (tgt := 24) hx hb dX2_crosses_17 (by decide) (fun c17 => ?_) (fun c17 => ?_)
    · skip
      refine lv_iconst (v := 0) hx hb dX2_crosses_24 (by decide) ?_
      refine lv_icmp_ne (tgt := 30) hx hb dX2_crosses_25 (by decide) (fun c25 => absurd (by decide) c25) (fun c25 => ?_)
      refine lv_iconst (v := 0) hx hb dX2_crosses_28 (by decide) ?_
      exact W.zret (v := 0) hx hb hr rfl (fun t ht _ => ⟨oI (by rw [crM, if_pos (show (0 < lg_cmp b0 y ↔ 0 < lg_cmp d0 y) from ⟨fun _ => c17, fun _ => c4⟩)]; rfl), ht⟩) (fun _ h => absurd h List.not_mem_nil) dX2_crosses_29
    · skip
      refine lv_iconst (v := 1) hx hb dX2_crosses_20 (by decide) ?_
      refine lv_goto (tgt := 25) hx hb dX2_crosses_21 (by decide) ?_
      refine lv_icmp_ne (tgt := 30) hx hb dX2_crosses_25 (by decide) (fun c25 => ?_) (fun c25 => absurd c25 (by decide))
      refine lv_lload_n hx hb dX2_crosses_30 rfl (lv_at hl 1 rfl) ?_
      refine lv_lload hx hb dX2_crosses_31 (lv_at hl 5 rfl) ?_
      refine W.lcmp hx hb dX2_crosses_33 ?_
      refine lv_if_gt (tgt := 41) hx hb dX2_crosses_34 (by decide) (fun c34 => ?_) (fun c34 => absurd c4 c34)
      refine lv_iconst (v := 0) hx hb dX2_crosses_41 (by decide) ?_
      refine lv_istore (lv' := [(12, .int 0), (0, .long a0), (2, .long b0), (4, .long c0), (6, .long d0), (8, .long x), (10, .long y)]) hx hb dX2_crosses_42 hl (by decide) rfl (fun ls hl => ?_)
      refine lv_iload hx hb dX2_crosses_44 (lv_at hl 0 rfl) ?_
      refine lv_if_eq (tgt := 53) hx hb dX2_crosses_46 (by decide) (fun c46 => ?_) (fun c46 => absurd (by decide) c46)
      refine lv_lload hx hb dX2_crosses_53 (lv_at hl 3 rfl) ?_
      refine lv_lstore (lv' := [(13, .long c0), (12, .int 0), (0, .long a0), (2, .long b0), (4, .long c0), (6, .long d0), (8, .long x), (10, .long y)]) hx hb dX2_crosses_55 hl (by decide) rfl (fun ls hl => ?_)
      refine lv_iload hx hb dX2_crosses_57 (lv_at hl 1 rfl) ?_
      refine lv_if_eq (tgt := 66) hx hb dX2_crosses_59 (by decide) (fun c59 => ?_) (fun c59 => absurd (by decide) c59)
      refine lv_lload hx hb dX2_crosses_66 (lv_at hl 5 rfl) ?_
      refine lv_lstore (lv' := [(15, .long d0), (13, .long c0), (12, .int 0), (0, .long a0), (2, .long b0), (4, .long c0), (6, .long d0), (8, .long x), (10, .long y)]) hx hb dX2_crosses_68 hl (by decide) rfl (fun ls hl => ?_)
      refine lv_iload hx hb dX2_crosses_70 (lv_at hl 2 rfl) ?_
      refine lv_if_eq (tgt := 82) hx hb dX2_crosses_72 (by decide) (fun c72 => ?_) (fun c72 => absurd (by decide) c72)
      refine lv_lload_n hx hb dX2_crosses_82 rfl (lv_at hl 3 rfl) ?_
      refine lv_lload hx hb dX2_crosses_83 (lv_at hl 5 rfl) ?_
      refine lv_lsub hx hb dX2_crosses_85 ?_
      refine lv_lstore (lv' := [(17, .long (a0 - c0)), (15, .long d0), (13, .long c0), (12, .int 0), (0, .long a0), (2, .long b0), (4, .long c0), (6, .long d0), (8, .long x), (10, .long y)]) hx hb dX2_crosses_86 hl (by decide) rfl (fun ls hl => ?_)
      refine lv_iload hx hb dX2_crosses_88 (lv_at hl 3 rfl) ?_
      refine lv_if_eq (tgt := 100) hx hb dX2_crosses_90 (by decide) (fun c90 => ?_) (fun c90 => absurd (by decide) c90)
      refine lv_lload_n hx hb dX2_crosses_100 rfl (lv_at hl 5 rfl) ?_
      refine lv_lload hx hb dX2_crosses_101 (lv_at hl 7 rfl) ?_
      refine lv_lsub hx hb dX2_crosses_103 ?_
      refine lv_lstore (lv' := [(19, .long (b0 - d0)), (17, .long (a0 - c0)), (15, .long d0), (13, .long c0), (12, .int 0), (0, .long a0), (2, .long b0), (4, .long c0), (6, .long d0), (8, .long x), (10, .long y)]) hx hb dX2_crosses_104 hl (by decide) rfl (fun ls hl => ?_)
      refine lv_lload hx hb dX2_crosses_106 (lv_at hl 1 rfl) ?_
      refine lv_lload hx hb dX2_crosses_108 (lv_at hl 10 rfl) ?_
      refine lv_lload hx hb dX2_crosses_110 (lv_at hl 2 rfl) ?_
      refine lv_lsub hx hb dX2_crosses_112 ?_
      refine lv_lmul hx hb dX2_crosses_113 ?_
      refine lv_lload hx hb dX2_crosses_114 (lv_at hl 9 rfl) ?_
      refine lv_lload hx hb dX2_crosses_116 (lv_at hl 3 rfl) ?_
      refine lv_lsub hx hb dX2_crosses_118 ?_
      refine lv_lload hx hb dX2_crosses_119 (lv_at hl 0 rfl) ?_
      refine lv_lmul hx hb dX2_crosses_121 ?_
      refine W.lcmp hx hb dX2_crosses_122 ?_
      refine lv_if_le (tgt := 130) hx hb dX2_crosses_123 (by decide) (fun c123 => ?_) (fun c123 => ?_)
      · skip
        refine lv_iconst (v := 0) hx hb dX2_crosses_130 (by decide) ?_
        exact W.zret (v := 0) hx hb hr rfl (fun t ht _ => ⟨oI (by rw [crM, if_neg (show ¬ (0 < lg_cmp b0 y ↔ 0 < lg_cmp d0 y) from fun h => c17 (h.mp c4)), if_pos c4, decide_eq_false (fun h => h c123)]; rfl), ht⟩) (fun _ h => absurd h List.not_mem_nil) dX2_crosses_131
      · skip
        refine lv_iconst (v := 1) hx hb dX2_crosses_126 (by decide) ?_
        refine lv_goto (tgt := 131) hx hb dX2_crosses_127 (by decide) ?_
        exact W.zret (v := 1) hx hb hr rfl (fun t ht _ => ⟨oI (by rw [crM, if_neg (show ¬ (0 < lg_cmp b0 y ↔ 0 < lg_cmp d0 y) from fun h => c17 (h.mp c4)), if_pos c4, decide_eq_true c123]; rfl), ht⟩) (fun _ h => absurd h List.not_mem_nil) dX2_crosses_131
  · skip
    refine lv_iconst (v := 1) hx hb dX2_crosses_7 (by decide) ?_
    refine lv_goto (tgt := 12) hx hb dX2_crosses_8 (by decide) ?_
    refine lv_lload hx hb dX2_crosses_12 (lv_at hl 3 rfl) ?_
    refine lv_lload hx hb dX2_crosses_14 (lv_at hl 5 rfl) ?_
    refine W.lcmp hx hb dX2_crosses_16 ?_
    refine lv_if_gt (tgt := 24) hx hb dX2_crosses_17 (by decide) (fun c17 => ?_) (fun c17 => ?_)
    · skip
      refine lv_iconst (v := 0) hx hb dX2_crosses_24 (by decide) ?_
      refine lv_icmp_ne (tgt := 30) hx hb dX2_crosses_25 (by decide) (fun c25 => ?_) (fun c25 => absurd c25 (by decide))
      refine lv_lload_n hx hb dX2_crosses_30 rfl (lv_at hl 1 rfl) ?_
      refine lv_lload hx hb dX2_crosses_31 (lv_at hl 5 rfl) ?_
      refine W.lcmp hx hb dX2_crosses_33 ?_
      refine lv_if_gt (tgt := 41) hx hb dX2_crosses_34 (by decide) (fun c34 => absurd c34 c4) (fun c34 => ?_)
      refine lv_iconst (v := 1) hx hb dX2_crosses_37 (by decide) ?_
      refine lv_goto (tgt := 42) hx hb dX2_crosses_38 (by decide) ?_
      refine lv_istore (lv' := [(12, .int 1), (0, .long a0), (2, .long b0), (4, .long c0), (6, .long d0), (8, .long x), (10, .long y)]) hx hb dX2_crosses_42 hl (by decide) rfl (fun ls hl => ?_)
      refine lv_iload hx hb dX2_crosses_44 (lv_at hl 0 rfl) ?_
      refine lv_if_eq (tgt := 53) hx hb dX2_crosses_46 (by decide) (fun c46 => absurd c46 (by decide)) (fun c46 => ?_)
      refine lv_lload_n hx hb dX2_crosses_49 rfl (lv_at hl 1 rfl) ?_
      refine lv_goto (tgt := 55) hx hb dX2_crosses_50 (by decide) ?_
      refine lv_lstore (lv' := [(13, .long a0), (12, .int 1), (0, .long a0), (2, .long b0), (4, .long c0), (6, .long d0), (8, .long x), (10, .long y)]) hx hb dX2_crosses_55 hl (by decide) rfl (fun ls hl => ?_)
      refine lv_iload hx hb dX2_crosses_57 (lv_at hl 1 rfl) ?_
      refine lv_if_eq (tgt := 66) hx hb dX2_crosses_59 (by decide) (fun c59 => absurd c59 (by decide)) (fun c59 => ?_)
      refine lv_lload_n hx hb dX2_crosses_62 rfl (lv_at hl 3 rfl) ?_
      refine lv_goto (tgt := 68) hx hb dX2_crosses_63 (by decide) ?_
      refine lv_lstore (lv' := [(15, .long b0), (13, .long a0), (12, .int 1), (0, .long a0), (2, .long b0), (4, .long c0), (6, .long d0), (8, .long x), (10, .long y)]) hx hb dX2_crosses_68 hl (by decide) rfl (fun ls hl => ?_)
      refine lv_iload hx hb dX2_crosses_70 (lv_at hl 2 rfl) ?_
      refine lv_if_eq (tgt := 82) hx hb dX2_crosses_72 (by decide) (fun c72 => absurd c72 (by decide)) (fun c72 => ?_)
      refine lv_lload hx hb dX2_crosses_75 (lv_at hl 5 rfl) ?_
      refine lv_lload_n hx hb dX2_crosses_77 rfl (lv_at hl 3 rfl) ?_
      refine lv_lsub hx hb dX2_crosses_78 ?_
      refine lv_goto (tgt := 86) hx hb dX2_crosses_79 (by decide) ?_
      refine lv_lstore (lv' := [(17, .long (c0 - a0)), (15, .long b0), (13, .long a0), (12, .int 1), (0, .long a0), (2, .long b0), (4, .long c0), (6, .long d0), (8, .long x), (10, .long y)]) hx hb dX2_crosses_86 hl (by decide) rfl (fun ls hl => ?_)
      refine lv_iload hx hb dX2_crosses_88 (lv_at hl 3 rfl) ?_
      refine lv_if_eq (tgt := 100) hx hb dX2_crosses_90 (by decide) (fun c90 => absurd c90 (by decide)) (fun c90 => ?_)
      refine lv_lload hx hb dX2_crosses_93 (lv_at hl 7 rfl) ?_
      refine lv_lload_n hx hb dX2_crosses_95 rfl (lv_at hl 5 rfl) ?_
      refine lv_lsub hx hb dX2_crosses_96 ?_
      refine lv_goto (tgt := 104) hx hb dX2_crosses_97 (by decide) ?_
      refine lv_lstore (lv' := [(19, .long (d0 - b0)), (17, .long (c0 - a0)), (15, .long b0), (13, .long a0), (12, .int 1), (0, .long a0), (2, .long b0), (4, .long c0), (6, .long d0), (8, .long x), (10, .long y)]) hx hb dX2_crosses_104 hl (by decide) rfl (fun ls hl => ?_)
      refine lv_lload hx hb dX2_crosses_106 (lv_at hl 1 rfl) ?_
      refine lv_lload hx hb dX2_crosses_108 (lv_at hl 10 rfl) ?_
      refine lv_lload hx hb dX2_crosses_110 (lv_at hl 2 rfl) ?_
      refine lv_lsub hx hb dX2_crosses_112 ?_
      refine lv_lmul hx hb dX2_crosses_113 ?_
      refine lv_lload hx hb dX2_crosses_114 (lv_at hl 9 rfl) ?_
      refine lv_lload hx hb dX2_crosses_116 (lv_at hl 3 rfl) ?_
      refine lv_lsub hx hb dX2_crosses_118 ?_
      refine lv_lload hx hb dX2_crosses_119 (lv_at hl 0 rfl) ?_
      refine lv_lmul hx hb dX2_crosses_121 ?_
      refine W.lcmp hx hb dX2_crosses_122 ?_
      refine lv_if_le (tgt := 130) hx hb dX2_crosses_123 (by decide) (fun c123 => ?_) (fun c123 => ?_)
      · skip
        refine lv_iconst (v := 0) hx hb dX2_crosses_130 (by decide) ?_
        exact W.zret (v := 0) hx hb hr rfl (fun t ht _ => ⟨oI (by rw [crM, if_neg (show ¬ (0 < lg_cmp b0 y ↔ 0 < lg_cmp d0 y) from fun h => c4 (h.mpr c17)), if_neg c4, decide_eq_false (fun h => h c123)]; rfl), ht⟩) (fun _ h => absurd h List.not_mem_nil) dX2_crosses_131
      · skip
        refine lv_iconst (v := 1) hx hb dX2_crosses_126 (by decide) ?_
        refine lv_goto (tgt := 131) hx hb dX2_crosses_127 (by decide) ?_
        exact W.zret (v := 1) hx hb hr rfl (fun t ht _ => ⟨oI (by rw [crM, if_neg (show ¬ (0 < lg_cmp b0 y ↔ 0 < lg_cmp d0 y) from fun h => c4 (h.mpr c17)), if_neg c4, decide_eq_true c123]; rfl), ht⟩) (fun _ h => absurd h List.not_mem_nil) dX2_crosses_131
    · skip
      refine lv_iconst (v := 1) hx hb dX2_crosses_20 (by decide) ?_
      refine lv_goto (tgt := 25) hx hb dX2_crosses_21 (by decide) ?_
      refine lv_icmp_ne (tgt := 30) hx hb dX2_crosses_25 (by decide) (fun c25 => absurd (by decide) c25) (fun c25 => ?_)
      refine lv_iconst (v := 0) hx hb dX2_crosses_28 (by decide) ?_
      exact W.zret (v := 0) hx hb hr rfl (fun t ht _ => ⟨oI (by rw [crM, if_pos (show (0 < lg_cmp b0 y ↔ 0 < lg_cmp d0 y) from ⟨fun h => absurd h c4, fun h => absurd h c17⟩)]; rfl), ht⟩) (fun _ h => absurd h List.not_mem_nil) dX2_crosses_29
def nxM (n k : Nat) : Nat := if k + 1 = n then 0 else k + 1
theorem nxM_lt {n k : Nat} (h : k < n) : nxM n k < n := by unfold nxM; split <;> omega
def crQ (xs ys : Nat → Int32) (n : Nat) (x y : Int32) (k : Nat) : Bool := crM (xs k).toInt64 (ys k).toInt64 (xs (nxM n k)).toInt64 (ys (nxM n k)).toInt64 x.toInt64 y.toInt64
theorem nX2_inside_X2 : ∀ w ∈ wsX20, w ∈ wsX2_inside := fun w h => List.mem_cons_of_mem _ (List.mem_append_right _ h)
set_option maxHeartbeats 4000000 in
set_option maxRecDepth 100000 in
theorem kX2_inside (l : Launch) (D : va_G) (cI cZ : ClassId) (m0 aP ax ay afx afy atx aty wd hg cap n : Nat) (fr tt x0 x1 y0 y1 : Int32) (xs ys : Nat → Int32) (x y : Int32) (hn : n ≤ 60) : Met l yX2_inside wsX2_inside ({ frames := 1, cells := 0, slots := 0, locals := 40 }) (va_Pc [.ref m0, .int x, .int y] (rdP D cI cZ [(m0, .inr (2, [.int (nI wd), .int (nI hg), .int (nI cap), .ref aP, .ref ax, .ref ay, .int (nI n), .ref afx, .ref afy, .ref atx, .ref aty, .int fr, .int tt, .int x0, .int x1, .int y0, .int y1])), (ax, .inl (cI, 60, .inl xs)), (ay, .inl (cI, 60, .inl ys))])) (QcRead (bI (oddB (crQ xs ys n x y) n))) 0 0 (fun _ => False) := by
  refine Met.ofW (cc := cX2_inside) (maxL := 6) (ret := (some .boolean)) (by decide) rfl ?_
  intro p e s m args below meth c s₁ B hml hv
  obtain ⟨rfl, hP, hK⟩ := hv
  have hx := B.exec
  have hb := B.bytes
  have hr := B.returns
  have hts := atoms_spec (ws := wsX2_inside) B.pre
  have hown : s.vm.findClass RX2 = some m.cls := findClass_of_methodNamed B.named
  have hlocks := B.notSynchronized
  have hP : va_P D vwCl [(m0, .inr (2, [.int (nI wd), .int (nI hg), .int (nI cap), .ref aP, .ref ax, .ref ay, .int (nI n), .ref afx, .ref afy, .ref atx, .ref aty, .int fr, .int tt, .int x0, .int x1, .int y0, .int y1])), (ax, .inl (cI, 60, .inl xs)), (ay, .inl (cI, 60, .inl ys))] s.heap := hP
  have hl := lv_entry ([.ref m0, .int x, .int y]) (n := 6) (Nat.le_of_ble_eq_true rfl)
  rw [lg_entry_eq]
  generalize (lg_sl ([.ref m0, .int x, .int y]) ++ List.replicate (6 - (lg_sl ([.ref m0, .int x, .int y])).length) Slot.unset).toArray = ls at hl ⊢
  have hl : lv_has ls 6 [(0, .ref m0), (1, .int x), (2, .int y)] := hl
  have LOOP : ∀ (j k : Nat), k ≤ n → n < k + j → ∀ ls : Array Slot, lv_has ls 6 [(0, .ref m0), (1, .int x), (2, .int y), (3, .int (bI (oddB (crQ xs ys n x y) k))), (4, .int (nI k))] → W p l e ({ frames := 1, cells := 0, slots := 0, locals := 40 } : Room) s m #[.ref m0, .int x, .int y] below meth c s.heap [] 0 0 (MQ below (QcRead (bI (oddB (crQ xs ys n x y) n))) #[.ref m0, .int x, .int y] s 0 0 (fun _ => False)) (F0 m 5 ls []) := by
    intro j
    induction j with
    | zero => intro k h1 h2; omega
    | succ j ih =>
      intro k hk hkj ls hl
      refine lv_iload hx hb dX2_inside_5 (lv_at hl 4 rfl) ?_
      refine lv_aload_n hx hb dX2_inside_7 rfl (lv_at hl 0 rfl) ?_
      refine va_get (D := D) (ci := 2) (v := .int (nI n)) (C := RX2) (T := TX2) (N := 17) hx hb hts nX2_inside_X2 hown hK.1 hP 0 rfl rfl 6 (by decide) (hts (.fieldLink RX2 57 "PolygonFrameModel" "size" "I") (by decide +kernel)) (fun _ h9 => h9) rfl dX2_inside_8 ?_
      refine lv_icmp_ge (tgt := 93) hx hb dX2_inside_11 (by decide) (fun c11 => ?_) (fun c11 => ?_)
      · skip
        have hkn : k = n := Nat.le_antisymm hk ((nI_leI (by omega) (by omega)).mp c11)
        refine lv_iload_n hx hb dX2_inside_93 rfl (lv_at hl 3 rfl) ?_
        exact W.zret (v := (bI (oddB (crQ xs ys n x y) k))) hx hb hr (bI_nar _) (fun t ht _ => ⟨oI (by rw [hkn]), ht⟩) (fun _ h => absurd h List.not_mem_nil) dX2_inside_94
      · skip
        have hk2 : k < n := Nat.lt_of_not_le (fun h => c11 (nI_le h (by omega)))
        refine lv_iload hx hb dX2_inside_14 (lv_at hl 4 rfl) ?_
        refine lv_iconst (v := 1) hx hb dX2_inside_16 (by decide) ?_
        refine lv_iadd hx hb dX2_inside_17 ?_
        refine q_eq (nI_1 _) ?_
        refine lv_aload_n hx hb dX2_inside_18 rfl (lv_at hl 0 rfl) ?_
        refine va_get (D := D) (ci := 2) (v := .int (nI n)) (C := RX2) (T := TX2) (N := 17) hx hb hts nX2_inside_X2 hown hK.1 hP 0 rfl rfl 6 (by decide) (hts (.fieldLink RX2 57 "PolygonFrameModel" "size" "I") (by decide +kernel)) (fun _ h9 => h9) rfl dX2_inside_19 ?_
        refine lv_icmp_ne (tgt := 29) hx hb dX2_inside_22 (by decide) (fun c22 => ?_) (fun c22 => ?_)
        · skip
          refine lv_iload hx hb dX2_inside_29 (lv_at hl 4 rfl) ?_
          refine lv_iconst (v := 1) hx hb dX2_inside_31 (by decide) ?_
          refine lv_iadd hx hb dX2_inside_32 ?_
          refine q_eq (nI_1 _) ?_
          refine q_eq (show nI (k + 1) = nI (nxM n k) from by rw [nxM, if_neg (fun h => c22 (by rw [h]))]) ?_
          refine lv_istore (lv' := [(5, .int (nI (nxM n k))), (0, .ref m0), (1, .int x), (2, .int y), (3, .int (bI (oddB (crQ xs ys n x y) k))), (4, .int (nI k))]) hx hb dX2_inside_33 hl (by decide) rfl (fun ls hl => ?_)
          refine lv_aload_n hx hb dX2_inside_35 rfl (lv_at hl 1 rfl) ?_
          refine va_get (D := D) (ci := 2) (v := .ref ax) (C := RX2) (T := TX2) (N := 17) hx hb hts nX2_inside_X2 hown hK.1 hP 0 rfl rfl 4 (by decide) (hts (.fieldLink RX2 13 "PolygonFrameModel" "xs" "[I") (by decide +kernel)) (fun _ h9 => h9) rfl dX2_inside_36 ?_
          refine lv_iload hx hb dX2_inside_39 (lv_at hl 5 rfl) ?_
          refine q_iald (k := k) hx hb hK.1 hP 1 0 rfl rfl (by omega) (by omega) dX2_inside_41 ?_
          refine lv_i2l (v := ((xs k)).toInt64) hx hb dX2_inside_42 rfl ?_
          refine lv_aload_n hx hb dX2_inside_43 rfl (lv_at hl 1 rfl) ?_
          refine va_get (D := D) (ci := 2) (v := .ref ay) (C := RX2) (T := TX2) (N := 17) hx hb hts nX2_inside_X2 hown hK.1 hP 0 rfl rfl 5 (by decide) (hts (.fieldLink RX2 16 "PolygonFrameModel" "ys" "[I") (by decide +kernel)) (fun _ h9 => h9) rfl dX2_inside_44 ?_
          refine lv_iload hx hb dX2_inside_47 (lv_at hl 5 rfl) ?_
          refine q_iald (k := k) hx hb hK.1 hP 2 0 rfl rfl (by omega) (by omega) dX2_inside_49 ?_
          refine lv_i2l (v := ((ys k)).toInt64) hx hb dX2_inside_50 rfl ?_
          refine lv_aload_n hx hb dX2_inside_51 rfl (lv_at hl 1 rfl) ?_
          refine va_get (D := D) (ci := 2) (v := .ref ax) (C := RX2) (T := TX2) (N := 17) hx hb hts nX2_inside_X2 hown hK.1 hP 0 rfl rfl 4 (by decide) (hts (.fieldLink RX2 13 "PolygonFrameModel" "xs" "[I") (by decide +kernel)) (fun _ h9 => h9) rfl dX2_inside_52 ?_
          refine lv_iload hx hb dX2_inside_55 (lv_at hl 0 rfl) ?_
          refine q_iald (k := (nxM n k)) hx hb hK.1 hP 1 0 rfl rfl (Nat.lt_of_lt_of_le (nxM_lt hk2) hn) (by decide) dX2_inside_57 ?_
          refine lv_i2l (v := ((xs (nxM n k))).toInt64) hx hb dX2_inside_58 rfl ?_
          refine lv_aload_n hx hb dX2_inside_59 rfl (lv_at hl 1 rfl) ?_
          refine va_get (D := D) (ci := 2) (v := .ref ay) (C := RX2) (T := TX2) (N := 17) hx hb hts nX2_inside_X2 hown hK.1 hP 0 rfl rfl 5 (by decide) (hts (.fieldLink RX2 16 "PolygonFrameModel" "ys" "[I") (by decide +kernel)) (fun _ h9 => h9) rfl dX2_inside_60 ?_
          refine lv_iload hx hb dX2_inside_63 (lv_at hl 0 rfl) ?_
          refine q_iald (k := (nxM n k)) hx hb hK.1 hP 2 0 rfl rfl (Nat.lt_of_lt_of_le (nxM_lt hk2) hn) (by decide) dX2_inside_65 ?_
          refine lv_i2l (v := ((ys (nxM n k))).toInt64) hx hb dX2_inside_66 rfl ?_
          refine lv_iload_n hx hb dX2_inside_67 rfl (lv_at hl 2 rfl) ?_
          refine lv_i2l (v := (x).toInt64) hx hb dX2_inside_68 rfl ?_
          refine lv_iload_n hx hb dX2_inside_69 rfl (lv_at hl 3 rfl) ?_
          refine lv_i2l (v := (y).toInt64) hx hb dX2_inside_70 rfl ?_
          refine rd_i (va_runS (As := [.long (((xs k)).toInt64), .long (((ys k)).toInt64), .long (((xs (nxM n k))).toInt64), .long (((ys (nxM n k))).toInt64), .long ((x).toInt64), .long ((y).toInt64)]) ⟨hx, hb, hml, hown, hts⟩ (kX2_crosses l D cI cZ (((xs k)).toInt64) (((ys k)).toInt64) (((xs (nxM n k))).toInt64) (((ys (nxM n k))).toInt64) ((x).toInt64) ((y).toInt64)) (va_cwS 6 hts gX2_inside_X2_crosses rfl rfl rfl (by decide +kernel) ⟨Nat.le_of_ble_eq_true rfl, Nat.le_of_ble_eq_true rfl⟩) rd_pre0 rfl rfl hl.1 rfl (lv_room (Nat.le_of_ble_eq_true rfl)) dX2_inside_71 ⟨Nat.zero_le _, Nat.zero_le _⟩) ?_
          refine lv_if_eq (tgt := 87) hx hb dX2_inside_74 (by decide) (fun c74 => ?_) (fun c74 => ?_)
          · skip
            refine lv_iinc (v := (nI (k + 1))) (lv' := [(4, .int (nI (k + 1))), (5, .int (nI (nxM n k))), (0, .ref m0), (1, .int x), (2, .int y), (3, .int (bI (oddB (crQ xs ys n x y) k)))]) hx hb dX2_inside_87 hl (k := 5) rfl (nI_1 _) (by decide) rfl (fun ls hl => ?_)
            refine lv_goto (tgt := 5) hx hb dX2_inside_90 (by decide) ?_
            exact ih (k + 1) (by omega) (by omega) ls (by rw [odd_f (bI_eq0.mp c74)]; exact lv_sub hl [2, 3, 4, 5, 0] rfl)
          · skip
            refine lv_iload_n hx hb dX2_inside_77 rfl (lv_at hl 4 rfl) ?_
            refine lv_if_ne (tgt := 85) hx hb dX2_inside_78 (by decide) (fun c78 => ?_) (fun c78 => ?_)
            · skip
              refine lv_iconst (v := 0) hx hb dX2_inside_85 (by decide) ?_
              refine lv_istore_n (lv' := [(3, .int 0), (5, .int (nI (nxM n k))), (0, .ref m0), (1, .int x), (2, .int y), (4, .int (nI k))]) hx hb dX2_inside_86 rfl hl (by decide) rfl (fun ls hl => ?_)
              refine lv_iinc (v := (nI (k + 1))) (lv' := [(4, .int (nI (k + 1))), (3, .int 0), (5, .int (nI (nxM n k))), (0, .ref m0), (1, .int x), (2, .int y)]) hx hb dX2_inside_87 hl (k := 5) rfl (nI_1 _) (by decide) rfl (fun ls hl => ?_)
              refine lv_goto (tgt := 5) hx hb dX2_inside_90 (by decide) ?_
              exact ih (k + 1) (by omega) (by omega) ls (by rw [odd_t0 (bI_ne c74) (bI_ne c78)]; exact lv_sub hl [3, 4, 5, 1, 0] rfl)
            · skip
              refine lv_iconst (v := 1) hx hb dX2_inside_81 (by decide) ?_
              refine lv_goto (tgt := 86) hx hb dX2_inside_82 (by decide) ?_
              refine lv_istore_n (lv' := [(3, .int 1), (5, .int (nI (nxM n k))), (0, .ref m0), (1, .int x), (2, .int y), (4, .int (nI k))]) hx hb dX2_inside_86 rfl hl (by decide) rfl (fun ls hl => ?_)
              refine lv_iinc (v := (nI (k + 1))) (lv' := [(4, .int (nI (k + 1))), (3, .int 1), (5, .int (nI (nxM n k))), (0, .ref m0), (1, .int x), (2, .int y)]) hx hb dX2_inside_87 hl (k := 5) rfl (nI_1 _) (by decide) rfl (fun ls hl => ?_)
              refine lv_goto (tgt := 5) hx hb dX2_inside_90 (by decide) ?_
              exact ih (k + 1) (by omega) (by omega) ls (by rw [odd_t1 (bI_ne c74) (bI_eq0.mp c78)]; exact lv_sub hl [3, 4, 5, 1, 0] rfl)
        · skip
          refine lv_iconst (v := 0) hx hb dX2_inside_25 (by decide) ?_
          refine lv_goto (tgt := 33) hx hb dX2_inside_26 (by decide) ?_
          refine q_eq (show (0 : Int32) = nI (nxM n k) from by rw [nxM, if_pos ((nI_eq (by omega) (by omega)).mp c22)]; rfl) ?_
          refine lv_istore (lv' := [(5, .int (nI (nxM n k))), (0, .ref m0), (1, .int x), (2, .int y), (3, .int (bI (oddB (crQ xs ys n x y) k))), (4, .int (nI k))]) hx hb dX2_inside_33 hl (by decide) rfl (fun ls hl => ?_)
          refine lv_aload_n hx hb dX2_inside_35 rfl (lv_at hl 1 rfl) ?_
          refine va_get (D := D) (ci := 2) (v := .ref ax) (C := RX2) (T := TX2) (N := 17) hx hb hts nX2_inside_X2 hown hK.1 hP 0 rfl rfl 4 (by decide) (hts (.fieldLink RX2 13 "PolygonFrameModel" "xs" "[I") (by decide +kernel)) (fun _ h9 => h9) rfl dX2_inside_36 ?_
          refine lv_iload hx hb dX2_inside_39 (lv_at hl 5 rfl) ?_
          refine q_iald (k := k) hx hb hK.1 hP 1 0 rfl rfl (by omega) (by omega) dX2_inside_41 ?_
          refine lv_i2l (v := ((xs k)).toInt64) hx hb dX2_inside_42 rfl ?_
          refine lv_aload_n hx hb dX2_inside_43 rfl (lv_at hl 1 rfl) ?_
          refine va_get (D := D) (ci := 2) (v := .ref ay) (C := RX2) (T := TX2) (N := 17) hx hb hts nX2_inside_X2 hown hK.1 hP 0 rfl rfl 5 (by decide) (hts (.fieldLink RX2 16 "PolygonFrameModel" "ys" "[I") (by decide +kernel)) (fun _ h9 => h9) rfl dX2_inside_44 ?_
          refine lv_iload hx hb dX2_inside_47 (lv_at hl 5 rfl) ?_
          refine q_iald (k := k) hx hb hK.1 hP 2 0 rfl rfl (by omega) (by omega) dX2_inside_49 ?_
          refine lv_i2l (v := ((ys k)).toInt64) hx hb dX2_inside_50 rfl ?_
          refine lv_aload_n hx hb dX2_inside_51 rfl (lv_at hl 1 rfl) ?_
          refine va_get (D := D) (ci := 2) (v := .ref ax) (C := RX2) (T := TX2) (N := 17) hx hb hts nX2_inside_X2 hown hK.1 hP 0 rfl rfl 4 (by decide) (hts (.fieldLink RX2 13 "PolygonFrameModel" "xs" "[I") (by decide +kernel)) (fun _ h9 => h9) rfl dX2_inside_52 ?_
          refine lv_iload hx hb dX2_inside_55 (lv_at hl 0 rfl) ?_
          refine q_iald (k := (nxM n k)) hx hb hK.1 hP 1 0 rfl rfl (Nat.lt_of_lt_of_le (nxM_lt hk2) hn) (by decide) dX2_inside_57 ?_
          refine lv_i2l (v := ((xs (nxM n k))).toInt64) hx hb dX2_inside_58 rfl ?_
          refine lv_aload_n hx hb dX2_inside_59 rfl (lv_at hl 1 rfl) ?_
          refine va_get (D := D) (ci := 2) (v := .ref ay) (C := RX2) (T := TX2) (N := 17) hx hb hts nX2_inside_X2 hown hK.1 hP 0 rfl rfl 5 (by decide) (hts (.fieldLink RX2 16 "PolygonFrameModel" "ys" "[I") (by decide +kernel)) (fun _ h9 => h9) rfl dX2_inside_60 ?_
          refine lv_iload hx hb dX2_inside_63 (lv_at hl 0 rfl) ?_
          refine q_iald (k := (nxM n k)) hx hb hK.1 hP 2 0 rfl rfl (Nat.lt_of_lt_of_le (nxM_lt hk2) hn) (by decide) dX2_inside_65 ?_
          refine lv_i2l (v := ((ys (nxM n k))).toInt64) hx hb dX2_inside_66 rfl ?_
          refine lv_iload_n hx hb dX2_inside_67 rfl (lv_at hl 2 rfl) ?_
          refine lv_i2l (v := (x).toInt64) hx hb dX2_inside_68 rfl ?_
          refine lv_iload_n hx hb dX2_inside_69 rfl (lv_at hl 3 rfl) ?_
          refine lv_i2l (v := (y).toInt64) hx hb dX2_inside_70 rfl ?_
          refine rd_i (va_runS (As := [.long (((xs k)).toInt64), .long (((ys k)).toInt64), .long (((xs (nxM n k))).toInt64), .long (((ys (nxM n k))).toInt64), .long ((x).toInt64), .long ((y).toInt64)]) ⟨hx, hb, hml, hown, hts⟩ (kX2_crosses l D cI cZ (((xs k)).toInt64) (((ys k)).toInt64) (((xs (nxM n k))).toInt64) (((ys (nxM n k))).toInt64) ((x).toInt64) ((y).toInt64)) (va_cwS 6 hts gX2_inside_X2_crosses rfl rfl rfl (by decide +kernel) ⟨Nat.le_of_ble_eq_true rfl, Nat.le_of_ble_eq_true rfl⟩) rd_pre0 rfl rfl hl.1 rfl (lv_room (Nat.le_of_ble_eq_true rfl)) dX2_inside_71 ⟨Nat.zero_le _, Nat.zero_le _⟩) ?_
          refine lv_if_eq (tgt := 87) hx hb dX2_inside_74 (by decide) (fun c74 => ?_) (fun c74 => ?_)
          · skip
            refine lv_iinc (v := (nI (k + 1))) (lv' := [(4, .int (nI (k + 1))), (5, .int (nI (nxM n k))), (0, .ref m0), (1, .int x), (2, .int y), (3, .int (bI (oddB (crQ xs ys n x y) k)))]) hx hb dX2_inside_87 hl (k := 5) rfl (nI_1 _) (by decide) rfl (fun ls hl => ?_)
            refine lv_goto (tgt := 5) hx hb dX2_inside_90 (by decide) ?_
            exact ih (k + 1) (by omega) (by omega) ls (by rw [odd_f (bI_eq0.mp c74)]; exact lv_sub hl [2, 3, 4, 5, 0] rfl)
          · skip
            refine lv_iload_n hx hb dX2_inside_77 rfl (lv_at hl 4 rfl) ?_
            refine lv_if_ne (tgt := 85) hx hb dX2_inside_78 (by decide) (fun c78 => ?_) (fun c78 => ?_)
            · skip
              refine lv_iconst (v := 0) hx hb dX2_inside_85 (by decide) ?_
              refine lv_istore_n (lv' := [(3, .int 0), (5, .int (nI (nxM n k))), (0, .ref m0), (1, .int x), (2, .int y), (4, .int (nI k))]) hx hb dX2_inside_86 rfl hl (by decide) rfl (fun ls hl => ?_)
              refine lv_iinc (v := (nI (k + 1))) (lv' := [(4, .int (nI (k + 1))), (3, .int 0), (5, .int (nI (nxM n k))), (0, .ref m0), (1, .int x), (2, .int y)]) hx hb dX2_inside_87 hl (k := 5) rfl (nI_1 _) (by decide) rfl (fun ls hl => ?_)
              refine lv_goto (tgt := 5) hx hb dX2_inside_90 (by decide) ?_
              exact ih (k + 1) (by omega) (by omega) ls (by rw [odd_t0 (bI_ne c74) (bI_ne c78)]; exact lv_sub hl [3, 4, 5, 1, 0] rfl)
            · skip
              refine lv_iconst (v := 1) hx hb dX2_inside_81 (by decide) ?_
              refine lv_goto (tgt := 86) hx hb dX2_inside_82 (by decide) ?_
              refine lv_istore_n (lv' := [(3, .int 1), (5, .int (nI (nxM n k))), (0, .ref m0), (1, .int x), (2, .int y), (4, .int (nI k))]) hx hb dX2_inside_86 rfl hl (by decide) rfl (fun ls hl => ?_)
              refine lv_iinc (v := (nI (k + 1))) (lv' := [(4, .int (nI (k + 1))), (3, .int 1), (5, .int (nI (nxM n k))), (0, .ref m0), (1, .int x), (2, .int y)]) hx hb dX2_inside_87 hl (k := 5) rfl (nI_1 _) (by decide) rfl (fun ls hl => ?_)
              refine lv_goto (tgt := 5) hx hb dX2_inside_90 (by decide) ?_
              exact ih (k + 1) (by omega) (by omega) ls (by rw [odd_t1 (bI_ne c74) (bI_eq0.mp c78)]; exact lv_sub hl [3, 4, 5, 1, 0] rfl)
  refine lv_iconst (v := 0) hx hb dX2_inside_0 (by decide) ?_
  refine lv_istore_n (lv' := [(3, .int 0), (0, .ref m0), (1, .int x), (2, .int y)]) hx hb dX2_inside_1 rfl hl (by decide) rfl (fun ls hl => ?_)
  refine lv_iconst (v := 0) hx hb dX2_inside_2 (by decide) ?_
  refine lv_istore (lv' := [(4, .int 0), (3, .int 0), (0, .ref m0), (1, .int x), (2, .int y)]) hx hb dX2_inside_3 hl (by decide) rfl (fun ls hl => ?_)
  exact LOOP (n + 1) 0 (Nat.zero_le _) (by omega) ls (lv_sub hl [2, 3, 4, 1, 0] rfl)
theorem nX2_pixel_X2 : ∀ w ∈ wsX20, w ∈ wsX2_pixel := fun w h => List.mem_cons_of_mem _ (List.mem_append_right _ h)
set_option maxHeartbeats 4000000 in
set_option maxRecDepth 100000 in
theorem kX2_pixel (l : Launch) (D : va_G) (cI cZ : ClassId) (m0 aP ax ay afx afy atx aty wd hg cap n : Nat) (fr tt x0 x1 y0 y1 : Int32) (col : Nat → Int32) (x y : Int32) (hw : wd ≤ 24) (hh : hg ≤ 24) : Met l yX2_pixel wsX2_pixel ({ frames := 0, cells := 0, slots := 0, locals := 0 }) (va_Pc [.ref m0, .int x, .int y] (rdP D cI cZ [(m0, .inr (2, [.int (nI wd), .int (nI hg), .int (nI cap), .ref aP, .ref ax, .ref ay, .int (nI n), .ref afx, .ref afy, .ref atx, .ref aty, .int fr, .int tt, .int x0, .int x1, .int y0, .int y1])), (aP, .inl (cI, 576, .inl col))])) (QcRead (pxI col (nI wd) (nI hg) x y (fun i j => 24 * j + i))) 0 0 (fun _ => False) := by
  refine Met.ofW (cc := cX2_pixel) (maxL := 3) (ret := (some .int)) (by decide) rfl ?_
  intro p e s m args below meth c s₁ B hml hv
  obtain ⟨rfl, hP, hK⟩ := hv
  have hx := B.exec
  have hb := B.bytes
  have hr := B.returns
  have hts := atoms_spec (ws := wsX2_pixel) B.pre
  have hown : s.vm.findClass RX2 = some m.cls := findClass_of_methodNamed B.named
  have hlocks := B.notSynchronized
  have hP : va_P D vwCl [(m0, .inr (2, [.int (nI wd), .int (nI hg), .int (nI cap), .ref aP, .ref ax, .ref ay, .int (nI n), .ref afx, .ref afy, .ref atx, .ref aty, .int fr, .int tt, .int x0, .int x1, .int y0, .int y1])), (aP, .inl (cI, 576, .inl col))] s.heap := hP
  have hl := lv_entry ([.ref m0, .int x, .int y]) (n := 3) (Nat.le_of_ble_eq_true rfl)
  rw [lg_entry_eq]
  generalize (lg_sl ([.ref m0, .int x, .int y]) ++ List.replicate (3 - (lg_sl ([.ref m0, .int x, .int y])).length) Slot.unset).toArray = ls at hl ⊢
  have hl : lv_has ls 3 [(0, .ref m0), (1, .int x), (2, .int y)] := hl
  refine lv_iload_n hx hb dX2_pixel_0 rfl (lv_at hl 1 rfl) ?_
  refine lv_if_lt (tgt := 38) hx hb dX2_pixel_1 (by decide) (fun c1 => ?_) (fun c1 => ?_)
  · skip
    refine lv_iconst (v := (-1)) hx hb dX2_pixel_38 (by decide) ?_
    exact W.iret (v := (-1)) hx hb hr (fun t ht _ => ⟨oI (by rw [pxI, if_neg (fun h => h.1 c1)]), ht⟩) (fun _ h => absurd h List.not_mem_nil) dX2_pixel_39
  · skip
    refine lv_iload_n hx hb dX2_pixel_4 rfl (lv_at hl 1 rfl) ?_
    refine lv_aload_n hx hb dX2_pixel_5 rfl (lv_at hl 0 rfl) ?_
    refine va_get (D := D) (ci := 2) (v := .int (nI wd)) (C := RX2) (T := TX2) (N := 17) hx hb hts nX2_pixel_X2 hown hK.1 hP 0 rfl rfl 0 (by decide) (hts (.fieldLink RX2 48 "PolygonFrameModel" "wide" "I") (by decide +kernel)) (fun _ h9 => h9) rfl dX2_pixel_6 ?_
    refine lv_icmp_ge (tgt := 38) hx hb dX2_pixel_9 (by decide) (fun c9 => ?_) (fun c9 => ?_)
    · skip
      refine lv_iconst (v := (-1)) hx hb dX2_pixel_38 (by decide) ?_
      exact W.iret (v := (-1)) hx hb hr (fun t ht _ => ⟨oI (by rw [pxI, if_neg (fun h => h.2.1 c9)]), ht⟩) (fun _ h => absurd h List.not_mem_nil) dX2_pixel_39
    · skip
      refine lv_iload_n hx hb dX2_pixel_12 rfl (lv_at hl 2 rfl) ?_
      refine lv_if_lt (tgt := 38) hx hb dX2_pixel_13 (by decide) (fun c13 => ?_) (fun c13 => ?_)
      · skip
        refine lv_iconst (v := (-1)) hx hb dX2_pixel_38 (by decide) ?_
        exact W.iret (v := (-1)) hx hb hr (fun t ht _ => ⟨oI (by rw [pxI, if_neg (fun h => h.2.2.1 c13)]), ht⟩) (fun _ h => absurd h List.not_mem_nil) dX2_pixel_39
      · skip
        refine lv_iload_n hx hb dX2_pixel_16 rfl (lv_at hl 2 rfl) ?_
        refine lv_aload_n hx hb dX2_pixel_17 rfl (lv_at hl 0 rfl) ?_
        refine va_get (D := D) (ci := 2) (v := .int (nI hg)) (C := RX2) (T := TX2) (N := 17) hx hb hts nX2_pixel_X2 hown hK.1 hP 0 rfl rfl 1 (by decide) (hts (.fieldLink RX2 51 "PolygonFrameModel" "high" "I") (by decide +kernel)) (fun _ h9 => h9) rfl dX2_pixel_18 ?_
        refine lv_icmp_ge (tgt := 38) hx hb dX2_pixel_21 (by decide) (fun c21 => ?_) (fun c21 => ?_)
        · skip
          refine lv_iconst (v := (-1)) hx hb dX2_pixel_38 (by decide) ?_
          exact W.iret (v := (-1)) hx hb hr (fun t ht _ => ⟨oI (by rw [pxI, if_neg (fun h => h.2.2.2 c21)]), ht⟩) (fun _ h => absurd h List.not_mem_nil) dX2_pixel_39
        · skip
          obtain ⟨i, hi, rfl⟩ := ge_ix (by omega) c1 c9
          obtain ⟨j, hj, rfl⟩ := ge_ix (by omega) c13 c21
          refine lv_aload_n hx hb dX2_pixel_24 rfl (lv_at hl 0 rfl) ?_
          refine va_get (D := D) (ci := 2) (v := .ref aP) (C := RX2) (T := TX2) (N := 17) hx hb hts nX2_pixel_X2 hown hK.1 hP 0 rfl rfl 3 (by decide) (hts (.fieldLink RX2 7 "PolygonFrameModel" "pixels" "[I") (by decide +kernel)) (fun _ h9 => h9) rfl dX2_pixel_25 ?_
          refine lv_bipush (v := 24) hx hb dX2_pixel_28 (by decide) ?_
          refine lv_iload_n hx hb dX2_pixel_30 rfl (lv_at hl 2 rfl) ?_
          refine lv_imul hx hb dX2_pixel_31 ?_
          refine lv_iload_n hx hb dX2_pixel_32 rfl (lv_at hl 1 rfl) ?_
          refine lv_iadd hx hb dX2_pixel_33 ?_
          refine q_eq (show 24 * nI j + nI i = nI (24 * j + i) by rw [← nI_add, ← pk_mul]; rfl) ?_
          refine q_iald (k := (24 * j + i)) hx hb hK.1 hP 1 0 rfl rfl (by omega) (by omega) dX2_pixel_34 ?_
          refine lv_goto (tgt := 39) hx hb dX2_pixel_35 (by decide) ?_
          exact W.iret (v := (col (24 * j + i))) hx hb hr (fun t ht _ => ⟨oI (by rw [pxI, if_pos ⟨c1, c9, c13, c21⟩, nI_clamp (by omega), nI_clamp (by omega)]), ht⟩) (fun _ h => absurd h List.not_mem_nil) dX2_pixel_39
