/-! WRITERS: a ring's append; begin, vertex, setClip, clear on both sides; add and cut of the reference. -/
theorem nX0_append_X0 : ∀ w ∈ wsX00, w ∈ wsX0_append := fun w h => List.mem_cons_of_mem _ (List.mem_append_right _ h)
set_option maxHeartbeats 4000000 in
set_option maxRecDepth 100000 in
theorem kX0_append (l : Launch) (D : va_G) (cI cZ : ClassId) (sz : Nat) (r0 ax ay n cap : Nat) (xs ys : Nat → Int32) (x y : Int32) (hn : n ≤ cap) (hc : cap ≤ 60) : Met l yX0_append wsX0_append ({ frames := 0, cells := 0, slots := 0, locals := 0 }) (va_Pc [.ref r0, .int x, .int y] (wrP D cI cZ sz [(r0, .inr (0, [.ref ax, .ref ay, .int (nI n)])), (ax, .inl (cI, cap, .inl xs)), (ay, .inl (cI, cap, .inl ys))])) (va_Qi (S := Nat × (Nat → Int32) × (Nat → Int32)) (fun r u => (n < cap ∧ r = 1 ∧ u = (n + 1, upd xs n x, upd ys n y)) ∨ (cap ≤ n ∧ r = 0 ∧ u = (n, xs, ys))) (wrB D [(r0, .inr (0, [.ref ax, .ref ay, .int (nI n)])), (ax, .inl (cI, cap, .inl xs)), (ay, .inl (cI, cap, .inl ys))] sz (fun u => [(r0, .inr (0, [.ref ax, .ref ay, .int (nI u.1)])), (ax, .inl (cI, cap, .inl u.2.1)), (ay, .inl (cI, cap, .inl u.2.2))])) (va_A [(r0, .inr (0, [.ref ax, .ref ay, .int (nI n)])), (ax, .inl (cI, cap, .inl xs)), (ay, .inl (cI, cap, .inl ys))] sz)) 0 0 (va_A [(r0, .inr (0, [.ref ax, .ref ay, .int (nI n)])), (ax, .inl (cI, cap, .inl xs)), (ay, .inl (cI, cap, .inl ys))] sz) := by
  refine Met.ofW (cc := cX0_append) (maxL := 3) (ret := (some .boolean)) (by decide) rfl ?_
  intro p e s m args below meth c s₁ B hml hv
  obtain ⟨rfl, hsz, hP, hK, hD0⟩ := hv
  have hx := B.exec
  have hb := B.bytes
  have hr := B.returns
  have hts := atoms_spec (ws := wsX0_append) B.pre
  have hown : s.vm.findClass RX0 = some m.cls := findClass_of_methodNamed B.named
  have hlocks := B.notSynchronized
  subst hsz
  have hD := hD0.self (sz := s.heap.size)
  generalize hAe : va_A [(r0, .inr (0, [.ref ax, .ref ay, .int (nI n)])), (ax, .inl (cI, cap, .inl xs)), (ay, .inl (cI, cap, .inl ys))] s.heap.size = A at hD ⊢
  have hA : ∀ q : Nat, s.heap.size ≤ q → A q := fun q h => by rw [← hAe]; exact Or.inr h
  have hS : va_S A s.heap s.heap [] := va_S.rf
  have hP : va_P D vwCl [(r0, .inr (0, [.ref ax, .ref ay, .int (nI n)])), (ax, .inl (cI, cap, .inl xs)), (ay, .inl (cI, cap, .inl ys))] s.heap := hP
  have hl := lv_entry ([.ref r0, .int x, .int y]) (n := 3) (Nat.le_of_ble_eq_true rfl)
  rw [lg_entry_eq]
  generalize (lg_sl ([.ref r0, .int x, .int y]) ++ List.replicate (3 - (lg_sl ([.ref r0, .int x, .int y])).length) Slot.unset).toArray = ls at hl ⊢
  have hl : lv_has ls 3 [(0, .ref r0), (1, .int x), (2, .int y)] := hl
  refine lv_aload_n hx hb dX0_append_0 rfl (lv_at hl 0 rfl) ?_
  refine va_get (D := D) (ci := 0) (v := .int (nI n)) (C := RX0) (T := TX0) (N := 3) hx hb hts nX0_append_X0 hown hK.1 hP 0 rfl rfl 2 (by decide) (hts (.fieldLink RX0 16 "PolygonFrame$Ring" "count" "I") (by decide +kernel)) (fun _ h9 => h9) rfl dX0_append_1 ?_
  refine lv_aload_n hx hb dX0_append_4 rfl (lv_at hl 0 rfl) ?_
  refine va_get (D := D) (ci := 0) (v := .ref ax) (C := RX0) (T := TX0) (N := 3) hx hb hts nX0_append_X0 hown hK.1 hP 0 rfl rfl 0 (by decide) (hts (.fieldLink RX0 7 "PolygonFrame$Ring" "xs" "[I") (by decide +kernel)) (fun _ h9 => h9) rfl dX0_append_5 ?_
  refine va_alen (v := (nI cap)) hx hb hK.1 hP 1 0 rfl rfl rfl dX0_append_8 ?_
  refine lv_icmp_lt (tgt := 14) hx hb dX0_append_9 (by decide) (fun c9 => ?_) (fun c9 => ?_)
  · skip
    have hlt : n < cap := (nI_ltI (by omega) (by omega)).mp c9
    refine lv_aload_n hx hb dX0_append_14 rfl (lv_at hl 0 rfl) ?_
    refine va_get (D := D) (ci := 0) (v := .ref ax) (C := RX0) (T := TX0) (N := 3) hx hb hts nX0_append_X0 hown hK.1 hP 0 rfl rfl 0 (by decide) (hts (.fieldLink RX0 7 "PolygonFrame$Ring" "xs" "[I") (by decide +kernel)) (fun _ h9 => h9) rfl dX0_append_15 ?_
    refine lv_aload_n hx hb dX0_append_18 rfl (lv_at hl 0 rfl) ?_
    refine va_get (D := D) (ci := 0) (v := .int (nI n)) (C := RX0) (T := TX0) (N := 3) hx hb hts nX0_append_X0 hown hK.1 hP 0 rfl rfl 2 (by decide) (hts (.fieldLink RX0 16 "PolygonFrame$Ring" "count" "I") (by decide +kernel)) (fun _ h9 => h9) rfl dX0_append_19 ?_
    refine lv_iload_n hx hb dX0_append_22 rfl (lv_at hl 1 rfl) ?_
    refine q_iast (k := n) hx hb hK.1 hP hD hS 1 0 rfl rfl (by omega) (by omega) dX0_append_23 (fun H locs hP hD hS => ?_)
    have hP : va_P D vwCl [(r0, .inr (0, [.ref ax, .ref ay, .int (nI n)])), (ax, .inl (cI, cap, .inl (upd xs n x))), (ay, .inl (cI, cap, .inl ys))] H := hP
    have hD : va_D A [(r0, .inr (0, [.ref ax, .ref ay, .int (nI n)])), (ax, .inl (cI, cap, .inl (upd xs n x))), (ay, .inl (cI, cap, .inl ys))] := hD
    refine lv_aload_n hx hb dX0_append_24 rfl (lv_at hl 0 rfl) ?_
    refine va_get (D := D) (ci := 0) (v := .ref ay) (C := RX0) (T := TX0) (N := 3) hx hb hts nX0_append_X0 hown hK.1 hP 0 rfl rfl 1 (by decide) (hts (.fieldLink RX0 13 "PolygonFrame$Ring" "ys" "[I") (by decide +kernel)) (fun _ h9 => h9) rfl dX0_append_25 ?_
    refine lv_aload_n hx hb dX0_append_28 rfl (lv_at hl 0 rfl) ?_
    refine va_get (D := D) (ci := 0) (v := .int (nI n)) (C := RX0) (T := TX0) (N := 3) hx hb hts nX0_append_X0 hown hK.1 hP 0 rfl rfl 2 (by decide) (hts (.fieldLink RX0 16 "PolygonFrame$Ring" "count" "I") (by decide +kernel)) (fun _ h9 => h9) rfl dX0_append_29 ?_
    refine lv_iload_n hx hb dX0_append_32 rfl (lv_at hl 2 rfl) ?_
    refine q_iast (k := n) hx hb hK.1 hP hD hS 2 0 rfl rfl (by omega) (by omega) dX0_append_33 (fun H locs hP hD hS => ?_)
    have hP : va_P D vwCl [(r0, .inr (0, [.ref ax, .ref ay, .int (nI n)])), (ax, .inl (cI, cap, .inl (upd xs n x))), (ay, .inl (cI, cap, .inl (upd ys n y)))] H := hP
    have hD : va_D A [(r0, .inr (0, [.ref ax, .ref ay, .int (nI n)])), (ax, .inl (cI, cap, .inl (upd xs n x))), (ay, .inl (cI, cap, .inl (upd ys n y)))] := hD
    refine lv_aload_n hx hb dX0_append_34 rfl (lv_at hl 0 rfl) ?_
    refine lv_dup hx hb dX0_append_35 rfl ?_
    refine va_get (D := D) (ci := 0) (v := .int (nI n)) (C := RX0) (T := TX0) (N := 3) hx hb hts nX0_append_X0 hown hK.1 hP 0 rfl rfl 2 (by decide) (hts (.fieldLink RX0 16 "PolygonFrame$Ring" "count" "I") (by decide +kernel)) (fun _ h9 => h9) rfl dX0_append_36 ?_
    refine lv_iconst (v := 1) hx hb dX0_append_39 (by decide) ?_
    refine lv_iadd hx hb dX0_append_40 ?_
    refine q_eq (nI_1 _) ?_
    refine va_put (D := D) (ci := 0) (v := .int (nI (n + 1))) (ty := .int) (C := RX0) (T := TX0) (N := 3) hx hb hts nX0_append_X0 tyX0 tyX0_ok nmX0 hown hK.1 hP hD hS 0 rfl rfl 2 (by decide) (hts (.fieldLink RX0 16 "PolygonFrame$Ring" "count" "I") (by decide +kernel)) (fun _ h9 => h9) rfl (tyX0_ok 2 (by decide)) rfl rfl (Nat.le_of_ble_eq_true rfl) dX0_append_41 (fun H locs hP hD hS => ?_)
    have hP : va_P D vwCl [(r0, .inr (0, [.ref ax, .ref ay, .int (nI (n + 1))])), (ax, .inl (cI, cap, .inl (upd xs n x))), (ay, .inl (cI, cap, .inl (upd ys n y)))] H := hP
    have hD : va_D A [(r0, .inr (0, [.ref ax, .ref ay, .int (nI (n + 1))])), (ax, .inl (cI, cap, .inl (upd xs n x))), (ay, .inl (cI, cap, .inl (upd ys n y)))] := hD
    refine lv_iconst (v := 1) hx hb dX0_append_44 (by decide) ?_
    exact W.zret (v := 1) hx hb hr rfl (fun t ht hW => ⟨⟨1, (n + 1, upd xs n x, upd ys n y), rfl, Or.inl ⟨hlt, rfl, rfl⟩, by rw [ht]; exact hP, by rw [hAe]; exact hD⟩, hS.F ht⟩) hS.2.2 dX0_append_45
  · skip
    refine lv_iconst (v := 0) hx hb dX0_append_12 (by decide) ?_
    exact W.zret (v := 0) hx hb hr rfl (fun t ht hW => ⟨⟨0, (n, xs, ys), rfl, Or.inr ⟨Nat.le_of_not_lt (fun h => c9 (nI_lt h (by omega))), rfl, rfl⟩, by rw [ht]; exact hP, by rw [hAe]; exact hD⟩, hS.F ht⟩) hS.2.2 dX0_append_13
theorem nX1_begin_X1 : ∀ w ∈ wsX10, w ∈ wsX1_begin := fun w h => List.mem_cons_of_mem _ (List.mem_append_left _ (List.mem_append_right _ h))
theorem nX1_begin_X0 : ∀ w ∈ wsX00, w ∈ wsX1_begin := fun w h => List.mem_cons_of_mem _ (List.mem_append_right _ h)
set_option maxHeartbeats 4000000 in
set_option maxRecDepth 100000 in
theorem kX1_begin (l : Launch) (D : va_G) (cI cZ : ClassId) (sz : Nat) (p0 aC aT aS r0 rO rE wd hg : Nat) (ax ay n : Nat)  : Met l yX1_begin wsX1_begin ({ frames := 0, cells := 0, slots := 0, locals := 0 }) (va_Pc [.ref p0] (wrP D cI cZ sz [(p0, .inr (1, [.int (nI wd), .int (nI hg), .ref aC, .ref aT, .ref aS, .ref r0, .ref rO, .ref rE])), (r0, .inr (0, [.ref ax, .ref ay, .int (nI n)]))])) (va_Qv (S := Unit) (fun _ => True) (wrB D [(p0, .inr (1, [.int (nI wd), .int (nI hg), .ref aC, .ref aT, .ref aS, .ref r0, .ref rO, .ref rE])), (r0, .inr (0, [.ref ax, .ref ay, .int (nI n)]))] sz (fun _ => [(p0, .inr (1, [.int (nI wd), .int (nI hg), .ref aC, .ref aT, .ref aS, .ref r0, .ref rO, .ref rE])), (r0, .inr (0, [.ref ax, .ref ay, .int (nI 0)]))])) (va_A [(p0, .inr (1, [.int (nI wd), .int (nI hg), .ref aC, .ref aT, .ref aS, .ref r0, .ref rO, .ref rE])), (r0, .inr (0, [.ref ax, .ref ay, .int (nI n)]))] sz)) 0 0 (va_A [(p0, .inr (1, [.int (nI wd), .int (nI hg), .ref aC, .ref aT, .ref aS, .ref r0, .ref rO, .ref rE])), (r0, .inr (0, [.ref ax, .ref ay, .int (nI n)]))] sz) := by
  refine Met.ofW (cc := cX1_begin) (maxL := 1) (ret := none) (by decide) rfl ?_
  intro p e s m args below meth c s₁ B hml hv
  obtain ⟨rfl, hsz, hP, hK, hD0⟩ := hv
  have hx := B.exec
  have hb := B.bytes
  have hr := B.returns
  have hts := atoms_spec (ws := wsX1_begin) B.pre
  have hown : s.vm.findClass RX1 = some m.cls := findClass_of_methodNamed B.named
  have hlocks := B.notSynchronized
  subst hsz
  have hD := hD0.self (sz := s.heap.size)
  generalize hAe : va_A [(p0, .inr (1, [.int (nI wd), .int (nI hg), .ref aC, .ref aT, .ref aS, .ref r0, .ref rO, .ref rE])), (r0, .inr (0, [.ref ax, .ref ay, .int (nI n)]))] s.heap.size = A at hD ⊢
  have hA : ∀ q : Nat, s.heap.size ≤ q → A q := fun q h => by rw [← hAe]; exact Or.inr h
  have hS : va_S A s.heap s.heap [] := va_S.rf
  have hP : va_P D vwCl [(p0, .inr (1, [.int (nI wd), .int (nI hg), .ref aC, .ref aT, .ref aS, .ref r0, .ref rO, .ref rE])), (r0, .inr (0, [.ref ax, .ref ay, .int (nI n)]))] s.heap := hP
  have hl := lv_entry ([.ref p0]) (n := 1) (Nat.le_of_ble_eq_true rfl)
  rw [lg_entry_eq]
  generalize (lg_sl ([.ref p0]) ++ List.replicate (1 - (lg_sl ([.ref p0])).length) Slot.unset).toArray = ls at hl ⊢
  have hl : lv_has ls 1 [(0, .ref p0)] := hl
  refine lv_aload_n hx hb dX1_begin_0 rfl (lv_at hl 0 rfl) ?_
  refine va_get (D := D) (ci := 1) (v := .ref r0) (C := RX1) (T := TX1) (N := 8) hx hb hts nX1_begin_X1 hown hK.1 hP 0 rfl rfl 5 (by decide) (hts (.fieldLink RX1 36 "PolygonFrame" "polygon" "LPolygonFrame$Ring;") (by decide +kernel)) (fun _ h9 => h9) rfl dX1_begin_1 ?_
  refine lv_iconst (v := 0) hx hb dX1_begin_4 (by decide) ?_
  refine va_putN (D := D) (ci := 0) (v := .int 0) (ty := .int) (C := RX0) (T := TX0) (N := 3) hx hb hts nX1_begin_X0 tyX0 tyX0_ok nmX0 hown hK.1 hP hD hS 1 rfl rfl 2 (by decide) (hK.2.count _) (fun _ h9 => h9) rfl (tyX0_ok 2 (by decide)) rfl rfl (Nat.le_of_ble_eq_true rfl) dX1_begin_5 (fun H locs hP hD hS => ?_)
  have hP : va_P D vwCl [(p0, .inr (1, [.int (nI wd), .int (nI hg), .ref aC, .ref aT, .ref aS, .ref r0, .ref rO, .ref rE])), (r0, .inr (0, [.ref ax, .ref ay, .int 0]))] H := hP
  have hD : va_D A [(p0, .inr (1, [.int (nI wd), .int (nI hg), .ref aC, .ref aT, .ref aS, .ref r0, .ref rO, .ref rE])), (r0, .inr (0, [.ref ax, .ref ay, .int 0]))] := hD
  exact W.vret hx hb hr (fun t ht hW => ⟨⟨(), rfl, trivial, by rw [ht]; exact hP, by rw [hAe]; exact hD⟩, hS.F ht⟩) hS.2.2 dX1_begin_8
theorem nX1_vertex_X1 : ∀ w ∈ wsX10, w ∈ wsX1_vertex := fun w h => List.mem_cons_of_mem _ (List.mem_append_left _ (List.mem_append_right _ h))
theorem nX1_vertex_X0 : ∀ w ∈ wsX00, w ∈ wsX1_vertex := fun w h => List.mem_cons_of_mem _ (List.mem_append_right _ h)
set_option maxHeartbeats 4000000 in
set_option maxRecDepth 100000 in
theorem kX1_vertex (l : Launch) (D : va_G) (cI cZ : ClassId) (sz : Nat) (p0 aC aT aS r0 rO rE wd hg : Nat) (ax ay n cap : Nat) (xs ys : Nat → Int32) (x y : Int32) (hn : n ≤ cap) (hc : cap ≤ 60) : Met l yX1_vertex wsX1_vertex ({ frames := 1, cells := 0, slots := 0, locals := 40 }) (va_Pc [.ref p0, .int x, .int y] (wrP D cI cZ sz [(p0, .inr (1, [.int (nI wd), .int (nI hg), .ref aC, .ref aT, .ref aS, .ref r0, .ref rO, .ref rE])), (r0, .inr (0, [.ref ax, .ref ay, .int (nI n)])), (ax, .inl (cI, cap, .inl xs)), (ay, .inl (cI, cap, .inl ys))])) (va_Qi (S := Nat × (Nat → Int32) × (Nat → Int32)) (fun r u => ((coB x = true ∧ coB y = true ∧ n < cap) ∧ r = 1 ∧ u = (n + 1, upd xs n x, upd ys n y)) ∨ (¬ (coB x = true ∧ coB y = true ∧ n < cap) ∧ r = 0 ∧ u = (n, xs, ys))) (wrB D [(p0, .inr (1, [.int (nI wd), .int (nI hg), .ref aC, .ref aT, .ref aS, .ref r0, .ref rO, .ref rE])), (r0, .inr (0, [.ref ax, .ref ay, .int (nI n)])), (ax, .inl (cI, cap, .inl xs)), (ay, .inl (cI, cap, .inl ys))] sz (fun u => [(p0, .inr (1, [.int (nI wd), .int (nI hg), .ref aC, .ref aT, .ref aS, .ref r0, .ref rO, .ref rE])), (r0, .inr (0, [.ref ax, .ref ay, .int (nI u.1)])), (ax, .inl (cI, cap, .inl u.2.1)), (ay, .inl (cI, cap, .inl u.2.2))])) (va_A [(p0, .inr (1, [.int (nI wd), .int (nI hg), .ref aC, .ref aT, .ref aS, .ref r0, .ref rO, .ref rE])), (r0, .inr (0, [.ref ax, .ref ay, .int (nI n)])), (ax, .inl (cI, cap, .inl xs)), (ay, .inl (cI, cap, .inl ys))] sz)) 0 0 (va_A [(p0, .inr (1, [.int (nI wd), .int (nI hg), .ref aC, .ref aT, .ref aS, .ref r0, .ref rO, .ref rE])), (r0, .inr (0, [.ref ax, .ref ay, .int (nI n)])), (ax, .inl (cI, cap, .inl xs)), (ay, .inl (cI, cap, .inl ys))] sz) := by
  refine Met.ofW (cc := cX1_vertex) (maxL := 3) (ret := (some .boolean)) (by decide) rfl ?_
  intro p e s m args below meth c s₁ B hml hv
  obtain ⟨rfl, hsz, hP, hK, hD0⟩ := hv
  have hx := B.exec
  have hb := B.bytes
  have hr := B.returns
  have hts := atoms_spec (ws := wsX1_vertex) B.pre
  have hown : s.vm.findClass RX1 = some m.cls := findClass_of_methodNamed B.named
  have hlocks := B.notSynchronized
  subst hsz
  have hD := hD0.self (sz := s.heap.size)
  generalize hAe : va_A [(p0, .inr (1, [.int (nI wd), .int (nI hg), .ref aC, .ref aT, .ref aS, .ref r0, .ref rO, .ref rE])), (r0, .inr (0, [.ref ax, .ref ay, .int (nI n)])), (ax, .inl (cI, cap, .inl xs)), (ay, .inl (cI, cap, .inl ys))] s.heap.size = A at hD ⊢
  have hA : ∀ q : Nat, s.heap.size ≤ q → A q := fun q h => by rw [← hAe]; exact Or.inr h
  have hS : va_S A s.heap s.heap [] := va_S.rf
  have hP : va_P D vwCl [(p0, .inr (1, [.int (nI wd), .int (nI hg), .ref aC, .ref aT, .ref aS, .ref r0, .ref rO, .ref rE])), (r0, .inr (0, [.ref ax, .ref ay, .int (nI n)])), (ax, .inl (cI, cap, .inl xs)), (ay, .inl (cI, cap, .inl ys))] s.heap := hP
  have hl := lv_entry ([.ref p0, .int x, .int y]) (n := 3) (Nat.le_of_ble_eq_true rfl)
  rw [lg_entry_eq]
  generalize (lg_sl ([.ref p0, .int x, .int y]) ++ List.replicate (3 - (lg_sl ([.ref p0, .int x, .int y])).length) Slot.unset).toArray = ls at hl ⊢
  have hl : lv_has ls 3 [(0, .ref p0), (1, .int x), (2, .int y)] := hl
  refine lv_iload_n hx hb dX1_vertex_0 rfl (lv_at hl 1 rfl) ?_
  refine rd_i (va_runS (As := [.int x]) ⟨hx, hb, hml, hown, hts⟩ (kX1_isCoordinate l D cI cZ x) (va_cwS 1 hts gX1_vertex_X1_isCoordinate rfl rfl rfl (by decide +kernel) ⟨Nat.le_of_ble_eq_true rfl, Nat.le_of_ble_eq_true rfl⟩) rd_pre0 rfl rfl hl.1 rfl (lv_room (Nat.le_of_ble_eq_true rfl)) dX1_vertex_1 ⟨Nat.zero_le _, Nat.zero_le _⟩) ?_
  refine lv_if_eq (tgt := 30) hx hb dX1_vertex_4 (by decide) (fun c4 => ?_) (fun c4 => ?_)
  · skip
    refine lv_iconst (v := 0) hx hb dX1_vertex_30 (by decide) ?_
    exact W.zret (v := 0) hx hb hr rfl (fun t ht hW => ⟨⟨0, (n, xs, ys), rfl, Or.inr ⟨fun h => by rw [bI_eq0.mp c4] at h; exact absurd h.1 (by decide), rfl, rfl⟩, by rw [ht]; exact hP, by rw [hAe]; exact hD⟩, hS.F ht⟩) hS.2.2 dX1_vertex_31
  · skip
    refine lv_iload_n hx hb dX1_vertex_7 rfl (lv_at hl 2 rfl) ?_
    refine rd_i (va_runS (As := [.int y]) ⟨hx, hb, hml, hown, hts⟩ (kX1_isCoordinate l D cI cZ y) (va_cwS 1 hts gX1_vertex_X1_isCoordinate rfl rfl rfl (by decide +kernel) ⟨Nat.le_of_ble_eq_true rfl, Nat.le_of_ble_eq_true rfl⟩) rd_pre0 rfl rfl hl.1 rfl (lv_room (Nat.le_of_ble_eq_true rfl)) dX1_vertex_8 ⟨Nat.zero_le _, Nat.zero_le _⟩) ?_
    refine lv_if_eq (tgt := 30) hx hb dX1_vertex_11 (by decide) (fun c11 => ?_) (fun c11 => ?_)
    · skip
      refine lv_iconst (v := 0) hx hb dX1_vertex_30 (by decide) ?_
      exact W.zret (v := 0) hx hb hr rfl (fun t ht hW => ⟨⟨0, (n, xs, ys), rfl, Or.inr ⟨fun h => by rw [bI_eq0.mp c11] at h; exact absurd h.2.1 (by decide), rfl, rfl⟩, by rw [ht]; exact hP, by rw [hAe]; exact hD⟩, hS.F ht⟩) hS.2.2 dX1_vertex_31
    · skip
      refine lv_aload_n hx hb dX1_vertex_14 rfl (lv_at hl 0 rfl) ?_
      refine va_get (D := D) (ci := 1) (v := .ref r0) (C := RX1) (T := TX1) (N := 8) hx hb hts nX1_vertex_X1 hown hK.1 hP 0 rfl rfl 5 (by decide) (hts (.fieldLink RX1 36 "PolygonFrame" "polygon" "LPolygonFrame$Ring;") (by decide +kernel)) (fun _ h9 => h9) rfl dX1_vertex_15 ?_
      refine lv_iload_n hx hb dX1_vertex_18 rfl (lv_at hl 1 rfl) ?_
      refine lv_iload_n hx hb dX1_vertex_19 rfl (lv_at hl 2 rfl) ?_
      refine wr_i (wr := [(p0, .inr (1, [.int (nI wd), .int (nI hg), .ref aC, .ref aT, .ref aS, .ref r0, .ref rO, .ref rE]))]) hP hD hS hA [1, 2, 3] [0] rfl rfl (by decide) (by decide) (va_runVN (C := RX0) (As := [.int x, .int y]) ⟨hx, hb, hml, hown, hts⟩ (kX0_append l D cI cZ s.heap.size r0 ax ay n cap xs ys x y hn hc) ⟨va_cnB 2 hts gX1_vertex_X0_append_n59 rfl rfl rfl hK.2.2.2.2.2.1 (hts (.initialized RX0) (by decide +kernel)) (by decide +kernel) ⟨Nat.le_of_ble_eq_true rfl, Nat.le_of_ble_eq_true rfl⟩, hts (.instanceMethod yX0_append) (by decide +kernel), hts (.selects RX0 yX0_append yX0_append) (by decide +kernel)⟩ (wr_preV (ci := 0) (q0 := 0) (hP.sub [1, 2, 3] rfl) hK (hD.sub [1, 2, 3] (by decide) rfl) rfl rfl) rfl rfl hl.1 rfl (lv_room (Nat.le_of_ble_eq_true rfl)) dX1_vertex_20 ⟨Nat.zero_le _, Nat.zero_le _⟩) (fun r1 u1 H locs hw1 hP hD hS => ?_)
      rcases hw1 with ⟨hw, rfl, rfl⟩ | ⟨hw, rfl, rfl⟩
      · skip
        replace hP : va_P D vwCl [(p0, .inr (1, [.int (nI wd), .int (nI hg), .ref aC, .ref aT, .ref aS, .ref r0, .ref rO, .ref rE])), (r0, .inr (0, [.ref ax, .ref ay, .int (nI (n + 1))])), (ax, .inl (cI, cap, .inl (upd xs n x))), (ay, .inl (cI, cap, .inl (upd ys n y)))] H := hP.sub [0, 1, 2, 3] rfl
        replace hD : va_D A [(p0, .inr (1, [.int (nI wd), .int (nI hg), .ref aC, .ref aT, .ref aS, .ref r0, .ref rO, .ref rE])), (r0, .inr (0, [.ref ax, .ref ay, .int (nI (n + 1))])), (ax, .inl (cI, cap, .inl (upd xs n x))), (ay, .inl (cI, cap, .inl (upd ys n y)))] := hD.sub [0, 1, 2, 3] (by decide) rfl
        refine lv_if_eq (tgt := 30) hx hb dX1_vertex_23 (by decide) (fun c23 => absurd c23 (by decide)) (fun c23 => ?_)
        refine lv_iconst (v := 1) hx hb dX1_vertex_26 (by decide) ?_
        refine lv_goto (tgt := 31) hx hb dX1_vertex_27 (by decide) ?_
        exact W.zret (v := 1) hx hb hr rfl (fun t ht hW => ⟨⟨1, (n + 1, upd xs n x, upd ys n y), rfl, Or.inl ⟨⟨bI_ne c4, bI_ne c11, hw⟩, rfl, rfl⟩, by rw [ht]; exact hP, by rw [hAe]; exact hD⟩, hS.F ht⟩) hS.2.2 dX1_vertex_31
      · skip
        replace hP : va_P D vwCl [(p0, .inr (1, [.int (nI wd), .int (nI hg), .ref aC, .ref aT, .ref aS, .ref r0, .ref rO, .ref rE])), (r0, .inr (0, [.ref ax, .ref ay, .int (nI n)])), (ax, .inl (cI, cap, .inl xs)), (ay, .inl (cI, cap, .inl ys))] H := hP.sub [0, 1, 2, 3] rfl
        replace hD : va_D A [(p0, .inr (1, [.int (nI wd), .int (nI hg), .ref aC, .ref aT, .ref aS, .ref r0, .ref rO, .ref rE])), (r0, .inr (0, [.ref ax, .ref ay, .int (nI n)])), (ax, .inl (cI, cap, .inl xs)), (ay, .inl (cI, cap, .inl ys))] := hD.sub [0, 1, 2, 3] (by decide) rfl
        refine lv_if_eq (tgt := 30) hx hb dX1_vertex_23 (by decide) (fun c23 => ?_) (fun c23 => absurd (by decide) c23)
        refine lv_iconst (v := 0) hx hb dX1_vertex_30 (by decide) ?_
        exact W.zret (v := 0) hx hb hr rfl (fun t ht hW => ⟨⟨0, (n, xs, ys), rfl, Or.inr ⟨fun h => absurd h.2.2 (Nat.not_lt.mpr hw), rfl, rfl⟩, by rw [ht]; exact hP, by rw [hAe]; exact hD⟩, hS.F ht⟩) hS.2.2 dX1_vertex_31
theorem nX1_setClip_X1 : ∀ w ∈ wsX10, w ∈ wsX1_setClip := fun w h => List.mem_cons_of_mem _ (List.mem_append_right _ h)
set_option maxHeartbeats 4000000 in
set_option maxRecDepth 100000 in
theorem kX1_setClip (l : Launch) (D : va_G) (cI cZ : ClassId) (sz : Nat) (p0 aC aT aS rP rO rE wd hg : Nat) (sd : Nat → Int32) (x0 y0 x1 y1 : Int32)  : Met l yX1_setClip wsX1_setClip ({ frames := 2, cells := 0, slots := 0, locals := 60 }) (va_Pc [.ref p0, .int x0, .int y0, .int x1, .int y1] (wrP D cI cZ sz [(p0, .inr (1, [.int (nI wd), .int (nI hg), .ref aC, .ref aT, .ref aS, .ref rP, .ref rO, .ref rE])), (aS, .inl (cI, 4, .inl sd))])) (va_Qi (S := Nat → Int32) (fun r u => ((rgB x0 x1 = true ∧ rgB y0 y1 = true) ∧ r = 1 ∧ u = upd (upd (upd (upd sd 0 x0) 1 x1) 2 y0) 3 y1) ∨ (¬ (rgB x0 x1 = true ∧ rgB y0 y1 = true) ∧ r = 0 ∧ u = sd)) (wrB D [(p0, .inr (1, [.int (nI wd), .int (nI hg), .ref aC, .ref aT, .ref aS, .ref rP, .ref rO, .ref rE])), (aS, .inl (cI, 4, .inl sd))] sz (fun u => [(p0, .inr (1, [.int (nI wd), .int (nI hg), .ref aC, .ref aT, .ref aS, .ref rP, .ref rO, .ref rE])), (aS, .inl (cI, 4, .inl u))])) (va_A [(p0, .inr (1, [.int (nI wd), .int (nI hg), .ref aC, .ref aT, .ref aS, .ref rP, .ref rO, .ref rE])), (aS, .inl (cI, 4, .inl sd))] sz)) 0 0 (va_A [(p0, .inr (1, [.int (nI wd), .int (nI hg), .ref aC, .ref aT, .ref aS, .ref rP, .ref rO, .ref rE])), (aS, .inl (cI, 4, .inl sd))] sz) := by
  refine Met.ofW (cc := cX1_setClip) (maxL := 5) (ret := (some .boolean)) (by decide) rfl ?_
  intro p e s m args below meth c s₁ B hml hv
  obtain ⟨rfl, hsz, hP, hK, hD0⟩ := hv
  have hx := B.exec
  have hb := B.bytes
  have hr := B.returns
  have hts := atoms_spec (ws := wsX1_setClip) B.pre
  have hown : s.vm.findClass RX1 = some m.cls := findClass_of_methodNamed B.named
  have hlocks := B.notSynchronized
  subst hsz
  have hD := hD0.self (sz := s.heap.size)
  generalize hAe : va_A [(p0, .inr (1, [.int (nI wd), .int (nI hg), .ref aC, .ref aT, .ref aS, .ref rP, .ref rO, .ref rE])), (aS, .inl (cI, 4, .inl sd))] s.heap.size = A at hD ⊢
  have hA : ∀ q : Nat, s.heap.size ≤ q → A q := fun q h => by rw [← hAe]; exact Or.inr h
  have hS : va_S A s.heap s.heap [] := va_S.rf
  have hP : va_P D vwCl [(p0, .inr (1, [.int (nI wd), .int (nI hg), .ref aC, .ref aT, .ref aS, .ref rP, .ref rO, .ref rE])), (aS, .inl (cI, 4, .inl sd))] s.heap := hP
  have hl := lv_entry ([.ref p0, .int x0, .int y0, .int x1, .int y1]) (n := 5) (Nat.le_of_ble_eq_true rfl)
  rw [lg_entry_eq]
  generalize (lg_sl ([.ref p0, .int x0, .int y0, .int x1, .int y1]) ++ List.replicate (5 - (lg_sl ([.ref p0, .int x0, .int y0, .int x1, .int y1])).length) Slot.unset).toArray = ls at hl ⊢
  have hl : lv_has ls 5 [(0, .ref p0), (1, .int x0), (2, .int y0), (3, .int x1), (4, .int y1)] := hl
  refine lv_iload_n hx hb dX1_setClip_0 rfl (lv_at hl 1 rfl) ?_
  refine lv_iload_n hx hb dX1_setClip_1 rfl (lv_at hl 3 rfl) ?_
  refine rd_i (va_runS (As := [.int x0, .int x1]) ⟨hx, hb, hml, hown, hts⟩ (kX1_isRange l D cI cZ x0 x1) (va_cwS 2 hts gX1_setClip_X1_isRange rfl rfl rfl (by decide +kernel) ⟨Nat.le_of_ble_eq_true rfl, Nat.le_of_ble_eq_true rfl⟩) rd_pre0 rfl rfl hl.1 rfl (lv_room (Nat.le_of_ble_eq_true rfl)) dX1_setClip_2 ⟨Nat.zero_le _, Nat.zero_le _⟩) ?_
  refine lv_if_eq (tgt := 17) hx hb dX1_setClip_5 (by decide) (fun c5 => ?_) (fun c5 => ?_)
  · skip
    refine lv_iconst (v := 0) hx hb dX1_setClip_17 (by decide) ?_
    exact W.zret (v := 0) hx hb hr rfl (fun t ht hW => ⟨⟨0, sd, rfl, Or.inr ⟨fun h => by rw [bI_eq0.mp c5] at h; exact absurd h.1 (by decide), rfl, rfl⟩, by rw [ht]; exact hP, by rw [hAe]; exact hD⟩, hS.F ht⟩) hS.2.2 dX1_setClip_18
  · skip
    refine lv_iload_n hx hb dX1_setClip_8 rfl (lv_at hl 2 rfl) ?_
    refine lv_iload hx hb dX1_setClip_9 (lv_at hl 4 rfl) ?_
    refine rd_i (va_runS (As := [.int y0, .int y1]) ⟨hx, hb, hml, hown, hts⟩ (kX1_isRange l D cI cZ y0 y1) (va_cwS 2 hts gX1_setClip_X1_isRange rfl rfl rfl (by decide +kernel) ⟨Nat.le_of_ble_eq_true rfl, Nat.le_of_ble_eq_true rfl⟩) rd_pre0 rfl rfl hl.1 rfl (lv_room (Nat.le_of_ble_eq_true rfl)) dX1_setClip_11 ⟨Nat.zero_le _, Nat.zero_le _⟩) ?_
    refine lv_if_ne (tgt := 19) hx hb dX1_setClip_14 (by decide) (fun c14 => ?_) (fun c14 => ?_)
    · skip
      refine lv_aload_n hx hb dX1_setClip_19 rfl (lv_at hl 0 rfl) ?_
      refine va_get (D := D) (ci := 1) (v := .ref aS) (C := RX1) (T := TX1) (N := 8) hx hb hts nX1_setClip_X1 hown hK.1 hP 0 rfl rfl 4 (by decide) (hts (.fieldLink RX1 28 "PolygonFrame" "sides" "[I") (by decide +kernel)) (fun _ h9 => h9) rfl dX1_setClip_20 ?_
      refine lv_iconst (v := 0) hx hb dX1_setClip_23 (by decide) ?_
      refine lv_iload_n hx hb dX1_setClip_24 rfl (lv_at hl 1 rfl) ?_
      refine q_iast (k := 0) hx hb hK.1 hP hD hS 1 0 rfl rfl (by omega) (by omega) dX1_setClip_25 (fun H locs hP hD hS => ?_)
      have hP : va_P D vwCl [(p0, .inr (1, [.int (nI wd), .int (nI hg), .ref aC, .ref aT, .ref aS, .ref rP, .ref rO, .ref rE])), (aS, .inl (cI, 4, .inl (upd sd 0 x0)))] H := hP
      have hD : va_D A [(p0, .inr (1, [.int (nI wd), .int (nI hg), .ref aC, .ref aT, .ref aS, .ref rP, .ref rO, .ref rE])), (aS, .inl (cI, 4, .inl (upd sd 0 x0)))] := hD
      refine lv_aload_n hx hb dX1_setClip_26 rfl (lv_at hl 0 rfl) ?_
      refine va_get (D := D) (ci := 1) (v := .ref aS) (C := RX1) (T := TX1) (N := 8) hx hb hts nX1_setClip_X1 hown hK.1 hP 0 rfl rfl 4 (by decide) (hts (.fieldLink RX1 28 "PolygonFrame" "sides" "[I") (by decide +kernel)) (fun _ h9 => h9) rfl dX1_setClip_27 ?_
      refine lv_iconst (v := 1) hx hb dX1_setClip_30 (by decide) ?_
      refine lv_iload_n hx hb dX1_setClip_31 rfl (lv_at hl 3 rfl) ?_
      refine q_iast (k := 1) hx hb hK.1 hP hD hS 1 0 rfl rfl (by omega) (by omega) dX1_setClip_32 (fun H locs hP hD hS => ?_)
      have hP : va_P D vwCl [(p0, .inr (1, [.int (nI wd), .int (nI hg), .ref aC, .ref aT, .ref aS, .ref rP, .ref rO, .ref rE])), (aS, .inl (cI, 4, .inl (upd (upd sd 0 x0) 1 x1)))] H := hP
      have hD : va_D A [(p0, .inr (1, [.int (nI wd), .int (nI hg), .ref aC, .ref aT, .ref aS, .ref rP, .ref rO, .ref rE])), (aS, .inl (cI, 4, .inl (upd (upd sd 0 x0) 1 x1)))] := hD
      refine lv_aload_n hx hb dX1_setClip_33 rfl (lv_at hl 0 rfl) ?_
      refine va_get (D := D) (ci := 1) (v := .ref aS) (C := RX1) (T := TX1) (N := 8) hx hb hts nX1_setClip_X1 hown hK.1 hP 0 rfl rfl 4 (by decide) (hts (.fieldLink RX1 28 "PolygonFrame" "sides" "[I") (by decide +kernel)) (fun _ h9 => h9) rfl dX1_setClip_34 ?_
      refine lv_iconst (v := 2) hx hb dX1_setClip_37 (by decide) ?_
      refine lv_iload_n hx hb dX1_setClip_38 rfl (lv_at hl 2 rfl) ?_
      refine q_iast (k := 2) hx hb hK.1 hP hD hS 1 0 rfl rfl (by omega) (by omega) dX1_setClip_39 (fun H locs hP hD hS => ?_)
      have hP : va_P D vwCl [(p0, .inr (1, [.int (nI wd), .int (nI hg), .ref aC, .ref aT, .ref aS, .ref rP, .ref rO, .ref rE])), (aS, .inl (cI, 4, .inl (upd (upd (upd sd 0 x0) 1 x1) 2 y0)))] H := hP
      have hD : va_D A [(p0, .inr (1, [.int (nI wd), .int (nI hg), .ref aC, .ref aT, .ref aS, .ref rP, .ref rO, .ref rE])), (aS, .inl (cI, 4, .inl (upd (upd (upd sd 0 x0) 1 x1) 2 y0)))] := hD
      refine lv_aload_n hx hb dX1_setClip_40 rfl (lv_at hl 0 rfl) ?_
      refine va_get (D := D) (ci := 1) (v := .ref aS) (C := RX1) (T := TX1) (N := 8) hx hb hts nX1_setClip_X1 hown hK.1 hP 0 rfl rfl 4 (by decide) (hts (.fieldLink RX1 28 "PolygonFrame" "sides" "[I") (by decide +kernel)) (fun _ h9 => h9) rfl dX1_setClip_41 ?_
      refine lv_iconst (v := 3) hx hb dX1_setClip_44 (by decide) ?_
      refine lv_iload hx hb dX1_setClip_45 (lv_at hl 4 rfl) ?_
      refine q_iast (k := 3) hx hb hK.1 hP hD hS 1 0 rfl rfl (by omega) (by omega) dX1_setClip_47 (fun H locs hP hD hS => ?_)
      have hP : va_P D vwCl [(p0, .inr (1, [.int (nI wd), .int (nI hg), .ref aC, .ref aT, .ref aS, .ref rP, .ref rO, .ref rE])), (aS, .inl (cI, 4, .inl (upd (upd (upd (upd sd 0 x0) 1 x1) 2 y0) 3 y1)))] H := hP
      have hD : va_D A [(p0, .inr (1, [.int (nI wd), .int (nI hg), .ref aC, .ref aT, .ref aS, .ref rP, .ref rO, .ref rE])), (aS, .inl (cI, 4, .inl (upd (upd (upd (upd sd 0 x0) 1 x1) 2 y0) 3 y1)))] := hD
      refine lv_iconst (v := 1) hx hb dX1_setClip_48 (by decide) ?_
      exact W.zret (v := 1) hx hb hr rfl (fun t ht hW => ⟨⟨1, (upd (upd (upd (upd sd 0 x0) 1 x1) 2 y0) 3 y1), rfl, Or.inl ⟨⟨bI_ne c5, bI_ne c14⟩, rfl, rfl⟩, by rw [ht]; exact hP, by rw [hAe]; exact hD⟩, hS.F ht⟩) hS.2.2 dX1_setClip_49
    · skip
      refine lv_iconst (v := 0) hx hb dX1_setClip_17 (by decide) ?_
      exact W.zret (v := 0) hx hb hr rfl (fun t ht hW => ⟨⟨0, sd, rfl, Or.inr ⟨fun h => by rw [bI_eq0.mp c14] at h; exact absurd h.2 (by decide), rfl, rfl⟩, by rw [ht]; exact hP, by rw [hAe]; exact hD⟩, hS.F ht⟩) hS.2.2 dX1_setClip_18
def flN (f : Nat → Int32) (v : Int32) (k : Nat) : Nat → Int32 := fun i => if i < k then v else f i
theorem flN_0 (f : Nat → Int32) (v : Int32) : flN f v 0 = f := rfl
theorem flN_s (f : Nat → Int32) (v : Int32) (k : Nat) : upd (flN f v k) k v = flN f v (k + 1) := by
  funext i
  unfold upd flN
  by_cases h : i = k
  · subst h; simp
  · by_cases h2 : i < k
    · rw [if_neg h, if_pos h2, if_pos (by omega)]
    · rw [if_neg h, if_neg h2, if_neg (by omega)]
set_option maxHeartbeats 4000000 in
set_option maxRecDepth 100000 in
theorem kJ7_fill_53178 (l : Launch) (D : va_G) (cI cZ : ClassId) (sz : Nat) (a0 N : Nat) (f : Nat → Int32) (v : Int32) (hN : N ≤ 1000) : Met l yJ7_fill_53178 wsJ7_fill_53178 ({ frames := 0, cells := 0, slots := 0, locals := 0 }) (va_Pc [.ref a0, .int v] (wrP D cI cZ sz [(a0, .inl (cI, N, .inl f))])) (va_Qv (S := Unit) (fun _ => True) (wrB D [(a0, .inl (cI, N, .inl f))] sz (fun _ => [(a0, .inl (cI, N, .inl (flN f v N)))])) (va_A [(a0, .inl (cI, N, .inl f))] sz)) 0 0 (va_A [(a0, .inl (cI, N, .inl f))] sz) := by
  refine va_MetF (cc := cJ7_fill_53178) (maxL := 4) (ret := none) (by decide +kernel) rfl ?_
  intro p e s m args below meth c s₁ B hml hv
  obtain ⟨rfl, hsz, hP, hK, hD0⟩ := hv
  have hx := B.exec
  have hb := B.bytes
  have hr := B.returns
  have hts := atoms_spec (ws := wsJ7_fill_53178) B.pre
  have hown : s.vm.findClass RJ7 = some m.cls := findClass_of_methodNamed B.named
  have hlocks := B.notSynchronized
  subst hsz
  have hD := hD0.self (sz := s.heap.size)
  generalize hAe : va_A [(a0, .inl (cI, N, .inl f))] s.heap.size = A at hD ⊢
  have hA : ∀ q : Nat, s.heap.size ≤ q → A q := fun q h => by rw [← hAe]; exact Or.inr h
  have hS : va_S A s.heap s.heap [] := va_S.rf
  have hP : va_P D vwCl [(a0, .inl (cI, N, .inl f))] s.heap := hP
  have hl := lv_entry ([.ref a0, .int v]) (n := 4) (Nat.le_of_ble_eq_true rfl)
  rw [lg_entry_eq]
  generalize (lg_sl ([.ref a0, .int v]) ++ List.replicate (4 - (lg_sl ([.ref a0, .int v])).length) Slot.unset).toArray = ls at hl ⊢
  have hl : lv_has ls 4 [(0, .ref a0), (1, .int v)] := hl
  have LOOP : ∀ (j k : Nat), k ≤ N → N < k + j → ∀ (H : Heap) (locs : List Loc), va_P D vwCl [(a0, .inl (cI, N, .inl (flN f v k)))] H → va_D A [(a0, .inl (cI, N, .inl (flN f v k)))] → va_S A s.heap H locs → ∀ ls : Array Slot, lv_has ls 4 [(0, .ref a0), (1, .int v), (2, .int (nI k)), (3, .int (nI N))] → W p l e ({ frames := 0, cells := 0, slots := 0, locals := 0 } : Room) s m #[.ref a0, .int v] below meth c H locs 0 0 (MQ below (va_Qv (S := Unit) (fun _ => True) (wrB D [(a0, .inl (cI, N, .inl f))] s.heap.size (fun _ => [(a0, .inl (cI, N, .inl (flN f v N)))])) A) #[.ref a0, .int v] s 0 0 A) (F0 m 5 ls []) := by
    intro j
    induction j with
    | zero => intro k h1 h2; omega
    | succ j ih =>
      intro k hk hkj H locs hP hD hS ls hl
      refine lv_iload_n hx hb dJ7_fill_53178_5 rfl (lv_at hl 2 rfl) ?_
      refine lv_iload_n hx hb dJ7_fill_53178_6 rfl (lv_at hl 3 rfl) ?_
      refine lv_icmp_ge (tgt := 20) hx hb dJ7_fill_53178_7 (by decide) (fun c7 => ?_) (fun c7 => ?_)
      · skip
        have hkn : k = N := Nat.le_antisymm hk ((nI_leI (by omega) (by omega)).mp c7)
        subst hkn
        exact W.vret hx hb hr (fun t ht hW => ⟨⟨(), rfl, trivial, by rw [ht]; exact hP, by rw [hAe]; exact hD⟩, hS.F ht⟩) hS.2.2 dJ7_fill_53178_20
      · skip
        have hk2 : k < N := Nat.lt_of_not_le (fun h => c7 (nI_le h (by omega)))
        refine lv_aload_n hx hb dJ7_fill_53178_10 rfl (lv_at hl 0 rfl) ?_
        refine lv_iload_n hx hb dJ7_fill_53178_11 rfl (lv_at hl 2 rfl) ?_
        refine lv_iload_n hx hb dJ7_fill_53178_12 rfl (lv_at hl 1 rfl) ?_
        refine q_iast (k := k) hx hb hK.1 hP hD hS 0 0 rfl rfl (by omega) (by omega) dJ7_fill_53178_13 (fun H locs hP hD hS => ?_)
        have hP : va_P D vwCl [(a0, .inl (cI, N, .inl (upd (flN f v k) k v)))] H := hP
        have hD : va_D A [(a0, .inl (cI, N, .inl (upd (flN f v k) k v)))] := hD
        refine lv_iinc (v := (nI (k + 1))) (lv' := [(2, .int (nI (k + 1))), (0, .ref a0), (1, .int v), (3, .int (nI N))]) hx hb dJ7_fill_53178_14 hl (k := 2) rfl (nI_1 _) (by decide) rfl (fun ls hl => ?_)
        refine lv_goto (tgt := 5) hx hb dJ7_fill_53178_17 (by decide) ?_
        rw [flN_s] at hP hD
        exact ih (k + 1) (by omega) (by omega) H locs hP hD hS ls (lv_sub hl [1, 2, 0, 3] rfl)
  refine lv_iconst (v := 0) hx hb dJ7_fill_53178_0 (by decide) ?_
  refine lv_istore_n (lv' := [(2, .int 0), (0, .ref a0), (1, .int v)]) hx hb dJ7_fill_53178_1 rfl hl (by decide) rfl (fun ls hl => ?_)
  refine lv_aload_n hx hb dJ7_fill_53178_2 rfl (lv_at hl 1 rfl) ?_
  refine va_alen (v := (nI N)) hx hb hK.1 hP 0 0 rfl rfl rfl dJ7_fill_53178_3 ?_
  refine lv_istore_n (lv' := [(3, .int (nI N)), (2, .int 0), (0, .ref a0), (1, .int v)]) hx hb dJ7_fill_53178_4 rfl hl (by decide) rfl (fun ls hl => ?_)
  exact LOOP (N + 1) 0 (Nat.zero_le _) (by omega) s.heap [] hP hD hS ls (lv_sub hl [2, 3, 1, 0] rfl)
theorem nX1_clear_X1 : ∀ w ∈ wsX10, w ∈ wsX1_clear := fun w h => List.mem_cons_of_mem _ (List.mem_append_right _ h)
set_option maxHeartbeats 4000000 in
set_option maxRecDepth 100000 in
theorem kX1_clear (l : Launch) (D : va_G) (cI cZ : ClassId) (sz : Nat) (p0 aC aT aS rP rO rE wd hg : Nat) (col : Nat → Int32) (v : Int32) (hw : wd ≤ 24) (hh : hg ≤ 24) : Met l yX1_clear wsX1_clear ({ frames := 1, cells := 0, slots := 0, locals := 40 }) (va_Pc [.ref p0, .int v] (wrP D cI cZ sz [(p0, .inr (1, [.int (nI wd), .int (nI hg), .ref aC, .ref aT, .ref aS, .ref rP, .ref rO, .ref rE])), (aC, .inl (cI, (wd * hg), .inl col))])) (va_Qv (S := Unit) (fun _ => True) (wrB D [(p0, .inr (1, [.int (nI wd), .int (nI hg), .ref aC, .ref aT, .ref aS, .ref rP, .ref rO, .ref rE])), (aC, .inl (cI, (wd * hg), .inl col))] sz (fun _ => [(p0, .inr (1, [.int (nI wd), .int (nI hg), .ref aC, .ref aT, .ref aS, .ref rP, .ref rO, .ref rE])), (aC, .inl (cI, (wd * hg), .inl (flN col v (wd * hg))))])) (va_A [(p0, .inr (1, [.int (nI wd), .int (nI hg), .ref aC, .ref aT, .ref aS, .ref rP, .ref rO, .ref rE])), (aC, .inl (cI, (wd * hg), .inl col))] sz)) 0 0 (va_A [(p0, .inr (1, [.int (nI wd), .int (nI hg), .ref aC, .ref aT, .ref aS, .ref rP, .ref rO, .ref rE])), (aC, .inl (cI, (wd * hg), .inl col))] sz) := by
  refine Met.ofW (cc := cX1_clear) (maxL := 2) (ret := none) (by decide) rfl ?_
  intro p e s m args below meth c s₁ B hml hv
  obtain ⟨rfl, hsz, hP, hK, hD0⟩ := hv
  have hx := B.exec
  have hb := B.bytes
  have hr := B.returns
  have hts := atoms_spec (ws := wsX1_clear) B.pre
  have hown : s.vm.findClass RX1 = some m.cls := findClass_of_methodNamed B.named
  have hlocks := B.notSynchronized
  subst hsz
  have hD := hD0.self (sz := s.heap.size)
  generalize hAe : va_A [(p0, .inr (1, [.int (nI wd), .int (nI hg), .ref aC, .ref aT, .ref aS, .ref rP, .ref rO, .ref rE])), (aC, .inl (cI, (wd * hg), .inl col))] s.heap.size = A at hD ⊢
  have hA : ∀ q : Nat, s.heap.size ≤ q → A q := fun q h => by rw [← hAe]; exact Or.inr h
  have hS : va_S A s.heap s.heap [] := va_S.rf
  have hP : va_P D vwCl [(p0, .inr (1, [.int (nI wd), .int (nI hg), .ref aC, .ref aT, .ref aS, .ref rP, .ref rO, .ref rE])), (aC, .inl (cI, (wd * hg), .inl col))] s.heap := hP
  have hl := lv_entry ([.ref p0, .int v]) (n := 2) (Nat.le_of_ble_eq_true rfl)
  rw [lg_entry_eq]
  generalize (lg_sl ([.ref p0, .int v]) ++ List.replicate (2 - (lg_sl ([.ref p0, .int v])).length) Slot.unset).toArray = ls at hl ⊢
  have hl : lv_has ls 2 [(0, .ref p0), (1, .int v)] := hl
  refine lv_aload_n hx hb dX1_clear_0 rfl (lv_at hl 0 rfl) ?_
  refine va_get (D := D) (ci := 1) (v := .ref aC) (C := RX1) (T := TX1) (N := 8) hx hb hts nX1_clear_X1 hown hK.1 hP 0 rfl rfl 2 (by decide) (hts (.fieldLink RX1 20 "PolygonFrame" "colours" "[I") (by decide +kernel)) (fun _ h9 => h9) rfl dX1_clear_1 ?_
  refine lv_iload_n hx hb dX1_clear_4 rfl (lv_at hl 1 rfl) ?_
  refine wr_v (wr := [(p0, .inr (1, [.int (nI wd), .int (nI hg), .ref aC, .ref aT, .ref aS, .ref rP, .ref rO, .ref rE]))]) hP hD hS hA [1] [0] rfl rfl (by decide) (by decide) (va_runS (As := [.ref aC, .int v]) ⟨hx, hb, hml, hown, hts⟩ (kJ7_fill_53178 l D cI cZ s.heap.size aC (wd * hg) col v (Nat.le_trans (Nat.mul_le_mul hw hh) (by decide))) (va_cwS 2 hts gX1_clear_J7_fill_53178 rfl rfl rfl (by decide +kernel) ⟨Nat.le_of_ble_eq_true rfl, Nat.le_of_ble_eq_true rfl⟩) (wr_pre (hP.sub [1] rfl) hK (hD.sub [1] (by decide) rfl)) rfl rfl hl.1 rfl (lv_room (Nat.le_of_ble_eq_true rfl)) dX1_clear_5 ⟨Nat.zero_le _, Nat.zero_le _⟩) (fun u1 H locs hw1 hP hD hS => ?_)
  replace hP : va_P D vwCl [(p0, .inr (1, [.int (nI wd), .int (nI hg), .ref aC, .ref aT, .ref aS, .ref rP, .ref rO, .ref rE])), (aC, .inl (cI, (wd * hg), .inl (flN col v (wd * hg))))] H := hP.sub [0, 1] rfl
  replace hD : va_D A [(p0, .inr (1, [.int (nI wd), .int (nI hg), .ref aC, .ref aT, .ref aS, .ref rP, .ref rO, .ref rE])), (aC, .inl (cI, (wd * hg), .inl (flN col v (wd * hg))))] := hD.sub [0, 1] (by decide) rfl
  exact W.vret hx hb hr (fun t ht hW => ⟨⟨(), rfl, trivial, by rw [ht]; exact hP, by rw [hAe]; exact hD⟩, hS.F ht⟩) hS.2.2 dX1_clear_8
theorem nX2_begin_X2 : ∀ w ∈ wsX20, w ∈ wsX2_begin := fun w h => List.mem_cons_of_mem _ (List.mem_append_right _ h)
set_option maxHeartbeats 4000000 in
set_option maxRecDepth 100000 in
theorem kX2_begin (l : Launch) (D : va_G) (cI cZ : ClassId) (sz : Nat) (m0 aP ax ay afx afy atx aty wd hg cap n : Nat) (fr tt x0 x1 y0 y1 : Int32)  : Met l yX2_begin wsX2_begin ({ frames := 0, cells := 0, slots := 0, locals := 0 }) (va_Pc [.ref m0] (wrP D cI cZ sz [(m0, .inr (2, [.int (nI wd), .int (nI hg), .int (nI cap), .ref aP, .ref ax, .ref ay, .int (nI n), .ref afx, .ref afy, .ref atx, .ref aty, .int fr, .int tt, .int x0, .int x1, .int y0, .int y1]))])) (va_Qv (S := Unit) (fun _ => True) (wrB D [(m0, .inr (2, [.int (nI wd), .int (nI hg), .int (nI cap), .ref aP, .ref ax, .ref ay, .int (nI n), .ref afx, .ref afy, .ref atx, .ref aty, .int fr, .int tt, .int x0, .int x1, .int y0, .int y1]))] sz (fun _ => [(m0, .inr (2, [.int (nI wd), .int (nI hg), .int (nI cap), .ref aP, .ref ax, .ref ay, .int (nI 0), .ref afx, .ref afy, .ref atx, .ref aty, .int fr, .int tt, .int x0, .int x1, .int y0, .int y1]))])) (va_A [(m0, .inr (2, [.int (nI wd), .int (nI hg), .int (nI cap), .ref aP, .ref ax, .ref ay, .int (nI n), .ref afx, .ref afy, .ref atx, .ref aty, .int fr, .int tt, .int x0, .int x1, .int y0, .int y1]))] sz)) 0 0 (va_A [(m0, .inr (2, [.int (nI wd), .int (nI hg), .int (nI cap), .ref aP, .ref ax, .ref ay, .int (nI n), .ref afx, .ref afy, .ref atx, .ref aty, .int fr, .int tt, .int x0, .int x1, .int y0, .int y1]))] sz) := by
  refine Met.ofW (cc := cX2_begin) (maxL := 1) (ret := none) (by decide) rfl ?_
  intro p e s m args below meth c s₁ B hml hv
  obtain ⟨rfl, hsz, hP, hK, hD0⟩ := hv
  have hx := B.exec
  have hb := B.bytes
  have hr := B.returns
  have hts := atoms_spec (ws := wsX2_begin) B.pre
  have hown : s.vm.findClass RX2 = some m.cls := findClass_of_methodNamed B.named
  have hlocks := B.notSynchronized
  subst hsz
  have hD := hD0.self (sz := s.heap.size)
  generalize hAe : va_A [(m0, .inr (2, [.int (nI wd), .int (nI hg), .int (nI cap), .ref aP, .ref ax, .ref ay, .int (nI n), .ref afx, .ref afy, .ref atx, .ref aty, .int fr, .int tt, .int x0, .int x1, .int y0, .int y1]))] s.heap.size = A at hD ⊢
  have hA : ∀ q : Nat, s.heap.size ≤ q → A q := fun q h => by rw [← hAe]; exact Or.inr h
  have hS : va_S A s.heap s.heap [] := va_S.rf
  have hP : va_P D vwCl [(m0, .inr (2, [.int (nI wd), .int (nI hg), .int (nI cap), .ref aP, .ref ax, .ref ay, .int (nI n), .ref afx, .ref afy, .ref atx, .ref aty, .int fr, .int tt, .int x0, .int x1, .int y0, .int y1]))] s.heap := hP
  have hl := lv_entry ([.ref m0]) (n := 1) (Nat.le_of_ble_eq_true rfl)
  rw [lg_entry_eq]
  generalize (lg_sl ([.ref m0]) ++ List.replicate (1 - (lg_sl ([.ref m0])).length) Slot.unset).toArray = ls at hl ⊢
  have hl : lv_has ls 1 [(0, .ref m0)] := hl
  refine lv_aload_n hx hb dX2_begin_0 rfl (lv_at hl 0 rfl) ?_
  refine lv_iconst (v := 0) hx hb dX2_begin_1 (by decide) ?_
  refine va_put (D := D) (ci := 2) (v := .int 0) (ty := .int) (C := RX2) (T := TX2) (N := 17) hx hb hts nX2_begin_X2 tyX2 tyX2_ok nmX2 hown hK.1 hP hD hS 0 rfl rfl 6 (by decide) (hts (.fieldLink RX2 57 "PolygonFrameModel" "size" "I") (by decide +kernel)) (fun _ h9 => h9) rfl (tyX2_ok 6 (by decide)) rfl rfl (Nat.le_of_ble_eq_true rfl) dX2_begin_2 (fun H locs hP hD hS => ?_)
  have hP : va_P D vwCl [(m0, .inr (2, [.int (nI wd), .int (nI hg), .int (nI cap), .ref aP, .ref ax, .ref ay, .int 0, .ref afx, .ref afy, .ref atx, .ref aty, .int fr, .int tt, .int x0, .int x1, .int y0, .int y1]))] H := hP
  have hD : va_D A [(m0, .inr (2, [.int (nI wd), .int (nI hg), .int (nI cap), .ref aP, .ref ax, .ref ay, .int 0, .ref afx, .ref afy, .ref atx, .ref aty, .int fr, .int tt, .int x0, .int x1, .int y0, .int y1]))] := hD
  exact W.vret hx hb hr (fun t ht hW => ⟨⟨(), rfl, trivial, by rw [ht]; exact hP, by rw [hAe]; exact hD⟩, hS.F ht⟩) hS.2.2 dX2_begin_5
theorem nX2_vertex_X2 : ∀ w ∈ wsX20, w ∈ wsX2_vertex := fun w h => List.mem_cons_of_mem _ (List.mem_append_right _ h)
set_option maxHeartbeats 4000000 in
set_option maxRecDepth 100000 in
theorem kX2_vertex (l : Launch) (D : va_G) (cI cZ : ClassId) (sz : Nat) (m0 aP ax ay afx afy atx aty wd hg cap n : Nat) (fr tt x0 x1 y0 y1 : Int32) (xs ys : Nat → Int32) (x y : Int32) (hn : n ≤ cap) (hc : cap ≤ 60) : Met l yX2_vertex wsX2_vertex ({ frames := 1, cells := 0, slots := 0, locals := 40 }) (va_Pc [.ref m0, .int x, .int y] (wrP D cI cZ sz [(m0, .inr (2, [.int (nI wd), .int (nI hg), .int (nI cap), .ref aP, .ref ax, .ref ay, .int (nI n), .ref afx, .ref afy, .ref atx, .ref aty, .int fr, .int tt, .int x0, .int x1, .int y0, .int y1])), (ax, .inl (cI, 60, .inl xs)), (ay, .inl (cI, 60, .inl ys))])) (va_Qi (S := Nat × (Nat → Int32) × (Nat → Int32)) (fun r u => ((coB x = true ∧ coB y = true ∧ n < cap) ∧ r = 1 ∧ u = (n + 1, upd xs n x, upd ys n y)) ∨ (¬ (coB x = true ∧ coB y = true ∧ n < cap) ∧ r = 0 ∧ u = (n, xs, ys))) (wrB D [(m0, .inr (2, [.int (nI wd), .int (nI hg), .int (nI cap), .ref aP, .ref ax, .ref ay, .int (nI n), .ref afx, .ref afy, .ref atx, .ref aty, .int fr, .int tt, .int x0, .int x1, .int y0, .int y1])), (ax, .inl (cI, 60, .inl xs)), (ay, .inl (cI, 60, .inl ys))] sz (fun u => [(m0, .inr (2, [.int (nI wd), .int (nI hg), .int (nI cap), .ref aP, .ref ax, .ref ay, .int (nI u.1), .ref afx, .ref afy, .ref atx, .ref aty, .int fr, .int tt, .int x0, .int x1, .int y0, .int y1])), (ax, .inl (cI, 60, .inl u.2.1)), (ay, .inl (cI, 60, .inl u.2.2))])) (va_A [(m0, .inr (2, [.int (nI wd), .int (nI hg), .int (nI cap), .ref aP, .ref ax, .ref ay, .int (nI n), .ref afx, .ref afy, .ref atx, .ref aty, .int fr, .int tt, .int x0, .int x1, .int y0, .int y1])), (ax, .inl (cI, 60, .inl xs)), (ay, .inl (cI, 60, .inl ys))] sz)) 0 0 (va_A [(m0, .inr (2, [.int (nI wd), .int (nI hg), .int (nI cap), .ref aP, .ref ax, .ref ay, .int (nI n), .ref afx, .ref afy, .ref atx, .ref aty, .int fr, .int tt, .int x0, .int x1, .int y0, .int y1])), (ax, .inl (cI, 60, .inl xs)), (ay, .inl (cI, 60, .inl ys))] sz) := by
  refine Met.ofW (cc := cX2_vertex) (maxL := 3) (ret := (some .boolean)) (by decide) rfl ?_
  intro p e s m args below meth c s₁ B hml hv
  obtain ⟨rfl, hsz, hP, hK, hD0⟩ := hv
  have hx := B.exec
  have hb := B.bytes
  have hr := B.returns
  have hts := atoms_spec (ws := wsX2_vertex) B.pre
  have hown : s.vm.findClass RX2 = some m.cls := findClass_of_methodNamed B.named
  have hlocks := B.notSynchronized
  subst hsz
  have hD := hD0.self (sz := s.heap.size)
  generalize hAe : va_A [(m0, .inr (2, [.int (nI wd), .int (nI hg), .int (nI cap), .ref aP, .ref ax, .ref ay, .int (nI n), .ref afx, .ref afy, .ref atx, .ref aty, .int fr, .int tt, .int x0, .int x1, .int y0, .int y1])), (ax, .inl (cI, 60, .inl xs)), (ay, .inl (cI, 60, .inl ys))] s.heap.size = A at hD ⊢
  have hA : ∀ q : Nat, s.heap.size ≤ q → A q := fun q h => by rw [← hAe]; exact Or.inr h
  have hS : va_S A s.heap s.heap [] := va_S.rf
  have hP : va_P D vwCl [(m0, .inr (2, [.int (nI wd), .int (nI hg), .int (nI cap), .ref aP, .ref ax, .ref ay, .int (nI n), .ref afx, .ref afy, .ref atx, .ref aty, .int fr, .int tt, .int x0, .int x1, .int y0, .int y1])), (ax, .inl (cI, 60, .inl xs)), (ay, .inl (cI, 60, .inl ys))] s.heap := hP
  have hl := lv_entry ([.ref m0, .int x, .int y]) (n := 3) (Nat.le_of_ble_eq_true rfl)
  rw [lg_entry_eq]
  generalize (lg_sl ([.ref m0, .int x, .int y]) ++ List.replicate (3 - (lg_sl ([.ref m0, .int x, .int y])).length) Slot.unset).toArray = ls at hl ⊢
  have hl : lv_has ls 3 [(0, .ref m0), (1, .int x), (2, .int y)] := hl
  refine lv_aload_n hx hb dX2_vertex_0 rfl (lv_at hl 0 rfl) ?_
  refine va_get (D := D) (ci := 2) (v := .int (nI n)) (C := RX2) (T := TX2) (N := 17) hx hb hts nX2_vertex_X2 hown hK.1 hP 0 rfl rfl 6 (by decide) (hts (.fieldLink RX2 57 "PolygonFrameModel" "size" "I") (by decide +kernel)) (fun _ h9 => h9) rfl dX2_vertex_1 ?_
  refine lv_aload_n hx hb dX2_vertex_4 rfl (lv_at hl 0 rfl) ?_
  refine va_get (D := D) (ci := 2) (v := .int (nI cap)) (C := RX2) (T := TX2) (N := 17) hx hb hts nX2_vertex_X2 hown hK.1 hP 0 rfl rfl 2 (by decide) (hts (.fieldLink RX2 54 "PolygonFrameModel" "most" "I") (by decide +kernel)) (fun _ h9 => h9) rfl dX2_vertex_5 ?_
  refine lv_icmp_eq (tgt := 25) hx hb dX2_vertex_8 (by decide) (fun c8 => ?_) (fun c8 => ?_)
  · skip
    refine lv_iconst (v := 0) hx hb dX2_vertex_25 (by decide) ?_
    exact W.zret (v := 0) hx hb hr rfl (fun t ht hW => ⟨⟨0, (n, xs, ys), rfl, Or.inr ⟨fun h => absurd ((nI_eq (by omega) (by omega)).mp c8) (by omega), rfl, rfl⟩, by rw [ht]; exact hP, by rw [hAe]; exact hD⟩, hS.F ht⟩) hS.2.2 dX2_vertex_26
  · skip
    refine lv_iload_n hx hb dX2_vertex_11 rfl (lv_at hl 1 rfl) ?_
    refine rd_i (va_runS (As := [.int x]) ⟨hx, hb, hml, hown, hts⟩ (kX2_isNear l D cI cZ x) (va_cwS 1 hts gX2_vertex_X2_isNear rfl rfl rfl (by decide +kernel) ⟨Nat.le_of_ble_eq_true rfl, Nat.le_of_ble_eq_true rfl⟩) rd_pre0 rfl rfl hl.1 rfl (lv_room (Nat.le_of_ble_eq_true rfl)) dX2_vertex_12 ⟨Nat.zero_le _, Nat.zero_le _⟩) ?_
    refine lv_if_eq (tgt := 25) hx hb dX2_vertex_15 (by decide) (fun c15 => ?_) (fun c15 => ?_)
    · skip
      refine lv_iconst (v := 0) hx hb dX2_vertex_25 (by decide) ?_
      exact W.zret (v := 0) hx hb hr rfl (fun t ht hW => ⟨⟨0, (n, xs, ys), rfl, Or.inr ⟨fun h => by rw [bI_eq0.mp c15] at h; exact absurd h.1 (by decide), rfl, rfl⟩, by rw [ht]; exact hP, by rw [hAe]; exact hD⟩, hS.F ht⟩) hS.2.2 dX2_vertex_26
    · skip
      refine lv_iload_n hx hb dX2_vertex_18 rfl (lv_at hl 2 rfl) ?_
      refine rd_i (va_runS (As := [.int y]) ⟨hx, hb, hml, hown, hts⟩ (kX2_isNear l D cI cZ y) (va_cwS 1 hts gX2_vertex_X2_isNear rfl rfl rfl (by decide +kernel) ⟨Nat.le_of_ble_eq_true rfl, Nat.le_of_ble_eq_true rfl⟩) rd_pre0 rfl rfl hl.1 rfl (lv_room (Nat.le_of_ble_eq_true rfl)) dX2_vertex_19 ⟨Nat.zero_le _, Nat.zero_le _⟩) ?_
      refine lv_if_ne (tgt := 27) hx hb dX2_vertex_22 (by decide) (fun c22 => ?_) (fun c22 => ?_)
      · skip
        have hlt : n < cap := Nat.lt_of_le_of_ne hn (fun h => c8 (by rw [h]))
        refine lv_aload_n hx hb dX2_vertex_27 rfl (lv_at hl 0 rfl) ?_
        refine va_get (D := D) (ci := 2) (v := .ref ax) (C := RX2) (T := TX2) (N := 17) hx hb hts nX2_vertex_X2 hown hK.1 hP 0 rfl rfl 4 (by decide) (hts (.fieldLink RX2 13 "PolygonFrameModel" "xs" "[I") (by decide +kernel)) (fun _ h9 => h9) rfl dX2_vertex_28 ?_
        refine lv_aload_n hx hb dX2_vertex_31 rfl (lv_at hl 0 rfl) ?_
        refine va_get (D := D) (ci := 2) (v := .int (nI n)) (C := RX2) (T := TX2) (N := 17) hx hb hts nX2_vertex_X2 hown hK.1 hP 0 rfl rfl 6 (by decide) (hts (.fieldLink RX2 57 "PolygonFrameModel" "size" "I") (by decide +kernel)) (fun _ h9 => h9) rfl dX2_vertex_32 ?_
        refine lv_iload_n hx hb dX2_vertex_35 rfl (lv_at hl 1 rfl) ?_
        refine q_iast (k := n) hx hb hK.1 hP hD hS 1 0 rfl rfl (by omega) (by omega) dX2_vertex_36 (fun H locs hP hD hS => ?_)
        have hP : va_P D vwCl [(m0, .inr (2, [.int (nI wd), .int (nI hg), .int (nI cap), .ref aP, .ref ax, .ref ay, .int (nI n), .ref afx, .ref afy, .ref atx, .ref aty, .int fr, .int tt, .int x0, .int x1, .int y0, .int y1])), (ax, .inl (cI, 60, .inl (upd xs n x))), (ay, .inl (cI, 60, .inl ys))] H := hP
        have hD : va_D A [(m0, .inr (2, [.int (nI wd), .int (nI hg), .int (nI cap), .ref aP, .ref ax, .ref ay, .int (nI n), .ref afx, .ref afy, .ref atx, .ref aty, .int fr, .int tt, .int x0, .int x1, .int y0, .int y1])), (ax, .inl (cI, 60, .inl (upd xs n x))), (ay, .inl (cI, 60, .inl ys))] := hD
        refine lv_aload_n hx hb dX2_vertex_37 rfl (lv_at hl 0 rfl) ?_
        refine va_get (D := D) (ci := 2) (v := .ref ay) (C := RX2) (T := TX2) (N := 17) hx hb hts nX2_vertex_X2 hown hK.1 hP 0 rfl rfl 5 (by decide) (hts (.fieldLink RX2 16 "PolygonFrameModel" "ys" "[I") (by decide +kernel)) (fun _ h9 => h9) rfl dX2_vertex_38 ?_
        refine lv_aload_n hx hb dX2_vertex_41 rfl (lv_at hl 0 rfl) ?_
        refine va_get (D := D) (ci := 2) (v := .int (nI n)) (C := RX2) (T := TX2) (N := 17) hx hb hts nX2_vertex_X2 hown hK.1 hP 0 rfl rfl 6 (by decide) (hts (.fieldLink RX2 57 "PolygonFrameModel" "size" "I") (by decide +kernel)) (fun _ h9 => h9) rfl dX2_vertex_42 ?_
        refine lv_iload_n hx hb dX2_vertex_45 rfl (lv_at hl 2 rfl) ?_
        refine q_iast (k := n) hx hb hK.1 hP hD hS 2 0 rfl rfl (by omega) (by omega) dX2_vertex_46 (fun H locs hP hD hS => ?_)
        have hP : va_P D vwCl [(m0, .inr (2, [.int (nI wd), .int (nI hg), .int (nI cap), .ref aP, .ref ax, .ref ay, .int (nI n), .ref afx, .ref afy, .ref atx, .ref aty, .int fr, .int tt, .int x0, .int x1, .int y0, .int y1])), (ax, .inl (cI, 60, .inl (upd xs n x))), (ay, .inl (cI, 60, .inl (upd ys n y)))] H := hP
        have hD : va_D A [(m0, .inr (2, [.int (nI wd), .int (nI hg), .int (nI cap), .ref aP, .ref ax, .ref ay, .int (nI n), .ref afx, .ref afy, .ref atx, .ref aty, .int fr, .int tt, .int x0, .int x1, .int y0, .int y1])), (ax, .inl (cI, 60, .inl (upd xs n x))), (ay, .inl (cI, 60, .inl (upd ys n y)))] := hD
        refine lv_aload_n hx hb dX2_vertex_47 rfl (lv_at hl 0 rfl) ?_
        refine lv_dup hx hb dX2_vertex_48 rfl ?_
        refine va_get (D := D) (ci := 2) (v := .int (nI n)) (C := RX2) (T := TX2) (N := 17) hx hb hts nX2_vertex_X2 hown hK.1 hP 0 rfl rfl 6 (by decide) (hts (.fieldLink RX2 57 "PolygonFrameModel" "size" "I") (by decide +kernel)) (fun _ h9 => h9) rfl dX2_vertex_49 ?_
        refine lv_iconst (v := 1) hx hb dX2_vertex_52 (by decide) ?_
        refine lv_iadd hx hb dX2_vertex_53 ?_
        refine q_eq (nI_1 _) ?_
        refine va_put (D := D) (ci := 2) (v := .int (nI (n + 1))) (ty := .int) (C := RX2) (T := TX2) (N := 17) hx hb hts nX2_vertex_X2 tyX2 tyX2_ok nmX2 hown hK.1 hP hD hS 0 rfl rfl 6 (by decide) (hts (.fieldLink RX2 57 "PolygonFrameModel" "size" "I") (by decide +kernel)) (fun _ h9 => h9) rfl (tyX2_ok 6 (by decide)) rfl rfl (Nat.le_of_ble_eq_true rfl) dX2_vertex_54 (fun H locs hP hD hS => ?_)
        have hP : va_P D vwCl [(m0, .inr (2, [.int (nI wd), .int (nI hg), .int (nI cap), .ref aP, .ref ax, .ref ay, .int (nI (n + 1)), .ref afx, .ref afy, .ref atx, .ref aty, .int fr, .int tt, .int x0, .int x1, .int y0, .int y1])), (ax, .inl (cI, 60, .inl (upd xs n x))), (ay, .inl (cI, 60, .inl (upd ys n y)))] H := hP
        have hD : va_D A [(m0, .inr (2, [.int (nI wd), .int (nI hg), .int (nI cap), .ref aP, .ref ax, .ref ay, .int (nI (n + 1)), .ref afx, .ref afy, .ref atx, .ref aty, .int fr, .int tt, .int x0, .int x1, .int y0, .int y1])), (ax, .inl (cI, 60, .inl (upd xs n x))), (ay, .inl (cI, 60, .inl (upd ys n y)))] := hD
        refine lv_iconst (v := 1) hx hb dX2_vertex_57 (by decide) ?_
        exact W.zret (v := 1) hx hb hr rfl (fun t ht hW => ⟨⟨1, (n + 1, upd xs n x, upd ys n y), rfl, Or.inl ⟨⟨bI_ne c15, bI_ne c22, hlt⟩, rfl, rfl⟩, by rw [ht]; exact hP, by rw [hAe]; exact hD⟩, hS.F ht⟩) hS.2.2 dX2_vertex_58
      · skip
        refine lv_iconst (v := 0) hx hb dX2_vertex_25 (by decide) ?_
        exact W.zret (v := 0) hx hb hr rfl (fun t ht hW => ⟨⟨0, (n, xs, ys), rfl, Or.inr ⟨fun h => by rw [bI_eq0.mp c22] at h; exact absurd h.2.1 (by decide), rfl, rfl⟩, by rw [ht]; exact hP, by rw [hAe]; exact hD⟩, hS.F ht⟩) hS.2.2 dX2_vertex_26
theorem nX2_setClip_X2 : ∀ w ∈ wsX20, w ∈ wsX2_setClip := fun w h => List.mem_cons_of_mem _ (List.mem_append_right _ h)
set_option maxHeartbeats 4000000 in
set_option maxRecDepth 100000 in
theorem kX2_setClip (l : Launch) (D : va_G) (cI cZ : ClassId) (sz : Nat) (m0 aP ax ay afx afy atx aty wd hg cap n : Nat) (fr tt x0 x1 y0 y1 : Int32) (a0 b0 a1 b1 : Int32)  : Met l yX2_setClip wsX2_setClip ({ frames := 1, cells := 0, slots := 0, locals := 40 }) (va_Pc [.ref m0, .int a0, .int b0, .int a1, .int b1] (wrP D cI cZ sz [(m0, .inr (2, [.int (nI wd), .int (nI hg), .int (nI cap), .ref aP, .ref ax, .ref ay, .int (nI n), .ref afx, .ref afy, .ref atx, .ref aty, .int fr, .int tt, .int x0, .int x1, .int y0, .int y1]))])) (va_Qi (S := Int32 × Int32 × Int32 × Int32) (fun r u => ((coB a0 = true ∧ coB b0 = true ∧ coB a1 = true ∧ coB b1 = true ∧ a0 ≤ a1 ∧ b0 ≤ b1) ∧ r = 1 ∧ u = (a0, a1, b0, b1)) ∨ (¬ (coB a0 = true ∧ coB b0 = true ∧ coB a1 = true ∧ coB b1 = true ∧ a0 ≤ a1 ∧ b0 ≤ b1) ∧ r = 0 ∧ u = (x0, x1, y0, y1))) (wrB D [(m0, .inr (2, [.int (nI wd), .int (nI hg), .int (nI cap), .ref aP, .ref ax, .ref ay, .int (nI n), .ref afx, .ref afy, .ref atx, .ref aty, .int fr, .int tt, .int x0, .int x1, .int y0, .int y1]))] sz (fun u => [(m0, .inr (2, [.int (nI wd), .int (nI hg), .int (nI cap), .ref aP, .ref ax, .ref ay, .int (nI n), .ref afx, .ref afy, .ref atx, .ref aty, .int fr, .int tt, .int u.1, .int u.2.1, .int u.2.2.1, .int u.2.2.2]))])) (va_A [(m0, .inr (2, [.int (nI wd), .int (nI hg), .int (nI cap), .ref aP, .ref ax, .ref ay, .int (nI n), .ref afx, .ref afy, .ref atx, .ref aty, .int fr, .int tt, .int x0, .int x1, .int y0, .int y1]))] sz)) 0 0 (va_A [(m0, .inr (2, [.int (nI wd), .int (nI hg), .int (nI cap), .ref aP, .ref ax, .ref ay, .int (nI n), .ref afx, .ref afy, .ref atx, .ref aty, .int fr, .int tt, .int x0, .int x1, .int y0, .int y1]))] sz) := by
  refine Met.ofW (cc := cX2_setClip) (maxL := 5) (ret := (some .boolean)) (by decide) rfl ?_
  intro p e s m args below meth c s₁ B hml hv
  obtain ⟨rfl, hsz, hP, hK, hD0⟩ := hv
  have hx := B.exec
  have hb := B.bytes
  have hr := B.returns
  have hts := atoms_spec (ws := wsX2_setClip) B.pre
  have hown : s.vm.findClass RX2 = some m.cls := findClass_of_methodNamed B.named
  have hlocks := B.notSynchronized
  subst hsz
  have hD := hD0.self (sz := s.heap.size)
  generalize hAe : va_A [(m0, .inr (2, [.int (nI wd), .int (nI hg), .int (nI cap), .ref aP, .ref ax, .ref ay, .int (nI n), .ref afx, .ref afy, .ref atx, .ref aty, .int fr, .int tt, .int x0, .int x1, .int y0, .int y1]))] s.heap.size = A at hD ⊢
  have hA : ∀ q : Nat, s.heap.size ≤ q → A q := fun q h => by rw [← hAe]; exact Or.inr h
  have hS : va_S A s.heap s.heap [] := va_S.rf
  have hP : va_P D vwCl [(m0, .inr (2, [.int (nI wd), .int (nI hg), .int (nI cap), .ref aP, .ref ax, .ref ay, .int (nI n), .ref afx, .ref afy, .ref atx, .ref aty, .int fr, .int tt, .int x0, .int x1, .int y0, .int y1]))] s.heap := hP
  have hl := lv_entry ([.ref m0, .int a0, .int b0, .int a1, .int b1]) (n := 5) (Nat.le_of_ble_eq_true rfl)
  rw [lg_entry_eq]
  generalize (lg_sl ([.ref m0, .int a0, .int b0, .int a1, .int b1]) ++ List.replicate (5 - (lg_sl ([.ref m0, .int a0, .int b0, .int a1, .int b1])).length) Slot.unset).toArray = ls at hl ⊢
  have hl : lv_has ls 5 [(0, .ref m0), (1, .int a0), (2, .int b0), (3, .int a1), (4, .int b1)] := hl
  refine lv_iload_n hx hb dX2_setClip_0 rfl (lv_at hl 1 rfl) ?_
  refine rd_i (va_runS (As := [.int a0]) ⟨hx, hb, hml, hown, hts⟩ (kX2_isNear l D cI cZ a0) (va_cwS 1 hts gX2_setClip_X2_isNear rfl rfl rfl (by decide +kernel) ⟨Nat.le_of_ble_eq_true rfl, Nat.le_of_ble_eq_true rfl⟩) rd_pre0 rfl rfl hl.1 rfl (lv_room (Nat.le_of_ble_eq_true rfl)) dX2_setClip_1 ⟨Nat.zero_le _, Nat.zero_le _⟩) ?_
  refine lv_if_eq (tgt := 40) hx hb dX2_setClip_4 (by decide) (fun c4 => ?_) (fun c4 => ?_)
  · skip
    refine lv_iconst (v := 0) hx hb dX2_setClip_40 (by decide) ?_
    exact W.zret (v := 0) hx hb hr rfl (fun t ht hW => ⟨⟨0, (x0, x1, y0, y1), rfl, Or.inr ⟨fun h => by rw [bI_eq0.mp c4] at h; exact absurd h.1 (by decide), rfl, rfl⟩, by rw [ht]; exact hP, by rw [hAe]; exact hD⟩, hS.F ht⟩) hS.2.2 dX2_setClip_41
  · skip
    refine lv_iload_n hx hb dX2_setClip_7 rfl (lv_at hl 2 rfl) ?_
    refine rd_i (va_runS (As := [.int b0]) ⟨hx, hb, hml, hown, hts⟩ (kX2_isNear l D cI cZ b0) (va_cwS 1 hts gX2_setClip_X2_isNear rfl rfl rfl (by decide +kernel) ⟨Nat.le_of_ble_eq_true rfl, Nat.le_of_ble_eq_true rfl⟩) rd_pre0 rfl rfl hl.1 rfl (lv_room (Nat.le_of_ble_eq_true rfl)) dX2_setClip_8 ⟨Nat.zero_le _, Nat.zero_le _⟩) ?_
    refine lv_if_eq (tgt := 40) hx hb dX2_setClip_11 (by decide) (fun c11 => ?_) (fun c11 => ?_)
    · skip
      refine lv_iconst (v := 0) hx hb dX2_setClip_40 (by decide) ?_
      exact W.zret (v := 0) hx hb hr rfl (fun t ht hW => ⟨⟨0, (x0, x1, y0, y1), rfl, Or.inr ⟨fun h => by rw [bI_eq0.mp c11] at h; exact absurd h.2.1 (by decide), rfl, rfl⟩, by rw [ht]; exact hP, by rw [hAe]; exact hD⟩, hS.F ht⟩) hS.2.2 dX2_setClip_41
    · skip
      refine lv_iload_n hx hb dX2_setClip_14 rfl (lv_at hl 3 rfl) ?_
      refine rd_i (va_runS (As := [.int a1]) ⟨hx, hb, hml, hown, hts⟩ (kX2_isNear l D cI cZ a1) (va_cwS 1 hts gX2_setClip_X2_isNear rfl rfl rfl (by decide +kernel) ⟨Nat.le_of_ble_eq_true rfl, Nat.le_of_ble_eq_true rfl⟩) rd_pre0 rfl rfl hl.1 rfl (lv_room (Nat.le_of_ble_eq_true rfl)) dX2_setClip_15 ⟨Nat.zero_le _, Nat.zero_le _⟩) ?_
      refine lv_if_eq (tgt := 40) hx hb dX2_setClip_18 (by decide) (fun c18 => ?_) (fun c18 => ?_)
      · skip
        refine lv_iconst (v := 0) hx hb dX2_setClip_40 (by decide) ?_
        exact W.zret (v := 0) hx hb hr rfl (fun t ht hW => ⟨⟨0, (x0, x1, y0, y1), rfl, Or.inr ⟨fun h => by rw [bI_eq0.mp c18] at h; exact absurd h.2.2.1 (by decide), rfl, rfl⟩, by rw [ht]; exact hP, by rw [hAe]; exact hD⟩, hS.F ht⟩) hS.2.2 dX2_setClip_41
      · skip
        refine lv_iload hx hb dX2_setClip_21 (lv_at hl 4 rfl) ?_
        refine rd_i (va_runS (As := [.int b1]) ⟨hx, hb, hml, hown, hts⟩ (kX2_isNear l D cI cZ b1) (va_cwS 1 hts gX2_setClip_X2_isNear rfl rfl rfl (by decide +kernel) ⟨Nat.le_of_ble_eq_true rfl, Nat.le_of_ble_eq_true rfl⟩) rd_pre0 rfl rfl hl.1 rfl (lv_room (Nat.le_of_ble_eq_true rfl)) dX2_setClip_23 ⟨Nat.zero_le _, Nat.zero_le _⟩) ?_
        refine lv_if_eq (tgt := 40) hx hb dX2_setClip_26 (by decide) (fun c26 => ?_) (fun c26 => ?_)
        · skip
          refine lv_iconst (v := 0) hx hb dX2_setClip_40 (by decide) ?_
          exact W.zret (v := 0) hx hb hr rfl (fun t ht hW => ⟨⟨0, (x0, x1, y0, y1), rfl, Or.inr ⟨fun h => by rw [bI_eq0.mp c26] at h; exact absurd h.2.2.2.1 (by decide), rfl, rfl⟩, by rw [ht]; exact hP, by rw [hAe]; exact hD⟩, hS.F ht⟩) hS.2.2 dX2_setClip_41
        · skip
          refine lv_iload_n hx hb dX2_setClip_29 rfl (lv_at hl 1 rfl) ?_
          refine lv_iload_n hx hb dX2_setClip_30 rfl (lv_at hl 3 rfl) ?_
          refine lv_icmp_gt (tgt := 40) hx hb dX2_setClip_31 (by decide) (fun c31 => ?_) (fun c31 => ?_)
          · skip
            refine lv_iconst (v := 0) hx hb dX2_setClip_40 (by decide) ?_
            exact W.zret (v := 0) hx hb hr rfl (fun t ht hW => ⟨⟨0, (x0, x1, y0, y1), rfl, Or.inr ⟨fun h => absurd h.2.2.2.2.1 (Int32.not_le.mpr c31), rfl, rfl⟩, by rw [ht]; exact hP, by rw [hAe]; exact hD⟩, hS.F ht⟩) hS.2.2 dX2_setClip_41
          · skip
            refine lv_iload_n hx hb dX2_setClip_34 rfl (lv_at hl 2 rfl) ?_
            refine lv_iload hx hb dX2_setClip_35 (lv_at hl 4 rfl) ?_
            refine lv_icmp_le (tgt := 42) hx hb dX2_setClip_37 (by decide) (fun c37 => ?_) (fun c37 => ?_)
            · skip
              refine lv_aload_n hx hb dX2_setClip_42 rfl (lv_at hl 0 rfl) ?_
              refine lv_iload_n hx hb dX2_setClip_43 rfl (lv_at hl 1 rfl) ?_
              refine va_put (D := D) (ci := 2) (v := .int a0) (ty := .int) (C := RX2) (T := TX2) (N := 17) hx hb hts nX2_setClip_X2 tyX2 tyX2_ok nmX2 hown hK.1 hP hD hS 0 rfl rfl 13 (by decide) (hts (.fieldLink RX2 31 "PolygonFrameModel" "left" "I") (by decide +kernel)) (fun _ h9 => h9) rfl (tyX2_ok 13 (by decide)) rfl rfl (Nat.le_of_ble_eq_true rfl) dX2_setClip_44 (fun H locs hP hD hS => ?_)
              have hP : va_P D vwCl [(m0, .inr (2, [.int (nI wd), .int (nI hg), .int (nI cap), .ref aP, .ref ax, .ref ay, .int (nI n), .ref afx, .ref afy, .ref atx, .ref aty, .int fr, .int tt, .int a0, .int x1, .int y0, .int y1]))] H := hP
              have hD : va_D A [(m0, .inr (2, [.int (nI wd), .int (nI hg), .int (nI cap), .ref aP, .ref ax, .ref ay, .int (nI n), .ref afx, .ref afy, .ref atx, .ref aty, .int fr, .int tt, .int a0, .int x1, .int y0, .int y1]))] := hD
              refine lv_aload_n hx hb dX2_setClip_47 rfl (lv_at hl 0 rfl) ?_
              refine lv_iload_n hx hb dX2_setClip_48 rfl (lv_at hl 3 rfl) ?_
              refine va_put (D := D) (ci := 2) (v := .int a1) (ty := .int) (C := RX2) (T := TX2) (N := 17) hx hb hts nX2_setClip_X2 tyX2 tyX2_ok nmX2 hown hK.1 hP hD hS 0 rfl rfl 14 (by decide) (hts (.fieldLink RX2 35 "PolygonFrameModel" "right" "I") (by decide +kernel)) (fun _ h9 => h9) rfl (tyX2_ok 14 (by decide)) rfl rfl (Nat.le_of_ble_eq_true rfl) dX2_setClip_49 (fun H locs hP hD hS => ?_)
              have hP : va_P D vwCl [(m0, .inr (2, [.int (nI wd), .int (nI hg), .int (nI cap), .ref aP, .ref ax, .ref ay, .int (nI n), .ref afx, .ref afy, .ref atx, .ref aty, .int fr, .int tt, .int a0, .int a1, .int y0, .int y1]))] H := hP
              have hD : va_D A [(m0, .inr (2, [.int (nI wd), .int (nI hg), .int (nI cap), .ref aP, .ref ax, .ref ay, .int (nI n), .ref afx, .ref afy, .ref atx, .ref aty, .int fr, .int tt, .int a0, .int a1, .int y0, .int y1]))] := hD
              refine lv_aload_n hx hb dX2_setClip_52 rfl (lv_at hl 0 rfl) ?_
              refine lv_iload_n hx hb dX2_setClip_53 rfl (lv_at hl 2 rfl) ?_
              refine va_put (D := D) (ci := 2) (v := .int b0) (ty := .int) (C := RX2) (T := TX2) (N := 17) hx hb hts nX2_setClip_X2 tyX2 tyX2_ok nmX2 hown hK.1 hP hD hS 0 rfl rfl 15 (by decide) (hts (.fieldLink RX2 38 "PolygonFrameModel" "low" "I") (by decide +kernel)) (fun _ h9 => h9) rfl (tyX2_ok 15 (by decide)) rfl rfl (Nat.le_of_ble_eq_true rfl) dX2_setClip_54 (fun H locs hP hD hS => ?_)
              have hP : va_P D vwCl [(m0, .inr (2, [.int (nI wd), .int (nI hg), .int (nI cap), .ref aP, .ref ax, .ref ay, .int (nI n), .ref afx, .ref afy, .ref atx, .ref aty, .int fr, .int tt, .int a0, .int a1, .int b0, .int y1]))] H := hP
              have hD : va_D A [(m0, .inr (2, [.int (nI wd), .int (nI hg), .int (nI cap), .ref aP, .ref ax, .ref ay, .int (nI n), .ref afx, .ref afy, .ref atx, .ref aty, .int fr, .int tt, .int a0, .int a1, .int b0, .int y1]))] := hD
              refine lv_aload_n hx hb dX2_setClip_57 rfl (lv_at hl 0 rfl) ?_
              refine lv_iload hx hb dX2_setClip_58 (lv_at hl 4 rfl) ?_
              refine va_put (D := D) (ci := 2) (v := .int b1) (ty := .int) (C := RX2) (T := TX2) (N := 17) hx hb hts nX2_setClip_X2 tyX2 tyX2_ok nmX2 hown hK.1 hP hD hS 0 rfl rfl 16 (by decide) (hts (.fieldLink RX2 41 "PolygonFrameModel" "top" "I") (by decide +kernel)) (fun _ h9 => h9) rfl (tyX2_ok 16 (by decide)) rfl rfl (Nat.le_of_ble_eq_true rfl) dX2_setClip_60 (fun H locs hP hD hS => ?_)
              have hP : va_P D vwCl [(m0, .inr (2, [.int (nI wd), .int (nI hg), .int (nI cap), .ref aP, .ref ax, .ref ay, .int (nI n), .ref afx, .ref afy, .ref atx, .ref aty, .int fr, .int tt, .int a0, .int a1, .int b0, .int b1]))] H := hP
              have hD : va_D A [(m0, .inr (2, [.int (nI wd), .int (nI hg), .int (nI cap), .ref aP, .ref ax, .ref ay, .int (nI n), .ref afx, .ref afy, .ref atx, .ref aty, .int fr, .int tt, .int a0, .int a1, .int b0, .int b1]))] := hD
              refine lv_iconst (v := 1) hx hb dX2_setClip_63 (by decide) ?_
              exact W.zret (v := 1) hx hb hr rfl (fun t ht hW => ⟨⟨1, (a0, a1, b0, b1), rfl, Or.inl ⟨⟨bI_ne c4, bI_ne c11, bI_ne c18, bI_ne c26, Int32.not_lt.mp c31, c37⟩, rfl, rfl⟩, by rw [ht]; exact hP, by rw [hAe]; exact hD⟩, hS.F ht⟩) hS.2.2 dX2_setClip_64
            · skip
              refine lv_iconst (v := 0) hx hb dX2_setClip_40 (by decide) ?_
              exact W.zret (v := 0) hx hb hr rfl (fun t ht hW => ⟨⟨0, (x0, x1, y0, y1), rfl, Or.inr ⟨fun h => c37 h.2.2.2.2.2, rfl, rfl⟩, by rw [ht]; exact hP, by rw [hAe]; exact hD⟩, hS.F ht⟩) hS.2.2 dX2_setClip_41
theorem nX2_clear_X2 : ∀ w ∈ wsX20, w ∈ wsX2_clear := fun w h => List.mem_cons_of_mem _ (List.mem_append_right _ h)
set_option maxHeartbeats 4000000 in
set_option maxRecDepth 100000 in
theorem kX2_clear (l : Launch) (D : va_G) (cI cZ : ClassId) (sz : Nat) (m0 aP ax ay afx afy atx aty wd hg cap n : Nat) (fr tt x0 x1 y0 y1 : Int32) (col : Nat → Int32) (v : Int32)  : Met l yX2_clear wsX2_clear ({ frames := 0, cells := 0, slots := 0, locals := 0 }) (va_Pc [.ref m0, .int v] (wrP D cI cZ sz [(m0, .inr (2, [.int (nI wd), .int (nI hg), .int (nI cap), .ref aP, .ref ax, .ref ay, .int (nI n), .ref afx, .ref afy, .ref atx, .ref aty, .int fr, .int tt, .int x0, .int x1, .int y0, .int y1])), (aP, .inl (cI, 576, .inl col))])) (va_Qv (S := Unit) (fun _ => True) (wrB D [(m0, .inr (2, [.int (nI wd), .int (nI hg), .int (nI cap), .ref aP, .ref ax, .ref ay, .int (nI n), .ref afx, .ref afy, .ref atx, .ref aty, .int fr, .int tt, .int x0, .int x1, .int y0, .int y1])), (aP, .inl (cI, 576, .inl col))] sz (fun _ => [(m0, .inr (2, [.int (nI wd), .int (nI hg), .int (nI cap), .ref aP, .ref ax, .ref ay, .int (nI n), .ref afx, .ref afy, .ref atx, .ref aty, .int fr, .int tt, .int x0, .int x1, .int y0, .int y1])), (aP, .inl (cI, 576, .inl (flN col v 576)))])) (va_A [(m0, .inr (2, [.int (nI wd), .int (nI hg), .int (nI cap), .ref aP, .ref ax, .ref ay, .int (nI n), .ref afx, .ref afy, .ref atx, .ref aty, .int fr, .int tt, .int x0, .int x1, .int y0, .int y1])), (aP, .inl (cI, 576, .inl col))] sz)) 0 0 (va_A [(m0, .inr (2, [.int (nI wd), .int (nI hg), .int (nI cap), .ref aP, .ref ax, .ref ay, .int (nI n), .ref afx, .ref afy, .ref atx, .ref aty, .int fr, .int tt, .int x0, .int x1, .int y0, .int y1])), (aP, .inl (cI, 576, .inl col))] sz) := by
  refine Met.ofW (cc := cX2_clear) (maxL := 3) (ret := none) (by decide) rfl ?_
  intro p e s m args below meth c s₁ B hml hv
  obtain ⟨rfl, hsz, hP, hK, hD0⟩ := hv
  have hx := B.exec
  have hb := B.bytes
  have hr := B.returns
  have hts := atoms_spec (ws := wsX2_clear) B.pre
  have hown : s.vm.findClass RX2 = some m.cls := findClass_of_methodNamed B.named
  have hlocks := B.notSynchronized
  subst hsz
  have hD := hD0.self (sz := s.heap.size)
  generalize hAe : va_A [(m0, .inr (2, [.int (nI wd), .int (nI hg), .int (nI cap), .ref aP, .ref ax, .ref ay, .int (nI n), .ref afx, .ref afy, .ref atx, .ref aty, .int fr, .int tt, .int x0, .int x1, .int y0, .int y1])), (aP, .inl (cI, 576, .inl col))] s.heap.size = A at hD ⊢
  have hA : ∀ q : Nat, s.heap.size ≤ q → A q := fun q h => by rw [← hAe]; exact Or.inr h
  have hS : va_S A s.heap s.heap [] := va_S.rf
  have hP : va_P D vwCl [(m0, .inr (2, [.int (nI wd), .int (nI hg), .int (nI cap), .ref aP, .ref ax, .ref ay, .int (nI n), .ref afx, .ref afy, .ref atx, .ref aty, .int fr, .int tt, .int x0, .int x1, .int y0, .int y1])), (aP, .inl (cI, 576, .inl col))] s.heap := hP
  have hl := lv_entry ([.ref m0, .int v]) (n := 3) (Nat.le_of_ble_eq_true rfl)
  rw [lg_entry_eq]
  generalize (lg_sl ([.ref m0, .int v]) ++ List.replicate (3 - (lg_sl ([.ref m0, .int v])).length) Slot.unset).toArray = ls at hl ⊢
  have hl : lv_has ls 3 [(0, .ref m0), (1, .int v)] := hl
  have LOOP : ∀ (j k : Nat), k ≤ 576 → 576 < k + j → ∀ (H : Heap) (locs : List Loc), va_P D vwCl [(m0, .inr (2, [.int (nI wd), .int (nI hg), .int (nI cap), .ref aP, .ref ax, .ref ay, .int (nI n), .ref afx, .ref afy, .ref atx, .ref aty, .int fr, .int tt, .int x0, .int x1, .int y0, .int y1])), (aP, .inl (cI, 576, .inl (flN col v k)))] H → va_D A [(m0, .inr (2, [.int (nI wd), .int (nI hg), .int (nI cap), .ref aP, .ref ax, .ref ay, .int (nI n), .ref afx, .ref afy, .ref atx, .ref aty, .int fr, .int tt, .int x0, .int x1, .int y0, .int y1])), (aP, .inl (cI, 576, .inl (flN col v k)))] → va_S A s.heap H locs → ∀ ls : Array Slot, lv_has ls 3 [(0, .ref m0), (1, .int v), (2, .int (nI k))] → W p l e ({ frames := 0, cells := 0, slots := 0, locals := 0 } : Room) s m #[.ref m0, .int v] below meth c H locs 0 0 (MQ below (va_Qv (S := Unit) (fun _ => True) (wrB D [(m0, .inr (2, [.int (nI wd), .int (nI hg), .int (nI cap), .ref aP, .ref ax, .ref ay, .int (nI n), .ref afx, .ref afy, .ref atx, .ref aty, .int fr, .int tt, .int x0, .int x1, .int y0, .int y1])), (aP, .inl (cI, 576, .inl col))] s.heap.size (fun _ => [(m0, .inr (2, [.int (nI wd), .int (nI hg), .int (nI cap), .ref aP, .ref ax, .ref ay, .int (nI n), .ref afx, .ref afy, .ref atx, .ref aty, .int fr, .int tt, .int x0, .int x1, .int y0, .int y1])), (aP, .inl (cI, 576, .inl (flN col v 576)))])) A) #[.ref m0, .int v] s 0 0 A) (F0 m 2 ls []) := by
    intro j
    induction j with
    | zero => intro k h1 h2; omega
    | succ j ih =>
      intro k hk hkj H locs hP hD hS ls hl
      refine lv_iload_n hx hb dX2_clear_2 rfl (lv_at hl 2 rfl) ?_
      refine lv_sipush (v := 576) hx hb dX2_clear_3 (by decide) ?_
      refine lv_icmp_ge (tgt := 22) hx hb dX2_clear_6 (by decide) (fun c6 => ?_) (fun c6 => ?_)
      · skip
        have hkn : k = 576 := Nat.le_antisymm hk ((nI_leI (a := 576) (by omega) (by omega)).mp c6)
        subst hkn
        exact W.vret hx hb hr (fun t ht hW => ⟨⟨(), rfl, trivial, by rw [ht]; exact hP, by rw [hAe]; exact hD⟩, hS.F ht⟩) hS.2.2 dX2_clear_22
      · skip
        have hk2 : k < 576 := Nat.lt_of_not_le (fun h => c6 (nI_le (a := 576) h (by omega)))
        refine lv_aload_n hx hb dX2_clear_9 rfl (lv_at hl 0 rfl) ?_
        refine va_get (D := D) (ci := 2) (v := .ref aP) (C := RX2) (T := TX2) (N := 17) hx hb hts nX2_clear_X2 hown hK.1 hP 0 rfl rfl 3 (by decide) (hts (.fieldLink RX2 7 "PolygonFrameModel" "pixels" "[I") (by decide +kernel)) (fun _ h9 => h9) rfl dX2_clear_10 ?_
        refine lv_iload_n hx hb dX2_clear_13 rfl (lv_at hl 2 rfl) ?_
        refine lv_iload_n hx hb dX2_clear_14 rfl (lv_at hl 1 rfl) ?_
        refine q_iast (k := k) hx hb hK.1 hP hD hS 1 0 rfl rfl (by omega) (by omega) dX2_clear_15 (fun H locs hP hD hS => ?_)
        have hP : va_P D vwCl [(m0, .inr (2, [.int (nI wd), .int (nI hg), .int (nI cap), .ref aP, .ref ax, .ref ay, .int (nI n), .ref afx, .ref afy, .ref atx, .ref aty, .int fr, .int tt, .int x0, .int x1, .int y0, .int y1])), (aP, .inl (cI, 576, .inl (upd (flN col v k) k v)))] H := hP
        have hD : va_D A [(m0, .inr (2, [.int (nI wd), .int (nI hg), .int (nI cap), .ref aP, .ref ax, .ref ay, .int (nI n), .ref afx, .ref afy, .ref atx, .ref aty, .int fr, .int tt, .int x0, .int x1, .int y0, .int y1])), (aP, .inl (cI, 576, .inl (upd (flN col v k) k v)))] := hD
        refine lv_iinc (v := (nI (k + 1))) (lv' := [(2, .int (nI (k + 1))), (0, .ref m0), (1, .int v)]) hx hb dX2_clear_16 hl (k := 2) rfl (nI_1 _) (by decide) rfl (fun ls hl => ?_)
        refine lv_goto (tgt := 2) hx hb dX2_clear_19 (by decide) ?_
        rw [flN_s] at hP hD
        exact ih (k + 1) (by omega) (by omega) H locs hP hD hS ls (lv_sub hl [1, 2, 0] rfl)
  refine lv_iconst (v := 0) hx hb dX2_clear_0 (by decide) ?_
  refine lv_istore_n (lv' := [(2, .int 0), (0, .ref m0), (1, .int v)]) hx hb dX2_clear_1 rfl hl (by decide) rfl (fun ls hl => ?_)
  exact LOOP (576 + 1) 0 (Nat.zero_le _) (by omega) s.heap [] hP hD hS ls (lv_sub hl [1, 2, 0] rfl)
/-- a vertex more among those behind a pass; beyond the most it is counted alone -/
def adP (cap : Nat) (u : Nat × (Nat → Int32) × (Nat → Int32)) (x y : Int32) : Nat × (Nat → Int32) × (Nat → Int32) := if u.1 < cap then (u.1 + 1, upd u.2.1 u.1 x, upd u.2.2 u.1 y) else (u.1 + 1, u.2.1, u.2.2)
/-- the reference's cut: the new vertex -/
def ctX (side : Nat) (a b c d x0 x1 : Int32) : Int32 × Int32 → Int32 × Int32 := fun w => if side < 2 then ((if side = 0 then x0 else x1), b + qt_i ((d - b) * ((if side = 0 then x0 else x1) - a)) (c - a)) else (a + qt_i ((c - a) * ((if side = 2 then w.1 else w.2) - b)) (d - b), (if side = 2 then w.1 else w.2))
theorem nX2_add_X2 : ∀ w ∈ wsX20, w ∈ wsX2_add := fun w h => List.mem_cons_of_mem _ (List.mem_append_right _ h)
set_option maxHeartbeats 4000000 in
set_option maxRecDepth 100000 in
theorem kX2_add (l : Launch) (D : va_G) (cI cZ : ClassId) (sz : Nat) (m0 aP ax ay afx afy atx aty wd hg cap n : Nat) (fr x0 x1 y0 y1 : Int32) (u : Nat × (Nat → Int32) × (Nat → Int32)) (x y : Int32) (hu : u.1 ≤ 1000) (hc : cap ≤ 60) : Met l yX2_add wsX2_add ({ frames := 0, cells := 0, slots := 0, locals := 0 }) (va_Pc [.ref m0, .int x, .int y] (wrP D cI cZ sz [(m0, .inr (2, [.int (nI wd), .int (nI hg), .int (nI cap), .ref aP, .ref ax, .ref ay, .int (nI n), .ref afx, .ref afy, .ref atx, .ref aty, .int fr, .int (nI u.1), .int x0, .int x1, .int y0, .int y1])), (atx, .inl (cI, 60, .inl u.2.1)), (aty, .inl (cI, 60, .inl u.2.2))])) (va_Qv (S := Nat × (Nat → Int32) × (Nat → Int32)) (fun z => z = (adP cap u x y)) (wrB D [(m0, .inr (2, [.int (nI wd), .int (nI hg), .int (nI cap), .ref aP, .ref ax, .ref ay, .int (nI n), .ref afx, .ref afy, .ref atx, .ref aty, .int fr, .int (nI u.1), .int x0, .int x1, .int y0, .int y1])), (atx, .inl (cI, 60, .inl u.2.1)), (aty, .inl (cI, 60, .inl u.2.2))] sz (fun z => [(m0, .inr (2, [.int (nI wd), .int (nI hg), .int (nI cap), .ref aP, .ref ax, .ref ay, .int (nI n), .ref afx, .ref afy, .ref atx, .ref aty, .int fr, .int (nI z.1), .int x0, .int x1, .int y0, .int y1])), (atx, .inl (cI, 60, .inl z.2.1)), (aty, .inl (cI, 60, .inl z.2.2))])) (va_A [(m0, .inr (2, [.int (nI wd), .int (nI hg), .int (nI cap), .ref aP, .ref ax, .ref ay, .int (nI n), .ref afx, .ref afy, .ref atx, .ref aty, .int fr, .int (nI u.1), .int x0, .int x1, .int y0, .int y1])), (atx, .inl (cI, 60, .inl u.2.1)), (aty, .inl (cI, 60, .inl u.2.2))] sz)) 0 0 (va_A [(m0, .inr (2, [.int (nI wd), .int (nI hg), .int (nI cap), .ref aP, .ref ax, .ref ay, .int (nI n), .ref afx, .ref afy, .ref atx, .ref aty, .int fr, .int (nI u.1), .int x0, .int x1, .int y0, .int y1])), (atx, .inl (cI, 60, .inl u.2.1)), (aty, .inl (cI, 60, .inl u.2.2))] sz) := by
  refine Met.ofW (cc := cX2_add) (maxL := 3) (ret := none) (by decide) rfl ?_
  intro p e s m args below meth c s₁ B hml hv
  obtain ⟨rfl, hsz, hP, hK, hD0⟩ := hv
  have hx := B.exec
  have hb := B.bytes
  have hr := B.returns
  have hts := atoms_spec (ws := wsX2_add) B.pre
  have hown : s.vm.findClass RX2 = some m.cls := findClass_of_methodNamed B.named
  have hlocks := B.notSynchronized
  subst hsz
  have hD := hD0.self (sz := s.heap.size)
  generalize hAe : va_A [(m0, .inr (2, [.int (nI wd), .int (nI hg), .int (nI cap), .ref aP, .ref ax, .ref ay, .int (nI n), .ref afx, .ref afy, .ref atx, .ref aty, .int fr, .int (nI u.1), .int x0, .int x1, .int y0, .int y1])), (atx, .inl (cI, 60, .inl u.2.1)), (aty, .inl (cI, 60, .inl u.2.2))] s.heap.size = A at hD ⊢
  have hA : ∀ q : Nat, s.heap.size ≤ q → A q := fun q h => by rw [← hAe]; exact Or.inr h
  have hS : va_S A s.heap s.heap [] := va_S.rf
  have hP : va_P D vwCl [(m0, .inr (2, [.int (nI wd), .int (nI hg), .int (nI cap), .ref aP, .ref ax, .ref ay, .int (nI n), .ref afx, .ref afy, .ref atx, .ref aty, .int fr, .int (nI u.1), .int x0, .int x1, .int y0, .int y1])), (atx, .inl (cI, 60, .inl u.2.1)), (aty, .inl (cI, 60, .inl u.2.2))] s.heap := hP
  have hl := lv_entry ([.ref m0, .int x, .int y]) (n := 3) (Nat.le_of_ble_eq_true rfl)
  rw [lg_entry_eq]
  generalize (lg_sl ([.ref m0, .int x, .int y]) ++ List.replicate (3 - (lg_sl ([.ref m0, .int x, .int y])).length) Slot.unset).toArray = ls at hl ⊢
  have hl : lv_has ls 3 [(0, .ref m0), (1, .int x), (2, .int y)] := hl
  refine lv_aload_n hx hb dX2_add_0 rfl (lv_at hl 0 rfl) ?_
  refine va_get (D := D) (ci := 2) (v := .int (nI u.1)) (C := RX2) (T := TX2) (N := 17) hx hb hts nX2_add_X2 hown hK.1 hP 0 rfl rfl 12 (by decide) (hts (.fieldLink RX2 64 "PolygonFrameModel" "to" "I") (by decide +kernel)) (fun _ h9 => h9) rfl dX2_add_1 ?_
  refine lv_aload_n hx hb dX2_add_4 rfl (lv_at hl 0 rfl) ?_
  refine va_get (D := D) (ci := 2) (v := .int (nI cap)) (C := RX2) (T := TX2) (N := 17) hx hb hts nX2_add_X2 hown hK.1 hP 0 rfl rfl 2 (by decide) (hts (.fieldLink RX2 54 "PolygonFrameModel" "most" "I") (by decide +kernel)) (fun _ h9 => h9) rfl dX2_add_5 ?_
  refine lv_icmp_ge (tgt := 31) hx hb dX2_add_8 (by decide) (fun c8 => ?_) (fun c8 => ?_)
  · skip
    refine lv_aload_n hx hb dX2_add_31 rfl (lv_at hl 0 rfl) ?_
    refine lv_dup hx hb dX2_add_32 rfl ?_
    refine va_get (D := D) (ci := 2) (v := .int (nI u.1)) (C := RX2) (T := TX2) (N := 17) hx hb hts nX2_add_X2 hown hK.1 hP 0 rfl rfl 12 (by decide) (hts (.fieldLink RX2 64 "PolygonFrameModel" "to" "I") (by decide +kernel)) (fun _ h9 => h9) rfl dX2_add_33 ?_
    refine lv_iconst (v := 1) hx hb dX2_add_36 (by decide) ?_
    refine lv_iadd hx hb dX2_add_37 ?_
    refine q_eq (nI_1 _) ?_
    refine va_put (D := D) (ci := 2) (v := .int (nI (u.1 + 1))) (ty := .int) (C := RX2) (T := TX2) (N := 17) hx hb hts nX2_add_X2 tyX2 tyX2_ok nmX2 hown hK.1 hP hD hS 0 rfl rfl 12 (by decide) (hts (.fieldLink RX2 64 "PolygonFrameModel" "to" "I") (by decide +kernel)) (fun _ h9 => h9) rfl (tyX2_ok 12 (by decide)) rfl rfl (Nat.le_of_ble_eq_true rfl) dX2_add_38 (fun H locs hP hD hS => ?_)
    have hP : va_P D vwCl [(m0, .inr (2, [.int (nI wd), .int (nI hg), .int (nI cap), .ref aP, .ref ax, .ref ay, .int (nI n), .ref afx, .ref afy, .ref atx, .ref aty, .int fr, .int (nI (u.1 + 1)), .int x0, .int x1, .int y0, .int y1])), (atx, .inl (cI, 60, .inl u.2.1)), (aty, .inl (cI, 60, .inl u.2.2))] H := hP
    have hD : va_D A [(m0, .inr (2, [.int (nI wd), .int (nI hg), .int (nI cap), .ref aP, .ref ax, .ref ay, .int (nI n), .ref afx, .ref afy, .ref atx, .ref aty, .int fr, .int (nI (u.1 + 1)), .int x0, .int x1, .int y0, .int y1])), (atx, .inl (cI, 60, .inl u.2.1)), (aty, .inl (cI, 60, .inl u.2.2))] := hD
    exact W.vret hx hb hr (fun t ht hW => ⟨⟨(adP cap u x y), rfl, rfl, by rw [ht]; rw [adP, if_neg (fun h => absurd (nI_lt h (by omega)) (Int32.not_lt.mpr c8))]; exact hP, by rw [hAe]; rw [adP, if_neg (fun h => absurd (nI_lt h (by omega)) (Int32.not_lt.mpr c8))]; exact hD⟩, hS.F ht⟩) hS.2.2 dX2_add_41
  · skip
    have hlt : u.1 < cap := Nat.lt_of_not_le (fun h => c8 (nI_le h (by omega)))
    refine lv_aload_n hx hb dX2_add_11 rfl (lv_at hl 0 rfl) ?_
    refine va_get (D := D) (ci := 2) (v := .ref atx) (C := RX2) (T := TX2) (N := 17) hx hb hts nX2_add_X2 hown hK.1 hP 0 rfl rfl 9 (by decide) (hts (.fieldLink RX2 25 "PolygonFrameModel" "toX" "[I") (by decide +kernel)) (fun _ h9 => h9) rfl dX2_add_12 ?_
    refine lv_aload_n hx hb dX2_add_15 rfl (lv_at hl 0 rfl) ?_
    refine va_get (D := D) (ci := 2) (v := .int (nI u.1)) (C := RX2) (T := TX2) (N := 17) hx hb hts nX2_add_X2 hown hK.1 hP 0 rfl rfl 12 (by decide) (hts (.fieldLink RX2 64 "PolygonFrameModel" "to" "I") (by decide +kernel)) (fun _ h9 => h9) rfl dX2_add_16 ?_
    refine lv_iload_n hx hb dX2_add_19 rfl (lv_at hl 1 rfl) ?_
    refine q_iast (k := u.1) hx hb hK.1 hP hD hS 1 0 rfl rfl (by omega) (by omega) dX2_add_20 (fun H locs hP hD hS => ?_)
    have hP : va_P D vwCl [(m0, .inr (2, [.int (nI wd), .int (nI hg), .int (nI cap), .ref aP, .ref ax, .ref ay, .int (nI n), .ref afx, .ref afy, .ref atx, .ref aty, .int fr, .int (nI u.1), .int x0, .int x1, .int y0, .int y1])), (atx, .inl (cI, 60, .inl (upd u.2.1 u.1 x))), (aty, .inl (cI, 60, .inl u.2.2))] H := hP
    have hD : va_D A [(m0, .inr (2, [.int (nI wd), .int (nI hg), .int (nI cap), .ref aP, .ref ax, .ref ay, .int (nI n), .ref afx, .ref afy, .ref atx, .ref aty, .int fr, .int (nI u.1), .int x0, .int x1, .int y0, .int y1])), (atx, .inl (cI, 60, .inl (upd u.2.1 u.1 x))), (aty, .inl (cI, 60, .inl u.2.2))] := hD
    refine lv_aload_n hx hb dX2_add_21 rfl (lv_at hl 0 rfl) ?_
    refine va_get (D := D) (ci := 2) (v := .ref aty) (C := RX2) (T := TX2) (N := 17) hx hb hts nX2_add_X2 hown hK.1 hP 0 rfl rfl 10 (by decide) (hts (.fieldLink RX2 28 "PolygonFrameModel" "toY" "[I") (by decide +kernel)) (fun _ h9 => h9) rfl dX2_add_22 ?_
    refine lv_aload_n hx hb dX2_add_25 rfl (lv_at hl 0 rfl) ?_
    refine va_get (D := D) (ci := 2) (v := .int (nI u.1)) (C := RX2) (T := TX2) (N := 17) hx hb hts nX2_add_X2 hown hK.1 hP 0 rfl rfl 12 (by decide) (hts (.fieldLink RX2 64 "PolygonFrameModel" "to" "I") (by decide +kernel)) (fun _ h9 => h9) rfl dX2_add_26 ?_
    refine lv_iload_n hx hb dX2_add_29 rfl (lv_at hl 2 rfl) ?_
    refine q_iast (k := u.1) hx hb hK.1 hP hD hS 2 0 rfl rfl (by omega) (by omega) dX2_add_30 (fun H locs hP hD hS => ?_)
    have hP : va_P D vwCl [(m0, .inr (2, [.int (nI wd), .int (nI hg), .int (nI cap), .ref aP, .ref ax, .ref ay, .int (nI n), .ref afx, .ref afy, .ref atx, .ref aty, .int fr, .int (nI u.1), .int x0, .int x1, .int y0, .int y1])), (atx, .inl (cI, 60, .inl (upd u.2.1 u.1 x))), (aty, .inl (cI, 60, .inl (upd u.2.2 u.1 y)))] H := hP
    have hD : va_D A [(m0, .inr (2, [.int (nI wd), .int (nI hg), .int (nI cap), .ref aP, .ref ax, .ref ay, .int (nI n), .ref afx, .ref afy, .ref atx, .ref aty, .int fr, .int (nI u.1), .int x0, .int x1, .int y0, .int y1])), (atx, .inl (cI, 60, .inl (upd u.2.1 u.1 x))), (aty, .inl (cI, 60, .inl (upd u.2.2 u.1 y)))] := hD
    refine lv_aload_n hx hb dX2_add_31 rfl (lv_at hl 0 rfl) ?_
    refine lv_dup hx hb dX2_add_32 rfl ?_
    refine va_get (D := D) (ci := 2) (v := .int (nI u.1)) (C := RX2) (T := TX2) (N := 17) hx hb hts nX2_add_X2 hown hK.1 hP 0 rfl rfl 12 (by decide) (hts (.fieldLink RX2 64 "PolygonFrameModel" "to" "I") (by decide +kernel)) (fun _ h9 => h9) rfl dX2_add_33 ?_
    refine lv_iconst (v := 1) hx hb dX2_add_36 (by decide) ?_
    refine lv_iadd hx hb dX2_add_37 ?_
    refine q_eq (nI_1 _) ?_
    refine va_put (D := D) (ci := 2) (v := .int (nI (u.1 + 1))) (ty := .int) (C := RX2) (T := TX2) (N := 17) hx hb hts nX2_add_X2 tyX2 tyX2_ok nmX2 hown hK.1 hP hD hS 0 rfl rfl 12 (by decide) (hts (.fieldLink RX2 64 "PolygonFrameModel" "to" "I") (by decide +kernel)) (fun _ h9 => h9) rfl (tyX2_ok 12 (by decide)) rfl rfl (Nat.le_of_ble_eq_true rfl) dX2_add_38 (fun H locs hP hD hS => ?_)
    have hP : va_P D vwCl [(m0, .inr (2, [.int (nI wd), .int (nI hg), .int (nI cap), .ref aP, .ref ax, .ref ay, .int (nI n), .ref afx, .ref afy, .ref atx, .ref aty, .int fr, .int (nI (u.1 + 1)), .int x0, .int x1, .int y0, .int y1])), (atx, .inl (cI, 60, .inl (upd u.2.1 u.1 x))), (aty, .inl (cI, 60, .inl (upd u.2.2 u.1 y)))] H := hP
    have hD : va_D A [(m0, .inr (2, [.int (nI wd), .int (nI hg), .int (nI cap), .ref aP, .ref ax, .ref ay, .int (nI n), .ref afx, .ref afy, .ref atx, .ref aty, .int fr, .int (nI (u.1 + 1)), .int x0, .int x1, .int y0, .int y1])), (atx, .inl (cI, 60, .inl (upd u.2.1 u.1 x))), (aty, .inl (cI, 60, .inl (upd u.2.2 u.1 y)))] := hD
    exact W.vret hx hb hr (fun t ht hW => ⟨⟨(adP cap u x y), rfl, rfl, by rw [ht]; rw [adP, if_pos hlt]; exact hP, by rw [hAe]; rw [adP, if_pos hlt]; exact hD⟩, hS.F ht⟩) hS.2.2 dX2_add_41
