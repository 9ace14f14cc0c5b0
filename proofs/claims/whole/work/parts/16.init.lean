/-! CONSTRUCTORS. -/
/-- the nearest number of a range, as a natural one -/
def nN (lo hi : Nat) (v : Int32) : Nat := (neI v (nI lo) (nI hi)).toNatClampNeg
theorem nN_ok {lo hi : Nat} (h : lo ≤ hi) (hh : hi < 1000) (v : Int32) : neI v (nI lo) (nI hi) = nI (nN lo hi v) ∧ lo ≤ nN lo hi v ∧ nN lo hi v ≤ hi := by
  have hm : ∃ j : Nat, lo ≤ j ∧ j ≤ hi ∧ neI v (nI lo) (nI hi) = nI j := by
    unfold neI
    by_cases h1 : v < nI hi
    · rw [if_pos h1]
      by_cases h2 : nI lo < v
      · rw [if_pos h2]
        rcases pk_ix v (n := hi) (by omega) with h3 | h3 | ⟨j, h3, h4⟩
        · exact absurd (Int32.lt_trans h2 h3) (nI_pos (by omega))
        · exact absurd (Int32.lt_of_lt_of_le h1 h3) Int32.lt_irrefl
        · rw [h4] at h2
          exact ⟨j, Nat.le_of_lt ((nI_ltI (by omega) (by omega)).mp h2), by omega, h4⟩
      · rw [if_neg h2]; exact ⟨lo, Nat.le_refl _, h, rfl⟩
    · rw [if_neg h1]
      by_cases h2 : nI lo < nI hi
      · rw [if_pos h2]; exact ⟨hi, h, Nat.le_refl _, rfl⟩
      · rw [if_neg h2]; exact ⟨lo, Nat.le_refl _, h, rfl⟩
  obtain ⟨j, hj, hj2, e⟩ := hm
  have e2 : nN lo hi v = j := by unfold nN; rw [e]; exact nI_clamp (by omega)
  rw [e2]; exact ⟨e, hj, hj2⟩
theorem bw_ne {v lo hi : Int32} (h : lo < hi) : bwI v lo hi = neI v lo hi := by
  unfold bwI neI
  simp only [Int32.lt_iff_toInt_lt, Int32.le_iff_toInt_le] at *
  by_cases h1 : lo.toInt ≤ v.toInt
  · rw [if_pos h1]
    by_cases h2 : v.toInt ≤ hi.toInt
    · rw [if_pos h2]
      by_cases h3 : v.toInt < hi.toInt
      · simp only [if_pos h3]
        by_cases h4 : lo.toInt < v.toInt
        · rw [if_pos h4]
        · rw [if_neg h4]; exact Int32.toInt_inj.mp (by omega)
      · simp only [if_neg h3, if_pos h]
        exact Int32.toInt_inj.mp (by omega)
    · rw [if_neg h2, if_neg (show ¬ v.toInt < hi.toInt by omega), if_pos h]
  · rw [if_neg h1, if_pos (show v.toInt < hi.toInt by omega), if_neg (by omega)]
theorem nX0_init_X0 : ∀ w ∈ wsX00, w ∈ wsX0_init := fun w h => List.mem_cons_of_mem _ (List.mem_append_right _ h)
set_option maxHeartbeats 4000000 in
set_option maxRecDepth 100000 in
theorem kX0_init (l : Launch) (D : va_G) (cI cZ : ClassId) (sz : Nat) (r0 cap : Nat) (hc : cap ≤ 60) : Met l yX0_init wsX0_init ({ frames := 1, cells := 2, slots := 120, locals := 20 }) (va_Pc [.ref r0, .int (nI cap)] (wrP D cI cZ sz [(r0, .inr (0, [.null, .null, .int 0]))])) (va_Qv (S := Nat × Nat) (fun _ => True) (wrB D [(r0, .inr (0, [.null, .null, .int 0]))] sz (fun u => [(r0, .inr (0, [.ref u.1, .ref u.2, .int 0])), (u.1, .inl (cI, cap, .inl (fun _ => 0))), (u.2, .inl (cI, cap, .inl (fun _ => 0)))])) (va_A [(r0, .inr (0, [.null, .null, .int 0]))] sz)) 2 120 (va_A [(r0, .inr (0, [.null, .null, .int 0]))] sz) := by
  refine Met.ofW (cc := cX0_init) (maxL := 2) (ret := none) (by decide) rfl ?_
  intro p e s m args below meth c s₁ B hml hv
  obtain ⟨rfl, hsz, hP, hK, hD0⟩ := hv
  have hx := B.exec
  have hb := B.bytes
  have hr := B.returns
  have hts := atoms_spec (ws := wsX0_init) B.pre
  have hown : s.vm.findClass RX0 = some m.cls := findClass_of_methodNamed B.named
  have hlocks := B.notSynchronized
  have hin : meth.name = "<init>" := (name_of_methodNamed B.named B.method).1
  subst hsz
  have hD := hD0.self (sz := s.heap.size)
  generalize hAe : va_A [(r0, .inr (0, [.null, .null, .int 0]))] s.heap.size = A at hD ⊢
  have hA : ∀ q : Nat, s.heap.size ≤ q → A q := fun q h => by rw [← hAe]; exact Or.inr h
  have hS : va_S A s.heap s.heap [] := va_S.rf
  have hP : va_P D vwCl [(r0, .inr (0, [.null, .null, .int 0]))] s.heap := hP
  have hl := lv_entry ([.ref r0, .int (nI cap)]) (n := 2) (Nat.le_of_ble_eq_true rfl)
  rw [lg_entry_eq]
  generalize (lg_sl ([.ref r0, .int (nI cap)]) ++ List.replicate (2 - (lg_sl ([.ref r0, .int (nI cap)])).length) Slot.unset).toArray = ls at hl ⊢
  have hl : lv_has ls 2 [(0, .ref r0), (1, .int (nI cap))] := hl
  refine lv_aload_n hx hb dX0_init_0 rfl (lv_at hl 0 rfl) ?_
  refine W.objInit hx hb hown (hts (.methodLink RX0 1 objectInit) (by decide +kernel)) (hts (.instanceMethod objectInit) (by decide +kernel)) (hts _ (List.mem_cons_of_mem _ (List.mem_append_left _ (List.mem_of_getElem? (i := 2) rfl)))) rfl (by rw [hml]; exact hl.1) rfl dX0_init_1 (Nat.le_of_ble_eq_true rfl) (Nat.le_of_ble_eq_true rfl) ?_
  refine W.eq (g2 := F0 m 4 ls []) rfl ?_
  refine lv_aload_n hx hb dX0_init_4 rfl (lv_at hl 0 rfl) ?_
  refine lv_iload_n hx hb dX0_init_5 rfl (lv_at hl 1 rfl) ?_
  refine va_newa (atype := .int) (ty := .int) (N' := cap) (a0 := (cap, .inl (fun _ => 0))) hx hb (hts (.arrayClass .int) (by decide +kernel)) rfl hK.1 hP hD hS hA (fun _ => rfl) (nI_pos (by omega)) (nI_clamp (by omega)) (Nat.le_trans (Nat.mul_le_mul_right _ (show cap ≤ 60 by omega)) (by decide)) (Nat.le_of_ble_eq_true rfl) (show 0 + cap ≤ 120 by omega) dX0_init_6 (fun a1 cA H hK2 hP hD hS => ?_)
  rw [pK.int hK2] at hP hD
  have hP : va_P D vwCl [(r0, .inr (0, [.null, .null, .int 0])), (a1, .inl (cI, cap, .inl (fun _ => 0)))] H := hP
  have hD : va_D A [(r0, .inr (0, [.null, .null, .int 0])), (a1, .inl (cI, cap, .inl (fun _ => 0)))] := hD
  refine W.widen (k := 1) (n := 60) (by omega) (by omega) ?_
  refine va_putF (D := D) (ci := 0) (v := .ref a1) (ty := .array .int) (C := RX0) (T := TX0) (N := 3) hx hb hts nX0_init_X0 tyX0 tyX0_ok nmX0 hown hK.1 hP hD hS 0 rfl rfl 0 (by decide) (hts (.fieldLink RX0 7 "PolygonFrame$Ring" "xs" "[I") (by decide +kernel)) (fun _ h9 => h9) rfl hin rfl (tyX0_ok 0 (by decide)) rfl rfl (Nat.le_of_ble_eq_true rfl) dX0_init_8 (fun H locs hP hD hS => ?_)
  have hP : va_P D vwCl [(r0, .inr (0, [.ref a1, .null, .int 0])), (a1, .inl (cI, cap, .inl (fun _ => 0)))] H := hP
  have hD : va_D A [(r0, .inr (0, [.ref a1, .null, .int 0])), (a1, .inl (cI, cap, .inl (fun _ => 0)))] := hD
  refine lv_aload_n hx hb dX0_init_11 rfl (lv_at hl 0 rfl) ?_
  refine lv_iload_n hx hb dX0_init_12 rfl (lv_at hl 1 rfl) ?_
  refine va_newa (atype := .int) (ty := .int) (N' := cap) (a0 := (cap, .inl (fun _ => 0))) hx hb (hts (.arrayClass .int) (by decide +kernel)) rfl hK.1 hP hD hS hA (fun _ => rfl) (nI_pos (by omega)) (nI_clamp (by omega)) (Nat.le_trans (Nat.mul_le_mul_right _ (show cap ≤ 60 by omega)) (by decide)) (Nat.le_of_ble_eq_true rfl) (show 60 + cap ≤ 120 by omega) dX0_init_13 (fun a2 cA H hK2 hP hD hS => ?_)
  rw [pK.int hK2] at hP hD
  have hP : va_P D vwCl [(r0, .inr (0, [.ref a1, .null, .int 0])), (a1, .inl (cI, cap, .inl (fun _ => 0))), (a2, .inl (cI, cap, .inl (fun _ => 0)))] H := hP
  have hD : va_D A [(r0, .inr (0, [.ref a1, .null, .int 0])), (a1, .inl (cI, cap, .inl (fun _ => 0))), (a2, .inl (cI, cap, .inl (fun _ => 0)))] := hD
  refine W.widen (k := 2) (n := 120) (by omega) (by omega) ?_
  refine va_putF (D := D) (ci := 0) (v := .ref a2) (ty := .array .int) (C := RX0) (T := TX0) (N := 3) hx hb hts nX0_init_X0 tyX0 tyX0_ok nmX0 hown hK.1 hP hD hS 0 rfl rfl 1 (by decide) (hts (.fieldLink RX0 13 "PolygonFrame$Ring" "ys" "[I") (by decide +kernel)) (fun _ h9 => h9) rfl hin rfl (tyX0_ok 1 (by decide)) rfl rfl (Nat.le_of_ble_eq_true rfl) dX0_init_15 (fun H locs hP hD hS => ?_)
  have hP : va_P D vwCl [(r0, .inr (0, [.ref a1, .ref a2, .int 0])), (a1, .inl (cI, cap, .inl (fun _ => 0))), (a2, .inl (cI, cap, .inl (fun _ => 0)))] H := hP
  have hD : va_D A [(r0, .inr (0, [.ref a1, .ref a2, .int 0])), (a1, .inl (cI, cap, .inl (fun _ => 0))), (a2, .inl (cI, cap, .inl (fun _ => 0)))] := hD
  refine lv_aload_n hx hb dX0_init_18 rfl (lv_at hl 0 rfl) ?_
  refine lv_iconst (v := 0) hx hb dX0_init_19 (by decide) ?_
  refine va_put (D := D) (ci := 0) (v := .int 0) (ty := .int) (C := RX0) (T := TX0) (N := 3) hx hb hts nX0_init_X0 tyX0 tyX0_ok nmX0 hown hK.1 hP hD hS 0 rfl rfl 2 (by decide) (hts (.fieldLink RX0 16 "PolygonFrame$Ring" "count" "I") (by decide +kernel)) (fun _ h9 => h9) rfl (tyX0_ok 2 (by decide)) rfl rfl (Nat.le_of_ble_eq_true rfl) dX0_init_20 (fun H locs hP hD hS => ?_)
  have hP : va_P D vwCl [(r0, .inr (0, [.ref a1, .ref a2, .int 0])), (a1, .inl (cI, cap, .inl (fun _ => 0))), (a2, .inl (cI, cap, .inl (fun _ => 0)))] H := hP
  have hD : va_D A [(r0, .inr (0, [.ref a1, .ref a2, .int 0])), (a1, .inl (cI, cap, .inl (fun _ => 0))), (a2, .inl (cI, cap, .inl (fun _ => 0)))] := hD
  refine W.widen (k := 2) (n := 120) (by omega) (by omega) ?_
  exact W.vret hx hb hr (fun t ht hW => ⟨⟨(a1, a2), rfl, trivial, by rw [ht]; exact hP, by rw [hAe]; exact hD⟩, hS.F ht⟩) hS.2.2 dX0_init_23
theorem nX1_init_X1 : ∀ w ∈ wsX10, w ∈ wsX1_init := fun w h => List.mem_cons_of_mem _ (List.mem_append_left _ (List.mem_append_right _ h))
theorem nX1_init_X0 : ∀ w ∈ wsX00, w ∈ wsX1_init := fun w h => List.mem_cons_of_mem _ (List.mem_append_right _ h)
set_option maxHeartbeats 4000000 in
set_option maxRecDepth 100000 in
theorem kX1_init (l : Launch) (D : va_G) (cI cZ : ClassId) (sz : Nat) (p0 : Nat) (w0 h0 v0 : Int32)  : Met l yX1_init wsX1_init ({ frames := 2, cells := 12, slots := 1000, locals := 60 }) (va_Pc [.ref p0, .int w0, .int h0, .int v0] (wrP D cI cZ sz [(p0, .inr (1, [.int 0, .int 0, .null, .null, .null, .null, .null, .null]))])) (va_Qv (S := Nat × Nat × Nat × Nat × Nat × Nat × Nat × Nat × Nat × Nat × Nat × Nat) (fun _ => True) (wrB D [(p0, .inr (1, [.int 0, .int 0, .null, .null, .null, .null, .null, .null]))] sz (fun u => [(p0, .inr (1, [.int (nI (nN 1 24 w0)), .int (nI (nN 1 24 h0)), .ref u.1, .ref u.2.1, .ref u.2.2.1, .ref u.2.2.2.1, .ref u.2.2.2.2.2.2.1, .ref u.2.2.2.2.2.2.2.2.2.1])), (u.1, .inl (cI, ((nN 1 24 w0) * (nN 1 24 h0)), .inl (fun _ => 0))), (u.2.1, .inl (cZ, ((nN 1 24 w0) + 1), .inl (fun _ => 0))), (u.2.2.1, .inl (cI, 4, .inl (upd (upd (upd (upd (fun _ => 0) 0 (-16384)) 1 16384) 2 (-16384)) 3 16384))), (u.2.2.2.1, .inr (0, [.ref u.2.2.2.2.1, .ref u.2.2.2.2.2.1, .int 0])), (u.2.2.2.2.1, .inl (cI, (nN 3 60 v0), .inl (fun _ => 0))), (u.2.2.2.2.2.1, .inl (cI, (nN 3 60 v0), .inl (fun _ => 0))), (u.2.2.2.2.2.2.1, .inr (0, [.ref u.2.2.2.2.2.2.2.1, .ref u.2.2.2.2.2.2.2.2.1, .int 0])), (u.2.2.2.2.2.2.2.1, .inl (cI, (nN 3 60 v0), .inl (fun _ => 0))), (u.2.2.2.2.2.2.2.2.1, .inl (cI, (nN 3 60 v0), .inl (fun _ => 0))), (u.2.2.2.2.2.2.2.2.2.1, .inr (0, [.ref u.2.2.2.2.2.2.2.2.2.2.1, .ref u.2.2.2.2.2.2.2.2.2.2.2, .int 0])), (u.2.2.2.2.2.2.2.2.2.2.1, .inl (cI, (nN 3 60 v0), .inl (fun _ => 0))), (u.2.2.2.2.2.2.2.2.2.2.2, .inl (cI, (nN 3 60 v0), .inl (fun _ => 0)))])) (va_A [(p0, .inr (1, [.int 0, .int 0, .null, .null, .null, .null, .null, .null]))] sz)) 12 1000 (va_A [(p0, .inr (1, [.int 0, .int 0, .null, .null, .null, .null, .null, .null]))] sz) := by
  refine Met.ofW (cc := cX1_init) (maxL := 5) (ret := none) (by decide) rfl ?_
  intro p e s m args below meth c s₁ B hml hv
  obtain ⟨rfl, hsz, hP, hK, hD0⟩ := hv
  have hx := B.exec
  have hb := B.bytes
  have hr := B.returns
  have hts := atoms_spec (ws := wsX1_init) B.pre
  have hown : s.vm.findClass RX1 = some m.cls := findClass_of_methodNamed B.named
  have hlocks := B.notSynchronized
  have hin : meth.name = "<init>" := (name_of_methodNamed B.named B.method).1
  subst hsz
  have hD := hD0.self (sz := s.heap.size)
  generalize hAe : va_A [(p0, .inr (1, [.int 0, .int 0, .null, .null, .null, .null, .null, .null]))] s.heap.size = A at hD ⊢
  have hA : ∀ q : Nat, s.heap.size ≤ q → A q := fun q h => by rw [← hAe]; exact Or.inr h
  have hS : va_S A s.heap s.heap [] := va_S.rf
  have hP : va_P D vwCl [(p0, .inr (1, [.int 0, .int 0, .null, .null, .null, .null, .null, .null]))] s.heap := hP
  have hl := lv_entry ([.ref p0, .int w0, .int h0, .int v0]) (n := 5) (Nat.le_of_ble_eq_true rfl)
  rw [lg_entry_eq]
  generalize (lg_sl ([.ref p0, .int w0, .int h0, .int v0]) ++ List.replicate (5 - (lg_sl ([.ref p0, .int w0, .int h0, .int v0])).length) Slot.unset).toArray = ls at hl ⊢
  have hl : lv_has ls 5 [(0, .ref p0), (1, .int w0), (2, .int h0), (3, .int v0)] := hl
  obtain ⟨ew, hw1, hw2⟩ := nN_ok (lo := 1) (hi := 24) (by decide) (by decide) w0
  obtain ⟨eh, hh1, hh2⟩ := nN_ok (lo := 1) (hi := 24) (by decide) (by decide) h0
  obtain ⟨ev, hv1, hv2⟩ := nN_ok (lo := 3) (hi := 60) (by decide) (by decide) v0
  have hwh : (nN 1 24 w0) * (nN 1 24 h0) ≤ 24 * 24 := Nat.mul_le_mul hw2 hh2
  refine lv_aload_n hx hb dX1_init_0 rfl (lv_at hl 0 rfl) ?_
  refine W.objInit hx hb hown (hts (.methodLink RX1 1 objectInit) (by decide +kernel)) (hts (.instanceMethod objectInit) (by decide +kernel)) (hts _ (List.mem_cons_of_mem _ (List.mem_append_left _ (List.mem_append_left _ (List.mem_append_left _ (List.mem_of_getElem? (l := wsX1_init_r1) (i := 2) rfl)))))) rfl (by rw [hml]; exact hl.1) rfl dX1_init_1 (Nat.le_of_ble_eq_true rfl) (Nat.le_of_ble_eq_true rfl) ?_
  refine W.eq (g2 := F0 m 4 ls []) rfl ?_
  refine lv_aload_n hx hb dX1_init_4 rfl (lv_at hl 0 rfl) ?_
  refine lv_iload_n hx hb dX1_init_5 rfl (lv_at hl 1 rfl) ?_
  refine lv_iconst (v := 1) hx hb dX1_init_6 (by decide) ?_
  refine lv_bipush (v := 24) hx hb dX1_init_7 (by decide) ?_
  refine rd_i (va_runS (As := [.int w0, .int 1, .int 24]) ⟨hx, hb, hml, hown, hts⟩ (kX1_nearest l D cI cZ w0 1 24) (va_cwS 3 hts gX1_init_X1_nearest rfl rfl rfl (by decide +kernel) ⟨Nat.le_of_ble_eq_true rfl, Nat.le_of_ble_eq_true rfl⟩) rd_pre0 rfl rfl hl.1 rfl (lv_room (Nat.le_of_ble_eq_true rfl)) dX1_init_9 ⟨Nat.le_of_ble_eq_true rfl, Nat.le_of_ble_eq_true rfl⟩) ?_
  refine q_eq ew ?_
  refine va_putF (D := D) (ci := 1) (v := .int (nI (nN 1 24 w0))) (ty := .int) (C := RX1) (T := TX1) (N := 8) hx hb hts nX1_init_X1 tyX1 tyX1_ok nmX1 hown hK.1 hP hD hS 0 rfl rfl 0 (by decide) (hts (.fieldLink RX1 13 "PolygonFrame" "width" "I") (by decide +kernel)) (fun _ h9 => h9) rfl hin rfl (tyX1_ok 0 (by decide)) rfl rfl (Nat.le_of_ble_eq_true rfl) dX1_init_12 (fun H locs hP hD hS => ?_)
  have hP : va_P D vwCl [(p0, .inr (1, [.int (nI (nN 1 24 w0)), .int 0, .null, .null, .null, .null, .null, .null]))] H := hP
  have hD : va_D A [(p0, .inr (1, [.int (nI (nN 1 24 w0)), .int 0, .null, .null, .null, .null, .null, .null]))] := hD
  refine lv_aload_n hx hb dX1_init_15 rfl (lv_at hl 0 rfl) ?_
  refine lv_iload_n hx hb dX1_init_16 rfl (lv_at hl 2 rfl) ?_
  refine lv_iconst (v := 1) hx hb dX1_init_17 (by decide) ?_
  refine lv_bipush (v := 24) hx hb dX1_init_18 (by decide) ?_
  refine rd_i (va_runS (As := [.int h0, .int 1, .int 24]) ⟨hx, hb, hml, hown, hts⟩ (kX1_nearest l D cI cZ h0 1 24) (va_cwS 3 hts gX1_init_X1_nearest rfl rfl rfl (by decide +kernel) ⟨Nat.le_of_ble_eq_true rfl, Nat.le_of_ble_eq_true rfl⟩) rd_pre0 rfl rfl hl.1 rfl (lv_room (Nat.le_of_ble_eq_true rfl)) dX1_init_20 ⟨Nat.le_of_ble_eq_true rfl, Nat.le_of_ble_eq_true rfl⟩) ?_
  refine q_eq eh ?_
  refine va_putF (D := D) (ci := 1) (v := .int (nI (nN 1 24 h0))) (ty := .int) (C := RX1) (T := TX1) (N := 8) hx hb hts nX1_init_X1 tyX1 tyX1_ok nmX1 hown hK.1 hP hD hS 0 rfl rfl 1 (by decide) (hts (.fieldLink RX1 17 "PolygonFrame" "height" "I") (by decide +kernel)) (fun _ h9 => h9) rfl hin rfl (tyX1_ok 1 (by decide)) rfl rfl (Nat.le_of_ble_eq_true rfl) dX1_init_23 (fun H locs hP hD hS => ?_)
  have hP : va_P D vwCl [(p0, .inr (1, [.int (nI (nN 1 24 w0)), .int (nI (nN 1 24 h0)), .null, .null, .null, .null, .null, .null]))] H := hP
  have hD : va_D A [(p0, .inr (1, [.int (nI (nN 1 24 w0)), .int (nI (nN 1 24 h0)), .null, .null, .null, .null, .null, .null]))] := hD
  refine lv_aload_n hx hb dX1_init_26 rfl (lv_at hl 0 rfl) ?_
  refine lv_aload_n hx hb dX1_init_27 rfl (lv_at hl 0 rfl) ?_
  refine va_get (D := D) (ci := 1) (v := .int (nI (nN 1 24 w0))) (C := RX1) (T := TX1) (N := 8) hx hb hts nX1_init_X1 hown hK.1 hP 0 rfl rfl 0 (by decide) (hts (.fieldLink RX1 13 "PolygonFrame" "width" "I") (by decide +kernel)) (fun _ h9 => h9) rfl dX1_init_28 ?_
  refine lv_aload_n hx hb dX1_init_31 rfl (lv_at hl 0 rfl) ?_
  refine va_get (D := D) (ci := 1) (v := .int (nI (nN 1 24 h0))) (C := RX1) (T := TX1) (N := 8) hx hb hts nX1_init_X1 hown hK.1 hP 0 rfl rfl 1 (by decide) (hts (.fieldLink RX1 17 "PolygonFrame" "height" "I") (by decide +kernel)) (fun _ h9 => h9) rfl dX1_init_32 ?_
  refine lv_imul hx hb dX1_init_35 ?_
  refine q_eq (pk_mul _ _) ?_
  refine va_newa (atype := .int) (ty := .int) (N' := ((nN 1 24 w0) * (nN 1 24 h0))) (a0 := (((nN 1 24 w0) * (nN 1 24 h0)), .inl (fun _ => 0))) hx hb (hts (.arrayClass .int) (by decide +kernel)) rfl hK.1 hP hD hS hA (fun _ => rfl) (nI_pos (by omega)) (nI_clamp (by omega)) (Nat.le_trans (Nat.mul_le_mul_right _ (show ((nN 1 24 w0) * (nN 1 24 h0)) ≤ 576 by omega)) (by decide)) (Nat.le_of_ble_eq_true rfl) (show 0 + ((nN 1 24 w0) * (nN 1 24 h0)) ≤ 1000 by omega) dX1_init_36 (fun aC cA H hK2 hP hD hS => ?_)
  rw [pK.int hK2] at hP hD
  have hP : va_P D vwCl [(p0, .inr (1, [.int (nI (nN 1 24 w0)), .int (nI (nN 1 24 h0)), .null, .null, .null, .null, .null, .null])), (aC, .inl (cI, ((nN 1 24 w0) * (nN 1 24 h0)), .inl (fun _ => 0)))] H := hP
  have hD : va_D A [(p0, .inr (1, [.int (nI (nN 1 24 w0)), .int (nI (nN 1 24 h0)), .null, .null, .null, .null, .null, .null])), (aC, .inl (cI, ((nN 1 24 w0) * (nN 1 24 h0)), .inl (fun _ => 0)))] := hD
  refine W.widen (k := 1) (n := 576) (by omega) (by omega) ?_
  refine va_putF (D := D) (ci := 1) (v := .ref aC) (ty := .array .int) (C := RX1) (T := TX1) (N := 8) hx hb hts nX1_init_X1 tyX1 tyX1_ok nmX1 hown hK.1 hP hD hS 0 rfl rfl 2 (by decide) (hts (.fieldLink RX1 20 "PolygonFrame" "colours" "[I") (by decide +kernel)) (fun _ h9 => h9) rfl hin rfl (tyX1_ok 2 (by decide)) rfl rfl (Nat.le_of_ble_eq_true rfl) dX1_init_38 (fun H locs hP hD hS => ?_)
  have hP : va_P D vwCl [(p0, .inr (1, [.int (nI (nN 1 24 w0)), .int (nI (nN 1 24 h0)), .ref aC, .null, .null, .null, .null, .null])), (aC, .inl (cI, ((nN 1 24 w0) * (nN 1 24 h0)), .inl (fun _ => 0)))] H := hP
  have hD : va_D A [(p0, .inr (1, [.int (nI (nN 1 24 w0)), .int (nI (nN 1 24 h0)), .ref aC, .null, .null, .null, .null, .null])), (aC, .inl (cI, ((nN 1 24 w0) * (nN 1 24 h0)), .inl (fun _ => 0)))] := hD
  refine lv_aload_n hx hb dX1_init_41 rfl (lv_at hl 0 rfl) ?_
  refine lv_aload_n hx hb dX1_init_42 rfl (lv_at hl 0 rfl) ?_
  refine va_get (D := D) (ci := 1) (v := .int (nI (nN 1 24 w0))) (C := RX1) (T := TX1) (N := 8) hx hb hts nX1_init_X1 hown hK.1 hP 0 rfl rfl 0 (by decide) (hts (.fieldLink RX1 13 "PolygonFrame" "width" "I") (by decide +kernel)) (fun _ h9 => h9) rfl dX1_init_43 ?_
  refine lv_iconst (v := 1) hx hb dX1_init_46 (by decide) ?_
  refine lv_iadd hx hb dX1_init_47 ?_
  refine q_eq (nI_1 _) ?_
  refine va_newa (atype := .boolean) (ty := .boolean) (N' := ((nN 1 24 w0) + 1)) (a0 := (((nN 1 24 w0) + 1), .inl (fun _ => 0))) hx hb (hts (.arrayClass .boolean) (by decide +kernel)) rfl hK.1 hP hD hS hA (fun _ => rfl) (nI_pos (by omega)) (nI_clamp (by omega)) (Nat.le_trans (Nat.mul_le_mul_right _ (show ((nN 1 24 w0) + 1) ≤ 25 by omega)) (by decide)) (Nat.le_of_ble_eq_true rfl) (show 576 + ((nN 1 24 w0) + 1) ≤ 1000 by omega) dX1_init_48 (fun aT cA H hK2 hP hD hS => ?_)
  rw [pK.bool hK2] at hP hD
  have hP : va_P D vwCl [(p0, .inr (1, [.int (nI (nN 1 24 w0)), .int (nI (nN 1 24 h0)), .ref aC, .null, .null, .null, .null, .null])), (aC, .inl (cI, ((nN 1 24 w0) * (nN 1 24 h0)), .inl (fun _ => 0))), (aT, .inl (cZ, ((nN 1 24 w0) + 1), .inl (fun _ => 0)))] H := hP
  have hD : va_D A [(p0, .inr (1, [.int (nI (nN 1 24 w0)), .int (nI (nN 1 24 h0)), .ref aC, .null, .null, .null, .null, .null])), (aC, .inl (cI, ((nN 1 24 w0) * (nN 1 24 h0)), .inl (fun _ => 0))), (aT, .inl (cZ, ((nN 1 24 w0) + 1), .inl (fun _ => 0)))] := hD
  refine W.widen (k := 2) (n := 601) (by omega) (by omega) ?_
  refine va_putF (D := D) (ci := 1) (v := .ref aT) (ty := .array .boolean) (C := RX1) (T := TX1) (N := 8) hx hb hts nX1_init_X1 tyX1 tyX1_ok nmX1 hown hK.1 hP hD hS 0 rfl rfl 3 (by decide) (hts (.fieldLink RX1 24 "PolygonFrame" "turns" "[Z") (by decide +kernel)) (fun _ h9 => h9) rfl hin rfl (tyX1_ok 3 (by decide)) rfl rfl (Nat.le_of_ble_eq_true rfl) dX1_init_50 (fun H locs hP hD hS => ?_)
  have hP : va_P D vwCl [(p0, .inr (1, [.int (nI (nN 1 24 w0)), .int (nI (nN 1 24 h0)), .ref aC, .ref aT, .null, .null, .null, .null])), (aC, .inl (cI, ((nN 1 24 w0) * (nN 1 24 h0)), .inl (fun _ => 0))), (aT, .inl (cZ, ((nN 1 24 w0) + 1), .inl (fun _ => 0)))] H := hP
  have hD : va_D A [(p0, .inr (1, [.int (nI (nN 1 24 w0)), .int (nI (nN 1 24 h0)), .ref aC, .ref aT, .null, .null, .null, .null])), (aC, .inl (cI, ((nN 1 24 w0) * (nN 1 24 h0)), .inl (fun _ => 0))), (aT, .inl (cZ, ((nN 1 24 w0) + 1), .inl (fun _ => 0)))] := hD
  refine lv_aload_n hx hb dX1_init_53 rfl (lv_at hl 0 rfl) ?_
  refine lv_iconst (v := 4) hx hb dX1_init_54 (by decide) ?_
  refine va_newa (atype := .int) (ty := .int) (N' := 4) (a0 := (4, .inl (fun _ => 0))) hx hb (hts (.arrayClass .int) (by decide +kernel)) rfl hK.1 hP hD hS hA (fun _ => rfl) (by decide) rfl (by decide) (Nat.le_of_ble_eq_true rfl) (Nat.le_of_ble_eq_true rfl) dX1_init_55 (fun aS cA H hK2 hP hD hS => ?_)
  rw [pK.int hK2] at hP hD
  have hP : va_P D vwCl [(p0, .inr (1, [.int (nI (nN 1 24 w0)), .int (nI (nN 1 24 h0)), .ref aC, .ref aT, .null, .null, .null, .null])), (aC, .inl (cI, ((nN 1 24 w0) * (nN 1 24 h0)), .inl (fun _ => 0))), (aT, .inl (cZ, ((nN 1 24 w0) + 1), .inl (fun _ => 0))), (aS, .inl (cI, 4, .inl (fun _ => 0)))] H := hP
  have hD : va_D A [(p0, .inr (1, [.int (nI (nN 1 24 w0)), .int (nI (nN 1 24 h0)), .ref aC, .ref aT, .null, .null, .null, .null])), (aC, .inl (cI, ((nN 1 24 w0) * (nN 1 24 h0)), .inl (fun _ => 0))), (aT, .inl (cZ, ((nN 1 24 w0) + 1), .inl (fun _ => 0))), (aS, .inl (cI, 4, .inl (fun _ => 0)))] := hD
  refine W.widen (k := 3) (n := 605) (by omega) (by omega) ?_
  refine lv_dup hx hb dX1_init_57 rfl ?_
  refine lv_iconst (v := 0) hx hb dX1_init_58 (by decide) ?_
  refine lv_sipush (v := (-16384)) hx hb dX1_init_59 (by decide) ?_
  refine q_iast (k := 0) hx hb hK.1 hP hD hS 3 0 rfl rfl (by omega) (by omega) dX1_init_62 (fun H locs hP hD hS => ?_)
  have hP : va_P D vwCl [(p0, .inr (1, [.int (nI (nN 1 24 w0)), .int (nI (nN 1 24 h0)), .ref aC, .ref aT, .null, .null, .null, .null])), (aC, .inl (cI, ((nN 1 24 w0) * (nN 1 24 h0)), .inl (fun _ => 0))), (aT, .inl (cZ, ((nN 1 24 w0) + 1), .inl (fun _ => 0))), (aS, .inl (cI, 4, .inl (upd (fun _ => 0) 0 (-16384))))] H := hP
  have hD : va_D A [(p0, .inr (1, [.int (nI (nN 1 24 w0)), .int (nI (nN 1 24 h0)), .ref aC, .ref aT, .null, .null, .null, .null])), (aC, .inl (cI, ((nN 1 24 w0) * (nN 1 24 h0)), .inl (fun _ => 0))), (aT, .inl (cZ, ((nN 1 24 w0) + 1), .inl (fun _ => 0))), (aS, .inl (cI, 4, .inl (upd (fun _ => 0) 0 (-16384))))] := hD
  refine lv_dup hx hb dX1_init_63 rfl ?_
  refine lv_iconst (v := 1) hx hb dX1_init_64 (by decide) ?_
  refine lv_sipush (v := 16384) hx hb dX1_init_65 (by decide) ?_
  refine q_iast (k := 1) hx hb hK.1 hP hD hS 3 0 rfl rfl (by omega) (by omega) dX1_init_68 (fun H locs hP hD hS => ?_)
  have hP : va_P D vwCl [(p0, .inr (1, [.int (nI (nN 1 24 w0)), .int (nI (nN 1 24 h0)), .ref aC, .ref aT, .null, .null, .null, .null])), (aC, .inl (cI, ((nN 1 24 w0) * (nN 1 24 h0)), .inl (fun _ => 0))), (aT, .inl (cZ, ((nN 1 24 w0) + 1), .inl (fun _ => 0))), (aS, .inl (cI, 4, .inl (upd (upd (fun _ => 0) 0 (-16384)) 1 16384)))] H := hP
  have hD : va_D A [(p0, .inr (1, [.int (nI (nN 1 24 w0)), .int (nI (nN 1 24 h0)), .ref aC, .ref aT, .null, .null, .null, .null])), (aC, .inl (cI, ((nN 1 24 w0) * (nN 1 24 h0)), .inl (fun _ => 0))), (aT, .inl (cZ, ((nN 1 24 w0) + 1), .inl (fun _ => 0))), (aS, .inl (cI, 4, .inl (upd (upd (fun _ => 0) 0 (-16384)) 1 16384)))] := hD
  refine lv_dup hx hb dX1_init_69 rfl ?_
  refine lv_iconst (v := 2) hx hb dX1_init_70 (by decide) ?_
  refine lv_sipush (v := (-16384)) hx hb dX1_init_71 (by decide) ?_
  refine q_iast (k := 2) hx hb hK.1 hP hD hS 3 0 rfl rfl (by omega) (by omega) dX1_init_74 (fun H locs hP hD hS => ?_)
  have hP : va_P D vwCl [(p0, .inr (1, [.int (nI (nN 1 24 w0)), .int (nI (nN 1 24 h0)), .ref aC, .ref aT, .null, .null, .null, .null])), (aC, .inl (cI, ((nN 1 24 w0) * (nN 1 24 h0)), .inl (fun _ => 0))), (aT, .inl (cZ, ((nN 1 24 w0) + 1), .inl (fun _ => 0))), (aS, .inl (cI, 4, .inl (upd (upd (upd (fun _ => 0) 0 (-16384)) 1 16384) 2 (-16384))))] H := hP
  have hD : va_D A [(p0, .inr (1, [.int (nI (nN 1 24 w0)), .int (nI (nN 1 24 h0)), .ref aC, .ref aT, .null, .null, .null, .null])), (aC, .inl (cI, ((nN 1 24 w0) * (nN 1 24 h0)), .inl (fun _ => 0))), (aT, .inl (cZ, ((nN 1 24 w0) + 1), .inl (fun _ => 0))), (aS, .inl (cI, 4, .inl (upd (upd (upd (fun _ => 0) 0 (-16384)) 1 16384) 2 (-16384))))] := hD
  refine lv_dup hx hb dX1_init_75 rfl ?_
  refine lv_iconst (v := 3) hx hb dX1_init_76 (by decide) ?_
  refine lv_sipush (v := 16384) hx hb dX1_init_77 (by decide) ?_
  refine q_iast (k := 3) hx hb hK.1 hP hD hS 3 0 rfl rfl (by omega) (by omega) dX1_init_80 (fun H locs hP hD hS => ?_)
  have hP : va_P D vwCl [(p0, .inr (1, [.int (nI (nN 1 24 w0)), .int (nI (nN 1 24 h0)), .ref aC, .ref aT, .null, .null, .null, .null])), (aC, .inl (cI, ((nN 1 24 w0) * (nN 1 24 h0)), .inl (fun _ => 0))), (aT, .inl (cZ, ((nN 1 24 w0) + 1), .inl (fun _ => 0))), (aS, .inl (cI, 4, .inl (upd (upd (upd (upd (fun _ => 0) 0 (-16384)) 1 16384) 2 (-16384)) 3 16384)))] H := hP
  have hD : va_D A [(p0, .inr (1, [.int (nI (nN 1 24 w0)), .int (nI (nN 1 24 h0)), .ref aC, .ref aT, .null, .null, .null, .null])), (aC, .inl (cI, ((nN 1 24 w0) * (nN 1 24 h0)), .inl (fun _ => 0))), (aT, .inl (cZ, ((nN 1 24 w0) + 1), .inl (fun _ => 0))), (aS, .inl (cI, 4, .inl (upd (upd (upd (upd (fun _ => 0) 0 (-16384)) 1 16384) 2 (-16384)) 3 16384)))] := hD
  refine va_putF (D := D) (ci := 1) (v := .ref aS) (ty := .array .int) (C := RX1) (T := TX1) (N := 8) hx hb hts nX1_init_X1 tyX1 tyX1_ok nmX1 hown hK.1 hP hD hS 0 rfl rfl 4 (by decide) (hts (.fieldLink RX1 28 "PolygonFrame" "sides" "[I") (by decide +kernel)) (fun _ h9 => h9) rfl hin rfl (tyX1_ok 4 (by decide)) rfl rfl (Nat.le_of_ble_eq_true rfl) dX1_init_81 (fun H locs hP hD hS => ?_)
  have hP : va_P D vwCl [(p0, .inr (1, [.int (nI (nN 1 24 w0)), .int (nI (nN 1 24 h0)), .ref aC, .ref aT, .ref aS, .null, .null, .null])), (aC, .inl (cI, ((nN 1 24 w0) * (nN 1 24 h0)), .inl (fun _ => 0))), (aT, .inl (cZ, ((nN 1 24 w0) + 1), .inl (fun _ => 0))), (aS, .inl (cI, 4, .inl (upd (upd (upd (upd (fun _ => 0) 0 (-16384)) 1 16384) 2 (-16384)) 3 16384)))] H := hP
  have hD : va_D A [(p0, .inr (1, [.int (nI (nN 1 24 w0)), .int (nI (nN 1 24 h0)), .ref aC, .ref aT, .ref aS, .null, .null, .null])), (aC, .inl (cI, ((nN 1 24 w0) * (nN 1 24 h0)), .inl (fun _ => 0))), (aT, .inl (cZ, ((nN 1 24 w0) + 1), .inl (fun _ => 0))), (aS, .inl (cI, 4, .inl (upd (upd (upd (upd (fun _ => 0) 0 (-16384)) 1 16384) 2 (-16384)) 3 16384)))] := hD
  refine lv_iload_n hx hb dX1_init_84 rfl (lv_at hl 3 rfl) ?_
  refine lv_iconst (v := 3) hx hb dX1_init_85 (by decide) ?_
  refine lv_bipush (v := 60) hx hb dX1_init_86 (by decide) ?_
  refine rd_i (va_runS (As := [.int v0, .int 3, .int 60]) ⟨hx, hb, hml, hown, hts⟩ (kX1_nearest l D cI cZ v0 3 60) (va_cwS 3 hts gX1_init_X1_nearest rfl rfl rfl (by decide +kernel) ⟨Nat.le_of_ble_eq_true rfl, Nat.le_of_ble_eq_true rfl⟩) rd_pre0 rfl rfl hl.1 rfl (lv_room (Nat.le_of_ble_eq_true rfl)) dX1_init_88 ⟨Nat.le_of_ble_eq_true rfl, Nat.le_of_ble_eq_true rfl⟩) ?_
  refine q_eq ev ?_
  refine lv_istore (lv' := [(4, .int (nI (nN 3 60 v0))), (0, .ref p0), (1, .int w0), (2, .int h0), (3, .int v0)]) hx hb dX1_init_91 hl (by decide) rfl (fun ls hl => ?_)
  refine lv_aload_n hx hb dX1_init_93 rfl (lv_at hl 1 rfl) ?_
  refine va_new (ci := 0) (fs := [.null, .null, .int 0]) (C := RX0) (T := TX0) (N := 3) hx hb hts nX1_init_X0 tyX0 tyX0_ok hown (hts (.classLink RX1 31 RX0) (by decide +kernel)) (hts (.instantiable RX0 3) (by decide +kernel)) (hts (.initialized RX0) (by decide +kernel)) hK.1 hP hD hS hA rfl (fun j hj => by rcases (show j = 0 ∨ j = 1 ∨ j = 2 by omega) with rfl | rfl | rfl <;> rfl) (Nat.le_of_ble_eq_true rfl) (Nat.le_of_ble_eq_true rfl) dX1_init_94 (fun rP H hP hD hS => ?_)
  have hP : va_P D vwCl [(p0, .inr (1, [.int (nI (nN 1 24 w0)), .int (nI (nN 1 24 h0)), .ref aC, .ref aT, .ref aS, .null, .null, .null])), (aC, .inl (cI, ((nN 1 24 w0) * (nN 1 24 h0)), .inl (fun _ => 0))), (aT, .inl (cZ, ((nN 1 24 w0) + 1), .inl (fun _ => 0))), (aS, .inl (cI, 4, .inl (upd (upd (upd (upd (fun _ => 0) 0 (-16384)) 1 16384) 2 (-16384)) 3 16384))), (rP, .inr (0, [.null, .null, .int 0]))] H := hP
  have hD : va_D A [(p0, .inr (1, [.int (nI (nN 1 24 w0)), .int (nI (nN 1 24 h0)), .ref aC, .ref aT, .ref aS, .null, .null, .null])), (aC, .inl (cI, ((nN 1 24 w0) * (nN 1 24 h0)), .inl (fun _ => 0))), (aT, .inl (cZ, ((nN 1 24 w0) + 1), .inl (fun _ => 0))), (aS, .inl (cI, 4, .inl (upd (upd (upd (upd (fun _ => 0) 0 (-16384)) 1 16384) 2 (-16384)) 3 16384))), (rP, .inr (0, [.null, .null, .int 0]))] := hD
  refine W.widen (k := 4) (n := 608) (by omega) (by omega) ?_
  refine lv_dup hx hb dX1_init_97 rfl ?_
  refine lv_iload hx hb dX1_init_98 (lv_at hl 0 rfl) ?_
  refine wr_v (wr := [(p0, .inr (1, [.int (nI (nN 1 24 w0)), .int (nI (nN 1 24 h0)), .ref aC, .ref aT, .ref aS, .null, .null, .null])), (aC, .inl (cI, ((nN 1 24 w0) * (nN 1 24 h0)), .inl (fun _ => 0))), (aT, .inl (cZ, ((nN 1 24 w0) + 1), .inl (fun _ => 0))), (aS, .inl (cI, 4, .inl (upd (upd (upd (upd (fun _ => 0) 0 (-16384)) 1 16384) 2 (-16384)) 3 16384)))]) hP hD hS hA [4] [0, 1, 2, 3] rfl rfl (by decide) (by decide) (va_runIN (As := [.int (nI (nN 3 60 v0))]) ⟨hx, hb, hml, hown, hts⟩ (kX0_init l D cI cZ H.size rP (nN 3 60 v0) hv2) ⟨va_cnB 1 hts gX1_init_X0_init_n33 rfl rfl rfl hK.2.2.2.2.1 (hts (.initialized RX0) (by decide +kernel)) (by decide +kernel) ⟨Nat.le_of_ble_eq_true rfl, Nat.le_of_ble_eq_true rfl⟩, rfl, hts (.instanceMethod yX0_init) (by decide +kernel)⟩ (wr_pre (hP.sub [4] rfl) hK (hD.sub [4] (by decide) rfl)) rfl rfl hl.1 rfl (lv_room (Nat.le_of_ble_eq_true rfl)) dX1_init_100 ⟨Nat.le_of_ble_eq_true rfl, Nat.le_of_ble_eq_true rfl⟩) (fun u1 H locs hu1 hP hD hS => ?_)
  replace hP : va_P D vwCl [(p0, .inr (1, [.int (nI (nN 1 24 w0)), .int (nI (nN 1 24 h0)), .ref aC, .ref aT, .ref aS, .null, .null, .null])), (aC, .inl (cI, ((nN 1 24 w0) * (nN 1 24 h0)), .inl (fun _ => 0))), (aT, .inl (cZ, ((nN 1 24 w0) + 1), .inl (fun _ => 0))), (aS, .inl (cI, 4, .inl (upd (upd (upd (upd (fun _ => 0) 0 (-16384)) 1 16384) 2 (-16384)) 3 16384))), (rP, .inr (0, [.ref u1.1, .ref u1.2, .int 0])), (u1.1, .inl (cI, (nN 3 60 v0), .inl (fun _ => 0))), (u1.2, .inl (cI, (nN 3 60 v0), .inl (fun _ => 0)))] H := hP.sub [0, 1, 2, 3, 4, 5, 6] rfl
  replace hD : va_D A [(p0, .inr (1, [.int (nI (nN 1 24 w0)), .int (nI (nN 1 24 h0)), .ref aC, .ref aT, .ref aS, .null, .null, .null])), (aC, .inl (cI, ((nN 1 24 w0) * (nN 1 24 h0)), .inl (fun _ => 0))), (aT, .inl (cZ, ((nN 1 24 w0) + 1), .inl (fun _ => 0))), (aS, .inl (cI, 4, .inl (upd (upd (upd (upd (fun _ => 0) 0 (-16384)) 1 16384) 2 (-16384)) 3 16384))), (rP, .inr (0, [.ref u1.1, .ref u1.2, .int 0])), (u1.1, .inl (cI, (nN 3 60 v0), .inl (fun _ => 0))), (u1.2, .inl (cI, (nN 3 60 v0), .inl (fun _ => 0)))] := hD.sub [0, 1, 2, 3, 4, 5, 6] (by decide) rfl
  refine W.widen (k := 6) (n := 728) (by omega) (by omega) ?_
  refine va_put (D := D) (ci := 1) (v := .ref rP) (ty := .object "PolygonFrame$Ring") (C := RX1) (T := TX1) (N := 8) hx hb hts nX1_init_X1 tyX1 tyX1_ok nmX1 hown hK.1 hP hD hS 0 rfl rfl 5 (by decide) (hts (.fieldLink RX1 36 "PolygonFrame" "polygon" "LPolygonFrame$Ring;") (by decide +kernel)) (fun _ h9 => h9) rfl (tyX1_ok 5 (by decide)) rfl rfl (Nat.le_of_ble_eq_true rfl) dX1_init_103 (fun H locs hP hD hS => ?_)
  have hP : va_P D vwCl [(p0, .inr (1, [.int (nI (nN 1 24 w0)), .int (nI (nN 1 24 h0)), .ref aC, .ref aT, .ref aS, .ref rP, .null, .null])), (aC, .inl (cI, ((nN 1 24 w0) * (nN 1 24 h0)), .inl (fun _ => 0))), (aT, .inl (cZ, ((nN 1 24 w0) + 1), .inl (fun _ => 0))), (aS, .inl (cI, 4, .inl (upd (upd (upd (upd (fun _ => 0) 0 (-16384)) 1 16384) 2 (-16384)) 3 16384))), (rP, .inr (0, [.ref u1.1, .ref u1.2, .int 0])), (u1.1, .inl (cI, (nN 3 60 v0), .inl (fun _ => 0))), (u1.2, .inl (cI, (nN 3 60 v0), .inl (fun _ => 0)))] H := hP
  have hD : va_D A [(p0, .inr (1, [.int (nI (nN 1 24 w0)), .int (nI (nN 1 24 h0)), .ref aC, .ref aT, .ref aS, .ref rP, .null, .null])), (aC, .inl (cI, ((nN 1 24 w0) * (nN 1 24 h0)), .inl (fun _ => 0))), (aT, .inl (cZ, ((nN 1 24 w0) + 1), .inl (fun _ => 0))), (aS, .inl (cI, 4, .inl (upd (upd (upd (upd (fun _ => 0) 0 (-16384)) 1 16384) 2 (-16384)) 3 16384))), (rP, .inr (0, [.ref u1.1, .ref u1.2, .int 0])), (u1.1, .inl (cI, (nN 3 60 v0), .inl (fun _ => 0))), (u1.2, .inl (cI, (nN 3 60 v0), .inl (fun _ => 0)))] := hD
  refine lv_aload_n hx hb dX1_init_106 rfl (lv_at hl 1 rfl) ?_
  refine va_new (ci := 0) (fs := [.null, .null, .int 0]) (C := RX0) (T := TX0) (N := 3) hx hb hts nX1_init_X0 tyX0 tyX0_ok hown (hts (.classLink RX1 31 RX0) (by decide +kernel)) (hts (.instantiable RX0 3) (by decide +kernel)) (hts (.initialized RX0) (by decide +kernel)) hK.1 hP hD hS hA rfl (fun j hj => by rcases (show j = 0 ∨ j = 1 ∨ j = 2 by omega) with rfl | rfl | rfl <;> rfl) (Nat.le_of_ble_eq_true rfl) (Nat.le_of_ble_eq_true rfl) dX1_init_107 (fun rO H hP hD hS => ?_)
  have hP : va_P D vwCl [(p0, .inr (1, [.int (nI (nN 1 24 w0)), .int (nI (nN 1 24 h0)), .ref aC, .ref aT, .ref aS, .ref rP, .null, .null])), (aC, .inl (cI, ((nN 1 24 w0) * (nN 1 24 h0)), .inl (fun _ => 0))), (aT, .inl (cZ, ((nN 1 24 w0) + 1), .inl (fun _ => 0))), (aS, .inl (cI, 4, .inl (upd (upd (upd (upd (fun _ => 0) 0 (-16384)) 1 16384) 2 (-16384)) 3 16384))), (rP, .inr (0, [.ref u1.1, .ref u1.2, .int 0])), (u1.1, .inl (cI, (nN 3 60 v0), .inl (fun _ => 0))), (u1.2, .inl (cI, (nN 3 60 v0), .inl (fun _ => 0))), (rO, .inr (0, [.null, .null, .int 0]))] H := hP
  have hD : va_D A [(p0, .inr (1, [.int (nI (nN 1 24 w0)), .int (nI (nN 1 24 h0)), .ref aC, .ref aT, .ref aS, .ref rP, .null, .null])), (aC, .inl (cI, ((nN 1 24 w0) * (nN 1 24 h0)), .inl (fun _ => 0))), (aT, .inl (cZ, ((nN 1 24 w0) + 1), .inl (fun _ => 0))), (aS, .inl (cI, 4, .inl (upd (upd (upd (upd (fun _ => 0) 0 (-16384)) 1 16384) 2 (-16384)) 3 16384))), (rP, .inr (0, [.ref u1.1, .ref u1.2, .int 0])), (u1.1, .inl (cI, (nN 3 60 v0), .inl (fun _ => 0))), (u1.2, .inl (cI, (nN 3 60 v0), .inl (fun _ => 0))), (rO, .inr (0, [.null, .null, .int 0]))] := hD
  refine W.widen (k := 7) (n := 731) (by omega) (by omega) ?_
  refine lv_dup hx hb dX1_init_110 rfl ?_
  refine lv_iload hx hb dX1_init_111 (lv_at hl 0 rfl) ?_
  refine wr_v (wr := [(p0, .inr (1, [.int (nI (nN 1 24 w0)), .int (nI (nN 1 24 h0)), .ref aC, .ref aT, .ref aS, .ref rP, .null, .null])), (aC, .inl (cI, ((nN 1 24 w0) * (nN 1 24 h0)), .inl (fun _ => 0))), (aT, .inl (cZ, ((nN 1 24 w0) + 1), .inl (fun _ => 0))), (aS, .inl (cI, 4, .inl (upd (upd (upd (upd (fun _ => 0) 0 (-16384)) 1 16384) 2 (-16384)) 3 16384))), (rP, .inr (0, [.ref u1.1, .ref u1.2, .int 0])), (u1.1, .inl (cI, (nN 3 60 v0), .inl (fun _ => 0))), (u1.2, .inl (cI, (nN 3 60 v0), .inl (fun _ => 0)))]) hP hD hS hA [7] [0, 1, 2, 3, 4, 5, 6] rfl rfl (by decide) (by decide) (va_runIN (As := [.int (nI (nN 3 60 v0))]) ⟨hx, hb, hml, hown, hts⟩ (kX0_init l D cI cZ H.size rO (nN 3 60 v0) hv2) ⟨va_cnB 1 hts gX1_init_X0_init_n33 rfl rfl rfl hK.2.2.2.2.1 (hts (.initialized RX0) (by decide +kernel)) (by decide +kernel) ⟨Nat.le_of_ble_eq_true rfl, Nat.le_of_ble_eq_true rfl⟩, rfl, hts (.instanceMethod yX0_init) (by decide +kernel)⟩ (wr_pre (hP.sub [7] rfl) hK (hD.sub [7] (by decide) rfl)) rfl rfl hl.1 rfl (lv_room (Nat.le_of_ble_eq_true rfl)) dX1_init_113 ⟨Nat.le_of_ble_eq_true rfl, Nat.le_of_ble_eq_true rfl⟩) (fun u2 H locs hu2 hP hD hS => ?_)
  replace hP : va_P D vwCl [(p0, .inr (1, [.int (nI (nN 1 24 w0)), .int (nI (nN 1 24 h0)), .ref aC, .ref aT, .ref aS, .ref rP, .null, .null])), (aC, .inl (cI, ((nN 1 24 w0) * (nN 1 24 h0)), .inl (fun _ => 0))), (aT, .inl (cZ, ((nN 1 24 w0) + 1), .inl (fun _ => 0))), (aS, .inl (cI, 4, .inl (upd (upd (upd (upd (fun _ => 0) 0 (-16384)) 1 16384) 2 (-16384)) 3 16384))), (rP, .inr (0, [.ref u1.1, .ref u1.2, .int 0])), (u1.1, .inl (cI, (nN 3 60 v0), .inl (fun _ => 0))), (u1.2, .inl (cI, (nN 3 60 v0), .inl (fun _ => 0))), (rO, .inr (0, [.ref u2.1, .ref u2.2, .int 0])), (u2.1, .inl (cI, (nN 3 60 v0), .inl (fun _ => 0))), (u2.2, .inl (cI, (nN 3 60 v0), .inl (fun _ => 0)))] H := hP.sub [0, 1, 2, 3, 4, 5, 6, 7, 8, 9] rfl
  replace hD : va_D A [(p0, .inr (1, [.int (nI (nN 1 24 w0)), .int (nI (nN 1 24 h0)), .ref aC, .ref aT, .ref aS, .ref rP, .null, .null])), (aC, .inl (cI, ((nN 1 24 w0) * (nN 1 24 h0)), .inl (fun _ => 0))), (aT, .inl (cZ, ((nN 1 24 w0) + 1), .inl (fun _ => 0))), (aS, .inl (cI, 4, .inl (upd (upd (upd (upd (fun _ => 0) 0 (-16384)) 1 16384) 2 (-16384)) 3 16384))), (rP, .inr (0, [.ref u1.1, .ref u1.2, .int 0])), (u1.1, .inl (cI, (nN 3 60 v0), .inl (fun _ => 0))), (u1.2, .inl (cI, (nN 3 60 v0), .inl (fun _ => 0))), (rO, .inr (0, [.ref u2.1, .ref u2.2, .int 0])), (u2.1, .inl (cI, (nN 3 60 v0), .inl (fun _ => 0))), (u2.2, .inl (cI, (nN 3 60 v0), .inl (fun _ => 0)))] := hD.sub [0, 1, 2, 3, 4, 5, 6, 7, 8, 9] (by decide) rfl
  refine W.widen (k := 9) (n := 851) (by omega) (by omega) ?_
  refine va_putF (D := D) (ci := 1) (v := .ref rO) (ty := .object "PolygonFrame$Ring") (C := RX1) (T := TX1) (N := 8) hx hb hts nX1_init_X1 tyX1 tyX1_ok nmX1 hown hK.1 hP hD hS 0 rfl rfl 6 (by decide) (hts (.fieldLink RX1 40 "PolygonFrame" "oddPasses" "LPolygonFrame$Ring;") (by decide +kernel)) (fun _ h9 => h9) rfl hin rfl (tyX1_ok 6 (by decide)) rfl rfl (Nat.le_of_ble_eq_true rfl) dX1_init_116 (fun H locs hP hD hS => ?_)
  have hP : va_P D vwCl [(p0, .inr (1, [.int (nI (nN 1 24 w0)), .int (nI (nN 1 24 h0)), .ref aC, .ref aT, .ref aS, .ref rP, .ref rO, .null])), (aC, .inl (cI, ((nN 1 24 w0) * (nN 1 24 h0)), .inl (fun _ => 0))), (aT, .inl (cZ, ((nN 1 24 w0) + 1), .inl (fun _ => 0))), (aS, .inl (cI, 4, .inl (upd (upd (upd (upd (fun _ => 0) 0 (-16384)) 1 16384) 2 (-16384)) 3 16384))), (rP, .inr (0, [.ref u1.1, .ref u1.2, .int 0])), (u1.1, .inl (cI, (nN 3 60 v0), .inl (fun _ => 0))), (u1.2, .inl (cI, (nN 3 60 v0), .inl (fun _ => 0))), (rO, .inr (0, [.ref u2.1, .ref u2.2, .int 0])), (u2.1, .inl (cI, (nN 3 60 v0), .inl (fun _ => 0))), (u2.2, .inl (cI, (nN 3 60 v0), .inl (fun _ => 0)))] H := hP
  have hD : va_D A [(p0, .inr (1, [.int (nI (nN 1 24 w0)), .int (nI (nN 1 24 h0)), .ref aC, .ref aT, .ref aS, .ref rP, .ref rO, .null])), (aC, .inl (cI, ((nN 1 24 w0) * (nN 1 24 h0)), .inl (fun _ => 0))), (aT, .inl (cZ, ((nN 1 24 w0) + 1), .inl (fun _ => 0))), (aS, .inl (cI, 4, .inl (upd (upd (upd (upd (fun _ => 0) 0 (-16384)) 1 16384) 2 (-16384)) 3 16384))), (rP, .inr (0, [.ref u1.1, .ref u1.2, .int 0])), (u1.1, .inl (cI, (nN 3 60 v0), .inl (fun _ => 0))), (u1.2, .inl (cI, (nN 3 60 v0), .inl (fun _ => 0))), (rO, .inr (0, [.ref u2.1, .ref u2.2, .int 0])), (u2.1, .inl (cI, (nN 3 60 v0), .inl (fun _ => 0))), (u2.2, .inl (cI, (nN 3 60 v0), .inl (fun _ => 0)))] := hD
  refine lv_aload_n hx hb dX1_init_119 rfl (lv_at hl 1 rfl) ?_
  refine va_new (ci := 0) (fs := [.null, .null, .int 0]) (C := RX0) (T := TX0) (N := 3) hx hb hts nX1_init_X0 tyX0 tyX0_ok hown (hts (.classLink RX1 31 RX0) (by decide +kernel)) (hts (.instantiable RX0 3) (by decide +kernel)) (hts (.initialized RX0) (by decide +kernel)) hK.1 hP hD hS hA rfl (fun j hj => by rcases (show j = 0 ∨ j = 1 ∨ j = 2 by omega) with rfl | rfl | rfl <;> rfl) (Nat.le_of_ble_eq_true rfl) (Nat.le_of_ble_eq_true rfl) dX1_init_120 (fun rE H hP hD hS => ?_)
  have hP : va_P D vwCl [(p0, .inr (1, [.int (nI (nN 1 24 w0)), .int (nI (nN 1 24 h0)), .ref aC, .ref aT, .ref aS, .ref rP, .ref rO, .null])), (aC, .inl (cI, ((nN 1 24 w0) * (nN 1 24 h0)), .inl (fun _ => 0))), (aT, .inl (cZ, ((nN 1 24 w0) + 1), .inl (fun _ => 0))), (aS, .inl (cI, 4, .inl (upd (upd (upd (upd (fun _ => 0) 0 (-16384)) 1 16384) 2 (-16384)) 3 16384))), (rP, .inr (0, [.ref u1.1, .ref u1.2, .int 0])), (u1.1, .inl (cI, (nN 3 60 v0), .inl (fun _ => 0))), (u1.2, .inl (cI, (nN 3 60 v0), .inl (fun _ => 0))), (rO, .inr (0, [.ref u2.1, .ref u2.2, .int 0])), (u2.1, .inl (cI, (nN 3 60 v0), .inl (fun _ => 0))), (u2.2, .inl (cI, (nN 3 60 v0), .inl (fun _ => 0))), (rE, .inr (0, [.null, .null, .int 0]))] H := hP
  have hD : va_D A [(p0, .inr (1, [.int (nI (nN 1 24 w0)), .int (nI (nN 1 24 h0)), .ref aC, .ref aT, .ref aS, .ref rP, .ref rO, .null])), (aC, .inl (cI, ((nN 1 24 w0) * (nN 1 24 h0)), .inl (fun _ => 0))), (aT, .inl (cZ, ((nN 1 24 w0) + 1), .inl (fun _ => 0))), (aS, .inl (cI, 4, .inl (upd (upd (upd (upd (fun _ => 0) 0 (-16384)) 1 16384) 2 (-16384)) 3 16384))), (rP, .inr (0, [.ref u1.1, .ref u1.2, .int 0])), (u1.1, .inl (cI, (nN 3 60 v0), .inl (fun _ => 0))), (u1.2, .inl (cI, (nN 3 60 v0), .inl (fun _ => 0))), (rO, .inr (0, [.ref u2.1, .ref u2.2, .int 0])), (u2.1, .inl (cI, (nN 3 60 v0), .inl (fun _ => 0))), (u2.2, .inl (cI, (nN 3 60 v0), .inl (fun _ => 0))), (rE, .inr (0, [.null, .null, .int 0]))] := hD
  refine W.widen (k := 10) (n := 854) (by omega) (by omega) ?_
  refine lv_dup hx hb dX1_init_123 rfl ?_
  refine lv_iload hx hb dX1_init_124 (lv_at hl 0 rfl) ?_
  refine wr_v (wr := [(p0, .inr (1, [.int (nI (nN 1 24 w0)), .int (nI (nN 1 24 h0)), .ref aC, .ref aT, .ref aS, .ref rP, .ref rO, .null])), (aC, .inl (cI, ((nN 1 24 w0) * (nN 1 24 h0)), .inl (fun _ => 0))), (aT, .inl (cZ, ((nN 1 24 w0) + 1), .inl (fun _ => 0))), (aS, .inl (cI, 4, .inl (upd (upd (upd (upd (fun _ => 0) 0 (-16384)) 1 16384) 2 (-16384)) 3 16384))), (rP, .inr (0, [.ref u1.1, .ref u1.2, .int 0])), (u1.1, .inl (cI, (nN 3 60 v0), .inl (fun _ => 0))), (u1.2, .inl (cI, (nN 3 60 v0), .inl (fun _ => 0))), (rO, .inr (0, [.ref u2.1, .ref u2.2, .int 0])), (u2.1, .inl (cI, (nN 3 60 v0), .inl (fun _ => 0))), (u2.2, .inl (cI, (nN 3 60 v0), .inl (fun _ => 0)))]) hP hD hS hA [10] [0, 1, 2, 3, 4, 5, 6, 7, 8, 9] rfl rfl (by decide) (by decide) (va_runIN (As := [.int (nI (nN 3 60 v0))]) ⟨hx, hb, hml, hown, hts⟩ (kX0_init l D cI cZ H.size rE (nN 3 60 v0) hv2) ⟨va_cnB 1 hts gX1_init_X0_init_n33 rfl rfl rfl hK.2.2.2.2.1 (hts (.initialized RX0) (by decide +kernel)) (by decide +kernel) ⟨Nat.le_of_ble_eq_true rfl, Nat.le_of_ble_eq_true rfl⟩, rfl, hts (.instanceMethod yX0_init) (by decide +kernel)⟩ (wr_pre (hP.sub [10] rfl) hK (hD.sub [10] (by decide) rfl)) rfl rfl hl.1 rfl (lv_room (Nat.le_of_ble_eq_true rfl)) dX1_init_126 ⟨Nat.le_of_ble_eq_true rfl, Nat.le_of_ble_eq_true rfl⟩) (fun u3 H locs hu3 hP hD hS => ?_)
  replace hP : va_P D vwCl [(p0, .inr (1, [.int (nI (nN 1 24 w0)), .int (nI (nN 1 24 h0)), .ref aC, .ref aT, .ref aS, .ref rP, .ref rO, .null])), (aC, .inl (cI, ((nN 1 24 w0) * (nN 1 24 h0)), .inl (fun _ => 0))), (aT, .inl (cZ, ((nN 1 24 w0) + 1), .inl (fun _ => 0))), (aS, .inl (cI, 4, .inl (upd (upd (upd (upd (fun _ => 0) 0 (-16384)) 1 16384) 2 (-16384)) 3 16384))), (rP, .inr (0, [.ref u1.1, .ref u1.2, .int 0])), (u1.1, .inl (cI, (nN 3 60 v0), .inl (fun _ => 0))), (u1.2, .inl (cI, (nN 3 60 v0), .inl (fun _ => 0))), (rO, .inr (0, [.ref u2.1, .ref u2.2, .int 0])), (u2.1, .inl (cI, (nN 3 60 v0), .inl (fun _ => 0))), (u2.2, .inl (cI, (nN 3 60 v0), .inl (fun _ => 0))), (rE, .inr (0, [.ref u3.1, .ref u3.2, .int 0])), (u3.1, .inl (cI, (nN 3 60 v0), .inl (fun _ => 0))), (u3.2, .inl (cI, (nN 3 60 v0), .inl (fun _ => 0)))] H := hP.sub [0, 1, 2, 3, 4, 5, 6, 7, 8, 9, 10, 11, 12] rfl
  replace hD : va_D A [(p0, .inr (1, [.int (nI (nN 1 24 w0)), .int (nI (nN 1 24 h0)), .ref aC, .ref aT, .ref aS, .ref rP, .ref rO, .null])), (aC, .inl (cI, ((nN 1 24 w0) * (nN 1 24 h0)), .inl (fun _ => 0))), (aT, .inl (cZ, ((nN 1 24 w0) + 1), .inl (fun _ => 0))), (aS, .inl (cI, 4, .inl (upd (upd (upd (upd (fun _ => 0) 0 (-16384)) 1 16384) 2 (-16384)) 3 16384))), (rP, .inr (0, [.ref u1.1, .ref u1.2, .int 0])), (u1.1, .inl (cI, (nN 3 60 v0), .inl (fun _ => 0))), (u1.2, .inl (cI, (nN 3 60 v0), .inl (fun _ => 0))), (rO, .inr (0, [.ref u2.1, .ref u2.2, .int 0])), (u2.1, .inl (cI, (nN 3 60 v0), .inl (fun _ => 0))), (u2.2, .inl (cI, (nN 3 60 v0), .inl (fun _ => 0))), (rE, .inr (0, [.ref u3.1, .ref u3.2, .int 0])), (u3.1, .inl (cI, (nN 3 60 v0), .inl (fun _ => 0))), (u3.2, .inl (cI, (nN 3 60 v0), .inl (fun _ => 0)))] := hD.sub [0, 1, 2, 3, 4, 5, 6, 7, 8, 9, 10, 11, 12] (by decide) rfl
  refine W.widen (k := 12) (n := 974) (by omega) (by omega) ?_
  refine va_put (D := D) (ci := 1) (v := .ref rE) (ty := .object "PolygonFrame$Ring") (C := RX1) (T := TX1) (N := 8) hx hb hts nX1_init_X1 tyX1 tyX1_ok nmX1 hown hK.1 hP hD hS 0 rfl rfl 7 (by decide) (hts (.fieldLink RX1 43 "PolygonFrame" "evenPasses" "LPolygonFrame$Ring;") (by decide +kernel)) (fun _ h9 => h9) rfl (tyX1_ok 7 (by decide)) rfl rfl (Nat.le_of_ble_eq_true rfl) dX1_init_129 (fun H locs hP hD hS => ?_)
  have hP : va_P D vwCl [(p0, .inr (1, [.int (nI (nN 1 24 w0)), .int (nI (nN 1 24 h0)), .ref aC, .ref aT, .ref aS, .ref rP, .ref rO, .ref rE])), (aC, .inl (cI, ((nN 1 24 w0) * (nN 1 24 h0)), .inl (fun _ => 0))), (aT, .inl (cZ, ((nN 1 24 w0) + 1), .inl (fun _ => 0))), (aS, .inl (cI, 4, .inl (upd (upd (upd (upd (fun _ => 0) 0 (-16384)) 1 16384) 2 (-16384)) 3 16384))), (rP, .inr (0, [.ref u1.1, .ref u1.2, .int 0])), (u1.1, .inl (cI, (nN 3 60 v0), .inl (fun _ => 0))), (u1.2, .inl (cI, (nN 3 60 v0), .inl (fun _ => 0))), (rO, .inr (0, [.ref u2.1, .ref u2.2, .int 0])), (u2.1, .inl (cI, (nN 3 60 v0), .inl (fun _ => 0))), (u2.2, .inl (cI, (nN 3 60 v0), .inl (fun _ => 0))), (rE, .inr (0, [.ref u3.1, .ref u3.2, .int 0])), (u3.1, .inl (cI, (nN 3 60 v0), .inl (fun _ => 0))), (u3.2, .inl (cI, (nN 3 60 v0), .inl (fun _ => 0)))] H := hP
  have hD : va_D A [(p0, .inr (1, [.int (nI (nN 1 24 w0)), .int (nI (nN 1 24 h0)), .ref aC, .ref aT, .ref aS, .ref rP, .ref rO, .ref rE])), (aC, .inl (cI, ((nN 1 24 w0) * (nN 1 24 h0)), .inl (fun _ => 0))), (aT, .inl (cZ, ((nN 1 24 w0) + 1), .inl (fun _ => 0))), (aS, .inl (cI, 4, .inl (upd (upd (upd (upd (fun _ => 0) 0 (-16384)) 1 16384) 2 (-16384)) 3 16384))), (rP, .inr (0, [.ref u1.1, .ref u1.2, .int 0])), (u1.1, .inl (cI, (nN 3 60 v0), .inl (fun _ => 0))), (u1.2, .inl (cI, (nN 3 60 v0), .inl (fun _ => 0))), (rO, .inr (0, [.ref u2.1, .ref u2.2, .int 0])), (u2.1, .inl (cI, (nN 3 60 v0), .inl (fun _ => 0))), (u2.2, .inl (cI, (nN 3 60 v0), .inl (fun _ => 0))), (rE, .inr (0, [.ref u3.1, .ref u3.2, .int 0])), (u3.1, .inl (cI, (nN 3 60 v0), .inl (fun _ => 0))), (u3.2, .inl (cI, (nN 3 60 v0), .inl (fun _ => 0)))] := hD
  refine W.widen (k := 12) (n := 1000) (by omega) (by omega) ?_
  exact W.vret hx hb hr (fun t ht hW => ⟨⟨(aC, aT, aS, rP, u1.1, u1.2, rO, u2.1, u2.2, rE, u3.1, u3.2), rfl, trivial, by rw [ht]; exact hP, by rw [hAe]; exact hD⟩, hS.F ht⟩) hS.2.2 dX1_init_132
theorem nX2_init_X2 : ∀ w ∈ wsX20, w ∈ wsX2_init := fun w h => List.mem_cons_of_mem _ (List.mem_append_right _ h)
set_option maxHeartbeats 4000000 in
set_option maxRecDepth 100000 in
theorem kX2_init (l : Launch) (D : va_G) (cI cZ : ClassId) (sz : Nat) (m0 : Nat) (w0 h0 v0 : Int32)  : Met l yX2_init wsX2_init ({ frames := 1, cells := 7, slots := 1000, locals := 60 }) (va_Pc [.ref m0, .int w0, .int h0, .int v0] (wrP D cI cZ sz [(m0, .inr (2, [.int 0, .int 0, .int 0, .null, .null, .null, .int 0, .null, .null, .null, .null, .int 0, .int 0, .int 0, .int 0, .int 0, .int 0]))])) (va_Qv (S := Nat × Nat × Nat × Nat × Nat × Nat × Nat) (fun _ => True) (wrB D [(m0, .inr (2, [.int 0, .int 0, .int 0, .null, .null, .null, .int 0, .null, .null, .null, .null, .int 0, .int 0, .int 0, .int 0, .int 0, .int 0]))] sz (fun u => [(m0, .inr (2, [.int (nI (nN 1 24 w0)), .int (nI (nN 1 24 h0)), .int (nI (nN 3 60 v0)), .ref u.1, .ref u.2.1, .ref u.2.2.1, .int 0, .ref u.2.2.2.1, .ref u.2.2.2.2.1, .ref u.2.2.2.2.2.1, .ref u.2.2.2.2.2.2, .int 0, .int 0, .int (-16384), .int 16384, .int (-16384), .int 16384])), (u.1, .inl (cI, 576, .inl (fun _ => 0))), (u.2.1, .inl (cI, 60, .inl (fun _ => 0))), (u.2.2.1, .inl (cI, 60, .inl (fun _ => 0))), (u.2.2.2.1, .inl (cI, 60, .inl (fun _ => 0))), (u.2.2.2.2.1, .inl (cI, 60, .inl (fun _ => 0))), (u.2.2.2.2.2.1, .inl (cI, 60, .inl (fun _ => 0))), (u.2.2.2.2.2.2, .inl (cI, 60, .inl (fun _ => 0)))])) (va_A [(m0, .inr (2, [.int 0, .int 0, .int 0, .null, .null, .null, .int 0, .null, .null, .null, .null, .int 0, .int 0, .int 0, .int 0, .int 0, .int 0]))] sz)) 7 1000 (va_A [(m0, .inr (2, [.int 0, .int 0, .int 0, .null, .null, .null, .int 0, .null, .null, .null, .null, .int 0, .int 0, .int 0, .int 0, .int 0, .int 0]))] sz) := by
  refine Met.ofW (cc := cX2_init) (maxL := 4) (ret := none) (by decide) rfl ?_
  intro p e s m args below meth c s₁ B hml hv
  obtain ⟨rfl, hsz, hP, hK, hD0⟩ := hv
  have hx := B.exec
  have hb := B.bytes
  have hr := B.returns
  have hts := atoms_spec (ws := wsX2_init) B.pre
  have hown : s.vm.findClass RX2 = some m.cls := findClass_of_methodNamed B.named
  have hlocks := B.notSynchronized
  have hin : meth.name = "<init>" := (name_of_methodNamed B.named B.method).1
  subst hsz
  have hD := hD0.self (sz := s.heap.size)
  generalize hAe : va_A [(m0, .inr (2, [.int 0, .int 0, .int 0, .null, .null, .null, .int 0, .null, .null, .null, .null, .int 0, .int 0, .int 0, .int 0, .int 0, .int 0]))] s.heap.size = A at hD ⊢
  have hA : ∀ q : Nat, s.heap.size ≤ q → A q := fun q h => by rw [← hAe]; exact Or.inr h
  have hS : va_S A s.heap s.heap [] := va_S.rf
  have hP : va_P D vwCl [(m0, .inr (2, [.int 0, .int 0, .int 0, .null, .null, .null, .int 0, .null, .null, .null, .null, .int 0, .int 0, .int 0, .int 0, .int 0, .int 0]))] s.heap := hP
  have hl := lv_entry ([.ref m0, .int w0, .int h0, .int v0]) (n := 4) (Nat.le_of_ble_eq_true rfl)
  rw [lg_entry_eq]
  generalize (lg_sl ([.ref m0, .int w0, .int h0, .int v0]) ++ List.replicate (4 - (lg_sl ([.ref m0, .int w0, .int h0, .int v0])).length) Slot.unset).toArray = ls at hl ⊢
  have hl : lv_has ls 4 [(0, .ref m0), (1, .int w0), (2, .int h0), (3, .int v0)] := hl
  obtain ⟨ew, hw1, hw2⟩ := nN_ok (lo := 1) (hi := 24) (by decide) (by decide) w0
  obtain ⟨eh, hh1, hh2⟩ := nN_ok (lo := 1) (hi := 24) (by decide) (by decide) h0
  obtain ⟨ev, hv1, hv2⟩ := nN_ok (lo := 3) (hi := 60) (by decide) (by decide) v0
  refine lv_aload_n hx hb dX2_init_0 rfl (lv_at hl 0 rfl) ?_
  refine W.objInit hx hb hown (hts (.methodLink RX2 1 objectInit) (by decide +kernel)) (hts (.instanceMethod objectInit) (by decide +kernel)) (hts _ (List.mem_cons_of_mem _ (List.mem_append_left _ (List.mem_of_getElem? (i := 2) rfl)))) rfl (by rw [hml]; exact hl.1) rfl dX2_init_1 (Nat.le_of_ble_eq_true rfl) (Nat.le_of_ble_eq_true rfl) ?_
  refine W.eq (g2 := F0 m 4 ls []) rfl ?_
  refine lv_aload_n hx hb dX2_init_4 rfl (lv_at hl 0 rfl) ?_
  refine lv_sipush (v := 576) hx hb dX2_init_5 (by decide) ?_
  refine va_newa (atype := .int) (ty := .int) (N' := 576) (a0 := (576, .inl (fun _ => 0))) hx hb (hts (.arrayClass .int) (by decide +kernel)) rfl hK.1 hP hD hS hA (fun _ => rfl) (by decide) rfl (by decide) (Nat.le_of_ble_eq_true rfl) (Nat.le_of_ble_eq_true rfl) dX2_init_8 (fun aP cA H hK2 hP hD hS => ?_)
  rw [pK.int hK2] at hP hD
  have hP : va_P D vwCl [(m0, .inr (2, [.int 0, .int 0, .int 0, .null, .null, .null, .int 0, .null, .null, .null, .null, .int 0, .int 0, .int 0, .int 0, .int 0, .int 0])), (aP, .inl (cI, 576, .inl (fun _ => 0)))] H := hP
  have hD : va_D A [(m0, .inr (2, [.int 0, .int 0, .int 0, .null, .null, .null, .int 0, .null, .null, .null, .null, .int 0, .int 0, .int 0, .int 0, .int 0, .int 0])), (aP, .inl (cI, 576, .inl (fun _ => 0)))] := hD
  refine W.widen (k := 1) (n := 576) (by omega) (by omega) ?_
  refine va_putF (D := D) (ci := 2) (v := .ref aP) (ty := .array .int) (C := RX2) (T := TX2) (N := 17) hx hb hts nX2_init_X2 tyX2 tyX2_ok nmX2 hown hK.1 hP hD hS 0 rfl rfl 3 (by decide) (hts (.fieldLink RX2 7 "PolygonFrameModel" "pixels" "[I") (by decide +kernel)) (fun _ h9 => h9) rfl hin rfl (tyX2_ok 3 (by decide)) rfl rfl (Nat.le_of_ble_eq_true rfl) dX2_init_10 (fun H locs hP hD hS => ?_)
  have hP : va_P D vwCl [(m0, .inr (2, [.int 0, .int 0, .int 0, .ref aP, .null, .null, .int 0, .null, .null, .null, .null, .int 0, .int 0, .int 0, .int 0, .int 0, .int 0])), (aP, .inl (cI, 576, .inl (fun _ => 0)))] H := hP
  have hD : va_D A [(m0, .inr (2, [.int 0, .int 0, .int 0, .ref aP, .null, .null, .int 0, .null, .null, .null, .null, .int 0, .int 0, .int 0, .int 0, .int 0, .int 0])), (aP, .inl (cI, 576, .inl (fun _ => 0)))] := hD
  refine lv_aload_n hx hb dX2_init_13 rfl (lv_at hl 0 rfl) ?_
  refine lv_bipush (v := 60) hx hb dX2_init_14 (by decide) ?_
  refine va_newa (atype := .int) (ty := .int) (N' := 60) (a0 := (60, .inl (fun _ => 0))) hx hb (hts (.arrayClass .int) (by decide +kernel)) rfl hK.1 hP hD hS hA (fun _ => rfl) (by decide) rfl (by decide) (Nat.le_of_ble_eq_true rfl) (Nat.le_of_ble_eq_true rfl) dX2_init_16 (fun ax cA H hK2 hP hD hS => ?_)
  rw [pK.int hK2] at hP hD
  have hP : va_P D vwCl [(m0, .inr (2, [.int 0, .int 0, .int 0, .ref aP, .null, .null, .int 0, .null, .null, .null, .null, .int 0, .int 0, .int 0, .int 0, .int 0, .int 0])), (aP, .inl (cI, 576, .inl (fun _ => 0))), (ax, .inl (cI, 60, .inl (fun _ => 0)))] H := hP
  have hD : va_D A [(m0, .inr (2, [.int 0, .int 0, .int 0, .ref aP, .null, .null, .int 0, .null, .null, .null, .null, .int 0, .int 0, .int 0, .int 0, .int 0, .int 0])), (aP, .inl (cI, 576, .inl (fun _ => 0))), (ax, .inl (cI, 60, .inl (fun _ => 0)))] := hD
  refine W.widen (k := 2) (n := 636) (by omega) (by omega) ?_
  refine va_putF (D := D) (ci := 2) (v := .ref ax) (ty := .array .int) (C := RX2) (T := TX2) (N := 17) hx hb hts nX2_init_X2 tyX2 tyX2_ok nmX2 hown hK.1 hP hD hS 0 rfl rfl 4 (by decide) (hts (.fieldLink RX2 13 "PolygonFrameModel" "xs" "[I") (by decide +kernel)) (fun _ h9 => h9) rfl hin rfl (tyX2_ok 4 (by decide)) rfl rfl (Nat.le_of_ble_eq_true rfl) dX2_init_18 (fun H locs hP hD hS => ?_)
  have hP : va_P D vwCl [(m0, .inr (2, [.int 0, .int 0, .int 0, .ref aP, .ref ax, .null, .int 0, .null, .null, .null, .null, .int 0, .int 0, .int 0, .int 0, .int 0, .int 0])), (aP, .inl (cI, 576, .inl (fun _ => 0))), (ax, .inl (cI, 60, .inl (fun _ => 0)))] H := hP
  have hD : va_D A [(m0, .inr (2, [.int 0, .int 0, .int 0, .ref aP, .ref ax, .null, .int 0, .null, .null, .null, .null, .int 0, .int 0, .int 0, .int 0, .int 0, .int 0])), (aP, .inl (cI, 576, .inl (fun _ => 0))), (ax, .inl (cI, 60, .inl (fun _ => 0)))] := hD
  refine lv_aload_n hx hb dX2_init_21 rfl (lv_at hl 0 rfl) ?_
  refine lv_bipush (v := 60) hx hb dX2_init_22 (by decide) ?_
  refine va_newa (atype := .int) (ty := .int) (N' := 60) (a0 := (60, .inl (fun _ => 0))) hx hb (hts (.arrayClass .int) (by decide +kernel)) rfl hK.1 hP hD hS hA (fun _ => rfl) (by decide) rfl (by decide) (Nat.le_of_ble_eq_true rfl) (Nat.le_of_ble_eq_true rfl) dX2_init_24 (fun ay cA H hK2 hP hD hS => ?_)
  rw [pK.int hK2] at hP hD
  have hP : va_P D vwCl [(m0, .inr (2, [.int 0, .int 0, .int 0, .ref aP, .ref ax, .null, .int 0, .null, .null, .null, .null, .int 0, .int 0, .int 0, .int 0, .int 0, .int 0])), (aP, .inl (cI, 576, .inl (fun _ => 0))), (ax, .inl (cI, 60, .inl (fun _ => 0))), (ay, .inl (cI, 60, .inl (fun _ => 0)))] H := hP
  have hD : va_D A [(m0, .inr (2, [.int 0, .int 0, .int 0, .ref aP, .ref ax, .null, .int 0, .null, .null, .null, .null, .int 0, .int 0, .int 0, .int 0, .int 0, .int 0])), (aP, .inl (cI, 576, .inl (fun _ => 0))), (ax, .inl (cI, 60, .inl (fun _ => 0))), (ay, .inl (cI, 60, .inl (fun _ => 0)))] := hD
  refine W.widen (k := 3) (n := 696) (by omega) (by omega) ?_
  refine va_putF (D := D) (ci := 2) (v := .ref ay) (ty := .array .int) (C := RX2) (T := TX2) (N := 17) hx hb hts nX2_init_X2 tyX2 tyX2_ok nmX2 hown hK.1 hP hD hS 0 rfl rfl 5 (by decide) (hts (.fieldLink RX2 16 "PolygonFrameModel" "ys" "[I") (by decide +kernel)) (fun _ h9 => h9) rfl hin rfl (tyX2_ok 5 (by decide)) rfl rfl (Nat.le_of_ble_eq_true rfl) dX2_init_26 (fun H locs hP hD hS => ?_)
  have hP : va_P D vwCl [(m0, .inr (2, [.int 0, .int 0, .int 0, .ref aP, .ref ax, .ref ay, .int 0, .null, .null, .null, .null, .int 0, .int 0, .int 0, .int 0, .int 0, .int 0])), (aP, .inl (cI, 576, .inl (fun _ => 0))), (ax, .inl (cI, 60, .inl (fun _ => 0))), (ay, .inl (cI, 60, .inl (fun _ => 0)))] H := hP
  have hD : va_D A [(m0, .inr (2, [.int 0, .int 0, .int 0, .ref aP, .ref ax, .ref ay, .int 0, .null, .null, .null, .null, .int 0, .int 0, .int 0, .int 0, .int 0, .int 0])), (aP, .inl (cI, 576, .inl (fun _ => 0))), (ax, .inl (cI, 60, .inl (fun _ => 0))), (ay, .inl (cI, 60, .inl (fun _ => 0)))] := hD
  refine lv_aload_n hx hb dX2_init_29 rfl (lv_at hl 0 rfl) ?_
  refine lv_bipush (v := 60) hx hb dX2_init_30 (by decide) ?_
  refine va_newa (atype := .int) (ty := .int) (N' := 60) (a0 := (60, .inl (fun _ => 0))) hx hb (hts (.arrayClass .int) (by decide +kernel)) rfl hK.1 hP hD hS hA (fun _ => rfl) (by decide) rfl (by decide) (Nat.le_of_ble_eq_true rfl) (Nat.le_of_ble_eq_true rfl) dX2_init_32 (fun afx cA H hK2 hP hD hS => ?_)
  rw [pK.int hK2] at hP hD
  have hP : va_P D vwCl [(m0, .inr (2, [.int 0, .int 0, .int 0, .ref aP, .ref ax, .ref ay, .int 0, .null, .null, .null, .null, .int 0, .int 0, .int 0, .int 0, .int 0, .int 0])), (aP, .inl (cI, 576, .inl (fun _ => 0))), (ax, .inl (cI, 60, .inl (fun _ => 0))), (ay, .inl (cI, 60, .inl (fun _ => 0))), (afx, .inl (cI, 60, .inl (fun _ => 0)))] H := hP
  have hD : va_D A [(m0, .inr (2, [.int 0, .int 0, .int 0, .ref aP, .ref ax, .ref ay, .int 0, .null, .null, .null, .null, .int 0, .int 0, .int 0, .int 0, .int 0, .int 0])), (aP, .inl (cI, 576, .inl (fun _ => 0))), (ax, .inl (cI, 60, .inl (fun _ => 0))), (ay, .inl (cI, 60, .inl (fun _ => 0))), (afx, .inl (cI, 60, .inl (fun _ => 0)))] := hD
  refine W.widen (k := 4) (n := 756) (by omega) (by omega) ?_
  refine va_putF (D := D) (ci := 2) (v := .ref afx) (ty := .array .int) (C := RX2) (T := TX2) (N := 17) hx hb hts nX2_init_X2 tyX2 tyX2_ok nmX2 hown hK.1 hP hD hS 0 rfl rfl 7 (by decide) (hts (.fieldLink RX2 19 "PolygonFrameModel" "fromX" "[I") (by decide +kernel)) (fun _ h9 => h9) rfl hin rfl (tyX2_ok 7 (by decide)) rfl rfl (Nat.le_of_ble_eq_true rfl) dX2_init_34 (fun H locs hP hD hS => ?_)
  have hP : va_P D vwCl [(m0, .inr (2, [.int 0, .int 0, .int 0, .ref aP, .ref ax, .ref ay, .int 0, .ref afx, .null, .null, .null, .int 0, .int 0, .int 0, .int 0, .int 0, .int 0])), (aP, .inl (cI, 576, .inl (fun _ => 0))), (ax, .inl (cI, 60, .inl (fun _ => 0))), (ay, .inl (cI, 60, .inl (fun _ => 0))), (afx, .inl (cI, 60, .inl (fun _ => 0)))] H := hP
  have hD : va_D A [(m0, .inr (2, [.int 0, .int 0, .int 0, .ref aP, .ref ax, .ref ay, .int 0, .ref afx, .null, .null, .null, .int 0, .int 0, .int 0, .int 0, .int 0, .int 0])), (aP, .inl (cI, 576, .inl (fun _ => 0))), (ax, .inl (cI, 60, .inl (fun _ => 0))), (ay, .inl (cI, 60, .inl (fun _ => 0))), (afx, .inl (cI, 60, .inl (fun _ => 0)))] := hD
  refine lv_aload_n hx hb dX2_init_37 rfl (lv_at hl 0 rfl) ?_
  refine lv_bipush (v := 60) hx hb dX2_init_38 (by decide) ?_
  refine va_newa (atype := .int) (ty := .int) (N' := 60) (a0 := (60, .inl (fun _ => 0))) hx hb (hts (.arrayClass .int) (by decide +kernel)) rfl hK.1 hP hD hS hA (fun _ => rfl) (by decide) rfl (by decide) (Nat.le_of_ble_eq_true rfl) (Nat.le_of_ble_eq_true rfl) dX2_init_40 (fun afy cA H hK2 hP hD hS => ?_)
  rw [pK.int hK2] at hP hD
  have hP : va_P D vwCl [(m0, .inr (2, [.int 0, .int 0, .int 0, .ref aP, .ref ax, .ref ay, .int 0, .ref afx, .null, .null, .null, .int 0, .int 0, .int 0, .int 0, .int 0, .int 0])), (aP, .inl (cI, 576, .inl (fun _ => 0))), (ax, .inl (cI, 60, .inl (fun _ => 0))), (ay, .inl (cI, 60, .inl (fun _ => 0))), (afx, .inl (cI, 60, .inl (fun _ => 0))), (afy, .inl (cI, 60, .inl (fun _ => 0)))] H := hP
  have hD : va_D A [(m0, .inr (2, [.int 0, .int 0, .int 0, .ref aP, .ref ax, .ref ay, .int 0, .ref afx, .null, .null, .null, .int 0, .int 0, .int 0, .int 0, .int 0, .int 0])), (aP, .inl (cI, 576, .inl (fun _ => 0))), (ax, .inl (cI, 60, .inl (fun _ => 0))), (ay, .inl (cI, 60, .inl (fun _ => 0))), (afx, .inl (cI, 60, .inl (fun _ => 0))), (afy, .inl (cI, 60, .inl (fun _ => 0)))] := hD
  refine W.widen (k := 5) (n := 816) (by omega) (by omega) ?_
  refine va_putF (D := D) (ci := 2) (v := .ref afy) (ty := .array .int) (C := RX2) (T := TX2) (N := 17) hx hb hts nX2_init_X2 tyX2 tyX2_ok nmX2 hown hK.1 hP hD hS 0 rfl rfl 8 (by decide) (hts (.fieldLink RX2 22 "PolygonFrameModel" "fromY" "[I") (by decide +kernel)) (fun _ h9 => h9) rfl hin rfl (tyX2_ok 8 (by decide)) rfl rfl (Nat.le_of_ble_eq_true rfl) dX2_init_42 (fun H locs hP hD hS => ?_)
  have hP : va_P D vwCl [(m0, .inr (2, [.int 0, .int 0, .int 0, .ref aP, .ref ax, .ref ay, .int 0, .ref afx, .ref afy, .null, .null, .int 0, .int 0, .int 0, .int 0, .int 0, .int 0])), (aP, .inl (cI, 576, .inl (fun _ => 0))), (ax, .inl (cI, 60, .inl (fun _ => 0))), (ay, .inl (cI, 60, .inl (fun _ => 0))), (afx, .inl (cI, 60, .inl (fun _ => 0))), (afy, .inl (cI, 60, .inl (fun _ => 0)))] H := hP
  have hD : va_D A [(m0, .inr (2, [.int 0, .int 0, .int 0, .ref aP, .ref ax, .ref ay, .int 0, .ref afx, .ref afy, .null, .null, .int 0, .int 0, .int 0, .int 0, .int 0, .int 0])), (aP, .inl (cI, 576, .inl (fun _ => 0))), (ax, .inl (cI, 60, .inl (fun _ => 0))), (ay, .inl (cI, 60, .inl (fun _ => 0))), (afx, .inl (cI, 60, .inl (fun _ => 0))), (afy, .inl (cI, 60, .inl (fun _ => 0)))] := hD
  refine lv_aload_n hx hb dX2_init_45 rfl (lv_at hl 0 rfl) ?_
  refine lv_bipush (v := 60) hx hb dX2_init_46 (by decide) ?_
  refine va_newa (atype := .int) (ty := .int) (N' := 60) (a0 := (60, .inl (fun _ => 0))) hx hb (hts (.arrayClass .int) (by decide +kernel)) rfl hK.1 hP hD hS hA (fun _ => rfl) (by decide) rfl (by decide) (Nat.le_of_ble_eq_true rfl) (Nat.le_of_ble_eq_true rfl) dX2_init_48 (fun atx cA H hK2 hP hD hS => ?_)
  rw [pK.int hK2] at hP hD
  have hP : va_P D vwCl [(m0, .inr (2, [.int 0, .int 0, .int 0, .ref aP, .ref ax, .ref ay, .int 0, .ref afx, .ref afy, .null, .null, .int 0, .int 0, .int 0, .int 0, .int 0, .int 0])), (aP, .inl (cI, 576, .inl (fun _ => 0))), (ax, .inl (cI, 60, .inl (fun _ => 0))), (ay, .inl (cI, 60, .inl (fun _ => 0))), (afx, .inl (cI, 60, .inl (fun _ => 0))), (afy, .inl (cI, 60, .inl (fun _ => 0))), (atx, .inl (cI, 60, .inl (fun _ => 0)))] H := hP
  have hD : va_D A [(m0, .inr (2, [.int 0, .int 0, .int 0, .ref aP, .ref ax, .ref ay, .int 0, .ref afx, .ref afy, .null, .null, .int 0, .int 0, .int 0, .int 0, .int 0, .int 0])), (aP, .inl (cI, 576, .inl (fun _ => 0))), (ax, .inl (cI, 60, .inl (fun _ => 0))), (ay, .inl (cI, 60, .inl (fun _ => 0))), (afx, .inl (cI, 60, .inl (fun _ => 0))), (afy, .inl (cI, 60, .inl (fun _ => 0))), (atx, .inl (cI, 60, .inl (fun _ => 0)))] := hD
  refine W.widen (k := 6) (n := 876) (by omega) (by omega) ?_
  refine va_putF (D := D) (ci := 2) (v := .ref atx) (ty := .array .int) (C := RX2) (T := TX2) (N := 17) hx hb hts nX2_init_X2 tyX2 tyX2_ok nmX2 hown hK.1 hP hD hS 0 rfl rfl 9 (by decide) (hts (.fieldLink RX2 25 "PolygonFrameModel" "toX" "[I") (by decide +kernel)) (fun _ h9 => h9) rfl hin rfl (tyX2_ok 9 (by decide)) rfl rfl (Nat.le_of_ble_eq_true rfl) dX2_init_50 (fun H locs hP hD hS => ?_)
  have hP : va_P D vwCl [(m0, .inr (2, [.int 0, .int 0, .int 0, .ref aP, .ref ax, .ref ay, .int 0, .ref afx, .ref afy, .ref atx, .null, .int 0, .int 0, .int 0, .int 0, .int 0, .int 0])), (aP, .inl (cI, 576, .inl (fun _ => 0))), (ax, .inl (cI, 60, .inl (fun _ => 0))), (ay, .inl (cI, 60, .inl (fun _ => 0))), (afx, .inl (cI, 60, .inl (fun _ => 0))), (afy, .inl (cI, 60, .inl (fun _ => 0))), (atx, .inl (cI, 60, .inl (fun _ => 0)))] H := hP
  have hD : va_D A [(m0, .inr (2, [.int 0, .int 0, .int 0, .ref aP, .ref ax, .ref ay, .int 0, .ref afx, .ref afy, .ref atx, .null, .int 0, .int 0, .int 0, .int 0, .int 0, .int 0])), (aP, .inl (cI, 576, .inl (fun _ => 0))), (ax, .inl (cI, 60, .inl (fun _ => 0))), (ay, .inl (cI, 60, .inl (fun _ => 0))), (afx, .inl (cI, 60, .inl (fun _ => 0))), (afy, .inl (cI, 60, .inl (fun _ => 0))), (atx, .inl (cI, 60, .inl (fun _ => 0)))] := hD
  refine lv_aload_n hx hb dX2_init_53 rfl (lv_at hl 0 rfl) ?_
  refine lv_bipush (v := 60) hx hb dX2_init_54 (by decide) ?_
  refine va_newa (atype := .int) (ty := .int) (N' := 60) (a0 := (60, .inl (fun _ => 0))) hx hb (hts (.arrayClass .int) (by decide +kernel)) rfl hK.1 hP hD hS hA (fun _ => rfl) (by decide) rfl (by decide) (Nat.le_of_ble_eq_true rfl) (Nat.le_of_ble_eq_true rfl) dX2_init_56 (fun aty cA H hK2 hP hD hS => ?_)
  rw [pK.int hK2] at hP hD
  have hP : va_P D vwCl [(m0, .inr (2, [.int 0, .int 0, .int 0, .ref aP, .ref ax, .ref ay, .int 0, .ref afx, .ref afy, .ref atx, .null, .int 0, .int 0, .int 0, .int 0, .int 0, .int 0])), (aP, .inl (cI, 576, .inl (fun _ => 0))), (ax, .inl (cI, 60, .inl (fun _ => 0))), (ay, .inl (cI, 60, .inl (fun _ => 0))), (afx, .inl (cI, 60, .inl (fun _ => 0))), (afy, .inl (cI, 60, .inl (fun _ => 0))), (atx, .inl (cI, 60, .inl (fun _ => 0))), (aty, .inl (cI, 60, .inl (fun _ => 0)))] H := hP
  have hD : va_D A [(m0, .inr (2, [.int 0, .int 0, .int 0, .ref aP, .ref ax, .ref ay, .int 0, .ref afx, .ref afy, .ref atx, .null, .int 0, .int 0, .int 0, .int 0, .int 0, .int 0])), (aP, .inl (cI, 576, .inl (fun _ => 0))), (ax, .inl (cI, 60, .inl (fun _ => 0))), (ay, .inl (cI, 60, .inl (fun _ => 0))), (afx, .inl (cI, 60, .inl (fun _ => 0))), (afy, .inl (cI, 60, .inl (fun _ => 0))), (atx, .inl (cI, 60, .inl (fun _ => 0))), (aty, .inl (cI, 60, .inl (fun _ => 0)))] := hD
  refine W.widen (k := 7) (n := 936) (by omega) (by omega) ?_
  refine va_putF (D := D) (ci := 2) (v := .ref aty) (ty := .array .int) (C := RX2) (T := TX2) (N := 17) hx hb hts nX2_init_X2 tyX2 tyX2_ok nmX2 hown hK.1 hP hD hS 0 rfl rfl 10 (by decide) (hts (.fieldLink RX2 28 "PolygonFrameModel" "toY" "[I") (by decide +kernel)) (fun _ h9 => h9) rfl hin rfl (tyX2_ok 10 (by decide)) rfl rfl (Nat.le_of_ble_eq_true rfl) dX2_init_58 (fun H locs hP hD hS => ?_)
  have hP : va_P D vwCl [(m0, .inr (2, [.int 0, .int 0, .int 0, .ref aP, .ref ax, .ref ay, .int 0, .ref afx, .ref afy, .ref atx, .ref aty, .int 0, .int 0, .int 0, .int 0, .int 0, .int 0])), (aP, .inl (cI, 576, .inl (fun _ => 0))), (ax, .inl (cI, 60, .inl (fun _ => 0))), (ay, .inl (cI, 60, .inl (fun _ => 0))), (afx, .inl (cI, 60, .inl (fun _ => 0))), (afy, .inl (cI, 60, .inl (fun _ => 0))), (atx, .inl (cI, 60, .inl (fun _ => 0))), (aty, .inl (cI, 60, .inl (fun _ => 0)))] H := hP
  have hD : va_D A [(m0, .inr (2, [.int 0, .int 0, .int 0, .ref aP, .ref ax, .ref ay, .int 0, .ref afx, .ref afy, .ref atx, .ref aty, .int 0, .int 0, .int 0, .int 0, .int 0, .int 0])), (aP, .inl (cI, 576, .inl (fun _ => 0))), (ax, .inl (cI, 60, .inl (fun _ => 0))), (ay, .inl (cI, 60, .inl (fun _ => 0))), (afx, .inl (cI, 60, .inl (fun _ => 0))), (afy, .inl (cI, 60, .inl (fun _ => 0))), (atx, .inl (cI, 60, .inl (fun _ => 0))), (aty, .inl (cI, 60, .inl (fun _ => 0)))] := hD
  refine lv_aload_n hx hb dX2_init_61 rfl (lv_at hl 0 rfl) ?_
  refine lv_sipush (v := (-16384)) hx hb dX2_init_62 (by decide) ?_
  refine va_put (D := D) (ci := 2) (v := .int (-16384)) (ty := .int) (C := RX2) (T := TX2) (N := 17) hx hb hts nX2_init_X2 tyX2 tyX2_ok nmX2 hown hK.1 hP hD hS 0 rfl rfl 13 (by decide) (hts (.fieldLink RX2 31 "PolygonFrameModel" "left" "I") (by decide +kernel)) (fun _ h9 => h9) rfl (tyX2_ok 13 (by decide)) rfl rfl (Nat.le_of_ble_eq_true rfl) dX2_init_65 (fun H locs hP hD hS => ?_)
  have hP : va_P D vwCl [(m0, .inr (2, [.int 0, .int 0, .int 0, .ref aP, .ref ax, .ref ay, .int 0, .ref afx, .ref afy, .ref atx, .ref aty, .int 0, .int 0, .int (-16384), .int 0, .int 0, .int 0])), (aP, .inl (cI, 576, .inl (fun _ => 0))), (ax, .inl (cI, 60, .inl (fun _ => 0))), (ay, .inl (cI, 60, .inl (fun _ => 0))), (afx, .inl (cI, 60, .inl (fun _ => 0))), (afy, .inl (cI, 60, .inl (fun _ => 0))), (atx, .inl (cI, 60, .inl (fun _ => 0))), (aty, .inl (cI, 60, .inl (fun _ => 0)))] H := hP
  have hD : va_D A [(m0, .inr (2, [.int 0, .int 0, .int 0, .ref aP, .ref ax, .ref ay, .int 0, .ref afx, .ref afy, .ref atx, .ref aty, .int 0, .int 0, .int (-16384), .int 0, .int 0, .int 0])), (aP, .inl (cI, 576, .inl (fun _ => 0))), (ax, .inl (cI, 60, .inl (fun _ => 0))), (ay, .inl (cI, 60, .inl (fun _ => 0))), (afx, .inl (cI, 60, .inl (fun _ => 0))), (afy, .inl (cI, 60, .inl (fun _ => 0))), (atx, .inl (cI, 60, .inl (fun _ => 0))), (aty, .inl (cI, 60, .inl (fun _ => 0)))] := hD
  refine lv_aload_n hx hb dX2_init_68 rfl (lv_at hl 0 rfl) ?_
  refine lv_sipush (v := 16384) hx hb dX2_init_69 (by decide) ?_
  refine va_put (D := D) (ci := 2) (v := .int 16384) (ty := .int) (C := RX2) (T := TX2) (N := 17) hx hb hts nX2_init_X2 tyX2 tyX2_ok nmX2 hown hK.1 hP hD hS 0 rfl rfl 14 (by decide) (hts (.fieldLink RX2 35 "PolygonFrameModel" "right" "I") (by decide +kernel)) (fun _ h9 => h9) rfl (tyX2_ok 14 (by decide)) rfl rfl (Nat.le_of_ble_eq_true rfl) dX2_init_72 (fun H locs hP hD hS => ?_)
  have hP : va_P D vwCl [(m0, .inr (2, [.int 0, .int 0, .int 0, .ref aP, .ref ax, .ref ay, .int 0, .ref afx, .ref afy, .ref atx, .ref aty, .int 0, .int 0, .int (-16384), .int 16384, .int 0, .int 0])), (aP, .inl (cI, 576, .inl (fun _ => 0))), (ax, .inl (cI, 60, .inl (fun _ => 0))), (ay, .inl (cI, 60, .inl (fun _ => 0))), (afx, .inl (cI, 60, .inl (fun _ => 0))), (afy, .inl (cI, 60, .inl (fun _ => 0))), (atx, .inl (cI, 60, .inl (fun _ => 0))), (aty, .inl (cI, 60, .inl (fun _ => 0)))] H := hP
  have hD : va_D A [(m0, .inr (2, [.int 0, .int 0, .int 0, .ref aP, .ref ax, .ref ay, .int 0, .ref afx, .ref afy, .ref atx, .ref aty, .int 0, .int 0, .int (-16384), .int 16384, .int 0, .int 0])), (aP, .inl (cI, 576, .inl (fun _ => 0))), (ax, .inl (cI, 60, .inl (fun _ => 0))), (ay, .inl (cI, 60, .inl (fun _ => 0))), (afx, .inl (cI, 60, .inl (fun _ => 0))), (afy, .inl (cI, 60, .inl (fun _ => 0))), (atx, .inl (cI, 60, .inl (fun _ => 0))), (aty, .inl (cI, 60, .inl (fun _ => 0)))] := hD
  refine lv_aload_n hx hb dX2_init_75 rfl (lv_at hl 0 rfl) ?_
  refine lv_sipush (v := (-16384)) hx hb dX2_init_76 (by decide) ?_
  refine va_put (D := D) (ci := 2) (v := .int (-16384)) (ty := .int) (C := RX2) (T := TX2) (N := 17) hx hb hts nX2_init_X2 tyX2 tyX2_ok nmX2 hown hK.1 hP hD hS 0 rfl rfl 15 (by decide) (hts (.fieldLink RX2 38 "PolygonFrameModel" "low" "I") (by decide +kernel)) (fun _ h9 => h9) rfl (tyX2_ok 15 (by decide)) rfl rfl (Nat.le_of_ble_eq_true rfl) dX2_init_79 (fun H locs hP hD hS => ?_)
  have hP : va_P D vwCl [(m0, .inr (2, [.int 0, .int 0, .int 0, .ref aP, .ref ax, .ref ay, .int 0, .ref afx, .ref afy, .ref atx, .ref aty, .int 0, .int 0, .int (-16384), .int 16384, .int (-16384), .int 0])), (aP, .inl (cI, 576, .inl (fun _ => 0))), (ax, .inl (cI, 60, .inl (fun _ => 0))), (ay, .inl (cI, 60, .inl (fun _ => 0))), (afx, .inl (cI, 60, .inl (fun _ => 0))), (afy, .inl (cI, 60, .inl (fun _ => 0))), (atx, .inl (cI, 60, .inl (fun _ => 0))), (aty, .inl (cI, 60, .inl (fun _ => 0)))] H := hP
  have hD : va_D A [(m0, .inr (2, [.int 0, .int 0, .int 0, .ref aP, .ref ax, .ref ay, .int 0, .ref afx, .ref afy, .ref atx, .ref aty, .int 0, .int 0, .int (-16384), .int 16384, .int (-16384), .int 0])), (aP, .inl (cI, 576, .inl (fun _ => 0))), (ax, .inl (cI, 60, .inl (fun _ => 0))), (ay, .inl (cI, 60, .inl (fun _ => 0))), (afx, .inl (cI, 60, .inl (fun _ => 0))), (afy, .inl (cI, 60, .inl (fun _ => 0))), (atx, .inl (cI, 60, .inl (fun _ => 0))), (aty, .inl (cI, 60, .inl (fun _ => 0)))] := hD
  refine lv_aload_n hx hb dX2_init_82 rfl (lv_at hl 0 rfl) ?_
  refine lv_sipush (v := 16384) hx hb dX2_init_83 (by decide) ?_
  refine va_put (D := D) (ci := 2) (v := .int 16384) (ty := .int) (C := RX2) (T := TX2) (N := 17) hx hb hts nX2_init_X2 tyX2 tyX2_ok nmX2 hown hK.1 hP hD hS 0 rfl rfl 16 (by decide) (hts (.fieldLink RX2 41 "PolygonFrameModel" "top" "I") (by decide +kernel)) (fun _ h9 => h9) rfl (tyX2_ok 16 (by decide)) rfl rfl (Nat.le_of_ble_eq_true rfl) dX2_init_86 (fun H locs hP hD hS => ?_)
  have hP : va_P D vwCl [(m0, .inr (2, [.int 0, .int 0, .int 0, .ref aP, .ref ax, .ref ay, .int 0, .ref afx, .ref afy, .ref atx, .ref aty, .int 0, .int 0, .int (-16384), .int 16384, .int (-16384), .int 16384])), (aP, .inl (cI, 576, .inl (fun _ => 0))), (ax, .inl (cI, 60, .inl (fun _ => 0))), (ay, .inl (cI, 60, .inl (fun _ => 0))), (afx, .inl (cI, 60, .inl (fun _ => 0))), (afy, .inl (cI, 60, .inl (fun _ => 0))), (atx, .inl (cI, 60, .inl (fun _ => 0))), (aty, .inl (cI, 60, .inl (fun _ => 0)))] H := hP
  have hD : va_D A [(m0, .inr (2, [.int 0, .int 0, .int 0, .ref aP, .ref ax, .ref ay, .int 0, .ref afx, .ref afy, .ref atx, .ref aty, .int 0, .int 0, .int (-16384), .int 16384, .int (-16384), .int 16384])), (aP, .inl (cI, 576, .inl (fun _ => 0))), (ax, .inl (cI, 60, .inl (fun _ => 0))), (ay, .inl (cI, 60, .inl (fun _ => 0))), (afx, .inl (cI, 60, .inl (fun _ => 0))), (afy, .inl (cI, 60, .inl (fun _ => 0))), (atx, .inl (cI, 60, .inl (fun _ => 0))), (aty, .inl (cI, 60, .inl (fun _ => 0)))] := hD
  refine lv_aload_n hx hb dX2_init_89 rfl (lv_at hl 0 rfl) ?_
  refine lv_iload_n hx hb dX2_init_90 rfl (lv_at hl 1 rfl) ?_
  refine lv_iconst (v := 1) hx hb dX2_init_91 (by decide) ?_
  refine lv_bipush (v := 24) hx hb dX2_init_92 (by decide) ?_
  refine rd_i (va_runS (As := [.int w0, .int 1, .int 24]) ⟨hx, hb, hml, hown, hts⟩ (kX2_between l D cI cZ w0 1 24) (va_cwS 3 hts gX2_init_X2_between rfl rfl rfl (by decide +kernel) ⟨Nat.le_of_ble_eq_true rfl, Nat.le_of_ble_eq_true rfl⟩) rd_pre0 rfl rfl hl.1 rfl (lv_room (Nat.le_of_ble_eq_true rfl)) dX2_init_94 ⟨Nat.le_of_ble_eq_true rfl, Nat.le_of_ble_eq_true rfl⟩) ?_
  refine q_eq ((bw_ne (by decide)).trans ew) ?_
  refine va_putF (D := D) (ci := 2) (v := .int (nI (nN 1 24 w0))) (ty := .int) (C := RX2) (T := TX2) (N := 17) hx hb hts nX2_init_X2 tyX2 tyX2_ok nmX2 hown hK.1 hP hD hS 0 rfl rfl 0 (by decide) (hts (.fieldLink RX2 48 "PolygonFrameModel" "wide" "I") (by decide +kernel)) (fun _ h9 => h9) rfl hin rfl (tyX2_ok 0 (by decide)) rfl rfl (Nat.le_of_ble_eq_true rfl) dX2_init_97 (fun H locs hP hD hS => ?_)
  have hP : va_P D vwCl [(m0, .inr (2, [.int (nI (nN 1 24 w0)), .int 0, .int 0, .ref aP, .ref ax, .ref ay, .int 0, .ref afx, .ref afy, .ref atx, .ref aty, .int 0, .int 0, .int (-16384), .int 16384, .int (-16384), .int 16384])), (aP, .inl (cI, 576, .inl (fun _ => 0))), (ax, .inl (cI, 60, .inl (fun _ => 0))), (ay, .inl (cI, 60, .inl (fun _ => 0))), (afx, .inl (cI, 60, .inl (fun _ => 0))), (afy, .inl (cI, 60, .inl (fun _ => 0))), (atx, .inl (cI, 60, .inl (fun _ => 0))), (aty, .inl (cI, 60, .inl (fun _ => 0)))] H := hP
  have hD : va_D A [(m0, .inr (2, [.int (nI (nN 1 24 w0)), .int 0, .int 0, .ref aP, .ref ax, .ref ay, .int 0, .ref afx, .ref afy, .ref atx, .ref aty, .int 0, .int 0, .int (-16384), .int 16384, .int (-16384), .int 16384])), (aP, .inl (cI, 576, .inl (fun _ => 0))), (ax, .inl (cI, 60, .inl (fun _ => 0))), (ay, .inl (cI, 60, .inl (fun _ => 0))), (afx, .inl (cI, 60, .inl (fun _ => 0))), (afy, .inl (cI, 60, .inl (fun _ => 0))), (atx, .inl (cI, 60, .inl (fun _ => 0))), (aty, .inl (cI, 60, .inl (fun _ => 0)))] := hD
  refine lv_aload_n hx hb dX2_init_100 rfl (lv_at hl 0 rfl) ?_
  refine lv_iload_n hx hb dX2_init_101 rfl (lv_at hl 2 rfl) ?_
  refine lv_iconst (v := 1) hx hb dX2_init_102 (by decide) ?_
  refine lv_bipush (v := 24) hx hb dX2_init_103 (by decide) ?_
  refine rd_i (va_runS (As := [.int h0, .int 1, .int 24]) ⟨hx, hb, hml, hown, hts⟩ (kX2_between l D cI cZ h0 1 24) (va_cwS 3 hts gX2_init_X2_between rfl rfl rfl (by decide +kernel) ⟨Nat.le_of_ble_eq_true rfl, Nat.le_of_ble_eq_true rfl⟩) rd_pre0 rfl rfl hl.1 rfl (lv_room (Nat.le_of_ble_eq_true rfl)) dX2_init_105 ⟨Nat.le_of_ble_eq_true rfl, Nat.le_of_ble_eq_true rfl⟩) ?_
  refine q_eq ((bw_ne (by decide)).trans eh) ?_
  refine va_putF (D := D) (ci := 2) (v := .int (nI (nN 1 24 h0))) (ty := .int) (C := RX2) (T := TX2) (N := 17) hx hb hts nX2_init_X2 tyX2 tyX2_ok nmX2 hown hK.1 hP hD hS 0 rfl rfl 1 (by decide) (hts (.fieldLink RX2 51 "PolygonFrameModel" "high" "I") (by decide +kernel)) (fun _ h9 => h9) rfl hin rfl (tyX2_ok 1 (by decide)) rfl rfl (Nat.le_of_ble_eq_true rfl) dX2_init_108 (fun H locs hP hD hS => ?_)
  have hP : va_P D vwCl [(m0, .inr (2, [.int (nI (nN 1 24 w0)), .int (nI (nN 1 24 h0)), .int 0, .ref aP, .ref ax, .ref ay, .int 0, .ref afx, .ref afy, .ref atx, .ref aty, .int 0, .int 0, .int (-16384), .int 16384, .int (-16384), .int 16384])), (aP, .inl (cI, 576, .inl (fun _ => 0))), (ax, .inl (cI, 60, .inl (fun _ => 0))), (ay, .inl (cI, 60, .inl (fun _ => 0))), (afx, .inl (cI, 60, .inl (fun _ => 0))), (afy, .inl (cI, 60, .inl (fun _ => 0))), (atx, .inl (cI, 60, .inl (fun _ => 0))), (aty, .inl (cI, 60, .inl (fun _ => 0)))] H := hP
  have hD : va_D A [(m0, .inr (2, [.int (nI (nN 1 24 w0)), .int (nI (nN 1 24 h0)), .int 0, .ref aP, .ref ax, .ref ay, .int 0, .ref afx, .ref afy, .ref atx, .ref aty, .int 0, .int 0, .int (-16384), .int 16384, .int (-16384), .int 16384])), (aP, .inl (cI, 576, .inl (fun _ => 0))), (ax, .inl (cI, 60, .inl (fun _ => 0))), (ay, .inl (cI, 60, .inl (fun _ => 0))), (afx, .inl (cI, 60, .inl (fun _ => 0))), (afy, .inl (cI, 60, .inl (fun _ => 0))), (atx, .inl (cI, 60, .inl (fun _ => 0))), (aty, .inl (cI, 60, .inl (fun _ => 0)))] := hD
  refine lv_aload_n hx hb dX2_init_111 rfl (lv_at hl 0 rfl) ?_
  refine lv_iload_n hx hb dX2_init_112 rfl (lv_at hl 3 rfl) ?_
  refine lv_iconst (v := 3) hx hb dX2_init_113 (by decide) ?_
  refine lv_bipush (v := 60) hx hb dX2_init_114 (by decide) ?_
  refine rd_i (va_runS (As := [.int v0, .int 3, .int 60]) ⟨hx, hb, hml, hown, hts⟩ (kX2_between l D cI cZ v0 3 60) (va_cwS 3 hts gX2_init_X2_between rfl rfl rfl (by decide +kernel) ⟨Nat.le_of_ble_eq_true rfl, Nat.le_of_ble_eq_true rfl⟩) rd_pre0 rfl rfl hl.1 rfl (lv_room (Nat.le_of_ble_eq_true rfl)) dX2_init_116 ⟨Nat.le_of_ble_eq_true rfl, Nat.le_of_ble_eq_true rfl⟩) ?_
  refine q_eq ((bw_ne (by decide)).trans ev) ?_
  refine va_putF (D := D) (ci := 2) (v := .int (nI (nN 3 60 v0))) (ty := .int) (C := RX2) (T := TX2) (N := 17) hx hb hts nX2_init_X2 tyX2 tyX2_ok nmX2 hown hK.1 hP hD hS 0 rfl rfl 2 (by decide) (hts (.fieldLink RX2 54 "PolygonFrameModel" "most" "I") (by decide +kernel)) (fun _ h9 => h9) rfl hin rfl (tyX2_ok 2 (by decide)) rfl rfl (Nat.le_of_ble_eq_true rfl) dX2_init_119 (fun H locs hP hD hS => ?_)
  have hP : va_P D vwCl [(m0, .inr (2, [.int (nI (nN 1 24 w0)), .int (nI (nN 1 24 h0)), .int (nI (nN 3 60 v0)), .ref aP, .ref ax, .ref ay, .int 0, .ref afx, .ref afy, .ref atx, .ref aty, .int 0, .int 0, .int (-16384), .int 16384, .int (-16384), .int 16384])), (aP, .inl (cI, 576, .inl (fun _ => 0))), (ax, .inl (cI, 60, .inl (fun _ => 0))), (ay, .inl (cI, 60, .inl (fun _ => 0))), (afx, .inl (cI, 60, .inl (fun _ => 0))), (afy, .inl (cI, 60, .inl (fun _ => 0))), (atx, .inl (cI, 60, .inl (fun _ => 0))), (aty, .inl (cI, 60, .inl (fun _ => 0)))] H := hP
  have hD : va_D A [(m0, .inr (2, [.int (nI (nN 1 24 w0)), .int (nI (nN 1 24 h0)), .int (nI (nN 3 60 v0)), .ref aP, .ref ax, .ref ay, .int 0, .ref afx, .ref afy, .ref atx, .ref aty, .int 0, .int 0, .int (-16384), .int 16384, .int (-16384), .int 16384])), (aP, .inl (cI, 576, .inl (fun _ => 0))), (ax, .inl (cI, 60, .inl (fun _ => 0))), (ay, .inl (cI, 60, .inl (fun _ => 0))), (afx, .inl (cI, 60, .inl (fun _ => 0))), (afy, .inl (cI, 60, .inl (fun _ => 0))), (atx, .inl (cI, 60, .inl (fun _ => 0))), (aty, .inl (cI, 60, .inl (fun _ => 0)))] := hD
  refine W.widen (k := 7) (n := 1000) (by omega) (by omega) ?_
  exact W.vret hx hb hr (fun t ht hW => ⟨⟨(aP, ax, ay, afx, afy, atx, aty), rfl, trivial, by rw [ht]; exact hP, by rw [hAe]; exact hD⟩, hS.F ht⟩) hS.2.2 dX2_init_122
