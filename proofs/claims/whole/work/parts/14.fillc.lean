/-! THE CLASS'S FILL: marks, a line, the frame. -/
theorem tu_upd {xs ys : Nat → Int32} {n w k : Nat} {y : Int32} {f : Nat → Int32} {v : Int32} (h : emB ys n k y = true) (hf : ∀ i, i ≤ w → f i = bI (tuB xs ys n w y k i)) (hv : v = bI (!(tuB xs ys n w y k (clN w (cuI xs ys n k y))))) : ∀ i, i ≤ w → upd f (clN w (cuI xs ys n k y)) v i = bI (tuB xs ys n w y (k + 1) i) := by
  intro i hi
  rw [tu_t h]
  by_cases he : i = clN w (cuI xs ys n k y)
  · rw [he, pk_us, hv]
    show _ = bI (if clN w (cuI xs ys n k y) = clN w (cuI xs ys n k y) then _ else _)
    rw [if_pos rfl]
  · rw [pk_un he, hf i hi]
    show _ = bI (if i = clN w (cuI xs ys n k y) then _ else _)
    rw [if_neg he]
theorem sf_s {T : Nat → Bool} {w k : Nat} (hk : k < w) : sfD T w (w - k) = (T (k + 1) != sfD T w (w - (k + 1))) := by
  rw [show w - k = (w - (k + 1)) + 1 by omega, sfD, show w - (w - (k + 1)) = k + 1 by omega]
theorem px_set {cl col : Nat → Int32} {w h j k : Nat} {v : Int32} {R : Nat → Bool} (hk : k < w) (hR : R k = true) (hcl : ∀ x y, x < w → y < h → cl (y * w + x) = if y = j ∧ k + 1 ≤ x ∧ R x = true then v else col (y * w + x)) :
    ∀ x y, x < w → y < h → upd cl (j * w + k) v (y * w + x) = if y = j ∧ k ≤ x ∧ R x = true then v else col (y * w + x) := by
  intro x y hx hy
  by_cases he : y * w + x = j * w + k
  · obtain ⟨h1, h2⟩ := at_inj hx hk he
    rw [he, pk_us, if_pos ⟨h1, by omega, by rw [h2]; exact hR⟩]
  · rw [pk_un he, hcl x y hx hy]
    by_cases hc : y = j ∧ k + 1 ≤ x ∧ R x = true
    · rw [if_pos hc, if_pos ⟨hc.1, by omega, hc.2.2⟩]
    · rw [if_neg hc, if_neg]
      intro h2
      apply hc
      refine ⟨h2.1, ?_, h2.2.2⟩
      have : x ≠ k := fun e => he (by rw [e, h2.1])
      omega
theorem px_skip {cl col : Nat → Int32} {w h j k : Nat} {v : Int32} {R : Nat → Bool} (hR : R k = false) (hcl : ∀ x y, x < w → y < h → cl (y * w + x) = if y = j ∧ k + 1 ≤ x ∧ R x = true then v else col (y * w + x)) :
    ∀ x y, x < w → y < h → cl (y * w + x) = if y = j ∧ k ≤ x ∧ R x = true then v else col (y * w + x) := by
  intro x y hx hy
  rw [hcl x y hx hy]
  by_cases hc : y = j ∧ k + 1 ≤ x ∧ R x = true
  · rw [if_pos hc, if_pos ⟨hc.1, by omega, hc.2.2⟩]
  · rw [if_neg hc, if_neg]
    intro h2
    apply hc
    refine ⟨h2.1, ?_, h2.2.2⟩
    have : x ≠ k := fun e => by rw [e, hR] at h2; exact absurd h2.2.2 (by decide)
    omega
/-- is a pixel inside -/
def inC (xs ys : Nat → Int32) (n x y : Nat) : Bool := oddB (crB xs ys n (nI x) (nI y)) n
theorem px_row {cl col u : Nat → Int32} {w h j : Nat} {v : Int32} {R : Nat → Bool} {IN : Nat → Nat → Bool} (hRI : ∀ x, x < w → R x = IN x j) (hcl : ∀ x y, x < w → y < h → cl (y * w + x) = if y < j ∧ IN x y = true then v else col (y * w + x)) (hu : ∀ x y, x < w → y < h → u (y * w + x) = if y = j ∧ R x = true then v else cl (y * w + x)) :
    ∀ x y, x < w → y < h → u (y * w + x) = if y < j + 1 ∧ IN x y = true then v else col (y * w + x) := by
  intro x y hx hy
  rw [hu x y hx hy, hcl x y hx hy]
  by_cases hyj : y = j
  · subst hyj
    rw [hRI x hx]
    by_cases hi : IN x y = true
    · rw [if_pos ⟨rfl, hi⟩, if_pos ⟨by omega, hi⟩]
    · rw [if_neg (fun q => hi q.2), if_neg (fun q => hi q.2), if_neg (fun q => hi q.2)]
  · rw [if_neg (fun q => hyj q.1)]
    by_cases hc : y < j ∧ IN x y = true
    · rw [if_pos hc, if_pos ⟨by omega, hc.2⟩]
    · rw [if_neg hc, if_neg]
      intro q
      exact hc ⟨by omega, q.2⟩
theorem nX1_markTurns_X1 : ∀ w ∈ wsX10, w ∈ wsX1_markTurns := fun w h => List.mem_cons_of_mem _ (List.mem_append_left _ (List.mem_append_right _ h))
theorem nX1_markTurns_X0 : ∀ w ∈ wsX00, w ∈ wsX1_markTurns := fun w h => List.mem_cons_of_mem _ (List.mem_append_right _ h)
set_option maxHeartbeats 4000000 in
set_option maxRecDepth 100000 in
theorem kX1_markTurns (l : Launch) (D : va_G) (cI cZ : ClassId) (sz : Nat) (p0 aC aT aS r0 rO rE wd hg : Nat) (ax ay n cap : Nat) (xs ys : Nat → Int32) (tn : Nat → Int32) (y : Int32) (hn : n ≤ cap) (hc : cap ≤ 60) (hw : wd ≤ 24) : Met l yX1_markTurns wsX1_markTurns ({ frames := 2, cells := 0, slots := 0, locals := 80 }) (va_Pc [.ref p0, .int y] (wrP D cI cZ sz [(p0, .inr (1, [.int (nI wd), .int (nI hg), .ref aC, .ref aT, .ref aS, .ref r0, .ref rO, .ref rE])), (r0, .inr (0, [.ref ax, .ref ay, .int (nI n)])), (ax, .inl (cI, cap, .inl xs)), (ay, .inl (cI, cap, .inl ys)), (aT, .inl (cZ, (wd + 1), .inl tn))])) (va_Qv (S := Nat → Int32) (fun u => ∀ i, i ≤ wd → u i = bI (tuB xs ys n wd y n i)) (wrB D [(p0, .inr (1, [.int (nI wd), .int (nI hg), .ref aC, .ref aT, .ref aS, .ref r0, .ref rO, .ref rE])), (r0, .inr (0, [.ref ax, .ref ay, .int (nI n)])), (ax, .inl (cI, cap, .inl xs)), (ay, .inl (cI, cap, .inl ys)), (aT, .inl (cZ, (wd + 1), .inl tn))] sz (fun u => [(p0, .inr (1, [.int (nI wd), .int (nI hg), .ref aC, .ref aT, .ref aS, .ref r0, .ref rO, .ref rE])), (r0, .inr (0, [.ref ax, .ref ay, .int (nI n)])), (ax, .inl (cI, cap, .inl xs)), (ay, .inl (cI, cap, .inl ys)), (aT, .inl (cZ, (wd + 1), .inl u))])) (va_A [(p0, .inr (1, [.int (nI wd), .int (nI hg), .ref aC, .ref aT, .ref aS, .ref r0, .ref rO, .ref rE])), (r0, .inr (0, [.ref ax, .ref ay, .int (nI n)])), (ax, .inl (cI, cap, .inl xs)), (ay, .inl (cI, cap, .inl ys)), (aT, .inl (cZ, (wd + 1), .inl tn))] sz)) 0 0 (va_A [(p0, .inr (1, [.int (nI wd), .int (nI hg), .ref aC, .ref aT, .ref aS, .ref r0, .ref rO, .ref rE])), (r0, .inr (0, [.ref ax, .ref ay, .int (nI n)])), (ax, .inl (cI, cap, .inl xs)), (ay, .inl (cI, cap, .inl ys)), (aT, .inl (cZ, (wd + 1), .inl tn))] sz) := by
  refine Met.ofW (cc := cX1_markTurns) (maxL := 4) (ret := none) (by decide) rfl ?_
  intro p e s m args below meth c s₁ B hml hv
  obtain ⟨rfl, hsz, hP, hK, hD0⟩ := hv
  have hx := B.exec
  have hb := B.bytes
  have hr := B.returns
  have hts := atoms_spec (ws := wsX1_markTurns) B.pre
  have hown : s.vm.findClass RX1 = some m.cls := findClass_of_methodNamed B.named
  have hlocks := B.notSynchronized
  subst hsz
  have hD := hD0.self (sz := s.heap.size)
  generalize hAe : va_A [(p0, .inr (1, [.int (nI wd), .int (nI hg), .ref aC, .ref aT, .ref aS, .ref r0, .ref rO, .ref rE])), (r0, .inr (0, [.ref ax, .ref ay, .int (nI n)])), (ax, .inl (cI, cap, .inl xs)), (ay, .inl (cI, cap, .inl ys)), (aT, .inl (cZ, (wd + 1), .inl tn))] s.heap.size = A at hD ⊢
  have hA : ∀ q : Nat, s.heap.size ≤ q → A q := fun q h => by rw [← hAe]; exact Or.inr h
  have hS : va_S A s.heap s.heap [] := va_S.rf
  have hP : va_P D vwCl [(p0, .inr (1, [.int (nI wd), .int (nI hg), .ref aC, .ref aT, .ref aS, .ref r0, .ref rO, .ref rE])), (r0, .inr (0, [.ref ax, .ref ay, .int (nI n)])), (ax, .inl (cI, cap, .inl xs)), (ay, .inl (cI, cap, .inl ys)), (aT, .inl (cZ, (wd + 1), .inl tn))] s.heap := hP
  have hl := lv_entry ([.ref p0, .int y]) (n := 4) (Nat.le_of_ble_eq_true rfl)
  rw [lg_entry_eq]
  generalize (lg_sl ([.ref p0, .int y]) ++ List.replicate (4 - (lg_sl ([.ref p0, .int y])).length) Slot.unset).toArray = ls at hl ⊢
  have hl : lv_has ls 4 [(0, .ref p0), (1, .int y)] := hl
  have L2 : ∀ (j k : Nat), k ≤ n → n < k + j → ∀ f : Nat → Int32, (∀ i, i ≤ wd → f i = bI (tuB xs ys n wd y k i)) → ∀ (H : Heap) (locs : List Loc), va_P D vwCl [(p0, .inr (1, [.int (nI wd), .int (nI hg), .ref aC, .ref aT, .ref aS, .ref r0, .ref rO, .ref rE])), (r0, .inr (0, [.ref ax, .ref ay, .int (nI n)])), (ax, .inl (cI, cap, .inl xs)), (ay, .inl (cI, cap, .inl ys)), (aT, .inl (cZ, (wd + 1), .inl f))] H → va_D A [(p0, .inr (1, [.int (nI wd), .int (nI hg), .ref aC, .ref aT, .ref aS, .ref r0, .ref rO, .ref rE])), (r0, .inr (0, [.ref ax, .ref ay, .int (nI n)])), (ax, .inl (cI, cap, .inl xs)), (ay, .inl (cI, cap, .inl ys)), (aT, .inl (cZ, (wd + 1), .inl f))] → va_S A s.heap H locs → ∀ ls : Array Slot, lv_has ls 4 [(0, .ref p0), (1, .int y), (2, .int (nI k))] → W p l e ({ frames := 2, cells := 0, slots := 0, locals := 80 } : Room) s m #[.ref p0, .int y] below meth c H locs 0 0 (MQ below (va_Qv (S := Nat → Int32) (fun u => ∀ i, i ≤ wd → u i = bI (tuB xs ys n wd y n i)) (wrB D [(p0, .inr (1, [.int (nI wd), .int (nI hg), .ref aC, .ref aT, .ref aS, .ref r0, .ref rO, .ref rE])), (r0, .inr (0, [.ref ax, .ref ay, .int (nI n)])), (ax, .inl (cI, cap, .inl xs)), (ay, .inl (cI, cap, .inl ys)), (aT, .inl (cZ, (wd + 1), .inl tn))] s.heap.size (fun u => [(p0, .inr (1, [.int (nI wd), .int (nI hg), .ref aC, .ref aT, .ref aS, .ref r0, .ref rO, .ref rE])), (r0, .inr (0, [.ref ax, .ref ay, .int (nI n)])), (ax, .inl (cI, cap, .inl xs)), (ay, .inl (cI, cap, .inl ys)), (aT, .inl (cZ, (wd + 1), .inl u))])) A) #[.ref p0, .int y] s 0 0 A) (F0 m 25 ls []) := by
    intro j
    induction j with
    | zero => intro k h1 h2; omega
    | succ j ih =>
      intro k hk hkj f hf H locs hP hD hS ls hl
      refine lv_iload_n hx hb dX1_markTurns_25 rfl (lv_at hl 2 rfl) ?_
      refine lv_aload_n hx hb dX1_markTurns_26 rfl (lv_at hl 0 rfl) ?_
      refine va_get (D := D) (ci := 1) (v := .ref r0) (C := RX1) (T := TX1) (N := 8) hx hb hts nX1_markTurns_X1 hown hK.1 hP 0 rfl rfl 5 (by decide) (hts (.fieldLink RX1 36 "PolygonFrame" "polygon" "LPolygonFrame$Ring;") (by decide +kernel)) (fun _ h9 => h9) rfl dX1_markTurns_27 ?_
      refine va_getN (D := D) (ci := 0) (v := .int (nI n)) (C := RX0) (T := TX0) (N := 3) hx hb hts nX1_markTurns_X0 hown hK.1 hP 1 rfl rfl 2 (by decide) (hK.2.count _) (fun _ h9 => h9) rfl dX1_markTurns_30 ?_
      refine lv_icmp_ge (tgt := 92) hx hb dX1_markTurns_33 (by decide) (fun c33 => ?_) (fun c33 => ?_)
      · skip
        have hkn : k = n := Nat.le_antisymm hk ((nI_leI (by omega) (by omega)).mp c33)
        rw [hkn] at hf
        exact W.vret hx hb hr (fun t ht hW => ⟨⟨f, rfl, hf, by rw [ht]; exact hP, by rw [hAe]; exact hD⟩, hS.F ht⟩) hS.2.2 dX1_markTurns_92
      · skip
        have hk2 : k < n := Nat.lt_of_not_le (fun h => c33 (nI_le h (by omega)))
        refine lv_aload_n hx hb dX1_markTurns_36 rfl (lv_at hl 0 rfl) ?_
        refine va_get (D := D) (ci := 1) (v := .ref r0) (C := RX1) (T := TX1) (N := 8) hx hb hts nX1_markTurns_X1 hown hK.1 hP 0 rfl rfl 5 (by decide) (hts (.fieldLink RX1 36 "PolygonFrame" "polygon" "LPolygonFrame$Ring;") (by decide +kernel)) (fun _ h9 => h9) rfl dX1_markTurns_37 ?_
        refine lv_iload_n hx hb dX1_markTurns_40 rfl (lv_at hl 2 rfl) ?_
        refine lv_iload_n hx hb dX1_markTurns_41 rfl (lv_at hl 1 rfl) ?_
        refine rd_i (va_runVN (C := RX0) (As := [.int (nI k), .int y]) ⟨hx, hb, hml, hown, hts⟩ (kX0_edgeMeets l D cI cZ r0 ax ay n cap k xs ys y hk2 hn hc) ⟨va_cnB 2 hts gX1_markTurns_X0_edgeMeets_n86 rfl rfl rfl hK.2.2.2.2.2.2.2.1 (hts (.initialized RX0) (by decide +kernel)) (by decide +kernel) ⟨Nat.le_of_ble_eq_true rfl, Nat.le_of_ble_eq_true rfl⟩, hts (.instanceMethod yX0_edgeMeets) (by decide +kernel), hts (.selects RX0 yX0_edgeMeets yX0_edgeMeets) (by decide +kernel)⟩ (rd_preV (ci := 0) (q0 := 0) (hP.sub [1, 2, 3] rfl) hK rfl rfl) rfl rfl hl.1 rfl (lv_room (Nat.le_of_ble_eq_true rfl)) dX1_markTurns_42 ⟨Nat.zero_le _, Nat.zero_le _⟩) ?_
        refine lv_if_eq (tgt := 86) hx hb dX1_markTurns_45 (by decide) (fun c45 => ?_) (fun c45 => ?_)
        · skip
          refine lv_iinc (v := (nI (k + 1))) (lv' := [(2, .int (nI (k + 1))), (0, .ref p0), (1, .int y)]) hx hb dX1_markTurns_86 hl (k := 2) rfl (nI_1 _) (by decide) rfl (fun ls hl => ?_)
          refine lv_goto (tgt := 25) hx hb dX1_markTurns_89 (by decide) ?_
          exact ih (k + 1) (by omega) (by omega) f (by rw [tu_f (bI_eq0.mp c45)]; exact hf) H locs hP hD hS ls (lv_sub hl [1, 2, 0] rfl)
        · skip
          refine lv_aload_n hx hb dX1_markTurns_48 rfl (lv_at hl 0 rfl) ?_
          refine va_get (D := D) (ci := 1) (v := .ref r0) (C := RX1) (T := TX1) (N := 8) hx hb hts nX1_markTurns_X1 hown hK.1 hP 0 rfl rfl 5 (by decide) (hts (.fieldLink RX1 36 "PolygonFrame" "polygon" "LPolygonFrame$Ring;") (by decide +kernel)) (fun _ h9 => h9) rfl dX1_markTurns_49 ?_
          refine lv_iload_n hx hb dX1_markTurns_52 rfl (lv_at hl 2 rfl) ?_
          refine lv_iload_n hx hb dX1_markTurns_53 rfl (lv_at hl 1 rfl) ?_
          refine rd_i (va_runVN (C := RX0) (As := [.int (nI k), .int y]) ⟨hx, hb, hml, hown, hts⟩ (kX0_crossingUpwards l D cI cZ r0 ax ay n cap k xs ys y hk2 hn hc (em_ne (bI_ne c45))) ⟨va_cnB 2 hts gX1_markTurns_X0_crossingUpwards_n89 rfl rfl rfl hK.2.2.2.2.2.2.2.2.1 (hts (.initialized RX0) (by decide +kernel)) (by decide +kernel) ⟨Nat.le_of_ble_eq_true rfl, Nat.le_of_ble_eq_true rfl⟩, hts (.instanceMethod yX0_crossingUpwards) (by decide +kernel), hts (.selects RX0 yX0_crossingUpwards yX0_crossingUpwards) (by decide +kernel)⟩ (rd_preV (ci := 0) (q0 := 0) (hP.sub [1, 2, 3] rfl) hK rfl rfl) rfl rfl hl.1 rfl (lv_room (Nat.le_of_ble_eq_true rfl)) dX1_markTurns_54 ⟨Nat.zero_le _, Nat.zero_le _⟩) ?_
          refine lv_iconst (v := 0) hx hb dX1_markTurns_57 (by decide) ?_
          refine lv_aload_n hx hb dX1_markTurns_58 rfl (lv_at hl 0 rfl) ?_
          refine va_get (D := D) (ci := 1) (v := .int (nI wd)) (C := RX1) (T := TX1) (N := 8) hx hb hts nX1_markTurns_X1 hown hK.1 hP 0 rfl rfl 0 (by decide) (hts (.fieldLink RX1 13 "PolygonFrame" "width" "I") (by decide +kernel)) (fun _ h9 => h9) rfl dX1_markTurns_59 ?_
          refine rd_i (va_runS (As := [.int (cuI xs ys n k y), .int 0, .int (nI wd)]) ⟨hx, hb, hml, hown, hts⟩ (kX1_nearest l D cI cZ (cuI xs ys n k y) 0 (nI wd)) (va_cwS 3 hts gX1_markTurns_X1_nearest rfl rfl rfl (by decide +kernel) ⟨Nat.le_of_ble_eq_true rfl, Nat.le_of_ble_eq_true rfl⟩) rd_pre0 rfl rfl hl.1 rfl (lv_room (Nat.le_of_ble_eq_true rfl)) dX1_markTurns_62 ⟨Nat.zero_le _, Nat.zero_le _⟩) ?_
          obtain ⟨ecl, hcl⟩ := clN_ok hw (cuI xs ys n k y)
          refine q_eq ecl ?_
          refine lv_istore_n (lv' := [(3, .int (nI (clN wd (cuI xs ys n k y)))), (0, .ref p0), (1, .int y), (2, .int (nI k))]) hx hb dX1_markTurns_65 rfl hl (by decide) rfl (fun ls hl => ?_)
          refine lv_aload_n hx hb dX1_markTurns_66 rfl (lv_at hl 1 rfl) ?_
          refine va_get (D := D) (ci := 1) (v := .ref aT) (C := RX1) (T := TX1) (N := 8) hx hb hts nX1_markTurns_X1 hown hK.1 hP 0 rfl rfl 3 (by decide) (hts (.fieldLink RX1 24 "PolygonFrame" "turns" "[Z") (by decide +kernel)) (fun _ h9 => h9) rfl dX1_markTurns_67 ?_
          refine lv_iload_n hx hb dX1_markTurns_70 rfl (lv_at hl 0 rfl) ?_
          refine lv_aload_n hx hb dX1_markTurns_71 rfl (lv_at hl 1 rfl) ?_
          refine va_get (D := D) (ci := 1) (v := .ref aT) (C := RX1) (T := TX1) (N := 8) hx hb hts nX1_markTurns_X1 hown hK.1 hP 0 rfl rfl 3 (by decide) (hts (.fieldLink RX1 24 "PolygonFrame" "turns" "[Z") (by decide +kernel)) (fun _ h9 => h9) rfl dX1_markTurns_72 ?_
          refine lv_iload_n hx hb dX1_markTurns_75 rfl (lv_at hl 0 rfl) ?_
          refine q_zald (k := (clN wd (cuI xs ys n k y))) hx hb hK.1 hP 4 1 rfl rfl (by omega) (by omega) dX1_markTurns_76 ?_
          refine lv_if_ne (tgt := 84) hx hb dX1_markTurns_77 (by decide) (fun c77 => ?_) (fun c77 => ?_)
          · skip
            refine lv_iconst (v := 0) hx hb dX1_markTurns_84 (by decide) ?_
            refine q_zast (k := (clN wd (cuI xs ys n k y))) hx hb hK.1 hP hD hS 4 1 rfl rfl rfl (by omega) (by omega) dX1_markTurns_85 (fun H locs hP hD hS => ?_)
            have hP : va_P D vwCl [(p0, .inr (1, [.int (nI wd), .int (nI hg), .ref aC, .ref aT, .ref aS, .ref r0, .ref rO, .ref rE])), (r0, .inr (0, [.ref ax, .ref ay, .int (nI n)])), (ax, .inl (cI, cap, .inl xs)), (ay, .inl (cI, cap, .inl ys)), (aT, .inl (cZ, (wd + 1), .inl (upd f (clN wd (cuI xs ys n k y)) 0)))] H := hP
            have hD : va_D A [(p0, .inr (1, [.int (nI wd), .int (nI hg), .ref aC, .ref aT, .ref aS, .ref r0, .ref rO, .ref rE])), (r0, .inr (0, [.ref ax, .ref ay, .int (nI n)])), (ax, .inl (cI, cap, .inl xs)), (ay, .inl (cI, cap, .inl ys)), (aT, .inl (cZ, (wd + 1), .inl (upd f (clN wd (cuI xs ys n k y)) 0)))] := hD
            refine lv_iinc (v := (nI (k + 1))) (lv' := [(2, .int (nI (k + 1))), (3, .int (nI (clN wd (cuI xs ys n k y)))), (0, .ref p0), (1, .int y)]) hx hb dX1_markTurns_86 hl (k := 3) rfl (nI_1 _) (by decide) rfl (fun ls hl => ?_)
            refine lv_goto (tgt := 25) hx hb dX1_markTurns_89 (by decide) ?_
            exact ih (k + 1) (by omega) (by omega) _ (tu_upd (bI_ne c45) hf (by rw [bI_ne (b := tuB xs ys n wd y k (clN wd (cuI xs ys n k y))) (by rw [← hf _ hcl]; exact c77)]; rfl)) H locs hP hD hS ls (lv_sub hl [2, 3, 0] rfl)
          · skip
            refine lv_iconst (v := 1) hx hb dX1_markTurns_80 (by decide) ?_
            refine lv_goto (tgt := 85) hx hb dX1_markTurns_81 (by decide) ?_
            refine q_zast (k := (clN wd (cuI xs ys n k y))) hx hb hK.1 hP hD hS 4 1 rfl rfl rfl (by omega) (by omega) dX1_markTurns_85 (fun H locs hP hD hS => ?_)
            have hP : va_P D vwCl [(p0, .inr (1, [.int (nI wd), .int (nI hg), .ref aC, .ref aT, .ref aS, .ref r0, .ref rO, .ref rE])), (r0, .inr (0, [.ref ax, .ref ay, .int (nI n)])), (ax, .inl (cI, cap, .inl xs)), (ay, .inl (cI, cap, .inl ys)), (aT, .inl (cZ, (wd + 1), .inl (upd f (clN wd (cuI xs ys n k y)) 1)))] H := hP
            have hD : va_D A [(p0, .inr (1, [.int (nI wd), .int (nI hg), .ref aC, .ref aT, .ref aS, .ref r0, .ref rO, .ref rE])), (r0, .inr (0, [.ref ax, .ref ay, .int (nI n)])), (ax, .inl (cI, cap, .inl xs)), (ay, .inl (cI, cap, .inl ys)), (aT, .inl (cZ, (wd + 1), .inl (upd f (clN wd (cuI xs ys n k y)) 1)))] := hD
            refine lv_iinc (v := (nI (k + 1))) (lv' := [(2, .int (nI (k + 1))), (3, .int (nI (clN wd (cuI xs ys n k y)))), (0, .ref p0), (1, .int y)]) hx hb dX1_markTurns_86 hl (k := 3) rfl (nI_1 _) (by decide) rfl (fun ls hl => ?_)
            refine lv_goto (tgt := 25) hx hb dX1_markTurns_89 (by decide) ?_
            exact ih (k + 1) (by omega) (by omega) _ (tu_upd (bI_ne c45) hf (by rw [(bI_eq0 (b := tuB xs ys n wd y k (clN wd (cuI xs ys n k y)))).mp (by rw [← hf _ hcl]; exact c77)]; rfl)) H locs hP hD hS ls (lv_sub hl [2, 3, 0] rfl)
  have L1 : ∀ (j k : Nat), k ≤ wd + 1 → wd + 1 < k + j → ∀ (H : Heap) (locs : List Loc), va_P D vwCl [(p0, .inr (1, [.int (nI wd), .int (nI hg), .ref aC, .ref aT, .ref aS, .ref r0, .ref rO, .ref rE])), (r0, .inr (0, [.ref ax, .ref ay, .int (nI n)])), (ax, .inl (cI, cap, .inl xs)), (ay, .inl (cI, cap, .inl ys)), (aT, .inl (cZ, (wd + 1), .inl (flN tn 0 k)))] H → va_D A [(p0, .inr (1, [.int (nI wd), .int (nI hg), .ref aC, .ref aT, .ref aS, .ref r0, .ref rO, .ref rE])), (r0, .inr (0, [.ref ax, .ref ay, .int (nI n)])), (ax, .inl (cI, cap, .inl xs)), (ay, .inl (cI, cap, .inl ys)), (aT, .inl (cZ, (wd + 1), .inl (flN tn 0 k)))] → va_S A s.heap H locs → ∀ ls : Array Slot, lv_has ls 4 [(0, .ref p0), (1, .int y), (2, .int (nI k))] → W p l e ({ frames := 2, cells := 0, slots := 0, locals := 80 } : Room) s m #[.ref p0, .int y] below meth c H locs 0 0 (MQ below (va_Qv (S := Nat → Int32) (fun u => ∀ i, i ≤ wd → u i = bI (tuB xs ys n wd y n i)) (wrB D [(p0, .inr (1, [.int (nI wd), .int (nI hg), .ref aC, .ref aT, .ref aS, .ref r0, .ref rO, .ref rE])), (r0, .inr (0, [.ref ax, .ref ay, .int (nI n)])), (ax, .inl (cI, cap, .inl xs)), (ay, .inl (cI, cap, .inl ys)), (aT, .inl (cZ, (wd + 1), .inl tn))] s.heap.size (fun u => [(p0, .inr (1, [.int (nI wd), .int (nI hg), .ref aC, .ref aT, .ref aS, .ref r0, .ref rO, .ref rE])), (r0, .inr (0, [.ref ax, .ref ay, .int (nI n)])), (ax, .inl (cI, cap, .inl xs)), (ay, .inl (cI, cap, .inl ys)), (aT, .inl (cZ, (wd + 1), .inl u))])) A) #[.ref p0, .int y] s 0 0 A) (F0 m 2 ls []) := by
    intro j
    induction j with
    | zero => intro k h1 h2; omega
    | succ j ih =>
      intro k hk hkj H locs hP hD hS ls hl
      refine lv_iload_n hx hb dX1_markTurns_2 rfl (lv_at hl 2 rfl) ?_
      refine lv_aload_n hx hb dX1_markTurns_3 rfl (lv_at hl 0 rfl) ?_
      refine va_get (D := D) (ci := 1) (v := .int (nI wd)) (C := RX1) (T := TX1) (N := 8) hx hb hts nX1_markTurns_X1 hown hK.1 hP 0 rfl rfl 0 (by decide) (hts (.fieldLink RX1 13 "PolygonFrame" "width" "I") (by decide +kernel)) (fun _ h9 => h9) rfl dX1_markTurns_4 ?_
      refine lv_icmp_gt (tgt := 23) hx hb dX1_markTurns_7 (by decide) (fun c7 => ?_) (fun c7 => ?_)
      · skip
        refine lv_iconst (v := 0) hx hb dX1_markTurns_23 (by decide) ?_
        refine lv_istore_n (lv' := [(2, .int 0), (0, .ref p0), (1, .int y)]) hx hb dX1_markTurns_24 rfl hl (by decide) rfl (fun ls hl => ?_)
        have hkn : wd < k := (nI_ltI (by omega) (by omega)).mp c7
        exact L2 (n + 1) 0 (Nat.zero_le _) (by omega) _ (fun i hi => by unfold flN; rw [if_pos (by omega)]; rfl) H locs hP hD hS ls (lv_sub hl [1, 2, 0] rfl)
      · skip
        have hk2 : k < wd + 1 := Nat.lt_succ_of_le (Nat.le_of_not_lt (fun h => c7 (nI_lt h (by omega))))
        refine lv_aload_n hx hb dX1_markTurns_10 rfl (lv_at hl 0 rfl) ?_
        refine va_get (D := D) (ci := 1) (v := .ref aT) (C := RX1) (T := TX1) (N := 8) hx hb hts nX1_markTurns_X1 hown hK.1 hP 0 rfl rfl 3 (by decide) (hts (.fieldLink RX1 24 "PolygonFrame" "turns" "[Z") (by decide +kernel)) (fun _ h9 => h9) rfl dX1_markTurns_11 ?_
        refine lv_iload_n hx hb dX1_markTurns_14 rfl (lv_at hl 2 rfl) ?_
        refine lv_iconst (v := 0) hx hb dX1_markTurns_15 (by decide) ?_
        refine q_zast (k := k) hx hb hK.1 hP hD hS 4 1 rfl rfl rfl (by omega) (by omega) dX1_markTurns_16 (fun H locs hP hD hS => ?_)
        have hP : va_P D vwCl [(p0, .inr (1, [.int (nI wd), .int (nI hg), .ref aC, .ref aT, .ref aS, .ref r0, .ref rO, .ref rE])), (r0, .inr (0, [.ref ax, .ref ay, .int (nI n)])), (ax, .inl (cI, cap, .inl xs)), (ay, .inl (cI, cap, .inl ys)), (aT, .inl (cZ, (wd + 1), .inl (upd (flN tn 0 k) k 0)))] H := hP
        have hD : va_D A [(p0, .inr (1, [.int (nI wd), .int (nI hg), .ref aC, .ref aT, .ref aS, .ref r0, .ref rO, .ref rE])), (r0, .inr (0, [.ref ax, .ref ay, .int (nI n)])), (ax, .inl (cI, cap, .inl xs)), (ay, .inl (cI, cap, .inl ys)), (aT, .inl (cZ, (wd + 1), .inl (upd (flN tn 0 k) k 0)))] := hD
        refine lv_iinc (v := (nI (k + 1))) (lv' := [(2, .int (nI (k + 1))), (0, .ref p0), (1, .int y)]) hx hb dX1_markTurns_17 hl (k := 2) rfl (nI_1 _) (by decide) rfl (fun ls hl => ?_)
        refine lv_goto (tgt := 2) hx hb dX1_markTurns_20 (by decide) ?_
        rw [flN_s] at hP hD
        exact ih (k + 1) (by omega) (by omega) H locs hP hD hS ls (lv_sub hl [1, 2, 0] rfl)
  refine lv_iconst (v := 0) hx hb dX1_markTurns_0 (by decide) ?_
  refine lv_istore_n (lv' := [(2, .int 0), (0, .ref p0), (1, .int y)]) hx hb dX1_markTurns_1 rfl hl (by decide) rfl (fun ls hl => ?_)
  exact L1 (wd + 2) 0 (Nat.zero_le _) (by omega) s.heap [] hP hD hS ls (lv_sub hl [1, 2, 0] rfl)
theorem nX1_fillLine_X1 : ∀ w ∈ wsX10, w ∈ wsX1_fillLine := fun w h => List.mem_cons_of_mem _ (List.mem_append_right _ h)
set_option maxHeartbeats 4000000 in
set_option maxRecDepth 100000 in
theorem kX1_fillLine (l : Launch) (D : va_G) (cI cZ : ClassId) (sz : Nat) (p0 aC aT aS rP rO rE wd hg : Nat) (f col : Nat → Int32) (T : Nat → Bool) (j0 : Nat) (v : Int32) (hf : ∀ i, i ≤ wd → f i = bI (T i)) (hj : j0 < hg) (hw : wd ≤ 24) (hh : hg ≤ 24) : Met l yX1_fillLine wsX1_fillLine ({ frames := 0, cells := 0, slots := 0, locals := 0 }) (va_Pc [.ref p0, .int (nI j0), .int v] (wrP D cI cZ sz [(p0, .inr (1, [.int (nI wd), .int (nI hg), .ref aC, .ref aT, .ref aS, .ref rP, .ref rO, .ref rE])), (aT, .inl (cZ, (wd + 1), .inl f)), (aC, .inl (cI, (wd * hg), .inl col))])) (va_Qi (S := Nat → Int32) (fun r u => r = nI (cnB (fun x => sfD T wd (wd - x)) wd) ∧ ∀ x y, x < wd → y < hg → u (y * wd + x) = if y = j0 ∧ sfD T wd (wd - x) = true then v else col (y * wd + x)) (wrB D [(p0, .inr (1, [.int (nI wd), .int (nI hg), .ref aC, .ref aT, .ref aS, .ref rP, .ref rO, .ref rE])), (aT, .inl (cZ, (wd + 1), .inl f)), (aC, .inl (cI, (wd * hg), .inl col))] sz (fun u => [(p0, .inr (1, [.int (nI wd), .int (nI hg), .ref aC, .ref aT, .ref aS, .ref rP, .ref rO, .ref rE])), (aT, .inl (cZ, (wd + 1), .inl f)), (aC, .inl (cI, (wd * hg), .inl u))])) (va_A [(p0, .inr (1, [.int (nI wd), .int (nI hg), .ref aC, .ref aT, .ref aS, .ref rP, .ref rO, .ref rE])), (aT, .inl (cZ, (wd + 1), .inl f)), (aC, .inl (cI, (wd * hg), .inl col))] sz)) 0 0 (va_A [(p0, .inr (1, [.int (nI wd), .int (nI hg), .ref aC, .ref aT, .ref aS, .ref rP, .ref rO, .ref rE])), (aT, .inl (cZ, (wd + 1), .inl f)), (aC, .inl (cI, (wd * hg), .inl col))] sz) := by
  refine Met.ofW (cc := cX1_fillLine) (maxL := 6) (ret := (some .int)) (by decide) rfl ?_
  intro p e s m args below meth c s₁ B hml hv
  obtain ⟨rfl, hsz, hP, hK, hD0⟩ := hv
  have hx := B.exec
  have hb := B.bytes
  have hr := B.returns
  have hts := atoms_spec (ws := wsX1_fillLine) B.pre
  have hown : s.vm.findClass RX1 = some m.cls := findClass_of_methodNamed B.named
  have hlocks := B.notSynchronized
  subst hsz
  have hD := hD0.self (sz := s.heap.size)
  generalize hAe : va_A [(p0, .inr (1, [.int (nI wd), .int (nI hg), .ref aC, .ref aT, .ref aS, .ref rP, .ref rO, .ref rE])), (aT, .inl (cZ, (wd + 1), .inl f)), (aC, .inl (cI, (wd * hg), .inl col))] s.heap.size = A at hD ⊢
  have hA : ∀ q : Nat, s.heap.size ≤ q → A q := fun q h => by rw [← hAe]; exact Or.inr h
  have hS : va_S A s.heap s.heap [] := va_S.rf
  have hP : va_P D vwCl [(p0, .inr (1, [.int (nI wd), .int (nI hg), .ref aC, .ref aT, .ref aS, .ref rP, .ref rO, .ref rE])), (aT, .inl (cZ, (wd + 1), .inl f)), (aC, .inl (cI, (wd * hg), .inl col))] s.heap := hP
  have hl := lv_entry ([.ref p0, .int (nI j0), .int v]) (n := 6) (Nat.le_of_ble_eq_true rfl)
  rw [lg_entry_eq]
  generalize (lg_sl ([.ref p0, .int (nI j0), .int v]) ++ List.replicate (6 - (lg_sl ([.ref p0, .int (nI j0), .int v])).length) Slot.unset).toArray = ls at hl ⊢
  have hl : lv_has ls 6 [(0, .ref p0), (1, .int (nI j0)), (2, .int v)] := hl
  have LOOP : ∀ (k : Nat), k ≤ wd → ∀ b5 : Int32, b5 = nI k - 1 → ∀ cl : Nat → Int32, (∀ x y, x < wd → y < hg → cl (y * wd + x) = if y = j0 ∧ k ≤ x ∧ (fun x => sfD T wd (wd - x)) x = true then v else col (y * wd + x)) → ∀ (H : Heap) (locs : List Loc), va_P D vwCl [(p0, .inr (1, [.int (nI wd), .int (nI hg), .ref aC, .ref aT, .ref aS, .ref rP, .ref rO, .ref rE])), (aT, .inl (cZ, (wd + 1), .inl f)), (aC, .inl (cI, (wd * hg), .inl cl))] H → va_D A [(p0, .inr (1, [.int (nI wd), .int (nI hg), .ref aC, .ref aT, .ref aS, .ref rP, .ref rO, .ref rE])), (aT, .inl (cZ, (wd + 1), .inl f)), (aC, .inl (cI, (wd * hg), .inl cl))] → va_S A s.heap H locs → ∀ ls : Array Slot, lv_has ls 6 [(0, .ref p0), (1, .int (nI j0)), (2, .int v), (3, .int (nI (cnB (fun x => sfD T wd (wd - x)) wd - cnB (fun x => sfD T wd (wd - x)) k))), (4, .int (bI (sfD T wd (wd - k)))), (5, .int b5)] → W p l e ({ frames := 0, cells := 0, slots := 0, locals := 0 } : Room) s m #[.ref p0, .int (nI j0), .int v] below meth c H locs 0 0 (MQ below (va_Qi (S := Nat → Int32) (fun r u => r = nI (cnB (fun x => sfD T wd (wd - x)) wd) ∧ ∀ x y, x < wd → y < hg → u (y * wd + x) = if y = j0 ∧ sfD T wd (wd - x) = true then v else col (y * wd + x)) (wrB D [(p0, .inr (1, [.int (nI wd), .int (nI hg), .ref aC, .ref aT, .ref aS, .ref rP, .ref rO, .ref rE])), (aT, .inl (cZ, (wd + 1), .inl f)), (aC, .inl (cI, (wd * hg), .inl col))] s.heap.size (fun u => [(p0, .inr (1, [.int (nI wd), .int (nI hg), .ref aC, .ref aT, .ref aS, .ref rP, .ref rO, .ref rE])), (aT, .inl (cZ, (wd + 1), .inl f)), (aC, .inl (cI, (wd * hg), .inl u))])) A) #[.ref p0, .int (nI j0), .int v] s 0 0 A) (F0 m 13 ls []) := by
    intro k
    induction k with
    | zero =>
      intro hk b5 hb5 cl hcl H locs hP hD hS ls hl
      refine lv_iload hx hb dX1_fillLine_13 (lv_at hl 5 rfl) ?_
      refine lv_if_lt (tgt := 68) hx hb dX1_fillLine_15 (by decide) (fun c15 => ?_) (fun c15 => absurd (by rw [hb5]; decide) c15)
      refine lv_iload_n hx hb dX1_fillLine_68 rfl (lv_at hl 3 rfl) ?_
      exact W.iret (v := (nI (cnB (fun x => sfD T wd (wd - x)) wd - cnB (fun x => sfD T wd (wd - x)) 0))) hx hb hr (fun t ht hW => ⟨⟨(nI (cnB (fun x => sfD T wd (wd - x)) wd - cnB (fun x => sfD T wd (wd - x)) 0)), cl, rfl, ⟨rfl, fun x y hx hy => by rw [hcl x y hx hy]; simp⟩, by rw [ht]; exact hP, by rw [hAe]; exact hD⟩, hS.F ht⟩) hS.2.2 dX1_fillLine_69
    | succ k ih =>
      intro hk b5 hb5 cl hcl H locs hP hD hS ls hl
      have e5 : b5 = nI k := by rw [hb5]; exact nI_pred k
      subst e5
      have hij := at_lt (w := wd) (h := hg) (i := k) (j := j0) (by omega) hj
      have hwh : wd * hg ≤ 24 * 24 := Nat.mul_le_mul hw hh
      refine lv_iload hx hb dX1_fillLine_13 (lv_at hl 5 rfl) ?_
      refine lv_if_lt (tgt := 68) hx hb dX1_fillLine_15 (by decide) (fun c15 => absurd c15 (nI_pos (by omega))) (fun c15 => ?_)
      refine lv_iload hx hb dX1_fillLine_18 (lv_at hl 4 rfl) ?_
      refine lv_aload_n hx hb dX1_fillLine_20 rfl (lv_at hl 0 rfl) ?_
      refine va_get (D := D) (ci := 1) (v := .ref aT) (C := RX1) (T := TX1) (N := 8) hx hb hts nX1_fillLine_X1 hown hK.1 hP 0 rfl rfl 3 (by decide) (hts (.fieldLink RX1 24 "PolygonFrame" "turns" "[Z") (by decide +kernel)) (fun _ h9 => h9) rfl dX1_fillLine_21 ?_
      refine lv_iload hx hb dX1_fillLine_24 (lv_at hl 5 rfl) ?_
      refine lv_iconst (v := 1) hx hb dX1_fillLine_26 (by decide) ?_
      refine lv_iadd hx hb dX1_fillLine_27 ?_
      refine q_eq (nI_1 _) ?_
      refine q_zald (k := (k + 1)) hx hb hK.1 hP 1 1 rfl rfl (by omega) (by omega) dX1_fillLine_28 ?_
      refine q_eq (hf (k + 1) (by omega)) ?_
      refine lv_icmp_eq (tgt := 36) hx hb dX1_fillLine_29 (by decide) (fun c29 => ?_) (fun c29 => ?_)
      · skip
        refine lv_iconst (v := 0) hx hb dX1_fillLine_36 (by decide) ?_
        refine q_eq (show (0 : Int32) = bI (sfD T wd (wd - k)) from by rw [sf_s (by omega), bI_eq.mp c29]; cases T (k + 1) <;> rfl) ?_
        refine lv_istore (lv' := [(4, .int (bI (sfD T wd (wd - k)))), (0, .ref p0), (1, .int (nI j0)), (2, .int v), (3, .int (nI (cnB (fun x => sfD T wd (wd - x)) wd - cnB (fun x => sfD T wd (wd - x)) (k + 1)))), (5, .int (nI k))]) hx hb dX1_fillLine_37 hl (by decide) rfl (fun ls hl => ?_)
        refine lv_iload hx hb dX1_fillLine_39 (lv_at hl 0 rfl) ?_
        refine lv_if_eq (tgt := 62) hx hb dX1_fillLine_41 (by decide) (fun c41 => ?_) (fun c41 => ?_)
        · skip
          refine lv_iinc (v := ((nI k) + (-1))) (lv' := [(5, .int ((nI k) + (-1))), (4, .int (bI (sfD T wd (wd - k)))), (0, .ref p0), (1, .int (nI j0)), (2, .int v), (3, .int (nI (cnB (fun x => sfD T wd (wd - x)) wd - cnB (fun x => sfD T wd (wd - x)) (k + 1))))]) hx hb dX1_fillLine_62 hl (k := 5) rfl (rfl) (by decide) rfl (fun ls hl => ?_)
          refine lv_goto (tgt := 13) hx hb dX1_fillLine_65 (by decide) ?_
          have hR : (fun x => sfD T wd (wd - x)) k = false := bI_eq0.mp c41
          have ec : cnB (fun x => sfD T wd (wd - x)) wd - cnB (fun x => sfD T wd (wd - x)) (k + 1) = cnB (fun x => sfD T wd (wd - x)) wd - cnB (fun x => sfD T wd (wd - x)) k := by rw [cn_f (f := (fun x => sfD T wd (wd - x))) (k := k) hR]
          exact ih (by omega) ((nI k) + (-1)) (by rw [Int32.sub_eq_add_neg]) cl (px_skip (R := (fun x => sfD T wd (wd - x))) hR hcl) H locs hP hD hS ls (by rw [← ec]; exact lv_sub hl [2, 3, 4, 5, 1, 0] rfl)
        · skip
          refine lv_aload_n hx hb dX1_fillLine_44 rfl (lv_at hl 1 rfl) ?_
          refine va_get (D := D) (ci := 1) (v := .ref aC) (C := RX1) (T := TX1) (N := 8) hx hb hts nX1_fillLine_X1 hown hK.1 hP 0 rfl rfl 2 (by decide) (hts (.fieldLink RX1 20 "PolygonFrame" "colours" "[I") (by decide +kernel)) (fun _ h9 => h9) rfl dX1_fillLine_45 ?_
          refine lv_iload_n hx hb dX1_fillLine_48 rfl (lv_at hl 2 rfl) ?_
          refine lv_aload_n hx hb dX1_fillLine_49 rfl (lv_at hl 1 rfl) ?_
          refine va_get (D := D) (ci := 1) (v := .int (nI wd)) (C := RX1) (T := TX1) (N := 8) hx hb hts nX1_fillLine_X1 hown hK.1 hP 0 rfl rfl 0 (by decide) (hts (.fieldLink RX1 13 "PolygonFrame" "width" "I") (by decide +kernel)) (fun _ h9 => h9) rfl dX1_fillLine_50 ?_
          refine lv_imul hx hb dX1_fillLine_53 ?_
          refine lv_iload hx hb dX1_fillLine_54 (lv_at hl 5 rfl) ?_
          refine lv_iadd hx hb dX1_fillLine_56 ?_
          refine q_eq (show nI j0 * nI wd + nI k = nI (j0 * wd + k) by rw [pk_mul, nI_add]) ?_
          refine lv_iload_n hx hb dX1_fillLine_57 rfl (lv_at hl 3 rfl) ?_
          refine q_iast (k := (j0 * wd + k)) hx hb hK.1 hP hD hS 2 0 rfl rfl (by omega) (by omega) dX1_fillLine_58 (fun H locs hP hD hS => ?_)
          have hP : va_P D vwCl [(p0, .inr (1, [.int (nI wd), .int (nI hg), .ref aC, .ref aT, .ref aS, .ref rP, .ref rO, .ref rE])), (aT, .inl (cZ, (wd + 1), .inl f)), (aC, .inl (cI, (wd * hg), .inl (upd cl (j0 * wd + k) v)))] H := hP
          have hD : va_D A [(p0, .inr (1, [.int (nI wd), .int (nI hg), .ref aC, .ref aT, .ref aS, .ref rP, .ref rO, .ref rE])), (aT, .inl (cZ, (wd + 1), .inl f)), (aC, .inl (cI, (wd * hg), .inl (upd cl (j0 * wd + k) v)))] := hD
          refine lv_iinc (v := (nI ((cnB (fun x => sfD T wd (wd - x)) wd - cnB (fun x => sfD T wd (wd - x)) (k + 1)) + 1))) (lv' := [(3, .int (nI ((cnB (fun x => sfD T wd (wd - x)) wd - cnB (fun x => sfD T wd (wd - x)) (k + 1)) + 1))), (4, .int (bI (sfD T wd (wd - k)))), (0, .ref p0), (1, .int (nI j0)), (2, .int v), (5, .int (nI k))]) hx hb dX1_fillLine_59 hl (k := 4) rfl (nI_1 _) (by decide) rfl (fun ls hl => ?_)
          refine lv_iinc (v := ((nI k) + (-1))) (lv' := [(5, .int ((nI k) + (-1))), (3, .int (nI ((cnB (fun x => sfD T wd (wd - x)) wd - cnB (fun x => sfD T wd (wd - x)) (k + 1)) + 1))), (4, .int (bI (sfD T wd (wd - k)))), (0, .ref p0), (1, .int (nI j0)), (2, .int v)]) hx hb dX1_fillLine_62 hl (k := 5) rfl (rfl) (by decide) rfl (fun ls hl => ?_)
          refine lv_goto (tgt := 13) hx hb dX1_fillLine_65 (by decide) ?_
          have hR : (fun x => sfD T wd (wd - x)) k = true := bI_ne c41
          have hm := cn_mono (f := (fun x => sfD T wd (wd - x))) (k := k + 1) (m := wd) (by omega)
          have ec : cnB (fun x => sfD T wd (wd - x)) wd - cnB (fun x => sfD T wd (wd - x)) (k + 1) + 1 = cnB (fun x => sfD T wd (wd - x)) wd - cnB (fun x => sfD T wd (wd - x)) k := by rw [cn_t (f := (fun x => sfD T wd (wd - x))) (k := k) hR] at hm ⊢; omega
          exact ih (by omega) ((nI k) + (-1)) (by rw [Int32.sub_eq_add_neg]) _ (px_set (R := (fun x => sfD T wd (wd - x))) (by omega) hR hcl) H locs hP hD hS ls (by rw [← ec]; exact lv_sub hl [3, 4, 5, 1, 2, 0] rfl)
      · skip
        refine lv_iconst (v := 1) hx hb dX1_fillLine_32 (by decide) ?_
        refine lv_goto (tgt := 37) hx hb dX1_fillLine_33 (by decide) ?_
        refine q_eq (show (1 : Int32) = bI (sfD T wd (wd - k)) from by rw [sf_s (by omega)]; have h := fun q => c29 (bI_eq.mpr q); revert h; cases T (k + 1) <;> cases sfD T wd (wd - (k + 1)) <;> intro h <;> first | rfl | exact absurd rfl h) ?_
        refine lv_istore (lv' := [(4, .int (bI (sfD T wd (wd - k)))), (0, .ref p0), (1, .int (nI j0)), (2, .int v), (3, .int (nI (cnB (fun x => sfD T wd (wd - x)) wd - cnB (fun x => sfD T wd (wd - x)) (k + 1)))), (5, .int (nI k))]) hx hb dX1_fillLine_37 hl (by decide) rfl (fun ls hl => ?_)
        refine lv_iload hx hb dX1_fillLine_39 (lv_at hl 0 rfl) ?_
        refine lv_if_eq (tgt := 62) hx hb dX1_fillLine_41 (by decide) (fun c41 => ?_) (fun c41 => ?_)
        · skip
          refine lv_iinc (v := ((nI k) + (-1))) (lv' := [(5, .int ((nI k) + (-1))), (4, .int (bI (sfD T wd (wd - k)))), (0, .ref p0), (1, .int (nI j0)), (2, .int v), (3, .int (nI (cnB (fun x => sfD T wd (wd - x)) wd - cnB (fun x => sfD T wd (wd - x)) (k + 1))))]) hx hb dX1_fillLine_62 hl (k := 5) rfl (rfl) (by decide) rfl (fun ls hl => ?_)
          refine lv_goto (tgt := 13) hx hb dX1_fillLine_65 (by decide) ?_
          have hR : (fun x => sfD T wd (wd - x)) k = false := bI_eq0.mp c41
          have ec : cnB (fun x => sfD T wd (wd - x)) wd - cnB (fun x => sfD T wd (wd - x)) (k + 1) = cnB (fun x => sfD T wd (wd - x)) wd - cnB (fun x => sfD T wd (wd - x)) k := by rw [cn_f (f := (fun x => sfD T wd (wd - x))) (k := k) hR]
          exact ih (by omega) ((nI k) + (-1)) (by rw [Int32.sub_eq_add_neg]) cl (px_skip (R := (fun x => sfD T wd (wd - x))) hR hcl) H locs hP hD hS ls (by rw [← ec]; exact lv_sub hl [2, 3, 4, 5, 1, 0] rfl)
        · skip
          refine lv_aload_n hx hb dX1_fillLine_44 rfl (lv_at hl 1 rfl) ?_
          refine va_get (D := D) (ci := 1) (v := .ref aC) (C := RX1) (T := TX1) (N := 8) hx hb hts nX1_fillLine_X1 hown hK.1 hP 0 rfl rfl 2 (by decide) (hts (.fieldLink RX1 20 "PolygonFrame" "colours" "[I") (by decide +kernel)) (fun _ h9 => h9) rfl dX1_fillLine_45 ?_
          refine lv_iload_n hx hb dX1_fillLine_48 rfl (lv_at hl 2 rfl) ?_
          refine lv_aload_n hx hb dX1_fillLine_49 rfl (lv_at hl 1 rfl) ?_
          refine va_get (D := D) (ci := 1) (v := .int (nI wd)) (C := RX1) (T := TX1) (N := 8) hx hb hts nX1_fillLine_X1 hown hK.1 hP 0 rfl rfl 0 (by decide) (hts (.fieldLink RX1 13 "PolygonFrame" "width" "I") (by decide +kernel)) (fun _ h9 => h9) rfl dX1_fillLine_50 ?_
          refine lv_imul hx hb dX1_fillLine_53 ?_
          refine lv_iload hx hb dX1_fillLine_54 (lv_at hl 5 rfl) ?_
          refine lv_iadd hx hb dX1_fillLine_56 ?_
          refine q_eq (show nI j0 * nI wd + nI k = nI (j0 * wd + k) by rw [pk_mul, nI_add]) ?_
          refine lv_iload_n hx hb dX1_fillLine_57 rfl (lv_at hl 3 rfl) ?_
          refine q_iast (k := (j0 * wd + k)) hx hb hK.1 hP hD hS 2 0 rfl rfl (by omega) (by omega) dX1_fillLine_58 (fun H locs hP hD hS => ?_)
          have hP : va_P D vwCl [(p0, .inr (1, [.int (nI wd), .int (nI hg), .ref aC, .ref aT, .ref aS, .ref rP, .ref rO, .ref rE])), (aT, .inl (cZ, (wd + 1), .inl f)), (aC, .inl (cI, (wd * hg), .inl (upd cl (j0 * wd + k) v)))] H := hP
          have hD : va_D A [(p0, .inr (1, [.int (nI wd), .int (nI hg), .ref aC, .ref aT, .ref aS, .ref rP, .ref rO, .ref rE])), (aT, .inl (cZ, (wd + 1), .inl f)), (aC, .inl (cI, (wd * hg), .inl (upd cl (j0 * wd + k) v)))] := hD
          refine lv_iinc (v := (nI ((cnB (fun x => sfD T wd (wd - x)) wd - cnB (fun x => sfD T wd (wd - x)) (k + 1)) + 1))) (lv' := [(3, .int (nI ((cnB (fun x => sfD T wd (wd - x)) wd - cnB (fun x => sfD T wd (wd - x)) (k + 1)) + 1))), (4, .int (bI (sfD T wd (wd - k)))), (0, .ref p0), (1, .int (nI j0)), (2, .int v), (5, .int (nI k))]) hx hb dX1_fillLine_59 hl (k := 4) rfl (nI_1 _) (by decide) rfl (fun ls hl => ?_)
          refine lv_iinc (v := ((nI k) + (-1))) (lv' := [(5, .int ((nI k) + (-1))), (3, .int (nI ((cnB (fun x => sfD T wd (wd - x)) wd - cnB (fun x => sfD T wd (wd - x)) (k + 1)) + 1))), (4, .int (bI (sfD T wd (wd - k)))), (0, .ref p0), (1, .int (nI j0)), (2, .int v)]) hx hb dX1_fillLine_62 hl (k := 5) rfl (rfl) (by decide) rfl (fun ls hl => ?_)
          refine lv_goto (tgt := 13) hx hb dX1_fillLine_65 (by decide) ?_
          have hR : (fun x => sfD T wd (wd - x)) k = true := bI_ne c41
          have hm := cn_mono (f := (fun x => sfD T wd (wd - x))) (k := k + 1) (m := wd) (by omega)
          have ec : cnB (fun x => sfD T wd (wd - x)) wd - cnB (fun x => sfD T wd (wd - x)) (k + 1) + 1 = cnB (fun x => sfD T wd (wd - x)) wd - cnB (fun x => sfD T wd (wd - x)) k := by rw [cn_t (f := (fun x => sfD T wd (wd - x))) (k := k) hR] at hm ⊢; omega
          exact ih (by omega) ((nI k) + (-1)) (by rw [Int32.sub_eq_add_neg]) _ (px_set (R := (fun x => sfD T wd (wd - x))) (by omega) hR hcl) H locs hP hD hS ls (by rw [← ec]; exact lv_sub hl [3, 4, 5, 1, 2, 0] rfl)
  refine lv_iconst (v := 0) hx hb dX1_fillLine_0 (by decide) ?_
  refine lv_istore_n (lv' := [(3, .int 0), (0, .ref p0), (1, .int (nI j0)), (2, .int v)]) hx hb dX1_fillLine_1 rfl hl (by decide) rfl (fun ls hl => ?_)
  refine lv_iconst (v := 0) hx hb dX1_fillLine_2 (by decide) ?_
  refine lv_istore (lv' := [(4, .int 0), (3, .int 0), (0, .ref p0), (1, .int (nI j0)), (2, .int v)]) hx hb dX1_fillLine_3 hl (by decide) rfl (fun ls hl => ?_)
  refine lv_aload_n hx hb dX1_fillLine_5 rfl (lv_at hl 2 rfl) ?_
  refine va_get (D := D) (ci := 1) (v := .int (nI wd)) (C := RX1) (T := TX1) (N := 8) hx hb hts nX1_fillLine_X1 hown hK.1 hP 0 rfl rfl 0 (by decide) (hts (.fieldLink RX1 13 "PolygonFrame" "width" "I") (by decide +kernel)) (fun _ h9 => h9) rfl dX1_fillLine_6 ?_
  refine lv_iconst (v := 1) hx hb dX1_fillLine_9 (by decide) ?_
  refine lv_isub hx hb dX1_fillLine_10 ?_
  refine lv_istore (lv' := [(5, .int ((nI wd) - 1)), (4, .int 0), (3, .int 0), (0, .ref p0), (1, .int (nI j0)), (2, .int v)]) hx hb dX1_fillLine_11 hl (by decide) rfl (fun ls hl => ?_)
  exact LOOP wd (Nat.le_refl _) ((nI wd) - 1) rfl col (fun x y hx hy => by rw [if_neg (by omega)]) s.heap [] hP hD hS ls (by rw [Nat.sub_self, Nat.sub_self]; exact lv_sub hl [3, 4, 5, 2, 1, 0] rfl)
theorem nX1_fill_X1 : ∀ w ∈ wsX10, w ∈ wsX1_fill := fun w h => List.mem_cons_of_mem _ (List.mem_append_left _ (List.mem_append_right _ h))
theorem nX1_fill_X0 : ∀ w ∈ wsX00, w ∈ wsX1_fill := fun w h => List.mem_cons_of_mem _ (List.mem_append_right _ h)
set_option maxHeartbeats 4000000 in
set_option maxRecDepth 100000 in
theorem kX1_fill (l : Launch) (D : va_G) (cI cZ : ClassId) (sz : Nat) (p0 aC aT aS r0 rO rE wd hg : Nat) (ax ay n cap : Nat) (xs ys : Nat → Int32) (tn col : Nat → Int32) (v : Int32) (hn : n ≤ cap) (hc : cap ≤ 60) (hw : wd ≤ 24) (hh : hg ≤ 24) : Met l yX1_fill wsX1_fill ({ frames := 3, cells := 0, slots := 0, locals := 120 }) (va_Pc [.ref p0, .int v] (wrP D cI cZ sz [(p0, .inr (1, [.int (nI wd), .int (nI hg), .ref aC, .ref aT, .ref aS, .ref r0, .ref rO, .ref rE])), (r0, .inr (0, [.ref ax, .ref ay, .int (nI n)])), (ax, .inl (cI, cap, .inl xs)), (ay, .inl (cI, cap, .inl ys)), (aT, .inl (cZ, (wd + 1), .inl tn)), (aC, .inl (cI, (wd * hg), .inl col))])) (va_Qi (S := (Nat → Int32) × (Nat → Int32)) (fun r u => r = nI (suN (fun y => cnB (fun x => inC xs ys n x y) wd) hg) ∧ ∀ x y, x < wd → y < hg → u.2 (y * wd + x) = if inC xs ys n x y = true then v else col (y * wd + x)) (wrB D [(p0, .inr (1, [.int (nI wd), .int (nI hg), .ref aC, .ref aT, .ref aS, .ref r0, .ref rO, .ref rE])), (r0, .inr (0, [.ref ax, .ref ay, .int (nI n)])), (ax, .inl (cI, cap, .inl xs)), (ay, .inl (cI, cap, .inl ys)), (aT, .inl (cZ, (wd + 1), .inl tn)), (aC, .inl (cI, (wd * hg), .inl col))] sz (fun u => [(p0, .inr (1, [.int (nI wd), .int (nI hg), .ref aC, .ref aT, .ref aS, .ref r0, .ref rO, .ref rE])), (r0, .inr (0, [.ref ax, .ref ay, .int (nI n)])), (ax, .inl (cI, cap, .inl xs)), (ay, .inl (cI, cap, .inl ys)), (aT, .inl (cZ, (wd + 1), .inl u.1)), (aC, .inl (cI, (wd * hg), .inl u.2))])) (va_A [(p0, .inr (1, [.int (nI wd), .int (nI hg), .ref aC, .ref aT, .ref aS, .ref r0, .ref rO, .ref rE])), (r0, .inr (0, [.ref ax, .ref ay, .int (nI n)])), (ax, .inl (cI, cap, .inl xs)), (ay, .inl (cI, cap, .inl ys)), (aT, .inl (cZ, (wd + 1), .inl tn)), (aC, .inl (cI, (wd * hg), .inl col))] sz)) 0 0 (va_A [(p0, .inr (1, [.int (nI wd), .int (nI hg), .ref aC, .ref aT, .ref aS, .ref r0, .ref rO, .ref rE])), (r0, .inr (0, [.ref ax, .ref ay, .int (nI n)])), (ax, .inl (cI, cap, .inl xs)), (ay, .inl (cI, cap, .inl ys)), (aT, .inl (cZ, (wd + 1), .inl tn)), (aC, .inl (cI, (wd * hg), .inl col))] sz) := by
  refine Met.ofW (cc := cX1_fill) (maxL := 4) (ret := (some .int)) (by decide) rfl ?_
  intro p e s m args below meth c s₁ B hml hv
  obtain ⟨rfl, hsz, hP, hK, hD0⟩ := hv
  have hx := B.exec
  have hb := B.bytes
  have hr := B.returns
  have hts := atoms_spec (ws := wsX1_fill) B.pre
  have hown : s.vm.findClass RX1 = some m.cls := findClass_of_methodNamed B.named
  have hlocks := B.notSynchronized
  subst hsz
  have hD := hD0.self (sz := s.heap.size)
  generalize hAe : va_A [(p0, .inr (1, [.int (nI wd), .int (nI hg), .ref aC, .ref aT, .ref aS, .ref r0, .ref rO, .ref rE])), (r0, .inr (0, [.ref ax, .ref ay, .int (nI n)])), (ax, .inl (cI, cap, .inl xs)), (ay, .inl (cI, cap, .inl ys)), (aT, .inl (cZ, (wd + 1), .inl tn)), (aC, .inl (cI, (wd * hg), .inl col))] s.heap.size = A at hD ⊢
  have hA : ∀ q : Nat, s.heap.size ≤ q → A q := fun q h => by rw [← hAe]; exact Or.inr h
  have hS : va_S A s.heap s.heap [] := va_S.rf
  have hP : va_P D vwCl [(p0, .inr (1, [.int (nI wd), .int (nI hg), .ref aC, .ref aT, .ref aS, .ref r0, .ref rO, .ref rE])), (r0, .inr (0, [.ref ax, .ref ay, .int (nI n)])), (ax, .inl (cI, cap, .inl xs)), (ay, .inl (cI, cap, .inl ys)), (aT, .inl (cZ, (wd + 1), .inl tn)), (aC, .inl (cI, (wd * hg), .inl col))] s.heap := hP
  have hl := lv_entry ([.ref p0, .int v]) (n := 4) (Nat.le_of_ble_eq_true rfl)
  rw [lg_entry_eq]
  generalize (lg_sl ([.ref p0, .int v]) ++ List.replicate (4 - (lg_sl ([.ref p0, .int v])).length) Slot.unset).toArray = ls at hl ⊢
  have hl : lv_has ls 4 [(0, .ref p0), (1, .int v)] := hl
  have LOOP : ∀ (i j : Nat), j ≤ hg → hg < j + i → ∀ (f cl : Nat → Int32), (∀ x y, x < wd → y < hg → cl (y * wd + x) = if y < j ∧ inC xs ys n x y = true then v else col (y * wd + x)) → ∀ (H : Heap) (locs : List Loc), va_P D vwCl [(p0, .inr (1, [.int (nI wd), .int (nI hg), .ref aC, .ref aT, .ref aS, .ref r0, .ref rO, .ref rE])), (r0, .inr (0, [.ref ax, .ref ay, .int (nI n)])), (ax, .inl (cI, cap, .inl xs)), (ay, .inl (cI, cap, .inl ys)), (aT, .inl (cZ, (wd + 1), .inl f)), (aC, .inl (cI, (wd * hg), .inl cl))] H → va_D A [(p0, .inr (1, [.int (nI wd), .int (nI hg), .ref aC, .ref aT, .ref aS, .ref r0, .ref rO, .ref rE])), (r0, .inr (0, [.ref ax, .ref ay, .int (nI n)])), (ax, .inl (cI, cap, .inl xs)), (ay, .inl (cI, cap, .inl ys)), (aT, .inl (cZ, (wd + 1), .inl f)), (aC, .inl (cI, (wd * hg), .inl cl))] → va_S A s.heap H locs → ∀ ls : Array Slot, lv_has ls 4 [(0, .ref p0), (1, .int v), (2, .int (nI (suN (fun y => cnB (fun x => inC xs ys n x y) wd) j))), (3, .int (nI j))] → W p l e ({ frames := 3, cells := 0, slots := 0, locals := 120 } : Room) s m #[.ref p0, .int v] below meth c H locs 0 0 (MQ below (va_Qi (S := (Nat → Int32) × (Nat → Int32)) (fun r u => r = nI (suN (fun y => cnB (fun x => inC xs ys n x y) wd) hg) ∧ ∀ x y, x < wd → y < hg → u.2 (y * wd + x) = if inC xs ys n x y = true then v else col (y * wd + x)) (wrB D [(p0, .inr (1, [.int (nI wd), .int (nI hg), .ref aC, .ref aT, .ref aS, .ref r0, .ref rO, .ref rE])), (r0, .inr (0, [.ref ax, .ref ay, .int (nI n)])), (ax, .inl (cI, cap, .inl xs)), (ay, .inl (cI, cap, .inl ys)), (aT, .inl (cZ, (wd + 1), .inl tn)), (aC, .inl (cI, (wd * hg), .inl col))] s.heap.size (fun u => [(p0, .inr (1, [.int (nI wd), .int (nI hg), .ref aC, .ref aT, .ref aS, .ref r0, .ref rO, .ref rE])), (r0, .inr (0, [.ref ax, .ref ay, .int (nI n)])), (ax, .inl (cI, cap, .inl xs)), (ay, .inl (cI, cap, .inl ys)), (aT, .inl (cZ, (wd + 1), .inl u.1)), (aC, .inl (cI, (wd * hg), .inl u.2))])) A) #[.ref p0, .int v] s 0 0 A) (F0 m 4 ls []) := by
    intro i
    induction i with
    | zero => intro j h1 h2; omega
    | succ i ih =>
      intro j hj hji f cl hcl H locs hP hD hS ls hl
      refine lv_iload_n hx hb dX1_fill_4 rfl (lv_at hl 3 rfl) ?_
      refine lv_aload_n hx hb dX1_fill_5 rfl (lv_at hl 0 rfl) ?_
      refine va_get (D := D) (ci := 1) (v := .int (nI hg)) (C := RX1) (T := TX1) (N := 8) hx hb hts nX1_fill_X1 hown hK.1 hP 0 rfl rfl 1 (by decide) (hts (.fieldLink RX1 17 "PolygonFrame" "height" "I") (by decide +kernel)) (fun _ h9 => h9) rfl dX1_fill_6 ?_
      refine lv_icmp_ge (tgt := 32) hx hb dX1_fill_9 (by decide) (fun c9 => ?_) (fun c9 => ?_)
      · skip
        refine lv_iload_n hx hb dX1_fill_32 rfl (lv_at hl 2 rfl) ?_
        have hkn : j = hg := Nat.le_antisymm hj ((nI_leI (by omega) (by omega)).mp c9)
        exact W.iret (v := (nI (suN (fun y => cnB (fun x => inC xs ys n x y) wd) j))) hx hb hr (fun t ht hW => ⟨⟨(nI (suN (fun y => cnB (fun x => inC xs ys n x y) wd) j)), (f, cl), rfl, ⟨by rw [hkn], fun x y hx hy => by show cl (y * wd + x) = _; rw [hcl x y hx hy, hkn]; simp [hy]⟩, by rw [ht]; exact hP, by rw [hAe]; exact hD⟩, hS.F ht⟩) hS.2.2 dX1_fill_33
      · skip
        refine lv_aload_n hx hb dX1_fill_12 rfl (lv_at hl 0 rfl) ?_
        refine lv_iload_n hx hb dX1_fill_13 rfl (lv_at hl 3 rfl) ?_
        have hj2 : j < hg := Nat.lt_of_not_le (fun h => c9 (nI_le h (by omega)))
        refine wr_v (wr := [(aC, .inl (cI, (wd * hg), .inl cl))]) hP hD hS hA [0, 1, 2, 3, 4] [5] rfl rfl (by decide) (by decide) (va_runV (As := [.int (nI j)]) ⟨hx, hb, hml, hown, hts⟩ (kX1_markTurns l D cI cZ H.size p0 aC aT aS r0 rO rE wd hg ax ay n cap xs ys f (nI j) hn hc hw) (cwV 1 hts gX1_fill_X1_markTurns rfl rfl rfl (by decide +kernel) ⟨Nat.le_of_ble_eq_true rfl, Nat.le_of_ble_eq_true rfl⟩) (wr_preV (ci := 1) (q0 := 0) (hP.sub [0, 1, 2, 3, 4] rfl) hK (hD.sub [0, 1, 2, 3, 4] (by decide) rfl) rfl rfl) rfl rfl hl.1 rfl (lv_room (Nat.le_of_ble_eq_true rfl)) dX1_fill_14 ⟨Nat.zero_le _, Nat.zero_le _⟩) (fun u1 H locs hw1 hP hD hS => ?_)
        replace hP : va_P D vwCl [(p0, .inr (1, [.int (nI wd), .int (nI hg), .ref aC, .ref aT, .ref aS, .ref r0, .ref rO, .ref rE])), (r0, .inr (0, [.ref ax, .ref ay, .int (nI n)])), (ax, .inl (cI, cap, .inl xs)), (ay, .inl (cI, cap, .inl ys)), (aT, .inl (cZ, (wd + 1), .inl u1)), (aC, .inl (cI, (wd * hg), .inl cl))] H := hP.sub [1, 2, 3, 4, 5, 0] rfl
        replace hD : va_D A [(p0, .inr (1, [.int (nI wd), .int (nI hg), .ref aC, .ref aT, .ref aS, .ref r0, .ref rO, .ref rE])), (r0, .inr (0, [.ref ax, .ref ay, .int (nI n)])), (ax, .inl (cI, cap, .inl xs)), (ay, .inl (cI, cap, .inl ys)), (aT, .inl (cZ, (wd + 1), .inl u1)), (aC, .inl (cI, (wd * hg), .inl cl))] := hD.sub [1, 2, 3, 4, 5, 0] (by decide) rfl
        refine lv_iload_n hx hb dX1_fill_17 rfl (lv_at hl 2 rfl) ?_
        refine lv_aload_n hx hb dX1_fill_18 rfl (lv_at hl 0 rfl) ?_
        refine lv_iload_n hx hb dX1_fill_19 rfl (lv_at hl 3 rfl) ?_
        refine lv_iload_n hx hb dX1_fill_20 rfl (lv_at hl 1 rfl) ?_
        refine wr_i (wr := [(r0, .inr (0, [.ref ax, .ref ay, .int (nI n)])), (ax, .inl (cI, cap, .inl xs)), (ay, .inl (cI, cap, .inl ys))]) hP hD hS hA [0, 4, 5] [1, 2, 3] rfl rfl (by decide) (by decide) (va_runV (As := [.int (nI j), .int v]) ⟨hx, hb, hml, hown, hts⟩ (kX1_fillLine l D cI cZ H.size p0 aC aT aS r0 rO rE wd hg u1 cl (tuB xs ys n wd (nI j) n) j v hw1 hj2 hw hh) (cwV 2 hts gX1_fill_X1_fillLine rfl rfl rfl (by decide +kernel) ⟨Nat.le_of_ble_eq_true rfl, Nat.le_of_ble_eq_true rfl⟩) (wr_preV (ci := 1) (q0 := 0) (hP.sub [0, 4, 5] rfl) hK (hD.sub [0, 4, 5] (by decide) rfl) rfl rfl) rfl rfl hl.1 rfl (lv_room (Nat.le_of_ble_eq_true rfl)) dX1_fill_21 ⟨Nat.zero_le _, Nat.zero_le _⟩) (fun r2 u2 H locs hw2 hP hD hS => ?_)
        rcases hw2 with ⟨rfl, hu2⟩
        · skip
          replace hP : va_P D vwCl [(p0, .inr (1, [.int (nI wd), .int (nI hg), .ref aC, .ref aT, .ref aS, .ref r0, .ref rO, .ref rE])), (r0, .inr (0, [.ref ax, .ref ay, .int (nI n)])), (ax, .inl (cI, cap, .inl xs)), (ay, .inl (cI, cap, .inl ys)), (aT, .inl (cZ, (wd + 1), .inl u1)), (aC, .inl (cI, (wd * hg), .inl u2))] H := hP.sub [3, 0, 1, 2, 4, 5] rfl
          replace hD : va_D A [(p0, .inr (1, [.int (nI wd), .int (nI hg), .ref aC, .ref aT, .ref aS, .ref r0, .ref rO, .ref rE])), (r0, .inr (0, [.ref ax, .ref ay, .int (nI n)])), (ax, .inl (cI, cap, .inl xs)), (ay, .inl (cI, cap, .inl ys)), (aT, .inl (cZ, (wd + 1), .inl u1)), (aC, .inl (cI, (wd * hg), .inl u2))] := hD.sub [3, 0, 1, 2, 4, 5] (by decide) rfl
          refine lv_iadd hx hb dX1_fill_24 ?_
          refine q_eq (nI_add _ _) ?_
          refine lv_istore_n (lv' := [(2, .int (nI ((suN (fun y => cnB (fun x => inC xs ys n x y) wd) j) + cnB (fun x => sfD (tuB xs ys n wd (nI j) n) wd (wd - x)) wd))), (0, .ref p0), (1, .int v), (3, .int (nI j))]) hx hb dX1_fill_25 rfl hl (by decide) rfl (fun ls hl => ?_)
          refine lv_iinc (v := (nI (j + 1))) (lv' := [(3, .int (nI (j + 1))), (2, .int (nI ((suN (fun y => cnB (fun x => inC xs ys n x y) wd) j) + cnB (fun x => sfD (tuB xs ys n wd (nI j) n) wd (wd - x)) wd))), (0, .ref p0), (1, .int v)]) hx hb dX1_fill_26 hl (k := 3) rfl (nI_1 _) (by decide) rfl (fun ls hl => ?_)
          refine lv_goto (tgt := 4) hx hb dX1_fill_29 (by decide) ?_
          have hRI : ∀ x, x < wd → (fun x => sfD (tuB xs ys n wd (nI j) n) wd (wd - x)) x = inC xs ys n x j := fun x hx => sf_in hw hx n
          have ec : (suN (fun y => cnB (fun x => inC xs ys n x y) wd) j) + cnB (fun x => sfD (tuB xs ys n wd (nI j) n) wd (wd - x)) wd = (suN (fun y => cnB (fun x => inC xs ys n x y) wd) (j + 1)) := by rw [suN, cn_congr wd hRI]
          exact ih (j + 1) (by omega) (by omega) u1 u2 (px_row hRI hcl hu2) H locs hP hD hS ls (by rw [← ec]; exact lv_sub hl [2, 3, 1, 0] rfl)
  refine lv_iconst (v := 0) hx hb dX1_fill_0 (by decide) ?_
  refine lv_istore_n (lv' := [(2, .int 0), (0, .ref p0), (1, .int v)]) hx hb dX1_fill_1 rfl hl (by decide) rfl (fun ls hl => ?_)
  refine lv_iconst (v := 0) hx hb dX1_fill_2 (by decide) ?_
  refine lv_istore_n (lv' := [(3, .int 0), (2, .int 0), (0, .ref p0), (1, .int v)]) hx hb dX1_fill_3 rfl hl (by decide) rfl (fun ls hl => ?_)
  exact LOOP (hg + 1) 0 (Nat.zero_le _) (by omega) tn col (fun x y hx hy => by rw [if_neg (by omega)]) s.heap [] hP hD hS ls (lv_sub hl [2, 3, 1, 0] rfl)
