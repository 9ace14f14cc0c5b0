/-! THE CLASS'S CLIP: four passes, ring to ring. -/
theorem ps_list {cap : Nat} {tx ty : Nat → Int32} {q : Nat} {sd fx fy : Nat → Int32} {n : Nat} {L M : List (Int32 × Int32)} {u : Nat × (Nat → Int32) × (Nat → Int32)} (hM : clpL cap sd L q = some M) (hn : n = M.length) (ho : hoL fx fy M) (hl : (psL q (sd q) fx fy n n).length ≤ cap) (hu : u = psV cap tx ty q (sd q) fx fy n n) :
    ∃ M' : List (Int32 × Int32), clpL cap sd L (q + 1) = some M' ∧ u.1 = M'.length ∧ hoL u.2.1 u.2.2 M' ∧ M'.length ≤ cap := by
  have e : psL q (sd q) fx fy n n = pasL q (sd q) M := by rw [hn]; exact psL_pas ho
  rw [e] at hl
  refine ⟨pasL q (sd q) M, clp_s hM hl, ?_, ?_, hl⟩
  · rw [hu, psV_1, e]
  · rw [hu, psV, e]; exact mpU_ho hl
theorem ps_none {cap q : Nat} {sd fx fy : Nat → Int32} {n : Nat} {L M : List (Int32 × Int32)} (hq : q < 4) (hM : clpL cap sd L q = some M) (hn : n = M.length) (ho : hoL fx fy M) (h : cap < (psL q (sd q) fx fy n n).length) : clpL cap sd L 4 = none := by
  have e : psL q (sd q) fx fy n n = pasL q (sd q) M := by rw [hn]; exact psL_pas ho
  rw [e] at h
  exact clp_none hq hM (by omega)
theorem nX1_clip_X1 : ∀ w ∈ wsX10, w ∈ wsX1_clip := fun w h => List.mem_cons_of_mem _ (List.mem_append_left _ (List.mem_append_right _ h))
theorem nX1_clip_X0 : ∀ w ∈ wsX00, w ∈ wsX1_clip := fun w h => List.mem_cons_of_mem _ (List.mem_append_right _ h)
set_option maxHeartbeats 4000000 in
set_option maxRecDepth 100000 in
theorem kX1_clip (l : Launch) (D : va_G) (cI cZ : ClassId) (sz : Nat) (p0 aC aT aS rP rO rE wd hg : Nat) (apx apy aox aoy aex aey n cap : Nat) (co ce : Int32) (sd xs ys ox oy ex ey : Nat → Int32) (L : List (Int32 × Int32)) (hL : n = L.length) (ho : hoL xs ys L) (hn : n ≤ cap) (hc : cap ≤ 60) : Met l yX1_clip wsX1_clip ({ frames := 3, cells := 0, slots := 0, locals := 120 }) (va_Pc [.ref p0] (wrP D cI cZ sz [(p0, .inr (1, [.int (nI wd), .int (nI hg), .ref aC, .ref aT, .ref aS, .ref rP, .ref rO, .ref rE])), (aS, .inl (cI, 4, .inl sd)), (rP, .inr (0, [.ref apx, .ref apy, .int (nI n)])), (apx, .inl (cI, cap, .inl xs)), (apy, .inl (cI, cap, .inl ys)), (rO, .inr (0, [.ref aox, .ref aoy, .int co])), (aox, .inl (cI, cap, .inl ox)), (aoy, .inl (cI, cap, .inl oy)), (rE, .inr (0, [.ref aex, .ref aey, .int ce])), (aex, .inl (cI, cap, .inl ex)), (aey, .inl (cI, cap, .inl ey))])) (va_Qi (S := (Nat × Nat × Nat) × (Nat × Nat × Nat) × (Nat × (Nat → Int32) × (Nat → Int32)) × (Int32 × (Nat → Int32) × (Nat → Int32)) × (Int32 × (Nat → Int32) × (Nat → Int32))) (fun r z => (∃ M : List (Int32 × Int32), clpL cap sd L 4 = some M ∧ r = nI M.length ∧ z.2.2.1.1 = M.length ∧ hoL z.2.2.1.2.1 z.2.2.1.2.2 M ∧ M.length ≤ cap) ∨ (clpL cap sd L 4 = none ∧ r = (-1) ∧ z.2.2.1 = (n, xs, ys))) (wrB D [(p0, .inr (1, [.int (nI wd), .int (nI hg), .ref aC, .ref aT, .ref aS, .ref rP, .ref rO, .ref rE])), (aS, .inl (cI, 4, .inl sd)), (rP, .inr (0, [.ref apx, .ref apy, .int (nI n)])), (apx, .inl (cI, cap, .inl xs)), (apy, .inl (cI, cap, .inl ys)), (rO, .inr (0, [.ref aox, .ref aoy, .int co])), (aox, .inl (cI, cap, .inl ox)), (aoy, .inl (cI, cap, .inl oy)), (rE, .inr (0, [.ref aex, .ref aey, .int ce])), (aex, .inl (cI, cap, .inl ex)), (aey, .inl (cI, cap, .inl ey))] sz (fun z => [(p0, .inr (1, [.int (nI wd), .int (nI hg), .ref aC, .ref aT, .ref aS, .ref z.1.1, .ref rO, .ref z.2.1.1])), (aS, .inl (cI, 4, .inl sd)), (z.1.1, .inr (0, [.ref z.1.2.1, .ref z.1.2.2, .int (nI z.2.2.1.1)])), (z.1.2.1, .inl (cI, cap, .inl z.2.2.1.2.1)), (z.1.2.2, .inl (cI, cap, .inl z.2.2.1.2.2)), (rO, .inr (0, [.ref aox, .ref aoy, .int z.2.2.2.1.1])), (aox, .inl (cI, cap, .inl z.2.2.2.1.2.1)), (aoy, .inl (cI, cap, .inl z.2.2.2.1.2.2)), (z.2.1.1, .inr (0, [.ref z.2.1.2.1, .ref z.2.1.2.2, .int z.2.2.2.2.1])), (z.2.1.2.1, .inl (cI, cap, .inl z.2.2.2.2.2.1)), (z.2.1.2.2, .inl (cI, cap, .inl z.2.2.2.2.2.2))])) (va_A [(p0, .inr (1, [.int (nI wd), .int (nI hg), .ref aC, .ref aT, .ref aS, .ref rP, .ref rO, .ref rE])), (aS, .inl (cI, 4, .inl sd)), (rP, .inr (0, [.ref apx, .ref apy, .int (nI n)])), (apx, .inl (cI, cap, .inl xs)), (apy, .inl (cI, cap, .inl ys)), (rO, .inr (0, [.ref aox, .ref aoy, .int co])), (aox, .inl (cI, cap, .inl ox)), (aoy, .inl (cI, cap, .inl oy)), (rE, .inr (0, [.ref aex, .ref aey, .int ce])), (aex, .inl (cI, cap, .inl ex)), (aey, .inl (cI, cap, .inl ey))] sz)) 0 0 (va_A [(p0, .inr (1, [.int (nI wd), .int (nI hg), .ref aC, .ref aT, .ref aS, .ref rP, .ref rO, .ref rE])), (aS, .inl (cI, 4, .inl sd)), (rP, .inr (0, [.ref apx, .ref apy, .int (nI n)])), (apx, .inl (cI, cap, .inl xs)), (apy, .inl (cI, cap, .inl ys)), (rO, .inr (0, [.ref aox, .ref aoy, .int co])), (aox, .inl (cI, cap, .inl ox)), (aoy, .inl (cI, cap, .inl oy)), (rE, .inr (0, [.ref aex, .ref aey, .int ce])), (aex, .inl (cI, cap, .inl ex)), (aey, .inl (cI, cap, .inl ey))] sz) := by
  refine Met.ofW (cc := cX1_clip) (maxL := 4) (ret := (some .int)) (by decide) rfl ?_
  intro p e s m args below meth c s₁ B hml hv
  obtain ⟨rfl, hsz, hP, hK, hD0⟩ := hv
  have hx := B.exec
  have hb := B.bytes
  have hr := B.returns
  have hts := atoms_spec (ws := wsX1_clip) B.pre
  have hown : s.vm.findClass RX1 = some m.cls := findClass_of_methodNamed B.named
  have hlocks := B.notSynchronized
  subst hsz
  have hD := hD0.self (sz := s.heap.size)
  generalize hAe : va_A [(p0, .inr (1, [.int (nI wd), .int (nI hg), .ref aC, .ref aT, .ref aS, .ref rP, .ref rO, .ref rE])), (aS, .inl (cI, 4, .inl sd)), (rP, .inr (0, [.ref apx, .ref apy, .int (nI n)])), (apx, .inl (cI, cap, .inl xs)), (apy, .inl (cI, cap, .inl ys)), (rO, .inr (0, [.ref aox, .ref aoy, .int co])), (aox, .inl (cI, cap, .inl ox)), (aoy, .inl (cI, cap, .inl oy)), (rE, .inr (0, [.ref aex, .ref aey, .int ce])), (aex, .inl (cI, cap, .inl ex)), (aey, .inl (cI, cap, .inl ey))] s.heap.size = A at hD ⊢
  have hA : ∀ q : Nat, s.heap.size ≤ q → A q := fun q h => by rw [← hAe]; exact Or.inr h
  have hS : va_S A s.heap s.heap [] := va_S.rf
  have hP : va_P D vwCl [(p0, .inr (1, [.int (nI wd), .int (nI hg), .ref aC, .ref aT, .ref aS, .ref rP, .ref rO, .ref rE])), (aS, .inl (cI, 4, .inl sd)), (rP, .inr (0, [.ref apx, .ref apy, .int (nI n)])), (apx, .inl (cI, cap, .inl xs)), (apy, .inl (cI, cap, .inl ys)), (rO, .inr (0, [.ref aox, .ref aoy, .int co])), (aox, .inl (cI, cap, .inl ox)), (aoy, .inl (cI, cap, .inl oy)), (rE, .inr (0, [.ref aex, .ref aey, .int ce])), (aex, .inl (cI, cap, .inl ex)), (aey, .inl (cI, cap, .inl ey))] s.heap := hP
  have hl := lv_entry ([.ref p0]) (n := 4) (Nat.le_of_ble_eq_true rfl)
  rw [lg_entry_eq]
  generalize (lg_sl ([.ref p0]) ++ List.replicate (4 - (lg_sl ([.ref p0])).length) Slot.unset).toArray = ls at hl ⊢
  have hl : lv_has ls 4 [(0, .ref p0)] := hl
  have hM0 : clpL cap sd L 0 = some L := rfl
  refine lv_aload_n hx hb dX1_clip_0 rfl (lv_at hl 0 rfl) ?_
  refine va_get (D := D) (ci := 1) (v := .ref rP) (C := RX1) (T := TX1) (N := 8) hx hb hts nX1_clip_X1 hown hK.1 hP 0 rfl rfl 5 (by decide) (hts (.fieldLink RX1 36 "PolygonFrame" "polygon" "LPolygonFrame$Ring;") (by decide +kernel)) (fun _ h9 => h9) rfl dX1_clip_1 ?_
  refine lv_astore_n (lv' := [(1, .ref rP), (0, .ref p0)]) hx hb dX1_clip_4 rfl hl (by decide) rfl (fun ls hl => ?_)
  refine lv_iconst (v := 0) hx hb dX1_clip_5 (by decide) ?_
  refine lv_istore_n (lv' := [(2, .int 0), (1, .ref rP), (0, .ref p0)]) hx hb dX1_clip_6 rfl hl (by decide) rfl (fun ls hl => ?_)
  refine lv_iload_n hx hb dX1_clip_7 rfl (lv_at hl 0 rfl) ?_
  refine lv_aload_n hx hb dX1_clip_8 rfl (lv_at hl 2 rfl) ?_
  refine va_get (D := D) (ci := 1) (v := .ref aS) (C := RX1) (T := TX1) (N := 8) hx hb hts nX1_clip_X1 hown hK.1 hP 0 rfl rfl 4 (by decide) (hts (.fieldLink RX1 28 "PolygonFrame" "sides" "[I") (by decide +kernel)) (fun _ h9 => h9) rfl dX1_clip_9 ?_
  refine va_alen (v := 4) hx hb hK.1 hP 1 0 rfl rfl rfl dX1_clip_12 ?_
  refine lv_icmp_ge (tgt := 54) hx hb dX1_clip_13 (by decide) (fun c13 => absurd c13 (by decide)) (fun c13 => ?_)
  refine lv_iload_n hx hb dX1_clip_16 rfl (lv_at hl 0 rfl) ?_
  refine lv_iconst (v := 2) hx hb dX1_clip_17 (by decide) ?_
  refine lv_irem hx hb dX1_clip_18 (by decide) ?_
  refine q_eq (show (0 - 0 / 2 * 2 : Int32) = 0 by decide) ?_
  refine lv_if_ne (tgt := 29) hx hb dX1_clip_19 (by decide) (fun c19 => absurd (by decide) c19) (fun c19 => ?_)
  refine lv_aload_n hx hb dX1_clip_22 rfl (lv_at hl 2 rfl) ?_
  refine va_get (D := D) (ci := 1) (v := .ref rO) (C := RX1) (T := TX1) (N := 8) hx hb hts nX1_clip_X1 hown hK.1 hP 0 rfl rfl 6 (by decide) (hts (.fieldLink RX1 40 "PolygonFrame" "oddPasses" "LPolygonFrame$Ring;") (by decide +kernel)) (fun _ h9 => h9) rfl dX1_clip_23 ?_
  refine lv_goto (tgt := 33) hx hb dX1_clip_26 (by decide) ?_
  refine lv_astore_n (lv' := [(3, .ref rO), (2, .int 0), (1, .ref rP), (0, .ref p0)]) hx hb dX1_clip_33 rfl hl (by decide) rfl (fun ls hl => ?_)
  refine lv_aload_n hx hb dX1_clip_34 rfl (lv_at hl 3 rfl) ?_
  refine lv_aload_n hx hb dX1_clip_35 rfl (lv_at hl 2 rfl) ?_
  refine lv_aload_n hx hb dX1_clip_36 rfl (lv_at hl 0 rfl) ?_
  refine lv_iload_n hx hb dX1_clip_37 rfl (lv_at hl 1 rfl) ?_
  refine q_eq (show (0 : Int32) = nI 0 from rfl) ?_
  refine wr_i (wr := [(rE, .inr (0, [.ref aex, .ref aey, .int ce])), (aex, .inl (cI, cap, .inl ex)), (aey, .inl (cI, cap, .inl ey))]) hP hD hS hA [0, 1, 2, 3, 4, 5, 6, 7] [8, 9, 10] rfl rfl (by decide) (by decide) (va_runV (As := [.ref rP, .ref rO, .int (nI 0)]) ⟨hx, hb, hml, hown, hts⟩ (kX1_passX l D cI cZ s.heap.size p0 aC aT aS rP rO rE wd hg rP apx apy rO aox aoy n cap co sd xs ys ox oy 0 (by decide) (by decide) hn hc) (cwV 3 hts gX1_clip_X1_pass rfl rfl rfl (by decide +kernel) ⟨Nat.le_of_ble_eq_true rfl, Nat.le_of_ble_eq_true rfl⟩) (wr_preV (ci := 1) (q0 := 0) (hP.sub [0, 1, 2, 3, 4, 5, 6, 7] rfl) hK (hD.sub [0, 1, 2, 3, 4, 5, 6, 7] (by decide) rfl) rfl rfl) rfl rfl hl.1 rfl (lv_room (Nat.le_of_ble_eq_true rfl)) dX1_clip_38 ⟨Nat.zero_le _, Nat.zero_le _⟩) (fun r1 u1 H locs hw1 hP hD hS => ?_)
  rcases hw1 with ⟨rfl, hk1, hu1⟩ | ⟨rfl, hk1⟩
  · skip
    replace hP : va_P D vwCl [(p0, .inr (1, [.int (nI wd), .int (nI hg), .ref aC, .ref aT, .ref aS, .ref rP, .ref rO, .ref rE])), (aS, .inl (cI, 4, .inl sd)), (rP, .inr (0, [.ref apx, .ref apy, .int (nI n)])), (apx, .inl (cI, cap, .inl xs)), (apy, .inl (cI, cap, .inl ys)), (rO, .inr (0, [.ref aox, .ref aoy, .int (nI u1.1)])), (aox, .inl (cI, cap, .inl u1.2.1)), (aoy, .inl (cI, cap, .inl u1.2.2)), (rE, .inr (0, [.ref aex, .ref aey, .int ce])), (aex, .inl (cI, cap, .inl ex)), (aey, .inl (cI, cap, .inl ey))] H := hP.sub [3, 4, 5, 6, 7, 8, 9, 10, 0, 1, 2] rfl
    replace hD : va_D A [(p0, .inr (1, [.int (nI wd), .int (nI hg), .ref aC, .ref aT, .ref aS, .ref rP, .ref rO, .ref rE])), (aS, .inl (cI, 4, .inl sd)), (rP, .inr (0, [.ref apx, .ref apy, .int (nI n)])), (apx, .inl (cI, cap, .inl xs)), (apy, .inl (cI, cap, .inl ys)), (rO, .inr (0, [.ref aox, .ref aoy, .int (nI u1.1)])), (aox, .inl (cI, cap, .inl u1.2.1)), (aoy, .inl (cI, cap, .inl u1.2.2)), (rE, .inr (0, [.ref aex, .ref aey, .int ce])), (aex, .inl (cI, cap, .inl ex)), (aey, .inl (cI, cap, .inl ey))] := hD.sub [3, 4, 5, 6, 7, 8, 9, 10, 0, 1, 2] (by decide) rfl
    obtain ⟨M1, hM1, hn1, ho1, hl1⟩ := ps_list (q := 0) hM0 hL ho hk1 hu1
    refine lv_if_ne (tgt := 46) hx hb dX1_clip_41 (by decide) (fun c41 => ?_) (fun c41 => absurd c41 (by decide))
    refine lv_aload_n hx hb dX1_clip_46 rfl (lv_at hl 0 rfl) ?_
    refine lv_astore_n (lv' := [(1, .ref rO), (3, .ref rO), (2, .int 0), (0, .ref p0)]) hx hb dX1_clip_47 rfl hl (by decide) rfl (fun ls hl => ?_)
    refine lv_iinc (v := 1) (lv' := [(2, .int 1), (1, .ref rO), (3, .ref rO), (0, .ref p0)]) hx hb dX1_clip_48 hl (k := 2) rfl (by decide) (by decide) rfl (fun ls hl => ?_)
    refine lv_goto (tgt := 7) hx hb dX1_clip_51 (by decide) ?_
    refine lv_iload_n hx hb dX1_clip_7 rfl (lv_at hl 0 rfl) ?_
    refine lv_aload_n hx hb dX1_clip_8 rfl (lv_at hl 3 rfl) ?_
    refine va_get (D := D) (ci := 1) (v := .ref aS) (C := RX1) (T := TX1) (N := 8) hx hb hts nX1_clip_X1 hown hK.1 hP 0 rfl rfl 4 (by decide) (hts (.fieldLink RX1 28 "PolygonFrame" "sides" "[I") (by decide +kernel)) (fun _ h9 => h9) rfl dX1_clip_9 ?_
    refine va_alen (v := 4) hx hb hK.1 hP 1 0 rfl rfl rfl dX1_clip_12 ?_
    refine lv_icmp_ge (tgt := 54) hx hb dX1_clip_13 (by decide) (fun c13 => absurd c13 (by decide)) (fun c13 => ?_)
    refine lv_iload_n hx hb dX1_clip_16 rfl (lv_at hl 0 rfl) ?_
    refine lv_iconst (v := 2) hx hb dX1_clip_17 (by decide) ?_
    refine lv_irem hx hb dX1_clip_18 (by decide) ?_
    refine q_eq (show (1 - 1 / 2 * 2 : Int32) = 1 by decide) ?_
    refine lv_if_ne (tgt := 29) hx hb dX1_clip_19 (by decide) (fun c19 => ?_) (fun c19 => absurd c19 (by decide))
    refine lv_aload_n hx hb dX1_clip_29 rfl (lv_at hl 3 rfl) ?_
    refine va_get (D := D) (ci := 1) (v := .ref rE) (C := RX1) (T := TX1) (N := 8) hx hb hts nX1_clip_X1 hown hK.1 hP 0 rfl rfl 7 (by decide) (hts (.fieldLink RX1 43 "PolygonFrame" "evenPasses" "LPolygonFrame$Ring;") (by decide +kernel)) (fun _ h9 => h9) rfl dX1_clip_30 ?_
    refine lv_astore_n (lv' := [(3, .ref rE), (2, .int 1), (1, .ref rO), (0, .ref p0)]) hx hb dX1_clip_33 rfl hl (by decide) rfl (fun ls hl => ?_)
    refine lv_aload_n hx hb dX1_clip_34 rfl (lv_at hl 3 rfl) ?_
    refine lv_aload_n hx hb dX1_clip_35 rfl (lv_at hl 2 rfl) ?_
    refine lv_aload_n hx hb dX1_clip_36 rfl (lv_at hl 0 rfl) ?_
    refine lv_iload_n hx hb dX1_clip_37 rfl (lv_at hl 1 rfl) ?_
    refine q_eq (show (1 : Int32) = nI 1 from rfl) ?_
    refine wr_i (wr := [(rP, .inr (0, [.ref apx, .ref apy, .int (nI n)])), (apx, .inl (cI, cap, .inl xs)), (apy, .inl (cI, cap, .inl ys))]) hP hD hS hA [0, 1, 5, 6, 7, 8, 9, 10] [2, 3, 4] rfl rfl (by decide) (by decide) (va_runV (As := [.ref rO, .ref rE, .int (nI 1)]) ⟨hx, hb, hml, hown, hts⟩ (kX1_passX l D cI cZ H.size p0 aC aT aS rP rO rE wd hg rO aox aoy rE aex aey u1.1 cap ce sd u1.2.1 u1.2.2 ex ey 1 (by decide) (by decide) (by rw [hn1]; exact hl1) hc) (cwV 3 hts gX1_clip_X1_pass rfl rfl rfl (by decide +kernel) ⟨Nat.le_of_ble_eq_true rfl, Nat.le_of_ble_eq_true rfl⟩) (wr_preV (ci := 1) (q0 := 0) (hP.sub [0, 1, 5, 6, 7, 8, 9, 10] rfl) hK (hD.sub [0, 1, 5, 6, 7, 8, 9, 10] (by decide) rfl) rfl rfl) rfl rfl hl.1 rfl (lv_room (Nat.le_of_ble_eq_true rfl)) dX1_clip_38 ⟨Nat.zero_le _, Nat.zero_le _⟩) (fun r2 u2 H locs hw2 hP hD hS => ?_)
    rcases hw2 with ⟨rfl, hk2, hu2⟩ | ⟨rfl, hk2⟩
    · skip
      replace hP : va_P D vwCl [(p0, .inr (1, [.int (nI wd), .int (nI hg), .ref aC, .ref aT, .ref aS, .ref rP, .ref rO, .ref rE])), (aS, .inl (cI, 4, .inl sd)), (rP, .inr (0, [.ref apx, .ref apy, .int (nI n)])), (apx, .inl (cI, cap, .inl xs)), (apy, .inl (cI, cap, .inl ys)), (rO, .inr (0, [.ref aox, .ref aoy, .int (nI u1.1)])), (aox, .inl (cI, cap, .inl u1.2.1)), (aoy, .inl (cI, cap, .inl u1.2.2)), (rE, .inr (0, [.ref aex, .ref aey, .int (nI u2.1)])), (aex, .inl (cI, cap, .inl u2.2.1)), (aey, .inl (cI, cap, .inl u2.2.2))] H := hP.sub [3, 4, 0, 1, 2, 5, 6, 7, 8, 9, 10] rfl
      replace hD : va_D A [(p0, .inr (1, [.int (nI wd), .int (nI hg), .ref aC, .ref aT, .ref aS, .ref rP, .ref rO, .ref rE])), (aS, .inl (cI, 4, .inl sd)), (rP, .inr (0, [.ref apx, .ref apy, .int (nI n)])), (apx, .inl (cI, cap, .inl xs)), (apy, .inl (cI, cap, .inl ys)), (rO, .inr (0, [.ref aox, .ref aoy, .int (nI u1.1)])), (aox, .inl (cI, cap, .inl u1.2.1)), (aoy, .inl (cI, cap, .inl u1.2.2)), (rE, .inr (0, [.ref aex, .ref aey, .int (nI u2.1)])), (aex, .inl (cI, cap, .inl u2.2.1)), (aey, .inl (cI, cap, .inl u2.2.2))] := hD.sub [3, 4, 0, 1, 2, 5, 6, 7, 8, 9, 10] (by decide) rfl
      obtain ⟨M2, hM2, hn2, ho2, hl2⟩ := ps_list (q := 1) hM1 hn1 ho1 hk2 hu2
      refine lv_if_ne (tgt := 46) hx hb dX1_clip_41 (by decide) (fun c41 => ?_) (fun c41 => absurd c41 (by decide))
      refine lv_aload_n hx hb dX1_clip_46 rfl (lv_at hl 0 rfl) ?_
      refine lv_astore_n (lv' := [(1, .ref rE), (3, .ref rE), (2, .int 1), (0, .ref p0)]) hx hb dX1_clip_47 rfl hl (by decide) rfl (fun ls hl => ?_)
      refine lv_iinc (v := 2) (lv' := [(2, .int 2), (1, .ref rE), (3, .ref rE), (0, .ref p0)]) hx hb dX1_clip_48 hl (k := 2) rfl (by decide) (by decide) rfl (fun ls hl => ?_)
      refine lv_goto (tgt := 7) hx hb dX1_clip_51 (by decide) ?_
      refine lv_iload_n hx hb dX1_clip_7 rfl (lv_at hl 0 rfl) ?_
      refine lv_aload_n hx hb dX1_clip_8 rfl (lv_at hl 3 rfl) ?_
      refine va_get (D := D) (ci := 1) (v := .ref aS) (C := RX1) (T := TX1) (N := 8) hx hb hts nX1_clip_X1 hown hK.1 hP 0 rfl rfl 4 (by decide) (hts (.fieldLink RX1 28 "PolygonFrame" "sides" "[I") (by decide +kernel)) (fun _ h9 => h9) rfl dX1_clip_9 ?_
      refine va_alen (v := 4) hx hb hK.1 hP 1 0 rfl rfl rfl dX1_clip_12 ?_
      refine lv_icmp_ge (tgt := 54) hx hb dX1_clip_13 (by decide) (fun c13 => absurd c13 (by decide)) (fun c13 => ?_)
      refine lv_iload_n hx hb dX1_clip_16 rfl (lv_at hl 0 rfl) ?_
      refine lv_iconst (v := 2) hx hb dX1_clip_17 (by decide) ?_
      refine lv_irem hx hb dX1_clip_18 (by decide) ?_
      refine q_eq (show (2 - 2 / 2 * 2 : Int32) = 0 by decide) ?_
      refine lv_if_ne (tgt := 29) hx hb dX1_clip_19 (by decide) (fun c19 => absurd (by decide) c19) (fun c19 => ?_)
      refine lv_aload_n hx hb dX1_clip_22 rfl (lv_at hl 3 rfl) ?_
      refine va_get (D := D) (ci := 1) (v := .ref rO) (C := RX1) (T := TX1) (N := 8) hx hb hts nX1_clip_X1 hown hK.1 hP 0 rfl rfl 6 (by decide) (hts (.fieldLink RX1 40 "PolygonFrame" "oddPasses" "LPolygonFrame$Ring;") (by decide +kernel)) (fun _ h9 => h9) rfl dX1_clip_23 ?_
      refine lv_goto (tgt := 33) hx hb dX1_clip_26 (by decide) ?_
      refine lv_astore_n (lv' := [(3, .ref rO), (2, .int 2), (1, .ref rE), (0, .ref p0)]) hx hb dX1_clip_33 rfl hl (by decide) rfl (fun ls hl => ?_)
      refine lv_aload_n hx hb dX1_clip_34 rfl (lv_at hl 3 rfl) ?_
      refine lv_aload_n hx hb dX1_clip_35 rfl (lv_at hl 2 rfl) ?_
      refine lv_aload_n hx hb dX1_clip_36 rfl (lv_at hl 0 rfl) ?_
      refine lv_iload_n hx hb dX1_clip_37 rfl (lv_at hl 1 rfl) ?_
      refine q_eq (show (2 : Int32) = nI 2 from rfl) ?_
      refine wr_i (wr := [(rP, .inr (0, [.ref apx, .ref apy, .int (nI n)])), (apx, .inl (cI, cap, .inl xs)), (apy, .inl (cI, cap, .inl ys))]) hP hD hS hA [0, 1, 8, 9, 10, 5, 6, 7] [2, 3, 4] rfl rfl (by decide) (by decide) (va_runV (As := [.ref rE, .ref rO, .int (nI 2)]) ⟨hx, hb, hml, hown, hts⟩ (kX1_passY l D cI cZ H.size p0 aC aT aS rP rO rE wd hg rE aex aey rO aox aoy u2.1 cap (nI u1.1) sd u2.2.1 u2.2.2 u1.2.1 u1.2.2 2 (by decide) (by decide) (by rw [hn2]; exact hl2) hc) (cwV 3 hts gX1_clip_X1_pass rfl rfl rfl (by decide +kernel) ⟨Nat.le_of_ble_eq_true rfl, Nat.le_of_ble_eq_true rfl⟩) (wr_preV (ci := 1) (q0 := 0) (hP.sub [0, 1, 8, 9, 10, 5, 6, 7] rfl) hK (hD.sub [0, 1, 8, 9, 10, 5, 6, 7] (by decide) rfl) rfl rfl) rfl rfl hl.1 rfl (lv_room (Nat.le_of_ble_eq_true rfl)) dX1_clip_38 ⟨Nat.zero_le _, Nat.zero_le _⟩) (fun r3 u3 H locs hw3 hP hD hS => ?_)
      rcases hw3 with ⟨rfl, hk3, hu3⟩ | ⟨rfl, hk3⟩
      · skip
        replace hP : va_P D vwCl [(p0, .inr (1, [.int (nI wd), .int (nI hg), .ref aC, .ref aT, .ref aS, .ref rP, .ref rO, .ref rE])), (aS, .inl (cI, 4, .inl sd)), (rP, .inr (0, [.ref apx, .ref apy, .int (nI n)])), (apx, .inl (cI, cap, .inl xs)), (apy, .inl (cI, cap, .inl ys)), (rO, .inr (0, [.ref aox, .ref aoy, .int (nI u3.1)])), (aox, .inl (cI, cap, .inl u3.2.1)), (aoy, .inl (cI, cap, .inl u3.2.2)), (rE, .inr (0, [.ref aex, .ref aey, .int (nI u2.1)])), (aex, .inl (cI, cap, .inl u2.2.1)), (aey, .inl (cI, cap, .inl u2.2.2))] H := hP.sub [3, 4, 0, 1, 2, 8, 9, 10, 5, 6, 7] rfl
        replace hD : va_D A [(p0, .inr (1, [.int (nI wd), .int (nI hg), .ref aC, .ref aT, .ref aS, .ref rP, .ref rO, .ref rE])), (aS, .inl (cI, 4, .inl sd)), (rP, .inr (0, [.ref apx, .ref apy, .int (nI n)])), (apx, .inl (cI, cap, .inl xs)), (apy, .inl (cI, cap, .inl ys)), (rO, .inr (0, [.ref aox, .ref aoy, .int (nI u3.1)])), (aox, .inl (cI, cap, .inl u3.2.1)), (aoy, .inl (cI, cap, .inl u3.2.2)), (rE, .inr (0, [.ref aex, .ref aey, .int (nI u2.1)])), (aex, .inl (cI, cap, .inl u2.2.1)), (aey, .inl (cI, cap, .inl u2.2.2))] := hD.sub [3, 4, 0, 1, 2, 8, 9, 10, 5, 6, 7] (by decide) rfl
        obtain ⟨M3, hM3, hn3, ho3, hl3⟩ := ps_list (q := 2) hM2 hn2 ho2 hk3 hu3
        refine lv_if_ne (tgt := 46) hx hb dX1_clip_41 (by decide) (fun c41 => ?_) (fun c41 => absurd c41 (by decide))
        refine lv_aload_n hx hb dX1_clip_46 rfl (lv_at hl 0 rfl) ?_
        refine lv_astore_n (lv' := [(1, .ref rO), (3, .ref rO), (2, .int 2), (0, .ref p0)]) hx hb dX1_clip_47 rfl hl (by decide) rfl (fun ls hl => ?_)
        refine lv_iinc (v := 3) (lv' := [(2, .int 3), (1, .ref rO), (3, .ref rO), (0, .ref p0)]) hx hb dX1_clip_48 hl (k := 2) rfl (by decide) (by decide) rfl (fun ls hl => ?_)
        refine lv_goto (tgt := 7) hx hb dX1_clip_51 (by decide) ?_
        refine lv_iload_n hx hb dX1_clip_7 rfl (lv_at hl 0 rfl) ?_
        refine lv_aload_n hx hb dX1_clip_8 rfl (lv_at hl 3 rfl) ?_
        refine va_get (D := D) (ci := 1) (v := .ref aS) (C := RX1) (T := TX1) (N := 8) hx hb hts nX1_clip_X1 hown hK.1 hP 0 rfl rfl 4 (by decide) (hts (.fieldLink RX1 28 "PolygonFrame" "sides" "[I") (by decide +kernel)) (fun _ h9 => h9) rfl dX1_clip_9 ?_
        refine va_alen (v := 4) hx hb hK.1 hP 1 0 rfl rfl rfl dX1_clip_12 ?_
        refine lv_icmp_ge (tgt := 54) hx hb dX1_clip_13 (by decide) (fun c13 => absurd c13 (by decide)) (fun c13 => ?_)
        refine lv_iload_n hx hb dX1_clip_16 rfl (lv_at hl 0 rfl) ?_
        refine lv_iconst (v := 2) hx hb dX1_clip_17 (by decide) ?_
        refine lv_irem hx hb dX1_clip_18 (by decide) ?_
        refine q_eq (show (3 - 3 / 2 * 2 : Int32) = 1 by decide) ?_
        refine lv_if_ne (tgt := 29) hx hb dX1_clip_19 (by decide) (fun c19 => ?_) (fun c19 => absurd c19 (by decide))
        refine lv_aload_n hx hb dX1_clip_29 rfl (lv_at hl 3 rfl) ?_
        refine va_get (D := D) (ci := 1) (v := .ref rE) (C := RX1) (T := TX1) (N := 8) hx hb hts nX1_clip_X1 hown hK.1 hP 0 rfl rfl 7 (by decide) (hts (.fieldLink RX1 43 "PolygonFrame" "evenPasses" "LPolygonFrame$Ring;") (by decide +kernel)) (fun _ h9 => h9) rfl dX1_clip_30 ?_
        refine lv_astore_n (lv' := [(3, .ref rE), (2, .int 3), (1, .ref rO), (0, .ref p0)]) hx hb dX1_clip_33 rfl hl (by decide) rfl (fun ls hl => ?_)
        refine lv_aload_n hx hb dX1_clip_34 rfl (lv_at hl 3 rfl) ?_
        refine lv_aload_n hx hb dX1_clip_35 rfl (lv_at hl 2 rfl) ?_
        refine lv_aload_n hx hb dX1_clip_36 rfl (lv_at hl 0 rfl) ?_
        refine lv_iload_n hx hb dX1_clip_37 rfl (lv_at hl 1 rfl) ?_
        refine q_eq (show (3 : Int32) = nI 3 from rfl) ?_
        refine wr_i (wr := [(rP, .inr (0, [.ref apx, .ref apy, .int (nI n)])), (apx, .inl (cI, cap, .inl xs)), (apy, .inl (cI, cap, .inl ys))]) hP hD hS hA [0, 1, 5, 6, 7, 8, 9, 10] [2, 3, 4] rfl rfl (by decide) (by decide) (va_runV (As := [.ref rO, .ref rE, .int (nI 3)]) ⟨hx, hb, hml, hown, hts⟩ (kX1_passY l D cI cZ H.size p0 aC aT aS rP rO rE wd hg rO aox aoy rE aex aey u3.1 cap (nI u2.1) sd u3.2.1 u3.2.2 u2.2.1 u2.2.2 3 (by decide) (by decide) (by rw [hn3]; exact hl3) hc) (cwV 3 hts gX1_clip_X1_pass rfl rfl rfl (by decide +kernel) ⟨Nat.le_of_ble_eq_true rfl, Nat.le_of_ble_eq_true rfl⟩) (wr_preV (ci := 1) (q0 := 0) (hP.sub [0, 1, 5, 6, 7, 8, 9, 10] rfl) hK (hD.sub [0, 1, 5, 6, 7, 8, 9, 10] (by decide) rfl) rfl rfl) rfl rfl hl.1 rfl (lv_room (Nat.le_of_ble_eq_true rfl)) dX1_clip_38 ⟨Nat.zero_le _, Nat.zero_le _⟩) (fun r4 u4 H locs hw4 hP hD hS => ?_)
        rcases hw4 with ⟨rfl, hk4, hu4⟩ | ⟨rfl, hk4⟩
        · skip
          replace hP : va_P D vwCl [(p0, .inr (1, [.int (nI wd), .int (nI hg), .ref aC, .ref aT, .ref aS, .ref rP, .ref rO, .ref rE])), (aS, .inl (cI, 4, .inl sd)), (rP, .inr (0, [.ref apx, .ref apy, .int (nI n)])), (apx, .inl (cI, cap, .inl xs)), (apy, .inl (cI, cap, .inl ys)), (rO, .inr (0, [.ref aox, .ref aoy, .int (nI u3.1)])), (aox, .inl (cI, cap, .inl u3.2.1)), (aoy, .inl (cI, cap, .inl u3.2.2)), (rE, .inr (0, [.ref aex, .ref aey, .int (nI u4.1)])), (aex, .inl (cI, cap, .inl u4.2.1)), (aey, .inl (cI, cap, .inl u4.2.2))] H := hP.sub [3, 4, 0, 1, 2, 5, 6, 7, 8, 9, 10] rfl
          replace hD : va_D A [(p0, .inr (1, [.int (nI wd), .int (nI hg), .ref aC, .ref aT, .ref aS, .ref rP, .ref rO, .ref rE])), (aS, .inl (cI, 4, .inl sd)), (rP, .inr (0, [.ref apx, .ref apy, .int (nI n)])), (apx, .inl (cI, cap, .inl xs)), (apy, .inl (cI, cap, .inl ys)), (rO, .inr (0, [.ref aox, .ref aoy, .int (nI u3.1)])), (aox, .inl (cI, cap, .inl u3.2.1)), (aoy, .inl (cI, cap, .inl u3.2.2)), (rE, .inr (0, [.ref aex, .ref aey, .int (nI u4.1)])), (aex, .inl (cI, cap, .inl u4.2.1)), (aey, .inl (cI, cap, .inl u4.2.2))] := hD.sub [3, 4, 0, 1, 2, 5, 6, 7, 8, 9, 10] (by decide) rfl
          obtain ⟨M4, hM4, hn4, ho4, hl4⟩ := ps_list (q := 3) hM3 hn3 ho3 hk4 hu4
          refine lv_if_ne (tgt := 46) hx hb dX1_clip_41 (by decide) (fun c41 => ?_) (fun c41 => absurd c41 (by decide))
          refine lv_aload_n hx hb dX1_clip_46 rfl (lv_at hl 0 rfl) ?_
          refine lv_astore_n (lv' := [(1, .ref rE), (3, .ref rE), (2, .int 3), (0, .ref p0)]) hx hb dX1_clip_47 rfl hl (by decide) rfl (fun ls hl => ?_)
          refine lv_iinc (v := 4) (lv' := [(2, .int 4), (1, .ref rE), (3, .ref rE), (0, .ref p0)]) hx hb dX1_clip_48 hl (k := 2) rfl (by decide) (by decide) rfl (fun ls hl => ?_)
          refine lv_goto (tgt := 7) hx hb dX1_clip_51 (by decide) ?_
          refine lv_iload_n hx hb dX1_clip_7 rfl (lv_at hl 0 rfl) ?_
          refine lv_aload_n hx hb dX1_clip_8 rfl (lv_at hl 3 rfl) ?_
          refine va_get (D := D) (ci := 1) (v := .ref aS) (C := RX1) (T := TX1) (N := 8) hx hb hts nX1_clip_X1 hown hK.1 hP 0 rfl rfl 4 (by decide) (hts (.fieldLink RX1 28 "PolygonFrame" "sides" "[I") (by decide +kernel)) (fun _ h9 => h9) rfl dX1_clip_9 ?_
          refine va_alen (v := 4) hx hb hK.1 hP 1 0 rfl rfl rfl dX1_clip_12 ?_
          refine lv_icmp_ge (tgt := 54) hx hb dX1_clip_13 (by decide) (fun c13 => ?_) (fun c13 => absurd (by decide) c13)
          refine lv_aload_n hx hb dX1_clip_54 rfl (lv_at hl 3 rfl) ?_
          refine lv_aload_n hx hb dX1_clip_55 rfl (lv_at hl 3 rfl) ?_
          refine va_get (D := D) (ci := 1) (v := .ref rP) (C := RX1) (T := TX1) (N := 8) hx hb hts nX1_clip_X1 hown hK.1 hP 0 rfl rfl 5 (by decide) (hts (.fieldLink RX1 36 "PolygonFrame" "polygon" "LPolygonFrame$Ring;") (by decide +kernel)) (fun _ h9 => h9) rfl dX1_clip_56 ?_
          refine va_put (D := D) (ci := 1) (v := .ref rP) (ty := .object "PolygonFrame$Ring") (C := RX1) (T := TX1) (N := 8) hx hb hts nX1_clip_X1 tyX1 tyX1_ok nmX1 hown hK.1 hP hD hS 0 rfl rfl 7 (by decide) (hts (.fieldLink RX1 43 "PolygonFrame" "evenPasses" "LPolygonFrame$Ring;") (by decide +kernel)) (fun _ h9 => h9) rfl (tyX1_ok 7 (by decide)) rfl rfl (Nat.le_of_ble_eq_true rfl) dX1_clip_59 (fun H locs hP hD hS => ?_)
          have hP : va_P D vwCl [(p0, .inr (1, [.int (nI wd), .int (nI hg), .ref aC, .ref aT, .ref aS, .ref rP, .ref rO, .ref rP])), (aS, .inl (cI, 4, .inl sd)), (rP, .inr (0, [.ref apx, .ref apy, .int (nI n)])), (apx, .inl (cI, cap, .inl xs)), (apy, .inl (cI, cap, .inl ys)), (rO, .inr (0, [.ref aox, .ref aoy, .int (nI u3.1)])), (aox, .inl (cI, cap, .inl u3.2.1)), (aoy, .inl (cI, cap, .inl u3.2.2)), (rE, .inr (0, [.ref aex, .ref aey, .int (nI u4.1)])), (aex, .inl (cI, cap, .inl u4.2.1)), (aey, .inl (cI, cap, .inl u4.2.2))] H := hP
          have hD : va_D A [(p0, .inr (1, [.int (nI wd), .int (nI hg), .ref aC, .ref aT, .ref aS, .ref rP, .ref rO, .ref rP])), (aS, .inl (cI, 4, .inl sd)), (rP, .inr (0, [.ref apx, .ref apy, .int (nI n)])), (apx, .inl (cI, cap, .inl xs)), (apy, .inl (cI, cap, .inl ys)), (rO, .inr (0, [.ref aox, .ref aoy, .int (nI u3.1)])), (aox, .inl (cI, cap, .inl u3.2.1)), (aoy, .inl (cI, cap, .inl u3.2.2)), (rE, .inr (0, [.ref aex, .ref aey, .int (nI u4.1)])), (aex, .inl (cI, cap, .inl u4.2.1)), (aey, .inl (cI, cap, .inl u4.2.2))] := hD
          refine lv_aload_n hx hb dX1_clip_62 rfl (lv_at hl 3 rfl) ?_
          refine lv_aload_n hx hb dX1_clip_63 rfl (lv_at hl 1 rfl) ?_
          refine va_put (D := D) (ci := 1) (v := .ref rE) (ty := .object "PolygonFrame$Ring") (C := RX1) (T := TX1) (N := 8) hx hb hts nX1_clip_X1 tyX1 tyX1_ok nmX1 hown hK.1 hP hD hS 0 rfl rfl 5 (by decide) (hts (.fieldLink RX1 36 "PolygonFrame" "polygon" "LPolygonFrame$Ring;") (by decide +kernel)) (fun _ h9 => h9) rfl (tyX1_ok 5 (by decide)) rfl rfl (Nat.le_of_ble_eq_true rfl) dX1_clip_64 (fun H locs hP hD hS => ?_)
          have hP : va_P D vwCl [(p0, .inr (1, [.int (nI wd), .int (nI hg), .ref aC, .ref aT, .ref aS, .ref rE, .ref rO, .ref rP])), (aS, .inl (cI, 4, .inl sd)), (rP, .inr (0, [.ref apx, .ref apy, .int (nI n)])), (apx, .inl (cI, cap, .inl xs)), (apy, .inl (cI, cap, .inl ys)), (rO, .inr (0, [.ref aox, .ref aoy, .int (nI u3.1)])), (aox, .inl (cI, cap, .inl u3.2.1)), (aoy, .inl (cI, cap, .inl u3.2.2)), (rE, .inr (0, [.ref aex, .ref aey, .int (nI u4.1)])), (aex, .inl (cI, cap, .inl u4.2.1)), (aey, .inl (cI, cap, .inl u4.2.2))] H := hP
          have hD : va_D A [(p0, .inr (1, [.int (nI wd), .int (nI hg), .ref aC, .ref aT, .ref aS, .ref rE, .ref rO, .ref rP])), (aS, .inl (cI, 4, .inl sd)), (rP, .inr (0, [.ref apx, .ref apy, .int (nI n)])), (apx, .inl (cI, cap, .inl xs)), (apy, .inl (cI, cap, .inl ys)), (rO, .inr (0, [.ref aox, .ref aoy, .int (nI u3.1)])), (aox, .inl (cI, cap, .inl u3.2.1)), (aoy, .inl (cI, cap, .inl u3.2.2)), (rE, .inr (0, [.ref aex, .ref aey, .int (nI u4.1)])), (aex, .inl (cI, cap, .inl u4.2.1)), (aey, .inl (cI, cap, .inl u4.2.2))] := hD
          refine lv_aload_n hx hb dX1_clip_67 rfl (lv_at hl 3 rfl) ?_
          refine va_get (D := D) (ci := 1) (v := .ref rE) (C := RX1) (T := TX1) (N := 8) hx hb hts nX1_clip_X1 hown hK.1 hP 0 rfl rfl 5 (by decide) (hts (.fieldLink RX1 36 "PolygonFrame" "polygon" "LPolygonFrame$Ring;") (by decide +kernel)) (fun _ h9 => h9) rfl dX1_clip_68 ?_
          refine va_getN (D := D) (ci := 0) (v := .int (nI u4.1)) (C := RX0) (T := TX0) (N := 3) hx hb hts nX1_clip_X0 hown hK.1 hP 8 rfl rfl 2 (by decide) (hK.2.count _) (fun _ h9 => h9) rfl dX1_clip_71 ?_
          have hP9 := hP.sub (ws' := [(p0, .inr (1, [.int (nI wd), .int (nI hg), .ref aC, .ref aT, .ref aS, .ref rE, .ref rO, .ref rP])), (aS, .inl (cI, 4, .inl sd)), (rE, .inr (0, [.ref aex, .ref aey, .int (nI u4.1)])), (aex, .inl (cI, cap, .inl u4.2.1)), (aey, .inl (cI, cap, .inl u4.2.2)), (rO, .inr (0, [.ref aox, .ref aoy, .int (nI u3.1)])), (aox, .inl (cI, cap, .inl u3.2.1)), (aoy, .inl (cI, cap, .inl u3.2.2)), (rP, .inr (0, [.ref apx, .ref apy, .int (nI n)])), (apx, .inl (cI, cap, .inl xs)), (apy, .inl (cI, cap, .inl ys))]) [0, 1, 8, 9, 10, 5, 6, 7, 2, 3, 4] rfl
          have hD9 := hD.sub (ws' := [(p0, .inr (1, [.int (nI wd), .int (nI hg), .ref aC, .ref aT, .ref aS, .ref rE, .ref rO, .ref rP])), (aS, .inl (cI, 4, .inl sd)), (rE, .inr (0, [.ref aex, .ref aey, .int (nI u4.1)])), (aex, .inl (cI, cap, .inl u4.2.1)), (aey, .inl (cI, cap, .inl u4.2.2)), (rO, .inr (0, [.ref aox, .ref aoy, .int (nI u3.1)])), (aox, .inl (cI, cap, .inl u3.2.1)), (aoy, .inl (cI, cap, .inl u3.2.2)), (rP, .inr (0, [.ref apx, .ref apy, .int (nI n)])), (apx, .inl (cI, cap, .inl xs)), (apy, .inl (cI, cap, .inl ys))]) [0, 1, 8, 9, 10, 5, 6, 7, 2, 3, 4] (by decide) rfl
          exact W.iret (v := (nI u4.1)) hx hb hr (fun t ht hW => ⟨⟨(nI u4.1), ((rE, aex, aey), (rP, apx, apy), u4, ((nI u3.1), u3.2.1, u3.2.2), ((nI n), xs, ys)), rfl, Or.inl ⟨M4, hM4, congrArg nI hn4, hn4, ho4, hl4⟩, by rw [ht]; exact hP9, by rw [hAe]; exact hD9⟩, hS.F ht⟩) hS.2.2 dX1_clip_74
        · skip
          replace hP : va_P D vwCl [(p0, .inr (1, [.int (nI wd), .int (nI hg), .ref aC, .ref aT, .ref aS, .ref rP, .ref rO, .ref rE])), (aS, .inl (cI, 4, .inl sd)), (rP, .inr (0, [.ref apx, .ref apy, .int (nI n)])), (apx, .inl (cI, cap, .inl xs)), (apy, .inl (cI, cap, .inl ys)), (rO, .inr (0, [.ref aox, .ref aoy, .int (nI u3.1)])), (aox, .inl (cI, cap, .inl u3.2.1)), (aoy, .inl (cI, cap, .inl u3.2.2)), (rE, .inr (0, [.ref aex, .ref aey, .int (nI u4.1)])), (aex, .inl (cI, cap, .inl u4.2.1)), (aey, .inl (cI, cap, .inl u4.2.2))] H := hP.sub [3, 4, 0, 1, 2, 5, 6, 7, 8, 9, 10] rfl
          replace hD : va_D A [(p0, .inr (1, [.int (nI wd), .int (nI hg), .ref aC, .ref aT, .ref aS, .ref rP, .ref rO, .ref rE])), (aS, .inl (cI, 4, .inl sd)), (rP, .inr (0, [.ref apx, .ref apy, .int (nI n)])), (apx, .inl (cI, cap, .inl xs)), (apy, .inl (cI, cap, .inl ys)), (rO, .inr (0, [.ref aox, .ref aoy, .int (nI u3.1)])), (aox, .inl (cI, cap, .inl u3.2.1)), (aoy, .inl (cI, cap, .inl u3.2.2)), (rE, .inr (0, [.ref aex, .ref aey, .int (nI u4.1)])), (aex, .inl (cI, cap, .inl u4.2.1)), (aey, .inl (cI, cap, .inl u4.2.2))] := hD.sub [3, 4, 0, 1, 2, 5, 6, 7, 8, 9, 10] (by decide) rfl
          have hno := ps_none (q := 3) (by decide) hM3 hn3 ho3 hk4
          refine lv_if_ne (tgt := 46) hx hb dX1_clip_41 (by decide) (fun c41 => absurd (by decide) c41) (fun c41 => ?_)
          refine lv_iconst (v := (-1)) hx hb dX1_clip_44 (by decide) ?_
          exact W.iret (v := (-1)) hx hb hr (fun t ht hW => ⟨⟨(-1), ((rP, apx, apy), (rE, aex, aey), (n, xs, ys), ((nI u3.1), u3.2.1, u3.2.2), ((nI u4.1), u4.2.1, u4.2.2)), rfl, Or.inr ⟨hno, rfl, rfl⟩, by rw [ht]; exact hP, by rw [hAe]; exact hD⟩, hS.F ht⟩) hS.2.2 dX1_clip_45
      · skip
        replace hP : va_P D vwCl [(p0, .inr (1, [.int (nI wd), .int (nI hg), .ref aC, .ref aT, .ref aS, .ref rP, .ref rO, .ref rE])), (aS, .inl (cI, 4, .inl sd)), (rP, .inr (0, [.ref apx, .ref apy, .int (nI n)])), (apx, .inl (cI, cap, .inl xs)), (apy, .inl (cI, cap, .inl ys)), (rO, .inr (0, [.ref aox, .ref aoy, .int (nI u3.1)])), (aox, .inl (cI, cap, .inl u3.2.1)), (aoy, .inl (cI, cap, .inl u3.2.2)), (rE, .inr (0, [.ref aex, .ref aey, .int (nI u2.1)])), (aex, .inl (cI, cap, .inl u2.2.1)), (aey, .inl (cI, cap, .inl u2.2.2))] H := hP.sub [3, 4, 0, 1, 2, 8, 9, 10, 5, 6, 7] rfl
        replace hD : va_D A [(p0, .inr (1, [.int (nI wd), .int (nI hg), .ref aC, .ref aT, .ref aS, .ref rP, .ref rO, .ref rE])), (aS, .inl (cI, 4, .inl sd)), (rP, .inr (0, [.ref apx, .ref apy, .int (nI n)])), (apx, .inl (cI, cap, .inl xs)), (apy, .inl (cI, cap, .inl ys)), (rO, .inr (0, [.ref aox, .ref aoy, .int (nI u3.1)])), (aox, .inl (cI, cap, .inl u3.2.1)), (aoy, .inl (cI, cap, .inl u3.2.2)), (rE, .inr (0, [.ref aex, .ref aey, .int (nI u2.1)])), (aex, .inl (cI, cap, .inl u2.2.1)), (aey, .inl (cI, cap, .inl u2.2.2))] := hD.sub [3, 4, 0, 1, 2, 8, 9, 10, 5, 6, 7] (by decide) rfl
        have hno := ps_none (q := 2) (by decide) hM2 hn2 ho2 hk3
        refine lv_if_ne (tgt := 46) hx hb dX1_clip_41 (by decide) (fun c41 => absurd (by decide) c41) (fun c41 => ?_)
        refine lv_iconst (v := (-1)) hx hb dX1_clip_44 (by decide) ?_
        exact W.iret (v := (-1)) hx hb hr (fun t ht hW => ⟨⟨(-1), ((rP, apx, apy), (rE, aex, aey), (n, xs, ys), ((nI u3.1), u3.2.1, u3.2.2), ((nI u2.1), u2.2.1, u2.2.2)), rfl, Or.inr ⟨hno, rfl, rfl⟩, by rw [ht]; exact hP, by rw [hAe]; exact hD⟩, hS.F ht⟩) hS.2.2 dX1_clip_45
    · skip
      replace hP : va_P D vwCl [(p0, .inr (1, [.int (nI wd), .int (nI hg), .ref aC, .ref aT, .ref aS, .ref rP, .ref rO, .ref rE])), (aS, .inl (cI, 4, .inl sd)), (rP, .inr (0, [.ref apx, .ref apy, .int (nI n)])), (apx, .inl (cI, cap, .inl xs)), (apy, .inl (cI, cap, .inl ys)), (rO, .inr (0, [.ref aox, .ref aoy, .int (nI u1.1)])), (aox, .inl (cI, cap, .inl u1.2.1)), (aoy, .inl (cI, cap, .inl u1.2.2)), (rE, .inr (0, [.ref aex, .ref aey, .int (nI u2.1)])), (aex, .inl (cI, cap, .inl u2.2.1)), (aey, .inl (cI, cap, .inl u2.2.2))] H := hP.sub [3, 4, 0, 1, 2, 5, 6, 7, 8, 9, 10] rfl
      replace hD : va_D A [(p0, .inr (1, [.int (nI wd), .int (nI hg), .ref aC, .ref aT, .ref aS, .ref rP, .ref rO, .ref rE])), (aS, .inl (cI, 4, .inl sd)), (rP, .inr (0, [.ref apx, .ref apy, .int (nI n)])), (apx, .inl (cI, cap, .inl xs)), (apy, .inl (cI, cap, .inl ys)), (rO, .inr (0, [.ref aox, .ref aoy, .int (nI u1.1)])), (aox, .inl (cI, cap, .inl u1.2.1)), (aoy, .inl (cI, cap, .inl u1.2.2)), (rE, .inr (0, [.ref aex, .ref aey, .int (nI u2.1)])), (aex, .inl (cI, cap, .inl u2.2.1)), (aey, .inl (cI, cap, .inl u2.2.2))] := hD.sub [3, 4, 0, 1, 2, 5, 6, 7, 8, 9, 10] (by decide) rfl
      have hno := ps_none (q := 1) (by decide) hM1 hn1 ho1 hk2
      refine lv_if_ne (tgt := 46) hx hb dX1_clip_41 (by decide) (fun c41 => absurd (by decide) c41) (fun c41 => ?_)
      refine lv_iconst (v := (-1)) hx hb dX1_clip_44 (by decide) ?_
      exact W.iret (v := (-1)) hx hb hr (fun t ht hW => ⟨⟨(-1), ((rP, apx, apy), (rE, aex, aey), (n, xs, ys), ((nI u1.1), u1.2.1, u1.2.2), ((nI u2.1), u2.2.1, u2.2.2)), rfl, Or.inr ⟨hno, rfl, rfl⟩, by rw [ht]; exact hP, by rw [hAe]; exact hD⟩, hS.F ht⟩) hS.2.2 dX1_clip_45
  · skip
    replace hP : va_P D vwCl [(p0, .inr (1, [.int (nI wd), .int (nI hg), .ref aC, .ref aT, .ref aS, .ref rP, .ref rO, .ref rE])), (aS, .inl (cI, 4, .inl sd)), (rP, .inr (0, [.ref apx, .ref apy, .int (nI n)])), (apx, .inl (cI, cap, .inl xs)), (apy, .inl (cI, cap, .inl ys)), (rO, .inr (0, [.ref aox, .ref aoy, .int (nI u1.1)])), (aox, .inl (cI, cap, .inl u1.2.1)), (aoy, .inl (cI, cap, .inl u1.2.2)), (rE, .inr (0, [.ref aex, .ref aey, .int ce])), (aex, .inl (cI, cap, .inl ex)), (aey, .inl (cI, cap, .inl ey))] H := hP.sub [3, 4, 5, 6, 7, 8, 9, 10, 0, 1, 2] rfl
    replace hD : va_D A [(p0, .inr (1, [.int (nI wd), .int (nI hg), .ref aC, .ref aT, .ref aS, .ref rP, .ref rO, .ref rE])), (aS, .inl (cI, 4, .inl sd)), (rP, .inr (0, [.ref apx, .ref apy, .int (nI n)])), (apx, .inl (cI, cap, .inl xs)), (apy, .inl (cI, cap, .inl ys)), (rO, .inr (0, [.ref aox, .ref aoy, .int (nI u1.1)])), (aox, .inl (cI, cap, .inl u1.2.1)), (aoy, .inl (cI, cap, .inl u1.2.2)), (rE, .inr (0, [.ref aex, .ref aey, .int ce])), (aex, .inl (cI, cap, .inl ex)), (aey, .inl (cI, cap, .inl ey))] := hD.sub [3, 4, 5, 6, 7, 8, 9, 10, 0, 1, 2] (by decide) rfl
    have hno := ps_none (q := 0) (by decide) hM0 hL ho hk1
    refine lv_if_ne (tgt := 46) hx hb dX1_clip_41 (by decide) (fun c41 => absurd (by decide) c41) (fun c41 => ?_)
    refine lv_iconst (v := (-1)) hx hb dX1_clip_44 (by decide) ?_
    exact W.iret (v := (-1)) hx hb hr (fun t ht hW => ⟨⟨(-1), ((rP, apx, apy), (rE, aex, aey), (n, xs, ys), ((nI u1.1), u1.2.1, u1.2.2), (ce, ex, ey)), rfl, Or.inr ⟨hno, rfl, rfl⟩, by rw [ht]; exact hP, by rw [hAe]; exact hD⟩, hS.F ht⟩) hS.2.2 dX1_clip_45
