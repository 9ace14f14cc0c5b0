/-! PASSES: the reference's cut and pass; the class's pass, by x and by y. -/
/-- the cut of (a, b) and (c, d) with side q at s -/
def ctC (q : Nat) (s a b c d : Int32) : Int32 × Int32 := if q < 2 then (s, caI a b c d s) else (caI b a d c s, s)
theorem nX2_cut_X2 : ∀ w ∈ wsX20, w ∈ wsX2_cut := fun w h => List.mem_cons_of_mem _ (List.mem_append_right _ h)
set_option maxHeartbeats 4000000 in
set_option maxRecDepth 100000 in
theorem kX2_cut (l : Launch) (D : va_G) (cI cZ : ClassId) (sz : Nat) (m0 aP ax ay afx afy atx aty wd hg cap n : Nat) (fr : Int32) (sd : Nat → Int32) (u : Nat × (Nat → Int32) × (Nat → Int32)) (q : Nat) (a0 b0 c0 d0 : Int32) (hq : q < 4) (h0 : q < 2 → ¬ c0 - a0 = 0) (h1 : 2 ≤ q → ¬ d0 - b0 = 0) (hu : u.1 ≤ 1000) (hc : cap ≤ 60) : Met l yX2_cut wsX2_cut ({ frames := 1, cells := 0, slots := 0, locals := 40 }) (va_Pc [.ref m0, .int (nI q), .int a0, .int b0, .int c0, .int d0] (wrP D cI cZ sz [(m0, .inr (2, [.int (nI wd), .int (nI hg), .int (nI cap), .ref aP, .ref ax, .ref ay, .int (nI n), .ref afx, .ref afy, .ref atx, .ref aty, .int fr, .int (nI u.1), .int (sd 0), .int (sd 1), .int (sd 2), .int (sd 3)])), (atx, .inl (cI, 60, .inl u.2.1)), (aty, .inl (cI, 60, .inl u.2.2))])) (va_Qv (S := Nat × (Nat → Int32) × (Nat → Int32)) (fun z => z = adP cap u (ctC q (sd q) a0 b0 c0 d0).1 (ctC q (sd q) a0 b0 c0 d0).2) (wrB D [(m0, .inr (2, [.int (nI wd), .int (nI hg), .int (nI cap), .ref aP, .ref ax, .ref ay, .int (nI n), .ref afx, .ref afy, .ref atx, .ref aty, .int fr, .int (nI u.1), .int (sd 0), .int (sd 1), .int (sd 2), .int (sd 3)])), (atx, .inl (cI, 60, .inl u.2.1)), (aty, .inl (cI, 60, .inl u.2.2))] sz (fun z => [(m0, .inr (2, [.int (nI wd), .int (nI hg), .int (nI cap), .ref aP, .ref ax, .ref ay, .int (nI n), .ref afx, .ref afy, .ref atx, .ref aty, .int fr, .int (nI z.1), .int (sd 0), .int (sd 1), .int (sd 2), .int (sd 3)])), (atx, .inl (cI, 60, .inl z.2.1)), (aty, .inl (cI, 60, .inl z.2.2))])) (va_A [(m0, .inr (2, [.int (nI wd), .int (nI hg), .int (nI cap), .ref aP, .ref ax, .ref ay, .int (nI n), .ref afx, .ref afy, .ref atx, .ref aty, .int fr, .int (nI u.1), .int (sd 0), .int (sd 1), .int (sd 2), .int (sd 3)])), (atx, .inl (cI, 60, .inl u.2.1)), (aty, .inl (cI, 60, .inl u.2.2))] sz)) 0 0 (va_A [(m0, .inr (2, [.int (nI wd), .int (nI hg), .int (nI cap), .ref aP, .ref ax, .ref ay, .int (nI n), .ref afx, .ref afy, .ref atx, .ref aty, .int fr, .int (nI u.1), .int (sd 0), .int (sd 1), .int (sd 2), .int (sd 3)])), (atx, .inl (cI, 60, .inl u.2.1)), (aty, .inl (cI, 60, .inl u.2.2))] sz) := by
  refine Met.ofW (cc := cX2_cut) (maxL := 7) (ret := none) (by decide) rfl ?_
  intro p e s m args below meth c s₁ B hml hv
  obtain ⟨rfl, hsz, hP, hK, hD0⟩ := hv
  have hx := B.exec
  have hb := B.bytes
  have hr := B.returns
  have hts := atoms_spec (ws := wsX2_cut) B.pre
  have hown : s.vm.findClass RX2 = some m.cls := findClass_of_methodNamed B.named
  have hlocks := B.notSynchronized
  subst hsz
  have hD := hD0.self (sz := s.heap.size)
  generalize hAe : va_A [(m0, .inr (2, [.int (nI wd), .int (nI hg), .int (nI cap), .ref aP, .ref ax, .ref ay, .int (nI n), .ref afx, .ref afy, .ref atx, .ref aty, .int fr, .int (nI u.1), .int (sd 0), .int (sd 1), .int (sd 2), .int (sd 3)])), (atx, .inl (cI, 60, .inl u.2.1)), (aty, .inl (cI, 60, .inl u.2.2))] s.heap.size = A at hD ⊢
  have hA : ∀ q : Nat, s.heap.size ≤ q → A q := fun q h => by rw [← hAe]; exact Or.inr h
  have hS : va_S A s.heap s.heap [] := va_S.rf
  have hP : va_P D vwCl [(m0, .inr (2, [.int (nI wd), .int (nI hg), .int (nI cap), .ref aP, .ref ax, .ref ay, .int (nI n), .ref afx, .ref afy, .ref atx, .ref aty, .int fr, .int (nI u.1), .int (sd 0), .int (sd 1), .int (sd 2), .int (sd 3)])), (atx, .inl (cI, 60, .inl u.2.1)), (aty, .inl (cI, 60, .inl u.2.2))] s.heap := hP
  have hl := lv_entry ([.ref m0, .int (nI q), .int a0, .int b0, .int c0, .int d0]) (n := 7) (Nat.le_of_ble_eq_true rfl)
  rw [lg_entry_eq]
  generalize (lg_sl ([.ref m0, .int (nI q), .int a0, .int b0, .int c0, .int d0]) ++ List.replicate (7 - (lg_sl ([.ref m0, .int (nI q), .int a0, .int b0, .int c0, .int d0])).length) Slot.unset).toArray = ls at hl ⊢
  have hl : lv_has ls 7 [(0, .ref m0), (1, .int (nI q)), (2, .int a0), (3, .int b0), (4, .int c0), (5, .int d0)] := hl
  refine lv_iload_n hx hb dX2_cut_0 rfl (lv_at hl 1 rfl) ?_
  refine lv_iconst (v := 2) hx hb dX2_cut_1 (by decide) ?_
  refine lv_icmp_ge (tgt := 49) hx hb dX2_cut_2 (by decide) (fun c2 => ?_) (fun c2 => ?_)
  · skip
    refine lv_iload_n hx hb dX2_cut_49 rfl (lv_at hl 1 rfl) ?_
    refine lv_iconst (v := 2) hx hb dX2_cut_50 (by decide) ?_
    refine lv_icmp_ne (tgt := 61) hx hb dX2_cut_51 (by decide) (fun c51 => ?_) (fun c51 => ?_)
    · skip
      have hq2 : 2 ≤ q := (nI_leI (a := 2) (by omega) (by omega)).mp c2
      obtain rfl : q = 3 := Nat.le_antisymm (by omega) (Nat.lt_of_le_of_ne hq2 (fun h => c51 (by rw [← h]; rfl)))
      refine lv_aload_n hx hb dX2_cut_61 rfl (lv_at hl 0 rfl) ?_
      refine va_get (D := D) (ci := 2) (v := .int (sd 3)) (C := RX2) (T := TX2) (N := 17) hx hb hts nX2_cut_X2 hown hK.1 hP 0 rfl rfl 16 (by decide) (hts (.fieldLink RX2 41 "PolygonFrameModel" "top" "I") (by decide +kernel)) (fun _ h9 => h9) rfl dX2_cut_62 ?_
      refine lv_istore (lv' := [(6, .int (sd 3)), (0, .ref m0), (1, .int (nI 3)), (2, .int a0), (3, .int b0), (4, .int c0), (5, .int d0)]) hx hb dX2_cut_65 hl (by decide) rfl (fun ls hl => ?_)
      refine lv_aload_n hx hb dX2_cut_67 rfl (lv_at hl 1 rfl) ?_
      refine lv_iload_n hx hb dX2_cut_68 rfl (lv_at hl 3 rfl) ?_
      refine lv_iload hx hb dX2_cut_69 (lv_at hl 5 rfl) ?_
      refine lv_iload_n hx hb dX2_cut_71 rfl (lv_at hl 3 rfl) ?_
      refine lv_isub hx hb dX2_cut_72 ?_
      refine lv_iload hx hb dX2_cut_73 (lv_at hl 0 rfl) ?_
      refine lv_iload_n hx hb dX2_cut_75 rfl (lv_at hl 4 rfl) ?_
      refine lv_isub hx hb dX2_cut_76 ?_
      refine lv_imul hx hb dX2_cut_77 ?_
      refine lv_iload hx hb dX2_cut_78 (lv_at hl 6 rfl) ?_
      refine lv_iload_n hx hb dX2_cut_80 rfl (lv_at hl 4 rfl) ?_
      refine lv_isub hx hb dX2_cut_81 ?_
      refine rd_i (va_runS (As := [.int ((c0 - a0) * ((sd 3) - b0)), .int (d0 - b0)]) ⟨hx, hb, hml, hown, hts⟩ (kX2_quotient l D cI cZ ((c0 - a0) * ((sd 3) - b0)) (d0 - b0) (h1 (by decide))) (va_cwS 2 hts gX2_cut_X2_quotient rfl rfl rfl (by decide +kernel) ⟨Nat.le_of_ble_eq_true rfl, Nat.le_of_ble_eq_true rfl⟩) rd_pre0 rfl rfl hl.1 rfl (lv_room (Nat.le_of_ble_eq_true rfl)) dX2_cut_82 ⟨Nat.zero_le _, Nat.zero_le _⟩) ?_
      refine q_eq (qt_fl _ _) ?_
      refine lv_iadd hx hb dX2_cut_85 ?_
      refine lv_iload hx hb dX2_cut_86 (lv_at hl 0 rfl) ?_
      refine wr_v (wr := []) hP hD hS hA [0, 1, 2] [] rfl rfl (by decide) (by decide) (va_runV (As := [.int (a0 + (fl_i ((c0 - a0) * ((sd 3) - b0)) (d0 - b0))), .int (sd 3)]) ⟨hx, hb, hml, hown, hts⟩ (kX2_add l D cI cZ s.heap.size m0 aP ax ay afx afy atx aty wd hg cap n fr (sd 0) (sd 1) (sd 2) (sd 3) u (a0 + (fl_i ((c0 - a0) * ((sd 3) - b0)) (d0 - b0))) (sd 3) hu hc) (cwV 2 hts gX2_cut_X2_add rfl rfl rfl (by decide +kernel) ⟨Nat.le_of_ble_eq_true rfl, Nat.le_of_ble_eq_true rfl⟩) (wr_preV (ci := 2) (q0 := 0) (hP.sub [0, 1, 2] rfl) hK (hD.sub [0, 1, 2] (by decide) rfl) rfl rfl) rfl rfl hl.1 rfl (lv_room (Nat.le_of_ble_eq_true rfl)) dX2_cut_88 ⟨Nat.zero_le _, Nat.zero_le _⟩) (fun u1 H locs hw1 hP hD hS => ?_)
      replace hP : va_P D vwCl [(m0, .inr (2, [.int (nI wd), .int (nI hg), .int (nI cap), .ref aP, .ref ax, .ref ay, .int (nI n), .ref afx, .ref afy, .ref atx, .ref aty, .int fr, .int (nI u1.1), .int (sd 0), .int (sd 1), .int (sd 2), .int (sd 3)])), (atx, .inl (cI, 60, .inl u1.2.1)), (aty, .inl (cI, 60, .inl u1.2.2))] H := hP.sub [0, 1, 2] rfl
      replace hD : va_D A [(m0, .inr (2, [.int (nI wd), .int (nI hg), .int (nI cap), .ref aP, .ref ax, .ref ay, .int (nI n), .ref afx, .ref afy, .ref atx, .ref aty, .int fr, .int (nI u1.1), .int (sd 0), .int (sd 1), .int (sd 2), .int (sd 3)])), (atx, .inl (cI, 60, .inl u1.2.1)), (aty, .inl (cI, 60, .inl u1.2.2))] := hD.sub [0, 1, 2] (by decide) rfl
      exact W.vret hx hb hr (fun t ht hW => ⟨⟨u1, rfl, hw1, by rw [ht]; exact hP, by rw [hAe]; exact hD⟩, hS.F ht⟩) hS.2.2 dX2_cut_91
    · skip
      have hq2 : 2 ≤ q := (nI_leI (a := 2) (by omega) (by omega)).mp c2
      obtain rfl : q = 2 := (nI_eq (b := 2) (by omega) (by omega)).mp c51
      refine lv_aload_n hx hb dX2_cut_54 rfl (lv_at hl 0 rfl) ?_
      refine va_get (D := D) (ci := 2) (v := .int (sd 2)) (C := RX2) (T := TX2) (N := 17) hx hb hts nX2_cut_X2 hown hK.1 hP 0 rfl rfl 15 (by decide) (hts (.fieldLink RX2 38 "PolygonFrameModel" "low" "I") (by decide +kernel)) (fun _ h9 => h9) rfl dX2_cut_55 ?_
      refine lv_goto (tgt := 65) hx hb dX2_cut_58 (by decide) ?_
      refine lv_istore (lv' := [(6, .int (sd 2)), (0, .ref m0), (1, .int (nI 2)), (2, .int a0), (3, .int b0), (4, .int c0), (5, .int d0)]) hx hb dX2_cut_65 hl (by decide) rfl (fun ls hl => ?_)
      refine lv_aload_n hx hb dX2_cut_67 rfl (lv_at hl 1 rfl) ?_
      refine lv_iload_n hx hb dX2_cut_68 rfl (lv_at hl 3 rfl) ?_
      refine lv_iload hx hb dX2_cut_69 (lv_at hl 5 rfl) ?_
      refine lv_iload_n hx hb dX2_cut_71 rfl (lv_at hl 3 rfl) ?_
      refine lv_isub hx hb dX2_cut_72 ?_
      refine lv_iload hx hb dX2_cut_73 (lv_at hl 0 rfl) ?_
      refine lv_iload_n hx hb dX2_cut_75 rfl (lv_at hl 4 rfl) ?_
      refine lv_isub hx hb dX2_cut_76 ?_
      refine lv_imul hx hb dX2_cut_77 ?_
      refine lv_iload hx hb dX2_cut_78 (lv_at hl 6 rfl) ?_
      refine lv_iload_n hx hb dX2_cut_80 rfl (lv_at hl 4 rfl) ?_
      refine lv_isub hx hb dX2_cut_81 ?_
      refine rd_i (va_runS (As := [.int ((c0 - a0) * ((sd 2) - b0)), .int (d0 - b0)]) ⟨hx, hb, hml, hown, hts⟩ (kX2_quotient l D cI cZ ((c0 - a0) * ((sd 2) - b0)) (d0 - b0) (h1 (by decide))) (va_cwS 2 hts gX2_cut_X2_quotient rfl rfl rfl (by decide +kernel) ⟨Nat.le_of_ble_eq_true rfl, Nat.le_of_ble_eq_true rfl⟩) rd_pre0 rfl rfl hl.1 rfl (lv_room (Nat.le_of_ble_eq_true rfl)) dX2_cut_82 ⟨Nat.zero_le _, Nat.zero_le _⟩) ?_
      refine q_eq (qt_fl _ _) ?_
      refine lv_iadd hx hb dX2_cut_85 ?_
      refine lv_iload hx hb dX2_cut_86 (lv_at hl 0 rfl) ?_
      refine wr_v (wr := []) hP hD hS hA [0, 1, 2] [] rfl rfl (by decide) (by decide) (va_runV (As := [.int (a0 + (fl_i ((c0 - a0) * ((sd 2) - b0)) (d0 - b0))), .int (sd 2)]) ⟨hx, hb, hml, hown, hts⟩ (kX2_add l D cI cZ s.heap.size m0 aP ax ay afx afy atx aty wd hg cap n fr (sd 0) (sd 1) (sd 2) (sd 3) u (a0 + (fl_i ((c0 - a0) * ((sd 2) - b0)) (d0 - b0))) (sd 2) hu hc) (cwV 2 hts gX2_cut_X2_add rfl rfl rfl (by decide +kernel) ⟨Nat.le_of_ble_eq_true rfl, Nat.le_of_ble_eq_true rfl⟩) (wr_preV (ci := 2) (q0 := 0) (hP.sub [0, 1, 2] rfl) hK (hD.sub [0, 1, 2] (by decide) rfl) rfl rfl) rfl rfl hl.1 rfl (lv_room (Nat.le_of_ble_eq_true rfl)) dX2_cut_88 ⟨Nat.zero_le _, Nat.zero_le _⟩) (fun u1 H locs hw1 hP hD hS => ?_)
      replace hP : va_P D vwCl [(m0, .inr (2, [.int (nI wd), .int (nI hg), .int (nI cap), .ref aP, .ref ax, .ref ay, .int (nI n), .ref afx, .ref afy, .ref atx, .ref aty, .int fr, .int (nI u1.1), .int (sd 0), .int (sd 1), .int (sd 2), .int (sd 3)])), (atx, .inl (cI, 60, .inl u1.2.1)), (aty, .inl (cI, 60, .inl u1.2.2))] H := hP.sub [0, 1, 2] rfl
      replace hD : va_D A [(m0, .inr (2, [.int (nI wd), .int (nI hg), .int (nI cap), .ref aP, .ref ax, .ref ay, .int (nI n), .ref afx, .ref afy, .ref atx, .ref aty, .int fr, .int (nI u1.1), .int (sd 0), .int (sd 1), .int (sd 2), .int (sd 3)])), (atx, .inl (cI, 60, .inl u1.2.1)), (aty, .inl (cI, 60, .inl u1.2.2))] := hD.sub [0, 1, 2] (by decide) rfl
      exact W.vret hx hb hr (fun t ht hW => ⟨⟨u1, rfl, hw1, by rw [ht]; exact hP, by rw [hAe]; exact hD⟩, hS.F ht⟩) hS.2.2 dX2_cut_91
  · skip
    refine lv_iload_n hx hb dX2_cut_5 rfl (lv_at hl 1 rfl) ?_
    refine lv_if_ne (tgt := 16) hx hb dX2_cut_6 (by decide) (fun c6 => ?_) (fun c6 => ?_)
    · skip
      have hq2 : q < 2 := Nat.lt_of_not_le (fun h => c2 (nI_le (a := 2) h (by omega)))
      obtain rfl : q = 1 := Nat.le_antisymm (by omega) (Nat.pos_of_ne_zero (fun h => c6 (by rw [h]; rfl)))
      refine lv_aload_n hx hb dX2_cut_16 rfl (lv_at hl 0 rfl) ?_
      refine va_get (D := D) (ci := 2) (v := .int (sd 1)) (C := RX2) (T := TX2) (N := 17) hx hb hts nX2_cut_X2 hown hK.1 hP 0 rfl rfl 14 (by decide) (hts (.fieldLink RX2 35 "PolygonFrameModel" "right" "I") (by decide +kernel)) (fun _ h9 => h9) rfl dX2_cut_17 ?_
      refine lv_istore (lv' := [(6, .int (sd 1)), (0, .ref m0), (1, .int (nI 1)), (2, .int a0), (3, .int b0), (4, .int c0), (5, .int d0)]) hx hb dX2_cut_20 hl (by decide) rfl (fun ls hl => ?_)
      refine lv_aload_n hx hb dX2_cut_22 rfl (lv_at hl 1 rfl) ?_
      refine lv_iload hx hb dX2_cut_23 (lv_at hl 0 rfl) ?_
      refine lv_iload_n hx hb dX2_cut_25 rfl (lv_at hl 4 rfl) ?_
      refine lv_iload hx hb dX2_cut_26 (lv_at hl 6 rfl) ?_
      refine lv_iload_n hx hb dX2_cut_28 rfl (lv_at hl 4 rfl) ?_
      refine lv_isub hx hb dX2_cut_29 ?_
      refine lv_iload hx hb dX2_cut_30 (lv_at hl 0 rfl) ?_
      refine lv_iload_n hx hb dX2_cut_32 rfl (lv_at hl 3 rfl) ?_
      refine lv_isub hx hb dX2_cut_33 ?_
      refine lv_imul hx hb dX2_cut_34 ?_
      refine lv_iload hx hb dX2_cut_35 (lv_at hl 5 rfl) ?_
      refine lv_iload_n hx hb dX2_cut_37 rfl (lv_at hl 3 rfl) ?_
      refine lv_isub hx hb dX2_cut_38 ?_
      refine rd_i (va_runS (As := [.int ((d0 - b0) * ((sd 1) - a0)), .int (c0 - a0)]) ⟨hx, hb, hml, hown, hts⟩ (kX2_quotient l D cI cZ ((d0 - b0) * ((sd 1) - a0)) (c0 - a0) (h0 (by decide))) (va_cwS 2 hts gX2_cut_X2_quotient rfl rfl rfl (by decide +kernel) ⟨Nat.le_of_ble_eq_true rfl, Nat.le_of_ble_eq_true rfl⟩) rd_pre0 rfl rfl hl.1 rfl (lv_room (Nat.le_of_ble_eq_true rfl)) dX2_cut_39 ⟨Nat.zero_le _, Nat.zero_le _⟩) ?_
      refine q_eq (qt_fl _ _) ?_
      refine lv_iadd hx hb dX2_cut_42 ?_
      refine wr_v (wr := []) hP hD hS hA [0, 1, 2] [] rfl rfl (by decide) (by decide) (va_runV (As := [.int (sd 1), .int (b0 + (fl_i ((d0 - b0) * ((sd 1) - a0)) (c0 - a0)))]) ⟨hx, hb, hml, hown, hts⟩ (kX2_add l D cI cZ s.heap.size m0 aP ax ay afx afy atx aty wd hg cap n fr (sd 0) (sd 1) (sd 2) (sd 3) u (sd 1) (b0 + (fl_i ((d0 - b0) * ((sd 1) - a0)) (c0 - a0))) hu hc) (cwV 2 hts gX2_cut_X2_add rfl rfl rfl (by decide +kernel) ⟨Nat.le_of_ble_eq_true rfl, Nat.le_of_ble_eq_true rfl⟩) (wr_preV (ci := 2) (q0 := 0) (hP.sub [0, 1, 2] rfl) hK (hD.sub [0, 1, 2] (by decide) rfl) rfl rfl) rfl rfl hl.1 rfl (lv_room (Nat.le_of_ble_eq_true rfl)) dX2_cut_43 ⟨Nat.zero_le _, Nat.zero_le _⟩) (fun u1 H locs hw1 hP hD hS => ?_)
      replace hP : va_P D vwCl [(m0, .inr (2, [.int (nI wd), .int (nI hg), .int (nI cap), .ref aP, .ref ax, .ref ay, .int (nI n), .ref afx, .ref afy, .ref atx, .ref aty, .int fr, .int (nI u1.1), .int (sd 0), .int (sd 1), .int (sd 2), .int (sd 3)])), (atx, .inl (cI, 60, .inl u1.2.1)), (aty, .inl (cI, 60, .inl u1.2.2))] H := hP.sub [0, 1, 2] rfl
      replace hD : va_D A [(m0, .inr (2, [.int (nI wd), .int (nI hg), .int (nI cap), .ref aP, .ref ax, .ref ay, .int (nI n), .ref afx, .ref afy, .ref atx, .ref aty, .int fr, .int (nI u1.1), .int (sd 0), .int (sd 1), .int (sd 2), .int (sd 3)])), (atx, .inl (cI, 60, .inl u1.2.1)), (aty, .inl (cI, 60, .inl u1.2.2))] := hD.sub [0, 1, 2] (by decide) rfl
      refine lv_goto (tgt := 91) hx hb dX2_cut_46 (by decide) ?_
      exact W.vret hx hb hr (fun t ht hW => ⟨⟨u1, rfl, hw1, by rw [ht]; exact hP, by rw [hAe]; exact hD⟩, hS.F ht⟩) hS.2.2 dX2_cut_91
    · skip
      have hq2 : q < 2 := Nat.lt_of_not_le (fun h => c2 (nI_le (a := 2) h (by omega)))
      obtain rfl : q = 0 := (nI_eq (b := 0) (by omega) (by omega)).mp c6
      refine lv_aload_n hx hb dX2_cut_9 rfl (lv_at hl 0 rfl) ?_
      refine va_get (D := D) (ci := 2) (v := .int (sd 0)) (C := RX2) (T := TX2) (N := 17) hx hb hts nX2_cut_X2 hown hK.1 hP 0 rfl rfl 13 (by decide) (hts (.fieldLink RX2 31 "PolygonFrameModel" "left" "I") (by decide +kernel)) (fun _ h9 => h9) rfl dX2_cut_10 ?_
      refine lv_goto (tgt := 20) hx hb dX2_cut_13 (by decide) ?_
      refine lv_istore (lv' := [(6, .int (sd 0)), (0, .ref m0), (1, .int (nI 0)), (2, .int a0), (3, .int b0), (4, .int c0), (5, .int d0)]) hx hb dX2_cut_20 hl (by decide) rfl (fun ls hl => ?_)
      refine lv_aload_n hx hb dX2_cut_22 rfl (lv_at hl 1 rfl) ?_
      refine lv_iload hx hb dX2_cut_23 (lv_at hl 0 rfl) ?_
      refine lv_iload_n hx hb dX2_cut_25 rfl (lv_at hl 4 rfl) ?_
      refine lv_iload hx hb dX2_cut_26 (lv_at hl 6 rfl) ?_
      refine lv_iload_n hx hb dX2_cut_28 rfl (lv_at hl 4 rfl) ?_
      refine lv_isub hx hb dX2_cut_29 ?_
      refine lv_iload hx hb dX2_cut_30 (lv_at hl 0 rfl) ?_
      refine lv_iload_n hx hb dX2_cut_32 rfl (lv_at hl 3 rfl) ?_
      refine lv_isub hx hb dX2_cut_33 ?_
      refine lv_imul hx hb dX2_cut_34 ?_
      refine lv_iload hx hb dX2_cut_35 (lv_at hl 5 rfl) ?_
      refine lv_iload_n hx hb dX2_cut_37 rfl (lv_at hl 3 rfl) ?_
      refine lv_isub hx hb dX2_cut_38 ?_
      refine rd_i (va_runS (As := [.int ((d0 - b0) * ((sd 0) - a0)), .int (c0 - a0)]) ⟨hx, hb, hml, hown, hts⟩ (kX2_quotient l D cI cZ ((d0 - b0) * ((sd 0) - a0)) (c0 - a0) (h0 (by decide))) (va_cwS 2 hts gX2_cut_X2_quotient rfl rfl rfl (by decide +kernel) ⟨Nat.le_of_ble_eq_true rfl, Nat.le_of_ble_eq_true rfl⟩) rd_pre0 rfl rfl hl.1 rfl (lv_room (Nat.le_of_ble_eq_true rfl)) dX2_cut_39 ⟨Nat.zero_le _, Nat.zero_le _⟩) ?_
      refine q_eq (qt_fl _ _) ?_
      refine lv_iadd hx hb dX2_cut_42 ?_
      refine wr_v (wr := []) hP hD hS hA [0, 1, 2] [] rfl rfl (by decide) (by decide) (va_runV (As := [.int (sd 0), .int (b0 + (fl_i ((d0 - b0) * ((sd 0) - a0)) (c0 - a0)))]) ⟨hx, hb, hml, hown, hts⟩ (kX2_add l D cI cZ s.heap.size m0 aP ax ay afx afy atx aty wd hg cap n fr (sd 0) (sd 1) (sd 2) (sd 3) u (sd 0) (b0 + (fl_i ((d0 - b0) * ((sd 0) - a0)) (c0 - a0))) hu hc) (cwV 2 hts gX2_cut_X2_add rfl rfl rfl (by decide +kernel) ⟨Nat.le_of_ble_eq_true rfl, Nat.le_of_ble_eq_true rfl⟩) (wr_preV (ci := 2) (q0 := 0) (hP.sub [0, 1, 2] rfl) hK (hD.sub [0, 1, 2] (by decide) rfl) rfl rfl) rfl rfl hl.1 rfl (lv_room (Nat.le_of_ble_eq_true rfl)) dX2_cut_43 ⟨Nat.zero_le _, Nat.zero_le _⟩) (fun u1 H locs hw1 hP hD hS => ?_)
      replace hP : va_P D vwCl [(m0, .inr (2, [.int (nI wd), .int (nI hg), .int (nI cap), .ref aP, .ref ax, .ref ay, .int (nI n), .ref afx, .ref afy, .ref atx, .ref aty, .int fr, .int (nI u1.1), .int (sd 0), .int (sd 1), .int (sd 2), .int (sd 3)])), (atx, .inl (cI, 60, .inl u1.2.1)), (aty, .inl (cI, 60, .inl u1.2.2))] H := hP.sub [0, 1, 2] rfl
      replace hD : va_D A [(m0, .inr (2, [.int (nI wd), .int (nI hg), .int (nI cap), .ref aP, .ref ax, .ref ay, .int (nI n), .ref afx, .ref afy, .ref atx, .ref aty, .int fr, .int (nI u1.1), .int (sd 0), .int (sd 1), .int (sd 2), .int (sd 3)])), (atx, .inl (cI, 60, .inl u1.2.1)), (aty, .inl (cI, 60, .inl u1.2.2))] := hD.sub [0, 1, 2] (by decide) rfl
      refine lv_goto (tgt := 91) hx hb dX2_cut_46 (by decide) ?_
      exact W.vret hx hb hr (fun t ht hW => ⟨⟨u1, rfl, hw1, by rw [ht]; exact hP, by rw [hAe]; exact hD⟩, hS.F ht⟩) hS.2.2 dX2_cut_91
/-- the reference's good vertices -/
def gM (q : Nat) (sd fx fy : Nat → Int32) (i : Nat) : Bool := decide (¬ dpI q (fx i) (fy i) (sd 0) (sd 1) (sd 2) (sd 3) < 0)
theorem gM_nx {q : Nat} {sd fx fy : Nat → Int32} {i j : Nat} (h : ¬ gM q sd fx fy i = gM q sd fx fy j) : (q < 2 → ¬ fx i - fx j = 0) ∧ (2 ≤ q → ¬ fy i - fy j = 0) := by
  refine ⟨fun h1 h2 => h ?_, fun h1 h2 => h ?_⟩
  · rw [gM, gM, sub0 h2]; unfold dpI
    rcases (show q = 0 ∨ q = 1 by omega) with rfl | rfl <;> rfl
  · rw [gM, gM, sub0 h2]; unfold dpI
    rw [if_neg (show ¬ q = 0 by omega), if_neg (show ¬ q = 1 by omega), if_neg (show ¬ q = 0 by omega), if_neg (show ¬ q = 1 by omega)]
def mpL (q : Nat) (sd fx fy : Nat → Int32) (n k : Nat) : List (Int32 × Int32) := outL (gM q sd fx fy) (ctV q (sd q) fx fy) (fun i => (fx i, fy i)) n k
def mpV (cap : Nat) (tx ty : Nat → Int32) (q : Nat) (sd fx fy : Nat → Int32) (n k : Nat) : Nat × (Nat → Int32) × (Nat → Int32) := mpU cap tx ty (mpL q sd fx fy n k)
theorem mpV_1 {cap : Nat} {tx ty : Nat → Int32} {q : Nat} {sd fx fy : Nat → Int32} {n k : Nat} : (mpV cap tx ty q sd fx fy n k).1 = (mpL q sd fx fy n k).length := mpU_1 _ _ _ _
theorem mpV_le {cap : Nat} {tx ty : Nat → Int32} {q : Nat} {sd fx fy : Nat → Int32} {n k : Nat} (h : k ≤ 60) : (mpV cap tx ty q sd fx fy n k).1 ≤ 120 := by
  rw [mpV_1]; exact Nat.le_trans (out_len k) (by omega)
theorem ct_eq {q : Nat} {s : Int32} {fx fy : Nat → Int32} {P k : Nat} : ctC q s (fx P) (fy P) (fx k) (fy k) = ctV q s fx fy P k := rfl
theorem nX2_pass_X2 : ∀ w ∈ wsX20, w ∈ wsX2_pass := fun w h => List.mem_cons_of_mem _ (List.mem_append_right _ h)
set_option maxHeartbeats 4000000 in
set_option maxRecDepth 100000 in
theorem kX2_pass (l : Launch) (D : va_G) (cI cZ : ClassId) (sz : Nat) (m0 aP ax ay afx afy atx aty wd hg cap n F : Nat) (tt : Int32) (sd fx fy tx ty : Nat → Int32) (q : Nat) (hq : q < 4) (hF : F ≤ 60) (hc : cap ≤ 60) : Met l yX2_pass wsX2_pass ({ frames := 2, cells := 0, slots := 0, locals := 80 }) (va_Pc [.ref m0, .int (nI q)] (wrP D cI cZ sz [(m0, .inr (2, [.int (nI wd), .int (nI hg), .int (nI cap), .ref aP, .ref ax, .ref ay, .int (nI n), .ref afx, .ref afy, .ref atx, .ref aty, .int (nI F), .int tt, .int (sd 0), .int (sd 1), .int (sd 2), .int (sd 3)])), (afx, .inl (cI, 60, .inl fx)), (afy, .inl (cI, 60, .inl fy)), (atx, .inl (cI, 60, .inl tx)), (aty, .inl (cI, 60, .inl ty))])) (va_Qv (S := Nat × (Nat → Int32) × (Nat → Int32)) (fun z => z = (mpV cap tx ty q sd fx fy F F)) (wrB D [(m0, .inr (2, [.int (nI wd), .int (nI hg), .int (nI cap), .ref aP, .ref ax, .ref ay, .int (nI n), .ref afx, .ref afy, .ref atx, .ref aty, .int (nI F), .int tt, .int (sd 0), .int (sd 1), .int (sd 2), .int (sd 3)])), (afx, .inl (cI, 60, .inl fx)), (afy, .inl (cI, 60, .inl fy)), (atx, .inl (cI, 60, .inl tx)), (aty, .inl (cI, 60, .inl ty))] sz (fun z => [(m0, .inr (2, [.int (nI wd), .int (nI hg), .int (nI cap), .ref aP, .ref ax, .ref ay, .int (nI n), .ref afx, .ref afy, .ref atx, .ref aty, .int (nI F), .int (nI z.1), .int (sd 0), .int (sd 1), .int (sd 2), .int (sd 3)])), (afx, .inl (cI, 60, .inl fx)), (afy, .inl (cI, 60, .inl fy)), (atx, .inl (cI, 60, .inl z.2.1)), (aty, .inl (cI, 60, .inl z.2.2))])) (va_A [(m0, .inr (2, [.int (nI wd), .int (nI hg), .int (nI cap), .ref aP, .ref ax, .ref ay, .int (nI n), .ref afx, .ref afy, .ref atx, .ref aty, .int (nI F), .int tt, .int (sd 0), .int (sd 1), .int (sd 2), .int (sd 3)])), (afx, .inl (cI, 60, .inl fx)), (afy, .inl (cI, 60, .inl fy)), (atx, .inl (cI, 60, .inl tx)), (aty, .inl (cI, 60, .inl ty))] sz)) 0 0 (va_A [(m0, .inr (2, [.int (nI wd), .int (nI hg), .int (nI cap), .ref aP, .ref ax, .ref ay, .int (nI n), .ref afx, .ref afy, .ref atx, .ref aty, .int (nI F), .int tt, .int (sd 0), .int (sd 1), .int (sd 2), .int (sd 3)])), (afx, .inl (cI, 60, .inl fx)), (afy, .inl (cI, 60, .inl fy)), (atx, .inl (cI, 60, .inl tx)), (aty, .inl (cI, 60, .inl ty))] sz) := by
  refine Met.ofW (cc := cX2_pass) (maxL := 6) (ret := none) (by decide) rfl ?_
  intro p e s m args below meth c s₁ B hml hv
  obtain ⟨rfl, hsz, hP, hK, hD0⟩ := hv
  have hx := B.exec
  have hb := B.bytes
  have hr := B.returns
  have hts := atoms_spec (ws := wsX2_pass) B.pre
  have hown : s.vm.findClass RX2 = some m.cls := findClass_of_methodNamed B.named
  have hlocks := B.notSynchronized
  subst hsz
  have hD := hD0.self (sz := s.heap.size)
  generalize hAe : va_A [(m0, .inr (2, [.int (nI wd), .int (nI hg), .int (nI cap), .ref aP, .ref ax, .ref ay, .int (nI n), .ref afx, .ref afy, .ref atx, .ref aty, .int (nI F), .int tt, .int (sd 0), .int (sd 1), .int (sd 2), .int (sd 3)])), (afx, .inl (cI, 60, .inl fx)), (afy, .inl (cI, 60, .inl fy)), (atx, .inl (cI, 60, .inl tx)), (aty, .inl (cI, 60, .inl ty))] s.heap.size = A at hD ⊢
  have hA : ∀ q : Nat, s.heap.size ≤ q → A q := fun q h => by rw [← hAe]; exact Or.inr h
  have hS : va_S A s.heap s.heap [] := va_S.rf
  have hP : va_P D vwCl [(m0, .inr (2, [.int (nI wd), .int (nI hg), .int (nI cap), .ref aP, .ref ax, .ref ay, .int (nI n), .ref afx, .ref afy, .ref atx, .ref aty, .int (nI F), .int tt, .int (sd 0), .int (sd 1), .int (sd 2), .int (sd 3)])), (afx, .inl (cI, 60, .inl fx)), (afy, .inl (cI, 60, .inl fy)), (atx, .inl (cI, 60, .inl tx)), (aty, .inl (cI, 60, .inl ty))] s.heap := hP
  have hl := lv_entry ([.ref m0, .int (nI q)]) (n := 6) (Nat.le_of_ble_eq_true rfl)
  rw [lg_entry_eq]
  generalize (lg_sl ([.ref m0, .int (nI q)]) ++ List.replicate (6 - (lg_sl ([.ref m0, .int (nI q)])).length) Slot.unset).toArray = ls at hl ⊢
  have hl : lv_has ls 6 [(0, .ref m0), (1, .int (nI q))] := hl
  have LOOP : ∀ (j k : Nat), k ≤ F → F < k + j → ∀ (H : Heap) (locs : List Loc), va_P D vwCl [(m0, .inr (2, [.int (nI wd), .int (nI hg), .int (nI cap), .ref aP, .ref ax, .ref ay, .int (nI n), .ref afx, .ref afy, .ref atx, .ref aty, .int (nI F), .int (nI (mpV cap tx ty q sd fx fy F k).1), .int (sd 0), .int (sd 1), .int (sd 2), .int (sd 3)])), (afx, .inl (cI, 60, .inl fx)), (afy, .inl (cI, 60, .inl fy)), (atx, .inl (cI, 60, .inl ((mpV cap tx ty q sd fx fy F k).2.1))), (aty, .inl (cI, 60, .inl ((mpV cap tx ty q sd fx fy F k).2.2)))] H → va_D A [(m0, .inr (2, [.int (nI wd), .int (nI hg), .int (nI cap), .ref aP, .ref ax, .ref ay, .int (nI n), .ref afx, .ref afy, .ref atx, .ref aty, .int (nI F), .int (nI (mpV cap tx ty q sd fx fy F k).1), .int (sd 0), .int (sd 1), .int (sd 2), .int (sd 3)])), (afx, .inl (cI, 60, .inl fx)), (afy, .inl (cI, 60, .inl fy)), (atx, .inl (cI, 60, .inl ((mpV cap tx ty q sd fx fy F k).2.1))), (aty, .inl (cI, 60, .inl ((mpV cap tx ty q sd fx fy F k).2.2)))] → va_S A s.heap H locs → ∀ ls : Array Slot, lv_has ls 6 [(0, .ref m0), (1, .int (nI q)), (2, .int (nI k))] → W p l e ({ frames := 2, cells := 0, slots := 0, locals := 80 } : Room) s m #[.ref m0, .int (nI q)] below meth c H locs 0 0 (MQ below (va_Qv (S := Nat × (Nat → Int32) × (Nat → Int32)) (fun z => z = (mpV cap tx ty q sd fx fy F F)) (wrB D [(m0, .inr (2, [.int (nI wd), .int (nI hg), .int (nI cap), .ref aP, .ref ax, .ref ay, .int (nI n), .ref afx, .ref afy, .ref atx, .ref aty, .int (nI F), .int tt, .int (sd 0), .int (sd 1), .int (sd 2), .int (sd 3)])), (afx, .inl (cI, 60, .inl fx)), (afy, .inl (cI, 60, .inl fy)), (atx, .inl (cI, 60, .inl tx)), (aty, .inl (cI, 60, .inl ty))] s.heap.size (fun z => [(m0, .inr (2, [.int (nI wd), .int (nI hg), .int (nI cap), .ref aP, .ref ax, .ref ay, .int (nI n), .ref afx, .ref afy, .ref atx, .ref aty, .int (nI F), .int (nI z.1), .int (sd 0), .int (sd 1), .int (sd 2), .int (sd 3)])), (afx, .inl (cI, 60, .inl fx)), (afy, .inl (cI, 60, .inl fy)), (atx, .inl (cI, 60, .inl z.2.1)), (aty, .inl (cI, 60, .inl z.2.2))])) A) #[.ref m0, .int (nI q)] s 0 0 A) (F0 m 7 ls []) := by
    intro j
    induction j with
    | zero => intro k h1 h2; omega
    | succ j ih =>
      intro k hk hkj H locs hP hD hS ls hl
      have hv := mpV_le (cap := cap) (tx := tx) (ty := ty) (q := q) (sd := sd) (fx := fx) (fy := fy) (n := F) (k := k) (by omega)
      refine lv_iload_n hx hb dX2_pass_7 rfl (lv_at hl 2 rfl) ?_
      refine lv_aload_n hx hb dX2_pass_8 rfl (lv_at hl 0 rfl) ?_
      refine va_get (D := D) (ci := 2) (v := .int (nI F)) (C := RX2) (T := TX2) (N := 17) hx hb hts nX2_pass_X2 hown hK.1 hP 0 rfl rfl 11 (by decide) (hts (.fieldLink RX2 75 "PolygonFrameModel" "from" "I") (by decide +kernel)) (fun _ h9 => h9) rfl dX2_pass_9 ?_
      refine lv_icmp_ge (tgt := 149) hx hb dX2_pass_12 (by decide) (fun c12 => ?_) (fun c12 => ?_)
      · skip
        have hkn : k = F := Nat.le_antisymm hk ((nI_leI (by omega) (by omega)).mp c12)
        rw [hkn] at hP hD
        exact W.vret hx hb hr (fun t ht hW => ⟨⟨(mpV cap tx ty q sd fx fy F F), rfl, rfl, by rw [ht]; exact hP, by rw [hAe]; exact hD⟩, hS.F ht⟩) hS.2.2 dX2_pass_149
      · skip
        have hk2 : k < F := Nat.lt_of_not_le (fun h => c12 (nI_le h (by omega)))
        have hp := prN_lt hk2
        refine lv_iload_n hx hb dX2_pass_15 rfl (lv_at hl 2 rfl) ?_
        refine lv_if_ne (tgt := 28) hx hb dX2_pass_16 (by decide) (fun c16 => ?_) (fun c16 => ?_)
        · skip
          refine lv_iload_n hx hb dX2_pass_28 rfl (lv_at hl 2 rfl) ?_
          refine lv_iconst (v := 1) hx hb dX2_pass_29 (by decide) ?_
          refine lv_isub hx hb dX2_pass_30 ?_
          have hk0 : ¬ k = 0 := fun h => c16 (by rw [h]; rfl)
          refine q_eq (show nI k - 1 = nI (prN F k) by rw [prN, if_neg hk0, ← pk_sub (a := k) (b := 1) (by omega)]; rfl) ?_
          refine lv_istore_n (lv' := [(3, .int (nI (prN F k))), (0, .ref m0), (1, .int (nI q)), (2, .int (nI k))]) hx hb dX2_pass_31 rfl hl (by decide) rfl (fun ls hl => ?_)
          refine lv_aload_n hx hb dX2_pass_32 rfl (lv_at hl 1 rfl) ?_
          refine lv_iload_n hx hb dX2_pass_33 rfl (lv_at hl 2 rfl) ?_
          refine lv_aload_n hx hb dX2_pass_34 rfl (lv_at hl 1 rfl) ?_
          refine va_get (D := D) (ci := 2) (v := .ref afx) (C := RX2) (T := TX2) (N := 17) hx hb hts nX2_pass_X2 hown hK.1 hP 0 rfl rfl 7 (by decide) (hts (.fieldLink RX2 19 "PolygonFrameModel" "fromX" "[I") (by decide +kernel)) (fun _ h9 => h9) rfl dX2_pass_35 ?_
          refine lv_iload_n hx hb dX2_pass_38 rfl (lv_at hl 3 rfl) ?_
          refine q_iald (k := k) hx hb hK.1 hP 1 0 rfl rfl (by omega) (by omega) dX2_pass_39 ?_
          refine lv_aload_n hx hb dX2_pass_40 rfl (lv_at hl 1 rfl) ?_
          refine va_get (D := D) (ci := 2) (v := .ref afy) (C := RX2) (T := TX2) (N := 17) hx hb hts nX2_pass_X2 hown hK.1 hP 0 rfl rfl 8 (by decide) (hts (.fieldLink RX2 22 "PolygonFrameModel" "fromY" "[I") (by decide +kernel)) (fun _ h9 => h9) rfl dX2_pass_41 ?_
          refine lv_iload_n hx hb dX2_pass_44 rfl (lv_at hl 3 rfl) ?_
          refine q_iald (k := k) hx hb hK.1 hP 2 0 rfl rfl (by omega) (by omega) dX2_pass_45 ?_
          refine rd_i (va_runV (As := [.int (nI q), .int (fx k), .int (fy k)]) ⟨hx, hb, hml, hown, hts⟩ (kX2_depth l D cI cZ m0 aP ax ay afx afy atx aty wd hg cap n (nI F) (nI (mpV cap tx ty q sd fx fy F k).1) (sd 0) (sd 1) (sd 2) (sd 3) q (fx k) (fy k) hq) (cwV 3 hts gX2_pass_X2_depth rfl rfl rfl (by decide +kernel) ⟨Nat.le_of_ble_eq_true rfl, Nat.le_of_ble_eq_true rfl⟩) (rd_preV (ci := 2) (q0 := 0) (hP.sub [0] rfl) hK rfl rfl) rfl rfl hl.1 rfl (lv_room (Nat.le_of_ble_eq_true rfl)) dX2_pass_46 ⟨Nat.zero_le _, Nat.zero_le _⟩) ?_
          refine lv_if_lt (tgt := 56) hx hb dX2_pass_49 (by decide) (fun c49 => ?_) (fun c49 => ?_)
          · skip
            refine lv_iconst (v := 0) hx hb dX2_pass_56 (by decide) ?_
            refine q_eq (show 0 = bI (gM q sd fx fy k) from bI_ff (decide_eq_false (fun h => h c49))) ?_
            refine lv_istore (lv' := [(4, .int (bI (gM q sd fx fy k))), (3, .int (nI (prN F k))), (0, .ref m0), (1, .int (nI q)), (2, .int (nI k))]) hx hb dX2_pass_57 hl (by decide) rfl (fun ls hl => ?_)
            refine lv_aload_n hx hb dX2_pass_59 rfl (lv_at hl 2 rfl) ?_
            refine lv_iload_n hx hb dX2_pass_60 rfl (lv_at hl 3 rfl) ?_
            refine lv_aload_n hx hb dX2_pass_61 rfl (lv_at hl 2 rfl) ?_
            refine va_get (D := D) (ci := 2) (v := .ref afx) (C := RX2) (T := TX2) (N := 17) hx hb hts nX2_pass_X2 hown hK.1 hP 0 rfl rfl 7 (by decide) (hts (.fieldLink RX2 19 "PolygonFrameModel" "fromX" "[I") (by decide +kernel)) (fun _ h9 => h9) rfl dX2_pass_62 ?_
            refine lv_iload_n hx hb dX2_pass_65 rfl (lv_at hl 1 rfl) ?_
            refine q_iald (k := (prN F k)) hx hb hK.1 hP 1 0 rfl rfl (Nat.lt_of_lt_of_le hp hF) (by decide) dX2_pass_66 ?_
            refine lv_aload_n hx hb dX2_pass_67 rfl (lv_at hl 2 rfl) ?_
            refine va_get (D := D) (ci := 2) (v := .ref afy) (C := RX2) (T := TX2) (N := 17) hx hb hts nX2_pass_X2 hown hK.1 hP 0 rfl rfl 8 (by decide) (hts (.fieldLink RX2 22 "PolygonFrameModel" "fromY" "[I") (by decide +kernel)) (fun _ h9 => h9) rfl dX2_pass_68 ?_
            refine lv_iload_n hx hb dX2_pass_71 rfl (lv_at hl 1 rfl) ?_
            refine q_iald (k := (prN F k)) hx hb hK.1 hP 2 0 rfl rfl (Nat.lt_of_lt_of_le hp hF) (by decide) dX2_pass_72 ?_
            refine rd_i (va_runV (As := [.int (nI q), .int (fx (prN F k)), .int (fy (prN F k))]) ⟨hx, hb, hml, hown, hts⟩ (kX2_depth l D cI cZ m0 aP ax ay afx afy atx aty wd hg cap n (nI F) (nI (mpV cap tx ty q sd fx fy F k).1) (sd 0) (sd 1) (sd 2) (sd 3) q (fx (prN F k)) (fy (prN F k)) hq) (cwV 3 hts gX2_pass_X2_depth rfl rfl rfl (by decide +kernel) ⟨Nat.le_of_ble_eq_true rfl, Nat.le_of_ble_eq_true rfl⟩) (rd_preV (ci := 2) (q0 := 0) (hP.sub [0] rfl) hK rfl rfl) rfl rfl hl.1 rfl (lv_room (Nat.le_of_ble_eq_true rfl)) dX2_pass_73 ⟨Nat.zero_le _, Nat.zero_le _⟩) ?_
            refine lv_if_lt (tgt := 83) hx hb dX2_pass_76 (by decide) (fun c76 => ?_) (fun c76 => ?_)
            · skip
              refine lv_iconst (v := 0) hx hb dX2_pass_83 (by decide) ?_
              refine q_eq (show 0 = bI (gM q sd fx fy (prN F k)) from bI_ff (decide_eq_false (fun h => h c76))) ?_
              refine lv_istore (lv' := [(5, .int (bI (gM q sd fx fy (prN F k)))), (4, .int (bI (gM q sd fx fy k))), (3, .int (nI (prN F k))), (0, .ref m0), (1, .int (nI q)), (2, .int (nI k))]) hx hb dX2_pass_84 hl (by decide) rfl (fun ls hl => ?_)
              refine lv_iload hx hb dX2_pass_86 (lv_at hl 1 rfl) ?_
              refine lv_iload hx hb dX2_pass_88 (lv_at hl 0 rfl) ?_
              refine lv_icmp_eq (tgt := 122) hx hb dX2_pass_90 (by decide) (fun c90 => ?_) (fun c90 => ?_)
              · skip
                refine lv_iload hx hb dX2_pass_122 (lv_at hl 1 rfl) ?_
                refine lv_if_eq (tgt := 143) hx hb dX2_pass_124 (by decide) (fun c124 => ?_) (fun c124 => ?_)
                · skip
                  refine lv_iinc (v := (nI (k + 1))) (lv' := [(2, .int (nI (k + 1))), (5, .int (bI (gM q sd fx fy (prN F k)))), (4, .int (bI (gM q sd fx fy k))), (3, .int (nI (prN F k))), (0, .ref m0), (1, .int (nI q))]) hx hb dX2_pass_143 hl (k := 5) rfl (nI_1 _) (by decide) rfl (fun ls hl => ?_)
                  have e : (mpV cap tx ty q sd fx fy F k) = (mpV cap tx ty q sd fx fy F (k + 1)) := by rw [mpV, mpV, mpL, mpL, out_00 (bI_eq.mp c90) (bI_eq0.mp c124)]
                  refine lv_goto (tgt := 7) hx hb dX2_pass_146 (by decide) ?_
                  rw [e] at hP hD
                  exact ih (k + 1) (by omega) (by omega) H locs hP hD hS ls (lv_sub hl [4, 5, 0] rfl)
                · skip
                  refine lv_aload_n hx hb dX2_pass_127 rfl (lv_at hl 3 rfl) ?_
                  refine lv_aload_n hx hb dX2_pass_128 rfl (lv_at hl 3 rfl) ?_
                  refine va_get (D := D) (ci := 2) (v := .ref afx) (C := RX2) (T := TX2) (N := 17) hx hb hts nX2_pass_X2 hown hK.1 hP 0 rfl rfl 7 (by decide) (hts (.fieldLink RX2 19 "PolygonFrameModel" "fromX" "[I") (by decide +kernel)) (fun _ h9 => h9) rfl dX2_pass_129 ?_
                  refine lv_iload_n hx hb dX2_pass_132 rfl (lv_at hl 5 rfl) ?_
                  refine q_iald (k := k) hx hb hK.1 hP 1 0 rfl rfl (by omega) (by omega) dX2_pass_133 ?_
                  refine lv_aload_n hx hb dX2_pass_134 rfl (lv_at hl 3 rfl) ?_
                  refine va_get (D := D) (ci := 2) (v := .ref afy) (C := RX2) (T := TX2) (N := 17) hx hb hts nX2_pass_X2 hown hK.1 hP 0 rfl rfl 8 (by decide) (hts (.fieldLink RX2 22 "PolygonFrameModel" "fromY" "[I") (by decide +kernel)) (fun _ h9 => h9) rfl dX2_pass_135 ?_
                  refine lv_iload_n hx hb dX2_pass_138 rfl (lv_at hl 5 rfl) ?_
                  refine q_iald (k := k) hx hb hK.1 hP 2 0 rfl rfl (by omega) (by omega) dX2_pass_139 ?_
                  refine wr_v (wr := [(afx, .inl (cI, 60, .inl fx)), (afy, .inl (cI, 60, .inl fy))]) hP hD hS hA [0, 3, 4] [1, 2] rfl rfl (by decide) (by decide) (va_runV (As := [.int (fx k), .int (fy k)]) ⟨hx, hb, hml, hown, hts⟩ (kX2_add l D cI cZ H.size m0 aP ax ay afx afy atx aty wd hg cap n (nI F) (sd 0) (sd 1) (sd 2) (sd 3) (mpV cap tx ty q sd fx fy F k) (fx k) (fy k) (by omega) hc) (cwV 2 hts gX2_pass_X2_add rfl rfl rfl (by decide +kernel) ⟨Nat.le_of_ble_eq_true rfl, Nat.le_of_ble_eq_true rfl⟩) (wr_preV (ci := 2) (q0 := 0) (hP.sub [0, 3, 4] rfl) hK (hD.sub [0, 3, 4] (by decide) rfl) rfl rfl) rfl rfl hl.1 rfl (lv_room (Nat.le_of_ble_eq_true rfl)) dX2_pass_140 ⟨Nat.zero_le _, Nat.zero_le _⟩) (fun u2 H locs hw2 hP hD hS => ?_)
                  replace hP : va_P D vwCl [(m0, .inr (2, [.int (nI wd), .int (nI hg), .int (nI cap), .ref aP, .ref ax, .ref ay, .int (nI n), .ref afx, .ref afy, .ref atx, .ref aty, .int (nI F), .int (nI u2.1), .int (sd 0), .int (sd 1), .int (sd 2), .int (sd 3)])), (afx, .inl (cI, 60, .inl fx)), (afy, .inl (cI, 60, .inl fy)), (atx, .inl (cI, 60, .inl u2.2.1)), (aty, .inl (cI, 60, .inl u2.2.2))] H := hP.sub [2, 0, 1, 3, 4] rfl
                  replace hD : va_D A [(m0, .inr (2, [.int (nI wd), .int (nI hg), .int (nI cap), .ref aP, .ref ax, .ref ay, .int (nI n), .ref afx, .ref afy, .ref atx, .ref aty, .int (nI F), .int (nI u2.1), .int (sd 0), .int (sd 1), .int (sd 2), .int (sd 3)])), (afx, .inl (cI, 60, .inl fx)), (afy, .inl (cI, 60, .inl fy)), (atx, .inl (cI, 60, .inl u2.2.1)), (aty, .inl (cI, 60, .inl u2.2.2))] := hD.sub [2, 0, 1, 3, 4] (by decide) rfl
                  refine lv_iinc (v := (nI (k + 1))) (lv' := [(2, .int (nI (k + 1))), (5, .int (bI (gM q sd fx fy (prN F k)))), (4, .int (bI (gM q sd fx fy k))), (3, .int (nI (prN F k))), (0, .ref m0), (1, .int (nI q))]) hx hb dX2_pass_143 hl (k := 5) rfl (nI_1 _) (by decide) rfl (fun ls hl => ?_)
                  have e : u2 = (mpV cap tx ty q sd fx fy F (k + 1)) := by rw [mpV, mpL, out_01 (bI_eq.mp c90) (bI_ne c124), mpU_snoc]; rw [hw2]; rfl
                  refine lv_goto (tgt := 7) hx hb dX2_pass_146 (by decide) ?_
                  rw [e] at hP hD
                  exact ih (k + 1) (by omega) (by omega) H locs hP hD hS ls (lv_sub hl [4, 5, 0] rfl)
              · skip
                refine lv_aload_n hx hb dX2_pass_93 rfl (lv_at hl 3 rfl) ?_
                refine lv_iload_n hx hb dX2_pass_94 rfl (lv_at hl 4 rfl) ?_
                refine lv_aload_n hx hb dX2_pass_95 rfl (lv_at hl 3 rfl) ?_
                refine va_get (D := D) (ci := 2) (v := .ref afx) (C := RX2) (T := TX2) (N := 17) hx hb hts nX2_pass_X2 hown hK.1 hP 0 rfl rfl 7 (by decide) (hts (.fieldLink RX2 19 "PolygonFrameModel" "fromX" "[I") (by decide +kernel)) (fun _ h9 => h9) rfl dX2_pass_96 ?_
                refine lv_iload_n hx hb dX2_pass_99 rfl (lv_at hl 2 rfl) ?_
                refine q_iald (k := (prN F k)) hx hb hK.1 hP 1 0 rfl rfl (Nat.lt_of_lt_of_le hp hF) (by decide) dX2_pass_100 ?_
                refine lv_aload_n hx hb dX2_pass_101 rfl (lv_at hl 3 rfl) ?_
                refine va_get (D := D) (ci := 2) (v := .ref afy) (C := RX2) (T := TX2) (N := 17) hx hb hts nX2_pass_X2 hown hK.1 hP 0 rfl rfl 8 (by decide) (hts (.fieldLink RX2 22 "PolygonFrameModel" "fromY" "[I") (by decide +kernel)) (fun _ h9 => h9) rfl dX2_pass_102 ?_
                refine lv_iload_n hx hb dX2_pass_105 rfl (lv_at hl 2 rfl) ?_
                refine q_iald (k := (prN F k)) hx hb hK.1 hP 2 0 rfl rfl (Nat.lt_of_lt_of_le hp hF) (by decide) dX2_pass_106 ?_
                refine lv_aload_n hx hb dX2_pass_107 rfl (lv_at hl 3 rfl) ?_
                refine va_get (D := D) (ci := 2) (v := .ref afx) (C := RX2) (T := TX2) (N := 17) hx hb hts nX2_pass_X2 hown hK.1 hP 0 rfl rfl 7 (by decide) (hts (.fieldLink RX2 19 "PolygonFrameModel" "fromX" "[I") (by decide +kernel)) (fun _ h9 => h9) rfl dX2_pass_108 ?_
                refine lv_iload_n hx hb dX2_pass_111 rfl (lv_at hl 5 rfl) ?_
                refine q_iald (k := k) hx hb hK.1 hP 1 0 rfl rfl (by omega) (by omega) dX2_pass_112 ?_
                refine lv_aload_n hx hb dX2_pass_113 rfl (lv_at hl 3 rfl) ?_
                refine va_get (D := D) (ci := 2) (v := .ref afy) (C := RX2) (T := TX2) (N := 17) hx hb hts nX2_pass_X2 hown hK.1 hP 0 rfl rfl 8 (by decide) (hts (.fieldLink RX2 22 "PolygonFrameModel" "fromY" "[I") (by decide +kernel)) (fun _ h9 => h9) rfl dX2_pass_114 ?_
                refine lv_iload_n hx hb dX2_pass_117 rfl (lv_at hl 5 rfl) ?_
                refine q_iald (k := k) hx hb hK.1 hP 2 0 rfl rfl (by omega) (by omega) dX2_pass_118 ?_
                have hgg : ¬ gM q sd fx fy k = gM q sd fx fy (prN F k) := fun h => c90 (by rw [h])
                refine wr_v (wr := [(afx, .inl (cI, 60, .inl fx)), (afy, .inl (cI, 60, .inl fy))]) hP hD hS hA [0, 3, 4] [1, 2] rfl rfl (by decide) (by decide) (va_runV (As := [.int (nI q), .int (fx (prN F k)), .int (fy (prN F k)), .int (fx k), .int (fy k)]) ⟨hx, hb, hml, hown, hts⟩ (kX2_cut l D cI cZ H.size m0 aP ax ay afx afy atx aty wd hg cap n (nI F) sd (mpV cap tx ty q sd fx fy F k) q (fx (prN F k)) (fy (prN F k)) (fx k) (fy k) hq (gM_nx hgg).1 (gM_nx hgg).2 (by omega) hc) (cwV 5 hts gX2_pass_X2_cut rfl rfl rfl (by decide +kernel) ⟨Nat.le_of_ble_eq_true rfl, Nat.le_of_ble_eq_true rfl⟩) (wr_preV (ci := 2) (q0 := 0) (hP.sub [0, 3, 4] rfl) hK (hD.sub [0, 3, 4] (by decide) rfl) rfl rfl) rfl rfl hl.1 rfl (lv_room (Nat.le_of_ble_eq_true rfl)) dX2_pass_119 ⟨Nat.zero_le _, Nat.zero_le _⟩) (fun u1 H locs hw1 hP hD hS => ?_)
                replace hP : va_P D vwCl [(m0, .inr (2, [.int (nI wd), .int (nI hg), .int (nI cap), .ref aP, .ref ax, .ref ay, .int (nI n), .ref afx, .ref afy, .ref atx, .ref aty, .int (nI F), .int (nI u1.1), .int (sd 0), .int (sd 1), .int (sd 2), .int (sd 3)])), (afx, .inl (cI, 60, .inl fx)), (afy, .inl (cI, 60, .inl fy)), (atx, .inl (cI, 60, .inl u1.2.1)), (aty, .inl (cI, 60, .inl u1.2.2))] H := hP.sub [2, 0, 1, 3, 4] rfl
                replace hD : va_D A [(m0, .inr (2, [.int (nI wd), .int (nI hg), .int (nI cap), .ref aP, .ref ax, .ref ay, .int (nI n), .ref afx, .ref afy, .ref atx, .ref aty, .int (nI F), .int (nI u1.1), .int (sd 0), .int (sd 1), .int (sd 2), .int (sd 3)])), (afx, .inl (cI, 60, .inl fx)), (afy, .inl (cI, 60, .inl fy)), (atx, .inl (cI, 60, .inl u1.2.1)), (aty, .inl (cI, 60, .inl u1.2.2))] := hD.sub [2, 0, 1, 3, 4] (by decide) rfl
                have hu1 : u1.1 ≤ 1000 := by rw [hw1, adP_1]; omega
                refine lv_iload hx hb dX2_pass_122 (lv_at hl 1 rfl) ?_
                refine lv_if_eq (tgt := 143) hx hb dX2_pass_124 (by decide) (fun c124 => ?_) (fun c124 => ?_)
                · skip
                  refine lv_iinc (v := (nI (k + 1))) (lv' := [(2, .int (nI (k + 1))), (5, .int (bI (gM q sd fx fy (prN F k)))), (4, .int (bI (gM q sd fx fy k))), (3, .int (nI (prN F k))), (0, .ref m0), (1, .int (nI q))]) hx hb dX2_pass_143 hl (k := 5) rfl (nI_1 _) (by decide) rfl (fun ls hl => ?_)
                  have e : u1 = (mpV cap tx ty q sd fx fy F (k + 1)) := by rw [mpV, mpL, out_10 hgg (bI_eq0.mp c124), mpU_snoc]; rw [hw1]; rfl
                  refine lv_goto (tgt := 7) hx hb dX2_pass_146 (by decide) ?_
                  rw [e] at hP hD
                  exact ih (k + 1) (by omega) (by omega) H locs hP hD hS ls (lv_sub hl [4, 5, 0] rfl)
                · skip
                  refine lv_aload_n hx hb dX2_pass_127 rfl (lv_at hl 3 rfl) ?_
                  refine lv_aload_n hx hb dX2_pass_128 rfl (lv_at hl 3 rfl) ?_
                  refine va_get (D := D) (ci := 2) (v := .ref afx) (C := RX2) (T := TX2) (N := 17) hx hb hts nX2_pass_X2 hown hK.1 hP 0 rfl rfl 7 (by decide) (hts (.fieldLink RX2 19 "PolygonFrameModel" "fromX" "[I") (by decide +kernel)) (fun _ h9 => h9) rfl dX2_pass_129 ?_
                  refine lv_iload_n hx hb dX2_pass_132 rfl (lv_at hl 5 rfl) ?_
                  refine q_iald (k := k) hx hb hK.1 hP 1 0 rfl rfl (by omega) (by omega) dX2_pass_133 ?_
                  refine lv_aload_n hx hb dX2_pass_134 rfl (lv_at hl 3 rfl) ?_
                  refine va_get (D := D) (ci := 2) (v := .ref afy) (C := RX2) (T := TX2) (N := 17) hx hb hts nX2_pass_X2 hown hK.1 hP 0 rfl rfl 8 (by decide) (hts (.fieldLink RX2 22 "PolygonFrameModel" "fromY" "[I") (by decide +kernel)) (fun _ h9 => h9) rfl dX2_pass_135 ?_
                  refine lv_iload_n hx hb dX2_pass_138 rfl (lv_at hl 5 rfl) ?_
                  refine q_iald (k := k) hx hb hK.1 hP 2 0 rfl rfl (by omega) (by omega) dX2_pass_139 ?_
                  refine wr_v (wr := [(afx, .inl (cI, 60, .inl fx)), (afy, .inl (cI, 60, .inl fy))]) hP hD hS hA [0, 3, 4] [1, 2] rfl rfl (by decide) (by decide) (va_runV (As := [.int (fx k), .int (fy k)]) ⟨hx, hb, hml, hown, hts⟩ (kX2_add l D cI cZ H.size m0 aP ax ay afx afy atx aty wd hg cap n (nI F) (sd 0) (sd 1) (sd 2) (sd 3) u1 (fx k) (fy k) hu1 hc) (cwV 2 hts gX2_pass_X2_add rfl rfl rfl (by decide +kernel) ⟨Nat.le_of_ble_eq_true rfl, Nat.le_of_ble_eq_true rfl⟩) (wr_preV (ci := 2) (q0 := 0) (hP.sub [0, 3, 4] rfl) hK (hD.sub [0, 3, 4] (by decide) rfl) rfl rfl) rfl rfl hl.1 rfl (lv_room (Nat.le_of_ble_eq_true rfl)) dX2_pass_140 ⟨Nat.zero_le _, Nat.zero_le _⟩) (fun u2 H locs hw2 hP hD hS => ?_)
                  replace hP : va_P D vwCl [(m0, .inr (2, [.int (nI wd), .int (nI hg), .int (nI cap), .ref aP, .ref ax, .ref ay, .int (nI n), .ref afx, .ref afy, .ref atx, .ref aty, .int (nI F), .int (nI u2.1), .int (sd 0), .int (sd 1), .int (sd 2), .int (sd 3)])), (afx, .inl (cI, 60, .inl fx)), (afy, .inl (cI, 60, .inl fy)), (atx, .inl (cI, 60, .inl u2.2.1)), (aty, .inl (cI, 60, .inl u2.2.2))] H := hP.sub [2, 0, 1, 3, 4] rfl
                  replace hD : va_D A [(m0, .inr (2, [.int (nI wd), .int (nI hg), .int (nI cap), .ref aP, .ref ax, .ref ay, .int (nI n), .ref afx, .ref afy, .ref atx, .ref aty, .int (nI F), .int (nI u2.1), .int (sd 0), .int (sd 1), .int (sd 2), .int (sd 3)])), (afx, .inl (cI, 60, .inl fx)), (afy, .inl (cI, 60, .inl fy)), (atx, .inl (cI, 60, .inl u2.2.1)), (aty, .inl (cI, 60, .inl u2.2.2))] := hD.sub [2, 0, 1, 3, 4] (by decide) rfl
                  refine lv_iinc (v := (nI (k + 1))) (lv' := [(2, .int (nI (k + 1))), (5, .int (bI (gM q sd fx fy (prN F k)))), (4, .int (bI (gM q sd fx fy k))), (3, .int (nI (prN F k))), (0, .ref m0), (1, .int (nI q))]) hx hb dX2_pass_143 hl (k := 5) rfl (nI_1 _) (by decide) rfl (fun ls hl => ?_)
                  have e : u2 = (mpV cap tx ty q sd fx fy F (k + 1)) := by rw [mpV, mpL, out_11 hgg (bI_ne c124), mpU_snoc, mpU_snoc]; rw [hw2, hw1]; rfl
                  refine lv_goto (tgt := 7) hx hb dX2_pass_146 (by decide) ?_
                  rw [e] at hP hD
                  exact ih (k + 1) (by omega) (by omega) H locs hP hD hS ls (lv_sub hl [4, 5, 0] rfl)
            · skip
              refine lv_iconst (v := 1) hx hb dX2_pass_79 (by decide) ?_
              refine lv_goto (tgt := 84) hx hb dX2_pass_80 (by decide) ?_
              refine q_eq (show 1 = bI (gM q sd fx fy (prN F k)) from bI_tt (decide_eq_true c76)) ?_
              refine lv_istore (lv' := [(5, .int (bI (gM q sd fx fy (prN F k)))), (4, .int (bI (gM q sd fx fy k))), (3, .int (nI (prN F k))), (0, .ref m0), (1, .int (nI q)), (2, .int (nI k))]) hx hb dX2_pass_84 hl (by decide) rfl (fun ls hl => ?_)
              refine lv_iload hx hb dX2_pass_86 (lv_at hl 1 rfl) ?_
              refine lv_iload hx hb dX2_pass_88 (lv_at hl 0 rfl) ?_
              refine lv_icmp_eq (tgt := 122) hx hb dX2_pass_90 (by decide) (fun c90 => ?_) (fun c90 => ?_)
              · skip
                refine lv_iload hx hb dX2_pass_122 (lv_at hl 1 rfl) ?_
                refine lv_if_eq (tgt := 143) hx hb dX2_pass_124 (by decide) (fun c124 => ?_) (fun c124 => ?_)
                · skip
                  refine lv_iinc (v := (nI (k + 1))) (lv' := [(2, .int (nI (k + 1))), (5, .int (bI (gM q sd fx fy (prN F k)))), (4, .int (bI (gM q sd fx fy k))), (3, .int (nI (prN F k))), (0, .ref m0), (1, .int (nI q))]) hx hb dX2_pass_143 hl (k := 5) rfl (nI_1 _) (by decide) rfl (fun ls hl => ?_)
                  have e : (mpV cap tx ty q sd fx fy F k) = (mpV cap tx ty q sd fx fy F (k + 1)) := by rw [mpV, mpV, mpL, mpL, out_00 (bI_eq.mp c90) (bI_eq0.mp c124)]
                  refine lv_goto (tgt := 7) hx hb dX2_pass_146 (by decide) ?_
                  rw [e] at hP hD
                  exact ih (k + 1) (by omega) (by omega) H locs hP hD hS ls (lv_sub hl [4, 5, 0] rfl)
                · skip
                  refine lv_aload_n hx hb dX2_pass_127 rfl (lv_at hl 3 rfl) ?_
                  refine lv_aload_n hx hb dX2_pass_128 rfl (lv_at hl 3 rfl) ?_
                  refine va_get (D := D) (ci := 2) (v := .ref afx) (C := RX2) (T := TX2) (N := 17) hx hb hts nX2_pass_X2 hown hK.1 hP 0 rfl rfl 7 (by decide) (hts (.fieldLink RX2 19 "PolygonFrameModel" "fromX" "[I") (by decide +kernel)) (fun _ h9 => h9) rfl dX2_pass_129 ?_
                  refine lv_iload_n hx hb dX2_pass_132 rfl (lv_at hl 5 rfl) ?_
                  refine q_iald (k := k) hx hb hK.1 hP 1 0 rfl rfl (by omega) (by omega) dX2_pass_133 ?_
                  refine lv_aload_n hx hb dX2_pass_134 rfl (lv_at hl 3 rfl) ?_
                  refine va_get (D := D) (ci := 2) (v := .ref afy) (C := RX2) (T := TX2) (N := 17) hx hb hts nX2_pass_X2 hown hK.1 hP 0 rfl rfl 8 (by decide) (hts (.fieldLink RX2 22 "PolygonFrameModel" "fromY" "[I") (by decide +kernel)) (fun _ h9 => h9) rfl dX2_pass_135 ?_
                  refine lv_iload_n hx hb dX2_pass_138 rfl (lv_at hl 5 rfl) ?_
                  refine q_iald (k := k) hx hb hK.1 hP 2 0 rfl rfl (by omega) (by omega) dX2_pass_139 ?_
                  refine wr_v (wr := [(afx, .inl (cI, 60, .inl fx)), (afy, .inl (cI, 60, .inl fy))]) hP hD hS hA [0, 3, 4] [1, 2] rfl rfl (by decide) (by decide) (va_runV (As := [.int (fx k), .int (fy k)]) ⟨hx, hb, hml, hown, hts⟩ (kX2_add l D cI cZ H.size m0 aP ax ay afx afy atx aty wd hg cap n (nI F) (sd 0) (sd 1) (sd 2) (sd 3) (mpV cap tx ty q sd fx fy F k) (fx k) (fy k) (by omega) hc) (cwV 2 hts gX2_pass_X2_add rfl rfl rfl (by decide +kernel) ⟨Nat.le_of_ble_eq_true rfl, Nat.le_of_ble_eq_true rfl⟩) (wr_preV (ci := 2) (q0 := 0) (hP.sub [0, 3, 4] rfl) hK (hD.sub [0, 3, 4] (by decide) rfl) rfl rfl) rfl rfl hl.1 rfl (lv_room (Nat.le_of_ble_eq_true rfl)) dX2_pass_140 ⟨Nat.zero_le _, Nat.zero_le _⟩) (fun u2 H locs hw2 hP hD hS => ?_)
                  replace hP : va_P D vwCl [(m0, .inr (2, [.int (nI wd), .int (nI hg), .int (nI cap), .ref aP, .ref ax, .ref ay, .int (nI n), .ref afx, .ref afy, .ref atx, .ref aty, .int (nI F), .int (nI u2.1), .int (sd 0), .int (sd 1), .int (sd 2), .int (sd 3)])), (afx, .inl (cI, 60, .inl fx)), (afy, .inl (cI, 60, .inl fy)), (atx, .inl (cI, 60, .inl u2.2.1)), (aty, .inl (cI, 60, .inl u2.2.2))] H := hP.sub [2, 0, 1, 3, 4] rfl
                  replace hD : va_D A [(m0, .inr (2, [.int (nI wd), .int (nI hg), .int (nI cap), .ref aP, .ref ax, .ref ay, .int (nI n), .ref afx, .ref afy, .ref atx, .ref aty, .int (nI F), .int (nI u2.1), .int (sd 0), .int (sd 1), .int (sd 2), .int (sd 3)])), (afx, .inl (cI, 60, .inl fx)), (afy, .inl (cI, 60, .inl fy)), (atx, .inl (cI, 60, .inl u2.2.1)), (aty, .inl (cI, 60, .inl u2.2.2))] := hD.sub [2, 0, 1, 3, 4] (by decide) rfl
                  refine lv_iinc (v := (nI (k + 1))) (lv' := [(2, .int (nI (k + 1))), (5, .int (bI (gM q sd fx fy (prN F k)))), (4, .int (bI (gM q sd fx fy k))), (3, .int (nI (prN F k))), (0, .ref m0), (1, .int (nI q))]) hx hb dX2_pass_143 hl (k := 5) rfl (nI_1 _) (by decide) rfl (fun ls hl => ?_)
                  have e : u2 = (mpV cap tx ty q sd fx fy F (k + 1)) := by rw [mpV, mpL, out_01 (bI_eq.mp c90) (bI_ne c124), mpU_snoc]; rw [hw2]; rfl
                  refine lv_goto (tgt := 7) hx hb dX2_pass_146 (by decide) ?_
                  rw [e] at hP hD
                  exact ih (k + 1) (by omega) (by omega) H locs hP hD hS ls (lv_sub hl [4, 5, 0] rfl)
              · skip
                refine lv_aload_n hx hb dX2_pass_93 rfl (lv_at hl 3 rfl) ?_
                refine lv_iload_n hx hb dX2_pass_94 rfl (lv_at hl 4 rfl) ?_
                refine lv_aload_n hx hb dX2_pass_95 rfl (lv_at hl 3 rfl) ?_
                refine va_get (D := D) (ci := 2) (v := .ref afx) (C := RX2) (T := TX2) (N := 17) hx hb hts nX2_pass_X2 hown hK.1 hP 0 rfl rfl 7 (by decide) (hts (.fieldLink RX2 19 "PolygonFrameModel" "fromX" "[I") (by decide +kernel)) (fun _ h9 => h9) rfl dX2_pass_96 ?_
                refine lv_iload_n hx hb dX2_pass_99 rfl (lv_at hl 2 rfl) ?_
                refine q_iald (k := (prN F k)) hx hb hK.1 hP 1 0 rfl rfl (Nat.lt_of_lt_of_le hp hF) (by decide) dX2_pass_100 ?_
                refine lv_aload_n hx hb dX2_pass_101 rfl (lv_at hl 3 rfl) ?_
                refine va_get (D := D) (ci := 2) (v := .ref afy) (C := RX2) (T := TX2) (N := 17) hx hb hts nX2_pass_X2 hown hK.1 hP 0 rfl rfl 8 (by decide) (hts (.fieldLink RX2 22 "PolygonFrameModel" "fromY" "[I") (by decide +kernel)) (fun _ h9 => h9) rfl dX2_pass_102 ?_
                refine lv_iload_n hx hb dX2_pass_105 rfl (lv_at hl 2 rfl) ?_
                refine q_iald (k := (prN F k)) hx hb hK.1 hP 2 0 rfl rfl (Nat.lt_of_lt_of_le hp hF) (by decide) dX2_pass_106 ?_
                refine lv_aload_n hx hb dX2_pass_107 rfl (lv_at hl 3 rfl) ?_
                refine va_get (D := D) (ci := 2) (v := .ref afx) (C := RX2) (T := TX2) (N := 17) hx hb hts nX2_pass_X2 hown hK.1 hP 0 rfl rfl 7 (by decide) (hts (.fieldLink RX2 19 "PolygonFrameModel" "fromX" "[I") (by decide +kernel)) (fun _ h9 => h9) rfl dX2_pass_108 ?_
                refine lv_iload_n hx hb dX2_pass_111 rfl (lv_at hl 5 rfl) ?_
                refine q_iald (k := k) hx hb hK.1 hP 1 0 rfl rfl (by omega) (by omega) dX2_pass_112 ?_
                refine lv_aload_n hx hb dX2_pass_113 rfl (lv_at hl 3 rfl) ?_
                refine va_get (D := D) (ci := 2) (v := .ref afy) (C := RX2) (T := TX2) (N := 17) hx hb hts nX2_pass_X2 hown hK.1 hP 0 rfl rfl 8 (by decide) (hts (.fieldLink RX2 22 "PolygonFrameModel" "fromY" "[I") (by decide +kernel)) (fun _ h9 => h9) rfl dX2_pass_114 ?_
                refine lv_iload_n hx hb dX2_pass_117 rfl (lv_at hl 5 rfl) ?_
                refine q_iald (k := k) hx hb hK.1 hP 2 0 rfl rfl (by omega) (by omega) dX2_pass_118 ?_
                have hgg : ¬ gM q sd fx fy k = gM q sd fx fy (prN F k) := fun h => c90 (by rw [h])
                refine wr_v (wr := [(afx, .inl (cI, 60, .inl fx)), (afy, .inl (cI, 60, .inl fy))]) hP hD hS hA [0, 3, 4] [1, 2] rfl rfl (by decide) (by decide) (va_runV (As := [.int (nI q), .int (fx (prN F k)), .int (fy (prN F k)), .int (fx k), .int (fy k)]) ⟨hx, hb, hml, hown, hts⟩ (kX2_cut l D cI cZ H.size m0 aP ax ay afx afy atx aty wd hg cap n (nI F) sd (mpV cap tx ty q sd fx fy F k) q (fx (prN F k)) (fy (prN F k)) (fx k) (fy k) hq (gM_nx hgg).1 (gM_nx hgg).2 (by omega) hc) (cwV 5 hts gX2_pass_X2_cut rfl rfl rfl (by decide +kernel) ⟨Nat.le_of_ble_eq_true rfl, Nat.le_of_ble_eq_true rfl⟩) (wr_preV (ci := 2) (q0 := 0) (hP.sub [0, 3, 4] rfl) hK (hD.sub [0, 3, 4] (by decide) rfl) rfl rfl) rfl rfl hl.1 rfl (lv_room (Nat.le_of_ble_eq_true rfl)) dX2_pass_119 ⟨Nat.zero_le _, Nat.zero_le _⟩) (fun u1 H locs hw1 hP hD hS => ?_)
                replace hP : va_P D vwCl [(m0, .inr (2, [.int (nI wd), .int (nI hg), .int (nI cap), .ref aP, .ref ax, .ref ay, .int (nI n), .ref afx, .ref afy, .ref atx, .ref aty, .int (nI F), .int (nI u1.1), .int (sd 0), .int (sd 1), .int (sd 2), .int (sd 3)])), (afx, .inl (cI, 60, .inl fx)), (afy, .inl (cI, 60, .inl fy)), (atx, .inl (cI, 60, .inl u1.2.1)), (aty, .inl (cI, 60, .inl u1.2.2))] H := hP.sub [2, 0, 1, 3, 4] rfl
                replace hD : va_D A [(m0, .inr (2, [.int (nI wd), .int (nI hg), .int (nI cap), .ref aP, .ref ax, .ref ay, .int (nI n), .ref afx, .ref afy, .ref atx, .ref aty, .int (nI F), .int (nI u1.1), .int (sd 0), .int (sd 1), .int (sd 2), .int (sd 3)])), (afx, .inl (cI, 60, .inl fx)), (afy, .inl (cI, 60, .inl fy)), (atx, .inl (cI, 60, .inl u1.2.1)), (aty, .inl (cI, 60, .inl u1.2.2))] := hD.sub [2, 0, 1, 3, 4] (by decide) rfl
                have hu1 : u1.1 ≤ 1000 := by rw [hw1, adP_1]; omega
                refine lv_iload hx hb dX2_pass_122 (lv_at hl 1 rfl) ?_
                refine lv_if_eq (tgt := 143) hx hb dX2_pass_124 (by decide) (fun c124 => ?_) (fun c124 => ?_)
                · skip
                  refine lv_iinc (v := (nI (k + 1))) (lv' := [(2, .int (nI (k + 1))), (5, .int (bI (gM q sd fx fy (prN F k)))), (4, .int (bI (gM q sd fx fy k))), (3, .int (nI (prN F k))), (0, .ref m0), (1, .int (nI q))]) hx hb dX2_pass_143 hl (k := 5) rfl (nI_1 _) (by decide) rfl (fun ls hl => ?_)
                  have e : u1 = (mpV cap tx ty q sd fx fy F (k + 1)) := by rw [mpV, mpL, out_10 hgg (bI_eq0.mp c124), mpU_snoc]; rw [hw1]; rfl
                  refine lv_goto (tgt := 7) hx hb dX2_pass_146 (by decide) ?_
                  rw [e] at hP hD
                  exact ih (k + 1) (by omega) (by omega) H locs hP hD hS ls (lv_sub hl [4, 5, 0] rfl)
                · skip
                  refine lv_aload_n hx hb dX2_pass_127 rfl (lv_at hl 3 rfl) ?_
                  refine lv_aload_n hx hb dX2_pass_128 rfl (lv_at hl 3 rfl) ?_
                  refine va_get (D := D) (ci := 2) (v := .ref afx) (C := RX2) (T := TX2) (N := 17) hx hb hts nX2_pass_X2 hown hK.1 hP 0 rfl rfl 7 (by decide) (hts (.fieldLink RX2 19 "PolygonFrameModel" "fromX" "[I") (by decide +kernel)) (fun _ h9 => h9) rfl dX2_pass_129 ?_
                  refine lv_iload_n hx hb dX2_pass_132 rfl (lv_at hl 5 rfl) ?_
                  refine q_iald (k := k) hx hb hK.1 hP 1 0 rfl rfl (by omega) (by omega) dX2_pass_133 ?_
                  refine lv_aload_n hx hb dX2_pass_134 rfl (lv_at hl 3 rfl) ?_
                  refine va_get (D := D) (ci := 2) (v := .ref afy) (C := RX2) (T := TX2) (N := 17) hx hb hts nX2_pass_X2 hown hK.1 hP 0 rfl rfl 8 (by decide) (hts (.fieldLink RX2 22 "PolygonFrameModel" "fromY" "[I") (by decide +kernel)) (fun _ h9 => h9) rfl dX2_pass_135 ?_
                  refine lv_iload_n hx hb dX2_pass_138 rfl (lv_at hl 5 rfl) ?_
                  refine q_iald (k := k) hx hb hK.1 hP 2 0 rfl rfl (by omega) (by omega) dX2_pass_139 ?_
                  refine wr_v (wr := [(afx, .inl (cI, 60, .inl fx)), (afy, .inl (cI, 60, .inl fy))]) hP hD hS hA [0, 3, 4] [1, 2] rfl rfl (by decide) (by decide) (va_runV (As := [.int (fx k), .int (fy k)]) ⟨hx, hb, hml, hown, hts⟩ (kX2_add l D cI cZ H.size m0 aP ax ay afx afy atx aty wd hg cap n (nI F) (sd 0) (sd 1) (sd 2) (sd 3) u1 (fx k) (fy k) hu1 hc) (cwV 2 hts gX2_pass_X2_add rfl rfl rfl (by decide +kernel) ⟨Nat.le_of_ble_eq_true rfl, Nat.le_of_ble_eq_true rfl⟩) (wr_preV (ci := 2) (q0 := 0) (hP.sub [0, 3, 4] rfl) hK (hD.sub [0, 3, 4] (by decide) rfl) rfl rfl) rfl rfl hl.1 rfl (lv_room (Nat.le_of_ble_eq_true rfl)) dX2_pass_140 ⟨Nat.zero_le _, Nat.zero_le _⟩) (fun u2 H locs hw2 hP hD hS => ?_)
                  replace hP : va_P D vwCl [(m0, .inr (2, [.int (nI wd), .int (nI hg), .int (nI cap), .ref aP, .ref ax, .ref ay, .int (nI n), .ref afx, .ref afy, .ref atx, .ref aty, .int (nI F), .int (nI u2.1), .int (sd 0), .int (sd 1), .int (sd 2), .int (sd 3)])), (afx, .inl (cI, 60, .inl fx)), (afy, .inl (cI, 60, .inl fy)), (atx, .inl (cI, 60, .inl u2.2.1)), (aty, .inl (cI, 60, .inl u2.2.2))] H := hP.sub [2, 0, 1, 3, 4] rfl
                  replace hD : va_D A [(m0, .inr (2, [.int (nI wd), .int (nI hg), .int (nI cap), .ref aP, .ref ax, .ref ay, .int (nI n), .ref afx, .ref afy, .ref atx, .ref aty, .int (nI F), .int (nI u2.1), .int (sd 0), .int (sd 1), .int (sd 2), .int (sd 3)])), (afx, .inl (cI, 60, .inl fx)), (afy, .inl (cI, 60, .inl fy)), (atx, .inl (cI, 60, .inl u2.2.1)), (aty, .inl (cI, 60, .inl u2.2.2))] := hD.sub [2, 0, 1, 3, 4] (by decide) rfl
                  refine lv_iinc (v := (nI (k + 1))) (lv' := [(2, .int (nI (k + 1))), (5, .int (bI (gM q sd fx fy (prN F k)))), (4, .int (bI (gM q sd fx fy k))), (3, .int (nI (prN F k))), (0, .ref m0), (1, .int (nI q))]) hx hb dX2_pass_143 hl (k := 5) rfl (nI_1 _) (by decide) rfl (fun ls hl => ?_)
                  have e : u2 = (mpV cap tx ty q sd fx fy F (k + 1)) := by rw [mpV, mpL, out_11 hgg (bI_ne c124), mpU_snoc, mpU_snoc]; rw [hw2, hw1]; rfl
                  refine lv_goto (tgt := 7) hx hb dX2_pass_146 (by decide) ?_
                  rw [e] at hP hD
                  exact ih (k + 1) (by omega) (by omega) H locs hP hD hS ls (lv_sub hl [4, 5, 0] rfl)
          · skip
            refine lv_iconst (v := 1) hx hb dX2_pass_52 (by decide) ?_
            refine lv_goto (tgt := 57) hx hb dX2_pass_53 (by decide) ?_
            refine q_eq (show 1 = bI (gM q sd fx fy k) from bI_tt (decide_eq_true c49)) ?_
            refine lv_istore (lv' := [(4, .int (bI (gM q sd fx fy k))), (3, .int (nI (prN F k))), (0, .ref m0), (1, .int (nI q)), (2, .int (nI k))]) hx hb dX2_pass_57 hl (by decide) rfl (fun ls hl => ?_)
            refine lv_aload_n hx hb dX2_pass_59 rfl (lv_at hl 2 rfl) ?_
            refine lv_iload_n hx hb dX2_pass_60 rfl (lv_at hl 3 rfl) ?_
            refine lv_aload_n hx hb dX2_pass_61 rfl (lv_at hl 2 rfl) ?_
            refine va_get (D := D) (ci := 2) (v := .ref afx) (C := RX2) (T := TX2) (N := 17) hx hb hts nX2_pass_X2 hown hK.1 hP 0 rfl rfl 7 (by decide) (hts (.fieldLink RX2 19 "PolygonFrameModel" "fromX" "[I") (by decide +kernel)) (fun _ h9 => h9) rfl dX2_pass_62 ?_
            refine lv_iload_n hx hb dX2_pass_65 rfl (lv_at hl 1 rfl) ?_
            refine q_iald (k := (prN F k)) hx hb hK.1 hP 1 0 rfl rfl (Nat.lt_of_lt_of_le hp hF) (by decide) dX2_pass_66 ?_
            refine lv_aload_n hx hb dX2_pass_67 rfl (lv_at hl 2 rfl) ?_
            refine va_get (D := D) (ci := 2) (v := .ref afy) (C := RX2) (T := TX2) (N := 17) hx hb hts nX2_pass_X2 hown hK.1 hP 0 rfl rfl 8 (by decide) (hts (.fieldLink RX2 22 "PolygonFrameModel" "fromY" "[I") (by decide +kernel)) (fun _ h9 => h9) rfl dX2_pass_68 ?_
            refine lv_iload_n hx hb dX2_pass_71 rfl (lv_at hl 1 rfl) ?_
            refine q_iald (k := (prN F k)) hx hb hK.1 hP 2 0 rfl rfl (Nat.lt_of_lt_of_le hp hF) (by decide) dX2_pass_72 ?_
            refine rd_i (va_runV (As := [.int (nI q), .int (fx (prN F k)), .int (fy (prN F k))]) ⟨hx, hb, hml, hown, hts⟩ (kX2_depth l D cI cZ m0 aP ax ay afx afy atx aty wd hg cap n (nI F) (nI (mpV cap tx ty q sd fx fy F k).1) (sd 0) (sd 1) (sd 2) (sd 3) q (fx (prN F k)) (fy (prN F k)) hq) (cwV 3 hts gX2_pass_X2_depth rfl rfl rfl (by decide +kernel) ⟨Nat.le_of_ble_eq_true rfl, Nat.le_of_ble_eq_true rfl⟩) (rd_preV (ci := 2) (q0 := 0) (hP.sub [0] rfl) hK rfl rfl) rfl rfl hl.1 rfl (lv_room (Nat.le_of_ble_eq_true rfl)) dX2_pass_73 ⟨Nat.zero_le _, Nat.zero_le _⟩) ?_
            refine lv_if_lt (tgt := 83) hx hb dX2_pass_76 (by decide) (fun c76 => ?_) (fun c76 => ?_)
            · skip
              refine lv_iconst (v := 0) hx hb dX2_pass_83 (by decide) ?_
              refine q_eq (show 0 = bI (gM q sd fx fy (prN F k)) from bI_ff (decide_eq_false (fun h => h c76))) ?_
              refine lv_istore (lv' := [(5, .int (bI (gM q sd fx fy (prN F k)))), (4, .int (bI (gM q sd fx fy k))), (3, .int (nI (prN F k))), (0, .ref m0), (1, .int (nI q)), (2, .int (nI k))]) hx hb dX2_pass_84 hl (by decide) rfl (fun ls hl => ?_)
              refine lv_iload hx hb dX2_pass_86 (lv_at hl 1 rfl) ?_
              refine lv_iload hx hb dX2_pass_88 (lv_at hl 0 rfl) ?_
              refine lv_icmp_eq (tgt := 122) hx hb dX2_pass_90 (by decide) (fun c90 => ?_) (fun c90 => ?_)
              · skip
                refine lv_iload hx hb dX2_pass_122 (lv_at hl 1 rfl) ?_
                refine lv_if_eq (tgt := 143) hx hb dX2_pass_124 (by decide) (fun c124 => ?_) (fun c124 => ?_)
                · skip
                  refine lv_iinc (v := (nI (k + 1))) (lv' := [(2, .int (nI (k + 1))), (5, .int (bI (gM q sd fx fy (prN F k)))), (4, .int (bI (gM q sd fx fy k))), (3, .int (nI (prN F k))), (0, .ref m0), (1, .int (nI q))]) hx hb dX2_pass_143 hl (k := 5) rfl (nI_1 _) (by decide) rfl (fun ls hl => ?_)
                  have e : (mpV cap tx ty q sd fx fy F k) = (mpV cap tx ty q sd fx fy F (k + 1)) := by rw [mpV, mpV, mpL, mpL, out_00 (bI_eq.mp c90) (bI_eq0.mp c124)]
                  refine lv_goto (tgt := 7) hx hb dX2_pass_146 (by decide) ?_
                  rw [e] at hP hD
                  exact ih (k + 1) (by omega) (by omega) H locs hP hD hS ls (lv_sub hl [4, 5, 0] rfl)
                · skip
                  refine lv_aload_n hx hb dX2_pass_127 rfl (lv_at hl 3 rfl) ?_
                  refine lv_aload_n hx hb dX2_pass_128 rfl (lv_at hl 3 rfl) ?_
                  refine va_get (D := D) (ci := 2) (v := .ref afx) (C := RX2) (T := TX2) (N := 17) hx hb hts nX2_pass_X2 hown hK.1 hP 0 rfl rfl 7 (by decide) (hts (.fieldLink RX2 19 "PolygonFrameModel" "fromX" "[I") (by decide +kernel)) (fun _ h9 => h9) rfl dX2_pass_129 ?_
                  refine lv_iload_n hx hb dX2_pass_132 rfl (lv_at hl 5 rfl) ?_
                  refine q_iald (k := k) hx hb hK.1 hP 1 0 rfl rfl (by omega) (by omega) dX2_pass_133 ?_
                  refine lv_aload_n hx hb dX2_pass_134 rfl (lv_at hl 3 rfl) ?_
                  refine va_get (D := D) (ci := 2) (v := .ref afy) (C := RX2) (T := TX2) (N := 17) hx hb hts nX2_pass_X2 hown hK.1 hP 0 rfl rfl 8 (by decide) (hts (.fieldLink RX2 22 "PolygonFrameModel" "fromY" "[I") (by decide +kernel)) (fun _ h9 => h9) rfl dX2_pass_135 ?_
                  refine lv_iload_n hx hb dX2_pass_138 rfl (lv_at hl 5 rfl) ?_
                  refine q_iald (k := k) hx hb hK.1 hP 2 0 rfl rfl (by omega) (by omega) dX2_pass_139 ?_
                  refine wr_v (wr := [(afx, .inl (cI, 60, .inl fx)), (afy, .inl (cI, 60, .inl fy))]) hP hD hS hA [0, 3, 4] [1, 2] rfl rfl (by decide) (by decide) (va_runV (As := [.int (fx k), .int (fy k)]) ⟨hx, hb, hml, hown, hts⟩ (kX2_add l D cI cZ H.size m0 aP ax ay afx afy atx aty wd hg cap n (nI F) (sd 0) (sd 1) (sd 2) (sd 3) (mpV cap tx ty q sd fx fy F k) (fx k) (fy k) (by omega) hc) (cwV 2 hts gX2_pass_X2_add rfl rfl rfl (by decide +kernel) ⟨Nat.le_of_ble_eq_true rfl, Nat.le_of_ble_eq_true rfl⟩) (wr_preV (ci := 2) (q0 := 0) (hP.sub [0, 3, 4] rfl) hK (hD.sub [0, 3, 4] (by decide) rfl) rfl rfl) rfl rfl hl.1 rfl (lv_room (Nat.le_of_ble_eq_true rfl)) dX2_pass_140 ⟨Nat.zero_le _, Nat.zero_le _⟩) (fun u2 H locs hw2 hP hD hS => ?_)
                  replace hP : va_P D vwCl [(m0, .inr (2, [.int (nI wd), .int (nI hg), .int (nI cap), .ref aP, .ref ax, .ref ay, .int (nI n), .ref afx, .ref afy, .ref atx, .ref aty, .int (nI F), .int (nI u2.1), .int (sd 0), .int (sd 1), .int (sd 2), .int (sd 3)])), (afx, .inl (cI, 60, .inl fx)), (afy, .inl (cI, 60, .inl fy)), (atx, .inl (cI, 60, .inl u2.2.1)), (aty, .inl (cI, 60, .inl u2.2.2))] H := hP.sub [2, 0, 1, 3, 4] rfl
                  replace hD : va_D A [(m0, .inr (2, [.int (nI wd), .int (nI hg), .int (nI cap), .ref aP, .ref ax, .ref ay, .int (nI n), .ref afx, .ref afy, .ref atx, .ref aty, .int (nI F), .int (nI u2.1), .int (sd 0), .int (sd 1), .int (sd 2), .int (sd 3)])), (afx, .inl (cI, 60, .inl fx)), (afy, .inl (cI, 60, .inl fy)), (atx, .inl (cI, 60, .inl u2.2.1)), (aty, .inl (cI, 60, .inl u2.2.2))] := hD.sub [2, 0, 1, 3, 4] (by decide) rfl
                  refine lv_iinc (v := (nI (k + 1))) (lv' := [(2, .int (nI (k + 1))), (5, .int (bI (gM q sd fx fy (prN F k)))), (4, .int (bI (gM q sd fx fy k))), (3, .int (nI (prN F k))), (0, .ref m0), (1, .int (nI q))]) hx hb dX2_pass_143 hl (k := 5) rfl (nI_1 _) (by decide) rfl (fun ls hl => ?_)
                  have e : u2 = (mpV cap tx ty q sd fx fy F (k + 1)) := by rw [mpV, mpL, out_01 (bI_eq.mp c90) (bI_ne c124), mpU_snoc]; rw [hw2]; rfl
                  refine lv_goto (tgt := 7) hx hb dX2_pass_146 (by decide) ?_
                  rw [e] at hP hD
                  exact ih (k + 1) (by omega) (by omega) H locs hP hD hS ls (lv_sub hl [4, 5, 0] rfl)
              · skip
                refine lv_aload_n hx hb dX2_pass_93 rfl (lv_at hl 3 rfl) ?_
                refine lv_iload_n hx hb dX2_pass_94 rfl (lv_at hl 4 rfl) ?_
                refine lv_aload_n hx hb dX2_pass_95 rfl (lv_at hl 3 rfl) ?_
                refine va_get (D := D) (ci := 2) (v := .ref afx) (C := RX2) (T := TX2) (N := 17) hx hb hts nX2_pass_X2 hown hK.1 hP 0 rfl rfl 7 (by decide) (hts (.fieldLink RX2 19 "PolygonFrameModel" "fromX" "[I") (by decide +kernel)) (fun _ h9 => h9) rfl dX2_pass_96 ?_
                refine lv_iload_n hx hb dX2_pass_99 rfl (lv_at hl 2 rfl) ?_
                refine q_iald (k := (prN F k)) hx hb hK.1 hP 1 0 rfl rfl (Nat.lt_of_lt_of_le hp hF) (by decide) dX2_pass_100 ?_
                refine lv_aload_n hx hb dX2_pass_101 rfl (lv_at hl 3 rfl) ?_
                refine va_get (D := D) (ci := 2) (v := .ref afy) (C := RX2) (T := TX2) (N := 17) hx hb hts nX2_pass_X2 hown hK.1 hP 0 rfl rfl 8 (by decide) (hts (.fieldLink RX2 22 "PolygonFrameModel" "fromY" "[I") (by decide +kernel)) (fun _ h9 => h9) rfl dX2_pass_102 ?_
                refine lv_iload_n hx hb dX2_pass_105 rfl (lv_at hl 2 rfl) ?_
                refine q_iald (k := (prN F k)) hx hb hK.1 hP 2 0 rfl rfl (Nat.lt_of_lt_of_le hp hF) (by decide) dX2_pass_106 ?_
                refine lv_aload_n hx hb dX2_pass_107 rfl (lv_at hl 3 rfl) ?_
                refine va_get (D := D) (ci := 2) (v := .ref afx) (C := RX2) (T := TX2) (N := 17) hx hb hts nX2_pass_X2 hown hK.1 hP 0 rfl rfl 7 (by decide) (hts (.fieldLink RX2 19 "PolygonFrameModel" "fromX" "[I") (by decide +kernel)) (fun _ h9 => h9) rfl dX2_pass_108 ?_
                refine lv_iload_n hx hb dX2_pass_111 rfl (lv_at hl 5 rfl) ?_
                refine q_iald (k := k) hx hb hK.1 hP 1 0 rfl rfl (by omega) (by omega) dX2_pass_112 ?_
                refine lv_aload_n hx hb dX2_pass_113 rfl (lv_at hl 3 rfl) ?_
                refine va_get (D := D) (ci := 2) (v := .ref afy) (C := RX2) (T := TX2) (N := 17) hx hb hts nX2_pass_X2 hown hK.1 hP 0 rfl rfl 8 (by decide) (hts (.fieldLink RX2 22 "PolygonFrameModel" "fromY" "[I") (by decide +kernel)) (fun _ h9 => h9) rfl dX2_pass_114 ?_
                refine lv_iload_n hx hb dX2_pass_117 rfl (lv_at hl 5 rfl) ?_
                refine q_iald (k := k) hx hb hK.1 hP 2 0 rfl rfl (by omega) (by omega) dX2_pass_118 ?_
                have hgg : ¬ gM q sd fx fy k = gM q sd fx fy (prN F k) := fun h => c90 (by rw [h])
                refine wr_v (wr := [(afx, .inl (cI, 60, .inl fx)), (afy, .inl (cI, 60, .inl fy))]) hP hD hS hA [0, 3, 4] [1, 2] rfl rfl (by decide) (by decide) (va_runV (As := [.int (nI q), .int (fx (prN F k)), .int (fy (prN F k)), .int (fx k), .int (fy k)]) ⟨hx, hb, hml, hown, hts⟩ (kX2_cut l D cI cZ H.size m0 aP ax ay afx afy atx aty wd hg cap n (nI F) sd (mpV cap tx ty q sd fx fy F k) q (fx (prN F k)) (fy (prN F k)) (fx k) (fy k) hq (gM_nx hgg).1 (gM_nx hgg).2 (by omega) hc) (cwV 5 hts gX2_pass_X2_cut rfl rfl rfl (by decide +kernel) ⟨Nat.le_of_ble_eq_true rfl, Nat.le_of_ble_eq_true rfl⟩) (wr_preV (ci := 2) (q0 := 0) (hP.sub [0, 3, 4] rfl) hK (hD.sub [0, 3, 4] (by decide) rfl) rfl rfl) rfl rfl hl.1 rfl (lv_room (Nat.le_of_ble_eq_true rfl)) dX2_pass_119 ⟨Nat.zero_le _, Nat.zero_le _⟩) (fun u1 H locs hw1 hP hD hS => ?_)
                replace hP : va_P D vwCl [(m0, .inr (2, [.int (nI wd), .int (nI hg), .int (nI cap), .ref aP, .ref ax, .ref ay, .int (nI n), .ref afx, .ref afy, .ref atx, .ref aty, .int (nI F), .int (nI u1.1), .int (sd 0), .int (sd 1), .int (sd 2), .int (sd 3)])), (afx, .inl (cI, 60, .inl fx)), (afy, .inl (cI, 60, .inl fy)), (atx, .inl (cI, 60, .inl u1.2.1)), (aty, .inl (cI, 60, .inl u1.2.2))] H := hP.sub [2, 0, 1, 3, 4] rfl
                replace hD : va_D A [(m0, .inr (2, [.int (nI wd), .int (nI hg), .int (nI cap), .ref aP, .ref ax, .ref ay, .int (nI n), .ref afx, .ref afy, .ref atx, .ref aty, .int (nI F), .int (nI u1.1), .int (sd 0), .int (sd 1), .int (sd 2), .int (sd 3)])), (afx, .inl (cI, 60, .inl fx)), (afy, .inl (cI, 60, .inl fy)), (atx, .inl (cI, 60, .inl u1.2.1)), (aty, .inl (cI, 60, .inl u1.2.2))] := hD.sub [2, 0, 1, 3, 4] (by decide) rfl
                have hu1 : u1.1 ≤ 1000 := by rw [hw1, adP_1]; omega
                refine lv_iload hx hb dX2_pass_122 (lv_at hl 1 rfl) ?_
                refine lv_if_eq (tgt := 143) hx hb dX2_pass_124 (by decide) (fun c124 => ?_) (fun c124 => ?_)
                · skip
                  refine lv_iinc (v := (nI (k + 1))) (lv' := [(2, .int (nI (k + 1))), (5, .int (bI (gM q sd fx fy (prN F k)))), (4, .int (bI (gM q sd fx fy k))), (3, .int (nI (prN F k))), (0, .ref m0), (1, .int (nI q))]) hx hb dX2_pass_143 hl (k := 5) rfl (nI_1 _) (by decide) rfl (fun ls hl => ?_)
                  have e : u1 = (mpV cap tx ty q sd fx fy F (k + 1)) := by rw [mpV, mpL, out_10 hgg (bI_eq0.mp c124), mpU_snoc]; rw [hw1]; rfl
                  refine lv_goto (tgt := 7) hx hb dX2_pass_146 (by decide) ?_
                  rw [e] at hP hD
                  exact ih (k + 1) (by omega) (by omega) H locs hP hD hS ls (lv_sub hl [4, 5, 0] rfl)
                · skip
                  refine lv_aload_n hx hb dX2_pass_127 rfl (lv_at hl 3 rfl) ?_
                  refine lv_aload_n hx hb dX2_pass_128 rfl (lv_at hl 3 rfl) ?_
                  refine va_get (D := D) (ci := 2) (v := .ref afx) (C := RX2) (T := TX2) (N := 17) hx hb hts nX2_pass_X2 hown hK.1 hP 0 rfl rfl 7 (by decide) (hts (.fieldLink RX2 19 "PolygonFrameModel" "fromX" "[I") (by decide +kernel)) (fun _ h9 => h9) rfl dX2_pass_129 ?_
                  refine lv_iload_n hx hb dX2_pass_132 rfl (lv_at hl 5 rfl) ?_
                  refine q_iald (k := k) hx hb hK.1 hP 1 0 rfl rfl (by omega) (by omega) dX2_pass_133 ?_
                  refine lv_aload_n hx hb dX2_pass_134 rfl (lv_at hl 3 rfl) ?_
                  refine va_get (D := D) (ci := 2) (v := .ref afy) (C := RX2) (T := TX2) (N := 17) hx hb hts nX2_pass_X2 hown hK.1 hP 0 rfl rfl 8 (by decide) (hts (.fieldLink RX2 22 "PolygonFrameModel" "fromY" "[I") (by decide +kernel)) (fun _ h9 => h9) rfl dX2_pass_135 ?_
                  refine lv_iload_n hx hb dX2_pass_138 rfl (lv_at hl 5 rfl) ?_
                  refine q_iald (k := k) hx hb hK.1 hP 2 0 rfl rfl (by omega) (by omega) dX2_pass_139 ?_
                  refine wr_v (wr := [(afx, .inl (cI, 60, .inl fx)), (afy, .inl (cI, 60, .inl fy))]) hP hD hS hA [0, 3, 4] [1, 2] rfl rfl (by decide) (by decide) (va_runV (As := [.int (fx k), .int (fy k)]) ⟨hx, hb, hml, hown, hts⟩ (kX2_add l D cI cZ H.size m0 aP ax ay afx afy atx aty wd hg cap n (nI F) (sd 0) (sd 1) (sd 2) (sd 3) u1 (fx k) (fy k) hu1 hc) (cwV 2 hts gX2_pass_X2_add rfl rfl rfl (by decide +kernel) ⟨Nat.le_of_ble_eq_true rfl, Nat.le_of_ble_eq_true rfl⟩) (wr_preV (ci := 2) (q0 := 0) (hP.sub [0, 3, 4] rfl) hK (hD.sub [0, 3, 4] (by decide) rfl) rfl rfl) rfl rfl hl.1 rfl (lv_room (Nat.le_of_ble_eq_true rfl)) dX2_pass_140 ⟨Nat.zero_le _, Nat.zero_le _⟩) (fun u2 H locs hw2 hP hD hS => ?_)
                  replace hP : va_P D vwCl [(m0, .inr (2, [.int (nI wd), .int (nI hg), .int (nI cap), .ref aP, .ref ax, .ref ay, .int (nI n), .ref afx, .ref afy, .ref atx, .ref aty, .int (nI F), .int (nI u2.1), .int (sd 0), .int (sd 1), .int (sd 2), .int (sd 3)])), (afx, .inl (cI, 60, .inl fx)), (afy, .inl (cI, 60, .inl fy)), (atx, .inl (cI, 60, .inl u2.2.1)), (aty, .inl (cI, 60, .inl u2.2.2))] H := hP.sub [2, 0, 1, 3, 4] rfl
                  replace hD : va_D A [(m0, .inr (2, [.int (nI wd), .int (nI hg), .int (nI cap), .ref aP, .ref ax, .ref ay, .int (nI n), .ref afx, .ref afy, .ref atx, .ref aty, .int (nI F), .int (nI u2.1), .int (sd 0), .int (sd 1), .int (sd 2), .int (sd 3)])), (afx, .inl (cI, 60, .inl fx)), (afy, .inl (cI, 60, .inl fy)), (atx, .inl (cI, 60, .inl u2.2.1)), (aty, .inl (cI, 60, .inl u2.2.2))] := hD.sub [2, 0, 1, 3, 4] (by decide) rfl
                  refine lv_iinc (v := (nI (k + 1))) (lv' := [(2, .int (nI (k + 1))), (5, .int (bI (gM q sd fx fy (prN F k)))), (4, .int (bI (gM q sd fx fy k))), (3, .int (nI (prN F k))), (0, .ref m0), (1, .int (nI q))]) hx hb dX2_pass_143 hl (k := 5) rfl (nI_1 _) (by decide) rfl (fun ls hl => ?_)
                  have e : u2 = (mpV cap tx ty q sd fx fy F (k + 1)) := by rw [mpV, mpL, out_11 hgg (bI_ne c124), mpU_snoc, mpU_snoc]; rw [hw2, hw1]; rfl
                  refine lv_goto (tgt := 7) hx hb dX2_pass_146 (by decide) ?_
                  rw [e] at hP hD
                  exact ih (k + 1) (by omega) (by omega) H locs hP hD hS ls (lv_sub hl [4, 5, 0] rfl)
            · skip
              refine lv_iconst (v := 1) hx hb dX2_pass_79 (by decide) ?_
              refine lv_goto (tgt := 84) hx hb dX2_pass_80 (by decide) ?_
              refine q_eq (show 1 = bI (gM q sd fx fy (prN F k)) from bI_tt (decide_eq_true c76)) ?_
              refine lv_istore (lv' := [(5, .int (bI (gM q sd fx fy (prN F k)))), (4, .int (bI (gM q sd fx fy k))), (3, .int (nI (prN F k))), (0, .ref m0), (1, .int (nI q)), (2, .int (nI k))]) hx hb dX2_pass_84 hl (by decide) rfl (fun ls hl => ?_)
              refine lv_iload hx hb dX2_pass_86 (lv_at hl 1 rfl) ?_
              refine lv_iload hx hb dX2_pass_88 (lv_at hl 0 rfl) ?_
              refine lv_icmp_eq (tgt := 122) hx hb dX2_pass_90 (by decide) (fun c90 => ?_) (fun c90 => ?_)
              · skip
                refine lv_iload hx hb dX2_pass_122 (lv_at hl 1 rfl) ?_
                refine lv_if_eq (tgt := 143) hx hb dX2_pass_124 (by decide) (fun c124 => ?_) (fun c124 => ?_)
                · skip
                  refine lv_iinc (v := (nI (k + 1))) (lv' := [(2, .int (nI (k + 1))), (5, .int (bI (gM q sd fx fy (prN F k)))), (4, .int (bI (gM q sd fx fy k))), (3, .int (nI (prN F k))), (0, .ref m0), (1, .int (nI q))]) hx hb dX2_pass_143 hl (k := 5) rfl (nI_1 _) (by decide) rfl (fun ls hl => ?_)
                  have e : (mpV cap tx ty q sd fx fy F k) = (mpV cap tx ty q sd fx fy F (k + 1)) := by rw [mpV, mpV, mpL, mpL, out_00 (bI_eq.mp c90) (bI_eq0.mp c124)]
                  refine lv_goto (tgt := 7) hx hb dX2_pass_146 (by decide) ?_
                  rw [e] at hP hD
                  exact ih (k + 1) (by omega) (by omega) H locs hP hD hS ls (lv_sub hl [4, 5, 0] rfl)
                · skip
                  refine lv_aload_n hx hb dX2_pass_127 rfl (lv_at hl 3 rfl) ?_
                  refine lv_aload_n hx hb dX2_pass_128 rfl (lv_at hl 3 rfl) ?_
                  refine va_get (D := D) (ci := 2) (v := .ref afx) (C := RX2) (T := TX2) (N := 17) hx hb hts nX2_pass_X2 hown hK.1 hP 0 rfl rfl 7 (by decide) (hts (.fieldLink RX2 19 "PolygonFrameModel" "fromX" "[I") (by decide +kernel)) (fun _ h9 => h9) rfl dX2_pass_129 ?_
                  refine lv_iload_n hx hb dX2_pass_132 rfl (lv_at hl 5 rfl) ?_
                  refine q_iald (k := k) hx hb hK.1 hP 1 0 rfl rfl (by omega) (by omega) dX2_pass_133 ?_
                  refine lv_aload_n hx hb dX2_pass_134 rfl (lv_at hl 3 rfl) ?_
                  refine va_get (D := D) (ci := 2) (v := .ref afy) (C := RX2) (T := TX2) (N := 17) hx hb hts nX2_pass_X2 hown hK.1 hP 0 rfl rfl 8 (by decide) (hts (.fieldLink RX2 22 "PolygonFrameModel" "fromY" "[I") (by decide +kernel)) (fun _ h9 => h9) rfl dX2_pass_135 ?_
                  refine lv_iload_n hx hb dX2_pass_138 rfl (lv_at hl 5 rfl) ?_
                  refine q_iald (k := k) hx hb hK.1 hP 2 0 rfl rfl (by omega) (by omega) dX2_pass_139 ?_
                  refine wr_v (wr := [(afx, .inl (cI, 60, .inl fx)), (afy, .inl (cI, 60, .inl fy))]) hP hD hS hA [0, 3, 4] [1, 2] rfl rfl (by decide) (by decide) (va_runV (As := [.int (fx k), .int (fy k)]) ⟨hx, hb, hml, hown, hts⟩ (kX2_add l D cI cZ H.size m0 aP ax ay afx afy atx aty wd hg cap n (nI F) (sd 0) (sd 1) (sd 2) (sd 3) (mpV cap tx ty q sd fx fy F k) (fx k) (fy k) (by omega) hc) (cwV 2 hts gX2_pass_X2_add rfl rfl rfl (by decide +kernel) ⟨Nat.le_of_ble_eq_true rfl, Nat.le_of_ble_eq_true rfl⟩) (wr_preV (ci := 2) (q0 := 0) (hP.sub [0, 3, 4] rfl) hK (hD.sub [0, 3, 4] (by decide) rfl) rfl rfl) rfl rfl hl.1 rfl (lv_room (Nat.le_of_ble_eq_true rfl)) dX2_pass_140 ⟨Nat.zero_le _, Nat.zero_le _⟩) (fun u2 H locs hw2 hP hD hS => ?_)
                  replace hP : va_P D vwCl [(m0, .inr (2, [.int (nI wd), .int (nI hg), .int (nI cap), .ref aP, .ref ax, .ref ay, .int (nI n), .ref afx, .ref afy, .ref atx, .ref aty, .int (nI F), .int (nI u2.1), .int (sd 0), .int (sd 1), .int (sd 2), .int (sd 3)])), (afx, .inl (cI, 60, .inl fx)), (afy, .inl (cI, 60, .inl fy)), (atx, .inl (cI, 60, .inl u2.2.1)), (aty, .inl (cI, 60, .inl u2.2.2))] H := hP.sub [2, 0, 1, 3, 4] rfl
                  replace hD : va_D A [(m0, .inr (2, [.int (nI wd), .int (nI hg), .int (nI cap), .ref aP, .ref ax, .ref ay, .int (nI n), .ref afx, .ref afy, .ref atx, .ref aty, .int (nI F), .int (nI u2.1), .int (sd 0), .int (sd 1), .int (sd 2), .int (sd 3)])), (afx, .inl (cI, 60, .inl fx)), (afy, .inl (cI, 60, .inl fy)), (atx, .inl (cI, 60, .inl u2.2.1)), (aty, .inl (cI, 60, .inl u2.2.2))] := hD.sub [2, 0, 1, 3, 4] (by decide) rfl
                  refine lv_iinc (v := (nI (k + 1))) (lv' := [(2, .int (nI (k + 1))), (5, .int (bI (gM q sd fx fy (prN F k)))), (4, .int (bI (gM q sd fx fy k))), (3, .int (nI (prN F k))), (0, .ref m0), (1, .int (nI q))]) hx hb dX2_pass_143 hl (k := 5) rfl (nI_1 _) (by decide) rfl (fun ls hl => ?_)
                  have e : u2 = (mpV cap tx ty q sd fx fy F (k + 1)) := by rw [mpV, mpL, out_01 (bI_eq.mp c90) (bI_ne c124), mpU_snoc]; rw [hw2]; rfl
                  refine lv_goto (tgt := 7) hx hb dX2_pass_146 (by decide) ?_
                  rw [e] at hP hD
                  exact ih (k + 1) (by omega) (by omega) H locs hP hD hS ls (lv_sub hl [4, 5, 0] rfl)
              · skip
                refine lv_aload_n hx hb dX2_pass_93 rfl (lv_at hl 3 rfl) ?_
                refine lv_iload_n hx hb dX2_pass_94 rfl (lv_at hl 4 rfl) ?_
                refine lv_aload_n hx hb dX2_pass_95 rfl (lv_at hl 3 rfl) ?_
                refine va_get (D := D) (ci := 2) (v := .ref afx) (C := RX2) (T := TX2) (N := 17) hx hb hts nX2_pass_X2 hown hK.1 hP 0 rfl rfl 7 (by decide) (hts (.fieldLink RX2 19 "PolygonFrameModel" "fromX" "[I") (by decide +kernel)) (fun _ h9 => h9) rfl dX2_pass_96 ?_
                refine lv_iload_n hx hb dX2_pass_99 rfl (lv_at hl 2 rfl) ?_
                refine q_iald (k := (prN F k)) hx hb hK.1 hP 1 0 rfl rfl (Nat.lt_of_lt_of_le hp hF) (by decide) dX2_pass_100 ?_
                refine lv_aload_n hx hb dX2_pass_101 rfl (lv_at hl 3 rfl) ?_
                refine va_get (D := D) (ci := 2) (v := .ref afy) (C := RX2) (T := TX2) (N := 17) hx hb hts nX2_pass_X2 hown hK.1 hP 0 rfl rfl 8 (by decide) (hts (.fieldLink RX2 22 "PolygonFrameModel" "fromY" "[I") (by decide +kernel)) (fun _ h9 => h9) rfl dX2_pass_102 ?_
                refine lv_iload_n hx hb dX2_pass_105 rfl (lv_at hl 2 rfl) ?_
                refine q_iald (k := (prN F k)) hx hb hK.1 hP 2 0 rfl rfl (Nat.lt_of_lt_of_le hp hF) (by decide) dX2_pass_106 ?_
                refine lv_aload_n hx hb dX2_pass_107 rfl (lv_at hl 3 rfl) ?_
                refine va_get (D := D) (ci := 2) (v := .ref afx) (C := RX2) (T := TX2) (N := 17) hx hb hts nX2_pass_X2 hown hK.1 hP 0 rfl rfl 7 (by decide) (hts (.fieldLink RX2 19 "PolygonFrameModel" "fromX" "[I") (by decide +kernel)) (fun _ h9 => h9) rfl dX2_pass_108 ?_
                refine lv_iload_n hx hb dX2_pass_111 rfl (lv_at hl 5 rfl) ?_
                refine q_iald (k := k) hx hb hK.1 hP 1 0 rfl rfl (by omega) (by omega) dX2_pass_112 ?_
                refine lv_aload_n hx hb dX2_pass_113 rfl (lv_at hl 3 rfl) ?_
                refine va_get (D := D) (ci := 2) (v := .ref afy) (C := RX2) (T := TX2) (N := 17) hx hb hts nX2_pass_X2 hown hK.1 hP 0 rfl rfl 8 (by decide) (hts (.fieldLink RX2 22 "PolygonFrameModel" "fromY" "[I") (by decide +kernel)) (fun _ h9 => h9) rfl dX2_pass_114 ?_
                refine lv_iload_n hx hb dX2_pass_117 rfl (lv_at hl 5 rfl) ?_
                refine q_iald (k := k) hx hb hK.1 hP 2 0 rfl rfl (by omega) (by omega) dX2_pass_118 ?_
                have hgg : ¬ gM q sd fx fy k = gM q sd fx fy (prN F k) := fun h => c90 (by rw [h])
                refine wr_v (wr := [(afx, .inl (cI, 60, .inl fx)), (afy, .inl (cI, 60, .inl fy))]) hP hD hS hA [0, 3, 4] [1, 2] rfl rfl (by decide) (by decide) (va_runV (As := [.int (nI q), .int (fx (prN F k)), .int (fy (prN F k)), .int (fx k), .int (fy k)]) ⟨hx, hb, hml, hown, hts⟩ (kX2_cut l D cI cZ H.size m0 aP ax ay afx afy atx aty wd hg cap n (nI F) sd (mpV cap tx ty q sd fx fy F k) q (fx (prN F k)) (fy (prN F k)) (fx k) (fy k) hq (gM_nx hgg).1 (gM_nx hgg).2 (by omega) hc) (cwV 5 hts gX2_pass_X2_cut rfl rfl rfl (by decide +kernel) ⟨Nat.le_of_ble_eq_true rfl, Nat.le_of_ble_eq_true rfl⟩) (wr_preV (ci := 2) (q0 := 0) (hP.sub [0, 3, 4] rfl) hK (hD.sub [0, 3, 4] (by decide) rfl) rfl rfl) rfl rfl hl.1 rfl (lv_room (Nat.le_of_ble_eq_true rfl)) dX2_pass_119 ⟨Nat.zero_le _, Nat.zero_le _⟩) (fun u1 H locs hw1 hP hD hS => ?_)
                replace hP : va_P D vwCl [(m0, .inr (2, [.int (nI wd), .int (nI hg), .int (nI cap), .ref aP, .ref ax, .ref ay, .int (nI n), .ref afx, .ref afy, .ref atx, .ref aty, .int (nI F), .int (nI u1.1), .int (sd 0), .int (sd 1), .int (sd 2), .int (sd 3)])), (afx, .inl (cI, 60, .inl fx)), (afy, .inl (cI, 60, .inl fy)), (atx, .inl (cI, 60, .inl u1.2.1)), (aty, .inl (cI, 60, .inl u1.2.2))] H := hP.sub [2, 0, 1, 3, 4] rfl
                replace hD : va_D A [(m0, .inr (2, [.int (nI wd), .int (nI hg), .int (nI cap), .ref aP, .ref ax, .ref ay, .int (nI n), .ref afx, .ref afy, .ref atx, .ref aty, .int (nI F), .int (nI u1.1), .int (sd 0), .int (sd 1), .int (sd 2), .int (sd 3)])), (afx, .inl (cI, 60, .inl fx)), (afy, .inl (cI, 60, .inl fy)), (atx, .inl (cI, 60, .inl u1.2.1)), (aty, .inl (cI, 60, .inl u1.2.2))] := hD.sub [2, 0, 1, 3, 4] (by decide) rfl
                have hu1 : u1.1 ≤ 1000 := by rw [hw1, adP_1]; omega
                refine lv_iload hx hb dX2_pass_122 (lv_at hl 1 rfl) ?_
                refine lv_if_eq (tgt := 143) hx hb dX2_pass_124 (by decide) (fun c124 => ?_) (fun c124 => ?_)
                · skip
                  refine lv_iinc (v := (nI (k + 1))) (lv' := [(2, .int (nI (k + 1))), (5, .int (bI (gM q sd fx fy (prN F k)))), (4, .int (bI (gM q sd fx fy k))), (3, .int (nI (prN F k))), (0, .ref m0), (1, .int (nI q))]) hx hb dX2_pass_143 hl (k := 5) rfl (nI_1 _) (by decide) rfl (fun ls hl => ?_)
                  have e : u1 = (mpV cap tx ty q sd fx fy F (k + 1)) := by rw [mpV, mpL, out_10 hgg (bI_eq0.mp c124), mpU_snoc]; rw [hw1]; rfl
                  refine lv_goto (tgt := 7) hx hb dX2_pass_146 (by decide) ?_
                  rw [e] at hP hD
                  exact ih (k + 1) (by omega) (by omega) H locs hP hD hS ls (lv_sub hl [4, 5, 0] rfl)
                · skip
                  refine lv_aload_n hx hb dX2_pass_127 rfl (lv_at hl 3 rfl) ?_
                  refine lv_aload_n hx hb dX2_pass_128 rfl (lv_at hl 3 rfl) ?_
                  refine va_get (D := D) (ci := 2) (v := .ref afx) (C := RX2) (T := TX2) (N := 17) hx hb hts nX2_pass_X2 hown hK.1 hP 0 rfl rfl 7 (by decide) (hts (.fieldLink RX2 19 "PolygonFrameModel" "fromX" "[I") (by decide +kernel)) (fun _ h9 => h9) rfl dX2_pass_129 ?_
                  refine lv_iload_n hx hb dX2_pass_132 rfl (lv_at hl 5 rfl) ?_
                  refine q_iald (k := k) hx hb hK.1 hP 1 0 rfl rfl (by omega) (by omega) dX2_pass_133 ?_
                  refine lv_aload_n hx hb dX2_pass_134 rfl (lv_at hl 3 rfl) ?_
                  refine va_get (D := D) (ci := 2) (v := .ref afy) (C := RX2) (T := TX2) (N := 17) hx hb hts nX2_pass_X2 hown hK.1 hP 0 rfl rfl 8 (by decide) (hts (.fieldLink RX2 22 "PolygonFrameModel" "fromY" "[I") (by decide +kernel)) (fun _ h9 => h9) rfl dX2_pass_135 ?_
                  refine lv_iload_n hx hb dX2_pass_138 rfl (lv_at hl 5 rfl) ?_
                  refine q_iald (k := k) hx hb hK.1 hP 2 0 rfl rfl (by omega) (by omega) dX2_pass_139 ?_
                  refine wr_v (wr := [(afx, .inl (cI, 60, .inl fx)), (afy, .inl (cI, 60, .inl fy))]) hP hD hS hA [0, 3, 4] [1, 2] rfl rfl (by decide) (by decide) (va_runV (As := [.int (fx k), .int (fy k)]) ⟨hx, hb, hml, hown, hts⟩ (kX2_add l D cI cZ H.size m0 aP ax ay afx afy atx aty wd hg cap n (nI F) (sd 0) (sd 1) (sd 2) (sd 3) u1 (fx k) (fy k) hu1 hc) (cwV 2 hts gX2_pass_X2_add rfl rfl rfl (by decide +kernel) ⟨Nat.le_of_ble_eq_true rfl, Nat.le_of_ble_eq_true rfl⟩) (wr_preV (ci := 2) (q0 := 0) (hP.sub [0, 3, 4] rfl) hK (hD.sub [0, 3, 4] (by decide) rfl) rfl rfl) rfl rfl hl.1 rfl (lv_room (Nat.le_of_ble_eq_true rfl)) dX2_pass_140 ⟨Nat.zero_le _, Nat.zero_le _⟩) (fun u2 H locs hw2 hP hD hS => ?_)
                  replace hP : va_P D vwCl [(m0, .inr (2, [.int (nI wd), .int (nI hg), .int (nI cap), .ref aP, .ref ax, .ref ay, .int (nI n), .ref afx, .ref afy, .ref atx, .ref aty, .int (nI F), .int (nI u2.1), .int (sd 0), .int (sd 1), .int (sd 2), .int (sd 3)])), (afx, .inl (cI, 60, .inl fx)), (afy, .inl (cI, 60, .inl fy)), (atx, .inl (cI, 60, .inl u2.2.1)), (aty, .inl (cI, 60, .inl u2.2.2))] H := hP.sub [2, 0, 1, 3, 4] rfl
                  replace hD : va_D A [(m0, .inr (2, [.int (nI wd), .int (nI hg), .int (nI cap), .ref aP, .ref ax, .ref ay, .int (nI n), .ref afx, .ref afy, .ref atx, .ref aty, .int (nI F), .int (nI u2.1), .int (sd 0), .int (sd 1), .int (sd 2), .int (sd 3)])), (afx, .inl (cI, 60, .inl fx)), (afy, .inl (cI, 60, .inl fy)), (atx, .inl (cI, 60, .inl u2.2.1)), (aty, .inl (cI, 60, .inl u2.2.2))] := hD.sub [2, 0, 1, 3, 4] (by decide) rfl
                  refine lv_iinc (v := (nI (k + 1))) (lv' := [(2, .int (nI (k + 1))), (5, .int (bI (gM q sd fx fy (prN F k)))), (4, .int (bI (gM q sd fx fy k))), (3, .int (nI (prN F k))), (0, .ref m0), (1, .int (nI q))]) hx hb dX2_pass_143 hl (k := 5) rfl (nI_1 _) (by decide) rfl (fun ls hl => ?_)
                  have e : u2 = (mpV cap tx ty q sd fx fy F (k + 1)) := by rw [mpV, mpL, out_11 hgg (bI_ne c124), mpU_snoc, mpU_snoc]; rw [hw2, hw1]; rfl
                  refine lv_goto (tgt := 7) hx hb dX2_pass_146 (by decide) ?_
                  rw [e] at hP hD
                  exact ih (k + 1) (by omega) (by omega) H locs hP hD hS ls (lv_sub hl [4, 5, 0] rfl)
        · skip
          refine lv_aload_n hx hb dX2_pass_19 rfl (lv_at hl 0 rfl) ?_
          refine va_get (D := D) (ci := 2) (v := .int (nI F)) (C := RX2) (T := TX2) (N := 17) hx hb hts nX2_pass_X2 hown hK.1 hP 0 rfl rfl 11 (by decide) (hts (.fieldLink RX2 75 "PolygonFrameModel" "from" "I") (by decide +kernel)) (fun _ h9 => h9) rfl dX2_pass_20 ?_
          refine lv_iconst (v := 1) hx hb dX2_pass_23 (by decide) ?_
          refine lv_isub hx hb dX2_pass_24 ?_
          refine lv_goto (tgt := 31) hx hb dX2_pass_25 (by decide) ?_
          have hk0 : k = 0 := (nI_eq (b := 0) (by omega) (by omega)).mp c16
          refine q_eq (show nI F - 1 = nI (prN F k) by rw [prN, if_pos hk0, ← pk_sub (a := F) (b := 1) (by omega)]; rfl) ?_
          refine lv_istore_n (lv' := [(3, .int (nI (prN F k))), (0, .ref m0), (1, .int (nI q)), (2, .int (nI k))]) hx hb dX2_pass_31 rfl hl (by decide) rfl (fun ls hl => ?_)
          refine lv_aload_n hx hb dX2_pass_32 rfl (lv_at hl 1 rfl) ?_
          refine lv_iload_n hx hb dX2_pass_33 rfl (lv_at hl 2 rfl) ?_
          refine lv_aload_n hx hb dX2_pass_34 rfl (lv_at hl 1 rfl) ?_
          refine va_get (D := D) (ci := 2) (v := .ref afx) (C := RX2) (T := TX2) (N := 17) hx hb hts nX2_pass_X2 hown hK.1 hP 0 rfl rfl 7 (by decide) (hts (.fieldLink RX2 19 "PolygonFrameModel" "fromX" "[I") (by decide +kernel)) (fun _ h9 => h9) rfl dX2_pass_35 ?_
          refine lv_iload_n hx hb dX2_pass_38 rfl (lv_at hl 3 rfl) ?_
          refine q_iald (k := k) hx hb hK.1 hP 1 0 rfl rfl (by omega) (by omega) dX2_pass_39 ?_
          refine lv_aload_n hx hb dX2_pass_40 rfl (lv_at hl 1 rfl) ?_
          refine va_get (D := D) (ci := 2) (v := .ref afy) (C := RX2) (T := TX2) (N := 17) hx hb hts nX2_pass_X2 hown hK.1 hP 0 rfl rfl 8 (by decide) (hts (.fieldLink RX2 22 "PolygonFrameModel" "fromY" "[I") (by decide +kernel)) (fun _ h9 => h9) rfl dX2_pass_41 ?_
          refine lv_iload_n hx hb dX2_pass_44 rfl (lv_at hl 3 rfl) ?_
          refine q_iald (k := k) hx hb hK.1 hP 2 0 rfl rfl (by omega) (by omega) dX2_pass_45 ?_
          refine rd_i (va_runV (As := [.int (nI q), .int (fx k), .int (fy k)]) ⟨hx, hb, hml, hown, hts⟩ (kX2_depth l D cI cZ m0 aP ax ay afx afy atx aty wd hg cap n (nI F) (nI (mpV cap tx ty q sd fx fy F k).1) (sd 0) (sd 1) (sd 2) (sd 3) q (fx k) (fy k) hq) (cwV 3 hts gX2_pass_X2_depth rfl rfl rfl (by decide +kernel) ⟨Nat.le_of_ble_eq_true rfl, Nat.le_of_ble_eq_true rfl⟩) (rd_preV (ci := 2) (q0 := 0) (hP.sub [0] rfl) hK rfl rfl) rfl rfl hl.1 rfl (lv_room (Nat.le_of_ble_eq_true rfl)) dX2_pass_46 ⟨Nat.zero_le _, Nat.zero_le _⟩) ?_
          refine lv_if_lt (tgt := 56) hx hb dX2_pass_49 (by decide) (fun c49 => ?_) (fun c49 => ?_)
          · skip
            refine lv_iconst (v := 0) hx hb dX2_pass_56 (by decide) ?_
            refine q_eq (show 0 = bI (gM q sd fx fy k) from bI_ff (decide_eq_false (fun h => h c49))) ?_
            refine lv_istore (lv' := [(4, .int (bI (gM q sd fx fy k))), (3, .int (nI (prN F k))), (0, .ref m0), (1, .int (nI q)), (2, .int (nI k))]) hx hb dX2_pass_57 hl (by decide) rfl (fun ls hl => ?_)
            refine lv_aload_n hx hb dX2_pass_59 rfl (lv_at hl 2 rfl) ?_
            refine lv_iload_n hx hb dX2_pass_60 rfl (lv_at hl 3 rfl) ?_
            refine lv_aload_n hx hb dX2_pass_61 rfl (lv_at hl 2 rfl) ?_
            refine va_get (D := D) (ci := 2) (v := .ref afx) (C := RX2) (T := TX2) (N := 17) hx hb hts nX2_pass_X2 hown hK.1 hP 0 rfl rfl 7 (by decide) (hts (.fieldLink RX2 19 "PolygonFrameModel" "fromX" "[I") (by decide +kernel)) (fun _ h9 => h9) rfl dX2_pass_62 ?_
            refine lv_iload_n hx hb dX2_pass_65 rfl (lv_at hl 1 rfl) ?_
            refine q_iald (k := (prN F k)) hx hb hK.1 hP 1 0 rfl rfl (Nat.lt_of_lt_of_le hp hF) (by decide) dX2_pass_66 ?_
            refine lv_aload_n hx hb dX2_pass_67 rfl (lv_at hl 2 rfl) ?_
            refine va_get (D := D) (ci := 2) (v := .ref afy) (C := RX2) (T := TX2) (N := 17) hx hb hts nX2_pass_X2 hown hK.1 hP 0 rfl rfl 8 (by decide) (hts (.fieldLink RX2 22 "PolygonFrameModel" "fromY" "[I") (by decide +kernel)) (fun _ h9 => h9) rfl dX2_pass_68 ?_
            refine lv_iload_n hx hb dX2_pass_71 rfl (lv_at hl 1 rfl) ?_
            refine q_iald (k := (prN F k)) hx hb hK.1 hP 2 0 rfl rfl (Nat.lt_of_lt_of_le hp hF) (by decide) dX2_pass_72 ?_
            refine rd_i (va_runV (As := [.int (nI q), .int (fx (prN F k)), .int (fy (prN F k))]) ⟨hx, hb, hml, hown, hts⟩ (kX2_depth l D cI cZ m0 aP ax ay afx afy atx aty wd hg cap n (nI F) (nI (mpV cap tx ty q sd fx fy F k).1) (sd 0) (sd 1) (sd 2) (sd 3) q (fx (prN F k)) (fy (prN F k)) hq) (cwV 3 hts gX2_pass_X2_depth rfl rfl rfl (by decide +kernel) ⟨Nat.le_of_ble_eq_true rfl, Nat.le_of_ble_eq_true rfl⟩) (rd_preV (ci := 2) (q0 := 0) (hP.sub [0] rfl) hK rfl rfl) rfl rfl hl.1 rfl (lv_room (Nat.le_of_ble_eq_true rfl)) dX2_pass_73 ⟨Nat.zero_le _, Nat.zero_le _⟩) ?_
            refine lv_if_lt (tgt := 83) hx hb dX2_pass_76 (by decide) (fun c76 => ?_) (fun c76 => ?_)
            · skip
              refine lv_iconst (v := 0) hx hb dX2_pass_83 (by decide) ?_
              refine q_eq (show 0 = bI (gM q sd fx fy (prN F k)) from bI_ff (decide_eq_false (fun h => h c76))) ?_
              refine lv_istore (lv' := [(5, .int (bI (gM q sd fx fy (prN F k)))), (4, .int (bI (gM q sd fx fy k))), (3, .int (nI (prN F k))), (0, .ref m0), (1, .int (nI q)), (2, .int (nI k))]) hx hb dX2_pass_84 hl (by decide) rfl (fun ls hl => ?_)
              refine lv_iload hx hb dX2_pass_86 (lv_at hl 1 rfl) ?_
              refine lv_iload hx hb dX2_pass_88 (lv_at hl 0 rfl) ?_
              refine lv_icmp_eq (tgt := 122) hx hb dX2_pass_90 (by decide) (fun c90 => ?_) (fun c90 => ?_)
              · skip
                refine lv_iload hx hb dX2_pass_122 (lv_at hl 1 rfl) ?_
                refine lv_if_eq (tgt := 143) hx hb dX2_pass_124 (by decide) (fun c124 => ?_) (fun c124 => ?_)
                · skip
                  refine lv_iinc (v := (nI (k + 1))) (lv' := [(2, .int (nI (k + 1))), (5, .int (bI (gM q sd fx fy (prN F k)))), (4, .int (bI (gM q sd fx fy k))), (3, .int (nI (prN F k))), (0, .ref m0), (1, .int (nI q))]) hx hb dX2_pass_143 hl (k := 5) rfl (nI_1 _) (by decide) rfl (fun ls hl => ?_)
                  have e : (mpV cap tx ty q sd fx fy F k) = (mpV cap tx ty q sd fx fy F (k + 1)) := by rw [mpV, mpV, mpL, mpL, out_00 (bI_eq.mp c90) (bI_eq0.mp c124)]
                  refine lv_goto (tgt := 7) hx hb dX2_pass_146 (by decide) ?_
                  rw [e] at hP hD
                  exact ih (k + 1) (by omega) (by omega) H locs hP hD hS ls (lv_sub hl [4, 5, 0] rfl)
                · skip
                  refine lv_aload_n hx hb dX2_pass_127 rfl (lv_at hl 3 rfl) ?_
                  refine lv_aload_n hx hb dX2_pass_128 rfl (lv_at hl 3 rfl) ?_
                  refine va_get (D := D) (ci := 2) (v := .ref afx) (C := RX2) (T := TX2) (N := 17) hx hb hts nX2_pass_X2 hown hK.1 hP 0 rfl rfl 7 (by decide) (hts (.fieldLink RX2 19 "PolygonFrameModel" "fromX" "[I") (by decide +kernel)) (fun _ h9 => h9) rfl dX2_pass_129 ?_
                  refine lv_iload_n hx hb dX2_pass_132 rfl (lv_at hl 5 rfl) ?_
                  refine q_iald (k := k) hx hb hK.1 hP 1 0 rfl rfl (by omega) (by omega) dX2_pass_133 ?_
                  refine lv_aload_n hx hb dX2_pass_134 rfl (lv_at hl 3 rfl) ?_
                  refine va_get (D := D) (ci := 2) (v := .ref afy) (C := RX2) (T := TX2) (N := 17) hx hb hts nX2_pass_X2 hown hK.1 hP 0 rfl rfl 8 (by decide) (hts (.fieldLink RX2 22 "PolygonFrameModel" "fromY" "[I") (by decide +kernel)) (fun _ h9 => h9) rfl dX2_pass_135 ?_
                  refine lv_iload_n hx hb dX2_pass_138 rfl (lv_at hl 5 rfl) ?_
                  refine q_iald (k := k) hx hb hK.1 hP 2 0 rfl rfl (by omega) (by omega) dX2_pass_139 ?_
                  refine wr_v (wr := [(afx, .inl (cI, 60, .inl fx)), (afy, .inl (cI, 60, .inl fy))]) hP hD hS hA [0, 3, 4] [1, 2] rfl rfl (by decide) (by decide) (va_runV (As := [.int (fx k), .int (fy k)]) ⟨hx, hb, hml, hown, hts⟩ (kX2_add l D cI cZ H.size m0 aP ax ay afx afy atx aty wd hg cap n (nI F) (sd 0) (sd 1) (sd 2) (sd 3) (mpV cap tx ty q sd fx fy F k) (fx k) (fy k) (by omega) hc) (cwV 2 hts gX2_pass_X2_add rfl rfl rfl (by decide +kernel) ⟨Nat.le_of_ble_eq_true rfl, Nat.le_of_ble_eq_true rfl⟩) (wr_preV (ci := 2) (q0 := 0) (hP.sub [0, 3, 4] rfl) hK (hD.sub [0, 3, 4] (by decide) rfl) rfl rfl) rfl rfl hl.1 rfl (lv_room (Nat.le_of_ble_eq_true rfl)) dX2_pass_140 ⟨Nat.zero_le _, Nat.zero_le _⟩) (fun u2 H locs hw2 hP hD hS => ?_)
                  replace hP : va_P D vwCl [(m0, .inr (2, [.int (nI wd), .int (nI hg), .int (nI cap), .ref aP, .ref ax, .ref ay, .int (nI n), .ref afx, .ref afy, .ref atx, .ref aty, .int (nI F), .int (nI u2.1), .int (sd 0), .int (sd 1), .int (sd 2), .int (sd 3)])), (afx, .inl (cI, 60, .inl fx)), (afy, .inl (cI, 60, .inl fy)), (atx, .inl (cI, 60, .inl u2.2.1)), (aty, .inl (cI, 60, .inl u2.2.2))] H := hP.sub [2, 0, 1, 3, 4] rfl
                  replace hD : va_D A [(m0, .inr (2, [.int (nI wd), .int (nI hg), .int (nI cap), .ref aP, .ref ax, .ref ay, .int (nI n), .ref afx, .ref afy, .ref atx, .ref aty, .int (nI F), .int (nI u2.1), .int (sd 0), .int (sd 1), .int (sd 2), .int (sd 3)])), (afx, .inl (cI, 60, .inl fx)), (afy, .inl (cI, 60, .inl fy)), (atx, .inl (cI, 60, .inl u2.2.1)), (aty, .inl (cI, 60, .inl u2.2.2))] := hD.sub [2, 0, 1, 3, 4] (by decide) rfl
                  refine lv_iinc (v := (nI (k + 1))) (lv' := [(2, .int (nI (k + 1))), (5, .int (bI (gM q sd fx fy (prN F k)))), (4, .int (bI (gM q sd fx fy k))), (3, .int (nI (prN F k))), (0, .ref m0), (1, .int (nI q))]) hx hb dX2_pass_143 hl (k := 5) rfl (nI_1 _) (by decide) rfl (fun ls hl => ?_)
                  have e : u2 = (mpV cap tx ty q sd fx fy F (k + 1)) := by rw [mpV, mpL, out_01 (bI_eq.mp c90) (bI_ne c124), mpU_snoc]; rw [hw2]; rfl
                  refine lv_goto (tgt := 7) hx hb dX2_pass_146 (by decide) ?_
                  rw [e] at hP hD
                  exact ih (k + 1) (by omega) (by omega) H locs hP hD hS ls (lv_sub hl [4, 5, 0] rfl)
              · skip
                refine lv_aload_n hx hb dX2_pass_93 rfl (lv_at hl 3 rfl) ?_
                refine lv_iload_n hx hb dX2_pass_94 rfl (lv_at hl 4 rfl) ?_
                refine lv_aload_n hx hb dX2_pass_95 rfl (lv_at hl 3 rfl) ?_
                refine va_get (D := D) (ci := 2) (v := .ref afx) (C := RX2) (T := TX2) (N := 17) hx hb hts nX2_pass_X2 hown hK.1 hP 0 rfl rfl 7 (by decide) (hts (.fieldLink RX2 19 "PolygonFrameModel" "fromX" "[I") (by decide +kernel)) (fun _ h9 => h9) rfl dX2_pass_96 ?_
                refine lv_iload_n hx hb dX2_pass_99 rfl (lv_at hl 2 rfl) ?_
                refine q_iald (k := (prN F k)) hx hb hK.1 hP 1 0 rfl rfl (Nat.lt_of_lt_of_le hp hF) (by decide) dX2_pass_100 ?_
                refine lv_aload_n hx hb dX2_pass_101 rfl (lv_at hl 3 rfl) ?_
                refine va_get (D := D) (ci := 2) (v := .ref afy) (C := RX2) (T := TX2) (N := 17) hx hb hts nX2_pass_X2 hown hK.1 hP 0 rfl rfl 8 (by decide) (hts (.fieldLink RX2 22 "PolygonFrameModel" "fromY" "[I") (by decide +kernel)) (fun _ h9 => h9) rfl dX2_pass_102 ?_
                refine lv_iload_n hx hb dX2_pass_105 rfl (lv_at hl 2 rfl) ?_
                refine q_iald (k := (prN F k)) hx hb hK.1 hP 2 0 rfl rfl (Nat.lt_of_lt_of_le hp hF) (by decide) dX2_pass_106 ?_
                refine lv_aload_n hx hb dX2_pass_107 rfl (lv_at hl 3 rfl) ?_
                refine va_get (D := D) (ci := 2) (v := .ref afx) (C := RX2) (T := TX2) (N := 17) hx hb hts nX2_pass_X2 hown hK.1 hP 0 rfl rfl 7 (by decide) (hts (.fieldLink RX2 19 "PolygonFrameModel" "fromX" "[I") (by decide +kernel)) (fun _ h9 => h9) rfl dX2_pass_108 ?_
                refine lv_iload_n hx hb dX2_pass_111 rfl (lv_at hl 5 rfl) ?_
                refine q_iald (k := k) hx hb hK.1 hP 1 0 rfl rfl (by omega) (by omega) dX2_pass_112 ?_
                refine lv_aload_n hx hb dX2_pass_113 rfl (lv_at hl 3 rfl) ?_
                refine va_get (D := D) (ci := 2) (v := .ref afy) (C := RX2) (T := TX2) (N := 17) hx hb hts nX2_pass_X2 hown hK.1 hP 0 rfl rfl 8 (by decide) (hts (.fieldLink RX2 22 "PolygonFrameModel" "fromY" "[I") (by decide +kernel)) (fun _ h9 => h9) rfl dX2_pass_114 ?_
                refine lv_iload_n hx hb dX2_pass_117 rfl (lv_at hl 5 rfl) ?_
                refine q_iald (k := k) hx hb hK.1 hP 2 0 rfl rfl (by omega) (by omega) dX2_pass_118 ?_
                have hgg : ¬ gM q sd fx fy k = gM q sd fx fy (prN F k) := fun h => c90 (by rw [h])
                refine wr_v (wr := [(afx, .inl (cI, 60, .inl fx)), (afy, .inl (cI, 60, .inl fy))]) hP hD hS hA [0, 3, 4] [1, 2] rfl rfl (by decide) (by decide) (va_runV (As := [.int (nI q), .int (fx (prN F k)), .int (fy (prN F k)), .int (fx k), .int (fy k)]) ⟨hx, hb, hml, hown, hts⟩ (kX2_cut l D cI cZ H.size m0 aP ax ay afx afy atx aty wd hg cap n (nI F) sd (mpV cap tx ty q sd fx fy F k) q (fx (prN F k)) (fy (prN F k)) (fx k) (fy k) hq (gM_nx hgg).1 (gM_nx hgg).2 (by omega) hc) (cwV 5 hts gX2_pass_X2_cut rfl rfl rfl (by decide +kernel) ⟨Nat.le_of_ble_eq_true rfl, Nat.le_of_ble_eq_true rfl⟩) (wr_preV (ci := 2) (q0 := 0) (hP.sub [0, 3, 4] rfl) hK (hD.sub [0, 3, 4] (by decide) rfl) rfl rfl) rfl rfl hl.1 rfl (lv_room (Nat.le_of_ble_eq_true rfl)) dX2_pass_119 ⟨Nat.zero_le _, Nat.zero_le _⟩) (fun u1 H locs hw1 hP hD hS => ?_)
                replace hP : va_P D vwCl [(m0, .inr (2, [.int (nI wd), .int (nI hg), .int (nI cap), .ref aP, .ref ax, .ref ay, .int (nI n), .ref afx, .ref afy, .ref atx, .ref aty, .int (nI F), .int (nI u1.1), .int (sd 0), .int (sd 1), .int (sd 2), .int (sd 3)])), (afx, .inl (cI, 60, .inl fx)), (afy, .inl (cI, 60, .inl fy)), (atx, .inl (cI, 60, .inl u1.2.1)), (aty, .inl (cI, 60, .inl u1.2.2))] H := hP.sub [2, 0, 1, 3, 4] rfl
                replace hD : va_D A [(m0, .inr (2, [.int (nI wd), .int (nI hg), .int (nI cap), .ref aP, .ref ax, .ref ay, .int (nI n), .ref afx, .ref afy, .ref atx, .ref aty, .int (nI F), .int (nI u1.1), .int (sd 0), .int (sd 1), .int (sd 2), .int (sd 3)])), (afx, .inl (cI, 60, .inl fx)), (afy, .inl (cI, 60, .inl fy)), (atx, .inl (cI, 60, .inl u1.2.1)), (aty, .inl (cI, 60, .inl u1.2.2))] := hD.sub [2, 0, 1, 3, 4] (by decide) rfl
                have hu1 : u1.1 ≤ 1000 := by rw [hw1, adP_1]; omega
                refine lv_iload hx hb dX2_pass_122 (lv_at hl 1 rfl) ?_
                refine lv_if_eq (tgt := 143) hx hb dX2_pass_124 (by decide) (fun c124 => ?_) (fun c124 => ?_)
                · skip
                  refine lv_iinc (v := (nI (k + 1))) (lv' := [(2, .int (nI (k + 1))), (5, .int (bI (gM q sd fx fy (prN F k)))), (4, .int (bI (gM q sd fx fy k))), (3, .int (nI (prN F k))), (0, .ref m0), (1, .int (nI q))]) hx hb dX2_pass_143 hl (k := 5) rfl (nI_1 _) (by decide) rfl (fun ls hl => ?_)
                  have e : u1 = (mpV cap tx ty q sd fx fy F (k + 1)) := by rw [mpV, mpL, out_10 hgg (bI_eq0.mp c124), mpU_snoc]; rw [hw1]; rfl
                  refine lv_goto (tgt := 7) hx hb dX2_pass_146 (by decide) ?_
                  rw [e] at hP hD
                  exact ih (k + 1) (by omega) (by omega) H locs hP hD hS ls (lv_sub hl [4, 5, 0] rfl)
                · skip
                  refine lv_aload_n hx hb dX2_pass_127 rfl (lv_at hl 3 rfl) ?_
                  refine lv_aload_n hx hb dX2_pass_128 rfl (lv_at hl 3 rfl) ?_
                  refine va_get (D := D) (ci := 2) (v := .ref afx) (C := RX2) (T := TX2) (N := 17) hx hb hts nX2_pass_X2 hown hK.1 hP 0 rfl rfl 7 (by decide) (hts (.fieldLink RX2 19 "PolygonFrameModel" "fromX" "[I") (by decide +kernel)) (fun _ h9 => h9) rfl dX2_pass_129 ?_
                  refine lv_iload_n hx hb dX2_pass_132 rfl (lv_at hl 5 rfl) ?_
                  refine q_iald (k := k) hx hb hK.1 hP 1 0 rfl rfl (by omega) (by omega) dX2_pass_133 ?_
                  refine lv_aload_n hx hb dX2_pass_134 rfl (lv_at hl 3 rfl) ?_
                  refine va_get (D := D) (ci := 2) (v := .ref afy) (C := RX2) (T := TX2) (N := 17) hx hb hts nX2_pass_X2 hown hK.1 hP 0 rfl rfl 8 (by decide) (hts (.fieldLink RX2 22 "PolygonFrameModel" "fromY" "[I") (by decide +kernel)) (fun _ h9 => h9) rfl dX2_pass_135 ?_
                  refine lv_iload_n hx hb dX2_pass_138 rfl (lv_at hl 5 rfl) ?_
                  refine q_iald (k := k) hx hb hK.1 hP 2 0 rfl rfl (by omega) (by omega) dX2_pass_139 ?_
                  refine wr_v (wr := [(afx, .inl (cI, 60, .inl fx)), (afy, .inl (cI, 60, .inl fy))]) hP hD hS hA [0, 3, 4] [1, 2] rfl rfl (by decide) (by decide) (va_runV (As := [.int (fx k), .int (fy k)]) ⟨hx, hb, hml, hown, hts⟩ (kX2_add l D cI cZ H.size m0 aP ax ay afx afy atx aty wd hg cap n (nI F) (sd 0) (sd 1) (sd 2) (sd 3) u1 (fx k) (fy k) hu1 hc) (cwV 2 hts gX2_pass_X2_add rfl rfl rfl (by decide +kernel) ⟨Nat.le_of_ble_eq_true rfl, Nat.le_of_ble_eq_true rfl⟩) (wr_preV (ci := 2) (q0 := 0) (hP.sub [0, 3, 4] rfl) hK (hD.sub [0, 3, 4] (by decide) rfl) rfl rfl) rfl rfl hl.1 rfl (lv_room (Nat.le_of_ble_eq_true rfl)) dX2_pass_140 ⟨Nat.zero_le _, Nat.zero_le _⟩) (fun u2 H locs hw2 hP hD hS => ?_)
                  replace hP : va_P D vwCl [(m0, .inr (2, [.int (nI wd), .int (nI hg), .int (nI cap), .ref aP, .ref ax, .ref ay, .int (nI n), .ref afx, .ref afy, .ref atx, .ref aty, .int (nI F), .int (nI u2.1), .int (sd 0), .int (sd 1), .int (sd 2), .int (sd 3)])), (afx, .inl (cI, 60, .inl fx)), (afy, .inl (cI, 60, .inl fy)), (atx, .inl (cI, 60, .inl u2.2.1)), (aty, .inl (cI, 60, .inl u2.2.2))] H := hP.sub [2, 0, 1, 3, 4] rfl
                  replace hD : va_D A [(m0, .inr (2, [.int (nI wd), .int (nI hg), .int (nI cap), .ref aP, .ref ax, .ref ay, .int (nI n), .ref afx, .ref afy, .ref atx, .ref aty, .int (nI F), .int (nI u2.1), .int (sd 0), .int (sd 1), .int (sd 2), .int (sd 3)])), (afx, .inl (cI, 60, .inl fx)), (afy, .inl (cI, 60, .inl fy)), (atx, .inl (cI, 60, .inl u2.2.1)), (aty, .inl (cI, 60, .inl u2.2.2))] := hD.sub [2, 0, 1, 3, 4] (by decide) rfl
                  refine lv_iinc (v := (nI (k + 1))) (lv' := [(2, .int (nI (k + 1))), (5, .int (bI (gM q sd fx fy (prN F k)))), (4, .int (bI (gM q sd fx fy k))), (3, .int (nI (prN F k))), (0, .ref m0), (1, .int (nI q))]) hx hb dX2_pass_143 hl (k := 5) rfl (nI_1 _) (by decide) rfl (fun ls hl => ?_)
                  have e : u2 = (mpV cap tx ty q sd fx fy F (k + 1)) := by rw [mpV, mpL, out_11 hgg (bI_ne c124), mpU_snoc, mpU_snoc]; rw [hw2, hw1]; rfl
                  refine lv_goto (tgt := 7) hx hb dX2_pass_146 (by decide) ?_
                  rw [e] at hP hD
                  exact ih (k + 1) (by omega) (by omega) H locs hP hD hS ls (lv_sub hl [4, 5, 0] rfl)
            · skip
              refine lv_iconst (v := 1) hx hb dX2_pass_79 (by decide) ?_
              refine lv_goto (tgt := 84) hx hb dX2_pass_80 (by decide) ?_
              refine q_eq (show 1 = bI (gM q sd fx fy (prN F k)) from bI_tt (decide_eq_true c76)) ?_
              refine lv_istore (lv' := [(5, .int (bI (gM q sd fx fy (prN F k)))), (4, .int (bI (gM q sd fx fy k))), (3, .int (nI (prN F k))), (0, .ref m0), (1, .int (nI q)), (2, .int (nI k))]) hx hb dX2_pass_84 hl (by decide) rfl (fun ls hl => ?_)
              refine lv_iload hx hb dX2_pass_86 (lv_at hl 1 rfl) ?_
              refine lv_iload hx hb dX2_pass_88 (lv_at hl 0 rfl) ?_
              refine lv_icmp_eq (tgt := 122) hx hb dX2_pass_90 (by decide) (fun c90 => ?_) (fun c90 => ?_)
              · skip
                refine lv_iload hx hb dX2_pass_122 (lv_at hl 1 rfl) ?_
                refine lv_if_eq (tgt := 143) hx hb dX2_pass_124 (by decide) (fun c124 => ?_) (fun c124 => ?_)
                · skip
                  refine lv_iinc (v := (nI (k + 1))) (lv' := [(2, .int (nI (k + 1))), (5, .int (bI (gM q sd fx fy (prN F k)))), (4, .int (bI (gM q sd fx fy k))), (3, .int (nI (prN F k))), (0, .ref m0), (1, .int (nI q))]) hx hb dX2_pass_143 hl (k := 5) rfl (nI_1 _) (by decide) rfl (fun ls hl => ?_)
                  have e : (mpV cap tx ty q sd fx fy F k) = (mpV cap tx ty q sd fx fy F (k + 1)) := by rw [mpV, mpV, mpL, mpL, out_00 (bI_eq.mp c90) (bI_eq0.mp c124)]
                  refine lv_goto (tgt := 7) hx hb dX2_pass_146 (by decide) ?_
                  rw [e] at hP hD
                  exact ih (k + 1) (by omega) (by omega) H locs hP hD hS ls (lv_sub hl [4, 5, 0] rfl)
                · skip
                  refine lv_aload_n hx hb dX2_pass_127 rfl (lv_at hl 3 rfl) ?_
                  refine lv_aload_n hx hb dX2_pass_128 rfl (lv_at hl 3 rfl) ?_
                  refine va_get (D := D) (ci := 2) (v := .ref afx) (C := RX2) (T := TX2) (N := 17) hx hb hts nX2_pass_X2 hown hK.1 hP 0 rfl rfl 7 (by decide) (hts (.fieldLink RX2 19 "PolygonFrameModel" "fromX" "[I") (by decide +kernel)) (fun _ h9 => h9) rfl dX2_pass_129 ?_
                  refine lv_iload_n hx hb dX2_pass_132 rfl (lv_at hl 5 rfl) ?_
                  refine q_iald (k := k) hx hb hK.1 hP 1 0 rfl rfl (by omega) (by omega) dX2_pass_133 ?_
                  refine lv_aload_n hx hb dX2_pass_134 rfl (lv_at hl 3 rfl) ?_
                  refine va_get (D := D) (ci := 2) (v := .ref afy) (C := RX2) (T := TX2) (N := 17) hx hb hts nX2_pass_X2 hown hK.1 hP 0 rfl rfl 8 (by decide) (hts (.fieldLink RX2 22 "PolygonFrameModel" "fromY" "[I") (by decide +kernel)) (fun _ h9 => h9) rfl dX2_pass_135 ?_
                  refine lv_iload_n hx hb dX2_pass_138 rfl (lv_at hl 5 rfl) ?_
                  refine q_iald (k := k) hx hb hK.1 hP 2 0 rfl rfl (by omega) (by omega) dX2_pass_139 ?_
                  refine wr_v (wr := [(afx, .inl (cI, 60, .inl fx)), (afy, .inl (cI, 60, .inl fy))]) hP hD hS hA [0, 3, 4] [1, 2] rfl rfl (by decide) (by decide) (va_runV (As := [.int (fx k), .int (fy k)]) ⟨hx, hb, hml, hown, hts⟩ (kX2_add l D cI cZ H.size m0 aP ax ay afx afy atx aty wd hg cap n (nI F) (sd 0) (sd 1) (sd 2) (sd 3) (mpV cap tx ty q sd fx fy F k) (fx k) (fy k) (by omega) hc) (cwV 2 hts gX2_pass_X2_add rfl rfl rfl (by decide +kernel) ⟨Nat.le_of_ble_eq_true rfl, Nat.le_of_ble_eq_true rfl⟩) (wr_preV (ci := 2) (q0 := 0) (hP.sub [0, 3, 4] rfl) hK (hD.sub [0, 3, 4] (by decide) rfl) rfl rfl) rfl rfl hl.1 rfl (lv_room (Nat.le_of_ble_eq_true rfl)) dX2_pass_140 ⟨Nat.zero_le _, Nat.zero_le _⟩) (fun u2 H locs hw2 hP hD hS => ?_)
                  replace hP : va_P D vwCl [(m0, .inr (2, [.int (nI wd), .int (nI hg), .int (nI cap), .ref aP, .ref ax, .ref ay, .int (nI n), .ref afx, .ref afy, .ref atx, .ref aty, .int (nI F), .int (nI u2.1), .int (sd 0), .int (sd 1), .int (sd 2), .int (sd 3)])), (afx, .inl (cI, 60, .inl fx)), (afy, .inl (cI, 60, .inl fy)), (atx, .inl (cI, 60, .inl u2.2.1)), (aty, .inl (cI, 60, .inl u2.2.2))] H := hP.sub [2, 0, 1, 3, 4] rfl
                  replace hD : va_D A [(m0, .inr (2, [.int (nI wd), .int (nI hg), .int (nI cap), .ref aP, .ref ax, .ref ay, .int (nI n), .ref afx, .ref afy, .ref atx, .ref aty, .int (nI F), .int (nI u2.1), .int (sd 0), .int (sd 1), .int (sd 2), .int (sd 3)])), (afx, .inl (cI, 60, .inl fx)), (afy, .inl (cI, 60, .inl fy)), (atx, .inl (cI, 60, .inl u2.2.1)), (aty, .inl (cI, 60, .inl u2.2.2))] := hD.sub [2, 0, 1, 3, 4] (by decide) rfl
                  refine lv_iinc (v := (nI (k + 1))) (lv' := [(2, .int (nI (k + 1))), (5, .int (bI (gM q sd fx fy (prN F k)))), (4, .int (bI (gM q sd fx fy k))), (3, .int (nI (prN F k))), (0, .ref m0), (1, .int (nI q))]) hx hb dX2_pass_143 hl (k := 5) rfl (nI_1 _) (by decide) rfl (fun ls hl => ?_)
                  have e : u2 = (mpV cap tx ty q sd fx fy F (k + 1)) := by rw [mpV, mpL, out_01 (bI_eq.mp c90) (bI_ne c124), mpU_snoc]; rw [hw2]; rfl
                  refine lv_goto (tgt := 7) hx hb dX2_pass_146 (by decide) ?_
                  rw [e] at hP hD
                  exact ih (k + 1) (by omega) (by omega) H locs hP hD hS ls (lv_sub hl [4, 5, 0] rfl)
              · skip
                refine lv_aload_n hx hb dX2_pass_93 rfl (lv_at hl 3 rfl) ?_
                refine lv_iload_n hx hb dX2_pass_94 rfl (lv_at hl 4 rfl) ?_
                refine lv_aload_n hx hb dX2_pass_95 rfl (lv_at hl 3 rfl) ?_
                refine va_get (D := D) (ci := 2) (v := .ref afx) (C := RX2) (T := TX2) (N := 17) hx hb hts nX2_pass_X2 hown hK.1 hP 0 rfl rfl 7 (by decide) (hts (.fieldLink RX2 19 "PolygonFrameModel" "fromX" "[I") (by decide +kernel)) (fun _ h9 => h9) rfl dX2_pass_96 ?_
                refine lv_iload_n hx hb dX2_pass_99 rfl (lv_at hl 2 rfl) ?_
                refine q_iald (k := (prN F k)) hx hb hK.1 hP 1 0 rfl rfl (Nat.lt_of_lt_of_le hp hF) (by decide) dX2_pass_100 ?_
                refine lv_aload_n hx hb dX2_pass_101 rfl (lv_at hl 3 rfl) ?_
                refine va_get (D := D) (ci := 2) (v := .ref afy) (C := RX2) (T := TX2) (N := 17) hx hb hts nX2_pass_X2 hown hK.1 hP 0 rfl rfl 8 (by decide) (hts (.fieldLink RX2 22 "PolygonFrameModel" "fromY" "[I") (by decide +kernel)) (fun _ h9 => h9) rfl dX2_pass_102 ?_
                refine lv_iload_n hx hb dX2_pass_105 rfl (lv_at hl 2 rfl) ?_
                refine q_iald (k := (prN F k)) hx hb hK.1 hP 2 0 rfl rfl (Nat.lt_of_lt_of_le hp hF) (by decide) dX2_pass_106 ?_
                refine lv_aload_n hx hb dX2_pass_107 rfl (lv_at hl 3 rfl) ?_
                refine va_get (D := D) (ci := 2) (v := .ref afx) (C := RX2) (T := TX2) (N := 17) hx hb hts nX2_pass_X2 hown hK.1 hP 0 rfl rfl 7 (by decide) (hts (.fieldLink RX2 19 "PolygonFrameModel" "fromX" "[I") (by decide +kernel)) (fun _ h9 => h9) rfl dX2_pass_108 ?_
                refine lv_iload_n hx hb dX2_pass_111 rfl (lv_at hl 5 rfl) ?_
                refine q_iald (k := k) hx hb hK.1 hP 1 0 rfl rfl (by omega) (by omega) dX2_pass_112 ?_
                refine lv_aload_n hx hb dX2_pass_113 rfl (lv_at hl 3 rfl) ?_
                refine va_get (D := D) (ci := 2) (v := .ref afy) (C := RX2) (T := TX2) (N := 17) hx hb hts nX2_pass_X2 hown hK.1 hP 0 rfl rfl 8 (by decide) (hts (.fieldLink RX2 22 "PolygonFrameModel" "fromY" "[I") (by decide +kernel)) (fun _ h9 => h9) rfl dX2_pass_114 ?_
                refine lv_iload_n hx hb dX2_pass_117 rfl (lv_at hl 5 rfl) ?_
                refine q_iald (k := k) hx hb hK.1 hP 2 0 rfl rfl (by omega) (by omega) dX2_pass_118 ?_
                have hgg : ¬ gM q sd fx fy k = gM q sd fx fy (prN F k) := fun h => c90 (by rw [h])
                refine wr_v (wr := [(afx, .inl (cI, 60, .inl fx)), (afy, .inl (cI, 60, .inl fy))]) hP hD hS hA [0, 3, 4] [1, 2] rfl rfl (by decide) (by decide) (va_runV (As := [.int (nI q), .int (fx (prN F k)), .int (fy (prN F k)), .int (fx k), .int (fy k)]) ⟨hx, hb, hml, hown, hts⟩ (kX2_cut l D cI cZ H.size m0 aP ax ay afx afy atx aty wd hg cap n (nI F) sd (mpV cap tx ty q sd fx fy F k) q (fx (prN F k)) (fy (prN F k)) (fx k) (fy k) hq (gM_nx hgg).1 (gM_nx hgg).2 (by omega) hc) (cwV 5 hts gX2_pass_X2_cut rfl rfl rfl (by decide +kernel) ⟨Nat.le_of_ble_eq_true rfl, Nat.le_of_ble_eq_true rfl⟩) (wr_preV (ci := 2) (q0 := 0) (hP.sub [0, 3, 4] rfl) hK (hD.sub [0, 3, 4] (by decide) rfl) rfl rfl) rfl rfl hl.1 rfl (lv_room (Nat.le_of_ble_eq_true rfl)) dX2_pass_119 ⟨Nat.zero_le _, Nat.zero_le _⟩) (fun u1 H locs hw1 hP hD hS => ?_)
                replace hP : va_P D vwCl [(m0, .inr (2, [.int (nI wd), .int (nI hg), .int (nI cap), .ref aP, .ref ax, .ref ay, .int (nI n), .ref afx, .ref afy, .ref atx, .ref aty, .int (nI F), .int (nI u1.1), .int (sd 0), .int (sd 1), .int (sd 2), .int (sd 3)])), (afx, .inl (cI, 60, .inl fx)), (afy, .inl (cI, 60, .inl fy)), (atx, .inl (cI, 60, .inl u1.2.1)), (aty, .inl (cI, 60, .inl u1.2.2))] H := hP.sub [2, 0, 1, 3, 4] rfl
                replace hD : va_D A [(m0, .inr (2, [.int (nI wd), .int (nI hg), .int (nI cap), .ref aP, .ref ax, .ref ay, .int (nI n), .ref afx, .ref afy, .ref atx, .ref aty, .int (nI F), .int (nI u1.1), .int (sd 0), .int (sd 1), .int (sd 2), .int (sd 3)])), (afx, .inl (cI, 60, .inl fx)), (afy, .inl (cI, 60, .inl fy)), (atx, .inl (cI, 60, .inl u1.2.1)), (aty, .inl (cI, 60, .inl u1.2.2))] := hD.sub [2, 0, 1, 3, 4] (by decide) rfl
                have hu1 : u1.1 ≤ 1000 := by rw [hw1, adP_1]; omega
                refine lv_iload hx hb dX2_pass_122 (lv_at hl 1 rfl) ?_
                refine lv_if_eq (tgt := 143) hx hb dX2_pass_124 (by decide) (fun c124 => ?_) (fun c124 => ?_)
                · skip
                  refine lv_iinc (v := (nI (k + 1))) (lv' := [(2, .int (nI (k + 1))), (5, .int (bI (gM q sd fx fy (prN F k)))), (4, .int (bI (gM q sd fx fy k))), (3, .int (nI (prN F k))), (0, .ref m0), (1, .int (nI q))]) hx hb dX2_pass_143 hl (k := 5) rfl (nI_1 _) (by decide) rfl (fun ls hl => ?_)
                  have e : u1 = (mpV cap tx ty q sd fx fy F (k + 1)) := by rw [mpV, mpL, out_10 hgg (bI_eq0.mp c124), mpU_snoc]; rw [hw1]; rfl
                  refine lv_goto (tgt := 7) hx hb dX2_pass_146 (by decide) ?_
                  rw [e] at hP hD
                  exact ih (k + 1) (by omega) (by omega) H locs hP hD hS ls (lv_sub hl [4, 5, 0] rfl)
                · skip
                  refine lv_aload_n hx hb dX2_pass_127 rfl (lv_at hl 3 rfl) ?_
                  refine lv_aload_n hx hb dX2_pass_128 rfl (lv_at hl 3 rfl) ?_
                  refine va_get (D := D) (ci := 2) (v := .ref afx) (C := RX2) (T := TX2) (N := 17) hx hb hts nX2_pass_X2 hown hK.1 hP 0 rfl rfl 7 (by decide) (hts (.fieldLink RX2 19 "PolygonFrameModel" "fromX" "[I") (by decide +kernel)) (fun _ h9 => h9) rfl dX2_pass_129 ?_
                  refine lv_iload_n hx hb dX2_pass_132 rfl (lv_at hl 5 rfl) ?_
                  refine q_iald (k := k) hx hb hK.1 hP 1 0 rfl rfl (by omega) (by omega) dX2_pass_133 ?_
                  refine lv_aload_n hx hb dX2_pass_134 rfl (lv_at hl 3 rfl) ?_
                  refine va_get (D := D) (ci := 2) (v := .ref afy) (C := RX2) (T := TX2) (N := 17) hx hb hts nX2_pass_X2 hown hK.1 hP 0 rfl rfl 8 (by decide) (hts (.fieldLink RX2 22 "PolygonFrameModel" "fromY" "[I") (by decide +kernel)) (fun _ h9 => h9) rfl dX2_pass_135 ?_
                  refine lv_iload_n hx hb dX2_pass_138 rfl (lv_at hl 5 rfl) ?_
                  refine q_iald (k := k) hx hb hK.1 hP 2 0 rfl rfl (by omega) (by omega) dX2_pass_139 ?_
                  refine wr_v (wr := [(afx, .inl (cI, 60, .inl fx)), (afy, .inl (cI, 60, .inl fy))]) hP hD hS hA [0, 3, 4] [1, 2] rfl rfl (by decide) (by decide) (va_runV (As := [.int (fx k), .int (fy k)]) ⟨hx, hb, hml, hown, hts⟩ (kX2_add l D cI cZ H.size m0 aP ax ay afx afy atx aty wd hg cap n (nI F) (sd 0) (sd 1) (sd 2) (sd 3) u1 (fx k) (fy k) hu1 hc) (cwV 2 hts gX2_pass_X2_add rfl rfl rfl (by decide +kernel) ⟨Nat.le_of_ble_eq_true rfl, Nat.le_of_ble_eq_true rfl⟩) (wr_preV (ci := 2) (q0 := 0) (hP.sub [0, 3, 4] rfl) hK (hD.sub [0, 3, 4] (by decide) rfl) rfl rfl) rfl rfl hl.1 rfl (lv_room (Nat.le_of_ble_eq_true rfl)) dX2_pass_140 ⟨Nat.zero_le _, Nat.zero_le _⟩) (fun u2 H locs hw2 hP hD hS => ?_)
                  replace hP : va_P D vwCl [(m0, .inr (2, [.int (nI wd), .int (nI hg), .int (nI cap), .ref aP, .ref ax, .ref ay, .int (nI n), .ref afx, .ref afy, .ref atx, .ref aty, .int (nI F), .int (nI u2.1), .int (sd 0), .int (sd 1), .int (sd 2), .int (sd 3)])), (afx, .inl (cI, 60, .inl fx)), (afy, .inl (cI, 60, .inl fy)), (atx, .inl (cI, 60, .inl u2.2.1)), (aty, .inl (cI, 60, .inl u2.2.2))] H := hP.sub [2, 0, 1, 3, 4] rfl
                  replace hD : va_D A [(m0, .inr (2, [.int (nI wd), .int (nI hg), .int (nI cap), .ref aP, .ref ax, .ref ay, .int (nI n), .ref afx, .ref afy, .ref atx, .ref aty, .int (nI F), .int (nI u2.1), .int (sd 0), .int (sd 1), .int (sd 2), .int (sd 3)])), (afx, .inl (cI, 60, .inl fx)), (afy, .inl (cI, 60, .inl fy)), (atx, .inl (cI, 60, .inl u2.2.1)), (aty, .inl (cI, 60, .inl u2.2.2))] := hD.sub [2, 0, 1, 3, 4] (by decide) rfl
                  refine lv_iinc (v := (nI (k + 1))) (lv' := [(2, .int (nI (k + 1))), (5, .int (bI (gM q sd fx fy (prN F k)))), (4, .int (bI (gM q sd fx fy k))), (3, .int (nI (prN F k))), (0, .ref m0), (1, .int (nI q))]) hx hb dX2_pass_143 hl (k := 5) rfl (nI_1 _) (by decide) rfl (fun ls hl => ?_)
                  have e : u2 = (mpV cap tx ty q sd fx fy F (k + 1)) := by rw [mpV, mpL, out_11 hgg (bI_ne c124), mpU_snoc, mpU_snoc]; rw [hw2, hw1]; rfl
                  refine lv_goto (tgt := 7) hx hb dX2_pass_146 (by decide) ?_
                  rw [e] at hP hD
                  exact ih (k + 1) (by omega) (by omega) H locs hP hD hS ls (lv_sub hl [4, 5, 0] rfl)
          · skip
            refine lv_iconst (v := 1) hx hb dX2_pass_52 (by decide) ?_
            refine lv_goto (tgt := 57) hx hb dX2_pass_53 (by decide) ?_
            refine q_eq (show 1 = bI (gM q sd fx fy k) from bI_tt (decide_eq_true c49)) ?_
            refine lv_istore (lv' := [(4, .int (bI (gM q sd fx fy k))), (3, .int (nI (prN F k))), (0, .ref m0), (1, .int (nI q)), (2, .int (nI k))]) hx hb dX2_pass_57 hl (by decide) rfl (fun ls hl => ?_)
            refine lv_aload_n hx hb dX2_pass_59 rfl (lv_at hl 2 rfl) ?_
            refine lv_iload_n hx hb dX2_pass_60 rfl (lv_at hl 3 rfl) ?_
            refine lv_aload_n hx hb dX2_pass_61 rfl (lv_at hl 2 rfl) ?_
            refine va_get (D := D) (ci := 2) (v := .ref afx) (C := RX2) (T := TX2) (N := 17) hx hb hts nX2_pass_X2 hown hK.1 hP 0 rfl rfl 7 (by decide) (hts (.fieldLink RX2 19 "PolygonFrameModel" "fromX" "[I") (by decide +kernel)) (fun _ h9 => h9) rfl dX2_pass_62 ?_
            refine lv_iload_n hx hb dX2_pass_65 rfl (lv_at hl 1 rfl) ?_
            refine q_iald (k := (prN F k)) hx hb hK.1 hP 1 0 rfl rfl (Nat.lt_of_lt_of_le hp hF) (by decide) dX2_pass_66 ?_
            refine lv_aload_n hx hb dX2_pass_67 rfl (lv_at hl 2 rfl) ?_
            refine va_get (D := D) (ci := 2) (v := .ref afy) (C := RX2) (T := TX2) (N := 17) hx hb hts nX2_pass_X2 hown hK.1 hP 0 rfl rfl 8 (by decide) (hts (.fieldLink RX2 22 "PolygonFrameModel" "fromY" "[I") (by decide +kernel)) (fun _ h9 => h9) rfl dX2_pass_68 ?_
            refine lv_iload_n hx hb dX2_pass_71 rfl (lv_at hl 1 rfl) ?_
            refine q_iald (k := (prN F k)) hx hb hK.1 hP 2 0 rfl rfl (Nat.lt_of_lt_of_le hp hF) (by decide) dX2_pass_72 ?_
            refine rd_i (va_runV (As := [.int (nI q), .int (fx (prN F k)), .int (fy (prN F k))]) ⟨hx, hb, hml, hown, hts⟩ (kX2_depth l D cI cZ m0 aP ax ay afx afy atx aty wd hg cap n (nI F) (nI (mpV cap tx ty q sd fx fy F k).1) (sd 0) (sd 1) (sd 2) (sd 3) q (fx (prN F k)) (fy (prN F k)) hq) (cwV 3 hts gX2_pass_X2_depth rfl rfl rfl (by decide +kernel) ⟨Nat.le_of_ble_eq_true rfl, Nat.le_of_ble_eq_true rfl⟩) (rd_preV (ci := 2) (q0 := 0) (hP.sub [0] rfl) hK rfl rfl) rfl rfl hl.1 rfl (lv_room (Nat.le_of_ble_eq_true rfl)) dX2_pass_73 ⟨Nat.zero_le _, Nat.zero_le _⟩) ?_
            refine lv_if_lt (tgt := 83) hx hb dX2_pass_76 (by decide) (fun c76 => ?_) (fun c76 => ?_)
            · skip
              refine lv_iconst (v := 0) hx hb dX2_pass_83 (by decide) ?_
              refine q_eq (show 0 = bI (gM q sd fx fy (prN F k)) from bI_ff (decide_eq_false (fun h => h c76))) ?_
              refine lv_istore (lv' := [(5, .int (bI (gM q sd fx fy (prN F k)))), (4, .int (bI (gM q sd fx fy k))), (3, .int (nI (prN F k))), (0, .ref m0), (1, .int (nI q)), (2, .int (nI k))]) hx hb dX2_pass_84 hl (by decide) rfl (fun ls hl => ?_)
              refine lv_iload hx hb dX2_pass_86 (lv_at hl 1 rfl) ?_
              refine lv_iload hx hb dX2_pass_88 (lv_at hl 0 rfl) ?_
              refine lv_icmp_eq (tgt := 122) hx hb dX2_pass_90 (by decide) (fun c90 => ?_) (fun c90 => ?_)
              · skip
                refine lv_iload hx hb dX2_pass_122 (lv_at hl 1 rfl) ?_
                refine lv_if_eq (tgt := 143) hx hb dX2_pass_124 (by decide) (fun c124 => ?_) (fun c124 => ?_)
                · skip
                  refine lv_iinc (v := (nI (k + 1))) (lv' := [(2, .int (nI (k + 1))), (5, .int (bI (gM q sd fx fy (prN F k)))), (4, .int (bI (gM q sd fx fy k))), (3, .int (nI (prN F k))), (0, .ref m0), (1, .int (nI q))]) hx hb dX2_pass_143 hl (k := 5) rfl (nI_1 _) (by decide) rfl (fun ls hl => ?_)
                  have e : (mpV cap tx ty q sd fx fy F k) = (mpV cap tx ty q sd fx fy F (k + 1)) := by rw [mpV, mpV, mpL, mpL, out_00 (bI_eq.mp c90) (bI_eq0.mp c124)]
                  refine lv_goto (tgt := 7) hx hb dX2_pass_146 (by decide) ?_
                  rw [e] at hP hD
                  exact ih (k + 1) (by omega) (by omega) H locs hP hD hS ls (lv_sub hl [4, 5, 0] rfl)
                · skip
                  refine lv_aload_n hx hb dX2_pass_127 rfl (lv_at hl 3 rfl) ?_
                  refine lv_aload_n hx hb dX2_pass_128 rfl (lv_at hl 3 rfl) ?_
                  refine va_get (D := D) (ci := 2) (v := .ref afx) (C := RX2) (T := TX2) (N := 17) hx hb hts nX2_pass_X2 hown hK.1 hP 0 rfl rfl 7 (by decide) (hts (.fieldLink RX2 19 "PolygonFrameModel" "fromX" "[I") (by decide +kernel)) (fun _ h9 => h9) rfl dX2_pass_129 ?_
                  refine lv_iload_n hx hb dX2_pass_132 rfl (lv_at hl 5 rfl) ?_
                  refine q_iald (k := k) hx hb hK.1 hP 1 0 rfl rfl (by omega) (by omega) dX2_pass_133 ?_
                  refine lv_aload_n hx hb dX2_pass_134 rfl (lv_at hl 3 rfl) ?_
                  refine va_get (D := D) (ci := 2) (v := .ref afy) (C := RX2) (T := TX2) (N := 17) hx hb hts nX2_pass_X2 hown hK.1 hP 0 rfl rfl 8 (by decide) (hts (.fieldLink RX2 22 "PolygonFrameModel" "fromY" "[I") (by decide +kernel)) (fun _ h9 => h9) rfl dX2_pass_135 ?_
                  refine lv_iload_n hx hb dX2_pass_138 rfl (lv_at hl 5 rfl) ?_
                  refine q_iald (k := k) hx hb hK.1 hP 2 0 rfl rfl (by omega) (by omega) dX2_pass_139 ?_
                  refine wr_v (wr := [(afx, .inl (cI, 60, .inl fx)), (afy, .inl (cI, 60, .inl fy))]) hP hD hS hA [0, 3, 4] [1, 2] rfl rfl (by decide) (by decide) (va_runV (As := [.int (fx k), .int (fy k)]) ⟨hx, hb, hml, hown, hts⟩ (kX2_add l D cI cZ H.size m0 aP ax ay afx afy atx aty wd hg cap n (nI F) (sd 0) (sd 1) (sd 2) (sd 3) (mpV cap tx ty q sd fx fy F k) (fx k) (fy k) (by omega) hc) (cwV 2 hts gX2_pass_X2_add rfl rfl rfl (by decide +kernel) ⟨Nat.le_of_ble_eq_true rfl, Nat.le_of_ble_eq_true rfl⟩) (wr_preV (ci := 2) (q0 := 0) (hP.sub [0, 3, 4] rfl) hK (hD.sub [0, 3, 4] (by decide) rfl) rfl rfl) rfl rfl hl.1 rfl (lv_room (Nat.le_of_ble_eq_true rfl)) dX2_pass_140 ⟨Nat.zero_le _, Nat.zero_le _⟩) (fun u2 H locs hw2 hP hD hS => ?_)
                  replace hP : va_P D vwCl [(m0, .inr (2, [.int (nI wd), .int (nI hg), .int (nI cap), .ref aP, .ref ax, .ref ay, .int (nI n), .ref afx, .ref afy, .ref atx, .ref aty, .int (nI F), .int (nI u2.1), .int (sd 0), .int (sd 1), .int (sd 2), .int (sd 3)])), (afx, .inl (cI, 60, .inl fx)), (afy, .inl (cI, 60, .inl fy)), (atx, .inl (cI, 60, .inl u2.2.1)), (aty, .inl (cI, 60, .inl u2.2.2))] H := hP.sub [2, 0, 1, 3, 4] rfl
                  replace hD : va_D A [(m0, .inr (2, [.int (nI wd), .int (nI hg), .int (nI cap), .ref aP, .ref ax, .ref ay, .int (nI n), .ref afx, .ref afy, .ref atx, .ref aty, .int (nI F), .int (nI u2.1), .int (sd 0), .int (sd 1), .int (sd 2), .int (sd 3)])), (afx, .inl (cI, 60, .inl fx)), (afy, .inl (cI, 60, .inl fy)), (atx, .inl (cI, 60, .inl u2.2.1)), (aty, .inl (cI, 60, .inl u2.2.2))] := hD.sub [2, 0, 1, 3, 4] (by decide) rfl
                  refine lv_iinc (v := (nI (k + 1))) (lv' := [(2, .int (nI (k + 1))), (5, .int (bI (gM q sd fx fy (prN F k)))), (4, .int (bI (gM q sd fx fy k))), (3, .int (nI (prN F k))), (0, .ref m0), (1, .int (nI q))]) hx hb dX2_pass_143 hl (k := 5) rfl (nI_1 _) (by decide) rfl (fun ls hl => ?_)
                  have e : u2 = (mpV cap tx ty q sd fx fy F (k + 1)) := by rw [mpV, mpL, out_01 (bI_eq.mp c90) (bI_ne c124), mpU_snoc]; rw [hw2]; rfl
                  refine lv_goto (tgt := 7) hx hb dX2_pass_146 (by decide) ?_
                  rw [e] at hP hD
                  exact ih (k + 1) (by omega) (by omega) H locs hP hD hS ls (lv_sub hl [4, 5, 0] rfl)
              · skip
                refine lv_aload_n hx hb dX2_pass_93 rfl (lv_at hl 3 rfl) ?_
                refine lv_iload_n hx hb dX2_pass_94 rfl (lv_at hl 4 rfl) ?_
                refine lv_aload_n hx hb dX2_pass_95 rfl (lv_at hl 3 rfl) ?_
                refine va_get (D := D) (ci := 2) (v := .ref afx) (C := RX2) (T := TX2) (N := 17) hx hb hts nX2_pass_X2 hown hK.1 hP 0 rfl rfl 7 (by decide) (hts (.fieldLink RX2 19 "PolygonFrameModel" "fromX" "[I") (by decide +kernel)) (fun _ h9 => h9) rfl dX2_pass_96 ?_
                refine lv_iload_n hx hb dX2_pass_99 rfl (lv_at hl 2 rfl) ?_
                refine q_iald (k := (prN F k)) hx hb hK.1 hP 1 0 rfl rfl (Nat.lt_of_lt_of_le hp hF) (by decide) dX2_pass_100 ?_
                refine lv_aload_n hx hb dX2_pass_101 rfl (lv_at hl 3 rfl) ?_
                refine va_get (D := D) (ci := 2) (v := .ref afy) (C := RX2) (T := TX2) (N := 17) hx hb hts nX2_pass_X2 hown hK.1 hP 0 rfl rfl 8 (by decide) (hts (.fieldLink RX2 22 "PolygonFrameModel" "fromY" "[I") (by decide +kernel)) (fun _ h9 => h9) rfl dX2_pass_102 ?_
                refine lv_iload_n hx hb dX2_pass_105 rfl (lv_at hl 2 rfl) ?_
                refine q_iald (k := (prN F k)) hx hb hK.1 hP 2 0 rfl rfl (Nat.lt_of_lt_of_le hp hF) (by decide) dX2_pass_106 ?_
                refine lv_aload_n hx hb dX2_pass_107 rfl (lv_at hl 3 rfl) ?_
                refine va_get (D := D) (ci := 2) (v := .ref afx) (C := RX2) (T := TX2) (N := 17) hx hb hts nX2_pass_X2 hown hK.1 hP 0 rfl rfl 7 (by decide) (hts (.fieldLink RX2 19 "PolygonFrameModel" "fromX" "[I") (by decide +kernel)) (fun _ h9 => h9) rfl dX2_pass_108 ?_
                refine lv_iload_n hx hb dX2_pass_111 rfl (lv_at hl 5 rfl) ?_
                refine q_iald (k := k) hx hb hK.1 hP 1 0 rfl rfl (by omega) (by omega) dX2_pass_112 ?_
                refine lv_aload_n hx hb dX2_pass_113 rfl (lv_at hl 3 rfl) ?_
                refine va_get (D := D) (ci := 2) (v := .ref afy) (C := RX2) (T := TX2) (N := 17) hx hb hts nX2_pass_X2 hown hK.1 hP 0 rfl rfl 8 (by decide) (hts (.fieldLink RX2 22 "PolygonFrameModel" "fromY" "[I") (by decide +kernel)) (fun _ h9 => h9) rfl dX2_pass_114 ?_
                refine lv_iload_n hx hb dX2_pass_117 rfl (lv_at hl 5 rfl) ?_
                refine q_iald (k := k) hx hb hK.1 hP 2 0 rfl rfl (by omega) (by omega) dX2_pass_118 ?_
                have hgg : ¬ gM q sd fx fy k = gM q sd fx fy (prN F k) := fun h => c90 (by rw [h])
                refine wr_v (wr := [(afx, .inl (cI, 60, .inl fx)), (afy, .inl (cI, 60, .inl fy))]) hP hD hS hA [0, 3, 4] [1, 2] rfl rfl (by decide) (by decide) (va_runV (As := [.int (nI q), .int (fx (prN F k)), .int (fy (prN F k)), .int (fx k), .int (fy k)]) ⟨hx, hb, hml, hown, hts⟩ (kX2_cut l D cI cZ H.size m0 aP ax ay afx afy atx aty wd hg cap n (nI F) sd (mpV cap tx ty q sd fx fy F k) q (fx (prN F k)) (fy (prN F k)) (fx k) (fy k) hq (gM_nx hgg).1 (gM_nx hgg).2 (by omega) hc) (cwV 5 hts gX2_pass_X2_cut rfl rfl rfl (by decide +kernel) ⟨Nat.le_of_ble_eq_true rfl, Nat.le_of_ble_eq_true rfl⟩) (wr_preV (ci := 2) (q0 := 0) (hP.sub [0, 3, 4] rfl) hK (hD.sub [0, 3, 4] (by decide) rfl) rfl rfl) rfl rfl hl.1 rfl (lv_room (Nat.le_of_ble_eq_true rfl)) dX2_pass_119 ⟨Nat.zero_le _, Nat.zero_le _⟩) (fun u1 H locs hw1 hP hD hS => ?_)
                replace hP : va_P D vwCl [(m0, .inr (2, [.int (nI wd), .int (nI hg), .int (nI cap), .ref aP, .ref ax, .ref ay, .int (nI n), .ref afx, .ref afy, .ref atx, .ref aty, .int (nI F), .int (nI u1.1), .int (sd 0), .int (sd 1), .int (sd 2), .int (sd 3)])), (afx, .inl (cI, 60, .inl fx)), (afy, .inl (cI, 60, .inl fy)), (atx, .inl (cI, 60, .inl u1.2.1)), (aty, .inl (cI, 60, .inl u1.2.2))] H := hP.sub [2, 0, 1, 3, 4] rfl
                replace hD : va_D A [(m0, .inr (2, [.int (nI wd), .int (nI hg), .int (nI cap), .ref aP, .ref ax, .ref ay, .int (nI n), .ref afx, .ref afy, .ref atx, .ref aty, .int (nI F), .int (nI u1.1), .int (sd 0), .int (sd 1), .int (sd 2), .int (sd 3)])), (afx, .inl (cI, 60, .inl fx)), (afy, .inl (cI, 60, .inl fy)), (atx, .inl (cI, 60, .inl u1.2.1)), (aty, .inl (cI, 60, .inl u1.2.2))] := hD.sub [2, 0, 1, 3, 4] (by decide) rfl
                have hu1 : u1.1 ≤ 1000 := by rw [hw1, adP_1]; omega
                refine lv_iload hx hb dX2_pass_122 (lv_at hl 1 rfl) ?_
                refine lv_if_eq (tgt := 143) hx hb dX2_pass_124 (by decide) (fun c124 => ?_) (fun c124 => ?_)
                · skip
                  refine lv_iinc (v := (nI (k + 1))) (lv' := [(2, .int (nI (k + 1))), (5, .int (bI (gM q sd fx fy (prN F k)))), (4, .int (bI (gM q sd fx fy k))), (3, .int (nI (prN F k))), (0, .ref m0), (1, .int (nI q))]) hx hb dX2_pass_143 hl (k := 5) rfl (nI_1 _) (by decide) rfl (fun ls hl => ?_)
                  have e : u1 = (mpV cap tx ty q sd fx fy F (k + 1)) := by rw [mpV, mpL, out_10 hgg (bI_eq0.mp c124), mpU_snoc]; rw [hw1]; rfl
                  refine lv_goto (tgt := 7) hx hb dX2_pass_146 (by decide) ?_
                  rw [e] at hP hD
                  exact ih (k + 1) (by omega) (by omega) H locs hP hD hS ls (lv_sub hl [4, 5, 0] rfl)
                · skip
                  refine lv_aload_n hx hb dX2_pass_127 rfl (lv_at hl 3 rfl) ?_
                  refine lv_aload_n hx hb dX2_pass_128 rfl (lv_at hl 3 rfl) ?_
                  refine va_get (D := D) (ci := 2) (v := .ref afx) (C := RX2) (T := TX2) (N := 17) hx hb hts nX2_pass_X2 hown hK.1 hP 0 rfl rfl 7 (by decide) (hts (.fieldLink RX2 19 "PolygonFrameModel" "fromX" "[I") (by decide +kernel)) (fun _ h9 => h9) rfl dX2_pass_129 ?_
                  refine lv_iload_n hx hb dX2_pass_132 rfl (lv_at hl 5 rfl) ?_
                  refine q_iald (k := k) hx hb hK.1 hP 1 0 rfl rfl (by omega) (by omega) dX2_pass_133 ?_
                  refine lv_aload_n hx hb dX2_pass_134 rfl (lv_at hl 3 rfl) ?_
                  refine va_get (D := D) (ci := 2) (v := .ref afy) (C := RX2) (T := TX2) (N := 17) hx hb hts nX2_pass_X2 hown hK.1 hP 0 rfl rfl 8 (by decide) (hts (.fieldLink RX2 22 "PolygonFrameModel" "fromY" "[I") (by decide +kernel)) (fun _ h9 => h9) rfl dX2_pass_135 ?_
                  refine lv_iload_n hx hb dX2_pass_138 rfl (lv_at hl 5 rfl) ?_
                  refine q_iald (k := k) hx hb hK.1 hP 2 0 rfl rfl (by omega) (by omega) dX2_pass_139 ?_
                  refine wr_v (wr := [(afx, .inl (cI, 60, .inl fx)), (afy, .inl (cI, 60, .inl fy))]) hP hD hS hA [0, 3, 4] [1, 2] rfl rfl (by decide) (by decide) (va_runV (As := [.int (fx k), .int (fy k)]) ⟨hx, hb, hml, hown, hts⟩ (kX2_add l D cI cZ H.size m0 aP ax ay afx afy atx aty wd hg cap n (nI F) (sd 0) (sd 1) (sd 2) (sd 3) u1 (fx k) (fy k) hu1 hc) (cwV 2 hts gX2_pass_X2_add rfl rfl rfl (by decide +kernel) ⟨Nat.le_of_ble_eq_true rfl, Nat.le_of_ble_eq_true rfl⟩) (wr_preV (ci := 2) (q0 := 0) (hP.sub [0, 3, 4] rfl) hK (hD.sub [0, 3, 4] (by decide) rfl) rfl rfl) rfl rfl hl.1 rfl (lv_room (Nat.le_of_ble_eq_true rfl)) dX2_pass_140 ⟨Nat.zero_le _, Nat.zero_le _⟩) (fun u2 H locs hw2 hP hD hS => ?_)
                  replace hP : va_P D vwCl [(m0, .inr (2, [.int (nI wd), .int (nI hg), .int (nI cap), .ref aP, .ref ax, .ref ay, .int (nI n), .ref afx, .ref afy, .ref atx, .ref aty, .int (nI F), .int (nI u2.1), .int (sd 0), .int (sd 1), .int (sd 2), .int (sd 3)])), (afx, .inl (cI, 60, .inl fx)), (afy, .inl (cI, 60, .inl fy)), (atx, .inl (cI, 60, .inl u2.2.1)), (aty, .inl (cI, 60, .inl u2.2.2))] H := hP.sub [2, 0, 1, 3, 4] rfl
                  replace hD : va_D A [(m0, .inr (2, [.int (nI wd), .int (nI hg), .int (nI cap), .ref aP, .ref ax, .ref ay, .int (nI n), .ref afx, .ref afy, .ref atx, .ref aty, .int (nI F), .int (nI u2.1), .int (sd 0), .int (sd 1), .int (sd 2), .int (sd 3)])), (afx, .inl (cI, 60, .inl fx)), (afy, .inl (cI, 60, .inl fy)), (atx, .inl (cI, 60, .inl u2.2.1)), (aty, .inl (cI, 60, .inl u2.2.2))] := hD.sub [2, 0, 1, 3, 4] (by decide) rfl
                  refine lv_iinc (v := (nI (k + 1))) (lv' := [(2, .int (nI (k + 1))), (5, .int (bI (gM q sd fx fy (prN F k)))), (4, .int (bI (gM q sd fx fy k))), (3, .int (nI (prN F k))), (0, .ref m0), (1, .int (nI q))]) hx hb dX2_pass_143 hl (k := 5) rfl (nI_1 _) (by decide) rfl (fun ls hl => ?_)
                  have e : u2 = (mpV cap tx ty q sd fx fy F (k + 1)) := by rw [mpV, mpL, out_11 hgg (bI_ne c124), mpU_snoc, mpU_snoc]; rw [hw2, hw1]; rfl
                  refine lv_goto (tgt := 7) hx hb dX2_pass_146 (by decide) ?_
                  rw [e] at hP hD
                  exact ih (k + 1) (by omega) (by omega) H locs hP hD hS ls (lv_sub hl [4, 5, 0] rfl)
            · skip
              refine lv_iconst (v := 1) hx hb dX2_pass_79 (by decide) ?_
              refine lv_goto (tgt := 84) hx hb dX2_pass_80 (by decide) ?_
              refine q_eq (show 1 = bI (gM q sd fx fy (prN F k)) from bI_tt (decide_eq_true c76)) ?_
              refine lv_istore (lv' := [(5, .int (bI (gM q sd fx fy (prN F k)))), (4, .int (bI (gM q sd fx fy k))), (3, .int (nI (prN F k))), (0, .ref m0), (1, .int (nI q)), (2, .int (nI k))]) hx hb dX2_pass_84 hl (by decide) rfl (fun ls hl => ?_)
              refine lv_iload hx hb dX2_pass_86 (lv_at hl 1 rfl) ?_
              refine lv_iload hx hb dX2_pass_88 (lv_at hl 0 rfl) ?_
              refine lv_icmp_eq (tgt := 122) hx hb dX2_pass_90 (by decide) (fun c90 => ?_) (fun c90 => ?_)
              · skip
                refine lv_iload hx hb dX2_pass_122 (lv_at hl 1 rfl) ?_
                refine lv_if_eq (tgt := 143) hx hb dX2_pass_124 (by decide) (fun c124 => ?_) (fun c124 => ?_)
                · skip
                  refine lv_iinc (v := (nI (k + 1))) (lv' := [(2, .int (nI (k + 1))), (5, .int (bI (gM q sd fx fy (prN F k)))), (4, .int (bI (gM q sd fx fy k))), (3, .int (nI (prN F k))), (0, .ref m0), (1, .int (nI q))]) hx hb dX2_pass_143 hl (k := 5) rfl (nI_1 _) (by decide) rfl (fun ls hl => ?_)
                  have e : (mpV cap tx ty q sd fx fy F k) = (mpV cap tx ty q sd fx fy F (k + 1)) := by rw [mpV, mpV, mpL, mpL, out_00 (bI_eq.mp c90) (bI_eq0.mp c124)]
                  refine lv_goto (tgt := 7) hx hb dX2_pass_146 (by decide) ?_
                  rw [e] at hP hD
                  exact ih (k + 1) (by omega) (by omega) H locs hP hD hS ls (lv_sub hl [4, 5, 0] rfl)
                · skip
                  refine lv_aload_n hx hb dX2_pass_127 rfl (lv_at hl 3 rfl) ?_
                  refine lv_aload_n hx hb dX2_pass_128 rfl (lv_at hl 3 rfl) ?_
                  refine va_get (D := D) (ci := 2) (v := .ref afx) (C := RX2) (T := TX2) (N := 17) hx hb hts nX2_pass_X2 hown hK.1 hP 0 rfl rfl 7 (by decide) (hts (.fieldLink RX2 19 "PolygonFrameModel" "fromX" "[I") (by decide +kernel)) (fun _ h9 => h9) rfl dX2_pass_129 ?_
                  refine lv_iload_n hx hb dX2_pass_132 rfl (lv_at hl 5 rfl) ?_
                  refine q_iald (k := k) hx hb hK.1 hP 1 0 rfl rfl (by omega) (by omega) dX2_pass_133 ?_
                  refine lv_aload_n hx hb dX2_pass_134 rfl (lv_at hl 3 rfl) ?_
                  refine va_get (D := D) (ci := 2) (v := .ref afy) (C := RX2) (T := TX2) (N := 17) hx hb hts nX2_pass_X2 hown hK.1 hP 0 rfl rfl 8 (by decide) (hts (.fieldLink RX2 22 "PolygonFrameModel" "fromY" "[I") (by decide +kernel)) (fun _ h9 => h9) rfl dX2_pass_135 ?_
                  refine lv_iload_n hx hb dX2_pass_138 rfl (lv_at hl 5 rfl) ?_
                  refine q_iald (k := k) hx hb hK.1 hP 2 0 rfl rfl (by omega) (by omega) dX2_pass_139 ?_
                  refine wr_v (wr := [(afx, .inl (cI, 60, .inl fx)), (afy, .inl (cI, 60, .inl fy))]) hP hD hS hA [0, 3, 4] [1, 2] rfl rfl (by decide) (by decide) (va_runV (As := [.int (fx k), .int (fy k)]) ⟨hx, hb, hml, hown, hts⟩ (kX2_add l D cI cZ H.size m0 aP ax ay afx afy atx aty wd hg cap n (nI F) (sd 0) (sd 1) (sd 2) (sd 3) (mpV cap tx ty q sd fx fy F k) (fx k) (fy k) (by omega) hc) (cwV 2 hts gX2_pass_X2_add rfl rfl rfl (by decide +kernel) ⟨Nat.le_of_ble_eq_true rfl, Nat.le_of_ble_eq_true rfl⟩) (wr_preV (ci := 2) (q0 := 0) (hP.sub [0, 3, 4] rfl) hK (hD.sub [0, 3, 4] (by decide) rfl) rfl rfl) rfl rfl hl.1 rfl (lv_room (Nat.le_of_ble_eq_true rfl)) dX2_pass_140 ⟨Nat.zero_le _, Nat.zero_le _⟩) (fun u2 H locs hw2 hP hD hS => ?_)
                  replace hP : va_P D vwCl [(m0, .inr (2, [.int (nI wd), .int (nI hg), .int (nI cap), .ref aP, .ref ax, .ref ay, .int (nI n), .ref afx, .ref afy, .ref atx, .ref aty, .int (nI F), .int (nI u2.1), .int (sd 0), .int (sd 1), .int (sd 2), .int (sd 3)])), (afx, .inl (cI, 60, .inl fx)), (afy, .inl (cI, 60, .inl fy)), (atx, .inl (cI, 60, .inl u2.2.1)), (aty, .inl (cI, 60, .inl u2.2.2))] H := hP.sub [2, 0, 1, 3, 4] rfl
                  replace hD : va_D A [(m0, .inr (2, [.int (nI wd), .int (nI hg), .int (nI cap), .ref aP, .ref ax, .ref ay, .int (nI n), .ref afx, .ref afy, .ref atx, .ref aty, .int (nI F), .int (nI u2.1), .int (sd 0), .int (sd 1), .int (sd 2), .int (sd 3)])), (afx, .inl (cI, 60, .inl fx)), (afy, .inl (cI, 60, .inl fy)), (atx, .inl (cI, 60, .inl u2.2.1)), (aty, .inl (cI, 60, .inl u2.2.2))] := hD.sub [2, 0, 1, 3, 4] (by decide) rfl
                  refine lv_iinc (v := (nI (k + 1))) (lv' := [(2, .int (nI (k + 1))), (5, .int (bI (gM q sd fx fy (prN F k)))), (4, .int (bI (gM q sd fx fy k))), (3, .int (nI (prN F k))), (0, .ref m0), (1, .int (nI q))]) hx hb dX2_pass_143 hl (k := 5) rfl (nI_1 _) (by decide) rfl (fun ls hl => ?_)
                  have e : u2 = (mpV cap tx ty q sd fx fy F (k + 1)) := by rw [mpV, mpL, out_01 (bI_eq.mp c90) (bI_ne c124), mpU_snoc]; rw [hw2]; rfl
                  refine lv_goto (tgt := 7) hx hb dX2_pass_146 (by decide) ?_
                  rw [e] at hP hD
                  exact ih (k + 1) (by omega) (by omega) H locs hP hD hS ls (lv_sub hl [4, 5, 0] rfl)
              · skip
                refine lv_aload_n hx hb dX2_pass_93 rfl (lv_at hl 3 rfl) ?_
                refine lv_iload_n hx hb dX2_pass_94 rfl (lv_at hl 4 rfl) ?_
                refine lv_aload_n hx hb dX2_pass_95 rfl (lv_at hl 3 rfl) ?_
                refine va_get (D := D) (ci := 2) (v := .ref afx) (C := RX2) (T := TX2) (N := 17) hx hb hts nX2_pass_X2 hown hK.1 hP 0 rfl rfl 7 (by decide) (hts (.fieldLink RX2 19 "PolygonFrameModel" "fromX" "[I") (by decide +kernel)) (fun _ h9 => h9) rfl dX2_pass_96 ?_
                refine lv_iload_n hx hb dX2_pass_99 rfl (lv_at hl 2 rfl) ?_
                refine q_iald (k := (prN F k)) hx hb hK.1 hP 1 0 rfl rfl (Nat.lt_of_lt_of_le hp hF) (by decide) dX2_pass_100 ?_
                refine lv_aload_n hx hb dX2_pass_101 rfl (lv_at hl 3 rfl) ?_
                refine va_get (D := D) (ci := 2) (v := .ref afy) (C := RX2) (T := TX2) (N := 17) hx hb hts nX2_pass_X2 hown hK.1 hP 0 rfl rfl 8 (by decide) (hts (.fieldLink RX2 22 "PolygonFrameModel" "fromY" "[I") (by decide +kernel)) (fun _ h9 => h9) rfl dX2_pass_102 ?_
                refine lv_iload_n hx hb dX2_pass_105 rfl (lv_at hl 2 rfl) ?_
                refine q_iald (k := (prN F k)) hx hb hK.1 hP 2 0 rfl rfl (Nat.lt_of_lt_of_le hp hF) (by decide) dX2_pass_106 ?_
                refine lv_aload_n hx hb dX2_pass_107 rfl (lv_at hl 3 rfl) ?_
                refine va_get (D := D) (ci := 2) (v := .ref afx) (C := RX2) (T := TX2) (N := 17) hx hb hts nX2_pass_X2 hown hK.1 hP 0 rfl rfl 7 (by decide) (hts (.fieldLink RX2 19 "PolygonFrameModel" "fromX" "[I") (by decide +kernel)) (fun _ h9 => h9) rfl dX2_pass_108 ?_
                refine lv_iload_n hx hb dX2_pass_111 rfl (lv_at hl 5 rfl) ?_
                refine q_iald (k := k) hx hb hK.1 hP 1 0 rfl rfl (by omega) (by omega) dX2_pass_112 ?_
                refine lv_aload_n hx hb dX2_pass_113 rfl (lv_at hl 3 rfl) ?_
                refine va_get (D := D) (ci := 2) (v := .ref afy) (C := RX2) (T := TX2) (N := 17) hx hb hts nX2_pass_X2 hown hK.1 hP 0 rfl rfl 8 (by decide) (hts (.fieldLink RX2 22 "PolygonFrameModel" "fromY" "[I") (by decide +kernel)) (fun _ h9 => h9) rfl dX2_pass_114 ?_
                refine lv_iload_n hx hb dX2_pass_117 rfl (lv_at hl 5 rfl) ?_
                refine q_iald (k := k) hx hb hK.1 hP 2 0 rfl rfl (by omega) (by omega) dX2_pass_118 ?_
                have hgg : ¬ gM q sd fx fy k = gM q sd fx fy (prN F k) := fun h => c90 (by rw [h])
                refine wr_v (wr := [(afx, .inl (cI, 60, .inl fx)), (afy, .inl (cI, 60, .inl fy))]) hP hD hS hA [0, 3, 4] [1, 2] rfl rfl (by decide) (by decide) (va_runV (As := [.int (nI q), .int (fx (prN F k)), .int (fy (prN F k)), .int (fx k), .int (fy k)]) ⟨hx, hb, hml, hown, hts⟩ (kX2_cut l D cI cZ H.size m0 aP ax ay afx afy atx aty wd hg cap n (nI F) sd (mpV cap tx ty q sd fx fy F k) q (fx (prN F k)) (fy (prN F k)) (fx k) (fy k) hq (gM_nx hgg).1 (gM_nx hgg).2 (by omega) hc) (cwV 5 hts gX2_pass_X2_cut rfl rfl rfl (by decide +kernel) ⟨Nat.le_of_ble_eq_true rfl, Nat.le_of_ble_eq_true rfl⟩) (wr_preV (ci := 2) (q0 := 0) (hP.sub [0, 3, 4] rfl) hK (hD.sub [0, 3, 4] (by decide) rfl) rfl rfl) rfl rfl hl.1 rfl (lv_room (Nat.le_of_ble_eq_true rfl)) dX2_pass_119 ⟨Nat.zero_le _, Nat.zero_le _⟩) (fun u1 H locs hw1 hP hD hS => ?_)
                replace hP : va_P D vwCl [(m0, .inr (2, [.int (nI wd), .int (nI hg), .int (nI cap), .ref aP, .ref ax, .ref ay, .int (nI n), .ref afx, .ref afy, .ref atx, .ref aty, .int (nI F), .int (nI u1.1), .int (sd 0), .int (sd 1), .int (sd 2), .int (sd 3)])), (afx, .inl (cI, 60, .inl fx)), (afy, .inl (cI, 60, .inl fy)), (atx, .inl (cI, 60, .inl u1.2.1)), (aty, .inl (cI, 60, .inl u1.2.2))] H := hP.sub [2, 0, 1, 3, 4] rfl
                replace hD : va_D A [(m0, .inr (2, [.int (nI wd), .int (nI hg), .int (nI cap), .ref aP, .ref ax, .ref ay, .int (nI n), .ref afx, .ref afy, .ref atx, .ref aty, .int (nI F), .int (nI u1.1), .int (sd 0), .int (sd 1), .int (sd 2), .int (sd 3)])), (afx, .inl (cI, 60, .inl fx)), (afy, .inl (cI, 60, .inl fy)), (atx, .inl (cI, 60, .inl u1.2.1)), (aty, .inl (cI, 60, .inl u1.2.2))] := hD.sub [2, 0, 1, 3, 4] (by decide) rfl
                have hu1 : u1.1 ≤ 1000 := by rw [hw1, adP_1]; omega
                refine lv_iload hx hb dX2_pass_122 (lv_at hl 1 rfl) ?_
                refine lv_if_eq (tgt := 143) hx hb dX2_pass_124 (by decide) (fun c124 => ?_) (fun c124 => ?_)
                · skip
                  refine lv_iinc (v := (nI (k + 1))) (lv' := [(2, .int (nI (k + 1))), (5, .int (bI (gM q sd fx fy (prN F k)))), (4, .int (bI (gM q sd fx fy k))), (3, .int (nI (prN F k))), (0, .ref m0), (1, .int (nI q))]) hx hb dX2_pass_143 hl (k := 5) rfl (nI_1 _) (by decide) rfl (fun ls hl => ?_)
                  have e : u1 = (mpV cap tx ty q sd fx fy F (k + 1)) := by rw [mpV, mpL, out_10 hgg (bI_eq0.mp c124), mpU_snoc]; rw [hw1]; rfl
                  refine lv_goto (tgt := 7) hx hb dX2_pass_146 (by decide) ?_
                  rw [e] at hP hD
                  exact ih (k + 1) (by omega) (by omega) H locs hP hD hS ls (lv_sub hl [4, 5, 0] rfl)
                · skip
                  refine lv_aload_n hx hb dX2_pass_127 rfl (lv_at hl 3 rfl) ?_
                  refine lv_aload_n hx hb dX2_pass_128 rfl (lv_at hl 3 rfl) ?_
                  refine va_get (D := D) (ci := 2) (v := .ref afx) (C := RX2) (T := TX2) (N := 17) hx hb hts nX2_pass_X2 hown hK.1 hP 0 rfl rfl 7 (by decide) (hts (.fieldLink RX2 19 "PolygonFrameModel" "fromX" "[I") (by decide +kernel)) (fun _ h9 => h9) rfl dX2_pass_129 ?_
                  refine lv_iload_n hx hb dX2_pass_132 rfl (lv_at hl 5 rfl) ?_
                  refine q_iald (k := k) hx hb hK.1 hP 1 0 rfl rfl (by omega) (by omega) dX2_pass_133 ?_
                  refine lv_aload_n hx hb dX2_pass_134 rfl (lv_at hl 3 rfl) ?_
                  refine va_get (D := D) (ci := 2) (v := .ref afy) (C := RX2) (T := TX2) (N := 17) hx hb hts nX2_pass_X2 hown hK.1 hP 0 rfl rfl 8 (by decide) (hts (.fieldLink RX2 22 "PolygonFrameModel" "fromY" "[I") (by decide +kernel)) (fun _ h9 => h9) rfl dX2_pass_135 ?_
                  refine lv_iload_n hx hb dX2_pass_138 rfl (lv_at hl 5 rfl) ?_
                  refine q_iald (k := k) hx hb hK.1 hP 2 0 rfl rfl (by omega) (by omega) dX2_pass_139 ?_
                  refine wr_v (wr := [(afx, .inl (cI, 60, .inl fx)), (afy, .inl (cI, 60, .inl fy))]) hP hD hS hA [0, 3, 4] [1, 2] rfl rfl (by decide) (by decide) (va_runV (As := [.int (fx k), .int (fy k)]) ⟨hx, hb, hml, hown, hts⟩ (kX2_add l D cI cZ H.size m0 aP ax ay afx afy atx aty wd hg cap n (nI F) (sd 0) (sd 1) (sd 2) (sd 3) u1 (fx k) (fy k) hu1 hc) (cwV 2 hts gX2_pass_X2_add rfl rfl rfl (by decide +kernel) ⟨Nat.le_of_ble_eq_true rfl, Nat.le_of_ble_eq_true rfl⟩) (wr_preV (ci := 2) (q0 := 0) (hP.sub [0, 3, 4] rfl) hK (hD.sub [0, 3, 4] (by decide) rfl) rfl rfl) rfl rfl hl.1 rfl (lv_room (Nat.le_of_ble_eq_true rfl)) dX2_pass_140 ⟨Nat.zero_le _, Nat.zero_le _⟩) (fun u2 H locs hw2 hP hD hS => ?_)
                  replace hP : va_P D vwCl [(m0, .inr (2, [.int (nI wd), .int (nI hg), .int (nI cap), .ref aP, .ref ax, .ref ay, .int (nI n), .ref afx, .ref afy, .ref atx, .ref aty, .int (nI F), .int (nI u2.1), .int (sd 0), .int (sd 1), .int (sd 2), .int (sd 3)])), (afx, .inl (cI, 60, .inl fx)), (afy, .inl (cI, 60, .inl fy)), (atx, .inl (cI, 60, .inl u2.2.1)), (aty, .inl (cI, 60, .inl u2.2.2))] H := hP.sub [2, 0, 1, 3, 4] rfl
                  replace hD : va_D A [(m0, .inr (2, [.int (nI wd), .int (nI hg), .int (nI cap), .ref aP, .ref ax, .ref ay, .int (nI n), .ref afx, .ref afy, .ref atx, .ref aty, .int (nI F), .int (nI u2.1), .int (sd 0), .int (sd 1), .int (sd 2), .int (sd 3)])), (afx, .inl (cI, 60, .inl fx)), (afy, .inl (cI, 60, .inl fy)), (atx, .inl (cI, 60, .inl u2.2.1)), (aty, .inl (cI, 60, .inl u2.2.2))] := hD.sub [2, 0, 1, 3, 4] (by decide) rfl
                  refine lv_iinc (v := (nI (k + 1))) (lv' := [(2, .int (nI (k + 1))), (5, .int (bI (gM q sd fx fy (prN F k)))), (4, .int (bI (gM q sd fx fy k))), (3, .int (nI (prN F k))), (0, .ref m0), (1, .int (nI q))]) hx hb dX2_pass_143 hl (k := 5) rfl (nI_1 _) (by decide) rfl (fun ls hl => ?_)
                  have e : u2 = (mpV cap tx ty q sd fx fy F (k + 1)) := by rw [mpV, mpL, out_11 hgg (bI_ne c124), mpU_snoc, mpU_snoc]; rw [hw2, hw1]; rfl
                  refine lv_goto (tgt := 7) hx hb dX2_pass_146 (by decide) ?_
                  rw [e] at hP hD
                  exact ih (k + 1) (by omega) (by omega) H locs hP hD hS ls (lv_sub hl [4, 5, 0] rfl)
  refine lv_aload_n hx hb dX2_pass_0 rfl (lv_at hl 0 rfl) ?_
  refine lv_iconst (v := 0) hx hb dX2_pass_1 (by decide) ?_
  refine va_put (D := D) (ci := 2) (v := .int 0) (ty := .int) (C := RX2) (T := TX2) (N := 17) hx hb hts nX2_pass_X2 tyX2 tyX2_ok nmX2 hown hK.1 hP hD hS 0 rfl rfl 12 (by decide) (hts (.fieldLink RX2 64 "PolygonFrameModel" "to" "I") (by decide +kernel)) (fun _ h9 => h9) rfl (tyX2_ok 12 (by decide)) rfl rfl (Nat.le_of_ble_eq_true rfl) dX2_pass_2 (fun H locs hP hD hS => ?_)
  have hP : va_P D vwCl [(m0, .inr (2, [.int (nI wd), .int (nI hg), .int (nI cap), .ref aP, .ref ax, .ref ay, .int (nI n), .ref afx, .ref afy, .ref atx, .ref aty, .int (nI F), .int 0, .int (sd 0), .int (sd 1), .int (sd 2), .int (sd 3)])), (afx, .inl (cI, 60, .inl fx)), (afy, .inl (cI, 60, .inl fy)), (atx, .inl (cI, 60, .inl tx)), (aty, .inl (cI, 60, .inl ty))] H := hP
  have hD : va_D A [(m0, .inr (2, [.int (nI wd), .int (nI hg), .int (nI cap), .ref aP, .ref ax, .ref ay, .int (nI n), .ref afx, .ref afy, .ref atx, .ref aty, .int (nI F), .int 0, .int (sd 0), .int (sd 1), .int (sd 2), .int (sd 3)])), (afx, .inl (cI, 60, .inl fx)), (afy, .inl (cI, 60, .inl fy)), (atx, .inl (cI, 60, .inl tx)), (aty, .inl (cI, 60, .inl ty))] := hD
  refine lv_iconst (v := 0) hx hb dX2_pass_5 (by decide) ?_
  refine lv_istore_n (lv' := [(2, .int 0), (0, .ref m0), (1, .int (nI q))]) hx hb dX2_pass_6 rfl hl (by decide) rfl (fun ls hl => ?_)
  exact LOOP (F + 1) 0 (Nat.zero_le _) (by omega) H locs hP hD hS ls (lv_sub hl [1, 2, 0] rfl)
