/-! THE REFERENCE'S FILL. -/
def inQ (xs ys : Nat → Int32) (n x y : Nat) : Bool := oddB (crQ xs ys n (nI x) (nI y)) n
theorem pq_inj {w i j a b : Nat} (hw : w ≤ 24) (hi : i < w) (ha : a < w) (h : 24 * j + i = 24 * b + a) : j = b ∧ i = a := by omega
theorem pq_set {cl col : Nat → Int32} {w h j k : Nat} {v : Int32} {IN : Nat → Nat → Bool} (hw : w ≤ 24) (hk : k < w) (hR : IN k j = true) (hcl : ∀ x y, x < w → y < h → cl (24 * y + x) = if (y < j ∨ (y = j ∧ x < k)) ∧ IN x y = true then v else col (24 * y + x)) :
    ∀ x y, x < w → y < h → upd cl (24 * j + k) v (24 * y + x) = if (y < j ∨ (y = j ∧ x < k + 1)) ∧ IN x y = true then v else col (24 * y + x) := by
  intro x y hx hy
  by_cases he : 24 * y + x = 24 * j + k
  · obtain ⟨h1, h2⟩ := pq_inj hw hx hk he
    rw [he, pk_us, if_pos ⟨Or.inr ⟨h1, by omega⟩, by rw [h1, h2]; exact hR⟩]
  · rw [pk_un he, hcl x y hx hy]
    by_cases hc : (y < j ∨ (y = j ∧ x < k)) ∧ IN x y = true
    · rw [if_pos hc, if_pos ⟨by omega, hc.2⟩]
    · rw [if_neg hc, if_neg]
      intro h2
      apply hc
      refine ⟨?_, h2.2⟩
      have : ¬ (y = j ∧ x = k) := fun e => he (by rw [e.1, e.2])
      omega
theorem pq_skip {cl col : Nat → Int32} {w h j k : Nat} {v : Int32} {IN : Nat → Nat → Bool} (hR : IN k j = false) (hcl : ∀ x y, x < w → y < h → cl (24 * y + x) = if (y < j ∨ (y = j ∧ x < k)) ∧ IN x y = true then v else col (24 * y + x)) :
    ∀ x y, x < w → y < h → cl (24 * y + x) = if (y < j ∨ (y = j ∧ x < k + 1)) ∧ IN x y = true then v else col (24 * y + x) := by
  intro x y hx hy
  rw [hcl x y hx hy]
  by_cases hc : (y < j ∨ (y = j ∧ x < k)) ∧ IN x y = true
  · rw [if_pos hc, if_pos ⟨by omega, hc.2⟩]
  · rw [if_neg hc, if_neg]
    intro h2
    apply hc
    refine ⟨?_, h2.2⟩
    have : ¬ (y = j ∧ x = k) := fun e => by rw [e.1, e.2, hR] at h2; exact absurd h2.2 (by decide)
    omega
theorem pq_row {cl col : Nat → Int32} {w h j k : Nat} {v : Int32} {IN : Nat → Nat → Bool} (hk : k = w) (hcl : ∀ x y, x < w → y < h → cl (24 * y + x) = if (y < j ∨ (y = j ∧ x < k)) ∧ IN x y = true then v else col (24 * y + x)) :
    ∀ x y, x < w → y < h → cl (24 * y + x) = if y < j + 1 ∧ IN x y = true then v else col (24 * y + x) := by
  intro x y hx hy
  rw [hcl x y hx hy]
  by_cases hc : (y < j ∨ (y = j ∧ x < k)) ∧ IN x y = true
  · rw [if_pos hc, if_pos ⟨by omega, hc.2⟩]
  · rw [if_neg hc, if_neg]
    intro h2
    exact hc ⟨by omega, h2.2⟩
theorem nX2_fill_X2 : ∀ w ∈ wsX20, w ∈ wsX2_fill := fun w h => List.mem_cons_of_mem _ (List.mem_append_right _ h)
set_option maxHeartbeats 4000000 in
set_option maxRecDepth 100000 in
theorem kX2_fill (l : Launch) (D : va_G) (cI cZ : ClassId) (sz : Nat) (m0 aP ax ay afx afy atx aty wd hg cap n : Nat) (fr tt x0 x1 y0 y1 : Int32) (xs ys col : Nat → Int32) (v : Int32) (hn : n ≤ 60) (hw : wd ≤ 24) (hh : hg ≤ 24) : Met l yX2_fill wsX2_fill ({ frames := 2, cells := 0, slots := 0, locals := 80 }) (va_Pc [.ref m0, .int v] (wrP D cI cZ sz [(m0, .inr (2, [.int (nI wd), .int (nI hg), .int (nI cap), .ref aP, .ref ax, .ref ay, .int (nI n), .ref afx, .ref afy, .ref atx, .ref aty, .int fr, .int tt, .int x0, .int x1, .int y0, .int y1])), (ax, .inl (cI, 60, .inl xs)), (ay, .inl (cI, 60, .inl ys)), (aP, .inl (cI, 576, .inl col))])) (va_Qi (S := Nat → Int32) (fun r u => r = nI (suN (fun y => cnB (fun x => inQ xs ys n x y) wd) hg) ∧ ∀ x y, x < wd → y < hg → u (24 * y + x) = if inQ xs ys n x y = true then v else col (24 * y + x)) (wrB D [(m0, .inr (2, [.int (nI wd), .int (nI hg), .int (nI cap), .ref aP, .ref ax, .ref ay, .int (nI n), .ref afx, .ref afy, .ref atx, .ref aty, .int fr, .int tt, .int x0, .int x1, .int y0, .int y1])), (ax, .inl (cI, 60, .inl xs)), (ay, .inl (cI, 60, .inl ys)), (aP, .inl (cI, 576, .inl col))] sz (fun u => [(m0, .inr (2, [.int (nI wd), .int (nI hg), .int (nI cap), .ref aP, .ref ax, .ref ay, .int (nI n), .ref afx, .ref afy, .ref atx, .ref aty, .int fr, .int tt, .int x0, .int x1, .int y0, .int y1])), (ax, .inl (cI, 60, .inl xs)), (ay, .inl (cI, 60, .inl ys)), (aP, .inl (cI, 576, .inl u))])) (va_A [(m0, .inr (2, [.int (nI wd), .int (nI hg), .int (nI cap), .ref aP, .ref ax, .ref ay, .int (nI n), .ref afx, .ref afy, .ref atx, .ref aty, .int fr, .int tt, .int x0, .int x1, .int y0, .int y1])), (ax, .inl (cI, 60, .inl xs)), (ay, .inl (cI, 60, .inl ys)), (aP, .inl (cI, 576, .inl col))] sz)) 0 0 (va_A [(m0, .inr (2, [.int (nI wd), .int (nI hg), .int (nI cap), .ref aP, .ref ax, .ref ay, .int (nI n), .ref afx, .ref afy, .ref atx, .ref aty, .int fr, .int tt, .int x0, .int x1, .int y0, .int y1])), (ax, .inl (cI, 60, .inl xs)), (ay, .inl (cI, 60, .inl ys)), (aP, .inl (cI, 576, .inl col))] sz) := by
  refine Met.ofW (cc := cX2_fill) (maxL := 5) (ret := (some .int)) (by decide) rfl ?_
  intro p e s m args below meth c s₁ B hml hv
  obtain ⟨rfl, hsz, hP, hK, hD0⟩ := hv
  have hx := B.exec
  have hb := B.bytes
  have hr := B.returns
  have hts := atoms_spec (ws := wsX2_fill) B.pre
  have hown : s.vm.findClass RX2 = some m.cls := findClass_of_methodNamed B.named
  have hlocks := B.notSynchronized
  subst hsz
  have hD := hD0.self (sz := s.heap.size)
  generalize hAe : va_A [(m0, .inr (2, [.int (nI wd), .int (nI hg), .int (nI cap), .ref aP, .ref ax, .ref ay, .int (nI n), .ref afx, .ref afy, .ref atx, .ref aty, .int fr, .int tt, .int x0, .int x1, .int y0, .int y1])), (ax, .inl (cI, 60, .inl xs)), (ay, .inl (cI, 60, .inl ys)), (aP, .inl (cI, 576, .inl col))] s.heap.size = A at hD ⊢
  have hA : ∀ q : Nat, s.heap.size ≤ q → A q := fun q h => by rw [← hAe]; exact Or.inr h
  have hS : va_S A s.heap s.heap [] := va_S.rf
  have hP : va_P D vwCl [(m0, .inr (2, [.int (nI wd), .int (nI hg), .int (nI cap), .ref aP, .ref ax, .ref ay, .int (nI n), .ref afx, .ref afy, .ref atx, .ref aty, .int fr, .int tt, .int x0, .int x1, .int y0, .int y1])), (ax, .inl (cI, 60, .inl xs)), (ay, .inl (cI, 60, .inl ys)), (aP, .inl (cI, 576, .inl col))] s.heap := hP
  have hl := lv_entry ([.ref m0, .int v]) (n := 5) (Nat.le_of_ble_eq_true rfl)
  rw [lg_entry_eq]
  generalize (lg_sl ([.ref m0, .int v]) ++ List.replicate (5 - (lg_sl ([.ref m0, .int v])).length) Slot.unset).toArray = ls at hl ⊢
  have hl : lv_has ls 5 [(0, .ref m0), (1, .int v)] := hl
  have LOOP : ∀ (i j : Nat), j ≤ hg → hg < j + i → ∀ (cl : Nat → Int32), (∀ x y, x < wd → y < hg → cl (24 * y + x) = if y < j ∧ inQ xs ys n x y = true then v else col (24 * y + x)) → ∀ (H : Heap) (locs : List Loc), va_P D vwCl [(m0, .inr (2, [.int (nI wd), .int (nI hg), .int (nI cap), .ref aP, .ref ax, .ref ay, .int (nI n), .ref afx, .ref afy, .ref atx, .ref aty, .int fr, .int tt, .int x0, .int x1, .int y0, .int y1])), (ax, .inl (cI, 60, .inl xs)), (ay, .inl (cI, 60, .inl ys)), (aP, .inl (cI, 576, .inl cl))] H → va_D A [(m0, .inr (2, [.int (nI wd), .int (nI hg), .int (nI cap), .ref aP, .ref ax, .ref ay, .int (nI n), .ref afx, .ref afy, .ref atx, .ref aty, .int fr, .int tt, .int x0, .int x1, .int y0, .int y1])), (ax, .inl (cI, 60, .inl xs)), (ay, .inl (cI, 60, .inl ys)), (aP, .inl (cI, 576, .inl cl))] → va_S A s.heap H locs → ∀ ls : Array Slot, lv_has ls 5 [(0, .ref m0), (1, .int v), (2, .int (nI (suN (fun y => cnB (fun x => inQ xs ys n x y) wd) j))), (3, .int (nI j))] → W p l e ({ frames := 2, cells := 0, slots := 0, locals := 80 } : Room) s m #[.ref m0, .int v] below meth c H locs 0 0 (MQ below (va_Qi (S := Nat → Int32) (fun r u => r = nI (suN (fun y => cnB (fun x => inQ xs ys n x y) wd) hg) ∧ ∀ x y, x < wd → y < hg → u (24 * y + x) = if inQ xs ys n x y = true then v else col (24 * y + x)) (wrB D [(m0, .inr (2, [.int (nI wd), .int (nI hg), .int (nI cap), .ref aP, .ref ax, .ref ay, .int (nI n), .ref afx, .ref afy, .ref atx, .ref aty, .int fr, .int tt, .int x0, .int x1, .int y0, .int y1])), (ax, .inl (cI, 60, .inl xs)), (ay, .inl (cI, 60, .inl ys)), (aP, .inl (cI, 576, .inl col))] s.heap.size (fun u => [(m0, .inr (2, [.int (nI wd), .int (nI hg), .int (nI cap), .ref aP, .ref ax, .ref ay, .int (nI n), .ref afx, .ref afy, .ref atx, .ref aty, .int fr, .int tt, .int x0, .int x1, .int y0, .int y1])), (ax, .inl (cI, 60, .inl xs)), (ay, .inl (cI, 60, .inl ys)), (aP, .inl (cI, 576, .inl u))])) A) #[.ref m0, .int v] s 0 0 A) (F0 m 4 ls []) := by
    intro i
    induction i with
    | zero => intro j h1 h2; omega
    | succ i ih =>
      intro j hj hji cl hcl H locs hP hD hS ls hl
      refine lv_iload_n hx hb dX2_fill_4 rfl (lv_at hl 3 rfl) ?_
      refine lv_aload_n hx hb dX2_fill_5 rfl (lv_at hl 0 rfl) ?_
      refine va_get (D := D) (ci := 2) (v := .int (nI hg)) (C := RX2) (T := TX2) (N := 17) hx hb hts nX2_fill_X2 hown hK.1 hP 0 rfl rfl 1 (by decide) (hts (.fieldLink RX2 51 "PolygonFrameModel" "high" "I") (by decide +kernel)) (fun _ h9 => h9) rfl dX2_fill_6 ?_
      refine lv_icmp_ge (tgt := 62) hx hb dX2_fill_9 (by decide) (fun c9 => ?_) (fun c9 => ?_)
      · skip
        refine lv_iload_n hx hb dX2_fill_62 rfl (lv_at hl 2 rfl) ?_
        have hkn : j = hg := Nat.le_antisymm hj ((nI_leI (by omega) (by omega)).mp c9)
        exact W.iret (v := (nI (suN (fun y => cnB (fun x => inQ xs ys n x y) wd) j))) hx hb hr (fun t ht hW => ⟨⟨(nI (suN (fun y => cnB (fun x => inQ xs ys n x y) wd) j)), cl, rfl, ⟨by rw [hkn], fun x y hx hy => by rw [hcl x y hx hy, hkn]; simp [hy]⟩, by rw [ht]; exact hP, by rw [hAe]; exact hD⟩, hS.F ht⟩) hS.2.2 dX2_fill_63
      · skip
        refine lv_iconst (v := 0) hx hb dX2_fill_12 (by decide) ?_
        refine lv_istore (lv' := [(4, .int 0), (0, .ref m0), (1, .int v), (2, .int (nI (suN (fun y => cnB (fun x => inQ xs ys n x y) wd) j))), (3, .int (nI j))]) hx hb dX2_fill_13 hl (by decide) rfl (fun ls hl => ?_)
        have hj2 : j < hg := Nat.lt_of_not_le (fun h => c9 (nI_le h (by omega)))
        have L2 : ∀ (i2 k : Nat), k ≤ wd → wd < k + i2 → ∀ (cl : Nat → Int32), (∀ x y, x < wd → y < hg → cl (24 * y + x) = if (y < j ∨ (y = j ∧ x < k)) ∧ (inQ xs ys n) x y = true then v else col (24 * y + x)) → ∀ (H : Heap) (locs : List Loc), va_P D vwCl [(m0, .inr (2, [.int (nI wd), .int (nI hg), .int (nI cap), .ref aP, .ref ax, .ref ay, .int (nI n), .ref afx, .ref afy, .ref atx, .ref aty, .int fr, .int tt, .int x0, .int x1, .int y0, .int y1])), (ax, .inl (cI, 60, .inl xs)), (ay, .inl (cI, 60, .inl ys)), (aP, .inl (cI, 576, .inl cl))] H → va_D A [(m0, .inr (2, [.int (nI wd), .int (nI hg), .int (nI cap), .ref aP, .ref ax, .ref ay, .int (nI n), .ref afx, .ref afy, .ref atx, .ref aty, .int fr, .int tt, .int x0, .int x1, .int y0, .int y1])), (ax, .inl (cI, 60, .inl xs)), (ay, .inl (cI, 60, .inl ys)), (aP, .inl (cI, 576, .inl cl))] → va_S A s.heap H locs → ∀ ls : Array Slot, lv_has ls 5 [(0, .ref m0), (1, .int v), (2, .int (nI ((suN (fun y => cnB (fun x => inQ xs ys n x y) wd) j) + cnB (fun x => inQ xs ys n x j) k))), (3, .int (nI j)), (4, .int (nI k))] → W p l e ({ frames := 2, cells := 0, slots := 0, locals := 80 } : Room) s m #[.ref m0, .int v] below meth c H locs 0 0 (MQ below (va_Qi (S := Nat → Int32) (fun r u => r = nI (suN (fun y => cnB (fun x => inQ xs ys n x y) wd) hg) ∧ ∀ x y, x < wd → y < hg → u (24 * y + x) = if inQ xs ys n x y = true then v else col (24 * y + x)) (wrB D [(m0, .inr (2, [.int (nI wd), .int (nI hg), .int (nI cap), .ref aP, .ref ax, .ref ay, .int (nI n), .ref afx, .ref afy, .ref atx, .ref aty, .int fr, .int tt, .int x0, .int x1, .int y0, .int y1])), (ax, .inl (cI, 60, .inl xs)), (ay, .inl (cI, 60, .inl ys)), (aP, .inl (cI, 576, .inl col))] s.heap.size (fun u => [(m0, .inr (2, [.int (nI wd), .int (nI hg), .int (nI cap), .ref aP, .ref ax, .ref ay, .int (nI n), .ref afx, .ref afy, .ref atx, .ref aty, .int fr, .int tt, .int x0, .int x1, .int y0, .int y1])), (ax, .inl (cI, 60, .inl xs)), (ay, .inl (cI, 60, .inl ys)), (aP, .inl (cI, 576, .inl u))])) A) #[.ref m0, .int v] s 0 0 A) (F0 m 15 ls []) := by
          intro i2
          induction i2 with
          | zero => intro k h1 h2; omega
          | succ i2 ih2 =>
            intro k hk hki cl hcl H locs hP hD hS ls hl
            refine lv_iload hx hb dX2_fill_15 (lv_at hl 4 rfl) ?_
            refine lv_aload_n hx hb dX2_fill_17 rfl (lv_at hl 0 rfl) ?_
            refine va_get (D := D) (ci := 2) (v := .int (nI wd)) (C := RX2) (T := TX2) (N := 17) hx hb hts nX2_fill_X2 hown hK.1 hP 0 rfl rfl 0 (by decide) (hts (.fieldLink RX2 48 "PolygonFrameModel" "wide" "I") (by decide +kernel)) (fun _ h9 => h9) rfl dX2_fill_18 ?_
            refine lv_icmp_ge (tgt := 56) hx hb dX2_fill_21 (by decide) (fun c21 => ?_) (fun c21 => ?_)
            · skip
              refine lv_iinc (v := (nI (j + 1))) (lv' := [(3, .int (nI (j + 1))), (0, .ref m0), (1, .int v), (2, .int (nI ((suN (fun y => cnB (fun x => inQ xs ys n x y) wd) j) + cnB (fun x => inQ xs ys n x j) k))), (4, .int (nI k))]) hx hb dX2_fill_56 hl (k := 3) rfl (nI_1 _) (by decide) rfl (fun ls hl => ?_)
              refine lv_goto (tgt := 4) hx hb dX2_fill_59 (by decide) ?_
              have hkn : k = wd := Nat.le_antisymm hk ((nI_leI (by omega) (by omega)).mp c21)
              have ec : (suN (fun y => cnB (fun x => inQ xs ys n x y) wd) j) + cnB (fun x => inQ xs ys n x j) k = (suN (fun y => cnB (fun x => inQ xs ys n x y) wd) (j + 1)) := by rw [suN, hkn]
              exact ih (j + 1) (by omega) (by omega) cl (pq_row (IN := (inQ xs ys n)) hkn hcl) H locs hP hD hS ls (by rw [← ec]; exact lv_sub hl [1, 2, 3, 0] rfl)
            · skip
              refine lv_aload_n hx hb dX2_fill_24 rfl (lv_at hl 0 rfl) ?_
              refine lv_iload hx hb dX2_fill_25 (lv_at hl 4 rfl) ?_
              refine lv_iload_n hx hb dX2_fill_27 rfl (lv_at hl 3 rfl) ?_
              have hk2 : k < wd := Nat.lt_of_not_le (fun h => c21 (nI_le h (by omega)))
              refine rd_i (va_runV (As := [.int (nI k), .int (nI j)]) ⟨hx, hb, hml, hown, hts⟩ (kX2_inside l D cI cZ m0 aP ax ay afx afy atx aty wd hg cap n fr tt x0 x1 y0 y1 xs ys (nI k) (nI j) hn) (cwV 2 hts gX2_fill_X2_inside rfl rfl rfl (by decide +kernel) ⟨Nat.le_of_ble_eq_true rfl, Nat.le_of_ble_eq_true rfl⟩) (rd_preV (ci := 2) (q0 := 0) (hP.sub [0, 1, 2] rfl) hK rfl rfl) rfl rfl hl.1 rfl (lv_room (Nat.le_of_ble_eq_true rfl)) dX2_fill_28 ⟨Nat.zero_le _, Nat.zero_le _⟩) ?_
              refine lv_if_eq (tgt := 50) hx hb dX2_fill_31 (by decide) (fun c31 => ?_) (fun c31 => ?_)
              · skip
                refine lv_iinc (v := (nI (k + 1))) (lv' := [(4, .int (nI (k + 1))), (0, .ref m0), (1, .int v), (2, .int (nI ((suN (fun y => cnB (fun x => inQ xs ys n x y) wd) j) + cnB (fun x => inQ xs ys n x j) k))), (3, .int (nI j))]) hx hb dX2_fill_50 hl (k := 4) rfl (nI_1 _) (by decide) rfl (fun ls hl => ?_)
                refine lv_goto (tgt := 15) hx hb dX2_fill_53 (by decide) ?_
                have ec : (suN (fun y => cnB (fun x => inQ xs ys n x y) wd) j) + cnB (fun x => inQ xs ys n x j) k = (suN (fun y => cnB (fun x => inQ xs ys n x y) wd) j) + cnB (fun x => inQ xs ys n x j) (k + 1) := by rw [cn_f (f := fun x => inQ xs ys n x j) (k := k) (bI_eq0.mp c31)]
                exact ih2 (k + 1) (by omega) (by omega) cl (pq_skip (IN := (inQ xs ys n)) (bI_eq0.mp c31) hcl) H locs hP hD hS ls (by rw [← ec]; exact lv_sub hl [1, 2, 3, 4, 0] rfl)
              · skip
                refine lv_aload_n hx hb dX2_fill_34 rfl (lv_at hl 0 rfl) ?_
                refine va_get (D := D) (ci := 2) (v := .ref aP) (C := RX2) (T := TX2) (N := 17) hx hb hts nX2_fill_X2 hown hK.1 hP 0 rfl rfl 3 (by decide) (hts (.fieldLink RX2 7 "PolygonFrameModel" "pixels" "[I") (by decide +kernel)) (fun _ h9 => h9) rfl dX2_fill_35 ?_
                refine lv_bipush (v := 24) hx hb dX2_fill_38 (by decide) ?_
                refine lv_iload_n hx hb dX2_fill_40 rfl (lv_at hl 3 rfl) ?_
                refine lv_imul hx hb dX2_fill_41 ?_
                refine lv_iload hx hb dX2_fill_42 (lv_at hl 4 rfl) ?_
                refine lv_iadd hx hb dX2_fill_44 ?_
                refine q_eq (show 24 * nI j + nI k = nI (24 * j + k) by rw [← nI_add, ← pk_mul]; rfl) ?_
                refine lv_iload_n hx hb dX2_fill_45 rfl (lv_at hl 1 rfl) ?_
                refine q_iast (k := (24 * j + k)) hx hb hK.1 hP hD hS 3 0 rfl rfl (by omega) (by omega) dX2_fill_46 (fun H locs hP hD hS => ?_)
                have hP : va_P D vwCl [(m0, .inr (2, [.int (nI wd), .int (nI hg), .int (nI cap), .ref aP, .ref ax, .ref ay, .int (nI n), .ref afx, .ref afy, .ref atx, .ref aty, .int fr, .int tt, .int x0, .int x1, .int y0, .int y1])), (ax, .inl (cI, 60, .inl xs)), (ay, .inl (cI, 60, .inl ys)), (aP, .inl (cI, 576, .inl (upd cl (24 * j + k) v)))] H := hP
                have hD : va_D A [(m0, .inr (2, [.int (nI wd), .int (nI hg), .int (nI cap), .ref aP, .ref ax, .ref ay, .int (nI n), .ref afx, .ref afy, .ref atx, .ref aty, .int fr, .int tt, .int x0, .int x1, .int y0, .int y1])), (ax, .inl (cI, 60, .inl xs)), (ay, .inl (cI, 60, .inl ys)), (aP, .inl (cI, 576, .inl (upd cl (24 * j + k) v)))] := hD
                refine lv_iinc (v := (nI (((suN (fun y => cnB (fun x => inQ xs ys n x y) wd) j) + cnB (fun x => inQ xs ys n x j) k) + 1))) (lv' := [(2, .int (nI (((suN (fun y => cnB (fun x => inQ xs ys n x y) wd) j) + cnB (fun x => inQ xs ys n x j) k) + 1))), (0, .ref m0), (1, .int v), (3, .int (nI j)), (4, .int (nI k))]) hx hb dX2_fill_47 hl (k := 2) rfl (nI_1 _) (by decide) rfl (fun ls hl => ?_)
                refine lv_iinc (v := (nI (k + 1))) (lv' := [(4, .int (nI (k + 1))), (2, .int (nI (((suN (fun y => cnB (fun x => inQ xs ys n x y) wd) j) + cnB (fun x => inQ xs ys n x j) k) + 1))), (0, .ref m0), (1, .int v), (3, .int (nI j))]) hx hb dX2_fill_50 hl (k := 4) rfl (nI_1 _) (by decide) rfl (fun ls hl => ?_)
                refine lv_goto (tgt := 15) hx hb dX2_fill_53 (by decide) ?_
                have ec : (suN (fun y => cnB (fun x => inQ xs ys n x y) wd) j) + cnB (fun x => inQ xs ys n x j) k + 1 = (suN (fun y => cnB (fun x => inQ xs ys n x y) wd) j) + cnB (fun x => inQ xs ys n x j) (k + 1) := by rw [cn_t (f := fun x => inQ xs ys n x j) (k := k) (bI_ne c31)]; omega
                exact ih2 (k + 1) (by omega) (by omega) _ (pq_set (IN := (inQ xs ys n)) hw hk2 (bI_ne c31) hcl) H locs hP hD hS ls (by rw [← ec]; exact lv_sub hl [2, 3, 1, 4, 0] rfl)
        exact L2 (wd + 1) 0 (Nat.zero_le _) (by omega) cl (fun x y hx hy => by rw [hcl x y hx hy]; simp) H locs hP hD hS ls (lv_sub hl [1, 2, 3, 4, 0] rfl)
  refine lv_iconst (v := 0) hx hb dX2_fill_0 (by decide) ?_
  refine lv_istore_n (lv' := [(2, .int 0), (0, .ref m0), (1, .int v)]) hx hb dX2_fill_1 rfl hl (by decide) rfl (fun ls hl => ?_)
  refine lv_iconst (v := 0) hx hb dX2_fill_2 (by decide) ?_
  refine lv_istore_n (lv' := [(3, .int 0), (2, .int 0), (0, .ref m0), (1, .int v)]) hx hb dX2_fill_3 rfl hl (by decide) rfl (fun ls hl => ?_)
  exact LOOP (hg + 1) 0 (Nat.zero_le _) (by omega) col (fun x y hx hy => by rw [if_neg (by omega)]) s.heap [] hP hD hS ls (lv_sub hl [2, 3, 1, 0] rfl)
