/-! THE LAW: its loop, and from its entry. -/
set_option maxHeartbeats 4000000 in
set_option maxRecDepth 100000 in
theorem kL_cell (l : Launch) (D : va_G) (cI cZ : ClassId) (b Ls k : Nat) (sc : Nat → Int32) (hL : Ls ≤ 2563) (hk : k < 3) : Met l yL_cell wsL_cell ({ frames := 0, cells := 0, slots := 0, locals := 0 }) (va_Pc [.ref b, .int (nI k)] (fun U => va_X b Ls sc U U.heap ∧ b < U.heap.size)) (QcRead (if k < Ls then sc k else 0)) 0 0 (fun _ => False) := by
  refine Met.ofW (cc := cL_cell) (maxL := 2) (ret := (some .int)) (by decide) rfl ?_
  intro p e s m args below meth c s₁ B hml hv
  obtain ⟨rfl, hX, hbl⟩ := hv
  have hx := B.exec
  have hb := B.bytes
  have hr := B.returns
  have hts := atoms_spec (ws := wsL_cell) B.pre
  have hown : s.vm.findClass RL = some m.cls := findClass_of_methodNamed B.named
  have hlocks := B.notSynchronized
  have hl := lv_entry ([.ref b, .int (nI k)]) (n := 2) (Nat.le_of_ble_eq_true rfl)
  rw [lg_entry_eq]
  generalize (lg_sl ([.ref b, .int (nI k)]) ++ List.replicate (2 - (lg_sl ([.ref b, .int (nI k)])).length) Slot.unset).toArray = ls at hl ⊢
  have hl : lv_has ls 2 [(0, .ref b), (1, .int (nI k))] := hl
  have hbA : ¬ (fun _ : Nat => False) b := fun h => h
  have hS : va_S (fun _ : Nat => False) s.heap s.heap [] := va_S.rf
  refine lv_iload_n hx hb dL_cell_0 rfl (lv_at hl 1 rfl) ?_
  refine lv_aload_n hx hb dL_cell_1 rfl (lv_at hl 0 rfl) ?_
  refine va_slen hx hb hX hbl hbA hS dL_cell_2 ?_
  refine q_eq (show Int32.ofNat Ls = nI Ls from rfl) ?_
  refine lv_icmp_ge (tgt := 12) hx hb dL_cell_3 (by decide) (fun c3 => ?_) (fun c3 => ?_)
  · skip
    refine lv_iconst (v := 0) hx hb dL_cell_12 (by decide) ?_
    exact W.iret (v := 0) hx hb hr (fun t ht _ => ⟨oI (by rw [if_neg (Nat.not_lt.mpr ((nI_leI (by omega) (by omega)).mp c3))]), ht⟩) (fun _ h => absurd h List.not_mem_nil) dL_cell_13
  · skip
    have hk2 : k < Ls := Nat.lt_of_not_le (fun h => c3 (nI_le h (by omega)))
    refine lv_aload_n hx hb dL_cell_6 rfl (lv_at hl 0 rfl) ?_
    refine lv_iload_n hx hb dL_cell_7 rfl (lv_at hl 1 rfl) ?_
    refine q_sld (k := k) hx hb hX hbl hbA hS (by omega) (by omega) dL_cell_8 ?_
    refine lv_goto (tgt := 13) hx hb dL_cell_9 (by decide) ?_
    exact W.iret (v := (sc k)) hx hb hr (fun t ht _ => ⟨oI (by rw [if_pos hk2]), ht⟩) (fun _ h => absurd h List.not_mem_nil) dL_cell_13
theorem cell_pre {s : State} {H : Heap} {As : List Value} {b Ls : Nat} {sc : Nat → Int32} {A : Nat → Prop} {locs : List Loc} (hX : va_X b Ls sc s s.heap) (hbl : b < s.heap.size) (hbA : ¬ A b) (hS : va_S A s.heap H locs) : PreS s H (va_Pc As (fun U => va_X b Ls sc U U.heap ∧ b < U.heap.size)) As :=
  ⟨fun a U g mk q => ⟨q.1, va_X.moved (u := U) (U := U.calling g mk a) (Vm.Alike.refl U.vm) q.2.1, q.2.2⟩, fun U hU hW => ⟨rfl, by rw [hU]; exact (hX.kept (hS.2.1 b hbl hbA)).moved hW.alike, by rw [hU]; exact Nat.lt_of_lt_of_le hbl hS.1⟩⟩
set_option maxHeartbeats 4000000 in
set_option maxRecDepth 100000 in
/-- the law's loop -/
theorem law_loop {p : Program} {l : Launch} {e : Env} {s : State} {m : MethodId} {below : List Frame} {meth : Method} {c : Code} {D : va_G} {cI cZ : ClassId} {b p0 aC aT aS rO aox aoy m0 aP ax ay afx afy atx aty wd hg cap Ls : Nat} {sc : Nat → Int32} (C0 : lw_At p s m meth c b Ls sc) (hK : pK D cI cZ s) (hw : wd ≤ 24) (hh : hg ≤ 24) (hc : cap ≤ 60) (hL : Ls ≤ 2563) : ∀ (j i : Nat), i ≤ Ls + 5 → Ls + 5 < i + j → lawAt p l e s m below meth c D cI cZ b p0 aC aT aS rO aox aoy m0 aP ax ay afx afy atx aty wd hg cap 48 i := by
  intro j
  induction j with
  | zero => intro i h1 h2; omega
  | succ j ih =>
    intro i hi0 hij
    obtain ⟨hx, hb, hr, hml, hown0, hts0, hX, hbl, hlocks, hgv⟩ := id C0
    have hown : s.vm.findClass RL = some m.cls := hown0
    have hts : ∀ w ∈ wsL_law, w.before #[Value.ref b] s = true := fun w h => hts0 w (wsL_law_in w h)
    have hA : ∀ q : Nat, s.heap.size ≤ q → (fun q : Nat => s.heap.size ≤ q) q := fun _ h => h
    have hbA : ¬ (fun q : Nat => s.heap.size ≤ q) b := Nat.not_le.mpr hbl
    intro rP apx apy rE aex aey n L col tn sd xs ys ox oy ex ey px mx my fx fy tx ty co ce fr tt H locs hI hP hD hS ls hl
    skip
    refine lv_iload_n hx hb dL_law_48 rfl (lv_at hl 3 rfl) ?_
    refine lv_aload_n hx hb dL_law_49 rfl (lv_at hl 0 rfl) ?_
    refine va_slen hx hb hX hbl hbA hS dL_law_50 ?_
    refine q_eq (show Int32.ofNat Ls = nI Ls from rfl) ?_
    refine lv_iconst (v := 5) hx hb dL_law_51 (by decide) ?_
    refine lv_isub hx hb dL_law_52 ?_
    refine lv_icmp_gt (tgt := 405) hx hb dL_law_53 (by decide) (fun c53 => ?_) (fun c53 => ?_)
    · skip
      refine lv_iconst (v := 1) hx hb dL_law_405 (by decide) ?_
      refine va_forget (fun q hq => hS.2.2 q hq) ?_
      refine W.widen (k := 600000) (n := 7302250) (Nat.le_of_ble_eq_true rfl) (Nat.le_of_ble_eq_true rfl) ?_
      exact lw_ret hx hb hr hlocks dL_law_406
    · skip
      have hi : i + 5 ≤ Ls := Nat.le_of_not_lt (fun h => c53 ((law_c hL (by omega)).mpr h))
      have K : lawAt p l e s m below meth c D cI cZ b p0 aC aT aS rO aox aoy m0 aP ax ay afx afy atx aty wd hg cap 399 i := by
        intro rP apx apy rE aex aey n L col tn sd xs ys ox oy ex ey px mx my fx fy tx ty co ce fr tt H locs hI hP hD hS ls hl
        refine lv_iinc (v := (nI (i + 5))) (lv' := [(3, .int (nI (i + 5))), (0, .ref b), (1, .ref p0), (2, .ref m0)]) hx hb dL_law_399 hl (k := 3) rfl (nI_add i 5) (by decide) rfl (fun ls hl => ?_)
        refine lv_goto (tgt := 48) hx hb dL_law_402 (by decide) ?_
        exact ih (i + 5) (by omega) (by omega) rP apx apy rE aex aey n L col tn sd xs ys ox oy ex ey px mx my fx fy tx ty co ce fr tt H locs hI hP hD hS ls (lv_sub hl [1, 2, 3, 0] rfl)
      refine lv_aload_n hx hb dL_law_56 rfl (lv_at hl 0 rfl) ?_
      refine lv_iload_n hx hb dL_law_57 rfl (lv_at hl 3 rfl) ?_
      refine q_sld (k := i) hx hb hX hbl hbA hS (by omega) (by omega) dL_law_58 ?_
      refine lv_bipush (v := 15) hx hb dL_law_59 (by decide) ?_
      refine lv_iand hx hb dL_law_61 ?_
      obtain ⟨t, ht, et⟩ := pk_andE (sc i) (m := 15) 4 (by decide)
      refine q_eq et ?_
      have ht2 : t < 16 := ht
      rcases (show t = 0 ∨ t = 1 ∨ t = 2 ∨ t = 3 ∨ t = 4 ∨ t = 5 ∨ t = 6 ∨ t = 7 ∨ t = 8 ∨ t = 9 ∨ t = 10 ∨ 11 ≤ t by omega) with rfl | rfl | rfl | rfl | rfl | rfl | rfl | rfl | rfl | rfl | rfl | h11
      · refine lv_tableIn (off := 58) (tgt := 120) hx hb dL_law_62 (by decide) (by decide) (by decide) (by decide) ?_
        exact law_0 C0 hK hw hh hc hi hL K rP apx apy rE aex aey n L col tn sd xs ys ox oy ex ey px mx my fx fy tx ty co ce fr tt H locs hI hP hD hS ls (lv_sub hl [0, 1, 2, 3] rfl)
      · refine lv_tableIn (off := 79) (tgt := 141) hx hb dL_law_62 (by decide) (by decide) (by decide) (by decide) ?_
        exact law_1 C0 hK hw hh hc hi hL K rP apx apy rE aex aey n L col tn sd xs ys ox oy ex ey px mx my fx fy tx ty co ce fr tt H locs hI hP hD hS ls (lv_sub hl [0, 1, 2, 3] rfl)
      · refine lv_tableIn (off := 90) (tgt := 152) hx hb dL_law_62 (by decide) (by decide) (by decide) (by decide) ?_
        exact law_2 C0 hK hw hh hc hi hL K rP apx apy rE aex aey n L col tn sd xs ys ox oy ex ey px mx my fx fy tx ty co ce fr tt H locs hI hP hD hS ls (lv_sub hl [0, 1, 2, 3] rfl)
      · refine lv_tableIn (off := 123) (tgt := 185) hx hb dL_law_62 (by decide) (by decide) (by decide) (by decide) ?_
        exact law_3 C0 hK hw hh hc hi hL K rP apx apy rE aex aey n L col tn sd xs ys ox oy ex ey px mx my fx fy tx ty co ce fr tt H locs hI hP hD hS ls (lv_sub hl [0, 1, 2, 3] rfl)
      · refine lv_tableIn (off := 176) (tgt := 238) hx hb dL_law_62 (by decide) (by decide) (by decide) (by decide) ?_
        exact law_4 C0 hK hw hh hc hi hL K rP apx apy rE aex aey n L col tn sd xs ys ox oy ex ey px mx my fx fy tx ty co ce fr tt H locs hI hP hD hS ls (lv_sub hl [0, 1, 2, 3] rfl)
      · refine lv_tableIn (off := 189) (tgt := 251) hx hb dL_law_62 (by decide) (by decide) (by decide) (by decide) ?_
        exact law_5 C0 hK hw hh hc hi hL K rP apx apy rE aex aey n L col tn sd xs ys ox oy ex ey px mx my fx fy tx ty co ce fr tt H locs hI hP hD hS ls (lv_sub hl [0, 1, 2, 3] rfl)
      · refine lv_tableIn (off := 212) (tgt := 274) hx hb dL_law_62 (by decide) (by decide) (by decide) (by decide) ?_
        exact law_6 C0 hK hw hh hc hi hL K rP apx apy rE aex aey n L col tn sd xs ys ox oy ex ey px mx my fx fy tx ty co ce fr tt H locs hI hP hD hS ls (lv_sub hl [0, 1, 2, 3] rfl)
      · refine lv_tableIn (off := 235) (tgt := 297) hx hb dL_law_62 (by decide) (by decide) (by decide) (by decide) ?_
        exact law_7 C0 hK hw hh hc hi hL K rP apx apy rE aex aey n L col tn sd xs ys ox oy ex ey px mx my fx fy tx ty co ce fr tt H locs hI hP hD hS ls (lv_sub hl [0, 1, 2, 3] rfl)
      · refine lv_tableIn (off := 258) (tgt := 320) hx hb dL_law_62 (by decide) (by decide) (by decide) (by decide) ?_
        exact law_8 C0 hK hw hh hc hi hL K rP apx apy rE aex aey n L col tn sd xs ys ox oy ex ey px mx my fx fy tx ty co ce fr tt H locs hI hP hD hS ls (lv_sub hl [0, 1, 2, 3] rfl)
      · refine lv_tableIn (off := 291) (tgt := 353) hx hb dL_law_62 (by decide) (by decide) (by decide) (by decide) ?_
        exact law_9 C0 hK hw hh hc hi hL K rP apx apy rE aex aey n L col tn sd xs ys ox oy ex ey px mx my fx fy tx ty co ce fr tt H locs hI hP hD hS ls (lv_sub hl [0, 1, 2, 3] rfl)
      · refine lv_tableIn (off := 324) (tgt := 386) hx hb dL_law_62 (by decide) (by decide) (by decide) (by decide) ?_
        exact law_10 C0 hK hw hh hc hi hL K rP apx apy rE aex aey n L col tn sd xs ys ox oy ex ey px mx my fx fy tx ty co ce fr tt H locs hI hP hD hS ls (lv_sub hl [0, 1, 2, 3] rfl)
      · refine lv_tableOut (tgt := 399) hx hb dL_law_62 (Or.inr (by rw [nI_toInt (by omega)]; omega)) (by decide) ?_
        exact K rP apx apy rE aex aey n L col tn sd xs ys ox oy ex ey px mx my fx fy tx ty co ce fr tt H locs hI hP hD hS ls (lv_sub hl [0, 1, 2, 3] rfl)
theorem nt_0 : ((.fieldLinkNest RX1 52 RX0 "count" "I" RX1 : Cond)) ∈ lw_tbl := by decide +kernel
theorem nt_1 : ((.fieldLinkNest RX1 73 RX0 "xs" "[I" RX1 : Cond)) ∈ lw_tbl := by decide +kernel
theorem nt_2 : ((.fieldLinkNest RX1 76 RX0 "ys" "[I" RX1 : Cond)) ∈ lw_tbl := by decide +kernel
theorem nt_3 : ((.methodLinkNest RX1 33 yX0_init RX1 : Cond)) ∈ lw_tbl := by decide +kernel
theorem nt_4 : ((.methodLinkNest RX1 59 yX0_append RX1 : Cond)) ∈ lw_tbl := by decide +kernel
theorem nt_5 : ((.methodLinkNest RX1 70 yX0_has RX1 : Cond)) ∈ lw_tbl := by decide +kernel
theorem nt_6 : ((.methodLinkNest RX1 86 yX0_edgeMeets RX1 : Cond)) ∈ lw_tbl := by decide +kernel
theorem nt_7 : ((.methodLinkNest RX1 89 yX0_crossingUpwards RX1 : Cond)) ∈ lw_tbl := by decide +kernel
theorem nt_8 : ((.methodLinkNest RX1 100 yX0_axis RX1 : Cond)) ∈ lw_tbl := by decide +kernel
set_option maxHeartbeats 4000000 in
set_option maxRecDepth 100000 in
/-- THE LAW, from its entry -/
theorem whole_start {p : Program} {e : Env} {s : State} {m : MethodId} {below : List Frame} {meth : Method} {c : Code} (l : Launch) {b L : Nat} {xs : Nat → Int32} (hL : L ≤ 2563) (C0 : lw_At p s m meth c b L xs) : W p l e room_1 s m #[Value.ref b] below meth c s.heap [] 0 0 (lw_Z below #[Value.ref b] s) (entryFrame m ([Value.ref b] : List Value).toArray 4) := by
  obtain ⟨hx, hb, hr, hml, hown0, hts0, hX, hbl, hlocks, hgv⟩ := id C0
  have hown : s.vm.findClass RL = some m.cls := hown0
  have hts : ∀ w ∈ wsL_law, w.before #[Value.ref b] s = true := fun w h => hts0 w (wsL_law_in w h)
  have hA : ∀ q : Nat, s.heap.size ≤ q → (fun q : Nat => s.heap.size ≤ q) q := fun _ h => h
  have hbA : ¬ (fun q : Nat => s.heap.size ≤ q) b := Nat.not_le.mpr hbl
  obtain ⟨c0, iS0, hKn0⟩ := u_known (C := RX0) (T := TX0) (N := 3) (n := 3) hts inlX0 (hts (.instantiable RX0 3) (by decide +kernel))
  obtain ⟨c1, iS1, hKn1⟩ := u_known (C := RX1) (T := TX1) (N := 8) (n := 8) hts inlX1 (hts (.instantiable RX1 8) (by decide +kernel))
  obtain ⟨c2, iS2, hKn2⟩ := u_known (C := RX2) (T := TX2) (N := 17) (n := 17) hts inlX2 (hts (.instantiable RX2 17) (by decide +kernel))
  obtain ⟨D, hKc⟩ : ∃ D : va_G, ∀ (k : Nat) (q : vw_C), vwCl[k]? = some q → u_Kn s q.1 q.2.1 q.2.2 (D.1 k) (D.2 k) := by
    refine ⟨(fun k => if k = 0 then c0 else if k = 1 then c1 else c2, fun k => if k = 0 then iS0 else if k = 1 then iS1 else iS2), ?_⟩
    intro k q hq
    match k, hq with
    | 0, hq => cases hq; exact hKn0
    | 1, hq => cases hq; exact hKn1
    | 2, hq => cases hq; exact hKn2
    | k + 3, hq => simp [vwCl] at hq
  obtain ⟨cI, kI, oI2, fI1, fI2, fI3⟩ := Cond.arrayClass_spec (hts (.arrayClass .int) (by decide +kernel))
  obtain ⟨cZ, kZ, oZ2, fZ1, fZ2, fZ3⟩ := Cond.arrayClass_spec (hts (.arrayClass .boolean) (by decide +kernel))
  have hK : pK D cI cZ s := by
    refine ⟨⟨hKc, fun k q h => ?_⟩, ?_⟩
    · match k, h with
      | 0, h => cases h; exact ⟨fun n z => ⟨fun k h => (by cases h), kI, fI2, oI2, fI3⟩, fI1⟩
      | 1, h => cases h; exact ⟨fun n z => ⟨fun k h => (by cases h), kZ, fZ2, oZ2, fZ3⟩, fZ1⟩
      | k + 2, h => simp at h
    · exact ⟨va_Nw.of rfl (hts0 _ nt_0), va_Nw.of rfl (hts0 _ nt_1), va_Nw.of rfl (hts0 _ nt_2), va_Nw.of rfl (hts0 _ nt_3), va_Nw.of rfl (hts0 _ nt_4), va_Nw.of rfl (hts0 _ nt_5), va_Nw.of rfl (hts0 _ nt_6), va_Nw.of rfl (hts0 _ nt_7), va_Nw.of rfl (hts0 _ nt_8)⟩
  have hS : va_S (fun q : Nat => s.heap.size ≤ q) s.heap s.heap [] := va_S.rf
  have hP : va_P D vwCl [] s.heap := fun k q h => by simp at h
  have hD : va_D (fun q : Nat => s.heap.size ≤ q) [] := ⟨fun i j p q h => by simp at h, fun k q h => by simp at h⟩
  have hl := lv_entry ([.ref b]) (n := 4) (Nat.le_of_ble_eq_true rfl)
  rw [lg_entry_eq]
  generalize (lg_sl ([.ref b]) ++ List.replicate (4 - (lg_sl ([.ref b])).length) Slot.unset).toArray = ls at hl ⊢
  have hl : lv_has ls 4 [(0, .ref b)] := hl
  refine va_new (ci := 1) (fs := [.int 0, .int 0, .null, .null, .null, .null, .null, .null]) (C := RX1) (T := TX1) (N := 8) hx hb hts inlX1 tyX1 tyX1_ok hown (hts (.classLink RL 7 RX1) (by decide +kernel)) (hts (.instantiable RX1 8) (by decide +kernel)) (hts (.initialized RX1) (by decide +kernel)) hK.1 hP hD hS hA rfl (fun j hj => by rcases (show j = 0 ∨ j = 1 ∨ j = 2 ∨ j = 3 ∨ j = 4 ∨ j = 5 ∨ j = 6 ∨ j = 7 by omega) with rfl | rfl | rfl | rfl | rfl | rfl | rfl | rfl <;> rfl) (Nat.le_of_ble_eq_true rfl) (Nat.le_of_ble_eq_true rfl) dL_law_0 (fun p0 H hP hD hS => ?_)
  have hP : va_P D vwCl [(p0, .inr (1, [.int 0, .int 0, .null, .null, .null, .null, .null, .null]))] H := hP
  have hD : va_D (fun q : Nat => s.heap.size ≤ q) [(p0, .inr (1, [.int 0, .int 0, .null, .null, .null, .null, .null, .null]))] := hD
  refine W.widen (k := 1) (n := 8) (by omega) (by omega) ?_
  refine lv_dup hx hb dL_law_3 rfl ?_
  refine lv_aload_n hx hb dL_law_4 rfl (lv_at hl 0 rfl) ?_
  refine lv_iconst (v := 0) hx hb dL_law_5 (by decide) ?_
  refine q_eq (show (0 : Int32) = nI 0 from rfl) ?_
  refine rd_i (va_runS (As := [.ref b, .int (nI 0)]) ⟨hx, hb, hml, hown, hts⟩ (kL_cell l D cI cZ b L 0 xs hL (by decide)) (va_cwS 2 hts gL_law_L_cell rfl rfl rfl (by decide +kernel) ⟨Nat.le_of_ble_eq_true rfl, Nat.le_of_ble_eq_true rfl⟩) (cell_pre hX hbl hbA hS) rfl rfl hl.1 rfl (lv_room (Nat.le_of_ble_eq_true rfl)) dL_law_6 ⟨Nat.le_of_ble_eq_true rfl, Nat.le_of_ble_eq_true rfl⟩) ?_
  refine lv_aload_n hx hb dL_law_9 rfl (lv_at hl 0 rfl) ?_
  refine lv_iconst (v := 1) hx hb dL_law_10 (by decide) ?_
  refine q_eq (show (1 : Int32) = nI 1 from rfl) ?_
  refine rd_i (va_runS (As := [.ref b, .int (nI 1)]) ⟨hx, hb, hml, hown, hts⟩ (kL_cell l D cI cZ b L 1 xs hL (by decide)) (va_cwS 2 hts gL_law_L_cell rfl rfl rfl (by decide +kernel) ⟨Nat.le_of_ble_eq_true rfl, Nat.le_of_ble_eq_true rfl⟩) (cell_pre hX hbl hbA hS) rfl rfl hl.1 rfl (lv_room (Nat.le_of_ble_eq_true rfl)) dL_law_11 ⟨Nat.le_of_ble_eq_true rfl, Nat.le_of_ble_eq_true rfl⟩) ?_
  refine lv_aload_n hx hb dL_law_14 rfl (lv_at hl 0 rfl) ?_
  refine lv_iconst (v := 2) hx hb dL_law_15 (by decide) ?_
  refine q_eq (show (2 : Int32) = nI 2 from rfl) ?_
  refine rd_i (va_runS (As := [.ref b, .int (nI 2)]) ⟨hx, hb, hml, hown, hts⟩ (kL_cell l D cI cZ b L 2 xs hL (by decide)) (va_cwS 2 hts gL_law_L_cell rfl rfl rfl (by decide +kernel) ⟨Nat.le_of_ble_eq_true rfl, Nat.le_of_ble_eq_true rfl⟩) (cell_pre hX hbl hbA hS) rfl rfl hl.1 rfl (lv_room (Nat.le_of_ble_eq_true rfl)) dL_law_16 ⟨Nat.le_of_ble_eq_true rfl, Nat.le_of_ble_eq_true rfl⟩) ?_
  refine wr_v (wr := []) hP hD hS hA [0] [] rfl rfl (by decide) (by decide) (va_runI (As := [.int (if 0 < L then xs 0 else 0), .int (if 1 < L then xs 1 else 0), .int (if 2 < L then xs 2 else 0)]) ⟨hx, hb, hml, hown, hts⟩ (kX1_init l D cI cZ H.size p0 (if 0 < L then xs 0 else 0) (if 1 < L then xs 1 else 0) (if 2 < L then xs 2 else 0)) (cwI 3 hts gL_law_X1_init rfl rfl rfl (hts (.initialized RX1) (by decide +kernel)) (hts (.methodLink RL 15 yX1_init) (by decide +kernel)) (hts (.instanceMethod yX1_init) (by decide +kernel)) rfl (by decide +kernel) ⟨Nat.le_of_ble_eq_true rfl, Nat.le_of_ble_eq_true rfl⟩) (wr_pre (hP.sub [0] rfl) hK (hD.sub [0] (by decide) rfl)) rfl rfl hl.1 rfl (lv_room (Nat.le_of_ble_eq_true rfl)) dL_law_19 ⟨Nat.le_of_ble_eq_true rfl, Nat.le_of_ble_eq_true rfl⟩) (fun u1 H locs hu1 hP hD hS => ?_)
  obtain ⟨aC, aT, aS, rP, apx, apy, rO, aox, aoy, rE, aex, aey⟩ := u1
  replace hP : va_P D vwCl [(p0, .inr (1, [.int (nI (nN 1 24 (if 0 < L then xs 0 else 0))), .int (nI (nN 1 24 (if 1 < L then xs 1 else 0))), .ref aC, .ref aT, .ref aS, .ref rP, .ref rO, .ref rE])), (aC, .inl (cI, ((nN 1 24 (if 0 < L then xs 0 else 0)) * (nN 1 24 (if 1 < L then xs 1 else 0))), .inl (fun _ => 0))), (aT, .inl (cZ, ((nN 1 24 (if 0 < L then xs 0 else 0)) + 1), .inl (fun _ => 0))), (aS, .inl (cI, 4, .inl (upd (upd (upd (upd (fun _ => 0) 0 (-16384)) 1 16384) 2 (-16384)) 3 16384))), (rP, .inr (0, [.ref apx, .ref apy, .int 0])), (apx, .inl (cI, (nN 3 60 (if 2 < L then xs 2 else 0)), .inl (fun _ => 0))), (apy, .inl (cI, (nN 3 60 (if 2 < L then xs 2 else 0)), .inl (fun _ => 0))), (rO, .inr (0, [.ref aox, .ref aoy, .int 0])), (aox, .inl (cI, (nN 3 60 (if 2 < L then xs 2 else 0)), .inl (fun _ => 0))), (aoy, .inl (cI, (nN 3 60 (if 2 < L then xs 2 else 0)), .inl (fun _ => 0))), (rE, .inr (0, [.ref aex, .ref aey, .int 0])), (aex, .inl (cI, (nN 3 60 (if 2 < L then xs 2 else 0)), .inl (fun _ => 0))), (aey, .inl (cI, (nN 3 60 (if 2 < L then xs 2 else 0)), .inl (fun _ => 0)))] H := hP.sub [0, 1, 2, 3, 4, 5, 6, 7, 8, 9, 10, 11, 12] rfl
  replace hD : va_D (fun q : Nat => s.heap.size ≤ q) [(p0, .inr (1, [.int (nI (nN 1 24 (if 0 < L then xs 0 else 0))), .int (nI (nN 1 24 (if 1 < L then xs 1 else 0))), .ref aC, .ref aT, .ref aS, .ref rP, .ref rO, .ref rE])), (aC, .inl (cI, ((nN 1 24 (if 0 < L then xs 0 else 0)) * (nN 1 24 (if 1 < L then xs 1 else 0))), .inl (fun _ => 0))), (aT, .inl (cZ, ((nN 1 24 (if 0 < L then xs 0 else 0)) + 1), .inl (fun _ => 0))), (aS, .inl (cI, 4, .inl (upd (upd (upd (upd (fun _ => 0) 0 (-16384)) 1 16384) 2 (-16384)) 3 16384))), (rP, .inr (0, [.ref apx, .ref apy, .int 0])), (apx, .inl (cI, (nN 3 60 (if 2 < L then xs 2 else 0)), .inl (fun _ => 0))), (apy, .inl (cI, (nN 3 60 (if 2 < L then xs 2 else 0)), .inl (fun _ => 0))), (rO, .inr (0, [.ref aox, .ref aoy, .int 0])), (aox, .inl (cI, (nN 3 60 (if 2 < L then xs 2 else 0)), .inl (fun _ => 0))), (aoy, .inl (cI, (nN 3 60 (if 2 < L then xs 2 else 0)), .inl (fun _ => 0))), (rE, .inr (0, [.ref aex, .ref aey, .int 0])), (aex, .inl (cI, (nN 3 60 (if 2 < L then xs 2 else 0)), .inl (fun _ => 0))), (aey, .inl (cI, (nN 3 60 (if 2 < L then xs 2 else 0)), .inl (fun _ => 0)))] := hD.sub [0, 1, 2, 3, 4, 5, 6, 7, 8, 9, 10, 11, 12] (by decide) rfl
  refine W.widen (k := 13) (n := 1008) (by omega) (by omega) ?_
  refine lv_astore_n (lv' := [(1, .ref p0), (0, .ref b)]) hx hb dL_law_22 rfl hl (by decide) rfl (fun ls hl => ?_)
  refine va_new (ci := 2) (fs := [.int 0, .int 0, .int 0, .null, .null, .null, .int 0, .null, .null, .null, .null, .int 0, .int 0, .int 0, .int 0, .int 0, .int 0]) (C := RX2) (T := TX2) (N := 17) hx hb hts inlX2 tyX2 tyX2_ok hown (hts (.classLink RL 18 RX2) (by decide +kernel)) (hts (.instantiable RX2 17) (by decide +kernel)) (hts (.initialized RX2) (by decide +kernel)) hK.1 hP hD hS hA rfl (fun j hj => by rcases (show j = 0 ∨ j = 1 ∨ j = 2 ∨ j = 3 ∨ j = 4 ∨ j = 5 ∨ j = 6 ∨ j = 7 ∨ j = 8 ∨ j = 9 ∨ j = 10 ∨ j = 11 ∨ j = 12 ∨ j = 13 ∨ j = 14 ∨ j = 15 ∨ j = 16 by omega) with rfl | rfl | rfl | rfl | rfl | rfl | rfl | rfl | rfl | rfl | rfl | rfl | rfl | rfl | rfl | rfl | rfl <;> rfl) (Nat.le_of_ble_eq_true rfl) (Nat.le_of_ble_eq_true rfl) dL_law_23 (fun m0 H hP hD hS => ?_)
  have hP : va_P D vwCl [(p0, .inr (1, [.int (nI (nN 1 24 (if 0 < L then xs 0 else 0))), .int (nI (nN 1 24 (if 1 < L then xs 1 else 0))), .ref aC, .ref aT, .ref aS, .ref rP, .ref rO, .ref rE])), (aC, .inl (cI, ((nN 1 24 (if 0 < L then xs 0 else 0)) * (nN 1 24 (if 1 < L then xs 1 else 0))), .inl (fun _ => 0))), (aT, .inl (cZ, ((nN 1 24 (if 0 < L then xs 0 else 0)) + 1), .inl (fun _ => 0))), (aS, .inl (cI, 4, .inl (upd (upd (upd (upd (fun _ => 0) 0 (-16384)) 1 16384) 2 (-16384)) 3 16384))), (rP, .inr (0, [.ref apx, .ref apy, .int 0])), (apx, .inl (cI, (nN 3 60 (if 2 < L then xs 2 else 0)), .inl (fun _ => 0))), (apy, .inl (cI, (nN 3 60 (if 2 < L then xs 2 else 0)), .inl (fun _ => 0))), (rO, .inr (0, [.ref aox, .ref aoy, .int 0])), (aox, .inl (cI, (nN 3 60 (if 2 < L then xs 2 else 0)), .inl (fun _ => 0))), (aoy, .inl (cI, (nN 3 60 (if 2 < L then xs 2 else 0)), .inl (fun _ => 0))), (rE, .inr (0, [.ref aex, .ref aey, .int 0])), (aex, .inl (cI, (nN 3 60 (if 2 < L then xs 2 else 0)), .inl (fun _ => 0))), (aey, .inl (cI, (nN 3 60 (if 2 < L then xs 2 else 0)), .inl (fun _ => 0))), (m0, .inr (2, [.int 0, .int 0, .int 0, .null, .null, .null, .int 0, .null, .null, .null, .null, .int 0, .int 0, .int 0, .int 0, .int 0, .int 0]))] H := hP
  have hD : va_D (fun q : Nat => s.heap.size ≤ q) [(p0, .inr (1, [.int (nI (nN 1 24 (if 0 < L then xs 0 else 0))), .int (nI (nN 1 24 (if 1 < L then xs 1 else 0))), .ref aC, .ref aT, .ref aS, .ref rP, .ref rO, .ref rE])), (aC, .inl (cI, ((nN 1 24 (if 0 < L then xs 0 else 0)) * (nN 1 24 (if 1 < L then xs 1 else 0))), .inl (fun _ => 0))), (aT, .inl (cZ, ((nN 1 24 (if 0 < L then xs 0 else 0)) + 1), .inl (fun _ => 0))), (aS, .inl (cI, 4, .inl (upd (upd (upd (upd (fun _ => 0) 0 (-16384)) 1 16384) 2 (-16384)) 3 16384))), (rP, .inr (0, [.ref apx, .ref apy, .int 0])), (apx, .inl (cI, (nN 3 60 (if 2 < L then xs 2 else 0)), .inl (fun _ => 0))), (apy, .inl (cI, (nN 3 60 (if 2 < L then xs 2 else 0)), .inl (fun _ => 0))), (rO, .inr (0, [.ref aox, .ref aoy, .int 0])), (aox, .inl (cI, (nN 3 60 (if 2 < L then xs 2 else 0)), .inl (fun _ => 0))), (aoy, .inl (cI, (nN 3 60 (if 2 < L then xs 2 else 0)), .inl (fun _ => 0))), (rE, .inr (0, [.ref aex, .ref aey, .int 0])), (aex, .inl (cI, (nN 3 60 (if 2 < L then xs 2 else 0)), .inl (fun _ => 0))), (aey, .inl (cI, (nN 3 60 (if 2 < L then xs 2 else 0)), .inl (fun _ => 0))), (m0, .inr (2, [.int 0, .int 0, .int 0, .null, .null, .null, .int 0, .null, .null, .null, .null, .int 0, .int 0, .int 0, .int 0, .int 0, .int 0]))] := hD
  refine W.widen (k := 14) (n := 1025) (by omega) (by omega) ?_
  refine lv_dup hx hb dL_law_26 rfl ?_
  refine lv_aload_n hx hb dL_law_27 rfl (lv_at hl 1 rfl) ?_
  refine lv_iconst (v := 0) hx hb dL_law_28 (by decide) ?_
  refine q_eq (show (0 : Int32) = nI 0 from rfl) ?_
  refine rd_i (va_runS (As := [.ref b, .int (nI 0)]) ⟨hx, hb, hml, hown, hts⟩ (kL_cell l D cI cZ b L 0 xs hL (by decide)) (va_cwS 2 hts gL_law_L_cell rfl rfl rfl (by decide +kernel) ⟨Nat.le_of_ble_eq_true rfl, Nat.le_of_ble_eq_true rfl⟩) (cell_pre hX hbl hbA hS) rfl rfl hl.1 rfl (lv_room (Nat.le_of_ble_eq_true rfl)) dL_law_29 ⟨Nat.le_of_ble_eq_true rfl, Nat.le_of_ble_eq_true rfl⟩) ?_
  refine lv_aload_n hx hb dL_law_32 rfl (lv_at hl 1 rfl) ?_
  refine lv_iconst (v := 1) hx hb dL_law_33 (by decide) ?_
  refine q_eq (show (1 : Int32) = nI 1 from rfl) ?_
  refine rd_i (va_runS (As := [.ref b, .int (nI 1)]) ⟨hx, hb, hml, hown, hts⟩ (kL_cell l D cI cZ b L 1 xs hL (by decide)) (va_cwS 2 hts gL_law_L_cell rfl rfl rfl (by decide +kernel) ⟨Nat.le_of_ble_eq_true rfl, Nat.le_of_ble_eq_true rfl⟩) (cell_pre hX hbl hbA hS) rfl rfl hl.1 rfl (lv_room (Nat.le_of_ble_eq_true rfl)) dL_law_34 ⟨Nat.le_of_ble_eq_true rfl, Nat.le_of_ble_eq_true rfl⟩) ?_
  refine lv_aload_n hx hb dL_law_37 rfl (lv_at hl 1 rfl) ?_
  refine lv_iconst (v := 2) hx hb dL_law_38 (by decide) ?_
  refine q_eq (show (2 : Int32) = nI 2 from rfl) ?_
  refine rd_i (va_runS (As := [.ref b, .int (nI 2)]) ⟨hx, hb, hml, hown, hts⟩ (kL_cell l D cI cZ b L 2 xs hL (by decide)) (va_cwS 2 hts gL_law_L_cell rfl rfl rfl (by decide +kernel) ⟨Nat.le_of_ble_eq_true rfl, Nat.le_of_ble_eq_true rfl⟩) (cell_pre hX hbl hbA hS) rfl rfl hl.1 rfl (lv_room (Nat.le_of_ble_eq_true rfl)) dL_law_39 ⟨Nat.le_of_ble_eq_true rfl, Nat.le_of_ble_eq_true rfl⟩) ?_
  refine wr_v (wr := [(p0, .inr (1, [.int (nI (nN 1 24 (if 0 < L then xs 0 else 0))), .int (nI (nN 1 24 (if 1 < L then xs 1 else 0))), .ref aC, .ref aT, .ref aS, .ref rP, .ref rO, .ref rE])), (aC, .inl (cI, ((nN 1 24 (if 0 < L then xs 0 else 0)) * (nN 1 24 (if 1 < L then xs 1 else 0))), .inl (fun _ => 0))), (aT, .inl (cZ, ((nN 1 24 (if 0 < L then xs 0 else 0)) + 1), .inl (fun _ => 0))), (aS, .inl (cI, 4, .inl (upd (upd (upd (upd (fun _ => 0) 0 (-16384)) 1 16384) 2 (-16384)) 3 16384))), (rP, .inr (0, [.ref apx, .ref apy, .int 0])), (apx, .inl (cI, (nN 3 60 (if 2 < L then xs 2 else 0)), .inl (fun _ => 0))), (apy, .inl (cI, (nN 3 60 (if 2 < L then xs 2 else 0)), .inl (fun _ => 0))), (rO, .inr (0, [.ref aox, .ref aoy, .int 0])), (aox, .inl (cI, (nN 3 60 (if 2 < L then xs 2 else 0)), .inl (fun _ => 0))), (aoy, .inl (cI, (nN 3 60 (if 2 < L then xs 2 else 0)), .inl (fun _ => 0))), (rE, .inr (0, [.ref aex, .ref aey, .int 0])), (aex, .inl (cI, (nN 3 60 (if 2 < L then xs 2 else 0)), .inl (fun _ => 0))), (aey, .inl (cI, (nN 3 60 (if 2 < L then xs 2 else 0)), .inl (fun _ => 0)))]) hP hD hS hA [13] [0, 1, 2, 3, 4, 5, 6, 7, 8, 9, 10, 11, 12] rfl rfl (by decide) (by decide) (va_runI (As := [.int (if 0 < L then xs 0 else 0), .int (if 1 < L then xs 1 else 0), .int (if 2 < L then xs 2 else 0)]) ⟨hx, hb, hml, hown, hts⟩ (kX2_init l D cI cZ H.size m0 (if 0 < L then xs 0 else 0) (if 1 < L then xs 1 else 0) (if 2 < L then xs 2 else 0)) (cwI 3 hts gL_law_X2_init rfl rfl rfl (hts (.initialized RX2) (by decide +kernel)) (hts (.methodLink RL 20 yX2_init) (by decide +kernel)) (hts (.instanceMethod yX2_init) (by decide +kernel)) rfl (by decide +kernel) ⟨Nat.le_of_ble_eq_true rfl, Nat.le_of_ble_eq_true rfl⟩) (wr_pre (hP.sub [13] rfl) hK (hD.sub [13] (by decide) rfl)) rfl rfl hl.1 rfl (lv_room (Nat.le_of_ble_eq_true rfl)) dL_law_42 ⟨Nat.le_of_ble_eq_true rfl, Nat.le_of_ble_eq_true rfl⟩) (fun u2 H locs hu2 hP hD hS => ?_)
  obtain ⟨aP, ax, ay, afx, afy, atx, aty⟩ := u2
  replace hP : va_P D vwCl [(p0, .inr (1, [.int (nI (nN 1 24 (if 0 < L then xs 0 else 0))), .int (nI (nN 1 24 (if 1 < L then xs 1 else 0))), .ref aC, .ref aT, .ref aS, .ref rP, .ref rO, .ref rE])), (aC, .inl (cI, ((nN 1 24 (if 0 < L then xs 0 else 0)) * (nN 1 24 (if 1 < L then xs 1 else 0))), .inl (fun _ => 0))), (aT, .inl (cZ, ((nN 1 24 (if 0 < L then xs 0 else 0)) + 1), .inl (fun _ => 0))), (aS, .inl (cI, 4, .inl (upd (upd (upd (upd (fun _ => 0) 0 (-16384)) 1 16384) 2 (-16384)) 3 16384))), (rP, .inr (0, [.ref apx, .ref apy, .int 0])), (apx, .inl (cI, (nN 3 60 (if 2 < L then xs 2 else 0)), .inl (fun _ => 0))), (apy, .inl (cI, (nN 3 60 (if 2 < L then xs 2 else 0)), .inl (fun _ => 0))), (rO, .inr (0, [.ref aox, .ref aoy, .int 0])), (aox, .inl (cI, (nN 3 60 (if 2 < L then xs 2 else 0)), .inl (fun _ => 0))), (aoy, .inl (cI, (nN 3 60 (if 2 < L then xs 2 else 0)), .inl (fun _ => 0))), (rE, .inr (0, [.ref aex, .ref aey, .int 0])), (aex, .inl (cI, (nN 3 60 (if 2 < L then xs 2 else 0)), .inl (fun _ => 0))), (aey, .inl (cI, (nN 3 60 (if 2 < L then xs 2 else 0)), .inl (fun _ => 0))), (m0, .inr (2, [.int (nI (nN 1 24 (if 0 < L then xs 0 else 0))), .int (nI (nN 1 24 (if 1 < L then xs 1 else 0))), .int (nI (nN 3 60 (if 2 < L then xs 2 else 0))), .ref aP, .ref ax, .ref ay, .int 0, .ref afx, .ref afy, .ref atx, .ref aty, .int 0, .int 0, .int (-16384), .int 16384, .int (-16384), .int 16384])), (aP, .inl (cI, 576, .inl (fun _ => 0))), (ax, .inl (cI, 60, .inl (fun _ => 0))), (ay, .inl (cI, 60, .inl (fun _ => 0))), (afx, .inl (cI, 60, .inl (fun _ => 0))), (afy, .inl (cI, 60, .inl (fun _ => 0))), (atx, .inl (cI, 60, .inl (fun _ => 0))), (aty, .inl (cI, 60, .inl (fun _ => 0)))] H := hP.sub [0, 1, 2, 3, 4, 5, 6, 7, 8, 9, 10, 11, 12, 13, 14, 15, 16, 17, 18, 19, 20] rfl
  replace hD : va_D (fun q : Nat => s.heap.size ≤ q) [(p0, .inr (1, [.int (nI (nN 1 24 (if 0 < L then xs 0 else 0))), .int (nI (nN 1 24 (if 1 < L then xs 1 else 0))), .ref aC, .ref aT, .ref aS, .ref rP, .ref rO, .ref rE])), (aC, .inl (cI, ((nN 1 24 (if 0 < L then xs 0 else 0)) * (nN 1 24 (if 1 < L then xs 1 else 0))), .inl (fun _ => 0))), (aT, .inl (cZ, ((nN 1 24 (if 0 < L then xs 0 else 0)) + 1), .inl (fun _ => 0))), (aS, .inl (cI, 4, .inl (upd (upd (upd (upd (fun _ => 0) 0 (-16384)) 1 16384) 2 (-16384)) 3 16384))), (rP, .inr (0, [.ref apx, .ref apy, .int 0])), (apx, .inl (cI, (nN 3 60 (if 2 < L then xs 2 else 0)), .inl (fun _ => 0))), (apy, .inl (cI, (nN 3 60 (if 2 < L then xs 2 else 0)), .inl (fun _ => 0))), (rO, .inr (0, [.ref aox, .ref aoy, .int 0])), (aox, .inl (cI, (nN 3 60 (if 2 < L then xs 2 else 0)), .inl (fun _ => 0))), (aoy, .inl (cI, (nN 3 60 (if 2 < L then xs 2 else 0)), .inl (fun _ => 0))), (rE, .inr (0, [.ref aex, .ref aey, .int 0])), (aex, .inl (cI, (nN 3 60 (if 2 < L then xs 2 else 0)), .inl (fun _ => 0))), (aey, .inl (cI, (nN 3 60 (if 2 < L then xs 2 else 0)), .inl (fun _ => 0))), (m0, .inr (2, [.int (nI (nN 1 24 (if 0 < L then xs 0 else 0))), .int (nI (nN 1 24 (if 1 < L then xs 1 else 0))), .int (nI (nN 3 60 (if 2 < L then xs 2 else 0))), .ref aP, .ref ax, .ref ay, .int 0, .ref afx, .ref afy, .ref atx, .ref aty, .int 0, .int 0, .int (-16384), .int 16384, .int (-16384), .int 16384])), (aP, .inl (cI, 576, .inl (fun _ => 0))), (ax, .inl (cI, 60, .inl (fun _ => 0))), (ay, .inl (cI, 60, .inl (fun _ => 0))), (afx, .inl (cI, 60, .inl (fun _ => 0))), (afy, .inl (cI, 60, .inl (fun _ => 0))), (atx, .inl (cI, 60, .inl (fun _ => 0))), (aty, .inl (cI, 60, .inl (fun _ => 0)))] := hD.sub [0, 1, 2, 3, 4, 5, 6, 7, 8, 9, 10, 11, 12, 13, 14, 15, 16, 17, 18, 19, 20] (by decide) rfl
  refine W.widen (k := 21) (n := 2025) (by omega) (by omega) ?_
  refine lv_astore_n (lv' := [(2, .ref m0), (1, .ref p0), (0, .ref b)]) hx hb dL_law_45 rfl hl (by decide) rfl (fun ls hl => ?_)
  refine lv_iconst (v := 3) hx hb dL_law_46 (by decide) ?_
  refine lv_istore_n (lv' := [(3, .int 3), (2, .ref m0), (1, .ref p0), (0, .ref b)]) hx hb dL_law_47 rfl hl (by decide) rfl (fun ls hl => ?_)
  have qw := nN_ok (lo := 1) (hi := 24) (by decide) (by decide) (if 0 < L then xs 0 else 0)
  have qh := nN_ok (lo := 1) (hi := 24) (by decide) (by decide) (if 1 < L then xs 1 else 0)
  have qv := nN_ok (lo := 3) (hi := 60) (by decide) (by decide) (if 2 < L then xs 2 else 0)
  exact law_loop C0 hK qw.2.2 qh.2.2 qv.2.2 hL (L + 6) 3 (by omega) (by omega) rP apx apy rE aex aey 0 [] (fun _ => 0) (fun _ => 0) (upd (upd (upd (upd (fun _ => 0) 0 (-16384)) 1 16384) 2 (-16384)) 3 16384) (fun _ => 0) (fun _ => 0) (fun _ => 0) (fun _ => 0) (fun _ => 0) (fun _ => 0) (fun _ => 0) (fun _ => 0) (fun _ => 0) (fun _ => 0) (fun _ => 0) (fun _ => 0) (fun _ => 0) 0 0 0 0 H locs ⟨rfl, fun i hi => absurd hi (Nat.not_lt_zero i), fun i hi => absurd hi (Nat.not_lt_zero i), fun v hv => absurd hv List.not_mem_nil, Nat.zero_le _, up_co ⟨by decide, by decide⟩ ⟨by decide, by decide⟩ ⟨by decide, by decide⟩ ⟨by decide, by decide⟩, fun _ _ _ _ => rfl⟩ hP hD hS ls (lv_sub hl [3, 2, 1, 0] rfl)
