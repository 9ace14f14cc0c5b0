/-! LEAVES: static methods, and the readers of a ring. -/
theorem oI {v r : Int32} (h : v = r) : Outcome.returned (some (Value.int v)) = .returned (some (.int r)) := by rw [h]
theorem bI_tt {b : Bool} (h : b = true) : (1 : Int32) = bI b := by rw [h]; rfl
theorem bI_ff {b : Bool} (h : b = false) : (0 : Int32) = bI b := by rw [h]; rfl
theorem bI_ne {b : Bool} (h : ¬ bI b = 0) : b = true := by
  cases b
  · exact absurd rfl h
  · rfl
def coB (x : Int32) : Bool := decide (¬ x < (-16384) ∧ ¬ 16384 < x)
def rgB (a b : Int32) : Bool := decide (coB a = true ∧ coB b = true ∧ ¬ b < a)
def neI (v lo hi : Int32) : Int32 := if lo < (if v < hi then v else hi) then (if v < hi then v else hi) else lo
def bwI (v lo hi : Int32) : Int32 := if lo ≤ v then (if v ≤ hi then v else hi) else lo
def caI (a b c d s : Int32) : Int32 := b + fl_i ((d - b) * (s - a)) (c - a)
def hsB (i n : Int32) : Bool := decide (¬ i < 0 ∧ ¬ n ≤ i)
def nxN (n k : Nat) : Nat := if k + 1 < n then k + 1 else 0
theorem nxN_lt {n k : Nat} (h : k < n) : nxN n k < n := by unfold nxN; split <;> omega
def emB (ys : Nat → Int32) (n k : Nat) (y : Int32) : Bool := decide (y < ys k) != decide (y < ys (nxN n k))
def cuI (xs ys : Nat → Int32) (n k : Nat) (y : Int32) : Int32 := xs k - fl_i ((xs k - xs (nxN n k)) * (y - ys k)) (ys (nxN n k) - ys k)
def gdB (side : Nat) (v s : Int32) : Bool := if side % 2 = 0 then decide (¬ v < s) else decide (¬ s < v)
set_option maxHeartbeats 4000000 in
set_option maxRecDepth 100000 in
/-- nearest: the nearest number of a range -/
theorem kX1_nearest (l : Launch) (D : va_G) (cI cZ : ClassId) (v lo hi : Int32)  : Met l yX1_nearest wsX1_nearest ({ frames := 1, cells := 0, slots := 0, locals := 20 }) (va_Pc [.int v, .int lo, .int hi] (fun _ => True)) (QcRead (neI v lo hi)) 0 0 (fun _ => False) := by
  refine Met.ofW (cc := cX1_nearest) (maxL := 3) (ret := (some .int)) (by decide) rfl ?_
  intro p e s m args below meth c s₁ B hml hv
  obtain ⟨rfl, -⟩ := hv
  have hx := B.exec
  have hb := B.bytes
  have hr := B.returns
  have hts := atoms_spec (ws := wsX1_nearest) B.pre
  have hown : s.vm.findClass RX1 = some m.cls := findClass_of_methodNamed B.named
  have hlocks := B.notSynchronized
  have hl := lv_entry ([.int v, .int lo, .int hi]) (n := 3) (Nat.le_of_ble_eq_true rfl)
  rw [lg_entry_eq]
  generalize (lg_sl ([.int v, .int lo, .int hi]) ++ List.replicate (3 - (lg_sl ([.int v, .int lo, .int hi])).length) Slot.unset).toArray = ls at hl ⊢
  have hl : lv_has ls 3 [(0, .int v), (1, .int lo), (2, .int hi)] := hl
  refine lv_iload_n hx hb dX1_nearest_0 rfl (lv_at hl 1 rfl) ?_
  refine lv_iload_n hx hb dX1_nearest_1 rfl (lv_at hl 2 rfl) ?_
  refine lv_iload_n hx hb dX1_nearest_2 rfl (lv_at hl 0 rfl) ?_
  refine va_mmin hx hb (hml.trans hl.1.symm) hown (hts (.methodLink RX1 92 Lib.Math.min.name) (by decide +kernel)) (hts (.static Lib.Math.min.name) (by decide +kernel)) (hts (.initialized "java/lang/Math") (by decide +kernel)) (hts (.code Lib.Math.min.name Lib.Math.min.code 2 (some .int)) (List.mem_cons_of_mem _ (List.mem_of_getElem? (i := 3) rfl))) (Nat.le_of_ble_eq_true rfl) (Nat.le_of_ble_eq_true rfl) (Nat.zero_le _) (Nat.zero_le _) dX1_nearest_3 ?_
  refine va_mmax hx hb (hml.trans hl.1.symm) hown (hts (.methodLink RX1 97 Lib.Math.max.name) (by decide +kernel)) (hts (.static Lib.Math.max.name) (by decide +kernel)) (hts (.initialized "java/lang/Math") (by decide +kernel)) (hts (.code Lib.Math.max.name Lib.Math.max.code 2 (some .int)) (List.mem_cons_of_mem _ (List.mem_of_getElem? (i := 6) rfl))) (Nat.le_of_ble_eq_true rfl) (Nat.le_of_ble_eq_true rfl) (Nat.zero_le _) (Nat.zero_le _) dX1_nearest_6 ?_
  exact W.iret (v := (if lo < (if v < hi then v else hi) then (if v < hi then v else hi) else lo)) hx hb hr (fun t ht _ => ⟨rfl, ht⟩) (fun _ h => absurd h List.not_mem_nil) dX1_nearest_9
set_option maxHeartbeats 4000000 in
set_option maxRecDepth 100000 in
theorem kX1_isCoordinate (l : Launch) (D : va_G) (cI cZ : ClassId) (x : Int32)  : Met l yX1_isCoordinate wsX1_isCoordinate ({ frames := 0, cells := 0, slots := 0, locals := 0 }) (va_Pc [.int x] (fun _ => True)) (QcRead (bI (coB x))) 0 0 (fun _ => False) := by
  refine Met.ofW (cc := cX1_isCoordinate) (maxL := 1) (ret := (some .boolean)) (by decide) rfl ?_
  intro p e s m args below meth c s₁ B hml hv
  obtain ⟨rfl, -⟩ := hv
  have hx := B.exec
  have hb := B.bytes
  have hr := B.returns
  have hts := atoms_spec (ws := wsX1_isCoordinate) B.pre
  have hown : s.vm.findClass RX1 = some m.cls := findClass_of_methodNamed B.named
  have hlocks := B.notSynchronized
  have hl := lv_entry ([.int x]) (n := 1) (Nat.le_of_ble_eq_true rfl)
  rw [lg_entry_eq]
  generalize (lg_sl ([.int x]) ++ List.replicate (1 - (lg_sl ([.int x])).length) Slot.unset).toArray = ls at hl ⊢
  have hl : lv_has ls 1 [(0, .int x)] := hl
  refine lv_iload_n hx hb dX1_isCoordinate_0 rfl (lv_at hl 0 rfl) ?_
  refine lv_sipush (v := (-16384)) hx hb dX1_isCoordinate_1 (by decide) ?_
  refine lv_icmp_lt (tgt := 18) hx hb dX1_isCoordinate_4 (by decide) (fun c4 => ?_) (fun c4 => ?_)
  · skip
    refine lv_iconst (v := 0) hx hb dX1_isCoordinate_18 (by decide) ?_
    exact W.zret (v := 0) hx hb hr rfl (fun t ht _ => ⟨oI (bI_ff (decide_eq_false (fun h => h.1 c4))), ht⟩) (fun _ h => absurd h List.not_mem_nil) dX1_isCoordinate_19
  · skip
    refine lv_iload_n hx hb dX1_isCoordinate_7 rfl (lv_at hl 0 rfl) ?_
    refine lv_sipush (v := 16384) hx hb dX1_isCoordinate_8 (by decide) ?_
    refine lv_icmp_gt (tgt := 18) hx hb dX1_isCoordinate_11 (by decide) (fun c11 => ?_) (fun c11 => ?_)
    · skip
      refine lv_iconst (v := 0) hx hb dX1_isCoordinate_18 (by decide) ?_
      exact W.zret (v := 0) hx hb hr rfl (fun t ht _ => ⟨oI (bI_ff (decide_eq_false (fun h => h.2 c11))), ht⟩) (fun _ h => absurd h List.not_mem_nil) dX1_isCoordinate_19
    · skip
      refine lv_iconst (v := 1) hx hb dX1_isCoordinate_14 (by decide) ?_
      refine lv_goto (tgt := 19) hx hb dX1_isCoordinate_15 (by decide) ?_
      exact W.zret (v := 1) hx hb hr rfl (fun t ht _ => ⟨oI (bI_tt (decide_eq_true ⟨c4, c11⟩)), ht⟩) (fun _ h => absurd h List.not_mem_nil) dX1_isCoordinate_19
set_option maxHeartbeats 4000000 in
set_option maxRecDepth 100000 in
theorem kX2_isNear (l : Launch) (D : va_G) (cI cZ : ClassId) (x : Int32)  : Met l yX2_isNear wsX2_isNear ({ frames := 0, cells := 0, slots := 0, locals := 0 }) (va_Pc [.int x] (fun _ => True)) (QcRead (bI (coB x))) 0 0 (fun _ => False) := by
  refine Met.ofW (cc := cX2_isNear) (maxL := 1) (ret := (some .boolean)) (by decide) rfl ?_
  intro p e s m args below meth c s₁ B hml hv
  obtain ⟨rfl, -⟩ := hv
  have hx := B.exec
  have hb := B.bytes
  have hr := B.returns
  have hts := atoms_spec (ws := wsX2_isNear) B.pre
  have hown : s.vm.findClass RX2 = some m.cls := findClass_of_methodNamed B.named
  have hlocks := B.notSynchronized
  have hl := lv_entry ([.int x]) (n := 1) (Nat.le_of_ble_eq_true rfl)
  rw [lg_entry_eq]
  generalize (lg_sl ([.int x]) ++ List.replicate (1 - (lg_sl ([.int x])).length) Slot.unset).toArray = ls at hl ⊢
  have hl : lv_has ls 1 [(0, .int x)] := hl
  refine lv_iload_n hx hb dX2_isNear_0 rfl (lv_at hl 0 rfl) ?_
  refine lv_sipush (v := (-16384)) hx hb dX2_isNear_1 (by decide) ?_
  refine lv_icmp_lt (tgt := 18) hx hb dX2_isNear_4 (by decide) (fun c4 => ?_) (fun c4 => ?_)
  · skip
    refine lv_iconst (v := 0) hx hb dX2_isNear_18 (by decide) ?_
    exact W.zret (v := 0) hx hb hr rfl (fun t ht _ => ⟨oI (bI_ff (decide_eq_false (fun h => h.1 c4))), ht⟩) (fun _ h => absurd h List.not_mem_nil) dX2_isNear_19
  · skip
    refine lv_iload_n hx hb dX2_isNear_7 rfl (lv_at hl 0 rfl) ?_
    refine lv_sipush (v := 16384) hx hb dX2_isNear_8 (by decide) ?_
    refine lv_icmp_gt (tgt := 18) hx hb dX2_isNear_11 (by decide) (fun c11 => ?_) (fun c11 => ?_)
    · skip
      refine lv_iconst (v := 0) hx hb dX2_isNear_18 (by decide) ?_
      exact W.zret (v := 0) hx hb hr rfl (fun t ht _ => ⟨oI (bI_ff (decide_eq_false (fun h => h.2 c11))), ht⟩) (fun _ h => absurd h List.not_mem_nil) dX2_isNear_19
    · skip
      refine lv_iconst (v := 1) hx hb dX2_isNear_14 (by decide) ?_
      refine lv_goto (tgt := 19) hx hb dX2_isNear_15 (by decide) ?_
      exact W.zret (v := 1) hx hb hr rfl (fun t ht _ => ⟨oI (bI_tt (decide_eq_true ⟨c4, c11⟩)), ht⟩) (fun _ h => absurd h List.not_mem_nil) dX2_isNear_19
set_option maxHeartbeats 4000000 in
set_option maxRecDepth 100000 in
theorem kX1_isRange (l : Launch) (D : va_G) (cI cZ : ClassId) (a b : Int32)  : Met l yX1_isRange wsX1_isRange ({ frames := 1, cells := 0, slots := 0, locals := 20 }) (va_Pc [.int a, .int b] (fun _ => True)) (QcRead (bI (rgB a b))) 0 0 (fun _ => False) := by
  refine Met.ofW (cc := cX1_isRange) (maxL := 2) (ret := (some .boolean)) (by decide) rfl ?_
  intro p e s m args below meth c s₁ B hml hv
  obtain ⟨rfl, -⟩ := hv
  have hx := B.exec
  have hb := B.bytes
  have hr := B.returns
  have hts := atoms_spec (ws := wsX1_isRange) B.pre
  have hown : s.vm.findClass RX1 = some m.cls := findClass_of_methodNamed B.named
  have hlocks := B.notSynchronized
  have hl := lv_entry ([.int a, .int b]) (n := 2) (Nat.le_of_ble_eq_true rfl)
  rw [lg_entry_eq]
  generalize (lg_sl ([.int a, .int b]) ++ List.replicate (2 - (lg_sl ([.int a, .int b])).length) Slot.unset).toArray = ls at hl ⊢
  have hl : lv_has ls 2 [(0, .int a), (1, .int b)] := hl
  refine lv_iload_n hx hb dX1_isRange_0 rfl (lv_at hl 0 rfl) ?_
  refine rd_i (va_runS (As := [.int a]) ⟨hx, hb, hml, hown, hts⟩ (kX1_isCoordinate l D cI cZ a) (va_cwS 1 hts gX1_isRange_X1_isCoordinate rfl rfl rfl (by decide +kernel) ⟨Nat.le_of_ble_eq_true rfl, Nat.le_of_ble_eq_true rfl⟩) rd_pre0 rfl rfl hl.1 rfl (lv_room (Nat.le_of_ble_eq_true rfl)) dX1_isRange_1 ⟨Nat.zero_le _, Nat.zero_le _⟩) ?_
  refine lv_if_eq (tgt := 23) hx hb dX1_isRange_4 (by decide) (fun c4 => ?_) (fun c4 => ?_)
  · skip
    refine lv_iconst (v := 0) hx hb dX1_isRange_23 (by decide) ?_
    exact W.zret (v := 0) hx hb hr rfl (fun t ht _ => ⟨oI (bI_ff (decide_eq_false (fun h => by rw [bI_eq0.mp c4] at h; exact absurd h.1 (by decide)))), ht⟩) (fun _ h => absurd h List.not_mem_nil) dX1_isRange_24
  · skip
    refine lv_iload_n hx hb dX1_isRange_7 rfl (lv_at hl 1 rfl) ?_
    refine rd_i (va_runS (As := [.int b]) ⟨hx, hb, hml, hown, hts⟩ (kX1_isCoordinate l D cI cZ b) (va_cwS 1 hts gX1_isRange_X1_isCoordinate rfl rfl rfl (by decide +kernel) ⟨Nat.le_of_ble_eq_true rfl, Nat.le_of_ble_eq_true rfl⟩) rd_pre0 rfl rfl hl.1 rfl (lv_room (Nat.le_of_ble_eq_true rfl)) dX1_isRange_8 ⟨Nat.zero_le _, Nat.zero_le _⟩) ?_
    refine lv_if_eq (tgt := 23) hx hb dX1_isRange_11 (by decide) (fun c11 => ?_) (fun c11 => ?_)
    · skip
      refine lv_iconst (v := 0) hx hb dX1_isRange_23 (by decide) ?_
      exact W.zret (v := 0) hx hb hr rfl (fun t ht _ => ⟨oI (bI_ff (decide_eq_false (fun h => by rw [bI_eq0.mp c11] at h; exact absurd h.2.1 (by decide)))), ht⟩) (fun _ h => absurd h List.not_mem_nil) dX1_isRange_24
    · skip
      refine lv_iload_n hx hb dX1_isRange_14 rfl (lv_at hl 0 rfl) ?_
      refine lv_iload_n hx hb dX1_isRange_15 rfl (lv_at hl 1 rfl) ?_
      refine lv_icmp_gt (tgt := 23) hx hb dX1_isRange_16 (by decide) (fun c16 => ?_) (fun c16 => ?_)
      · skip
        refine lv_iconst (v := 0) hx hb dX1_isRange_23 (by decide) ?_
        exact W.zret (v := 0) hx hb hr rfl (fun t ht _ => ⟨oI (bI_ff (decide_eq_false (fun h => h.2.2 c16))), ht⟩) (fun _ h => absurd h List.not_mem_nil) dX1_isRange_24
      · skip
        refine lv_iconst (v := 1) hx hb dX1_isRange_19 (by decide) ?_
        refine lv_goto (tgt := 24) hx hb dX1_isRange_20 (by decide) ?_
        exact W.zret (v := 1) hx hb hr rfl (fun t ht _ => ⟨oI (bI_tt (decide_eq_true ⟨bI_ne c4, bI_ne c11, c16⟩)), ht⟩) (fun _ h => absurd h List.not_mem_nil) dX1_isRange_24
set_option maxHeartbeats 4000000 in
set_option maxRecDepth 100000 in
theorem kJ9_floorDiv_7cf53 (l : Launch) (D : va_G) (cI cZ : ClassId) (x y : Int32) (h0 : ¬ y = 0) : Met l yJ9_floorDiv_7cf53 wsJ9_floorDiv_7cf53 ({ frames := 0, cells := 0, slots := 0, locals := 0 }) (va_Pc [.int x, .int y] (fun _ => True)) (QcRead (fl_i x y)) 0 0 (fun _ => False) := by
  refine va_MetF (cc := cJ9_floorDiv_7cf53) (maxL := 3) (ret := (some .int)) (by decide +kernel) rfl ?_
  intro p e s m args below meth c s₁ B hml hv
  obtain ⟨rfl, -⟩ := hv
  have hx := B.exec
  have hb := B.bytes
  have hr := B.returns
  have hts := atoms_spec (ws := wsJ9_floorDiv_7cf53) B.pre
  have hown : s.vm.findClass RJ9 = some m.cls := findClass_of_methodNamed B.named
  have hlocks := B.notSynchronized
  have hl := lv_entry ([.int x, .int y]) (n := 3) (Nat.le_of_ble_eq_true rfl)
  rw [lg_entry_eq]
  generalize (lg_sl ([.int x, .int y]) ++ List.replicate (3 - (lg_sl ([.int x, .int y])).length) Slot.unset).toArray = ls at hl ⊢
  have hl : lv_has ls 3 [(0, .int x), (1, .int y)] := hl
  refine lv_iload_n hx hb dJ9_floorDiv_7cf53_0 rfl (lv_at hl 0 rfl) ?_
  refine lv_iload_n hx hb dJ9_floorDiv_7cf53_1 rfl (lv_at hl 1 rfl) ?_
  refine lv_idiv hx hb dJ9_floorDiv_7cf53_2 h0 ?_
  refine lv_istore_n (lv' := [(2, .int (x / y)), (0, .int x), (1, .int y)]) hx hb dJ9_floorDiv_7cf53_3 rfl hl (by decide) rfl (fun ls hl => ?_)
  refine lv_iload_n hx hb dJ9_floorDiv_7cf53_4 rfl (lv_at hl 1 rfl) ?_
  refine lv_iload_n hx hb dJ9_floorDiv_7cf53_5 rfl (lv_at hl 2 rfl) ?_
  refine lv_ixor hx hb dJ9_floorDiv_7cf53_6 ?_
  refine lv_if_ge (tgt := 21) hx hb dJ9_floorDiv_7cf53_7 (by decide) (fun c7 => ?_) (fun c7 => ?_)
  · skip
    refine lv_iload_n hx hb dJ9_floorDiv_7cf53_21 rfl (lv_at hl 0 rfl) ?_
    exact W.iret (v := (x / y)) hx hb hr (fun t ht _ => ⟨oI (by rw [fl_i, if_pos c7]), ht⟩) (fun _ h => absurd h List.not_mem_nil) dJ9_floorDiv_7cf53_22
  · skip
    refine lv_iload_n hx hb dJ9_floorDiv_7cf53_10 rfl (lv_at hl 0 rfl) ?_
    refine lv_iload_n hx hb dJ9_floorDiv_7cf53_11 rfl (lv_at hl 2 rfl) ?_
    refine lv_imul hx hb dJ9_floorDiv_7cf53_12 ?_
    refine lv_iload_n hx hb dJ9_floorDiv_7cf53_13 rfl (lv_at hl 1 rfl) ?_
    refine lv_icmp_eq (tgt := 21) hx hb dJ9_floorDiv_7cf53_14 (by decide) (fun c14 => ?_) (fun c14 => ?_)
    · skip
      refine lv_iload_n hx hb dJ9_floorDiv_7cf53_21 rfl (lv_at hl 0 rfl) ?_
      exact W.iret (v := (x / y)) hx hb hr (fun t ht _ => ⟨oI (by rw [fl_i, if_neg c7, if_pos c14]), ht⟩) (fun _ h => absurd h List.not_mem_nil) dJ9_floorDiv_7cf53_22
    · skip
      refine lv_iload_n hx hb dJ9_floorDiv_7cf53_17 rfl (lv_at hl 0 rfl) ?_
      refine lv_iconst (v := 1) hx hb dJ9_floorDiv_7cf53_18 (by decide) ?_
      refine lv_isub hx hb dJ9_floorDiv_7cf53_19 ?_
      exact W.iret (v := ((x / y) - 1)) hx hb hr (fun t ht _ => ⟨oI (by rw [fl_i, if_neg c7, if_neg c14]), ht⟩) (fun _ h => absurd h List.not_mem_nil) dJ9_floorDiv_7cf53_20
set_option maxHeartbeats 4000000 in
set_option maxRecDepth 100000 in
theorem kX1_cutAcross (l : Launch) (D : va_G) (cI cZ : ClassId) (a0 b0 c0 d0 s0 : Int32) (h0 : ¬ c0 - a0 = 0) : Met l yX1_cutAcross wsX1_cutAcross ({ frames := 1, cells := 0, slots := 0, locals := 22 }) (va_Pc [.int a0, .int b0, .int c0, .int d0, .int s0] (fun _ => True)) (QcRead (caI a0 b0 c0 d0 s0)) 0 0 (fun _ => False) := by
  refine Met.ofW (cc := cX1_cutAcross) (maxL := 5) (ret := (some .int)) (by decide) rfl ?_
  intro p e s m args below meth c s₁ B hml hv
  obtain ⟨rfl, -⟩ := hv
  have hx := B.exec
  have hb := B.bytes
  have hr := B.returns
  have hts := atoms_spec (ws := wsX1_cutAcross) B.pre
  have hown : s.vm.findClass RX1 = some m.cls := findClass_of_methodNamed B.named
  have hlocks := B.notSynchronized
  have hl := lv_entry ([.int a0, .int b0, .int c0, .int d0, .int s0]) (n := 5) (Nat.le_of_ble_eq_true rfl)
  rw [lg_entry_eq]
  generalize (lg_sl ([.int a0, .int b0, .int c0, .int d0, .int s0]) ++ List.replicate (5 - (lg_sl ([.int a0, .int b0, .int c0, .int d0, .int s0])).length) Slot.unset).toArray = ls at hl ⊢
  have hl : lv_has ls 5 [(0, .int a0), (1, .int b0), (2, .int c0), (3, .int d0), (4, .int s0)] := hl
  refine lv_iload_n hx hb dX1_cutAcross_0 rfl (lv_at hl 1 rfl) ?_
  refine lv_iload_n hx hb dX1_cutAcross_1 rfl (lv_at hl 3 rfl) ?_
  refine lv_iload_n hx hb dX1_cutAcross_2 rfl (lv_at hl 1 rfl) ?_
  refine lv_isub hx hb dX1_cutAcross_3 ?_
  refine lv_iload hx hb dX1_cutAcross_4 (lv_at hl 4 rfl) ?_
  refine lv_iload_n hx hb dX1_cutAcross_6 rfl (lv_at hl 0 rfl) ?_
  refine lv_isub hx hb dX1_cutAcross_7 ?_
  refine lv_imul hx hb dX1_cutAcross_8 ?_
  refine lv_iload_n hx hb dX1_cutAcross_9 rfl (lv_at hl 2 rfl) ?_
  refine lv_iload_n hx hb dX1_cutAcross_10 rfl (lv_at hl 0 rfl) ?_
  refine lv_isub hx hb dX1_cutAcross_11 ?_
  refine rd_i (va_runS (As := [.int ((d0 - b0) * (s0 - a0)), .int (c0 - a0)]) ⟨hx, hb, hml, hown, hts⟩ (kJ9_floorDiv_7cf53 l D cI cZ ((d0 - b0) * (s0 - a0)) (c0 - a0) h0) (va_cwS 2 hts gX1_cutAcross_J9_floorDiv_7cf53 rfl rfl rfl (by decide +kernel) ⟨Nat.le_of_ble_eq_true rfl, Nat.le_of_ble_eq_true rfl⟩) rd_pre0 rfl rfl hl.1 rfl (lv_room (Nat.le_of_ble_eq_true rfl)) dX1_cutAcross_12 ⟨Nat.zero_le _, Nat.zero_le _⟩) ?_
  refine lv_iadd hx hb dX1_cutAcross_15 ?_
  exact W.iret (v := (b0 + (fl_i ((d0 - b0) * (s0 - a0)) (c0 - a0)))) hx hb hr (fun t ht _ => ⟨rfl, ht⟩) (fun _ h => absurd h List.not_mem_nil) dX1_cutAcross_16
set_option maxHeartbeats 4000000 in
set_option maxRecDepth 100000 in
theorem kX2_quotient (l : Launch) (D : va_G) (cI cZ : ClassId) (a b : Int32) (h0 : ¬ b = 0) : Met l yX2_quotient wsX2_quotient ({ frames := 0, cells := 0, slots := 0, locals := 0 }) (va_Pc [.int a, .int b] (fun _ => True)) (QcRead (qt_i a b)) 0 0 (fun _ => False) := by
  refine Met.ofW (cc := cX2_quotient) (maxL := 3) (ret := (some .int)) (by decide) rfl ?_
  intro p e s m args below meth c s₁ B hml hv
  obtain ⟨rfl, -⟩ := hv
  have hx := B.exec
  have hb := B.bytes
  have hr := B.returns
  have hts := atoms_spec (ws := wsX2_quotient) B.pre
  have hown : s.vm.findClass RX2 = some m.cls := findClass_of_methodNamed B.named
  have hlocks := B.notSynchronized
  have hl := lv_entry ([.int a, .int b]) (n := 3) (Nat.le_of_ble_eq_true rfl)
  rw [lg_entry_eq]
  generalize (lg_sl ([.int a, .int b]) ++ List.replicate (3 - (lg_sl ([.int a, .int b])).length) Slot.unset).toArray = ls at hl ⊢
  have hl : lv_has ls 3 [(0, .int a), (1, .int b)] := hl
  refine lv_iload_n hx hb dX2_quotient_0 rfl (lv_at hl 0 rfl) ?_
  refine lv_iload_n hx hb dX2_quotient_1 rfl (lv_at hl 1 rfl) ?_
  refine lv_idiv hx hb dX2_quotient_2 h0 ?_
  refine lv_istore_n (lv' := [(2, .int (a / b)), (0, .int a), (1, .int b)]) hx hb dX2_quotient_3 rfl hl (by decide) rfl (fun ls hl => ?_)
  refine lv_iload_n hx hb dX2_quotient_4 rfl (lv_at hl 0 rfl) ?_
  refine lv_iload_n hx hb dX2_quotient_5 rfl (lv_at hl 2 rfl) ?_
  refine lv_imul hx hb dX2_quotient_6 ?_
  refine lv_iload_n hx hb dX2_quotient_7 rfl (lv_at hl 1 rfl) ?_
  refine lv_icmp_eq (tgt := 38) hx hb dX2_quotient_8 (by decide) (fun c8 => ?_) (fun c8 => ?_)
  · skip
    refine lv_iload_n hx hb dX2_quotient_38 rfl (lv_at hl 0 rfl) ?_
    exact W.iret (v := (a / b)) hx hb hr (fun t ht _ => ⟨oI (by rw [qt_i, if_pos c8]), ht⟩) (fun _ h => absurd h List.not_mem_nil) dX2_quotient_39
  · skip
    refine lv_iload_n hx hb dX2_quotient_11 rfl (lv_at hl 1 rfl) ?_
    refine lv_if_ge (tgt := 19) hx hb dX2_quotient_12 (by decide) (fun c12 => ?_) (fun c12 => ?_)
    · skip
      refine lv_iconst (v := 0) hx hb dX2_quotient_19 (by decide) ?_
      refine lv_iload_n hx hb dX2_quotient_20 rfl (lv_at hl 2 rfl) ?_
      refine lv_if_ge (tgt := 28) hx hb dX2_quotient_21 (by decide) (fun c21 => ?_) (fun c21 => ?_)
      · skip
        refine lv_iconst (v := 0) hx hb dX2_quotient_28 (by decide) ?_
        refine lv_icmp_eq (tgt := 38) hx hb dX2_quotient_29 (by decide) (fun c29 => ?_) (fun c29 => absurd (by decide) c29)
        refine lv_iload_n hx hb dX2_quotient_38 rfl (lv_at hl 0 rfl) ?_
        exact W.iret (v := (a / b)) hx hb hr (fun t ht _ => ⟨oI (by rw [qt_i, if_neg c8, if_pos (show (0 ≤ a ↔ 0 ≤ b) from ⟨fun _ => c21, fun _ => c12⟩)]), ht⟩) (fun _ h => absurd h List.not_mem_nil) dX2_quotient_39
      · skip
        refine lv_iconst (v := 1) hx hb dX2_quotient_24 (by decide) ?_
        refine lv_goto (tgt := 29) hx hb dX2_quotient_25 (by decide) ?_
        refine lv_icmp_eq (tgt := 38) hx hb dX2_quotient_29 (by decide) (fun c29 => absurd c29 (by decide)) (fun c29 => ?_)
        refine lv_iload_n hx hb dX2_quotient_32 rfl (lv_at hl 0 rfl) ?_
        refine lv_iconst (v := 1) hx hb dX2_quotient_33 (by decide) ?_
        refine lv_isub hx hb dX2_quotient_34 ?_
        refine lv_goto (tgt := 39) hx hb dX2_quotient_35 (by decide) ?_
        exact W.iret (v := ((a / b) - 1)) hx hb hr (fun t ht _ => ⟨oI (by rw [qt_i, if_neg c8, if_neg (show ¬ (0 ≤ a ↔ 0 ≤ b) from fun h => c21 (h.mp c12))]), ht⟩) (fun _ h => absurd h List.not_mem_nil) dX2_quotient_39
    · skip
      refine lv_iconst (v := 1) hx hb dX2_quotient_15 (by decide) ?_
      refine lv_goto (tgt := 20) hx hb dX2_quotient_16 (by decide) ?_
      refine lv_iload_n hx hb dX2_quotient_20 rfl (lv_at hl 2 rfl) ?_
      refine lv_if_ge (tgt := 28) hx hb dX2_quotient_21 (by decide) (fun c21 => ?_) (fun c21 => ?_)
      · skip
        refine lv_iconst (v := 0) hx hb dX2_quotient_28 (by decide) ?_
        refine lv_icmp_eq (tgt := 38) hx hb dX2_quotient_29 (by decide) (fun c29 => absurd c29 (by decide)) (fun c29 => ?_)
        refine lv_iload_n hx hb dX2_quotient_32 rfl (lv_at hl 0 rfl) ?_
        refine lv_iconst (v := 1) hx hb dX2_quotient_33 (by decide) ?_
        refine lv_isub hx hb dX2_quotient_34 ?_
        refine lv_goto (tgt := 39) hx hb dX2_quotient_35 (by decide) ?_
        exact W.iret (v := ((a / b) - 1)) hx hb hr (fun t ht _ => ⟨oI (by rw [qt_i, if_neg c8, if_neg (show ¬ (0 ≤ a ↔ 0 ≤ b) from fun h => c12 (h.mpr c21))]), ht⟩) (fun _ h => absurd h List.not_mem_nil) dX2_quotient_39
      · skip
        refine lv_iconst (v := 1) hx hb dX2_quotient_24 (by decide) ?_
        refine lv_goto (tgt := 29) hx hb dX2_quotient_25 (by decide) ?_
        refine lv_icmp_eq (tgt := 38) hx hb dX2_quotient_29 (by decide) (fun c29 => ?_) (fun c29 => absurd (by decide) c29)
        refine lv_iload_n hx hb dX2_quotient_38 rfl (lv_at hl 0 rfl) ?_
        exact W.iret (v := (a / b)) hx hb hr (fun t ht _ => ⟨oI (by rw [qt_i, if_neg c8, if_pos (show (0 ≤ a ↔ 0 ≤ b) from ⟨fun h => absurd h c12, fun h => absurd h c21⟩)]), ht⟩) (fun _ h => absurd h List.not_mem_nil) dX2_quotient_39
set_option maxHeartbeats 4000000 in
set_option maxRecDepth 100000 in
theorem kX2_between (l : Launch) (D : va_G) (cI cZ : ClassId) (v lo hi : Int32)  : Met l yX2_between wsX2_between ({ frames := 0, cells := 0, slots := 0, locals := 0 }) (va_Pc [.int v, .int lo, .int hi] (fun _ => True)) (QcRead (bwI v lo hi)) 0 0 (fun _ => False) := by
  refine Met.ofW (cc := cX2_between) (maxL := 3) (ret := (some .int)) (by decide) rfl ?_
  intro p e s m args below meth c s₁ B hml hv
  obtain ⟨rfl, -⟩ := hv
  have hx := B.exec
  have hb := B.bytes
  have hr := B.returns
  have hts := atoms_spec (ws := wsX2_between) B.pre
  have hown : s.vm.findClass RX2 = some m.cls := findClass_of_methodNamed B.named
  have hlocks := B.notSynchronized
  have hl := lv_entry ([.int v, .int lo, .int hi]) (n := 3) (Nat.le_of_ble_eq_true rfl)
  rw [lg_entry_eq]
  generalize (lg_sl ([.int v, .int lo, .int hi]) ++ List.replicate (3 - (lg_sl ([.int v, .int lo, .int hi])).length) Slot.unset).toArray = ls at hl ⊢
  have hl : lv_has ls 3 [(0, .int v), (1, .int lo), (2, .int hi)] := hl
  refine lv_iload_n hx hb dX2_between_0 rfl (lv_at hl 0 rfl) ?_
  refine lv_iload_n hx hb dX2_between_1 rfl (lv_at hl 1 rfl) ?_
  refine lv_icmp_ge (tgt := 9) hx hb dX2_between_2 (by decide) (fun c2 => ?_) (fun c2 => ?_)
  · skip
    refine lv_iload_n hx hb dX2_between_9 rfl (lv_at hl 0 rfl) ?_
    refine lv_iload_n hx hb dX2_between_10 rfl (lv_at hl 2 rfl) ?_
    refine lv_icmp_le (tgt := 18) hx hb dX2_between_11 (by decide) (fun c11 => ?_) (fun c11 => ?_)
    · skip
      refine lv_iload_n hx hb dX2_between_18 rfl (lv_at hl 0 rfl) ?_
      exact W.iret (v := v) hx hb hr (fun t ht _ => ⟨oI (by rw [bwI, if_pos c2, if_pos c11]), ht⟩) (fun _ h => absurd h List.not_mem_nil) dX2_between_19
    · skip
      refine lv_iload_n hx hb dX2_between_14 rfl (lv_at hl 2 rfl) ?_
      refine lv_goto (tgt := 19) hx hb dX2_between_15 (by decide) ?_
      exact W.iret (v := hi) hx hb hr (fun t ht _ => ⟨oI (by rw [bwI, if_pos c2, if_neg c11]), ht⟩) (fun _ h => absurd h List.not_mem_nil) dX2_between_19
  · skip
    refine lv_iload_n hx hb dX2_between_5 rfl (lv_at hl 1 rfl) ?_
    refine lv_goto (tgt := 19) hx hb dX2_between_6 (by decide) ?_
    exact W.iret (v := lo) hx hb hr (fun t ht _ => ⟨oI (by rw [bwI, if_neg c2]), ht⟩) (fun _ h => absurd h List.not_mem_nil) dX2_between_19
theorem nX0_has_X0 : ∀ w ∈ wsX00, w ∈ wsX0_has := fun w h => List.mem_cons_of_mem _ (List.mem_append_right _ h)
set_option maxHeartbeats 4000000 in
set_option maxRecDepth 100000 in
theorem kX0_has (l : Launch) (D : va_G) (cI cZ : ClassId) (r0 ax ay n cap : Nat) (xs ys : Nat → Int32) (i : Int32)  : Met l yX0_has wsX0_has ({ frames := 0, cells := 0, slots := 0, locals := 0 }) (va_Pc [.ref r0, .int i] (rdP D cI cZ [(r0, .inr (0, [.ref ax, .ref ay, .int (nI n)])), (ax, .inl (cI, cap, .inl xs)), (ay, .inl (cI, cap, .inl ys))])) (QcRead (bI (hsB i (nI n)))) 0 0 (fun _ => False) := by
  refine Met.ofW (cc := cX0_has) (maxL := 2) (ret := (some .boolean)) (by decide) rfl ?_
  intro p e s m args below meth c s₁ B hml hv
  obtain ⟨rfl, hP, hK⟩ := hv
  have hx := B.exec
  have hb := B.bytes
  have hr := B.returns
  have hts := atoms_spec (ws := wsX0_has) B.pre
  have hown : s.vm.findClass RX0 = some m.cls := findClass_of_methodNamed B.named
  have hlocks := B.notSynchronized
  have hP : va_P D vwCl [(r0, .inr (0, [.ref ax, .ref ay, .int (nI n)])), (ax, .inl (cI, cap, .inl xs)), (ay, .inl (cI, cap, .inl ys))] s.heap := hP
  have hl := lv_entry ([.ref r0, .int i]) (n := 2) (Nat.le_of_ble_eq_true rfl)
  rw [lg_entry_eq]
  generalize (lg_sl ([.ref r0, .int i]) ++ List.replicate (2 - (lg_sl ([.ref r0, .int i])).length) Slot.unset).toArray = ls at hl ⊢
  have hl : lv_has ls 2 [(0, .ref r0), (1, .int i)] := hl
  refine lv_iload_n hx hb dX0_has_0 rfl (lv_at hl 1 rfl) ?_
  refine lv_if_lt (tgt := 16) hx hb dX0_has_1 (by decide) (fun c1 => ?_) (fun c1 => ?_)
  · skip
    refine lv_iconst (v := 0) hx hb dX0_has_16 (by decide) ?_
    exact W.zret (v := 0) hx hb hr rfl (fun t ht _ => ⟨oI (bI_ff (decide_eq_false (fun h => h.1 c1))), ht⟩) (fun _ h => absurd h List.not_mem_nil) dX0_has_17
  · skip
    refine lv_iload_n hx hb dX0_has_4 rfl (lv_at hl 1 rfl) ?_
    refine lv_aload_n hx hb dX0_has_5 rfl (lv_at hl 0 rfl) ?_
    refine va_get (D := D) (ci := 0) (v := .int (nI n)) (C := RX0) (T := TX0) (N := 3) hx hb hts nX0_has_X0 hown hK.1 hP 0 rfl rfl 2 (by decide) (hts (.fieldLink RX0 16 "PolygonFrame$Ring" "count" "I") (by decide +kernel)) (fun _ h9 => h9) rfl dX0_has_6 ?_
    refine lv_icmp_ge (tgt := 16) hx hb dX0_has_9 (by decide) (fun c9 => ?_) (fun c9 => ?_)
    · skip
      refine lv_iconst (v := 0) hx hb dX0_has_16 (by decide) ?_
      exact W.zret (v := 0) hx hb hr rfl (fun t ht _ => ⟨oI (bI_ff (decide_eq_false (fun h => h.2 c9))), ht⟩) (fun _ h => absurd h List.not_mem_nil) dX0_has_17
    · skip
      refine lv_iconst (v := 1) hx hb dX0_has_12 (by decide) ?_
      refine lv_goto (tgt := 17) hx hb dX0_has_13 (by decide) ?_
      exact W.zret (v := 1) hx hb hr rfl (fun t ht _ => ⟨oI (bI_tt (decide_eq_true ⟨c1, c9⟩)), ht⟩) (fun _ h => absurd h List.not_mem_nil) dX0_has_17
theorem nX0_nextOf_X0 : ∀ w ∈ wsX00, w ∈ wsX0_nextOf := fun w h => List.mem_cons_of_mem _ (List.mem_append_right _ h)
set_option maxHeartbeats 4000000 in
set_option maxRecDepth 100000 in
theorem kX0_nextOf (l : Launch) (D : va_G) (cI cZ : ClassId) (r0 ax ay n cap k : Nat) (xs ys : Nat → Int32) (hk : k < n) (hn : n ≤ cap) (hc : cap ≤ 60) : Met l yX0_nextOf wsX0_nextOf ({ frames := 0, cells := 0, slots := 0, locals := 0 }) (va_Pc [.ref r0, .int (nI k)] (rdP D cI cZ [(r0, .inr (0, [.ref ax, .ref ay, .int (nI n)])), (ax, .inl (cI, cap, .inl xs)), (ay, .inl (cI, cap, .inl ys))])) (QcRead (nI (nxN n k))) 0 0 (fun _ => False) := by
  refine Met.ofW (cc := cX0_nextOf) (maxL := 2) (ret := (some .int)) (by decide) rfl ?_
  intro p e s m args below meth c s₁ B hml hv
  obtain ⟨rfl, hP, hK⟩ := hv
  have hx := B.exec
  have hb := B.bytes
  have hr := B.returns
  have hts := atoms_spec (ws := wsX0_nextOf) B.pre
  have hown : s.vm.findClass RX0 = some m.cls := findClass_of_methodNamed B.named
  have hlocks := B.notSynchronized
  have hP : va_P D vwCl [(r0, .inr (0, [.ref ax, .ref ay, .int (nI n)])), (ax, .inl (cI, cap, .inl xs)), (ay, .inl (cI, cap, .inl ys))] s.heap := hP
  have hl := lv_entry ([.ref r0, .int (nI k)]) (n := 2) (Nat.le_of_ble_eq_true rfl)
  rw [lg_entry_eq]
  generalize (lg_sl ([.ref r0, .int (nI k)]) ++ List.replicate (2 - (lg_sl ([.ref r0, .int (nI k)])).length) Slot.unset).toArray = ls at hl ⊢
  have hl : lv_has ls 2 [(0, .ref r0), (1, .int (nI k))] := hl
  refine lv_iload_n hx hb dX0_nextOf_0 rfl (lv_at hl 1 rfl) ?_
  refine lv_iconst (v := 1) hx hb dX0_nextOf_1 (by decide) ?_
  refine lv_iadd hx hb dX0_nextOf_2 ?_
  refine q_eq (nI_1 _) ?_
  refine lv_aload_n hx hb dX0_nextOf_3 rfl (lv_at hl 0 rfl) ?_
  refine va_get (D := D) (ci := 0) (v := .int (nI n)) (C := RX0) (T := TX0) (N := 3) hx hb hts nX0_nextOf_X0 hown hK.1 hP 0 rfl rfl 2 (by decide) (hts (.fieldLink RX0 16 "PolygonFrame$Ring" "count" "I") (by decide +kernel)) (fun _ h9 => h9) rfl dX0_nextOf_4 ?_
  refine lv_icmp_ge (tgt := 16) hx hb dX0_nextOf_7 (by decide) (fun c7 => ?_) (fun c7 => ?_)
  · skip
    refine lv_iconst (v := 0) hx hb dX0_nextOf_16 (by decide) ?_
    exact W.iret (v := 0) hx hb hr (fun t ht _ => ⟨oI (by rw [nxN, if_neg (Nat.not_lt.mpr ((nI_leI (by omega) (by omega)).mp c7))]; rfl), ht⟩) (fun _ h => absurd h List.not_mem_nil) dX0_nextOf_17
  · skip
    refine lv_iload_n hx hb dX0_nextOf_10 rfl (lv_at hl 1 rfl) ?_
    refine lv_iconst (v := 1) hx hb dX0_nextOf_11 (by decide) ?_
    refine lv_iadd hx hb dX0_nextOf_12 ?_
    refine q_eq (nI_1 _) ?_
    refine lv_goto (tgt := 17) hx hb dX0_nextOf_13 (by decide) ?_
    exact W.iret (v := (nI (k + 1))) hx hb hr (fun t ht _ => ⟨oI (by rw [nxN, if_pos (Nat.lt_of_not_le (fun h => c7 (nI_le h (by omega))))]), ht⟩) (fun _ h => absurd h List.not_mem_nil) dX0_nextOf_17
theorem nX0_edgeMeets_X0 : ∀ w ∈ wsX00, w ∈ wsX0_edgeMeets := fun w h => List.mem_cons_of_mem _ (List.mem_append_right _ h)
set_option maxHeartbeats 4000000 in
set_option maxRecDepth 100000 in
theorem kX0_edgeMeets (l : Launch) (D : va_G) (cI cZ : ClassId) (r0 ax ay n cap k : Nat) (xs ys : Nat → Int32) (y : Int32) (hk : k < n) (hn : n ≤ cap) (hc : cap ≤ 60) : Met l yX0_edgeMeets wsX0_edgeMeets ({ frames := 1, cells := 0, slots := 0, locals := 21 }) (va_Pc [.ref r0, .int (nI k), .int y] (rdP D cI cZ [(r0, .inr (0, [.ref ax, .ref ay, .int (nI n)])), (ax, .inl (cI, cap, .inl xs)), (ay, .inl (cI, cap, .inl ys))])) (QcRead (bI (emB ys n k y))) 0 0 (fun _ => False) := by
  refine Met.ofW (cc := cX0_edgeMeets) (maxL := 3) (ret := (some .boolean)) (by decide) rfl ?_
  intro p e s m args below meth c s₁ B hml hv
  obtain ⟨rfl, hP, hK⟩ := hv
  have hx := B.exec
  have hb := B.bytes
  have hr := B.returns
  have hts := atoms_spec (ws := wsX0_edgeMeets) B.pre
  have hown : s.vm.findClass RX0 = some m.cls := findClass_of_methodNamed B.named
  have hlocks := B.notSynchronized
  have hP : va_P D vwCl [(r0, .inr (0, [.ref ax, .ref ay, .int (nI n)])), (ax, .inl (cI, cap, .inl xs)), (ay, .inl (cI, cap, .inl ys))] s.heap := hP
  have hl := lv_entry ([.ref r0, .int (nI k), .int y]) (n := 3) (Nat.le_of_ble_eq_true rfl)
  rw [lg_entry_eq]
  generalize (lg_sl ([.ref r0, .int (nI k), .int y]) ++ List.replicate (3 - (lg_sl ([.ref r0, .int (nI k), .int y])).length) Slot.unset).toArray = ls at hl ⊢
  have hl : lv_has ls 3 [(0, .ref r0), (1, .int (nI k)), (2, .int y)] := hl
  refine lv_aload_n hx hb dX0_edgeMeets_0 rfl (lv_at hl 0 rfl) ?_
  refine va_get (D := D) (ci := 0) (v := .ref ay) (C := RX0) (T := TX0) (N := 3) hx hb hts nX0_edgeMeets_X0 hown hK.1 hP 0 rfl rfl 1 (by decide) (hts (.fieldLink RX0 13 "PolygonFrame$Ring" "ys" "[I") (by decide +kernel)) (fun _ h9 => h9) rfl dX0_edgeMeets_1 ?_
  refine lv_iload_n hx hb dX0_edgeMeets_4 rfl (lv_at hl 1 rfl) ?_
  refine q_iald (k := k) hx hb hK.1 hP 2 0 rfl rfl (by omega) (by omega) dX0_edgeMeets_5 ?_
  refine lv_iload_n hx hb dX0_edgeMeets_6 rfl (lv_at hl 2 rfl) ?_
  refine lv_icmp_gt (tgt := 14) hx hb dX0_edgeMeets_7 (by decide) (fun c7 => ?_) (fun c7 => ?_)
  · skip
    refine lv_iconst (v := 0) hx hb dX0_edgeMeets_14 (by decide) ?_
    refine lv_aload_n hx hb dX0_edgeMeets_15 rfl (lv_at hl 0 rfl) ?_
    refine va_get (D := D) (ci := 0) (v := .ref ay) (C := RX0) (T := TX0) (N := 3) hx hb hts nX0_edgeMeets_X0 hown hK.1 hP 0 rfl rfl 1 (by decide) (hts (.fieldLink RX0 13 "PolygonFrame$Ring" "ys" "[I") (by decide +kernel)) (fun _ h9 => h9) rfl dX0_edgeMeets_16 ?_
    refine lv_aload_n hx hb dX0_edgeMeets_19 rfl (lv_at hl 0 rfl) ?_
    refine lv_iload_n hx hb dX0_edgeMeets_20 rfl (lv_at hl 1 rfl) ?_
    refine rd_i (va_runV (As := [.int (nI k)]) ⟨hx, hb, hml, hown, hts⟩ (kX0_nextOf l D cI cZ r0 ax ay n cap k xs ys hk hn hc) (cwV 1 hts gX0_edgeMeets_X0_nextOf rfl rfl rfl (by decide +kernel) ⟨Nat.le_of_ble_eq_true rfl, Nat.le_of_ble_eq_true rfl⟩) (rd_preV (ci := 0) (q0 := 0) (hP.sub [0, 1, 2] rfl) hK rfl rfl) rfl rfl hl.1 rfl (lv_room (Nat.le_of_ble_eq_true rfl)) dX0_edgeMeets_21 ⟨Nat.zero_le _, Nat.zero_le _⟩) ?_
    refine q_iald (k := (nxN n k)) hx hb hK.1 hP 2 0 rfl rfl (Nat.lt_of_lt_of_le (nxN_lt hk) hn) (by omega) dX0_edgeMeets_24 ?_
    refine lv_iload_n hx hb dX0_edgeMeets_25 rfl (lv_at hl 2 rfl) ?_
    refine lv_icmp_gt (tgt := 33) hx hb dX0_edgeMeets_26 (by decide) (fun c26 => ?_) (fun c26 => ?_)
    · skip
      refine lv_iconst (v := 0) hx hb dX0_edgeMeets_33 (by decide) ?_
      refine lv_icmp_eq (tgt := 41) hx hb dX0_edgeMeets_34 (by decide) (fun c34 => ?_) (fun c34 => absurd (by decide) c34)
      refine lv_iconst (v := 0) hx hb dX0_edgeMeets_41 (by decide) ?_
      exact W.zret (v := 0) hx hb hr rfl (fun t ht _ => ⟨oI (by rw [emB, decide_eq_true c7, decide_eq_true c26]; rfl), ht⟩) (fun _ h => absurd h List.not_mem_nil) dX0_edgeMeets_42
    · skip
      refine lv_iconst (v := 1) hx hb dX0_edgeMeets_29 (by decide) ?_
      refine lv_goto (tgt := 34) hx hb dX0_edgeMeets_30 (by decide) ?_
      refine lv_icmp_eq (tgt := 41) hx hb dX0_edgeMeets_34 (by decide) (fun c34 => absurd c34 (by decide)) (fun c34 => ?_)
      refine lv_iconst (v := 1) hx hb dX0_edgeMeets_37 (by decide) ?_
      refine lv_goto (tgt := 42) hx hb dX0_edgeMeets_38 (by decide) ?_
      exact W.zret (v := 1) hx hb hr rfl (fun t ht _ => ⟨oI (by rw [emB, decide_eq_true c7, decide_eq_false c26]; rfl), ht⟩) (fun _ h => absurd h List.not_mem_nil) dX0_edgeMeets_42
  · skip
    refine lv_iconst (v := 1) hx hb dX0_edgeMeets_10 (by decide) ?_
    refine lv_goto (tgt := 15) hx hb dX0_edgeMeets_11 (by decide) ?_
    refine lv_aload_n hx hb dX0_edgeMeets_15 rfl (lv_at hl 0 rfl) ?_
    refine va_get (D := D) (ci := 0) (v := .ref ay) (C := RX0) (T := TX0) (N := 3) hx hb hts nX0_edgeMeets_X0 hown hK.1 hP 0 rfl rfl 1 (by decide) (hts (.fieldLink RX0 13 "PolygonFrame$Ring" "ys" "[I") (by decide +kernel)) (fun _ h9 => h9) rfl dX0_edgeMeets_16 ?_
    refine lv_aload_n hx hb dX0_edgeMeets_19 rfl (lv_at hl 0 rfl) ?_
    refine lv_iload_n hx hb dX0_edgeMeets_20 rfl (lv_at hl 1 rfl) ?_
    refine rd_i (va_runV (As := [.int (nI k)]) ⟨hx, hb, hml, hown, hts⟩ (kX0_nextOf l D cI cZ r0 ax ay n cap k xs ys hk hn hc) (cwV 1 hts gX0_edgeMeets_X0_nextOf rfl rfl rfl (by decide +kernel) ⟨Nat.le_of_ble_eq_true rfl, Nat.le_of_ble_eq_true rfl⟩) (rd_preV (ci := 0) (q0 := 0) (hP.sub [0, 1, 2] rfl) hK rfl rfl) rfl rfl hl.1 rfl (lv_room (Nat.le_of_ble_eq_true rfl)) dX0_edgeMeets_21 ⟨Nat.zero_le _, Nat.zero_le _⟩) ?_
    refine q_iald (k := (nxN n k)) hx hb hK.1 hP 2 0 rfl rfl (Nat.lt_of_lt_of_le (nxN_lt hk) hn) (by omega) dX0_edgeMeets_24 ?_
    refine lv_iload_n hx hb dX0_edgeMeets_25 rfl (lv_at hl 2 rfl) ?_
    refine lv_icmp_gt (tgt := 33) hx hb dX0_edgeMeets_26 (by decide) (fun c26 => ?_) (fun c26 => ?_)
    · skip
      refine lv_iconst (v := 0) hx hb dX0_edgeMeets_33 (by decide) ?_
      refine lv_icmp_eq (tgt := 41) hx hb dX0_edgeMeets_34 (by decide) (fun c34 => absurd c34 (by decide)) (fun c34 => ?_)
      refine lv_iconst (v := 1) hx hb dX0_edgeMeets_37 (by decide) ?_
      refine lv_goto (tgt := 42) hx hb dX0_edgeMeets_38 (by decide) ?_
      exact W.zret (v := 1) hx hb hr rfl (fun t ht _ => ⟨oI (by rw [emB, decide_eq_false c7, decide_eq_true c26]; rfl), ht⟩) (fun _ h => absurd h List.not_mem_nil) dX0_edgeMeets_42
    · skip
      refine lv_iconst (v := 1) hx hb dX0_edgeMeets_29 (by decide) ?_
      refine lv_goto (tgt := 34) hx hb dX0_edgeMeets_30 (by decide) ?_
      refine lv_icmp_eq (tgt := 41) hx hb dX0_edgeMeets_34 (by decide) (fun c34 => ?_) (fun c34 => absurd (by decide) c34)
      refine lv_iconst (v := 0) hx hb dX0_edgeMeets_41 (by decide) ?_
      exact W.zret (v := 0) hx hb hr rfl (fun t ht _ => ⟨oI (by rw [emB, decide_eq_false c7, decide_eq_false c26]; rfl), ht⟩) (fun _ h => absurd h List.not_mem_nil) dX0_edgeMeets_42
theorem nX0_crossingUpwards_X0 : ∀ w ∈ wsX00, w ∈ wsX0_crossingUpwards := fun w h => List.mem_cons_of_mem _ (List.mem_append_right _ h)
set_option maxHeartbeats 4000000 in
set_option maxRecDepth 100000 in
theorem kX0_crossingUpwards (l : Launch) (D : va_G) (cI cZ : ClassId) (r0 ax ay n cap k : Nat) (xs ys : Nat → Int32) (y : Int32) (hk : k < n) (hn : n ≤ cap) (hc : cap ≤ 60) (h0 : ¬ ys (nxN n k) - ys k = 0) : Met l yX0_crossingUpwards wsX0_crossingUpwards ({ frames := 1, cells := 0, slots := 0, locals := 22 }) (va_Pc [.ref r0, .int (nI k), .int y] (rdP D cI cZ [(r0, .inr (0, [.ref ax, .ref ay, .int (nI n)])), (ax, .inl (cI, cap, .inl xs)), (ay, .inl (cI, cap, .inl ys))])) (QcRead (cuI xs ys n k y)) 0 0 (fun _ => False) := by
  refine Met.ofW (cc := cX0_crossingUpwards) (maxL := 4) (ret := (some .int)) (by decide) rfl ?_
  intro p e s m args below meth c s₁ B hml hv
  obtain ⟨rfl, hP, hK⟩ := hv
  have hx := B.exec
  have hb := B.bytes
  have hr := B.returns
  have hts := atoms_spec (ws := wsX0_crossingUpwards) B.pre
  have hown : s.vm.findClass RX0 = some m.cls := findClass_of_methodNamed B.named
  have hlocks := B.notSynchronized
  have hP : va_P D vwCl [(r0, .inr (0, [.ref ax, .ref ay, .int (nI n)])), (ax, .inl (cI, cap, .inl xs)), (ay, .inl (cI, cap, .inl ys))] s.heap := hP
  have hl := lv_entry ([.ref r0, .int (nI k), .int y]) (n := 4) (Nat.le_of_ble_eq_true rfl)
  rw [lg_entry_eq]
  generalize (lg_sl ([.ref r0, .int (nI k), .int y]) ++ List.replicate (4 - (lg_sl ([.ref r0, .int (nI k), .int y])).length) Slot.unset).toArray = ls at hl ⊢
  have hl : lv_has ls 4 [(0, .ref r0), (1, .int (nI k)), (2, .int y)] := hl
  refine lv_aload_n hx hb dX0_crossingUpwards_0 rfl (lv_at hl 0 rfl) ?_
  refine lv_iload_n hx hb dX0_crossingUpwards_1 rfl (lv_at hl 1 rfl) ?_
  refine rd_i (va_runV (As := [.int (nI k)]) ⟨hx, hb, hml, hown, hts⟩ (kX0_nextOf l D cI cZ r0 ax ay n cap k xs ys hk hn hc) (cwV 1 hts gX0_crossingUpwards_X0_nextOf rfl rfl rfl (by decide +kernel) ⟨Nat.le_of_ble_eq_true rfl, Nat.le_of_ble_eq_true rfl⟩) (rd_preV (ci := 0) (q0 := 0) (hP.sub [0, 1, 2] rfl) hK rfl rfl) rfl rfl hl.1 rfl (lv_room (Nat.le_of_ble_eq_true rfl)) dX0_crossingUpwards_2 ⟨Nat.zero_le _, Nat.zero_le _⟩) ?_
  refine lv_istore_n (lv' := [(3, .int (nI (nxN n k))), (0, .ref r0), (1, .int (nI k)), (2, .int y)]) hx hb dX0_crossingUpwards_5 rfl hl (by decide) rfl (fun ls hl => ?_)
  refine lv_aload_n hx hb dX0_crossingUpwards_6 rfl (lv_at hl 1 rfl) ?_
  refine va_get (D := D) (ci := 0) (v := .ref ax) (C := RX0) (T := TX0) (N := 3) hx hb hts nX0_crossingUpwards_X0 hown hK.1 hP 0 rfl rfl 0 (by decide) (hts (.fieldLink RX0 7 "PolygonFrame$Ring" "xs" "[I") (by decide +kernel)) (fun _ h9 => h9) rfl dX0_crossingUpwards_7 ?_
  refine lv_iload_n hx hb dX0_crossingUpwards_10 rfl (lv_at hl 2 rfl) ?_
  refine q_iald (k := k) hx hb hK.1 hP 1 0 rfl rfl (by omega) (by omega) dX0_crossingUpwards_11 ?_
  refine lv_aload_n hx hb dX0_crossingUpwards_12 rfl (lv_at hl 1 rfl) ?_
  refine va_get (D := D) (ci := 0) (v := .ref ax) (C := RX0) (T := TX0) (N := 3) hx hb hts nX0_crossingUpwards_X0 hown hK.1 hP 0 rfl rfl 0 (by decide) (hts (.fieldLink RX0 7 "PolygonFrame$Ring" "xs" "[I") (by decide +kernel)) (fun _ h9 => h9) rfl dX0_crossingUpwards_13 ?_
  refine lv_iload_n hx hb dX0_crossingUpwards_16 rfl (lv_at hl 2 rfl) ?_
  refine q_iald (k := k) hx hb hK.1 hP 1 0 rfl rfl (by omega) (by omega) dX0_crossingUpwards_17 ?_
  refine lv_aload_n hx hb dX0_crossingUpwards_18 rfl (lv_at hl 1 rfl) ?_
  refine va_get (D := D) (ci := 0) (v := .ref ax) (C := RX0) (T := TX0) (N := 3) hx hb hts nX0_crossingUpwards_X0 hown hK.1 hP 0 rfl rfl 0 (by decide) (hts (.fieldLink RX0 7 "PolygonFrame$Ring" "xs" "[I") (by decide +kernel)) (fun _ h9 => h9) rfl dX0_crossingUpwards_19 ?_
  refine lv_iload_n hx hb dX0_crossingUpwards_22 rfl (lv_at hl 0 rfl) ?_
  refine q_iald (k := (nxN n k)) hx hb hK.1 hP 1 0 rfl rfl (Nat.lt_of_lt_of_le (nxN_lt hk) hn) (by omega) dX0_crossingUpwards_23 ?_
  refine lv_isub hx hb dX0_crossingUpwards_24 ?_
  refine lv_iload_n hx hb dX0_crossingUpwards_25 rfl (lv_at hl 3 rfl) ?_
  refine lv_aload_n hx hb dX0_crossingUpwards_26 rfl (lv_at hl 1 rfl) ?_
  refine va_get (D := D) (ci := 0) (v := .ref ay) (C := RX0) (T := TX0) (N := 3) hx hb hts nX0_crossingUpwards_X0 hown hK.1 hP 0 rfl rfl 1 (by decide) (hts (.fieldLink RX0 13 "PolygonFrame$Ring" "ys" "[I") (by decide +kernel)) (fun _ h9 => h9) rfl dX0_crossingUpwards_27 ?_
  refine lv_iload_n hx hb dX0_crossingUpwards_30 rfl (lv_at hl 2 rfl) ?_
  refine q_iald (k := k) hx hb hK.1 hP 2 0 rfl rfl (by omega) (by omega) dX0_crossingUpwards_31 ?_
  refine lv_isub hx hb dX0_crossingUpwards_32 ?_
  refine lv_imul hx hb dX0_crossingUpwards_33 ?_
  refine lv_aload_n hx hb dX0_crossingUpwards_34 rfl (lv_at hl 1 rfl) ?_
  refine va_get (D := D) (ci := 0) (v := .ref ay) (C := RX0) (T := TX0) (N := 3) hx hb hts nX0_crossingUpwards_X0 hown hK.1 hP 0 rfl rfl 1 (by decide) (hts (.fieldLink RX0 13 "PolygonFrame$Ring" "ys" "[I") (by decide +kernel)) (fun _ h9 => h9) rfl dX0_crossingUpwards_35 ?_
  refine lv_iload_n hx hb dX0_crossingUpwards_38 rfl (lv_at hl 0 rfl) ?_
  refine q_iald (k := (nxN n k)) hx hb hK.1 hP 2 0 rfl rfl (Nat.lt_of_lt_of_le (nxN_lt hk) hn) (by omega) dX0_crossingUpwards_39 ?_
  refine lv_aload_n hx hb dX0_crossingUpwards_40 rfl (lv_at hl 1 rfl) ?_
  refine va_get (D := D) (ci := 0) (v := .ref ay) (C := RX0) (T := TX0) (N := 3) hx hb hts nX0_crossingUpwards_X0 hown hK.1 hP 0 rfl rfl 1 (by decide) (hts (.fieldLink RX0 13 "PolygonFrame$Ring" "ys" "[I") (by decide +kernel)) (fun _ h9 => h9) rfl dX0_crossingUpwards_41 ?_
  refine lv_iload_n hx hb dX0_crossingUpwards_44 rfl (lv_at hl 2 rfl) ?_
  refine q_iald (k := k) hx hb hK.1 hP 2 0 rfl rfl (by omega) (by omega) dX0_crossingUpwards_45 ?_
  refine lv_isub hx hb dX0_crossingUpwards_46 ?_
  refine rd_i (va_runS (As := [.int (((xs k) - (xs (nxN n k))) * (y - (ys k))), .int ((ys (nxN n k)) - (ys k))]) ⟨hx, hb, hml, hown, hts⟩ (kJ9_floorDiv_7cf53 l D cI cZ (((xs k) - (xs (nxN n k))) * (y - (ys k))) ((ys (nxN n k)) - (ys k)) h0) (va_cwS 2 hts gX0_crossingUpwards_J9_floorDiv_7cf53 rfl rfl rfl (by decide +kernel) ⟨Nat.le_of_ble_eq_true rfl, Nat.le_of_ble_eq_true rfl⟩) rd_pre0 rfl rfl hl.1 rfl (lv_room (Nat.le_of_ble_eq_true rfl)) dX0_crossingUpwards_47 ⟨Nat.zero_le _, Nat.zero_le _⟩) ?_
  refine lv_isub hx hb dX0_crossingUpwards_50 ?_
  exact W.iret (v := ((xs k) - (fl_i (((xs k) - (xs (nxN n k))) * (y - (ys k))) ((ys (nxN n k)) - (ys k))))) hx hb hr (fun t ht _ => ⟨rfl, ht⟩) (fun _ h => absurd h List.not_mem_nil) dX0_crossingUpwards_51
theorem nX0_axis_X0 : ∀ w ∈ wsX00, w ∈ wsX0_axis := fun w h => List.mem_cons_of_mem _ (List.mem_append_right _ h)
set_option maxHeartbeats 4000000 in
set_option maxRecDepth 100000 in
theorem kX0_axis (l : Launch) (D : va_G) (cI cZ : ClassId) (r0 ax ay n cap : Nat) (xs ys : Nat → Int32) (b : Bool)  : Met l yX0_axis wsX0_axis ({ frames := 0, cells := 0, slots := 0, locals := 0 }) (va_Pc [.ref r0, .int (bI b)] (rdP D cI cZ [(r0, .inr (0, [.ref ax, .ref ay, .int (nI n)])), (ax, .inl (cI, cap, .inl xs)), (ay, .inl (cI, cap, .inl ys))])) (rdR (if b then ax else ay)) 0 0 (fun _ => False) := by
  refine Met.ofW (cc := cX0_axis) (maxL := 2) (ret := (some (.array .int))) (by decide) rfl ?_
  intro p e s m args below meth c s₁ B hml hv
  obtain ⟨rfl, hP, hK⟩ := hv
  have hx := B.exec
  have hb := B.bytes
  have hr := B.returns
  have hts := atoms_spec (ws := wsX0_axis) B.pre
  have hown : s.vm.findClass RX0 = some m.cls := findClass_of_methodNamed B.named
  have hlocks := B.notSynchronized
  have hP : va_P D vwCl [(r0, .inr (0, [.ref ax, .ref ay, .int (nI n)])), (ax, .inl (cI, cap, .inl xs)), (ay, .inl (cI, cap, .inl ys))] s.heap := hP
  have hl := lv_entry ([.ref r0, .int (bI b)]) (n := 2) (Nat.le_of_ble_eq_true rfl)
  rw [lg_entry_eq]
  generalize (lg_sl ([.ref r0, .int (bI b)]) ++ List.replicate (2 - (lg_sl ([.ref r0, .int (bI b)])).length) Slot.unset).toArray = ls at hl ⊢
  have hl : lv_has ls 2 [(0, .ref r0), (1, .int (bI b))] := hl
  refine lv_iload_n hx hb dX0_axis_0 rfl (lv_at hl 1 rfl) ?_
  refine lv_if_eq (tgt := 11) hx hb dX0_axis_1 (by decide) (fun c1 => ?_) (fun c1 => ?_)
  · skip
    refine lv_aload_n hx hb dX0_axis_11 rfl (lv_at hl 0 rfl) ?_
    refine va_get (D := D) (ci := 0) (v := .ref ay) (C := RX0) (T := TX0) (N := 3) hx hb hts nX0_axis_X0 hown hK.1 hP 0 rfl rfl 1 (by decide) (hts (.fieldLink RX0 13 "PolygonFrame$Ring" "ys" "[I") (by decide +kernel)) (fun _ h9 => h9) rfl dX0_axis_12 ?_
    exact W.aret (v := .ref ay) hx hb hr (Or.inr ⟨_, rfl⟩) (Or.inr ⟨_, rfl⟩) (fun t ht _ => ⟨by rw [bI_eq0.mp c1]; rfl, ht⟩) (fun _ h => absurd h List.not_mem_nil) dX0_axis_15
  · skip
    refine lv_aload_n hx hb dX0_axis_4 rfl (lv_at hl 0 rfl) ?_
    refine va_get (D := D) (ci := 0) (v := .ref ax) (C := RX0) (T := TX0) (N := 3) hx hb hts nX0_axis_X0 hown hK.1 hP 0 rfl rfl 0 (by decide) (hts (.fieldLink RX0 7 "PolygonFrame$Ring" "xs" "[I") (by decide +kernel)) (fun _ h9 => h9) rfl dX0_axis_5 ?_
    refine lv_goto (tgt := 15) hx hb dX0_axis_8 (by decide) ?_
    exact W.aret (v := .ref ax) hx hb hr (Or.inr ⟨_, rfl⟩) (Or.inr ⟨_, rfl⟩) (fun t ht _ => ⟨by rw [bI_ne c1]; rfl, ht⟩) (fun _ h => absurd h List.not_mem_nil) dX0_axis_15
theorem nX1_isGood_X1 : ∀ w ∈ wsX10, w ∈ wsX1_isGood := fun w h => List.mem_cons_of_mem _ (List.mem_append_right _ h)
set_option maxHeartbeats 4000000 in
set_option maxRecDepth 100000 in
theorem kX1_isGood (l : Launch) (D : va_G) (cI cZ : ClassId) (p0 aC aT aS rP rO rE : Nat) (wd hg : Int32) (sd : Nat → Int32) (v : Int32) (k : Nat) (hk : k < 4) : Met l yX1_isGood wsX1_isGood ({ frames := 0, cells := 0, slots := 0, locals := 0 }) (va_Pc [.ref p0, .int v, .int (nI k)] (rdP D cI cZ [(p0, .inr (1, [.int wd, .int hg, .ref aC, .ref aT, .ref aS, .ref rP, .ref rO, .ref rE])), (aS, .inl (cI, 4, .inl sd))])) (QcRead (bI (gdB k v (sd k)))) 0 0 (fun _ => False) := by
  refine Met.ofW (cc := cX1_isGood) (maxL := 3) (ret := (some .boolean)) (by decide) rfl ?_
  intro p e s m args below meth c s₁ B hml hv
  obtain ⟨rfl, hP, hK⟩ := hv
  have hx := B.exec
  have hb := B.bytes
  have hr := B.returns
  have hts := atoms_spec (ws := wsX1_isGood) B.pre
  have hown : s.vm.findClass RX1 = some m.cls := findClass_of_methodNamed B.named
  have hlocks := B.notSynchronized
  have hP : va_P D vwCl [(p0, .inr (1, [.int wd, .int hg, .ref aC, .ref aT, .ref aS, .ref rP, .ref rO, .ref rE])), (aS, .inl (cI, 4, .inl sd))] s.heap := hP
  have hl := lv_entry ([.ref p0, .int v, .int (nI k)]) (n := 3) (Nat.le_of_ble_eq_true rfl)
  rw [lg_entry_eq]
  generalize (lg_sl ([.ref p0, .int v, .int (nI k)]) ++ List.replicate (3 - (lg_sl ([.ref p0, .int v, .int (nI k)])).length) Slot.unset).toArray = ls at hl ⊢
  have hl : lv_has ls 3 [(0, .ref p0), (1, .int v), (2, .int (nI k))] := hl
  refine lv_iload_n hx hb dX1_isGood_0 rfl (lv_at hl 2 rfl) ?_
  refine lv_iconst (v := 2) hx hb dX1_isGood_1 (by decide) ?_
  refine lv_irem hx hb dX1_isGood_2 (by decide) ?_
  refine q_eq (pk_rem (a := k) (d := 2) (by omega) (by decide) (by decide)) ?_
  refine lv_if_ne (tgt := 24) hx hb dX1_isGood_3 (by decide) (fun c3 => ?_) (fun c3 => ?_)
  · skip
    refine lv_iload_n hx hb dX1_isGood_24 rfl (lv_at hl 1 rfl) ?_
    refine lv_aload_n hx hb dX1_isGood_25 rfl (lv_at hl 0 rfl) ?_
    refine va_get (D := D) (ci := 1) (v := .ref aS) (C := RX1) (T := TX1) (N := 8) hx hb hts nX1_isGood_X1 hown hK.1 hP 0 rfl rfl 4 (by decide) (hts (.fieldLink RX1 28 "PolygonFrame" "sides" "[I") (by decide +kernel)) (fun _ h9 => h9) rfl dX1_isGood_26 ?_
    refine lv_iload_n hx hb dX1_isGood_29 rfl (lv_at hl 2 rfl) ?_
    refine q_iald (k := k) hx hb hK.1 hP 1 0 rfl rfl (by omega) (by omega) dX1_isGood_30 ?_
    refine lv_icmp_gt (tgt := 38) hx hb dX1_isGood_31 (by decide) (fun c31 => ?_) (fun c31 => ?_)
    · skip
      refine lv_iconst (v := 0) hx hb dX1_isGood_38 (by decide) ?_
      exact W.zret (v := 0) hx hb hr rfl (fun t ht _ => ⟨oI (by rw [gdB, if_neg (fun h => c3 (by rw [h]; rfl)), decide_eq_false (fun h => h c31)]; rfl), ht⟩) (fun _ h => absurd h List.not_mem_nil) dX1_isGood_39
    · skip
      refine lv_iconst (v := 1) hx hb dX1_isGood_34 (by decide) ?_
      refine lv_goto (tgt := 39) hx hb dX1_isGood_35 (by decide) ?_
      exact W.zret (v := 1) hx hb hr rfl (fun t ht _ => ⟨oI (by rw [gdB, if_neg (fun h => c3 (by rw [h]; rfl)), decide_eq_true c31]; rfl), ht⟩) (fun _ h => absurd h List.not_mem_nil) dX1_isGood_39
  · skip
    refine lv_iload_n hx hb dX1_isGood_6 rfl (lv_at hl 1 rfl) ?_
    refine lv_aload_n hx hb dX1_isGood_7 rfl (lv_at hl 0 rfl) ?_
    refine va_get (D := D) (ci := 1) (v := .ref aS) (C := RX1) (T := TX1) (N := 8) hx hb hts nX1_isGood_X1 hown hK.1 hP 0 rfl rfl 4 (by decide) (hts (.fieldLink RX1 28 "PolygonFrame" "sides" "[I") (by decide +kernel)) (fun _ h9 => h9) rfl dX1_isGood_8 ?_
    refine lv_iload_n hx hb dX1_isGood_11 rfl (lv_at hl 2 rfl) ?_
    refine q_iald (k := k) hx hb hK.1 hP 1 0 rfl rfl (by omega) (by omega) dX1_isGood_12 ?_
    refine lv_icmp_lt (tgt := 20) hx hb dX1_isGood_13 (by decide) (fun c13 => ?_) (fun c13 => ?_)
    · skip
      refine lv_iconst (v := 0) hx hb dX1_isGood_20 (by decide) ?_
      refine lv_goto (tgt := 39) hx hb dX1_isGood_21 (by decide) ?_
      exact W.zret (v := 0) hx hb hr rfl (fun t ht _ => ⟨oI (by rw [gdB, if_pos ((nI_eq (a := k % 2) (b := 0) (by omega) (by decide)).mp c3), decide_eq_false (fun h => h c13)]; rfl), ht⟩) (fun _ h => absurd h List.not_mem_nil) dX1_isGood_39
    · skip
      refine lv_iconst (v := 1) hx hb dX1_isGood_16 (by decide) ?_
      refine lv_goto (tgt := 39) hx hb dX1_isGood_17 (by decide) ?_
      exact W.zret (v := 1) hx hb hr rfl (fun t ht _ => ⟨oI (by rw [gdB, if_pos ((nI_eq (a := k % 2) (b := 0) (by omega) (by decide)).mp c3), decide_eq_true c13]; rfl), ht⟩) (fun _ h => absurd h List.not_mem_nil) dX1_isGood_39
