section
-- ===== PART A: goes FIRST, ahead of the names: the tables' words, and 'selects' of the private methods out of them =====
/-- a private method of a class that the tables say can be made, by its rows of tables_1 -/
def lw_okq (q : MethodName × Nat) : Prop := (q.1.cls ≠ "java/lang/invoke/MethodHandle" ∧ q.1.cls ≠ "java/lang/invoke/VarHandle") ∧ Cond.instantiable q.1.cls q.2 ∈ tables_1 ∧ Cond.privateMethod q.1 ∈ tables_1 ∧ Cond.instanceMethod q.1 ∈ tables_1
theorem lw_p0 : lw_okq (⟨"PolygonFrame$Ring", "append", "(II)Z"⟩, 3) := ⟨⟨by decide +kernel, by decide +kernel⟩, List.mem_of_getElem? (i := 24) (by decide +kernel), List.mem_of_getElem? (i := 88) (by decide +kernel), List.mem_of_getElem? (i := 89) (by decide +kernel)⟩
theorem lw_p1 : lw_okq (⟨"PolygonFrame", "pass", "(LPolygonFrame$Ring;LPolygonFrame$Ring;I)Z"⟩, 8) := ⟨⟨by decide +kernel, by decide +kernel⟩, List.mem_of_getElem? (i := 7) (by decide +kernel), List.mem_of_getElem? (i := 103) (by decide +kernel), List.mem_of_getElem? (i := 104) (by decide +kernel)⟩
theorem lw_p2 : lw_okq (⟨"PolygonFrame$Ring", "axis", "(Z)[I"⟩, 3) := ⟨⟨by decide +kernel, by decide +kernel⟩, List.mem_of_getElem? (i := 24) (by decide +kernel), List.mem_of_getElem? (i := 107) (by decide +kernel), List.mem_of_getElem? (i := 108) (by decide +kernel)⟩
theorem lw_p3 : lw_okq (⟨"PolygonFrame", "isGood", "(II)Z"⟩, 8) := ⟨⟨by decide +kernel, by decide +kernel⟩, List.mem_of_getElem? (i := 7) (by decide +kernel), List.mem_of_getElem? (i := 111) (by decide +kernel), List.mem_of_getElem? (i := 112) (by decide +kernel)⟩
theorem lw_p4 : lw_okq (⟨"PolygonFrame$Ring", "has", "(I)Z"⟩, 3) := ⟨⟨by decide +kernel, by decide +kernel⟩, List.mem_of_getElem? (i := 24) (by decide +kernel), List.mem_of_getElem? (i := 125) (by decide +kernel), List.mem_of_getElem? (i := 126) (by decide +kernel)⟩
theorem lw_p5 : lw_okq (⟨"PolygonFrame", "markTurns", "(I)V"⟩, 8) := ⟨⟨by decide +kernel, by decide +kernel⟩, List.mem_of_getElem? (i := 7) (by decide +kernel), List.mem_of_getElem? (i := 137) (by decide +kernel), List.mem_of_getElem? (i := 138) (by decide +kernel)⟩
theorem lw_p6 : lw_okq (⟨"PolygonFrame$Ring", "edgeMeets", "(II)Z"⟩, 3) := ⟨⟨by decide +kernel, by decide +kernel⟩, List.mem_of_getElem? (i := 24) (by decide +kernel), List.mem_of_getElem? (i := 141) (by decide +kernel), List.mem_of_getElem? (i := 142) (by decide +kernel)⟩
theorem lw_p7 : lw_okq (⟨"PolygonFrame$Ring", "nextOf", "(I)I"⟩, 3) := ⟨⟨by decide +kernel, by decide +kernel⟩, List.mem_of_getElem? (i := 24) (by decide +kernel), List.mem_of_getElem? (i := 145) (by decide +kernel), List.mem_of_getElem? (i := 146) (by decide +kernel)⟩
theorem lw_p8 : lw_okq (⟨"PolygonFrame$Ring", "crossingUpwards", "(II)I"⟩, 3) := ⟨⟨by decide +kernel, by decide +kernel⟩, List.mem_of_getElem? (i := 24) (by decide +kernel), List.mem_of_getElem? (i := 149) (by decide +kernel), List.mem_of_getElem? (i := 150) (by decide +kernel)⟩
theorem lw_p9 : lw_okq (⟨"PolygonFrame", "fillLine", "(II)I"⟩, 8) := ⟨⟨by decide +kernel, by decide +kernel⟩, List.mem_of_getElem? (i := 7) (by decide +kernel), List.mem_of_getElem? (i := 154) (by decide +kernel), List.mem_of_getElem? (i := 155) (by decide +kernel)⟩
theorem lw_p10 : lw_okq (⟨"PolygonFrameModel", "pass", "(I)V"⟩, 17) := ⟨⟨by decide +kernel, by decide +kernel⟩, List.mem_of_getElem? (i := 173) (by decide +kernel), List.mem_of_getElem? (i := 257) (by decide +kernel), List.mem_of_getElem? (i := 258) (by decide +kernel)⟩
theorem lw_p11 : lw_okq (⟨"PolygonFrameModel", "depth", "(III)I"⟩, 17) := ⟨⟨by decide +kernel, by decide +kernel⟩, List.mem_of_getElem? (i := 173) (by decide +kernel), List.mem_of_getElem? (i := 261) (by decide +kernel), List.mem_of_getElem? (i := 262) (by decide +kernel)⟩
theorem lw_p12 : lw_okq (⟨"PolygonFrameModel", "cut", "(IIIII)V"⟩, 17) := ⟨⟨by decide +kernel, by decide +kernel⟩, List.mem_of_getElem? (i := 173) (by decide +kernel), List.mem_of_getElem? (i := 265) (by decide +kernel), List.mem_of_getElem? (i := 266) (by decide +kernel)⟩
theorem lw_p13 : lw_okq (⟨"PolygonFrameModel", "add", "(II)V"⟩, 17) := ⟨⟨by decide +kernel, by decide +kernel⟩, List.mem_of_getElem? (i := 173) (by decide +kernel), List.mem_of_getElem? (i := 272) (by decide +kernel), List.mem_of_getElem? (i := 273) (by decide +kernel)⟩
theorem lw_p14 : lw_okq (⟨"PolygonFrameModel", "isVertex", "(I)Z"⟩, 17) := ⟨⟨by decide +kernel, by decide +kernel⟩, List.mem_of_getElem? (i := 173) (by decide +kernel), List.mem_of_getElem? (i := 280) (by decide +kernel), List.mem_of_getElem? (i := 281) (by decide +kernel)⟩
def lw_privs_1 : List (MethodName × Nat) := [(⟨"PolygonFrame$Ring", "append", "(II)Z"⟩, 3), (⟨"PolygonFrame", "pass", "(LPolygonFrame$Ring;LPolygonFrame$Ring;I)Z"⟩, 8), (⟨"PolygonFrame$Ring", "axis", "(Z)[I"⟩, 3), (⟨"PolygonFrame", "isGood", "(II)Z"⟩, 8), (⟨"PolygonFrame$Ring", "has", "(I)Z"⟩, 3), (⟨"PolygonFrame", "markTurns", "(I)V"⟩, 8), (⟨"PolygonFrame$Ring", "edgeMeets", "(II)Z"⟩, 3), (⟨"PolygonFrame$Ring", "nextOf", "(I)I"⟩, 3), (⟨"PolygonFrame$Ring", "crossingUpwards", "(II)I"⟩, 3), (⟨"PolygonFrame", "fillLine", "(II)I"⟩, 8), (⟨"PolygonFrameModel", "pass", "(I)V"⟩, 17), (⟨"PolygonFrameModel", "depth", "(III)I"⟩, 17), (⟨"PolygonFrameModel", "cut", "(IIIII)V"⟩, 17), (⟨"PolygonFrameModel", "add", "(II)V"⟩, 17), (⟨"PolygonFrameModel", "isVertex", "(I)Z"⟩, 17)]
theorem lw_r1 : ∀ q ∈ lw_privs_1, lw_okq q := List.forall_mem_cons.mpr ⟨lw_p0, List.forall_mem_cons.mpr ⟨lw_p1, List.forall_mem_cons.mpr ⟨lw_p2, List.forall_mem_cons.mpr ⟨lw_p3, List.forall_mem_cons.mpr ⟨lw_p4, List.forall_mem_cons.mpr ⟨lw_p5, List.forall_mem_cons.mpr ⟨lw_p6, List.forall_mem_cons.mpr ⟨lw_p7, List.forall_mem_cons.mpr ⟨lw_p8, List.forall_mem_cons.mpr ⟨lw_p9, List.forall_mem_cons.mpr ⟨lw_p10, List.forall_mem_cons.mpr ⟨lw_p11, List.forall_mem_cons.mpr ⟨lw_p12, List.forall_mem_cons.mpr ⟨lw_p13, List.forall_mem_cons.mpr ⟨lw_p14, fun _ h => absurd h List.not_mem_nil⟩⟩⟩⟩⟩⟩⟩⟩⟩⟩⟩⟩⟩⟩⟩
def lw_privs : List (MethodName × Nat) := lw_privs_1
def lw_tbl : List Cond := k2_sels lw_privs ++ tables_1
theorem lw_privs_ok : ∀ q ∈ lw_privs, lw_okq q := lw_r1
/-! ===== BEGIN words of one list among another's, by their places ===== -/
theorem goodIn_r {big : List Cond} (ws : List Cond) (ps : List Nat) (hp : ws = ps.filterMap (fun i => big[i]?)) (h : ws.all goodWord = true) : GoodIn big ws := by
  intro w hw
  have h1 := List.all_eq_true.mp h w hw
  rw [hp] at hw
  obtain ⟨i, -, hi⟩ := List.mem_filterMap.mp hw
  have hm : w ∈ big := by first | exact List.mem_of_getElem? hi | exact List.getElem?_mem hi
  exact ⟨hm, good_of_word h1⟩
theorem goodIn_app {big a b : List Cond} (ha : GoodIn big a) (hb : GoodIn big b) : GoodIn big (a ++ b) := fun w h => (List.mem_append.mp h).elim (ha w) (hb w)
theorem goodIn_ca {big a b : List Cond} {c : Cond} (ha : GoodIn big (c :: a)) (hb : GoodIn big b) : GoodIn big (c :: (a ++ b)) := fun w h => (List.mem_cons.mp h).elim (fun e => ha w (List.mem_cons.mpr (Or.inl e))) (fun h => (List.mem_append.mp h).elim (fun h => ha w (List.mem_cons.mpr (Or.inr h))) (hb w))
theorem goodIn_sub {big ws : List Cond} (hm : ∀ w ∈ ws, w ∈ big) (h : ws.all goodWord = true) : GoodIn big ws := fun w hw => ⟨hm w hw, good_of_word (List.all_eq_true.mp h w hw)⟩
/-! ===== END ===== -/

/-! ===== BEGIN printed: names, fields, word lists, decode rows ===== -/
def RX0 : String := "PolygonFrame$Ring"
def TX0 : u_T := fun k => match k with
  | 0 => ("PolygonFrame$Ring", "xs", "[I", true)
  | 1 => ("PolygonFrame$Ring", "ys", "[I", true)
  | _ => ("PolygonFrame$Ring", "count", "I", false)
def tyX0 : Nat → FieldType := fun k => match k with
  | 0 => .array .int
  | 1 => .array .int
  | _ => .int
abbrev wsX00 : List Cond := u_ws RX0 TX0 3
theorem nmX0 : ∀ a, a < 3 → ∀ b, b < 3 → a ≠ b → (TX0 a).2.1 ≠ (TX0 b).2.1 := by decide +kernel
theorem tyX0_ok : ∀ k, k < 3 → parseFieldDescriptor (TX0 k).2.2.1 = some (tyX0 k) := by decide +kernel
abbrev cX0_init : ByteArray := prog_2_method_1_code
def yX0_init : MethodName := ⟨RX0, "<init>", "(I)V"⟩
abbrev cX0_has : ByteArray := prog_2_method_2_code
def yX0_has : MethodName := ⟨RX0, "has", "(I)Z"⟩
abbrev cX0_append : ByteArray := prog_2_method_3_code
def yX0_append : MethodName := ⟨RX0, "append", "(II)Z"⟩
abbrev cX0_axis : ByteArray := prog_2_method_4_code
def yX0_axis : MethodName := ⟨RX0, "axis", "(Z)[I"⟩
abbrev cX0_nextOf : ByteArray := prog_2_method_5_code
def yX0_nextOf : MethodName := ⟨RX0, "nextOf", "(I)I"⟩
abbrev cX0_edgeMeets : ByteArray := prog_2_method_6_code
def yX0_edgeMeets : MethodName := ⟨RX0, "edgeMeets", "(II)Z"⟩
abbrev cX0_crossingUpwards : ByteArray := prog_2_method_7_code
def yX0_crossingUpwards : MethodName := ⟨RX0, "crossingUpwards", "(II)I"⟩
def RX1 : String := "PolygonFrame"
def TX1 : u_T := fun k => match k with
  | 0 => ("PolygonFrame", "width", "I", true)
  | 1 => ("PolygonFrame", "height", "I", true)
  | 2 => ("PolygonFrame", "colours", "[I", true)
  | 3 => ("PolygonFrame", "turns", "[Z", true)
  | 4 => ("PolygonFrame", "sides", "[I", true)
  | 5 => ("PolygonFrame", "polygon", "LPolygonFrame$Ring;", false)
  | 6 => ("PolygonFrame", "oddPasses", "LPolygonFrame$Ring;", true)
  | _ => ("PolygonFrame", "evenPasses", "LPolygonFrame$Ring;", false)
def tyX1 : Nat → FieldType := fun k => match k with
  | 0 => .int
  | 1 => .int
  | 2 => .array .int
  | 3 => .array .boolean
  | 4 => .array .int
  | 5 => .object "PolygonFrame$Ring"
  | 6 => .object "PolygonFrame$Ring"
  | _ => .object "PolygonFrame$Ring"
abbrev wsX10 : List Cond := u_ws RX1 TX1 8
theorem nmX1 : ∀ a, a < 8 → ∀ b, b < 8 → a ≠ b → (TX1 a).2.1 ≠ (TX1 b).2.1 := by decide +kernel
theorem tyX1_ok : ∀ k, k < 8 → parseFieldDescriptor (TX1 k).2.2.1 = some (tyX1 k) := by decide +kernel
abbrev cX1_init : ByteArray := prog_1_method_1_code
def yX1_init : MethodName := ⟨RX1, "<init>", "(III)V"⟩
abbrev cX1_clear : ByteArray := prog_1_method_2_code
def yX1_clear : MethodName := ⟨RX1, "clear", "(I)V"⟩
abbrev cX1_begin : ByteArray := prog_1_method_3_code
def yX1_begin : MethodName := ⟨RX1, "begin", "()V"⟩
abbrev cX1_vertex : ByteArray := prog_1_method_4_code
def yX1_vertex : MethodName := ⟨RX1, "vertex", "(II)Z"⟩
abbrev cX1_setClip : ByteArray := prog_1_method_5_code
def yX1_setClip : MethodName := ⟨RX1, "setClip", "(IIII)Z"⟩
abbrev cX1_clip : ByteArray := prog_1_method_6_code
def yX1_clip : MethodName := ⟨RX1, "clip", "()I"⟩
abbrev cX1_vx : ByteArray := prog_1_method_7_code
def yX1_vx : MethodName := ⟨RX1, "vx", "(I)I"⟩
abbrev cX1_vy : ByteArray := prog_1_method_8_code
def yX1_vy : MethodName := ⟨RX1, "vy", "(I)I"⟩
abbrev cX1_fill : ByteArray := prog_1_method_9_code
def yX1_fill : MethodName := ⟨RX1, "fill", "(I)I"⟩
abbrev cX1_inside : ByteArray := prog_1_method_10_code
def yX1_inside : MethodName := ⟨RX1, "inside", "(II)Z"⟩
abbrev cX1_pixel : ByteArray := prog_1_method_11_code
def yX1_pixel : MethodName := ⟨RX1, "pixel", "(II)I"⟩
abbrev cX1_vertices : ByteArray := prog_1_method_12_code
def yX1_vertices : MethodName := ⟨RX1, "vertices", "()I"⟩
abbrev cX1_nearest : ByteArray := prog_1_method_13_code
def yX1_nearest : MethodName := ⟨RX1, "nearest", "(III)I"⟩
abbrev cX1_isCoordinate : ByteArray := prog_1_method_14_code
def yX1_isCoordinate : MethodName := ⟨RX1, "isCoordinate", "(I)Z"⟩
abbrev cX1_isRange : ByteArray := prog_1_method_15_code
def yX1_isRange : MethodName := ⟨RX1, "isRange", "(II)Z"⟩
abbrev cX1_pass : ByteArray := prog_1_method_16_code
def yX1_pass : MethodName := ⟨RX1, "pass", "(LPolygonFrame$Ring;LPolygonFrame$Ring;I)Z"⟩
abbrev cX1_isGood : ByteArray := prog_1_method_17_code
def yX1_isGood : MethodName := ⟨RX1, "isGood", "(II)Z"⟩
abbrev cX1_cutAcross : ByteArray := prog_1_method_18_code
def yX1_cutAcross : MethodName := ⟨RX1, "cutAcross", "(IIIII)I"⟩
abbrev cX1_markTurns : ByteArray := prog_1_method_19_code
def yX1_markTurns : MethodName := ⟨RX1, "markTurns", "(I)V"⟩
abbrev cX1_fillLine : ByteArray := prog_1_method_20_code
def yX1_fillLine : MethodName := ⟨RX1, "fillLine", "(II)I"⟩
def RX2 : String := "PolygonFrameModel"
def TX2 : u_T := fun k => match k with
  | 0 => ("PolygonFrameModel", "wide", "I", true)
  | 1 => ("PolygonFrameModel", "high", "I", true)
  | 2 => ("PolygonFrameModel", "most", "I", true)
  | 3 => ("PolygonFrameModel", "pixels", "[I", true)
  | 4 => ("PolygonFrameModel", "xs", "[I", true)
  | 5 => ("PolygonFrameModel", "ys", "[I", true)
  | 6 => ("PolygonFrameModel", "size", "I", false)
  | 7 => ("PolygonFrameModel", "fromX", "[I", true)
  | 8 => ("PolygonFrameModel", "fromY", "[I", true)
  | 9 => ("PolygonFrameModel", "toX", "[I", true)
  | 10 => ("PolygonFrameModel", "toY", "[I", true)
  | 11 => ("PolygonFrameModel", "from", "I", false)
  | 12 => ("PolygonFrameModel", "to", "I", false)
  | 13 => ("PolygonFrameModel", "left", "I", false)
  | 14 => ("PolygonFrameModel", "right", "I", false)
  | 15 => ("PolygonFrameModel", "low", "I", false)
  | _ => ("PolygonFrameModel", "top", "I", false)
def tyX2 : Nat → FieldType := fun k => match k with
  | 0 => .int
  | 1 => .int
  | 2 => .int
  | 3 => .array .int
  | 4 => .array .int
  | 5 => .array .int
  | 6 => .int
  | 7 => .array .int
  | 8 => .array .int
  | 9 => .array .int
  | 10 => .array .int
  | 11 => .int
  | 12 => .int
  | 13 => .int
  | 14 => .int
  | 15 => .int
  | _ => .int
abbrev wsX20 : List Cond := u_ws RX2 TX2 17
theorem nmX2 : ∀ a, a < 17 → ∀ b, b < 17 → a ≠ b → (TX2 a).2.1 ≠ (TX2 b).2.1 := by decide +kernel
theorem tyX2_ok : ∀ k, k < 17 → parseFieldDescriptor (TX2 k).2.2.1 = some (tyX2 k) := by decide +kernel
abbrev cX2_init : ByteArray := prog_4_method_1_code
def yX2_init : MethodName := ⟨RX2, "<init>", "(III)V"⟩
abbrev cX2_between : ByteArray := prog_4_method_2_code
def yX2_between : MethodName := ⟨RX2, "between", "(III)I"⟩
abbrev cX2_clear : ByteArray := prog_4_method_3_code
def yX2_clear : MethodName := ⟨RX2, "clear", "(I)V"⟩
abbrev cX2_begin : ByteArray := prog_4_method_4_code
def yX2_begin : MethodName := ⟨RX2, "begin", "()V"⟩
abbrev cX2_isNear : ByteArray := prog_4_method_5_code
def yX2_isNear : MethodName := ⟨RX2, "isNear", "(I)Z"⟩
abbrev cX2_vertex : ByteArray := prog_4_method_6_code
def yX2_vertex : MethodName := ⟨RX2, "vertex", "(II)Z"⟩
abbrev cX2_setClip : ByteArray := prog_4_method_7_code
def yX2_setClip : MethodName := ⟨RX2, "setClip", "(IIII)Z"⟩
abbrev cX2_depth : ByteArray := prog_4_method_8_code
def yX2_depth : MethodName := ⟨RX2, "depth", "(III)I"⟩
abbrev cX2_quotient : ByteArray := prog_4_method_9_code
def yX2_quotient : MethodName := ⟨RX2, "quotient", "(II)I"⟩
abbrev cX2_add : ByteArray := prog_4_method_10_code
def yX2_add : MethodName := ⟨RX2, "add", "(II)V"⟩
abbrev cX2_cut : ByteArray := prog_4_method_11_code
def yX2_cut : MethodName := ⟨RX2, "cut", "(IIIII)V"⟩
abbrev cX2_pass : ByteArray := prog_4_method_12_code
def yX2_pass : MethodName := ⟨RX2, "pass", "(I)V"⟩
abbrev cX2_clip : ByteArray := prog_4_method_13_code
def yX2_clip : MethodName := ⟨RX2, "clip", "()I"⟩
abbrev cX2_isVertex : ByteArray := prog_4_method_14_code
def yX2_isVertex : MethodName := ⟨RX2, "isVertex", "(I)Z"⟩
abbrev cX2_vx : ByteArray := prog_4_method_15_code
def yX2_vx : MethodName := ⟨RX2, "vx", "(I)I"⟩
abbrev cX2_vy : ByteArray := prog_4_method_16_code
def yX2_vy : MethodName := ⟨RX2, "vy", "(I)I"⟩
abbrev cX2_crosses : ByteArray := prog_4_method_17_code
def yX2_crosses : MethodName := ⟨RX2, "crosses", "(JJJJJJ)Z"⟩
abbrev cX2_inside : ByteArray := prog_4_method_18_code
def yX2_inside : MethodName := ⟨RX2, "inside", "(II)Z"⟩
abbrev cX2_fill : ByteArray := prog_4_method_19_code
def yX2_fill : MethodName := ⟨RX2, "fill", "(I)I"⟩
abbrev cX2_pixel : ByteArray := prog_4_method_20_code
def yX2_pixel : MethodName := ⟨RX2, "pixel", "(II)I"⟩
abbrev cX2_vertices : ByteArray := prog_4_method_21_code
def yX2_vertices : MethodName := ⟨RX2, "vertices", "()I"⟩
def RJ9 : String := "java/lang/Math"
def TJ9 : u_T := fun k => match k with
  | _ => ("", "", "", false)
def tyJ9 : Nat → FieldType := fun k => match k with
  | _ => .int
abbrev wsJ90 : List Cond := u_ws RJ9 TJ9 0
theorem nmJ9 : ∀ a, a < 0 → ∀ b, b < 0 → a ≠ b → (TJ9 a).2.1 ≠ (TJ9 b).2.1 := by decide +kernel
theorem tyJ9_ok : ∀ k, k < 0 → parseFieldDescriptor (TJ9 k).2.2.1 = some (tyJ9 k) := by decide +kernel
abbrev cJ9_floorDiv_7cf53 : ByteArray := prog_5_method_47_code
def yJ9_floorDiv_7cf53 : MethodName := ⟨RJ9, "floorDiv", "(II)I"⟩
abbrev cJ9_max_7cf53 : ByteArray := prog_5_method_65_code
def yJ9_max_7cf53 : MethodName := ⟨RJ9, "max", "(II)I"⟩
abbrev cJ9_min_7cf53 : ByteArray := prog_5_method_69_code
def yJ9_min_7cf53 : MethodName := ⟨RJ9, "min", "(II)I"⟩
def RJ7 : String := "java/util/Arrays"
def TJ7 : u_T := fun k => match k with
  | _ => ("", "", "", false)
def tyJ7 : Nat → FieldType := fun k => match k with
  | _ => .int
abbrev wsJ70 : List Cond := u_ws RJ7 TJ7 0
theorem nmJ7 : ∀ a, a < 0 → ∀ b, b < 0 → a ≠ b → (TJ7 a).2.1 ≠ (TJ7 b).2.1 := by decide +kernel
theorem tyJ7_ok : ∀ k, k < 0 → parseFieldDescriptor (TJ7 k).2.2.1 = some (tyJ7 k) := by decide +kernel
abbrev cJ7_fill_53178 : ByteArray := prog_6_method_103_code
def yJ7_fill_53178 : MethodName := ⟨RJ7, "fill", "([II)V"⟩
def RL : String := "PolygonFrameLaw"
abbrev cL_cell : ByteArray := method_2_code
def yL_cell : MethodName := ⟨RL, "cell", "([II)I"⟩
abbrev cL_law : ByteArray := code
def yL_law : MethodName := ⟨RL, "law", "([I)Z"⟩
def wsX0_init : List Cond := .code yX0_init cX0_init 2 none :: ([.methodLink RX0 1 objectInit, .instanceMethod objectInit, .code objectInit ⟨#[0xb1]⟩ 1 none, .arrayClass .int, .fieldLink RX0 7 "PolygonFrame$Ring" "xs" "[I", .fieldLink RX0 13 "PolygonFrame$Ring" "ys" "[I", .fieldLink RX0 16 "PolygonFrame$Ring" "count" "I"] ++ wsX00)
def wsX0_has : List Cond := .code yX0_has cX0_has 2 (some .boolean) :: ([.fieldLink RX0 16 "PolygonFrame$Ring" "count" "I"] ++ wsX00)
def wsX0_append : List Cond := .code yX0_append cX0_append 3 (some .boolean) :: ([.fieldLink RX0 16 "PolygonFrame$Ring" "count" "I", .fieldLink RX0 7 "PolygonFrame$Ring" "xs" "[I", .fieldLink RX0 13 "PolygonFrame$Ring" "ys" "[I"] ++ wsX00)
def wsX0_axis : List Cond := .code yX0_axis cX0_axis 2 (some (.array .int)) :: ([.fieldLink RX0 7 "PolygonFrame$Ring" "xs" "[I", .fieldLink RX0 13 "PolygonFrame$Ring" "ys" "[I"] ++ wsX00)
def wsX0_nextOf : List Cond := .code yX0_nextOf cX0_nextOf 2 (some .int) :: ([.fieldLink RX0 16 "PolygonFrame$Ring" "count" "I"] ++ wsX00)
def wsX0_edgeMeets : List Cond := .code yX0_edgeMeets cX0_edgeMeets 3 (some .boolean) :: ([.fieldLink RX0 13 "PolygonFrame$Ring" "ys" "[I", .methodLink RX0 20 yX0_nextOf, .instanceMethod yX0_nextOf, .selects RX0 yX0_nextOf yX0_nextOf, .initialized RX0, .code yX0_nextOf cX0_nextOf 2 (some .int), .fieldLink RX0 16 "PolygonFrame$Ring" "count" "I"] ++ wsX00)
def wsJ9_floorDiv_7cf53 : List Cond := .code yJ9_floorDiv_7cf53 cJ9_floorDiv_7cf53 3 (some .int) :: ([])
def wsX0_crossingUpwards : List Cond := .code yX0_crossingUpwards cX0_crossingUpwards 4 (some .int) :: ([.fieldLink RX0 7 "PolygonFrame$Ring" "xs" "[I", .fieldLink RX0 13 "PolygonFrame$Ring" "ys" "[I", .methodLink RX0 20 yX0_nextOf, .instanceMethod yX0_nextOf, .selects RX0 yX0_nextOf yX0_nextOf, .initialized RX0, .code yX0_nextOf cX0_nextOf 2 (some .int), .fieldLink RX0 16 "PolygonFrame$Ring" "count" "I", .methodLink RX0 24 yJ9_floorDiv_7cf53, .static yJ9_floorDiv_7cf53, .initialized RJ9, .code yJ9_floorDiv_7cf53 cJ9_floorDiv_7cf53 3 (some .int)] ++ wsX00)
def wsX1_nearest : List Cond := .code yX1_nearest cX1_nearest 3 (some .int) :: ([.methodLink RX1 92 Lib.Math.min.name, .static Lib.Math.min.name, .initialized "java/lang/Math", .code Lib.Math.min.name Lib.Math.min.code 2 (some .int), .methodLink RX1 97 Lib.Math.max.name, .static Lib.Math.max.name, .code Lib.Math.max.name Lib.Math.max.code 2 (some .int)])
def wsX1_init_r1 : List Cond := [Cond.methodLink RX1 1 objectInit, Cond.instanceMethod objectInit, Cond.code objectInit ⟨#[0xb1]⟩ 1 none, Cond.fieldLink RX1 13 "PolygonFrame" "width" "I", Cond.fieldLink RX1 17 "PolygonFrame" "height" "I", Cond.arrayClass .int, Cond.fieldLink RX1 20 "PolygonFrame" "colours" "[I", Cond.arrayClass .boolean, Cond.fieldLink RX1 24 "PolygonFrame" "turns" "[Z", Cond.fieldLink RX1 28 "PolygonFrame" "sides" "[I", Cond.classLink RX1 31 RX0, Cond.instantiable RX0 3, Cond.initialized RX0, Cond.fieldLink RX1 36 "PolygonFrame" "polygon" "LPolygonFrame$Ring;", Cond.fieldLink RX1 40 "PolygonFrame" "oddPasses" "LPolygonFrame$Ring;", Cond.fieldLink RX1 43 "PolygonFrame" "evenPasses" "LPolygonFrame$Ring;", Cond.methodLink RX1 9 yX1_nearest, Cond.static yX1_nearest, Cond.initialized RX1, Cond.code yX1_nearest cX1_nearest 3 (some .int), Cond.methodLink RX1 92 Lib.Math.min.name, Cond.static Lib.Math.min.name, Cond.initialized "java/lang/Math", Cond.code Lib.Math.min.name Lib.Math.min.code 2 (some .int)]
def wsX1_init_r2 : List Cond := [Cond.methodLink RX1 97 Lib.Math.max.name, Cond.static Lib.Math.max.name, Cond.code Lib.Math.max.name Lib.Math.max.code 2 (some .int), Cond.instanceMethod yX0_init, Cond.code yX0_init cX0_init 2 none, Cond.methodLink RX0 1 objectInit, Cond.fieldLink RX0 7 "PolygonFrame$Ring" "xs" "[I", Cond.fieldLink RX0 13 "PolygonFrame$Ring" "ys" "[I", Cond.fieldLink RX0 16 "PolygonFrame$Ring" "count" "I"]
def wsX1_init : List Cond := .code yX1_init cX1_init 5 none :: ((wsX1_init_r1 ++ wsX1_init_r2) ++ wsX10 ++ wsX00)
def wsJ7_fill_53178 : List Cond := .code yJ7_fill_53178 cJ7_fill_53178 4 none :: ([])
def wsX1_clear : List Cond := .code yX1_clear cX1_clear 2 none :: ([.fieldLink RX1 20 "PolygonFrame" "colours" "[I", .methodLink RX1 46 yJ7_fill_53178, .static yJ7_fill_53178, .initialized RJ7, .code yJ7_fill_53178 cJ7_fill_53178 4 none] ++ wsX10)
def wsX1_begin : List Cond := .code yX1_begin cX1_begin 1 none :: ([.fieldLink RX1 36 "PolygonFrame" "polygon" "LPolygonFrame$Ring;"] ++ wsX10 ++ wsX00)
def wsX1_isCoordinate : List Cond := .code yX1_isCoordinate cX1_isCoordinate 1 (some .boolean) :: ([])
def wsX1_vertex : List Cond := .code yX1_vertex cX1_vertex 3 (some .boolean) :: ([.fieldLink RX1 36 "PolygonFrame" "polygon" "LPolygonFrame$Ring;", .methodLink RX1 55 yX1_isCoordinate, .static yX1_isCoordinate, .initialized RX1, .code yX1_isCoordinate cX1_isCoordinate 1 (some .boolean), .instanceMethod yX0_append, .initialized RX0, .selects RX0 yX0_append yX0_append, .code yX0_append cX0_append 3 (some .boolean), .fieldLink RX0 16 "PolygonFrame$Ring" "count" "I", .fieldLink RX0 7 "PolygonFrame$Ring" "xs" "[I", .fieldLink RX0 13 "PolygonFrame$Ring" "ys" "[I"] ++ wsX10 ++ wsX00)
def wsX1_isRange : List Cond := .code yX1_isRange cX1_isRange 2 (some .boolean) :: ([.methodLink RX1 55 yX1_isCoordinate, .static yX1_isCoordinate, .initialized RX1, .code yX1_isCoordinate cX1_isCoordinate 1 (some .boolean)])
def wsX1_setClip : List Cond := .code yX1_setClip cX1_setClip 5 (some .boolean) :: ([.fieldLink RX1 28 "PolygonFrame" "sides" "[I", .methodLink RX1 63 yX1_isRange, .static yX1_isRange, .initialized RX1, .code yX1_isRange cX1_isRange 2 (some .boolean), .methodLink RX1 55 yX1_isCoordinate, .static yX1_isCoordinate, .code yX1_isCoordinate cX1_isCoordinate 1 (some .boolean)] ++ wsX10)
def wsX1_isGood : List Cond := .code yX1_isGood cX1_isGood 3 (some .boolean) :: ([.fieldLink RX1 28 "PolygonFrame" "sides" "[I"] ++ wsX10)
def wsX1_cutAcross : List Cond := .code yX1_cutAcross cX1_cutAcross 5 (some .int) :: ([.methodLink RX1 111 yJ9_floorDiv_7cf53, .static yJ9_floorDiv_7cf53, .initialized RJ9, .code yJ9_floorDiv_7cf53 cJ9_floorDiv_7cf53 3 (some .int)])
def wsX1_pass : List Cond := .code yX1_pass cX1_pass 12 (some .boolean) :: ([.fieldLink RX1 28 "PolygonFrame" "sides" "[I", .instanceMethod yX0_axis, .initialized RX0, .selects RX0 yX0_axis yX0_axis, .code yX0_axis cX0_axis 2 (some (.array .int)), .fieldLink RX0 7 "PolygonFrame$Ring" "xs" "[I", .fieldLink RX0 13 "PolygonFrame$Ring" "ys" "[I", .methodLink RX1 104 yX1_isGood, .instanceMethod yX1_isGood, .selects RX1 yX1_isGood yX1_isGood, .initialized RX1, .code yX1_isGood cX1_isGood 3 (some .boolean), .methodLink RX1 107 yX1_cutAcross, .static yX1_cutAcross, .code yX1_cutAcross cX1_cutAcross 5 (some .int), .methodLink RX1 111 yJ9_floorDiv_7cf53, .static yJ9_floorDiv_7cf53, .initialized RJ9, .code yJ9_floorDiv_7cf53 cJ9_floorDiv_7cf53 3 (some .int), .instanceMethod yX0_append, .selects RX0 yX0_append yX0_append, .code yX0_append cX0_append 3 (some .boolean), .fieldLink RX0 16 "PolygonFrame$Ring" "count" "I"] ++ wsX10 ++ wsX00)
def wsX1_clip_r1 : List Cond := [Cond.fieldLink RX1 36 "PolygonFrame" "polygon" "LPolygonFrame$Ring;", Cond.fieldLink RX1 28 "PolygonFrame" "sides" "[I", Cond.fieldLink RX1 40 "PolygonFrame" "oddPasses" "LPolygonFrame$Ring;", Cond.fieldLink RX1 43 "PolygonFrame" "evenPasses" "LPolygonFrame$Ring;", Cond.methodLink RX1 66 yX1_pass, Cond.instanceMethod yX1_pass, Cond.selects RX1 yX1_pass yX1_pass, Cond.initialized RX1, Cond.code yX1_pass cX1_pass 12 (some .boolean), Cond.instanceMethod yX0_axis, Cond.initialized RX0, Cond.selects RX0 yX0_axis yX0_axis, Cond.code yX0_axis cX0_axis 2 (some (.array .int)), Cond.fieldLink RX0 7 "PolygonFrame$Ring" "xs" "[I", Cond.fieldLink RX0 13 "PolygonFrame$Ring" "ys" "[I", Cond.methodLink RX1 104 yX1_isGood, Cond.instanceMethod yX1_isGood, Cond.selects RX1 yX1_isGood yX1_isGood, Cond.code yX1_isGood cX1_isGood 3 (some .boolean), Cond.methodLink RX1 107 yX1_cutAcross, Cond.static yX1_cutAcross, Cond.code yX1_cutAcross cX1_cutAcross 5 (some .int), Cond.methodLink RX1 111 yJ9_floorDiv_7cf53, Cond.static yJ9_floorDiv_7cf53]
def wsX1_clip_r2 : List Cond := [Cond.initialized RJ9, Cond.code yJ9_floorDiv_7cf53 cJ9_floorDiv_7cf53 3 (some .int), Cond.instanceMethod yX0_append, Cond.selects RX0 yX0_append yX0_append, Cond.code yX0_append cX0_append 3 (some .boolean), Cond.fieldLink RX0 16 "PolygonFrame$Ring" "count" "I"]
def wsX1_clip : List Cond := .code yX1_clip cX1_clip 4 (some .int) :: ((wsX1_clip_r1 ++ wsX1_clip_r2) ++ wsX10 ++ wsX00)
def wsX1_vx : List Cond := .code yX1_vx cX1_vx 2 (some .int) :: ([.fieldLink RX1 36 "PolygonFrame" "polygon" "LPolygonFrame$Ring;", .instanceMethod yX0_has, .initialized RX0, .selects RX0 yX0_has yX0_has, .code yX0_has cX0_has 2 (some .boolean), .fieldLink RX0 16 "PolygonFrame$Ring" "count" "I"] ++ wsX10 ++ wsX00)
def wsX1_vy : List Cond := .code yX1_vy cX1_vy 2 (some .int) :: ([.fieldLink RX1 36 "PolygonFrame" "polygon" "LPolygonFrame$Ring;", .instanceMethod yX0_has, .initialized RX0, .selects RX0 yX0_has yX0_has, .code yX0_has cX0_has 2 (some .boolean), .fieldLink RX0 16 "PolygonFrame$Ring" "count" "I"] ++ wsX10 ++ wsX00)
def wsX1_markTurns_r1 : List Cond := [Cond.fieldLink RX1 13 "PolygonFrame" "width" "I", Cond.fieldLink RX1 24 "PolygonFrame" "turns" "[Z", Cond.fieldLink RX1 36 "PolygonFrame" "polygon" "LPolygonFrame$Ring;", Cond.instanceMethod yX0_edgeMeets, Cond.initialized RX0, Cond.selects RX0 yX0_edgeMeets yX0_edgeMeets, Cond.code yX0_edgeMeets cX0_edgeMeets 3 (some .boolean), Cond.fieldLink RX0 13 "PolygonFrame$Ring" "ys" "[I", Cond.methodLink RX0 20 yX0_nextOf, Cond.instanceMethod yX0_nextOf, Cond.selects RX0 yX0_nextOf yX0_nextOf, Cond.code yX0_nextOf cX0_nextOf 2 (some .int), Cond.fieldLink RX0 16 "PolygonFrame$Ring" "count" "I", Cond.instanceMethod yX0_crossingUpwards, Cond.selects RX0 yX0_crossingUpwards yX0_crossingUpwards, Cond.code yX0_crossingUpwards cX0_crossingUpwards 4 (some .int), Cond.fieldLink RX0 7 "PolygonFrame$Ring" "xs" "[I", Cond.methodLink RX0 24 yJ9_floorDiv_7cf53, Cond.static yJ9_floorDiv_7cf53, Cond.initialized RJ9, Cond.code yJ9_floorDiv_7cf53 cJ9_floorDiv_7cf53 3 (some .int), Cond.methodLink RX1 9 yX1_nearest, Cond.static yX1_nearest, Cond.initialized RX1]
def wsX1_markTurns_r2 : List Cond := [Cond.code yX1_nearest cX1_nearest 3 (some .int), Cond.methodLink RX1 92 Lib.Math.min.name, Cond.static Lib.Math.min.name, Cond.initialized "java/lang/Math", Cond.code Lib.Math.min.name Lib.Math.min.code 2 (some .int), Cond.methodLink RX1 97 Lib.Math.max.name, Cond.static Lib.Math.max.name, Cond.code Lib.Math.max.name Lib.Math.max.code 2 (some .int)]
def wsX1_markTurns : List Cond := .code yX1_markTurns cX1_markTurns 4 none :: ((wsX1_markTurns_r1 ++ wsX1_markTurns_r2) ++ wsX10 ++ wsX00)
def wsX1_fillLine : List Cond := .code yX1_fillLine cX1_fillLine 6 (some .int) :: ([.fieldLink RX1 13 "PolygonFrame" "width" "I", .fieldLink RX1 24 "PolygonFrame" "turns" "[Z", .fieldLink RX1 20 "PolygonFrame" "colours" "[I"] ++ wsX10)
def wsX1_fill_r1 : List Cond := [Cond.fieldLink RX1 17 "PolygonFrame" "height" "I", Cond.methodLink RX1 79 yX1_markTurns, Cond.instanceMethod yX1_markTurns, Cond.selects RX1 yX1_markTurns yX1_markTurns, Cond.initialized RX1, Cond.code yX1_markTurns cX1_markTurns 4 none, Cond.fieldLink RX1 13 "PolygonFrame" "width" "I", Cond.fieldLink RX1 24 "PolygonFrame" "turns" "[Z", Cond.fieldLink RX1 36 "PolygonFrame" "polygon" "LPolygonFrame$Ring;", Cond.instanceMethod yX0_edgeMeets, Cond.initialized RX0, Cond.selects RX0 yX0_edgeMeets yX0_edgeMeets, Cond.code yX0_edgeMeets cX0_edgeMeets 3 (some .boolean), Cond.fieldLink RX0 13 "PolygonFrame$Ring" "ys" "[I", Cond.methodLink RX0 20 yX0_nextOf, Cond.instanceMethod yX0_nextOf, Cond.selects RX0 yX0_nextOf yX0_nextOf, Cond.code yX0_nextOf cX0_nextOf 2 (some .int), Cond.fieldLink RX0 16 "PolygonFrame$Ring" "count" "I", Cond.instanceMethod yX0_crossingUpwards, Cond.selects RX0 yX0_crossingUpwards yX0_crossingUpwards, Cond.code yX0_crossingUpwards cX0_crossingUpwards 4 (some .int), Cond.fieldLink RX0 7 "PolygonFrame$Ring" "xs" "[I", Cond.methodLink RX0 24 yJ9_floorDiv_7cf53]
def wsX1_fill_r2 : List Cond := [Cond.static yJ9_floorDiv_7cf53, Cond.initialized RJ9, Cond.code yJ9_floorDiv_7cf53 cJ9_floorDiv_7cf53 3 (some .int), Cond.methodLink RX1 9 yX1_nearest, Cond.static yX1_nearest, Cond.code yX1_nearest cX1_nearest 3 (some .int), Cond.methodLink RX1 92 Lib.Math.min.name, Cond.static Lib.Math.min.name, Cond.initialized "java/lang/Math", Cond.code Lib.Math.min.name Lib.Math.min.code 2 (some .int), Cond.methodLink RX1 97 Lib.Math.max.name, Cond.static Lib.Math.max.name, Cond.code Lib.Math.max.name Lib.Math.max.code 2 (some .int), Cond.methodLink RX1 82 yX1_fillLine, Cond.instanceMethod yX1_fillLine, Cond.selects RX1 yX1_fillLine yX1_fillLine, Cond.code yX1_fillLine cX1_fillLine 6 (some .int), Cond.fieldLink RX1 20 "PolygonFrame" "colours" "[I"]
def wsX1_fill : List Cond := .code yX1_fill cX1_fill 4 (some .int) :: ((wsX1_fill_r1 ++ wsX1_fill_r2) ++ wsX10 ++ wsX00)
def wsX1_inside : List Cond := .code yX1_inside cX1_inside 5 (some .boolean) :: ([.fieldLink RX1 36 "PolygonFrame" "polygon" "LPolygonFrame$Ring;", .instanceMethod yX0_edgeMeets, .initialized RX0, .selects RX0 yX0_edgeMeets yX0_edgeMeets, .code yX0_edgeMeets cX0_edgeMeets 3 (some .boolean), .fieldLink RX0 13 "PolygonFrame$Ring" "ys" "[I", .methodLink RX0 20 yX0_nextOf, .instanceMethod yX0_nextOf, .selects RX0 yX0_nextOf yX0_nextOf, .code yX0_nextOf cX0_nextOf 2 (some .int), .fieldLink RX0 16 "PolygonFrame$Ring" "count" "I", .instanceMethod yX0_crossingUpwards, .selects RX0 yX0_crossingUpwards yX0_crossingUpwards, .code yX0_crossingUpwards cX0_crossingUpwards 4 (some .int), .fieldLink RX0 7 "PolygonFrame$Ring" "xs" "[I", .methodLink RX0 24 yJ9_floorDiv_7cf53, .static yJ9_floorDiv_7cf53, .initialized RJ9, .code yJ9_floorDiv_7cf53 cJ9_floorDiv_7cf53 3 (some .int)] ++ wsX10 ++ wsX00)
def wsX1_pixel : List Cond := .code yX1_pixel cX1_pixel 3 (some .int) :: ([.fieldLink RX1 13 "PolygonFrame" "width" "I", .fieldLink RX1 17 "PolygonFrame" "height" "I", .fieldLink RX1 20 "PolygonFrame" "colours" "[I"] ++ wsX10)
def wsX1_vertices : List Cond := .code yX1_vertices cX1_vertices 1 (some .int) :: ([.fieldLink RX1 36 "PolygonFrame" "polygon" "LPolygonFrame$Ring;"] ++ wsX10 ++ wsX00)
def wsX2_between : List Cond := .code yX2_between cX2_between 3 (some .int) :: ([])
def wsX2_init : List Cond := .code yX2_init cX2_init 4 none :: ([.methodLink RX2 1 objectInit, .instanceMethod objectInit, .code objectInit ⟨#[0xb1]⟩ 1 none, .arrayClass .int, .fieldLink RX2 7 "PolygonFrameModel" "pixels" "[I", .fieldLink RX2 13 "PolygonFrameModel" "xs" "[I", .fieldLink RX2 16 "PolygonFrameModel" "ys" "[I", .fieldLink RX2 19 "PolygonFrameModel" "fromX" "[I", .fieldLink RX2 22 "PolygonFrameModel" "fromY" "[I", .fieldLink RX2 25 "PolygonFrameModel" "toX" "[I", .fieldLink RX2 28 "PolygonFrameModel" "toY" "[I", .fieldLink RX2 31 "PolygonFrameModel" "left" "I", .fieldLink RX2 35 "PolygonFrameModel" "right" "I", .fieldLink RX2 38 "PolygonFrameModel" "low" "I", .fieldLink RX2 41 "PolygonFrameModel" "top" "I", .fieldLink RX2 48 "PolygonFrameModel" "wide" "I", .fieldLink RX2 51 "PolygonFrameModel" "high" "I", .fieldLink RX2 54 "PolygonFrameModel" "most" "I", .methodLink RX2 44 yX2_between, .static yX2_between, .initialized RX2, .code yX2_between cX2_between 3 (some .int)] ++ wsX20)
def wsX2_clear : List Cond := .code yX2_clear cX2_clear 3 none :: ([.fieldLink RX2 7 "PolygonFrameModel" "pixels" "[I"] ++ wsX20)
def wsX2_begin : List Cond := .code yX2_begin cX2_begin 1 none :: ([.fieldLink RX2 57 "PolygonFrameModel" "size" "I"] ++ wsX20)
def wsX2_isNear : List Cond := .code yX2_isNear cX2_isNear 1 (some .boolean) :: ([])
def wsX2_vertex : List Cond := .code yX2_vertex cX2_vertex 3 (some .boolean) :: ([.fieldLink RX2 57 "PolygonFrameModel" "size" "I", .fieldLink RX2 54 "PolygonFrameModel" "most" "I", .fieldLink RX2 13 "PolygonFrameModel" "xs" "[I", .fieldLink RX2 16 "PolygonFrameModel" "ys" "[I", .methodLink RX2 60 yX2_isNear, .static yX2_isNear, .initialized RX2, .code yX2_isNear cX2_isNear 1 (some .boolean)] ++ wsX20)
def wsX2_setClip : List Cond := .code yX2_setClip cX2_setClip 5 (some .boolean) :: ([.fieldLink RX2 31 "PolygonFrameModel" "left" "I", .fieldLink RX2 35 "PolygonFrameModel" "right" "I", .fieldLink RX2 38 "PolygonFrameModel" "low" "I", .fieldLink RX2 41 "PolygonFrameModel" "top" "I", .methodLink RX2 60 yX2_isNear, .static yX2_isNear, .initialized RX2, .code yX2_isNear cX2_isNear 1 (some .boolean)] ++ wsX20)
def wsX2_depth : List Cond := .code yX2_depth cX2_depth 4 (some .int) :: ([.fieldLink RX2 31 "PolygonFrameModel" "left" "I", .fieldLink RX2 35 "PolygonFrameModel" "right" "I", .fieldLink RX2 38 "PolygonFrameModel" "low" "I", .fieldLink RX2 41 "PolygonFrameModel" "top" "I"] ++ wsX20)
def wsX2_quotient : List Cond := .code yX2_quotient cX2_quotient 3 (some .int) :: ([])
def wsX2_add : List Cond := .code yX2_add cX2_add 3 none :: ([.fieldLink RX2 64 "PolygonFrameModel" "to" "I", .fieldLink RX2 54 "PolygonFrameModel" "most" "I", .fieldLink RX2 25 "PolygonFrameModel" "toX" "[I", .fieldLink RX2 28 "PolygonFrameModel" "toY" "[I"] ++ wsX20)
def wsX2_cut : List Cond := .code yX2_cut cX2_cut 7 none :: ([.fieldLink RX2 31 "PolygonFrameModel" "left" "I", .fieldLink RX2 35 "PolygonFrameModel" "right" "I", .fieldLink RX2 38 "PolygonFrameModel" "low" "I", .fieldLink RX2 41 "PolygonFrameModel" "top" "I", .methodLink RX2 67 yX2_quotient, .static yX2_quotient, .initialized RX2, .code yX2_quotient cX2_quotient 3 (some .int), .methodLink RX2 71 yX2_add, .instanceMethod yX2_add, .selects RX2 yX2_add yX2_add, .code yX2_add cX2_add 3 none, .fieldLink RX2 64 "PolygonFrameModel" "to" "I", .fieldLink RX2 54 "PolygonFrameModel" "most" "I", .fieldLink RX2 25 "PolygonFrameModel" "toX" "[I", .fieldLink RX2 28 "PolygonFrameModel" "toY" "[I"] ++ wsX20)
def wsX2_pass_r1 : List Cond := [Cond.fieldLink RX2 64 "PolygonFrameModel" "to" "I", Cond.fieldLink RX2 75 "PolygonFrameModel" "from" "I", Cond.fieldLink RX2 19 "PolygonFrameModel" "fromX" "[I", Cond.fieldLink RX2 22 "PolygonFrameModel" "fromY" "[I", Cond.methodLink RX2 78 yX2_depth, Cond.instanceMethod yX2_depth, Cond.selects RX2 yX2_depth yX2_depth, Cond.initialized RX2, Cond.code yX2_depth cX2_depth 4 (some .int), Cond.fieldLink RX2 31 "PolygonFrameModel" "left" "I", Cond.fieldLink RX2 35 "PolygonFrameModel" "right" "I", Cond.fieldLink RX2 38 "PolygonFrameModel" "low" "I", Cond.fieldLink RX2 41 "PolygonFrameModel" "top" "I", Cond.methodLink RX2 81 yX2_cut, Cond.instanceMethod yX2_cut, Cond.selects RX2 yX2_cut yX2_cut, Cond.code yX2_cut cX2_cut 7 none, Cond.methodLink RX2 67 yX2_quotient, Cond.static yX2_quotient, Cond.code yX2_quotient cX2_quotient 3 (some .int), Cond.methodLink RX2 71 yX2_add, Cond.instanceMethod yX2_add, Cond.selects RX2 yX2_add yX2_add, Cond.code yX2_add cX2_add 3 none]
def wsX2_pass_r2 : List Cond := [Cond.fieldLink RX2 54 "PolygonFrameModel" "most" "I", Cond.fieldLink RX2 25 "PolygonFrameModel" "toX" "[I", Cond.fieldLink RX2 28 "PolygonFrameModel" "toY" "[I"]
def wsX2_pass : List Cond := .code yX2_pass cX2_pass 6 none :: ((wsX2_pass_r1 ++ wsX2_pass_r2) ++ wsX20)
def wsX2_clip_r1 : List Cond := [Cond.fieldLink RX2 57 "PolygonFrameModel" "size" "I", Cond.fieldLink RX2 75 "PolygonFrameModel" "from" "I", Cond.fieldLink RX2 19 "PolygonFrameModel" "fromX" "[I", Cond.fieldLink RX2 13 "PolygonFrameModel" "xs" "[I", Cond.fieldLink RX2 22 "PolygonFrameModel" "fromY" "[I", Cond.fieldLink RX2 16 "PolygonFrameModel" "ys" "[I", Cond.fieldLink RX2 64 "PolygonFrameModel" "to" "I", Cond.fieldLink RX2 54 "PolygonFrameModel" "most" "I", Cond.fieldLink RX2 25 "PolygonFrameModel" "toX" "[I", Cond.fieldLink RX2 28 "PolygonFrameModel" "toY" "[I", Cond.methodLink RX2 85 yX2_pass, Cond.instanceMethod yX2_pass, Cond.selects RX2 yX2_pass yX2_pass, Cond.initialized RX2, Cond.code yX2_pass cX2_pass 6 none, Cond.methodLink RX2 78 yX2_depth, Cond.instanceMethod yX2_depth, Cond.selects RX2 yX2_depth yX2_depth, Cond.code yX2_depth cX2_depth 4 (some .int), Cond.fieldLink RX2 31 "PolygonFrameModel" "left" "I", Cond.fieldLink RX2 35 "PolygonFrameModel" "right" "I", Cond.fieldLink RX2 38 "PolygonFrameModel" "low" "I", Cond.fieldLink RX2 41 "PolygonFrameModel" "top" "I", Cond.methodLink RX2 81 yX2_cut]
def wsX2_clip_r2 : List Cond := [Cond.instanceMethod yX2_cut, Cond.selects RX2 yX2_cut yX2_cut, Cond.code yX2_cut cX2_cut 7 none, Cond.methodLink RX2 67 yX2_quotient, Cond.static yX2_quotient, Cond.code yX2_quotient cX2_quotient 3 (some .int), Cond.methodLink RX2 71 yX2_add, Cond.instanceMethod yX2_add, Cond.selects RX2 yX2_add yX2_add, Cond.code yX2_add cX2_add 3 none]
def wsX2_clip : List Cond := .code yX2_clip cX2_clip 3 (some .int) :: ((wsX2_clip_r1 ++ wsX2_clip_r2) ++ wsX20)
def wsX2_isVertex : List Cond := .code yX2_isVertex cX2_isVertex 2 (some .boolean) :: ([.fieldLink RX2 57 "PolygonFrameModel" "size" "I"] ++ wsX20)
def wsX2_vx : List Cond := .code yX2_vx cX2_vx 2 (some .int) :: ([.fieldLink RX2 13 "PolygonFrameModel" "xs" "[I", .methodLink RX2 89 yX2_isVertex, .instanceMethod yX2_isVertex, .selects RX2 yX2_isVertex yX2_isVertex, .initialized RX2, .code yX2_isVertex cX2_isVertex 2 (some .boolean), .fieldLink RX2 57 "PolygonFrameModel" "size" "I"] ++ wsX20)
def wsX2_vy : List Cond := .code yX2_vy cX2_vy 2 (some .int) :: ([.fieldLink RX2 16 "PolygonFrameModel" "ys" "[I", .methodLink RX2 89 yX2_isVertex, .instanceMethod yX2_isVertex, .selects RX2 yX2_isVertex yX2_isVertex, .initialized RX2, .code yX2_isVertex cX2_isVertex 2 (some .boolean), .fieldLink RX2 57 "PolygonFrameModel" "size" "I"] ++ wsX20)
def wsX2_crosses : List Cond := .code yX2_crosses cX2_crosses 21 (some .boolean) :: ([])
def wsX2_inside : List Cond := .code yX2_inside cX2_inside 6 (some .boolean) :: ([.fieldLink RX2 57 "PolygonFrameModel" "size" "I", .fieldLink RX2 13 "PolygonFrameModel" "xs" "[I", .fieldLink RX2 16 "PolygonFrameModel" "ys" "[I", .methodLink RX2 92 yX2_crosses, .static yX2_crosses, .initialized RX2, .code yX2_crosses cX2_crosses 21 (some .boolean)] ++ wsX20)
def wsX2_fill : List Cond := .code yX2_fill cX2_fill 5 (some .int) :: ([.fieldLink RX2 51 "PolygonFrameModel" "high" "I", .fieldLink RX2 48 "PolygonFrameModel" "wide" "I", .fieldLink RX2 7 "PolygonFrameModel" "pixels" "[I", .methodLink RX2 96 yX2_inside, .instanceMethod yX2_inside, .selects RX2 yX2_inside yX2_inside, .initialized RX2, .code yX2_inside cX2_inside 6 (some .boolean), .fieldLink RX2 57 "PolygonFrameModel" "size" "I", .fieldLink RX2 13 "PolygonFrameModel" "xs" "[I", .fieldLink RX2 16 "PolygonFrameModel" "ys" "[I", .methodLink RX2 92 yX2_crosses, .static yX2_crosses, .code yX2_crosses cX2_crosses 21 (some .boolean)] ++ wsX20)
def wsX2_pixel : List Cond := .code yX2_pixel cX2_pixel 3 (some .int) :: ([.fieldLink RX2 48 "PolygonFrameModel" "wide" "I", .fieldLink RX2 51 "PolygonFrameModel" "high" "I", .fieldLink RX2 7 "PolygonFrameModel" "pixels" "[I"] ++ wsX20)
def wsX2_vertices : List Cond := .code yX2_vertices cX2_vertices 1 (some .int) :: ([.fieldLink RX2 57 "PolygonFrameModel" "size" "I"] ++ wsX20)
def wsJ9_max_7cf53 : List Cond := .code yJ9_max_7cf53 cJ9_max_7cf53 2 (some .int) :: ([])
def wsJ9_min_7cf53 : List Cond := .code yJ9_min_7cf53 cJ9_min_7cf53 2 (some .int) :: ([])
def wsL_cell : List Cond := .code yL_cell cL_cell 2 (some .int) :: ([])
def wsL_law_r1 : List Cond := [Cond.classLink RL 7 RX1, Cond.instantiable RX1 8, Cond.initialized RX1, Cond.classLink RL 18 RX2, Cond.instantiable RX2 17, Cond.initialized RX2, Cond.methodLink RL 9 yL_cell, Cond.static yL_cell, Cond.initialized RL, Cond.code yL_cell cL_cell 2 (some .int), Cond.methodLink RL 15 yX1_init, Cond.instanceMethod yX1_init, Cond.code yX1_init cX1_init 5 none, Cond.methodLink RX1 1 objectInit, Cond.instanceMethod objectInit, Cond.code objectInit ⟨#[0xb1]⟩ 1 none, Cond.fieldLink RX1 13 "PolygonFrame" "width" "I", Cond.fieldLink RX1 17 "PolygonFrame" "height" "I", Cond.arrayClass .int, Cond.fieldLink RX1 20 "PolygonFrame" "colours" "[I", Cond.arrayClass .boolean, Cond.fieldLink RX1 24 "PolygonFrame" "turns" "[Z", Cond.fieldLink RX1 28 "PolygonFrame" "sides" "[I", Cond.classLink RX1 31 RX0]
def wsL_law_r2 : List Cond := [Cond.instantiable RX0 3, Cond.initialized RX0, Cond.fieldLink RX1 36 "PolygonFrame" "polygon" "LPolygonFrame$Ring;", Cond.fieldLink RX1 40 "PolygonFrame" "oddPasses" "LPolygonFrame$Ring;", Cond.fieldLink RX1 43 "PolygonFrame" "evenPasses" "LPolygonFrame$Ring;", Cond.methodLink RX1 9 yX1_nearest, Cond.static yX1_nearest, Cond.code yX1_nearest cX1_nearest 3 (some .int), Cond.methodLink RX1 92 Lib.Math.min.name, Cond.static Lib.Math.min.name, Cond.initialized "java/lang/Math", Cond.code Lib.Math.min.name Lib.Math.min.code 2 (some .int), Cond.methodLink RX1 97 Lib.Math.max.name, Cond.static Lib.Math.max.name, Cond.code Lib.Math.max.name Lib.Math.max.code 2 (some .int), Cond.instanceMethod yX0_init, Cond.code yX0_init cX0_init 2 none, Cond.methodLink RX0 1 objectInit, Cond.fieldLink RX0 7 "PolygonFrame$Ring" "xs" "[I", Cond.fieldLink RX0 13 "PolygonFrame$Ring" "ys" "[I", Cond.fieldLink RX0 16 "PolygonFrame$Ring" "count" "I", Cond.methodLink RL 20 yX2_init, Cond.instanceMethod yX2_init, Cond.code yX2_init cX2_init 4 none]
def wsL_law_r3 : List Cond := [Cond.methodLink RX2 1 objectInit, Cond.fieldLink RX2 7 "PolygonFrameModel" "pixels" "[I", Cond.fieldLink RX2 13 "PolygonFrameModel" "xs" "[I", Cond.fieldLink RX2 16 "PolygonFrameModel" "ys" "[I", Cond.fieldLink RX2 19 "PolygonFrameModel" "fromX" "[I", Cond.fieldLink RX2 22 "PolygonFrameModel" "fromY" "[I", Cond.fieldLink RX2 25 "PolygonFrameModel" "toX" "[I", Cond.fieldLink RX2 28 "PolygonFrameModel" "toY" "[I", Cond.fieldLink RX2 31 "PolygonFrameModel" "left" "I", Cond.fieldLink RX2 35 "PolygonFrameModel" "right" "I", Cond.fieldLink RX2 38 "PolygonFrameModel" "low" "I", Cond.fieldLink RX2 41 "PolygonFrameModel" "top" "I", Cond.fieldLink RX2 48 "PolygonFrameModel" "wide" "I", Cond.fieldLink RX2 51 "PolygonFrameModel" "high" "I", Cond.fieldLink RX2 54 "PolygonFrameModel" "most" "I", Cond.methodLink RX2 44 yX2_between, Cond.static yX2_between, Cond.code yX2_between cX2_between 3 (some .int), Cond.methodLink RL 21 yX1_clear, Cond.instanceMethod yX1_clear, Cond.selects RX1 yX1_clear yX1_clear, Cond.code yX1_clear cX1_clear 2 none, Cond.methodLink RX1 46 yJ7_fill_53178, Cond.static yJ7_fill_53178]
def wsL_law_r4 : List Cond := [Cond.initialized RJ7, Cond.code yJ7_fill_53178 cJ7_fill_53178 4 none, Cond.methodLink RL 25 yX2_clear, Cond.instanceMethod yX2_clear, Cond.selects RX2 yX2_clear yX2_clear, Cond.code yX2_clear cX2_clear 3 none, Cond.methodLink RL 26 yX1_begin, Cond.instanceMethod yX1_begin, Cond.selects RX1 yX1_begin yX1_begin, Cond.code yX1_begin cX1_begin 1 none, Cond.methodLink RL 29 yX2_begin, Cond.instanceMethod yX2_begin, Cond.selects RX2 yX2_begin yX2_begin, Cond.code yX2_begin cX2_begin 1 none, Cond.fieldLink RX2 57 "PolygonFrameModel" "size" "I", Cond.methodLink RL 30 yX1_vertex, Cond.instanceMethod yX1_vertex, Cond.selects RX1 yX1_vertex yX1_vertex, Cond.code yX1_vertex cX1_vertex 3 (some .boolean), Cond.methodLink RX1 55 yX1_isCoordinate, Cond.static yX1_isCoordinate, Cond.code yX1_isCoordinate cX1_isCoordinate 1 (some .boolean), Cond.instanceMethod yX0_append, Cond.selects RX0 yX0_append yX0_append]
def wsL_law_r5 : List Cond := [Cond.code yX0_append cX0_append 3 (some .boolean), Cond.methodLink RL 34 yX2_vertex, Cond.instanceMethod yX2_vertex, Cond.selects RX2 yX2_vertex yX2_vertex, Cond.code yX2_vertex cX2_vertex 3 (some .boolean), Cond.methodLink RX2 60 yX2_isNear, Cond.static yX2_isNear, Cond.code yX2_isNear cX2_isNear 1 (some .boolean), Cond.methodLink RL 35 yX1_setClip, Cond.instanceMethod yX1_setClip, Cond.selects RX1 yX1_setClip yX1_setClip, Cond.code yX1_setClip cX1_setClip 5 (some .boolean), Cond.methodLink RX1 63 yX1_isRange, Cond.static yX1_isRange, Cond.code yX1_isRange cX1_isRange 2 (some .boolean), Cond.methodLink RL 39 yX2_setClip, Cond.instanceMethod yX2_setClip, Cond.selects RX2 yX2_setClip yX2_setClip, Cond.code yX2_setClip cX2_setClip 5 (some .boolean), Cond.methodLink RL 40 yX1_clip, Cond.instanceMethod yX1_clip, Cond.selects RX1 yX1_clip yX1_clip, Cond.code yX1_clip cX1_clip 4 (some .int), Cond.methodLink RX1 66 yX1_pass]
def wsL_law_r6 : List Cond := [Cond.instanceMethod yX1_pass, Cond.selects RX1 yX1_pass yX1_pass, Cond.code yX1_pass cX1_pass 12 (some .boolean), Cond.instanceMethod yX0_axis, Cond.selects RX0 yX0_axis yX0_axis, Cond.code yX0_axis cX0_axis 2 (some (.array .int)), Cond.methodLink RX1 104 yX1_isGood, Cond.instanceMethod yX1_isGood, Cond.selects RX1 yX1_isGood yX1_isGood, Cond.code yX1_isGood cX1_isGood 3 (some .boolean), Cond.methodLink RX1 107 yX1_cutAcross, Cond.static yX1_cutAcross, Cond.code yX1_cutAcross cX1_cutAcross 5 (some .int), Cond.methodLink RX1 111 yJ9_floorDiv_7cf53, Cond.static yJ9_floorDiv_7cf53, Cond.initialized RJ9, Cond.code yJ9_floorDiv_7cf53 cJ9_floorDiv_7cf53 3 (some .int), Cond.methodLink RL 44 yX2_clip, Cond.instanceMethod yX2_clip, Cond.selects RX2 yX2_clip yX2_clip, Cond.code yX2_clip cX2_clip 3 (some .int), Cond.fieldLink RX2 75 "PolygonFrameModel" "from" "I", Cond.fieldLink RX2 64 "PolygonFrameModel" "to" "I", Cond.methodLink RX2 85 yX2_pass]
def wsL_law_r7 : List Cond := [Cond.instanceMethod yX2_pass, Cond.selects RX2 yX2_pass yX2_pass, Cond.code yX2_pass cX2_pass 6 none, Cond.methodLink RX2 78 yX2_depth, Cond.instanceMethod yX2_depth, Cond.selects RX2 yX2_depth yX2_depth, Cond.code yX2_depth cX2_depth 4 (some .int), Cond.methodLink RX2 81 yX2_cut, Cond.instanceMethod yX2_cut, Cond.selects RX2 yX2_cut yX2_cut, Cond.code yX2_cut cX2_cut 7 none, Cond.methodLink RX2 67 yX2_quotient, Cond.static yX2_quotient, Cond.code yX2_quotient cX2_quotient 3 (some .int), Cond.methodLink RX2 71 yX2_add, Cond.instanceMethod yX2_add, Cond.selects RX2 yX2_add yX2_add, Cond.code yX2_add cX2_add 3 none, Cond.methodLink RL 45 yX1_vx, Cond.instanceMethod yX1_vx, Cond.selects RX1 yX1_vx yX1_vx, Cond.code yX1_vx cX1_vx 2 (some .int), Cond.instanceMethod yX0_has, Cond.selects RX0 yX0_has yX0_has]
def wsL_law_r8 : List Cond := [Cond.code yX0_has cX0_has 2 (some .boolean), Cond.methodLink RL 49 yX2_vx, Cond.instanceMethod yX2_vx, Cond.selects RX2 yX2_vx yX2_vx, Cond.code yX2_vx cX2_vx 2 (some .int), Cond.methodLink RX2 89 yX2_isVertex, Cond.instanceMethod yX2_isVertex, Cond.selects RX2 yX2_isVertex yX2_isVertex, Cond.code yX2_isVertex cX2_isVertex 2 (some .boolean), Cond.methodLink RL 50 yX1_vy, Cond.instanceMethod yX1_vy, Cond.selects RX1 yX1_vy yX1_vy, Cond.code yX1_vy cX1_vy 2 (some .int), Cond.methodLink RL 53 yX2_vy, Cond.instanceMethod yX2_vy, Cond.selects RX2 yX2_vy yX2_vy, Cond.code yX2_vy cX2_vy 2 (some .int), Cond.methodLink RL 54 yX1_fill, Cond.instanceMethod yX1_fill, Cond.selects RX1 yX1_fill yX1_fill, Cond.code yX1_fill cX1_fill 4 (some .int), Cond.methodLink RX1 79 yX1_markTurns, Cond.instanceMethod yX1_markTurns, Cond.selects RX1 yX1_markTurns yX1_markTurns]
def wsL_law_r9 : List Cond := [Cond.code yX1_markTurns cX1_markTurns 4 none, Cond.instanceMethod yX0_edgeMeets, Cond.selects RX0 yX0_edgeMeets yX0_edgeMeets, Cond.code yX0_edgeMeets cX0_edgeMeets 3 (some .boolean), Cond.methodLink RX0 20 yX0_nextOf, Cond.instanceMethod yX0_nextOf, Cond.selects RX0 yX0_nextOf yX0_nextOf, Cond.code yX0_nextOf cX0_nextOf 2 (some .int), Cond.instanceMethod yX0_crossingUpwards, Cond.selects RX0 yX0_crossingUpwards yX0_crossingUpwards, Cond.code yX0_crossingUpwards cX0_crossingUpwards 4 (some .int), Cond.methodLink RX0 24 yJ9_floorDiv_7cf53, Cond.methodLink RX1 82 yX1_fillLine, Cond.instanceMethod yX1_fillLine, Cond.selects RX1 yX1_fillLine yX1_fillLine, Cond.code yX1_fillLine cX1_fillLine 6 (some .int), Cond.methodLink RL 57 yX2_fill, Cond.instanceMethod yX2_fill, Cond.selects RX2 yX2_fill yX2_fill, Cond.code yX2_fill cX2_fill 5 (some .int), Cond.methodLink RX2 96 yX2_inside, Cond.instanceMethod yX2_inside, Cond.selects RX2 yX2_inside yX2_inside, Cond.code yX2_inside cX2_inside 6 (some .boolean)]
def wsL_law_r10 : List Cond := [Cond.methodLink RX2 92 yX2_crosses, Cond.static yX2_crosses, Cond.code yX2_crosses cX2_crosses 21 (some .boolean), Cond.methodLink RL 58 yX1_inside, Cond.instanceMethod yX1_inside, Cond.selects RX1 yX1_inside yX1_inside, Cond.code yX1_inside cX1_inside 5 (some .boolean), Cond.methodLink RL 61 yX2_inside, Cond.methodLink RL 62 yX1_pixel, Cond.instanceMethod yX1_pixel, Cond.selects RX1 yX1_pixel yX1_pixel, Cond.code yX1_pixel cX1_pixel 3 (some .int), Cond.methodLink RL 66 yX2_pixel, Cond.instanceMethod yX2_pixel, Cond.selects RX2 yX2_pixel yX2_pixel, Cond.code yX2_pixel cX2_pixel 3 (some .int), Cond.methodLink RL 67 yX1_vertices, Cond.instanceMethod yX1_vertices, Cond.selects RX1 yX1_vertices yX1_vertices, Cond.code yX1_vertices cX1_vertices 1 (some .int), Cond.methodLink RL 70 yX2_vertices, Cond.instanceMethod yX2_vertices, Cond.selects RX2 yX2_vertices yX2_vertices, Cond.code yX2_vertices cX2_vertices 1 (some .int)]
def wsL_law : List Cond := (wsL_law_r1 ++ (wsL_law_r2 ++ (wsL_law_r3 ++ (wsL_law_r4 ++ (wsL_law_r5 ++ (wsL_law_r6 ++ (wsL_law_r7 ++ (wsL_law_r8 ++ (wsL_law_r9 ++ wsL_law_r10))))))))) ++ wsX10 ++ wsX20 ++ wsX00 ++ ([] : List Cond)
set_option maxRecDepth 20000 in
theorem wsL_law_in : ∀ w ∈ wsL_law, w ∈ lw_tbl := fun w h => (goodIn_p wsL_law [186, 25, 28, 31, 34, 37, 42, 191, 195, 87, 90, 251, 94, 255, 98, 101, 105, 259, 262, 109, 112, 266, 116, 120, 124, 128, 131, 134, 270, 274, 278, 282, 285, 289, 138, 142, 293, 297, 146, 301, 150, 154, 158, 162, 166, 171, 312, 305, 308, 175, 179, 317, 183, 321] (by decide +kernel) (by decide +kernel) w h).1
theorem inlX0 : ∀ w ∈ wsX00, w ∈ wsL_law := fun _ h => List.mem_append_left _ (List.mem_append_right _ h)
theorem inX0 : ∀ w ∈ wsX00, w ∈ lw_tbl := fun w h => wsL_law_in w (inlX0 w h)
theorem inlX1 : ∀ w ∈ wsX10, w ∈ wsL_law := fun _ h => List.mem_append_left _ (List.mem_append_left _ (List.mem_append_left _ (List.mem_append_right _ h)))
theorem inX1 : ∀ w ∈ wsX10, w ∈ lw_tbl := fun w h => wsL_law_in w (inlX1 w h)
theorem inlX2 : ∀ w ∈ wsX20, w ∈ wsL_law := fun _ h => List.mem_append_left _ (List.mem_append_left _ (List.mem_append_right _ h))
theorem inX2 : ∀ w ∈ wsX20, w ∈ lw_tbl := fun w h => wsL_law_in w (inlX2 w h)
theorem inJ9 : ∀ w ∈ wsJ90, w ∈ lw_tbl := by decide +kernel
theorem inJ7 : ∀ w ∈ wsJ70, w ∈ lw_tbl := by decide +kernel
theorem dX0_init_0 : decode cX0_init 0 = .ok (.aload_n 0, 1) := by decide +kernel
theorem dX0_init_1 : decode cX0_init 1 = .ok (.invokespecial 1, 3) := by decide +kernel
theorem dX0_init_4 : decode cX0_init 4 = .ok (.aload_n 0, 1) := by decide +kernel
theorem dX0_init_5 : decode cX0_init 5 = .ok (.iload_n 1, 1) := by decide +kernel
theorem dX0_init_6 : decode cX0_init 6 = .ok (.newarray .int, 2) := by decide +kernel
theorem dX0_init_8 : decode cX0_init 8 = .ok (.putfield 7, 3) := by decide +kernel
theorem dX0_init_11 : decode cX0_init 11 = .ok (.aload_n 0, 1) := by decide +kernel
theorem dX0_init_12 : decode cX0_init 12 = .ok (.iload_n 1, 1) := by decide +kernel
theorem dX0_init_13 : decode cX0_init 13 = .ok (.newarray .int, 2) := by decide +kernel
theorem dX0_init_15 : decode cX0_init 15 = .ok (.putfield 13, 3) := by decide +kernel
theorem dX0_init_18 : decode cX0_init 18 = .ok (.aload_n 0, 1) := by decide +kernel
theorem dX0_init_19 : decode cX0_init 19 = .ok (.iconst 0, 1) := by decide +kernel
theorem dX0_init_20 : decode cX0_init 20 = .ok (.putfield 16, 3) := by decide +kernel
theorem dX0_init_23 : decode cX0_init 23 = .ok (.return_, 1) := by decide +kernel
theorem dX0_has_0 : decode cX0_has 0 = .ok (.iload_n 1, 1) := by decide +kernel
theorem dX0_has_1 : decode cX0_has 1 = .ok (.ifCond .lt 15, 3) := by decide +kernel
theorem dX0_has_4 : decode cX0_has 4 = .ok (.iload_n 1, 1) := by decide +kernel
theorem dX0_has_5 : decode cX0_has 5 = .ok (.aload_n 0, 1) := by decide +kernel
theorem dX0_has_6 : decode cX0_has 6 = .ok (.getfield 16, 3) := by decide +kernel
theorem dX0_has_9 : decode cX0_has 9 = .ok (.if_icmp .ge 7, 3) := by decide +kernel
theorem dX0_has_12 : decode cX0_has 12 = .ok (.iconst 1, 1) := by decide +kernel
theorem dX0_has_13 : decode cX0_has 13 = .ok (.goto 4, 3) := by decide +kernel
theorem dX0_has_16 : decode cX0_has 16 = .ok (.iconst 0, 1) := by decide +kernel
theorem dX0_has_17 : decode cX0_has 17 = .ok (.ireturn, 1) := by decide +kernel
theorem dX0_append_0 : decode cX0_append 0 = .ok (.aload_n 0, 1) := by decide +kernel
theorem dX0_append_1 : decode cX0_append 1 = .ok (.getfield 16, 3) := by decide +kernel
theorem dX0_append_4 : decode cX0_append 4 = .ok (.aload_n 0, 1) := by decide +kernel
theorem dX0_append_5 : decode cX0_append 5 = .ok (.getfield 7, 3) := by decide +kernel
theorem dX0_append_8 : decode cX0_append 8 = .ok (.arraylength, 1) := by decide +kernel
theorem dX0_append_9 : decode cX0_append 9 = .ok (.if_icmp .lt 5, 3) := by decide +kernel
theorem dX0_append_12 : decode cX0_append 12 = .ok (.iconst 0, 1) := by decide +kernel
theorem dX0_append_13 : decode cX0_append 13 = .ok (.ireturn, 1) := by decide +kernel
theorem dX0_append_14 : decode cX0_append 14 = .ok (.aload_n 0, 1) := by decide +kernel
theorem dX0_append_15 : decode cX0_append 15 = .ok (.getfield 7, 3) := by decide +kernel
theorem dX0_append_18 : decode cX0_append 18 = .ok (.aload_n 0, 1) := by decide +kernel
theorem dX0_append_19 : decode cX0_append 19 = .ok (.getfield 16, 3) := by decide +kernel
theorem dX0_append_22 : decode cX0_append 22 = .ok (.iload_n 1, 1) := by decide +kernel
theorem dX0_append_23 : decode cX0_append 23 = .ok (.iastore, 1) := by decide +kernel
theorem dX0_append_24 : decode cX0_append 24 = .ok (.aload_n 0, 1) := by decide +kernel
theorem dX0_append_25 : decode cX0_append 25 = .ok (.getfield 13, 3) := by decide +kernel
theorem dX0_append_28 : decode cX0_append 28 = .ok (.aload_n 0, 1) := by decide +kernel
theorem dX0_append_29 : decode cX0_append 29 = .ok (.getfield 16, 3) := by decide +kernel
theorem dX0_append_32 : decode cX0_append 32 = .ok (.iload_n 2, 1) := by decide +kernel
theorem dX0_append_33 : decode cX0_append 33 = .ok (.iastore, 1) := by decide +kernel
theorem dX0_append_34 : decode cX0_append 34 = .ok (.aload_n 0, 1) := by decide +kernel
theorem dX0_append_35 : decode cX0_append 35 = .ok (.dup, 1) := by decide +kernel
theorem dX0_append_36 : decode cX0_append 36 = .ok (.getfield 16, 3) := by decide +kernel
theorem dX0_append_39 : decode cX0_append 39 = .ok (.iconst 1, 1) := by decide +kernel
theorem dX0_append_40 : decode cX0_append 40 = .ok (.iadd, 1) := by decide +kernel
theorem dX0_append_41 : decode cX0_append 41 = .ok (.putfield 16, 3) := by decide +kernel
theorem dX0_append_44 : decode cX0_append 44 = .ok (.iconst 1, 1) := by decide +kernel
theorem dX0_append_45 : decode cX0_append 45 = .ok (.ireturn, 1) := by decide +kernel
theorem dX0_axis_0 : decode cX0_axis 0 = .ok (.iload_n 1, 1) := by decide +kernel
theorem dX0_axis_1 : decode cX0_axis 1 = .ok (.ifCond .eq 10, 3) := by decide +kernel
theorem dX0_axis_4 : decode cX0_axis 4 = .ok (.aload_n 0, 1) := by decide +kernel
theorem dX0_axis_5 : decode cX0_axis 5 = .ok (.getfield 7, 3) := by decide +kernel
theorem dX0_axis_8 : decode cX0_axis 8 = .ok (.goto 7, 3) := by decide +kernel
theorem dX0_axis_11 : decode cX0_axis 11 = .ok (.aload_n 0, 1) := by decide +kernel
theorem dX0_axis_12 : decode cX0_axis 12 = .ok (.getfield 13, 3) := by decide +kernel
theorem dX0_axis_15 : decode cX0_axis 15 = .ok (.areturn, 1) := by decide +kernel
theorem dX0_nextOf_0 : decode cX0_nextOf 0 = .ok (.iload_n 1, 1) := by decide +kernel
theorem dX0_nextOf_1 : decode cX0_nextOf 1 = .ok (.iconst 1, 1) := by decide +kernel
theorem dX0_nextOf_2 : decode cX0_nextOf 2 = .ok (.iadd, 1) := by decide +kernel
theorem dX0_nextOf_3 : decode cX0_nextOf 3 = .ok (.aload_n 0, 1) := by decide +kernel
theorem dX0_nextOf_4 : decode cX0_nextOf 4 = .ok (.getfield 16, 3) := by decide +kernel
theorem dX0_nextOf_7 : decode cX0_nextOf 7 = .ok (.if_icmp .ge 9, 3) := by decide +kernel
theorem dX0_nextOf_10 : decode cX0_nextOf 10 = .ok (.iload_n 1, 1) := by decide +kernel
theorem dX0_nextOf_11 : decode cX0_nextOf 11 = .ok (.iconst 1, 1) := by decide +kernel
theorem dX0_nextOf_12 : decode cX0_nextOf 12 = .ok (.iadd, 1) := by decide +kernel
theorem dX0_nextOf_13 : decode cX0_nextOf 13 = .ok (.goto 4, 3) := by decide +kernel
theorem dX0_nextOf_16 : decode cX0_nextOf 16 = .ok (.iconst 0, 1) := by decide +kernel
theorem dX0_nextOf_17 : decode cX0_nextOf 17 = .ok (.ireturn, 1) := by decide +kernel
set_option maxRecDepth 20000 in
theorem ggX0_edgeMeets_X0_nextOf : GoodIn wsX0_edgeMeets wsX0_nextOf := goodIn_r _ [6, 7, 8, 9, 10] (by decide +kernel) (by decide +kernel)
set_option maxRecDepth 20000 in
theorem gX0_edgeMeets_X0_nextOf : GoodIn wsX0_edgeMeets (wsV RX0 20 RX0 yX0_nextOf wsX0_nextOf) := goodIn_app (goodIn_of _ (by decide +kernel)) ggX0_edgeMeets_X0_nextOf
theorem dX0_edgeMeets_0 : decode cX0_edgeMeets 0 = .ok (.aload_n 0, 1) := by decide +kernel
theorem dX0_edgeMeets_1 : decode cX0_edgeMeets 1 = .ok (.getfield 13, 3) := by decide +kernel
theorem dX0_edgeMeets_4 : decode cX0_edgeMeets 4 = .ok (.iload_n 1, 1) := by decide +kernel
theorem dX0_edgeMeets_5 : decode cX0_edgeMeets 5 = .ok (.iaload, 1) := by decide +kernel
theorem dX0_edgeMeets_6 : decode cX0_edgeMeets 6 = .ok (.iload_n 2, 1) := by decide +kernel
theorem dX0_edgeMeets_7 : decode cX0_edgeMeets 7 = .ok (.if_icmp .gt 7, 3) := by decide +kernel
theorem dX0_edgeMeets_10 : decode cX0_edgeMeets 10 = .ok (.iconst 1, 1) := by decide +kernel
theorem dX0_edgeMeets_11 : decode cX0_edgeMeets 11 = .ok (.goto 4, 3) := by decide +kernel
theorem dX0_edgeMeets_14 : decode cX0_edgeMeets 14 = .ok (.iconst 0, 1) := by decide +kernel
theorem dX0_edgeMeets_15 : decode cX0_edgeMeets 15 = .ok (.aload_n 0, 1) := by decide +kernel
theorem dX0_edgeMeets_16 : decode cX0_edgeMeets 16 = .ok (.getfield 13, 3) := by decide +kernel
theorem dX0_edgeMeets_19 : decode cX0_edgeMeets 19 = .ok (.aload_n 0, 1) := by decide +kernel
theorem dX0_edgeMeets_20 : decode cX0_edgeMeets 20 = .ok (.iload_n 1, 1) := by decide +kernel
theorem dX0_edgeMeets_21 : decode cX0_edgeMeets 21 = .ok (.invokevirtual 20, 3) := by decide +kernel
theorem dX0_edgeMeets_24 : decode cX0_edgeMeets 24 = .ok (.iaload, 1) := by decide +kernel
theorem dX0_edgeMeets_25 : decode cX0_edgeMeets 25 = .ok (.iload_n 2, 1) := by decide +kernel
theorem dX0_edgeMeets_26 : decode cX0_edgeMeets 26 = .ok (.if_icmp .gt 7, 3) := by decide +kernel
theorem dX0_edgeMeets_29 : decode cX0_edgeMeets 29 = .ok (.iconst 1, 1) := by decide +kernel
theorem dX0_edgeMeets_30 : decode cX0_edgeMeets 30 = .ok (.goto 4, 3) := by decide +kernel
theorem dX0_edgeMeets_33 : decode cX0_edgeMeets 33 = .ok (.iconst 0, 1) := by decide +kernel
theorem dX0_edgeMeets_34 : decode cX0_edgeMeets 34 = .ok (.if_icmp .eq 7, 3) := by decide +kernel
theorem dX0_edgeMeets_37 : decode cX0_edgeMeets 37 = .ok (.iconst 1, 1) := by decide +kernel
theorem dX0_edgeMeets_38 : decode cX0_edgeMeets 38 = .ok (.goto 4, 3) := by decide +kernel
theorem dX0_edgeMeets_41 : decode cX0_edgeMeets 41 = .ok (.iconst 0, 1) := by decide +kernel
theorem dX0_edgeMeets_42 : decode cX0_edgeMeets 42 = .ok (.ireturn, 1) := by decide +kernel
set_option maxRecDepth 20000 in
theorem ggX0_crossingUpwards_X0_nextOf : GoodIn wsX0_crossingUpwards wsX0_nextOf := goodIn_r _ [7, 8, 13, 14, 15] (by decide +kernel) (by decide +kernel)
set_option maxRecDepth 20000 in
theorem gX0_crossingUpwards_X0_nextOf : GoodIn wsX0_crossingUpwards (wsV RX0 20 RX0 yX0_nextOf wsX0_nextOf) := goodIn_app (goodIn_of _ (by decide +kernel)) ggX0_crossingUpwards_X0_nextOf
set_option maxRecDepth 20000 in
theorem ggX0_crossingUpwards_J9_floorDiv_7cf53 : GoodIn wsX0_crossingUpwards wsJ9_floorDiv_7cf53 := goodIn_r _ [12] (by decide +kernel) (by decide +kernel)
set_option maxRecDepth 20000 in
theorem gX0_crossingUpwards_J9_floorDiv_7cf53 : GoodIn wsX0_crossingUpwards (va_wsS RX0 24 yJ9_floorDiv_7cf53 wsJ9_floorDiv_7cf53) := goodIn_app (goodIn_of _ (by decide +kernel)) ggX0_crossingUpwards_J9_floorDiv_7cf53
theorem dX0_crossingUpwards_0 : decode cX0_crossingUpwards 0 = .ok (.aload_n 0, 1) := by decide +kernel
theorem dX0_crossingUpwards_1 : decode cX0_crossingUpwards 1 = .ok (.iload_n 1, 1) := by decide +kernel
theorem dX0_crossingUpwards_2 : decode cX0_crossingUpwards 2 = .ok (.invokevirtual 20, 3) := by decide +kernel
theorem dX0_crossingUpwards_5 : decode cX0_crossingUpwards 5 = .ok (.istore_n 3, 1) := by decide +kernel
theorem dX0_crossingUpwards_6 : decode cX0_crossingUpwards 6 = .ok (.aload_n 0, 1) := by decide +kernel
theorem dX0_crossingUpwards_7 : decode cX0_crossingUpwards 7 = .ok (.getfield 7, 3) := by decide +kernel
theorem dX0_crossingUpwards_10 : decode cX0_crossingUpwards 10 = .ok (.iload_n 1, 1) := by decide +kernel
theorem dX0_crossingUpwards_11 : decode cX0_crossingUpwards 11 = .ok (.iaload, 1) := by decide +kernel
theorem dX0_crossingUpwards_12 : decode cX0_crossingUpwards 12 = .ok (.aload_n 0, 1) := by decide +kernel
theorem dX0_crossingUpwards_13 : decode cX0_crossingUpwards 13 = .ok (.getfield 7, 3) := by decide +kernel
theorem dX0_crossingUpwards_16 : decode cX0_crossingUpwards 16 = .ok (.iload_n 1, 1) := by decide +kernel
theorem dX0_crossingUpwards_17 : decode cX0_crossingUpwards 17 = .ok (.iaload, 1) := by decide +kernel
theorem dX0_crossingUpwards_18 : decode cX0_crossingUpwards 18 = .ok (.aload_n 0, 1) := by decide +kernel
theorem dX0_crossingUpwards_19 : decode cX0_crossingUpwards 19 = .ok (.getfield 7, 3) := by decide +kernel
theorem dX0_crossingUpwards_22 : decode cX0_crossingUpwards 22 = .ok (.iload_n 3, 1) := by decide +kernel
theorem dX0_crossingUpwards_23 : decode cX0_crossingUpwards 23 = .ok (.iaload, 1) := by decide +kernel
theorem dX0_crossingUpwards_24 : decode cX0_crossingUpwards 24 = .ok (.isub, 1) := by decide +kernel
theorem dX0_crossingUpwards_25 : decode cX0_crossingUpwards 25 = .ok (.iload_n 2, 1) := by decide +kernel
theorem dX0_crossingUpwards_26 : decode cX0_crossingUpwards 26 = .ok (.aload_n 0, 1) := by decide +kernel
theorem dX0_crossingUpwards_27 : decode cX0_crossingUpwards 27 = .ok (.getfield 13, 3) := by decide +kernel
theorem dX0_crossingUpwards_30 : decode cX0_crossingUpwards 30 = .ok (.iload_n 1, 1) := by decide +kernel
theorem dX0_crossingUpwards_31 : decode cX0_crossingUpwards 31 = .ok (.iaload, 1) := by decide +kernel
theorem dX0_crossingUpwards_32 : decode cX0_crossingUpwards 32 = .ok (.isub, 1) := by decide +kernel
theorem dX0_crossingUpwards_33 : decode cX0_crossingUpwards 33 = .ok (.imul, 1) := by decide +kernel
theorem dX0_crossingUpwards_34 : decode cX0_crossingUpwards 34 = .ok (.aload_n 0, 1) := by decide +kernel
theorem dX0_crossingUpwards_35 : decode cX0_crossingUpwards 35 = .ok (.getfield 13, 3) := by decide +kernel
theorem dX0_crossingUpwards_38 : decode cX0_crossingUpwards 38 = .ok (.iload_n 3, 1) := by decide +kernel
theorem dX0_crossingUpwards_39 : decode cX0_crossingUpwards 39 = .ok (.iaload, 1) := by decide +kernel
theorem dX0_crossingUpwards_40 : decode cX0_crossingUpwards 40 = .ok (.aload_n 0, 1) := by decide +kernel
theorem dX0_crossingUpwards_41 : decode cX0_crossingUpwards 41 = .ok (.getfield 13, 3) := by decide +kernel
theorem dX0_crossingUpwards_44 : decode cX0_crossingUpwards 44 = .ok (.iload_n 1, 1) := by decide +kernel
theorem dX0_crossingUpwards_45 : decode cX0_crossingUpwards 45 = .ok (.iaload, 1) := by decide +kernel
theorem dX0_crossingUpwards_46 : decode cX0_crossingUpwards 46 = .ok (.isub, 1) := by decide +kernel
theorem dX0_crossingUpwards_47 : decode cX0_crossingUpwards 47 = .ok (.invokestatic 24, 3) := by decide +kernel
theorem dX0_crossingUpwards_50 : decode cX0_crossingUpwards 50 = .ok (.isub, 1) := by decide +kernel
theorem dX0_crossingUpwards_51 : decode cX0_crossingUpwards 51 = .ok (.ireturn, 1) := by decide +kernel
set_option maxRecDepth 20000 in
theorem ggX1_init_X1_nearest : GoodIn wsX1_init wsX1_nearest := goodIn_r _ [20, 21, 22, 23, 24, 25, 26, 27] (by decide +kernel) (by decide +kernel)
set_option maxRecDepth 20000 in
theorem gX1_init_X1_nearest : GoodIn wsX1_init (va_wsS RX1 9 yX1_nearest wsX1_nearest) := goodIn_app (goodIn_of _ (by decide +kernel)) ggX1_init_X1_nearest
set_option maxRecDepth 20000 in
theorem ggX1_init_X0_init : GoodIn wsX1_init wsX0_init := goodIn_r _ [29, 30, 2, 3, 6, 31, 32, 33, 42, 43, 44] (by decide +kernel) (by decide +kernel)
set_option maxRecDepth 20000 in
theorem gX1_init_X0_init_n33 : GoodIn wsX1_init (wsX0_init) := ggX1_init_X0_init
theorem dX1_init_0 : decode cX1_init 0 = .ok (.aload_n 0, 1) := by decide +kernel
theorem dX1_init_1 : decode cX1_init 1 = .ok (.invokespecial 1, 3) := by decide +kernel
theorem dX1_init_4 : decode cX1_init 4 = .ok (.aload_n 0, 1) := by decide +kernel
theorem dX1_init_5 : decode cX1_init 5 = .ok (.iload_n 1, 1) := by decide +kernel
theorem dX1_init_6 : decode cX1_init 6 = .ok (.iconst 1, 1) := by decide +kernel
theorem dX1_init_7 : decode cX1_init 7 = .ok (.bipush 24, 2) := by decide +kernel
theorem dX1_init_9 : decode cX1_init 9 = .ok (.invokestatic 9, 3) := by decide +kernel
theorem dX1_init_12 : decode cX1_init 12 = .ok (.putfield 13, 3) := by decide +kernel
theorem dX1_init_15 : decode cX1_init 15 = .ok (.aload_n 0, 1) := by decide +kernel
theorem dX1_init_16 : decode cX1_init 16 = .ok (.iload_n 2, 1) := by decide +kernel
theorem dX1_init_17 : decode cX1_init 17 = .ok (.iconst 1, 1) := by decide +kernel
theorem dX1_init_18 : decode cX1_init 18 = .ok (.bipush 24, 2) := by decide +kernel
theorem dX1_init_20 : decode cX1_init 20 = .ok (.invokestatic 9, 3) := by decide +kernel
theorem dX1_init_23 : decode cX1_init 23 = .ok (.putfield 17, 3) := by decide +kernel
theorem dX1_init_26 : decode cX1_init 26 = .ok (.aload_n 0, 1) := by decide +kernel
theorem dX1_init_27 : decode cX1_init 27 = .ok (.aload_n 0, 1) := by decide +kernel
theorem dX1_init_28 : decode cX1_init 28 = .ok (.getfield 13, 3) := by decide +kernel
theorem dX1_init_31 : decode cX1_init 31 = .ok (.aload_n 0, 1) := by decide +kernel
theorem dX1_init_32 : decode cX1_init 32 = .ok (.getfield 17, 3) := by decide +kernel
theorem dX1_init_35 : decode cX1_init 35 = .ok (.imul, 1) := by decide +kernel
theorem dX1_init_36 : decode cX1_init 36 = .ok (.newarray .int, 2) := by decide +kernel
theorem dX1_init_38 : decode cX1_init 38 = .ok (.putfield 20, 3) := by decide +kernel
theorem dX1_init_41 : decode cX1_init 41 = .ok (.aload_n 0, 1) := by decide +kernel
theorem dX1_init_42 : decode cX1_init 42 = .ok (.aload_n 0, 1) := by decide +kernel
theorem dX1_init_43 : decode cX1_init 43 = .ok (.getfield 13, 3) := by decide +kernel
theorem dX1_init_46 : decode cX1_init 46 = .ok (.iconst 1, 1) := by decide +kernel
theorem dX1_init_47 : decode cX1_init 47 = .ok (.iadd, 1) := by decide +kernel
theorem dX1_init_48 : decode cX1_init 48 = .ok (.newarray .boolean, 2) := by decide +kernel
theorem dX1_init_50 : decode cX1_init 50 = .ok (.putfield 24, 3) := by decide +kernel
theorem dX1_init_53 : decode cX1_init 53 = .ok (.aload_n 0, 1) := by decide +kernel
theorem dX1_init_54 : decode cX1_init 54 = .ok (.iconst 4, 1) := by decide +kernel
theorem dX1_init_55 : decode cX1_init 55 = .ok (.newarray .int, 2) := by decide +kernel
theorem dX1_init_57 : decode cX1_init 57 = .ok (.dup, 1) := by decide +kernel
theorem dX1_init_58 : decode cX1_init 58 = .ok (.iconst 0, 1) := by decide +kernel
theorem dX1_init_59 : decode cX1_init 59 = .ok (.sipush (-16384), 3) := by decide +kernel
theorem dX1_init_62 : decode cX1_init 62 = .ok (.iastore, 1) := by decide +kernel
theorem dX1_init_63 : decode cX1_init 63 = .ok (.dup, 1) := by decide +kernel
theorem dX1_init_64 : decode cX1_init 64 = .ok (.iconst 1, 1) := by decide +kernel
theorem dX1_init_65 : decode cX1_init 65 = .ok (.sipush 16384, 3) := by decide +kernel
theorem dX1_init_68 : decode cX1_init 68 = .ok (.iastore, 1) := by decide +kernel
theorem dX1_init_69 : decode cX1_init 69 = .ok (.dup, 1) := by decide +kernel
theorem dX1_init_70 : decode cX1_init 70 = .ok (.iconst 2, 1) := by decide +kernel
theorem dX1_init_71 : decode cX1_init 71 = .ok (.sipush (-16384), 3) := by decide +kernel
theorem dX1_init_74 : decode cX1_init 74 = .ok (.iastore, 1) := by decide +kernel
theorem dX1_init_75 : decode cX1_init 75 = .ok (.dup, 1) := by decide +kernel
theorem dX1_init_76 : decode cX1_init 76 = .ok (.iconst 3, 1) := by decide +kernel
theorem dX1_init_77 : decode cX1_init 77 = .ok (.sipush 16384, 3) := by decide +kernel
theorem dX1_init_80 : decode cX1_init 80 = .ok (.iastore, 1) := by decide +kernel
theorem dX1_init_81 : decode cX1_init 81 = .ok (.putfield 28, 3) := by decide +kernel
theorem dX1_init_84 : decode cX1_init 84 = .ok (.iload_n 3, 1) := by decide +kernel
theorem dX1_init_85 : decode cX1_init 85 = .ok (.iconst 3, 1) := by decide +kernel
theorem dX1_init_86 : decode cX1_init 86 = .ok (.bipush 60, 2) := by decide +kernel
theorem dX1_init_88 : decode cX1_init 88 = .ok (.invokestatic 9, 3) := by decide +kernel
theorem dX1_init_91 : decode cX1_init 91 = .ok (.istore 4, 2) := by decide +kernel
theorem dX1_init_93 : decode cX1_init 93 = .ok (.aload_n 0, 1) := by decide +kernel
theorem dX1_init_94 : decode cX1_init 94 = .ok (.new 31, 3) := by decide +kernel
theorem dX1_init_97 : decode cX1_init 97 = .ok (.dup, 1) := by decide +kernel
theorem dX1_init_98 : decode cX1_init 98 = .ok (.iload 4, 2) := by decide +kernel
theorem dX1_init_100 : decode cX1_init 100 = .ok (.invokespecial 33, 3) := by decide +kernel
theorem dX1_init_103 : decode cX1_init 103 = .ok (.putfield 36, 3) := by decide +kernel
theorem dX1_init_106 : decode cX1_init 106 = .ok (.aload_n 0, 1) := by decide +kernel
theorem dX1_init_107 : decode cX1_init 107 = .ok (.new 31, 3) := by decide +kernel
theorem dX1_init_110 : decode cX1_init 110 = .ok (.dup, 1) := by decide +kernel
theorem dX1_init_111 : decode cX1_init 111 = .ok (.iload 4, 2) := by decide +kernel
theorem dX1_init_113 : decode cX1_init 113 = .ok (.invokespecial 33, 3) := by decide +kernel
theorem dX1_init_116 : decode cX1_init 116 = .ok (.putfield 40, 3) := by decide +kernel
theorem dX1_init_119 : decode cX1_init 119 = .ok (.aload_n 0, 1) := by decide +kernel
theorem dX1_init_120 : decode cX1_init 120 = .ok (.new 31, 3) := by decide +kernel
theorem dX1_init_123 : decode cX1_init 123 = .ok (.dup, 1) := by decide +kernel
theorem dX1_init_124 : decode cX1_init 124 = .ok (.iload 4, 2) := by decide +kernel
theorem dX1_init_126 : decode cX1_init 126 = .ok (.invokespecial 33, 3) := by decide +kernel
theorem dX1_init_129 : decode cX1_init 129 = .ok (.putfield 43, 3) := by decide +kernel
theorem dX1_init_132 : decode cX1_init 132 = .ok (.return_, 1) := by decide +kernel
set_option maxRecDepth 20000 in
theorem ggX1_clear_J7_fill_53178 : GoodIn wsX1_clear wsJ7_fill_53178 := goodIn_r _ [5] (by decide +kernel) (by decide +kernel)
set_option maxRecDepth 20000 in
theorem gX1_clear_J7_fill_53178 : GoodIn wsX1_clear (va_wsS RX1 46 yJ7_fill_53178 wsJ7_fill_53178) := goodIn_app (goodIn_of _ (by decide +kernel)) ggX1_clear_J7_fill_53178
theorem dX1_clear_0 : decode cX1_clear 0 = .ok (.aload_n 0, 1) := by decide +kernel
theorem dX1_clear_1 : decode cX1_clear 1 = .ok (.getfield 20, 3) := by decide +kernel
theorem dX1_clear_4 : decode cX1_clear 4 = .ok (.iload_n 1, 1) := by decide +kernel
theorem dX1_clear_5 : decode cX1_clear 5 = .ok (.invokestatic 46, 3) := by decide +kernel
theorem dX1_clear_8 : decode cX1_clear 8 = .ok (.return_, 1) := by decide +kernel
theorem dX1_begin_0 : decode cX1_begin 0 = .ok (.aload_n 0, 1) := by decide +kernel
theorem dX1_begin_1 : decode cX1_begin 1 = .ok (.getfield 36, 3) := by decide +kernel
theorem dX1_begin_4 : decode cX1_begin 4 = .ok (.iconst 0, 1) := by decide +kernel
theorem dX1_begin_5 : decode cX1_begin 5 = .ok (.putfield 52, 3) := by decide +kernel
theorem dX1_begin_8 : decode cX1_begin 8 = .ok (.return_, 1) := by decide +kernel
set_option maxRecDepth 20000 in
theorem ggX1_vertex_X1_isCoordinate : GoodIn wsX1_vertex wsX1_isCoordinate := goodIn_r _ [5] (by decide +kernel) (by decide +kernel)
set_option maxRecDepth 20000 in
theorem gX1_vertex_X1_isCoordinate : GoodIn wsX1_vertex (va_wsS RX1 55 yX1_isCoordinate wsX1_isCoordinate) := goodIn_app (goodIn_of _ (by decide +kernel)) ggX1_vertex_X1_isCoordinate
set_option maxRecDepth 20000 in
theorem ggX1_vertex_X0_append : GoodIn wsX1_vertex wsX0_append := goodIn_r _ [9, 10, 11, 12, 21, 22, 23] (by decide +kernel) (by decide +kernel)
set_option maxRecDepth 20000 in
theorem gX1_vertex_X0_append_n59 : GoodIn wsX1_vertex (wsX0_append) := ggX1_vertex_X0_append
theorem dX1_vertex_0 : decode cX1_vertex 0 = .ok (.iload_n 1, 1) := by decide +kernel
theorem dX1_vertex_1 : decode cX1_vertex 1 = .ok (.invokestatic 55, 3) := by decide +kernel
theorem dX1_vertex_4 : decode cX1_vertex 4 = .ok (.ifCond .eq 26, 3) := by decide +kernel
theorem dX1_vertex_7 : decode cX1_vertex 7 = .ok (.iload_n 2, 1) := by decide +kernel
theorem dX1_vertex_8 : decode cX1_vertex 8 = .ok (.invokestatic 55, 3) := by decide +kernel
theorem dX1_vertex_11 : decode cX1_vertex 11 = .ok (.ifCond .eq 19, 3) := by decide +kernel
theorem dX1_vertex_14 : decode cX1_vertex 14 = .ok (.aload_n 0, 1) := by decide +kernel
theorem dX1_vertex_15 : decode cX1_vertex 15 = .ok (.getfield 36, 3) := by decide +kernel
theorem dX1_vertex_18 : decode cX1_vertex 18 = .ok (.iload_n 1, 1) := by decide +kernel
theorem dX1_vertex_19 : decode cX1_vertex 19 = .ok (.iload_n 2, 1) := by decide +kernel
theorem dX1_vertex_20 : decode cX1_vertex 20 = .ok (.invokevirtual 59, 3) := by decide +kernel
theorem dX1_vertex_23 : decode cX1_vertex 23 = .ok (.ifCond .eq 7, 3) := by decide +kernel
theorem dX1_vertex_26 : decode cX1_vertex 26 = .ok (.iconst 1, 1) := by decide +kernel
theorem dX1_vertex_27 : decode cX1_vertex 27 = .ok (.goto 4, 3) := by decide +kernel
theorem dX1_vertex_30 : decode cX1_vertex 30 = .ok (.iconst 0, 1) := by decide +kernel
theorem dX1_vertex_31 : decode cX1_vertex 31 = .ok (.ireturn, 1) := by decide +kernel
set_option maxRecDepth 20000 in
theorem ggX1_setClip_X1_isRange : GoodIn wsX1_setClip wsX1_isRange := goodIn_r _ [5, 6, 7, 4, 8] (by decide +kernel) (by decide +kernel)
set_option maxRecDepth 20000 in
theorem gX1_setClip_X1_isRange : GoodIn wsX1_setClip (va_wsS RX1 63 yX1_isRange wsX1_isRange) := goodIn_app (goodIn_of _ (by decide +kernel)) ggX1_setClip_X1_isRange
theorem dX1_setClip_0 : decode cX1_setClip 0 = .ok (.iload_n 1, 1) := by decide +kernel
theorem dX1_setClip_1 : decode cX1_setClip 1 = .ok (.iload_n 3, 1) := by decide +kernel
theorem dX1_setClip_2 : decode cX1_setClip 2 = .ok (.invokestatic 63, 3) := by decide +kernel
theorem dX1_setClip_5 : decode cX1_setClip 5 = .ok (.ifCond .eq 12, 3) := by decide +kernel
theorem dX1_setClip_8 : decode cX1_setClip 8 = .ok (.iload_n 2, 1) := by decide +kernel
theorem dX1_setClip_9 : decode cX1_setClip 9 = .ok (.iload 4, 2) := by decide +kernel
theorem dX1_setClip_11 : decode cX1_setClip 11 = .ok (.invokestatic 63, 3) := by decide +kernel
theorem dX1_setClip_14 : decode cX1_setClip 14 = .ok (.ifCond .ne 5, 3) := by decide +kernel
theorem dX1_setClip_17 : decode cX1_setClip 17 = .ok (.iconst 0, 1) := by decide +kernel
theorem dX1_setClip_18 : decode cX1_setClip 18 = .ok (.ireturn, 1) := by decide +kernel
theorem dX1_setClip_19 : decode cX1_setClip 19 = .ok (.aload_n 0, 1) := by decide +kernel
theorem dX1_setClip_20 : decode cX1_setClip 20 = .ok (.getfield 28, 3) := by decide +kernel
theorem dX1_setClip_23 : decode cX1_setClip 23 = .ok (.iconst 0, 1) := by decide +kernel
theorem dX1_setClip_24 : decode cX1_setClip 24 = .ok (.iload_n 1, 1) := by decide +kernel
theorem dX1_setClip_25 : decode cX1_setClip 25 = .ok (.iastore, 1) := by decide +kernel
theorem dX1_setClip_26 : decode cX1_setClip 26 = .ok (.aload_n 0, 1) := by decide +kernel
theorem dX1_setClip_27 : decode cX1_setClip 27 = .ok (.getfield 28, 3) := by decide +kernel
theorem dX1_setClip_30 : decode cX1_setClip 30 = .ok (.iconst 1, 1) := by decide +kernel
theorem dX1_setClip_31 : decode cX1_setClip 31 = .ok (.iload_n 3, 1) := by decide +kernel
theorem dX1_setClip_32 : decode cX1_setClip 32 = .ok (.iastore, 1) := by decide +kernel
theorem dX1_setClip_33 : decode cX1_setClip 33 = .ok (.aload_n 0, 1) := by decide +kernel
theorem dX1_setClip_34 : decode cX1_setClip 34 = .ok (.getfield 28, 3) := by decide +kernel
theorem dX1_setClip_37 : decode cX1_setClip 37 = .ok (.iconst 2, 1) := by decide +kernel
theorem dX1_setClip_38 : decode cX1_setClip 38 = .ok (.iload_n 2, 1) := by decide +kernel
theorem dX1_setClip_39 : decode cX1_setClip 39 = .ok (.iastore, 1) := by decide +kernel
theorem dX1_setClip_40 : decode cX1_setClip 40 = .ok (.aload_n 0, 1) := by decide +kernel
theorem dX1_setClip_41 : decode cX1_setClip 41 = .ok (.getfield 28, 3) := by decide +kernel
theorem dX1_setClip_44 : decode cX1_setClip 44 = .ok (.iconst 3, 1) := by decide +kernel
theorem dX1_setClip_45 : decode cX1_setClip 45 = .ok (.iload 4, 2) := by decide +kernel
theorem dX1_setClip_47 : decode cX1_setClip 47 = .ok (.iastore, 1) := by decide +kernel
theorem dX1_setClip_48 : decode cX1_setClip 48 = .ok (.iconst 1, 1) := by decide +kernel
theorem dX1_setClip_49 : decode cX1_setClip 49 = .ok (.ireturn, 1) := by decide +kernel
set_option maxRecDepth 20000 in
theorem ggX1_clip_X1_pass : GoodIn wsX1_clip wsX1_pass := goodIn_r _ [9, 2, 10, 11, 12, 13, 14, 15, 16, 17, 18, 8, 19, 20, 21, 22, 23, 24, 25, 26, 27, 28, 29, 30, 31, 32, 33, 34, 35, 36, 37, 38, 39, 40, 41] (by decide +kernel) (by decide +kernel)
set_option maxRecDepth 20000 in
theorem gX1_clip_X1_pass : GoodIn wsX1_clip (wsV RX1 66 RX1 yX1_pass wsX1_pass) := goodIn_app (goodIn_of _ (by decide +kernel)) ggX1_clip_X1_pass
theorem dX1_clip_0 : decode cX1_clip 0 = .ok (.aload_n 0, 1) := by decide +kernel
theorem dX1_clip_1 : decode cX1_clip 1 = .ok (.getfield 36, 3) := by decide +kernel
theorem dX1_clip_4 : decode cX1_clip 4 = .ok (.astore_n 1, 1) := by decide +kernel
theorem dX1_clip_5 : decode cX1_clip 5 = .ok (.iconst 0, 1) := by decide +kernel
theorem dX1_clip_6 : decode cX1_clip 6 = .ok (.istore_n 2, 1) := by decide +kernel
theorem dX1_clip_7 : decode cX1_clip 7 = .ok (.iload_n 2, 1) := by decide +kernel
theorem dX1_clip_8 : decode cX1_clip 8 = .ok (.aload_n 0, 1) := by decide +kernel
theorem dX1_clip_9 : decode cX1_clip 9 = .ok (.getfield 28, 3) := by decide +kernel
theorem dX1_clip_12 : decode cX1_clip 12 = .ok (.arraylength, 1) := by decide +kernel
theorem dX1_clip_13 : decode cX1_clip 13 = .ok (.if_icmp .ge 41, 3) := by decide +kernel
theorem dX1_clip_16 : decode cX1_clip 16 = .ok (.iload_n 2, 1) := by decide +kernel
theorem dX1_clip_17 : decode cX1_clip 17 = .ok (.iconst 2, 1) := by decide +kernel
theorem dX1_clip_18 : decode cX1_clip 18 = .ok (.irem, 1) := by decide +kernel
theorem dX1_clip_19 : decode cX1_clip 19 = .ok (.ifCond .ne 10, 3) := by decide +kernel
theorem dX1_clip_22 : decode cX1_clip 22 = .ok (.aload_n 0, 1) := by decide +kernel
theorem dX1_clip_23 : decode cX1_clip 23 = .ok (.getfield 40, 3) := by decide +kernel
theorem dX1_clip_26 : decode cX1_clip 26 = .ok (.goto 7, 3) := by decide +kernel
theorem dX1_clip_29 : decode cX1_clip 29 = .ok (.aload_n 0, 1) := by decide +kernel
theorem dX1_clip_30 : decode cX1_clip 30 = .ok (.getfield 43, 3) := by decide +kernel
theorem dX1_clip_33 : decode cX1_clip 33 = .ok (.astore_n 3, 1) := by decide +kernel
theorem dX1_clip_34 : decode cX1_clip 34 = .ok (.aload_n 0, 1) := by decide +kernel
theorem dX1_clip_35 : decode cX1_clip 35 = .ok (.aload_n 1, 1) := by decide +kernel
theorem dX1_clip_36 : decode cX1_clip 36 = .ok (.aload_n 3, 1) := by decide +kernel
theorem dX1_clip_37 : decode cX1_clip 37 = .ok (.iload_n 2, 1) := by decide +kernel
theorem dX1_clip_38 : decode cX1_clip 38 = .ok (.invokevirtual 66, 3) := by decide +kernel
theorem dX1_clip_41 : decode cX1_clip 41 = .ok (.ifCond .ne 5, 3) := by decide +kernel
theorem dX1_clip_44 : decode cX1_clip 44 = .ok (.iconst (-1), 1) := by decide +kernel
theorem dX1_clip_45 : decode cX1_clip 45 = .ok (.ireturn, 1) := by decide +kernel
theorem dX1_clip_46 : decode cX1_clip 46 = .ok (.aload_n 3, 1) := by decide +kernel
theorem dX1_clip_47 : decode cX1_clip 47 = .ok (.astore_n 1, 1) := by decide +kernel
theorem dX1_clip_48 : decode cX1_clip 48 = .ok (.iinc 2 1, 3) := by decide +kernel
theorem dX1_clip_51 : decode cX1_clip 51 = .ok (.goto (-44), 3) := by decide +kernel
theorem dX1_clip_54 : decode cX1_clip 54 = .ok (.aload_n 0, 1) := by decide +kernel
theorem dX1_clip_55 : decode cX1_clip 55 = .ok (.aload_n 0, 1) := by decide +kernel
theorem dX1_clip_56 : decode cX1_clip 56 = .ok (.getfield 36, 3) := by decide +kernel
theorem dX1_clip_59 : decode cX1_clip 59 = .ok (.putfield 43, 3) := by decide +kernel
theorem dX1_clip_62 : decode cX1_clip 62 = .ok (.aload_n 0, 1) := by decide +kernel
theorem dX1_clip_63 : decode cX1_clip 63 = .ok (.aload_n 1, 1) := by decide +kernel
theorem dX1_clip_64 : decode cX1_clip 64 = .ok (.putfield 36, 3) := by decide +kernel
theorem dX1_clip_67 : decode cX1_clip 67 = .ok (.aload_n 0, 1) := by decide +kernel
theorem dX1_clip_68 : decode cX1_clip 68 = .ok (.getfield 36, 3) := by decide +kernel
theorem dX1_clip_71 : decode cX1_clip 71 = .ok (.getfield 52, 3) := by decide +kernel
theorem dX1_clip_74 : decode cX1_clip 74 = .ok (.ireturn, 1) := by decide +kernel
set_option maxRecDepth 20000 in
theorem ggX1_vx_X0_has : GoodIn wsX1_vx wsX0_has := goodIn_r _ [5, 6, 15, 16, 17] (by decide +kernel) (by decide +kernel)
set_option maxRecDepth 20000 in
theorem gX1_vx_X0_has_n70 : GoodIn wsX1_vx (wsX0_has) := ggX1_vx_X0_has
theorem dX1_vx_0 : decode cX1_vx 0 = .ok (.aload_n 0, 1) := by decide +kernel
theorem dX1_vx_1 : decode cX1_vx 1 = .ok (.getfield 36, 3) := by decide +kernel
theorem dX1_vx_4 : decode cX1_vx 4 = .ok (.iload_n 1, 1) := by decide +kernel
theorem dX1_vx_5 : decode cX1_vx 5 = .ok (.invokevirtual 70, 3) := by decide +kernel
theorem dX1_vx_8 : decode cX1_vx 8 = .ok (.ifCond .eq 15, 3) := by decide +kernel
theorem dX1_vx_11 : decode cX1_vx 11 = .ok (.aload_n 0, 1) := by decide +kernel
theorem dX1_vx_12 : decode cX1_vx 12 = .ok (.getfield 36, 3) := by decide +kernel
theorem dX1_vx_15 : decode cX1_vx 15 = .ok (.getfield 73, 3) := by decide +kernel
theorem dX1_vx_18 : decode cX1_vx 18 = .ok (.iload_n 1, 1) := by decide +kernel
theorem dX1_vx_19 : decode cX1_vx 19 = .ok (.iaload, 1) := by decide +kernel
theorem dX1_vx_20 : decode cX1_vx 20 = .ok (.goto 6, 3) := by decide +kernel
theorem dX1_vx_23 : decode cX1_vx 23 = .ok (.sipush (-32768), 3) := by decide +kernel
theorem dX1_vx_26 : decode cX1_vx 26 = .ok (.ireturn, 1) := by decide +kernel
set_option maxRecDepth 20000 in
theorem ggX1_vy_X0_has : GoodIn wsX1_vy wsX0_has := goodIn_r _ [5, 6, 15, 16, 17] (by decide +kernel) (by decide +kernel)
set_option maxRecDepth 20000 in
theorem gX1_vy_X0_has_n70 : GoodIn wsX1_vy (wsX0_has) := ggX1_vy_X0_has
theorem dX1_vy_0 : decode cX1_vy 0 = .ok (.aload_n 0, 1) := by decide +kernel
theorem dX1_vy_1 : decode cX1_vy 1 = .ok (.getfield 36, 3) := by decide +kernel
theorem dX1_vy_4 : decode cX1_vy 4 = .ok (.iload_n 1, 1) := by decide +kernel
theorem dX1_vy_5 : decode cX1_vy 5 = .ok (.invokevirtual 70, 3) := by decide +kernel
theorem dX1_vy_8 : decode cX1_vy 8 = .ok (.ifCond .eq 15, 3) := by decide +kernel
theorem dX1_vy_11 : decode cX1_vy 11 = .ok (.aload_n 0, 1) := by decide +kernel
theorem dX1_vy_12 : decode cX1_vy 12 = .ok (.getfield 36, 3) := by decide +kernel
theorem dX1_vy_15 : decode cX1_vy 15 = .ok (.getfield 76, 3) := by decide +kernel
theorem dX1_vy_18 : decode cX1_vy 18 = .ok (.iload_n 1, 1) := by decide +kernel
theorem dX1_vy_19 : decode cX1_vy 19 = .ok (.iaload, 1) := by decide +kernel
theorem dX1_vy_20 : decode cX1_vy 20 = .ok (.goto 6, 3) := by decide +kernel
theorem dX1_vy_23 : decode cX1_vy 23 = .ok (.sipush (-32768), 3) := by decide +kernel
theorem dX1_vy_26 : decode cX1_vy 26 = .ok (.ireturn, 1) := by decide +kernel
set_option maxRecDepth 20000 in
theorem ggX1_fill_X1_markTurns : GoodIn wsX1_fill wsX1_markTurns := goodIn_r _ [6, 7, 8, 9, 10, 11, 12, 13, 14, 15, 16, 17, 18, 19, 20, 21, 22, 23, 24, 25, 26, 27, 28, 29, 5, 30, 31, 32, 33, 34, 35, 36, 37, 43, 44, 45, 46, 47, 48, 49, 50, 51, 52, 53] (by decide +kernel) (by decide +kernel)
set_option maxRecDepth 20000 in
theorem gX1_fill_X1_markTurns : GoodIn wsX1_fill (wsV RX1 79 RX1 yX1_markTurns wsX1_markTurns) := goodIn_app (goodIn_of _ (by decide +kernel)) ggX1_fill_X1_markTurns
set_option maxRecDepth 20000 in
theorem ggX1_fill_X1_fillLine : GoodIn wsX1_fill wsX1_fillLine := goodIn_r _ [41, 7, 8, 42, 43, 44, 45, 46, 47, 48, 49, 50] (by decide +kernel) (by decide +kernel)
set_option maxRecDepth 20000 in
theorem gX1_fill_X1_fillLine : GoodIn wsX1_fill (wsV RX1 82 RX1 yX1_fillLine wsX1_fillLine) := goodIn_app (goodIn_of _ (by decide +kernel)) ggX1_fill_X1_fillLine
theorem dX1_fill_0 : decode cX1_fill 0 = .ok (.iconst 0, 1) := by decide +kernel
theorem dX1_fill_1 : decode cX1_fill 1 = .ok (.istore_n 2, 1) := by decide +kernel
theorem dX1_fill_2 : decode cX1_fill 2 = .ok (.iconst 0, 1) := by decide +kernel
theorem dX1_fill_3 : decode cX1_fill 3 = .ok (.istore_n 3, 1) := by decide +kernel
theorem dX1_fill_4 : decode cX1_fill 4 = .ok (.iload_n 3, 1) := by decide +kernel
theorem dX1_fill_5 : decode cX1_fill 5 = .ok (.aload_n 0, 1) := by decide +kernel
theorem dX1_fill_6 : decode cX1_fill 6 = .ok (.getfield 17, 3) := by decide +kernel
theorem dX1_fill_9 : decode cX1_fill 9 = .ok (.if_icmp .ge 23, 3) := by decide +kernel
theorem dX1_fill_12 : decode cX1_fill 12 = .ok (.aload_n 0, 1) := by decide +kernel
theorem dX1_fill_13 : decode cX1_fill 13 = .ok (.iload_n 3, 1) := by decide +kernel
theorem dX1_fill_14 : decode cX1_fill 14 = .ok (.invokevirtual 79, 3) := by decide +kernel
theorem dX1_fill_17 : decode cX1_fill 17 = .ok (.iload_n 2, 1) := by decide +kernel
theorem dX1_fill_18 : decode cX1_fill 18 = .ok (.aload_n 0, 1) := by decide +kernel
theorem dX1_fill_19 : decode cX1_fill 19 = .ok (.iload_n 3, 1) := by decide +kernel
theorem dX1_fill_20 : decode cX1_fill 20 = .ok (.iload_n 1, 1) := by decide +kernel
theorem dX1_fill_21 : decode cX1_fill 21 = .ok (.invokevirtual 82, 3) := by decide +kernel
theorem dX1_fill_24 : decode cX1_fill 24 = .ok (.iadd, 1) := by decide +kernel
theorem dX1_fill_25 : decode cX1_fill 25 = .ok (.istore_n 2, 1) := by decide +kernel
theorem dX1_fill_26 : decode cX1_fill 26 = .ok (.iinc 3 1, 3) := by decide +kernel
theorem dX1_fill_29 : decode cX1_fill 29 = .ok (.goto (-25), 3) := by decide +kernel
theorem dX1_fill_32 : decode cX1_fill 32 = .ok (.iload_n 2, 1) := by decide +kernel
theorem dX1_fill_33 : decode cX1_fill 33 = .ok (.ireturn, 1) := by decide +kernel
set_option maxRecDepth 20000 in
theorem ggX1_inside_X0_edgeMeets : GoodIn wsX1_inside wsX0_edgeMeets := goodIn_r _ [5, 6, 7, 8, 9, 3, 10, 11, 28, 29, 30] (by decide +kernel) (by decide +kernel)
set_option maxRecDepth 20000 in
theorem gX1_inside_X0_edgeMeets_n86 : GoodIn wsX1_inside (wsX0_edgeMeets) := ggX1_inside_X0_edgeMeets
set_option maxRecDepth 20000 in
theorem ggX1_inside_X0_crossingUpwards : GoodIn wsX1_inside wsX0_crossingUpwards := goodIn_r _ [14, 15, 6, 7, 8, 9, 3, 10, 11, 16, 17, 18, 19, 28, 29, 30] (by decide +kernel) (by decide +kernel)
set_option maxRecDepth 20000 in
theorem gX1_inside_X0_crossingUpwards_n89 : GoodIn wsX1_inside (wsX0_crossingUpwards) := ggX1_inside_X0_crossingUpwards
theorem dX1_inside_0 : decode cX1_inside 0 = .ok (.iconst 0, 1) := by decide +kernel
theorem dX1_inside_1 : decode cX1_inside 1 = .ok (.istore_n 3, 1) := by decide +kernel
theorem dX1_inside_2 : decode cX1_inside 2 = .ok (.iconst 0, 1) := by decide +kernel
theorem dX1_inside_3 : decode cX1_inside 3 = .ok (.istore 4, 2) := by decide +kernel
theorem dX1_inside_5 : decode cX1_inside 5 = .ok (.iload 4, 2) := by decide +kernel
theorem dX1_inside_7 : decode cX1_inside 7 = .ok (.aload_n 0, 1) := by decide +kernel
theorem dX1_inside_8 : decode cX1_inside 8 = .ok (.getfield 36, 3) := by decide +kernel
theorem dX1_inside_11 : decode cX1_inside 11 = .ok (.getfield 52, 3) := by decide +kernel
theorem dX1_inside_14 : decode cX1_inside 14 = .ok (.if_icmp .ge 46, 3) := by decide +kernel
theorem dX1_inside_17 : decode cX1_inside 17 = .ok (.aload_n 0, 1) := by decide +kernel
theorem dX1_inside_18 : decode cX1_inside 18 = .ok (.getfield 36, 3) := by decide +kernel
theorem dX1_inside_21 : decode cX1_inside 21 = .ok (.iload 4, 2) := by decide +kernel
theorem dX1_inside_23 : decode cX1_inside 23 = .ok (.iload_n 2, 1) := by decide +kernel
theorem dX1_inside_24 : decode cX1_inside 24 = .ok (.invokevirtual 86, 3) := by decide +kernel
theorem dX1_inside_27 : decode cX1_inside 27 = .ok (.ifCond .eq 27, 3) := by decide +kernel
theorem dX1_inside_30 : decode cX1_inside 30 = .ok (.aload_n 0, 1) := by decide +kernel
theorem dX1_inside_31 : decode cX1_inside 31 = .ok (.getfield 36, 3) := by decide +kernel
theorem dX1_inside_34 : decode cX1_inside 34 = .ok (.iload 4, 2) := by decide +kernel
theorem dX1_inside_36 : decode cX1_inside 36 = .ok (.iload_n 2, 1) := by decide +kernel
theorem dX1_inside_37 : decode cX1_inside 37 = .ok (.invokevirtual 89, 3) := by decide +kernel
theorem dX1_inside_40 : decode cX1_inside 40 = .ok (.iload_n 1, 1) := by decide +kernel
theorem dX1_inside_41 : decode cX1_inside 41 = .ok (.if_icmp .le 13, 3) := by decide +kernel
theorem dX1_inside_44 : decode cX1_inside 44 = .ok (.iload_n 3, 1) := by decide +kernel
theorem dX1_inside_45 : decode cX1_inside 45 = .ok (.ifCond .ne 7, 3) := by decide +kernel
theorem dX1_inside_48 : decode cX1_inside 48 = .ok (.iconst 1, 1) := by decide +kernel
theorem dX1_inside_49 : decode cX1_inside 49 = .ok (.goto 4, 3) := by decide +kernel
theorem dX1_inside_52 : decode cX1_inside 52 = .ok (.iconst 0, 1) := by decide +kernel
theorem dX1_inside_53 : decode cX1_inside 53 = .ok (.istore_n 3, 1) := by decide +kernel
theorem dX1_inside_54 : decode cX1_inside 54 = .ok (.iinc 4 1, 3) := by decide +kernel
theorem dX1_inside_57 : decode cX1_inside 57 = .ok (.goto (-52), 3) := by decide +kernel
theorem dX1_inside_60 : decode cX1_inside 60 = .ok (.iload_n 3, 1) := by decide +kernel
theorem dX1_inside_61 : decode cX1_inside 61 = .ok (.ireturn, 1) := by decide +kernel
theorem dX1_pixel_0 : decode cX1_pixel 0 = .ok (.iload_n 1, 1) := by decide +kernel
theorem dX1_pixel_1 : decode cX1_pixel 1 = .ok (.ifCond .lt 23, 3) := by decide +kernel
theorem dX1_pixel_4 : decode cX1_pixel 4 = .ok (.iload_n 1, 1) := by decide +kernel
theorem dX1_pixel_5 : decode cX1_pixel 5 = .ok (.aload_n 0, 1) := by decide +kernel
theorem dX1_pixel_6 : decode cX1_pixel 6 = .ok (.getfield 13, 3) := by decide +kernel
theorem dX1_pixel_9 : decode cX1_pixel 9 = .ok (.if_icmp .ge 15, 3) := by decide +kernel
theorem dX1_pixel_12 : decode cX1_pixel 12 = .ok (.iload_n 2, 1) := by decide +kernel
theorem dX1_pixel_13 : decode cX1_pixel 13 = .ok (.ifCond .lt 11, 3) := by decide +kernel
theorem dX1_pixel_16 : decode cX1_pixel 16 = .ok (.iload_n 2, 1) := by decide +kernel
theorem dX1_pixel_17 : decode cX1_pixel 17 = .ok (.aload_n 0, 1) := by decide +kernel
theorem dX1_pixel_18 : decode cX1_pixel 18 = .ok (.getfield 17, 3) := by decide +kernel
theorem dX1_pixel_21 : decode cX1_pixel 21 = .ok (.if_icmp .lt 5, 3) := by decide +kernel
theorem dX1_pixel_24 : decode cX1_pixel 24 = .ok (.iconst (-1), 1) := by decide +kernel
theorem dX1_pixel_25 : decode cX1_pixel 25 = .ok (.ireturn, 1) := by decide +kernel
theorem dX1_pixel_26 : decode cX1_pixel 26 = .ok (.aload_n 0, 1) := by decide +kernel
theorem dX1_pixel_27 : decode cX1_pixel 27 = .ok (.getfield 20, 3) := by decide +kernel
theorem dX1_pixel_30 : decode cX1_pixel 30 = .ok (.iload_n 2, 1) := by decide +kernel
theorem dX1_pixel_31 : decode cX1_pixel 31 = .ok (.aload_n 0, 1) := by decide +kernel
theorem dX1_pixel_32 : decode cX1_pixel 32 = .ok (.getfield 13, 3) := by decide +kernel
theorem dX1_pixel_35 : decode cX1_pixel 35 = .ok (.imul, 1) := by decide +kernel
theorem dX1_pixel_36 : decode cX1_pixel 36 = .ok (.iload_n 1, 1) := by decide +kernel
theorem dX1_pixel_37 : decode cX1_pixel 37 = .ok (.iadd, 1) := by decide +kernel
theorem dX1_pixel_38 : decode cX1_pixel 38 = .ok (.iaload, 1) := by decide +kernel
theorem dX1_pixel_39 : decode cX1_pixel 39 = .ok (.ireturn, 1) := by decide +kernel
theorem dX1_vertices_0 : decode cX1_vertices 0 = .ok (.aload_n 0, 1) := by decide +kernel
theorem dX1_vertices_1 : decode cX1_vertices 1 = .ok (.getfield 36, 3) := by decide +kernel
theorem dX1_vertices_4 : decode cX1_vertices 4 = .ok (.getfield 52, 3) := by decide +kernel
theorem dX1_vertices_7 : decode cX1_vertices 7 = .ok (.ireturn, 1) := by decide +kernel
theorem dX1_nearest_0 : decode cX1_nearest 0 = .ok (.iload_n 1, 1) := by decide +kernel
theorem dX1_nearest_1 : decode cX1_nearest 1 = .ok (.iload_n 2, 1) := by decide +kernel
theorem dX1_nearest_2 : decode cX1_nearest 2 = .ok (.iload_n 0, 1) := by decide +kernel
theorem dX1_nearest_3 : decode cX1_nearest 3 = .ok (.invokestatic 92, 3) := by decide +kernel
theorem dX1_nearest_6 : decode cX1_nearest 6 = .ok (.invokestatic 97, 3) := by decide +kernel
theorem dX1_nearest_9 : decode cX1_nearest 9 = .ok (.ireturn, 1) := by decide +kernel
theorem dX1_isCoordinate_0 : decode cX1_isCoordinate 0 = .ok (.iload_n 0, 1) := by decide +kernel
theorem dX1_isCoordinate_1 : decode cX1_isCoordinate 1 = .ok (.sipush (-16384), 3) := by decide +kernel
theorem dX1_isCoordinate_4 : decode cX1_isCoordinate 4 = .ok (.if_icmp .lt 14, 3) := by decide +kernel
theorem dX1_isCoordinate_7 : decode cX1_isCoordinate 7 = .ok (.iload_n 0, 1) := by decide +kernel
theorem dX1_isCoordinate_8 : decode cX1_isCoordinate 8 = .ok (.sipush 16384, 3) := by decide +kernel
theorem dX1_isCoordinate_11 : decode cX1_isCoordinate 11 = .ok (.if_icmp .gt 7, 3) := by decide +kernel
theorem dX1_isCoordinate_14 : decode cX1_isCoordinate 14 = .ok (.iconst 1, 1) := by decide +kernel
theorem dX1_isCoordinate_15 : decode cX1_isCoordinate 15 = .ok (.goto 4, 3) := by decide +kernel
theorem dX1_isCoordinate_18 : decode cX1_isCoordinate 18 = .ok (.iconst 0, 1) := by decide +kernel
theorem dX1_isCoordinate_19 : decode cX1_isCoordinate 19 = .ok (.ireturn, 1) := by decide +kernel
set_option maxRecDepth 20000 in
theorem ggX1_isRange_X1_isCoordinate : GoodIn wsX1_isRange wsX1_isCoordinate := goodIn_r _ [4] (by decide +kernel) (by decide +kernel)
set_option maxRecDepth 20000 in
theorem gX1_isRange_X1_isCoordinate : GoodIn wsX1_isRange (va_wsS RX1 55 yX1_isCoordinate wsX1_isCoordinate) := goodIn_app (goodIn_of _ (by decide +kernel)) ggX1_isRange_X1_isCoordinate
theorem dX1_isRange_0 : decode cX1_isRange 0 = .ok (.iload_n 0, 1) := by decide +kernel
theorem dX1_isRange_1 : decode cX1_isRange 1 = .ok (.invokestatic 55, 3) := by decide +kernel
theorem dX1_isRange_4 : decode cX1_isRange 4 = .ok (.ifCond .eq 19, 3) := by decide +kernel
theorem dX1_isRange_7 : decode cX1_isRange 7 = .ok (.iload_n 1, 1) := by decide +kernel
theorem dX1_isRange_8 : decode cX1_isRange 8 = .ok (.invokestatic 55, 3) := by decide +kernel
theorem dX1_isRange_11 : decode cX1_isRange 11 = .ok (.ifCond .eq 12, 3) := by decide +kernel
theorem dX1_isRange_14 : decode cX1_isRange 14 = .ok (.iload_n 0, 1) := by decide +kernel
theorem dX1_isRange_15 : decode cX1_isRange 15 = .ok (.iload_n 1, 1) := by decide +kernel
theorem dX1_isRange_16 : decode cX1_isRange 16 = .ok (.if_icmp .gt 7, 3) := by decide +kernel
theorem dX1_isRange_19 : decode cX1_isRange 19 = .ok (.iconst 1, 1) := by decide +kernel
theorem dX1_isRange_20 : decode cX1_isRange 20 = .ok (.goto 4, 3) := by decide +kernel
theorem dX1_isRange_23 : decode cX1_isRange 23 = .ok (.iconst 0, 1) := by decide +kernel
theorem dX1_isRange_24 : decode cX1_isRange 24 = .ok (.ireturn, 1) := by decide +kernel
set_option maxRecDepth 20000 in
theorem ggX1_pass_X0_axis : GoodIn wsX1_pass wsX0_axis := goodIn_r _ [5, 6, 7, 32, 33, 34] (by decide +kernel) (by decide +kernel)
set_option maxRecDepth 20000 in
theorem gX1_pass_X0_axis_n100 : GoodIn wsX1_pass (wsX0_axis) := ggX1_pass_X0_axis
set_option maxRecDepth 20000 in
theorem ggX1_pass_X1_isGood : GoodIn wsX1_pass wsX1_isGood := goodIn_r _ [12, 1, 24, 25, 26, 27, 28, 29, 30, 31] (by decide +kernel) (by decide +kernel)
set_option maxRecDepth 20000 in
theorem gX1_pass_X1_isGood : GoodIn wsX1_pass (wsV RX1 104 RX1 yX1_isGood wsX1_isGood) := goodIn_app (goodIn_of _ (by decide +kernel)) ggX1_pass_X1_isGood
set_option maxRecDepth 20000 in
theorem ggX1_pass_X1_cutAcross : GoodIn wsX1_pass wsX1_cutAcross := goodIn_r _ [15, 16, 17, 18, 19] (by decide +kernel) (by decide +kernel)
set_option maxRecDepth 20000 in
theorem gX1_pass_X1_cutAcross : GoodIn wsX1_pass (va_wsS RX1 107 yX1_cutAcross wsX1_cutAcross) := goodIn_app (goodIn_of _ (by decide +kernel)) ggX1_pass_X1_cutAcross
set_option maxRecDepth 20000 in
theorem ggX1_pass_X0_append : GoodIn wsX1_pass wsX0_append := goodIn_r _ [22, 23, 6, 7, 32, 33, 34] (by decide +kernel) (by decide +kernel)
set_option maxRecDepth 20000 in
theorem gX1_pass_X0_append_n59 : GoodIn wsX1_pass (wsX0_append) := ggX1_pass_X0_append
theorem dX1_pass_0 : decode cX1_pass 0 = .ok (.iload_n 3, 1) := by decide +kernel
theorem dX1_pass_1 : decode cX1_pass 1 = .ok (.iconst 2, 1) := by decide +kernel
theorem dX1_pass_2 : decode cX1_pass 2 = .ok (.if_icmp .ge 7, 3) := by decide +kernel
theorem dX1_pass_5 : decode cX1_pass 5 = .ok (.iconst 1, 1) := by decide +kernel
theorem dX1_pass_6 : decode cX1_pass 6 = .ok (.goto 4, 3) := by decide +kernel
theorem dX1_pass_9 : decode cX1_pass 9 = .ok (.iconst 0, 1) := by decide +kernel
theorem dX1_pass_10 : decode cX1_pass 10 = .ok (.istore 4, 2) := by decide +kernel
theorem dX1_pass_12 : decode cX1_pass 12 = .ok (.aload_n 1, 1) := by decide +kernel
theorem dX1_pass_13 : decode cX1_pass 13 = .ok (.iload 4, 2) := by decide +kernel
theorem dX1_pass_15 : decode cX1_pass 15 = .ok (.invokevirtual 100, 3) := by decide +kernel
theorem dX1_pass_18 : decode cX1_pass 18 = .ok (.astore 5, 2) := by decide +kernel
theorem dX1_pass_20 : decode cX1_pass 20 = .ok (.aload_n 1, 1) := by decide +kernel
theorem dX1_pass_21 : decode cX1_pass 21 = .ok (.iload 4, 2) := by decide +kernel
theorem dX1_pass_23 : decode cX1_pass 23 = .ok (.ifCond .ne 7, 3) := by decide +kernel
theorem dX1_pass_26 : decode cX1_pass 26 = .ok (.iconst 1, 1) := by decide +kernel
theorem dX1_pass_27 : decode cX1_pass 27 = .ok (.goto 4, 3) := by decide +kernel
theorem dX1_pass_30 : decode cX1_pass 30 = .ok (.iconst 0, 1) := by decide +kernel
theorem dX1_pass_31 : decode cX1_pass 31 = .ok (.invokevirtual 100, 3) := by decide +kernel
theorem dX1_pass_34 : decode cX1_pass 34 = .ok (.astore 6, 2) := by decide +kernel
theorem dX1_pass_36 : decode cX1_pass 36 = .ok (.aload_n 0, 1) := by decide +kernel
theorem dX1_pass_37 : decode cX1_pass 37 = .ok (.getfield 28, 3) := by decide +kernel
theorem dX1_pass_40 : decode cX1_pass 40 = .ok (.iload_n 3, 1) := by decide +kernel
theorem dX1_pass_41 : decode cX1_pass 41 = .ok (.iaload, 1) := by decide +kernel
theorem dX1_pass_42 : decode cX1_pass 42 = .ok (.istore 7, 2) := by decide +kernel
theorem dX1_pass_44 : decode cX1_pass 44 = .ok (.aload_n 2, 1) := by decide +kernel
theorem dX1_pass_45 : decode cX1_pass 45 = .ok (.iconst 0, 1) := by decide +kernel
theorem dX1_pass_46 : decode cX1_pass 46 = .ok (.putfield 52, 3) := by decide +kernel
theorem dX1_pass_49 : decode cX1_pass 49 = .ok (.aload_n 1, 1) := by decide +kernel
theorem dX1_pass_50 : decode cX1_pass 50 = .ok (.getfield 52, 3) := by decide +kernel
theorem dX1_pass_53 : decode cX1_pass 53 = .ok (.iconst 1, 1) := by decide +kernel
theorem dX1_pass_54 : decode cX1_pass 54 = .ok (.isub, 1) := by decide +kernel
theorem dX1_pass_55 : decode cX1_pass 55 = .ok (.istore 8, 2) := by decide +kernel
theorem dX1_pass_57 : decode cX1_pass 57 = .ok (.iconst 0, 1) := by decide +kernel
theorem dX1_pass_58 : decode cX1_pass 58 = .ok (.istore 9, 2) := by decide +kernel
theorem dX1_pass_60 : decode cX1_pass 60 = .ok (.iload 9, 2) := by decide +kernel
theorem dX1_pass_62 : decode cX1_pass 62 = .ok (.aload_n 1, 1) := by decide +kernel
theorem dX1_pass_63 : decode cX1_pass 63 = .ok (.getfield 52, 3) := by decide +kernel
theorem dX1_pass_66 : decode cX1_pass 66 = .ok (.if_icmp .ge 128, 3) := by decide +kernel
theorem dX1_pass_69 : decode cX1_pass 69 = .ok (.aload_n 0, 1) := by decide +kernel
theorem dX1_pass_70 : decode cX1_pass 70 = .ok (.aload 5, 2) := by decide +kernel
theorem dX1_pass_72 : decode cX1_pass 72 = .ok (.iload 9, 2) := by decide +kernel
theorem dX1_pass_74 : decode cX1_pass 74 = .ok (.iaload, 1) := by decide +kernel
theorem dX1_pass_75 : decode cX1_pass 75 = .ok (.iload_n 3, 1) := by decide +kernel
theorem dX1_pass_76 : decode cX1_pass 76 = .ok (.invokevirtual 104, 3) := by decide +kernel
theorem dX1_pass_79 : decode cX1_pass 79 = .ok (.istore 10, 2) := by decide +kernel
theorem dX1_pass_81 : decode cX1_pass 81 = .ok (.iload 10, 2) := by decide +kernel
theorem dX1_pass_83 : decode cX1_pass 83 = .ok (.aload_n 0, 1) := by decide +kernel
theorem dX1_pass_84 : decode cX1_pass 84 = .ok (.aload 5, 2) := by decide +kernel
theorem dX1_pass_86 : decode cX1_pass 86 = .ok (.iload 8, 2) := by decide +kernel
theorem dX1_pass_88 : decode cX1_pass 88 = .ok (.iaload, 1) := by decide +kernel
theorem dX1_pass_89 : decode cX1_pass 89 = .ok (.iload_n 3, 1) := by decide +kernel
theorem dX1_pass_90 : decode cX1_pass 90 = .ok (.invokevirtual 104, 3) := by decide +kernel
theorem dX1_pass_93 : decode cX1_pass 93 = .ok (.if_icmp .eq 63, 3) := by decide +kernel
theorem dX1_pass_96 : decode cX1_pass 96 = .ok (.aload 5, 2) := by decide +kernel
theorem dX1_pass_98 : decode cX1_pass 98 = .ok (.iload 8, 2) := by decide +kernel
theorem dX1_pass_100 : decode cX1_pass 100 = .ok (.iaload, 1) := by decide +kernel
theorem dX1_pass_101 : decode cX1_pass 101 = .ok (.aload 6, 2) := by decide +kernel
theorem dX1_pass_103 : decode cX1_pass 103 = .ok (.iload 8, 2) := by decide +kernel
theorem dX1_pass_105 : decode cX1_pass 105 = .ok (.iaload, 1) := by decide +kernel
theorem dX1_pass_106 : decode cX1_pass 106 = .ok (.aload 5, 2) := by decide +kernel
theorem dX1_pass_108 : decode cX1_pass 108 = .ok (.iload 9, 2) := by decide +kernel
theorem dX1_pass_110 : decode cX1_pass 110 = .ok (.iaload, 1) := by decide +kernel
theorem dX1_pass_111 : decode cX1_pass 111 = .ok (.aload 6, 2) := by decide +kernel
theorem dX1_pass_113 : decode cX1_pass 113 = .ok (.iload 9, 2) := by decide +kernel
theorem dX1_pass_115 : decode cX1_pass 115 = .ok (.iaload, 1) := by decide +kernel
theorem dX1_pass_116 : decode cX1_pass 116 = .ok (.iload 7, 2) := by decide +kernel
theorem dX1_pass_118 : decode cX1_pass 118 = .ok (.invokestatic 107, 3) := by decide +kernel
theorem dX1_pass_121 : decode cX1_pass 121 = .ok (.istore 11, 2) := by decide +kernel
theorem dX1_pass_123 : decode cX1_pass 123 = .ok (.aload_n 2, 1) := by decide +kernel
theorem dX1_pass_124 : decode cX1_pass 124 = .ok (.iload 4, 2) := by decide +kernel
theorem dX1_pass_126 : decode cX1_pass 126 = .ok (.ifCond .eq 8, 3) := by decide +kernel
theorem dX1_pass_129 : decode cX1_pass 129 = .ok (.iload 7, 2) := by decide +kernel
theorem dX1_pass_131 : decode cX1_pass 131 = .ok (.goto 5, 3) := by decide +kernel
theorem dX1_pass_134 : decode cX1_pass 134 = .ok (.iload 11, 2) := by decide +kernel
theorem dX1_pass_136 : decode cX1_pass 136 = .ok (.iload 4, 2) := by decide +kernel
theorem dX1_pass_138 : decode cX1_pass 138 = .ok (.ifCond .eq 8, 3) := by decide +kernel
theorem dX1_pass_141 : decode cX1_pass 141 = .ok (.iload 11, 2) := by decide +kernel
theorem dX1_pass_143 : decode cX1_pass 143 = .ok (.goto 5, 3) := by decide +kernel
theorem dX1_pass_146 : decode cX1_pass 146 = .ok (.iload 7, 2) := by decide +kernel
theorem dX1_pass_148 : decode cX1_pass 148 = .ok (.invokevirtual 59, 3) := by decide +kernel
theorem dX1_pass_151 : decode cX1_pass 151 = .ok (.ifCond .ne 5, 3) := by decide +kernel
theorem dX1_pass_154 : decode cX1_pass 154 = .ok (.iconst 0, 1) := by decide +kernel
theorem dX1_pass_155 : decode cX1_pass 155 = .ok (.ireturn, 1) := by decide +kernel
theorem dX1_pass_156 : decode cX1_pass 156 = .ok (.iload 10, 2) := by decide +kernel
theorem dX1_pass_158 : decode cX1_pass 158 = .ok (.ifCond .eq 26, 3) := by decide +kernel
theorem dX1_pass_161 : decode cX1_pass 161 = .ok (.aload_n 2, 1) := by decide +kernel
theorem dX1_pass_162 : decode cX1_pass 162 = .ok (.aload_n 1, 1) := by decide +kernel
theorem dX1_pass_163 : decode cX1_pass 163 = .ok (.getfield 73, 3) := by decide +kernel
theorem dX1_pass_166 : decode cX1_pass 166 = .ok (.iload 9, 2) := by decide +kernel
theorem dX1_pass_168 : decode cX1_pass 168 = .ok (.iaload, 1) := by decide +kernel
theorem dX1_pass_169 : decode cX1_pass 169 = .ok (.aload_n 1, 1) := by decide +kernel
theorem dX1_pass_170 : decode cX1_pass 170 = .ok (.getfield 76, 3) := by decide +kernel
theorem dX1_pass_173 : decode cX1_pass 173 = .ok (.iload 9, 2) := by decide +kernel
theorem dX1_pass_175 : decode cX1_pass 175 = .ok (.iaload, 1) := by decide +kernel
theorem dX1_pass_176 : decode cX1_pass 176 = .ok (.invokevirtual 59, 3) := by decide +kernel
theorem dX1_pass_179 : decode cX1_pass 179 = .ok (.ifCond .ne 5, 3) := by decide +kernel
theorem dX1_pass_182 : decode cX1_pass 182 = .ok (.iconst 0, 1) := by decide +kernel
theorem dX1_pass_183 : decode cX1_pass 183 = .ok (.ireturn, 1) := by decide +kernel
theorem dX1_pass_184 : decode cX1_pass 184 = .ok (.iload 9, 2) := by decide +kernel
theorem dX1_pass_186 : decode cX1_pass 186 = .ok (.istore 8, 2) := by decide +kernel
theorem dX1_pass_188 : decode cX1_pass 188 = .ok (.iinc 9 1, 3) := by decide +kernel
theorem dX1_pass_191 : decode cX1_pass 191 = .ok (.goto (-131), 3) := by decide +kernel
theorem dX1_pass_194 : decode cX1_pass 194 = .ok (.iconst 1, 1) := by decide +kernel
theorem dX1_pass_195 : decode cX1_pass 195 = .ok (.ireturn, 1) := by decide +kernel
theorem dX1_isGood_0 : decode cX1_isGood 0 = .ok (.iload_n 2, 1) := by decide +kernel
theorem dX1_isGood_1 : decode cX1_isGood 1 = .ok (.iconst 2, 1) := by decide +kernel
theorem dX1_isGood_2 : decode cX1_isGood 2 = .ok (.irem, 1) := by decide +kernel
theorem dX1_isGood_3 : decode cX1_isGood 3 = .ok (.ifCond .ne 21, 3) := by decide +kernel
theorem dX1_isGood_6 : decode cX1_isGood 6 = .ok (.iload_n 1, 1) := by decide +kernel
theorem dX1_isGood_7 : decode cX1_isGood 7 = .ok (.aload_n 0, 1) := by decide +kernel
theorem dX1_isGood_8 : decode cX1_isGood 8 = .ok (.getfield 28, 3) := by decide +kernel
theorem dX1_isGood_11 : decode cX1_isGood 11 = .ok (.iload_n 2, 1) := by decide +kernel
theorem dX1_isGood_12 : decode cX1_isGood 12 = .ok (.iaload, 1) := by decide +kernel
theorem dX1_isGood_13 : decode cX1_isGood 13 = .ok (.if_icmp .lt 7, 3) := by decide +kernel
theorem dX1_isGood_16 : decode cX1_isGood 16 = .ok (.iconst 1, 1) := by decide +kernel
theorem dX1_isGood_17 : decode cX1_isGood 17 = .ok (.goto 22, 3) := by decide +kernel
theorem dX1_isGood_20 : decode cX1_isGood 20 = .ok (.iconst 0, 1) := by decide +kernel
theorem dX1_isGood_21 : decode cX1_isGood 21 = .ok (.goto 18, 3) := by decide +kernel
theorem dX1_isGood_24 : decode cX1_isGood 24 = .ok (.iload_n 1, 1) := by decide +kernel
theorem dX1_isGood_25 : decode cX1_isGood 25 = .ok (.aload_n 0, 1) := by decide +kernel
theorem dX1_isGood_26 : decode cX1_isGood 26 = .ok (.getfield 28, 3) := by decide +kernel
theorem dX1_isGood_29 : decode cX1_isGood 29 = .ok (.iload_n 2, 1) := by decide +kernel
theorem dX1_isGood_30 : decode cX1_isGood 30 = .ok (.iaload, 1) := by decide +kernel
theorem dX1_isGood_31 : decode cX1_isGood 31 = .ok (.if_icmp .gt 7, 3) := by decide +kernel
theorem dX1_isGood_34 : decode cX1_isGood 34 = .ok (.iconst 1, 1) := by decide +kernel
theorem dX1_isGood_35 : decode cX1_isGood 35 = .ok (.goto 4, 3) := by decide +kernel
theorem dX1_isGood_38 : decode cX1_isGood 38 = .ok (.iconst 0, 1) := by decide +kernel
theorem dX1_isGood_39 : decode cX1_isGood 39 = .ok (.ireturn, 1) := by decide +kernel
set_option maxRecDepth 20000 in
theorem ggX1_cutAcross_J9_floorDiv_7cf53 : GoodIn wsX1_cutAcross wsJ9_floorDiv_7cf53 := goodIn_r _ [4] (by decide +kernel) (by decide +kernel)
set_option maxRecDepth 20000 in
theorem gX1_cutAcross_J9_floorDiv_7cf53 : GoodIn wsX1_cutAcross (va_wsS RX1 111 yJ9_floorDiv_7cf53 wsJ9_floorDiv_7cf53) := goodIn_app (goodIn_of _ (by decide +kernel)) ggX1_cutAcross_J9_floorDiv_7cf53
theorem dX1_cutAcross_0 : decode cX1_cutAcross 0 = .ok (.iload_n 1, 1) := by decide +kernel
theorem dX1_cutAcross_1 : decode cX1_cutAcross 1 = .ok (.iload_n 3, 1) := by decide +kernel
theorem dX1_cutAcross_2 : decode cX1_cutAcross 2 = .ok (.iload_n 1, 1) := by decide +kernel
theorem dX1_cutAcross_3 : decode cX1_cutAcross 3 = .ok (.isub, 1) := by decide +kernel
theorem dX1_cutAcross_4 : decode cX1_cutAcross 4 = .ok (.iload 4, 2) := by decide +kernel
theorem dX1_cutAcross_6 : decode cX1_cutAcross 6 = .ok (.iload_n 0, 1) := by decide +kernel
theorem dX1_cutAcross_7 : decode cX1_cutAcross 7 = .ok (.isub, 1) := by decide +kernel
theorem dX1_cutAcross_8 : decode cX1_cutAcross 8 = .ok (.imul, 1) := by decide +kernel
theorem dX1_cutAcross_9 : decode cX1_cutAcross 9 = .ok (.iload_n 2, 1) := by decide +kernel
theorem dX1_cutAcross_10 : decode cX1_cutAcross 10 = .ok (.iload_n 0, 1) := by decide +kernel
theorem dX1_cutAcross_11 : decode cX1_cutAcross 11 = .ok (.isub, 1) := by decide +kernel
theorem dX1_cutAcross_12 : decode cX1_cutAcross 12 = .ok (.invokestatic 111, 3) := by decide +kernel
theorem dX1_cutAcross_15 : decode cX1_cutAcross 15 = .ok (.iadd, 1) := by decide +kernel
theorem dX1_cutAcross_16 : decode cX1_cutAcross 16 = .ok (.ireturn, 1) := by decide +kernel
set_option maxRecDepth 20000 in
theorem ggX1_markTurns_X0_edgeMeets : GoodIn wsX1_markTurns wsX0_edgeMeets := goodIn_r _ [7, 8, 9, 10, 11, 5, 12, 13, 41, 42, 43] (by decide +kernel) (by decide +kernel)
set_option maxRecDepth 20000 in
theorem gX1_markTurns_X0_edgeMeets_n86 : GoodIn wsX1_markTurns (wsX0_edgeMeets) := ggX1_markTurns_X0_edgeMeets
set_option maxRecDepth 20000 in
theorem ggX1_markTurns_X0_crossingUpwards : GoodIn wsX1_markTurns wsX0_crossingUpwards := goodIn_r _ [16, 17, 8, 9, 10, 11, 5, 12, 13, 18, 19, 20, 21, 41, 42, 43] (by decide +kernel) (by decide +kernel)
set_option maxRecDepth 20000 in
theorem gX1_markTurns_X0_crossingUpwards_n89 : GoodIn wsX1_markTurns (wsX0_crossingUpwards) := ggX1_markTurns_X0_crossingUpwards
set_option maxRecDepth 20000 in
theorem ggX1_markTurns_X1_nearest : GoodIn wsX1_markTurns wsX1_nearest := goodIn_r _ [25, 26, 27, 28, 29, 30, 31, 32] (by decide +kernel) (by decide +kernel)
set_option maxRecDepth 20000 in
theorem gX1_markTurns_X1_nearest : GoodIn wsX1_markTurns (va_wsS RX1 9 yX1_nearest wsX1_nearest) := goodIn_app (goodIn_of _ (by decide +kernel)) ggX1_markTurns_X1_nearest
theorem dX1_markTurns_0 : decode cX1_markTurns 0 = .ok (.iconst 0, 1) := by decide +kernel
theorem dX1_markTurns_1 : decode cX1_markTurns 1 = .ok (.istore_n 2, 1) := by decide +kernel
theorem dX1_markTurns_2 : decode cX1_markTurns 2 = .ok (.iload_n 2, 1) := by decide +kernel
theorem dX1_markTurns_3 : decode cX1_markTurns 3 = .ok (.aload_n 0, 1) := by decide +kernel
theorem dX1_markTurns_4 : decode cX1_markTurns 4 = .ok (.getfield 13, 3) := by decide +kernel
theorem dX1_markTurns_7 : decode cX1_markTurns 7 = .ok (.if_icmp .gt 16, 3) := by decide +kernel
theorem dX1_markTurns_10 : decode cX1_markTurns 10 = .ok (.aload_n 0, 1) := by decide +kernel
theorem dX1_markTurns_11 : decode cX1_markTurns 11 = .ok (.getfield 24, 3) := by decide +kernel
theorem dX1_markTurns_14 : decode cX1_markTurns 14 = .ok (.iload_n 2, 1) := by decide +kernel
theorem dX1_markTurns_15 : decode cX1_markTurns 15 = .ok (.iconst 0, 1) := by decide +kernel
theorem dX1_markTurns_16 : decode cX1_markTurns 16 = .ok (.bastore, 1) := by decide +kernel
theorem dX1_markTurns_17 : decode cX1_markTurns 17 = .ok (.iinc 2 1, 3) := by decide +kernel
theorem dX1_markTurns_20 : decode cX1_markTurns 20 = .ok (.goto (-18), 3) := by decide +kernel
theorem dX1_markTurns_23 : decode cX1_markTurns 23 = .ok (.iconst 0, 1) := by decide +kernel
theorem dX1_markTurns_24 : decode cX1_markTurns 24 = .ok (.istore_n 2, 1) := by decide +kernel
theorem dX1_markTurns_25 : decode cX1_markTurns 25 = .ok (.iload_n 2, 1) := by decide +kernel
theorem dX1_markTurns_26 : decode cX1_markTurns 26 = .ok (.aload_n 0, 1) := by decide +kernel
theorem dX1_markTurns_27 : decode cX1_markTurns 27 = .ok (.getfield 36, 3) := by decide +kernel
theorem dX1_markTurns_30 : decode cX1_markTurns 30 = .ok (.getfield 52, 3) := by decide +kernel
theorem dX1_markTurns_33 : decode cX1_markTurns 33 = .ok (.if_icmp .ge 59, 3) := by decide +kernel
theorem dX1_markTurns_36 : decode cX1_markTurns 36 = .ok (.aload_n 0, 1) := by decide +kernel
theorem dX1_markTurns_37 : decode cX1_markTurns 37 = .ok (.getfield 36, 3) := by decide +kernel
theorem dX1_markTurns_40 : decode cX1_markTurns 40 = .ok (.iload_n 2, 1) := by decide +kernel
theorem dX1_markTurns_41 : decode cX1_markTurns 41 = .ok (.iload_n 1, 1) := by decide +kernel
theorem dX1_markTurns_42 : decode cX1_markTurns 42 = .ok (.invokevirtual 86, 3) := by decide +kernel
theorem dX1_markTurns_45 : decode cX1_markTurns 45 = .ok (.ifCond .eq 41, 3) := by decide +kernel
theorem dX1_markTurns_48 : decode cX1_markTurns 48 = .ok (.aload_n 0, 1) := by decide +kernel
theorem dX1_markTurns_49 : decode cX1_markTurns 49 = .ok (.getfield 36, 3) := by decide +kernel
theorem dX1_markTurns_52 : decode cX1_markTurns 52 = .ok (.iload_n 2, 1) := by decide +kernel
theorem dX1_markTurns_53 : decode cX1_markTurns 53 = .ok (.iload_n 1, 1) := by decide +kernel
theorem dX1_markTurns_54 : decode cX1_markTurns 54 = .ok (.invokevirtual 89, 3) := by decide +kernel
theorem dX1_markTurns_57 : decode cX1_markTurns 57 = .ok (.iconst 0, 1) := by decide +kernel
theorem dX1_markTurns_58 : decode cX1_markTurns 58 = .ok (.aload_n 0, 1) := by decide +kernel
theorem dX1_markTurns_59 : decode cX1_markTurns 59 = .ok (.getfield 13, 3) := by decide +kernel
theorem dX1_markTurns_62 : decode cX1_markTurns 62 = .ok (.invokestatic 9, 3) := by decide +kernel
theorem dX1_markTurns_65 : decode cX1_markTurns 65 = .ok (.istore_n 3, 1) := by decide +kernel
theorem dX1_markTurns_66 : decode cX1_markTurns 66 = .ok (.aload_n 0, 1) := by decide +kernel
theorem dX1_markTurns_67 : decode cX1_markTurns 67 = .ok (.getfield 24, 3) := by decide +kernel
theorem dX1_markTurns_70 : decode cX1_markTurns 70 = .ok (.iload_n 3, 1) := by decide +kernel
theorem dX1_markTurns_71 : decode cX1_markTurns 71 = .ok (.aload_n 0, 1) := by decide +kernel
theorem dX1_markTurns_72 : decode cX1_markTurns 72 = .ok (.getfield 24, 3) := by decide +kernel
theorem dX1_markTurns_75 : decode cX1_markTurns 75 = .ok (.iload_n 3, 1) := by decide +kernel
theorem dX1_markTurns_76 : decode cX1_markTurns 76 = .ok (.baload, 1) := by decide +kernel
theorem dX1_markTurns_77 : decode cX1_markTurns 77 = .ok (.ifCond .ne 7, 3) := by decide +kernel
theorem dX1_markTurns_80 : decode cX1_markTurns 80 = .ok (.iconst 1, 1) := by decide +kernel
theorem dX1_markTurns_81 : decode cX1_markTurns 81 = .ok (.goto 4, 3) := by decide +kernel
theorem dX1_markTurns_84 : decode cX1_markTurns 84 = .ok (.iconst 0, 1) := by decide +kernel
theorem dX1_markTurns_85 : decode cX1_markTurns 85 = .ok (.bastore, 1) := by decide +kernel
theorem dX1_markTurns_86 : decode cX1_markTurns 86 = .ok (.iinc 2 1, 3) := by decide +kernel
theorem dX1_markTurns_89 : decode cX1_markTurns 89 = .ok (.goto (-64), 3) := by decide +kernel
theorem dX1_markTurns_92 : decode cX1_markTurns 92 = .ok (.return_, 1) := by decide +kernel
theorem dX1_fillLine_0 : decode cX1_fillLine 0 = .ok (.iconst 0, 1) := by decide +kernel
theorem dX1_fillLine_1 : decode cX1_fillLine 1 = .ok (.istore_n 3, 1) := by decide +kernel
theorem dX1_fillLine_2 : decode cX1_fillLine 2 = .ok (.iconst 0, 1) := by decide +kernel
theorem dX1_fillLine_3 : decode cX1_fillLine 3 = .ok (.istore 4, 2) := by decide +kernel
theorem dX1_fillLine_5 : decode cX1_fillLine 5 = .ok (.aload_n 0, 1) := by decide +kernel
theorem dX1_fillLine_6 : decode cX1_fillLine 6 = .ok (.getfield 13, 3) := by decide +kernel
theorem dX1_fillLine_9 : decode cX1_fillLine 9 = .ok (.iconst 1, 1) := by decide +kernel
theorem dX1_fillLine_10 : decode cX1_fillLine 10 = .ok (.isub, 1) := by decide +kernel
theorem dX1_fillLine_11 : decode cX1_fillLine 11 = .ok (.istore 5, 2) := by decide +kernel
theorem dX1_fillLine_13 : decode cX1_fillLine 13 = .ok (.iload 5, 2) := by decide +kernel
theorem dX1_fillLine_15 : decode cX1_fillLine 15 = .ok (.ifCond .lt 53, 3) := by decide +kernel
theorem dX1_fillLine_18 : decode cX1_fillLine 18 = .ok (.iload 4, 2) := by decide +kernel
theorem dX1_fillLine_20 : decode cX1_fillLine 20 = .ok (.aload_n 0, 1) := by decide +kernel
theorem dX1_fillLine_21 : decode cX1_fillLine 21 = .ok (.getfield 24, 3) := by decide +kernel
theorem dX1_fillLine_24 : decode cX1_fillLine 24 = .ok (.iload 5, 2) := by decide +kernel
theorem dX1_fillLine_26 : decode cX1_fillLine 26 = .ok (.iconst 1, 1) := by decide +kernel
theorem dX1_fillLine_27 : decode cX1_fillLine 27 = .ok (.iadd, 1) := by decide +kernel
theorem dX1_fillLine_28 : decode cX1_fillLine 28 = .ok (.baload, 1) := by decide +kernel
theorem dX1_fillLine_29 : decode cX1_fillLine 29 = .ok (.if_icmp .eq 7, 3) := by decide +kernel
theorem dX1_fillLine_32 : decode cX1_fillLine 32 = .ok (.iconst 1, 1) := by decide +kernel
theorem dX1_fillLine_33 : decode cX1_fillLine 33 = .ok (.goto 4, 3) := by decide +kernel
theorem dX1_fillLine_36 : decode cX1_fillLine 36 = .ok (.iconst 0, 1) := by decide +kernel
theorem dX1_fillLine_37 : decode cX1_fillLine 37 = .ok (.istore 4, 2) := by decide +kernel
theorem dX1_fillLine_39 : decode cX1_fillLine 39 = .ok (.iload 4, 2) := by decide +kernel
theorem dX1_fillLine_41 : decode cX1_fillLine 41 = .ok (.ifCond .eq 21, 3) := by decide +kernel
theorem dX1_fillLine_44 : decode cX1_fillLine 44 = .ok (.aload_n 0, 1) := by decide +kernel
theorem dX1_fillLine_45 : decode cX1_fillLine 45 = .ok (.getfield 20, 3) := by decide +kernel
theorem dX1_fillLine_48 : decode cX1_fillLine 48 = .ok (.iload_n 1, 1) := by decide +kernel
theorem dX1_fillLine_49 : decode cX1_fillLine 49 = .ok (.aload_n 0, 1) := by decide +kernel
theorem dX1_fillLine_50 : decode cX1_fillLine 50 = .ok (.getfield 13, 3) := by decide +kernel
theorem dX1_fillLine_53 : decode cX1_fillLine 53 = .ok (.imul, 1) := by decide +kernel
theorem dX1_fillLine_54 : decode cX1_fillLine 54 = .ok (.iload 5, 2) := by decide +kernel
theorem dX1_fillLine_56 : decode cX1_fillLine 56 = .ok (.iadd, 1) := by decide +kernel
theorem dX1_fillLine_57 : decode cX1_fillLine 57 = .ok (.iload_n 2, 1) := by decide +kernel
theorem dX1_fillLine_58 : decode cX1_fillLine 58 = .ok (.iastore, 1) := by decide +kernel
theorem dX1_fillLine_59 : decode cX1_fillLine 59 = .ok (.iinc 3 1, 3) := by decide +kernel
theorem dX1_fillLine_62 : decode cX1_fillLine 62 = .ok (.iinc 5 (-1), 3) := by decide +kernel
theorem dX1_fillLine_65 : decode cX1_fillLine 65 = .ok (.goto (-52), 3) := by decide +kernel
theorem dX1_fillLine_68 : decode cX1_fillLine 68 = .ok (.iload_n 3, 1) := by decide +kernel
theorem dX1_fillLine_69 : decode cX1_fillLine 69 = .ok (.ireturn, 1) := by decide +kernel
set_option maxRecDepth 20000 in
theorem ggX2_init_X2_between : GoodIn wsX2_init wsX2_between := goodIn_r _ [22] (by decide +kernel) (by decide +kernel)
set_option maxRecDepth 20000 in
theorem gX2_init_X2_between : GoodIn wsX2_init (va_wsS RX2 44 yX2_between wsX2_between) := goodIn_app (goodIn_of _ (by decide +kernel)) ggX2_init_X2_between
theorem dX2_init_0 : decode cX2_init 0 = .ok (.aload_n 0, 1) := by decide +kernel
theorem dX2_init_1 : decode cX2_init 1 = .ok (.invokespecial 1, 3) := by decide +kernel
theorem dX2_init_4 : decode cX2_init 4 = .ok (.aload_n 0, 1) := by decide +kernel
theorem dX2_init_5 : decode cX2_init 5 = .ok (.sipush 576, 3) := by decide +kernel
theorem dX2_init_8 : decode cX2_init 8 = .ok (.newarray .int, 2) := by decide +kernel
theorem dX2_init_10 : decode cX2_init 10 = .ok (.putfield 7, 3) := by decide +kernel
theorem dX2_init_13 : decode cX2_init 13 = .ok (.aload_n 0, 1) := by decide +kernel
theorem dX2_init_14 : decode cX2_init 14 = .ok (.bipush 60, 2) := by decide +kernel
theorem dX2_init_16 : decode cX2_init 16 = .ok (.newarray .int, 2) := by decide +kernel
theorem dX2_init_18 : decode cX2_init 18 = .ok (.putfield 13, 3) := by decide +kernel
theorem dX2_init_21 : decode cX2_init 21 = .ok (.aload_n 0, 1) := by decide +kernel
theorem dX2_init_22 : decode cX2_init 22 = .ok (.bipush 60, 2) := by decide +kernel
theorem dX2_init_24 : decode cX2_init 24 = .ok (.newarray .int, 2) := by decide +kernel
theorem dX2_init_26 : decode cX2_init 26 = .ok (.putfield 16, 3) := by decide +kernel
theorem dX2_init_29 : decode cX2_init 29 = .ok (.aload_n 0, 1) := by decide +kernel
theorem dX2_init_30 : decode cX2_init 30 = .ok (.bipush 60, 2) := by decide +kernel
theorem dX2_init_32 : decode cX2_init 32 = .ok (.newarray .int, 2) := by decide +kernel
theorem dX2_init_34 : decode cX2_init 34 = .ok (.putfield 19, 3) := by decide +kernel
theorem dX2_init_37 : decode cX2_init 37 = .ok (.aload_n 0, 1) := by decide +kernel
theorem dX2_init_38 : decode cX2_init 38 = .ok (.bipush 60, 2) := by decide +kernel
theorem dX2_init_40 : decode cX2_init 40 = .ok (.newarray .int, 2) := by decide +kernel
theorem dX2_init_42 : decode cX2_init 42 = .ok (.putfield 22, 3) := by decide +kernel
theorem dX2_init_45 : decode cX2_init 45 = .ok (.aload_n 0, 1) := by decide +kernel
theorem dX2_init_46 : decode cX2_init 46 = .ok (.bipush 60, 2) := by decide +kernel
theorem dX2_init_48 : decode cX2_init 48 = .ok (.newarray .int, 2) := by decide +kernel
theorem dX2_init_50 : decode cX2_init 50 = .ok (.putfield 25, 3) := by decide +kernel
theorem dX2_init_53 : decode cX2_init 53 = .ok (.aload_n 0, 1) := by decide +kernel
theorem dX2_init_54 : decode cX2_init 54 = .ok (.bipush 60, 2) := by decide +kernel
theorem dX2_init_56 : decode cX2_init 56 = .ok (.newarray .int, 2) := by decide +kernel
theorem dX2_init_58 : decode cX2_init 58 = .ok (.putfield 28, 3) := by decide +kernel
theorem dX2_init_61 : decode cX2_init 61 = .ok (.aload_n 0, 1) := by decide +kernel
theorem dX2_init_62 : decode cX2_init 62 = .ok (.sipush (-16384), 3) := by decide +kernel
theorem dX2_init_65 : decode cX2_init 65 = .ok (.putfield 31, 3) := by decide +kernel
theorem dX2_init_68 : decode cX2_init 68 = .ok (.aload_n 0, 1) := by decide +kernel
theorem dX2_init_69 : decode cX2_init 69 = .ok (.sipush 16384, 3) := by decide +kernel
theorem dX2_init_72 : decode cX2_init 72 = .ok (.putfield 35, 3) := by decide +kernel
theorem dX2_init_75 : decode cX2_init 75 = .ok (.aload_n 0, 1) := by decide +kernel
theorem dX2_init_76 : decode cX2_init 76 = .ok (.sipush (-16384), 3) := by decide +kernel
theorem dX2_init_79 : decode cX2_init 79 = .ok (.putfield 38, 3) := by decide +kernel
theorem dX2_init_82 : decode cX2_init 82 = .ok (.aload_n 0, 1) := by decide +kernel
theorem dX2_init_83 : decode cX2_init 83 = .ok (.sipush 16384, 3) := by decide +kernel
theorem dX2_init_86 : decode cX2_init 86 = .ok (.putfield 41, 3) := by decide +kernel
theorem dX2_init_89 : decode cX2_init 89 = .ok (.aload_n 0, 1) := by decide +kernel
theorem dX2_init_90 : decode cX2_init 90 = .ok (.iload_n 1, 1) := by decide +kernel
theorem dX2_init_91 : decode cX2_init 91 = .ok (.iconst 1, 1) := by decide +kernel
theorem dX2_init_92 : decode cX2_init 92 = .ok (.bipush 24, 2) := by decide +kernel
theorem dX2_init_94 : decode cX2_init 94 = .ok (.invokestatic 44, 3) := by decide +kernel
theorem dX2_init_97 : decode cX2_init 97 = .ok (.putfield 48, 3) := by decide +kernel
theorem dX2_init_100 : decode cX2_init 100 = .ok (.aload_n 0, 1) := by decide +kernel
theorem dX2_init_101 : decode cX2_init 101 = .ok (.iload_n 2, 1) := by decide +kernel
theorem dX2_init_102 : decode cX2_init 102 = .ok (.iconst 1, 1) := by decide +kernel
theorem dX2_init_103 : decode cX2_init 103 = .ok (.bipush 24, 2) := by decide +kernel
theorem dX2_init_105 : decode cX2_init 105 = .ok (.invokestatic 44, 3) := by decide +kernel
theorem dX2_init_108 : decode cX2_init 108 = .ok (.putfield 51, 3) := by decide +kernel
theorem dX2_init_111 : decode cX2_init 111 = .ok (.aload_n 0, 1) := by decide +kernel
theorem dX2_init_112 : decode cX2_init 112 = .ok (.iload_n 3, 1) := by decide +kernel
theorem dX2_init_113 : decode cX2_init 113 = .ok (.iconst 3, 1) := by decide +kernel
theorem dX2_init_114 : decode cX2_init 114 = .ok (.bipush 60, 2) := by decide +kernel
theorem dX2_init_116 : decode cX2_init 116 = .ok (.invokestatic 44, 3) := by decide +kernel
theorem dX2_init_119 : decode cX2_init 119 = .ok (.putfield 54, 3) := by decide +kernel
theorem dX2_init_122 : decode cX2_init 122 = .ok (.return_, 1) := by decide +kernel
theorem dX2_between_0 : decode cX2_between 0 = .ok (.iload_n 0, 1) := by decide +kernel
theorem dX2_between_1 : decode cX2_between 1 = .ok (.iload_n 1, 1) := by decide +kernel
theorem dX2_between_2 : decode cX2_between 2 = .ok (.if_icmp .ge 7, 3) := by decide +kernel
theorem dX2_between_5 : decode cX2_between 5 = .ok (.iload_n 1, 1) := by decide +kernel
theorem dX2_between_6 : decode cX2_between 6 = .ok (.goto 13, 3) := by decide +kernel
theorem dX2_between_9 : decode cX2_between 9 = .ok (.iload_n 0, 1) := by decide +kernel
theorem dX2_between_10 : decode cX2_between 10 = .ok (.iload_n 2, 1) := by decide +kernel
theorem dX2_between_11 : decode cX2_between 11 = .ok (.if_icmp .le 7, 3) := by decide +kernel
theorem dX2_between_14 : decode cX2_between 14 = .ok (.iload_n 2, 1) := by decide +kernel
theorem dX2_between_15 : decode cX2_between 15 = .ok (.goto 4, 3) := by decide +kernel
theorem dX2_between_18 : decode cX2_between 18 = .ok (.iload_n 0, 1) := by decide +kernel
theorem dX2_between_19 : decode cX2_between 19 = .ok (.ireturn, 1) := by decide +kernel
theorem dX2_clear_0 : decode cX2_clear 0 = .ok (.iconst 0, 1) := by decide +kernel
theorem dX2_clear_1 : decode cX2_clear 1 = .ok (.istore_n 2, 1) := by decide +kernel
theorem dX2_clear_2 : decode cX2_clear 2 = .ok (.iload_n 2, 1) := by decide +kernel
theorem dX2_clear_3 : decode cX2_clear 3 = .ok (.sipush 576, 3) := by decide +kernel
theorem dX2_clear_6 : decode cX2_clear 6 = .ok (.if_icmp .ge 16, 3) := by decide +kernel
theorem dX2_clear_9 : decode cX2_clear 9 = .ok (.aload_n 0, 1) := by decide +kernel
theorem dX2_clear_10 : decode cX2_clear 10 = .ok (.getfield 7, 3) := by decide +kernel
theorem dX2_clear_13 : decode cX2_clear 13 = .ok (.iload_n 2, 1) := by decide +kernel
theorem dX2_clear_14 : decode cX2_clear 14 = .ok (.iload_n 1, 1) := by decide +kernel
theorem dX2_clear_15 : decode cX2_clear 15 = .ok (.iastore, 1) := by decide +kernel
theorem dX2_clear_16 : decode cX2_clear 16 = .ok (.iinc 2 1, 3) := by decide +kernel
theorem dX2_clear_19 : decode cX2_clear 19 = .ok (.goto (-17), 3) := by decide +kernel
theorem dX2_clear_22 : decode cX2_clear 22 = .ok (.return_, 1) := by decide +kernel
theorem dX2_begin_0 : decode cX2_begin 0 = .ok (.aload_n 0, 1) := by decide +kernel
theorem dX2_begin_1 : decode cX2_begin 1 = .ok (.iconst 0, 1) := by decide +kernel
theorem dX2_begin_2 : decode cX2_begin 2 = .ok (.putfield 57, 3) := by decide +kernel
theorem dX2_begin_5 : decode cX2_begin 5 = .ok (.return_, 1) := by decide +kernel
theorem dX2_isNear_0 : decode cX2_isNear 0 = .ok (.iload_n 0, 1) := by decide +kernel
theorem dX2_isNear_1 : decode cX2_isNear 1 = .ok (.sipush (-16384), 3) := by decide +kernel
theorem dX2_isNear_4 : decode cX2_isNear 4 = .ok (.if_icmp .lt 14, 3) := by decide +kernel
theorem dX2_isNear_7 : decode cX2_isNear 7 = .ok (.iload_n 0, 1) := by decide +kernel
theorem dX2_isNear_8 : decode cX2_isNear 8 = .ok (.sipush 16384, 3) := by decide +kernel
theorem dX2_isNear_11 : decode cX2_isNear 11 = .ok (.if_icmp .gt 7, 3) := by decide +kernel
theorem dX2_isNear_14 : decode cX2_isNear 14 = .ok (.iconst 1, 1) := by decide +kernel
theorem dX2_isNear_15 : decode cX2_isNear 15 = .ok (.goto 4, 3) := by decide +kernel
theorem dX2_isNear_18 : decode cX2_isNear 18 = .ok (.iconst 0, 1) := by decide +kernel
theorem dX2_isNear_19 : decode cX2_isNear 19 = .ok (.ireturn, 1) := by decide +kernel
set_option maxRecDepth 20000 in
theorem ggX2_vertex_X2_isNear : GoodIn wsX2_vertex wsX2_isNear := goodIn_r _ [8] (by decide +kernel) (by decide +kernel)
set_option maxRecDepth 20000 in
theorem gX2_vertex_X2_isNear : GoodIn wsX2_vertex (va_wsS RX2 60 yX2_isNear wsX2_isNear) := goodIn_app (goodIn_of _ (by decide +kernel)) ggX2_vertex_X2_isNear
theorem dX2_vertex_0 : decode cX2_vertex 0 = .ok (.aload_n 0, 1) := by decide +kernel
theorem dX2_vertex_1 : decode cX2_vertex 1 = .ok (.getfield 57, 3) := by decide +kernel
theorem dX2_vertex_4 : decode cX2_vertex 4 = .ok (.aload_n 0, 1) := by decide +kernel
theorem dX2_vertex_5 : decode cX2_vertex 5 = .ok (.getfield 54, 3) := by decide +kernel
theorem dX2_vertex_8 : decode cX2_vertex 8 = .ok (.if_icmp .eq 17, 3) := by decide +kernel
theorem dX2_vertex_11 : decode cX2_vertex 11 = .ok (.iload_n 1, 1) := by decide +kernel
theorem dX2_vertex_12 : decode cX2_vertex 12 = .ok (.invokestatic 60, 3) := by decide +kernel
theorem dX2_vertex_15 : decode cX2_vertex 15 = .ok (.ifCond .eq 10, 3) := by decide +kernel
theorem dX2_vertex_18 : decode cX2_vertex 18 = .ok (.iload_n 2, 1) := by decide +kernel
theorem dX2_vertex_19 : decode cX2_vertex 19 = .ok (.invokestatic 60, 3) := by decide +kernel
theorem dX2_vertex_22 : decode cX2_vertex 22 = .ok (.ifCond .ne 5, 3) := by decide +kernel
theorem dX2_vertex_25 : decode cX2_vertex 25 = .ok (.iconst 0, 1) := by decide +kernel
theorem dX2_vertex_26 : decode cX2_vertex 26 = .ok (.ireturn, 1) := by decide +kernel
theorem dX2_vertex_27 : decode cX2_vertex 27 = .ok (.aload_n 0, 1) := by decide +kernel
theorem dX2_vertex_28 : decode cX2_vertex 28 = .ok (.getfield 13, 3) := by decide +kernel
theorem dX2_vertex_31 : decode cX2_vertex 31 = .ok (.aload_n 0, 1) := by decide +kernel
theorem dX2_vertex_32 : decode cX2_vertex 32 = .ok (.getfield 57, 3) := by decide +kernel
theorem dX2_vertex_35 : decode cX2_vertex 35 = .ok (.iload_n 1, 1) := by decide +kernel
theorem dX2_vertex_36 : decode cX2_vertex 36 = .ok (.iastore, 1) := by decide +kernel
theorem dX2_vertex_37 : decode cX2_vertex 37 = .ok (.aload_n 0, 1) := by decide +kernel
theorem dX2_vertex_38 : decode cX2_vertex 38 = .ok (.getfield 16, 3) := by decide +kernel
theorem dX2_vertex_41 : decode cX2_vertex 41 = .ok (.aload_n 0, 1) := by decide +kernel
theorem dX2_vertex_42 : decode cX2_vertex 42 = .ok (.getfield 57, 3) := by decide +kernel
theorem dX2_vertex_45 : decode cX2_vertex 45 = .ok (.iload_n 2, 1) := by decide +kernel
theorem dX2_vertex_46 : decode cX2_vertex 46 = .ok (.iastore, 1) := by decide +kernel
theorem dX2_vertex_47 : decode cX2_vertex 47 = .ok (.aload_n 0, 1) := by decide +kernel
theorem dX2_vertex_48 : decode cX2_vertex 48 = .ok (.dup, 1) := by decide +kernel
theorem dX2_vertex_49 : decode cX2_vertex 49 = .ok (.getfield 57, 3) := by decide +kernel
theorem dX2_vertex_52 : decode cX2_vertex 52 = .ok (.iconst 1, 1) := by decide +kernel
theorem dX2_vertex_53 : decode cX2_vertex 53 = .ok (.iadd, 1) := by decide +kernel
theorem dX2_vertex_54 : decode cX2_vertex 54 = .ok (.putfield 57, 3) := by decide +kernel
theorem dX2_vertex_57 : decode cX2_vertex 57 = .ok (.iconst 1, 1) := by decide +kernel
theorem dX2_vertex_58 : decode cX2_vertex 58 = .ok (.ireturn, 1) := by decide +kernel
set_option maxRecDepth 20000 in
theorem ggX2_setClip_X2_isNear : GoodIn wsX2_setClip wsX2_isNear := goodIn_r _ [8] (by decide +kernel) (by decide +kernel)
set_option maxRecDepth 20000 in
theorem gX2_setClip_X2_isNear : GoodIn wsX2_setClip (va_wsS RX2 60 yX2_isNear wsX2_isNear) := goodIn_app (goodIn_of _ (by decide +kernel)) ggX2_setClip_X2_isNear
theorem dX2_setClip_0 : decode cX2_setClip 0 = .ok (.iload_n 1, 1) := by decide +kernel
theorem dX2_setClip_1 : decode cX2_setClip 1 = .ok (.invokestatic 60, 3) := by decide +kernel
theorem dX2_setClip_4 : decode cX2_setClip 4 = .ok (.ifCond .eq 36, 3) := by decide +kernel
theorem dX2_setClip_7 : decode cX2_setClip 7 = .ok (.iload_n 2, 1) := by decide +kernel
theorem dX2_setClip_8 : decode cX2_setClip 8 = .ok (.invokestatic 60, 3) := by decide +kernel
theorem dX2_setClip_11 : decode cX2_setClip 11 = .ok (.ifCond .eq 29, 3) := by decide +kernel
theorem dX2_setClip_14 : decode cX2_setClip 14 = .ok (.iload_n 3, 1) := by decide +kernel
theorem dX2_setClip_15 : decode cX2_setClip 15 = .ok (.invokestatic 60, 3) := by decide +kernel
theorem dX2_setClip_18 : decode cX2_setClip 18 = .ok (.ifCond .eq 22, 3) := by decide +kernel
theorem dX2_setClip_21 : decode cX2_setClip 21 = .ok (.iload 4, 2) := by decide +kernel
theorem dX2_setClip_23 : decode cX2_setClip 23 = .ok (.invokestatic 60, 3) := by decide +kernel
theorem dX2_setClip_26 : decode cX2_setClip 26 = .ok (.ifCond .eq 14, 3) := by decide +kernel
theorem dX2_setClip_29 : decode cX2_setClip 29 = .ok (.iload_n 1, 1) := by decide +kernel
theorem dX2_setClip_30 : decode cX2_setClip 30 = .ok (.iload_n 3, 1) := by decide +kernel
theorem dX2_setClip_31 : decode cX2_setClip 31 = .ok (.if_icmp .gt 9, 3) := by decide +kernel
theorem dX2_setClip_34 : decode cX2_setClip 34 = .ok (.iload_n 2, 1) := by decide +kernel
theorem dX2_setClip_35 : decode cX2_setClip 35 = .ok (.iload 4, 2) := by decide +kernel
theorem dX2_setClip_37 : decode cX2_setClip 37 = .ok (.if_icmp .le 5, 3) := by decide +kernel
theorem dX2_setClip_40 : decode cX2_setClip 40 = .ok (.iconst 0, 1) := by decide +kernel
theorem dX2_setClip_41 : decode cX2_setClip 41 = .ok (.ireturn, 1) := by decide +kernel
theorem dX2_setClip_42 : decode cX2_setClip 42 = .ok (.aload_n 0, 1) := by decide +kernel
theorem dX2_setClip_43 : decode cX2_setClip 43 = .ok (.iload_n 1, 1) := by decide +kernel
theorem dX2_setClip_44 : decode cX2_setClip 44 = .ok (.putfield 31, 3) := by decide +kernel
theorem dX2_setClip_47 : decode cX2_setClip 47 = .ok (.aload_n 0, 1) := by decide +kernel
theorem dX2_setClip_48 : decode cX2_setClip 48 = .ok (.iload_n 3, 1) := by decide +kernel
theorem dX2_setClip_49 : decode cX2_setClip 49 = .ok (.putfield 35, 3) := by decide +kernel
theorem dX2_setClip_52 : decode cX2_setClip 52 = .ok (.aload_n 0, 1) := by decide +kernel
theorem dX2_setClip_53 : decode cX2_setClip 53 = .ok (.iload_n 2, 1) := by decide +kernel
theorem dX2_setClip_54 : decode cX2_setClip 54 = .ok (.putfield 38, 3) := by decide +kernel
theorem dX2_setClip_57 : decode cX2_setClip 57 = .ok (.aload_n 0, 1) := by decide +kernel
theorem dX2_setClip_58 : decode cX2_setClip 58 = .ok (.iload 4, 2) := by decide +kernel
theorem dX2_setClip_60 : decode cX2_setClip 60 = .ok (.putfield 41, 3) := by decide +kernel
theorem dX2_setClip_63 : decode cX2_setClip 63 = .ok (.iconst 1, 1) := by decide +kernel
theorem dX2_setClip_64 : decode cX2_setClip 64 = .ok (.ireturn, 1) := by decide +kernel
theorem dX2_depth_0 : decode cX2_depth 0 = .ok (.iload_n 1, 1) := by decide +kernel
theorem dX2_depth_1 : decode cX2_depth 1 = .ok (.ifCond .ne 12, 3) := by decide +kernel
theorem dX2_depth_4 : decode cX2_depth 4 = .ok (.iload_n 2, 1) := by decide +kernel
theorem dX2_depth_5 : decode cX2_depth 5 = .ok (.aload_n 0, 1) := by decide +kernel
theorem dX2_depth_6 : decode cX2_depth 6 = .ok (.getfield 31, 3) := by decide +kernel
theorem dX2_depth_9 : decode cX2_depth 9 = .ok (.isub, 1) := by decide +kernel
theorem dX2_depth_10 : decode cX2_depth 10 = .ok (.goto 37, 3) := by decide +kernel
theorem dX2_depth_13 : decode cX2_depth 13 = .ok (.iload_n 1, 1) := by decide +kernel
theorem dX2_depth_14 : decode cX2_depth 14 = .ok (.iconst 1, 1) := by decide +kernel
theorem dX2_depth_15 : decode cX2_depth 15 = .ok (.if_icmp .ne 12, 3) := by decide +kernel
theorem dX2_depth_18 : decode cX2_depth 18 = .ok (.aload_n 0, 1) := by decide +kernel
theorem dX2_depth_19 : decode cX2_depth 19 = .ok (.getfield 35, 3) := by decide +kernel
theorem dX2_depth_22 : decode cX2_depth 22 = .ok (.iload_n 2, 1) := by decide +kernel
theorem dX2_depth_23 : decode cX2_depth 23 = .ok (.isub, 1) := by decide +kernel
theorem dX2_depth_24 : decode cX2_depth 24 = .ok (.goto 23, 3) := by decide +kernel
theorem dX2_depth_27 : decode cX2_depth 27 = .ok (.iload_n 1, 1) := by decide +kernel
theorem dX2_depth_28 : decode cX2_depth 28 = .ok (.iconst 2, 1) := by decide +kernel
theorem dX2_depth_29 : decode cX2_depth 29 = .ok (.if_icmp .ne 12, 3) := by decide +kernel
theorem dX2_depth_32 : decode cX2_depth 32 = .ok (.iload_n 3, 1) := by decide +kernel
theorem dX2_depth_33 : decode cX2_depth 33 = .ok (.aload_n 0, 1) := by decide +kernel
theorem dX2_depth_34 : decode cX2_depth 34 = .ok (.getfield 38, 3) := by decide +kernel
theorem dX2_depth_37 : decode cX2_depth 37 = .ok (.isub, 1) := by decide +kernel
theorem dX2_depth_38 : decode cX2_depth 38 = .ok (.goto 9, 3) := by decide +kernel
theorem dX2_depth_41 : decode cX2_depth 41 = .ok (.aload_n 0, 1) := by decide +kernel
theorem dX2_depth_42 : decode cX2_depth 42 = .ok (.getfield 41, 3) := by decide +kernel
theorem dX2_depth_45 : decode cX2_depth 45 = .ok (.iload_n 3, 1) := by decide +kernel
theorem dX2_depth_46 : decode cX2_depth 46 = .ok (.isub, 1) := by decide +kernel
theorem dX2_depth_47 : decode cX2_depth 47 = .ok (.ireturn, 1) := by decide +kernel
theorem dX2_quotient_0 : decode cX2_quotient 0 = .ok (.iload_n 0, 1) := by decide +kernel
theorem dX2_quotient_1 : decode cX2_quotient 1 = .ok (.iload_n 1, 1) := by decide +kernel
theorem dX2_quotient_2 : decode cX2_quotient 2 = .ok (.idiv, 1) := by decide +kernel
theorem dX2_quotient_3 : decode cX2_quotient 3 = .ok (.istore_n 2, 1) := by decide +kernel
theorem dX2_quotient_4 : decode cX2_quotient 4 = .ok (.iload_n 2, 1) := by decide +kernel
theorem dX2_quotient_5 : decode cX2_quotient 5 = .ok (.iload_n 1, 1) := by decide +kernel
theorem dX2_quotient_6 : decode cX2_quotient 6 = .ok (.imul, 1) := by decide +kernel
theorem dX2_quotient_7 : decode cX2_quotient 7 = .ok (.iload_n 0, 1) := by decide +kernel
theorem dX2_quotient_8 : decode cX2_quotient 8 = .ok (.if_icmp .eq 30, 3) := by decide +kernel
theorem dX2_quotient_11 : decode cX2_quotient 11 = .ok (.iload_n 0, 1) := by decide +kernel
theorem dX2_quotient_12 : decode cX2_quotient 12 = .ok (.ifCond .ge 7, 3) := by decide +kernel
theorem dX2_quotient_15 : decode cX2_quotient 15 = .ok (.iconst 1, 1) := by decide +kernel
theorem dX2_quotient_16 : decode cX2_quotient 16 = .ok (.goto 4, 3) := by decide +kernel
theorem dX2_quotient_19 : decode cX2_quotient 19 = .ok (.iconst 0, 1) := by decide +kernel
theorem dX2_quotient_20 : decode cX2_quotient 20 = .ok (.iload_n 1, 1) := by decide +kernel
theorem dX2_quotient_21 : decode cX2_quotient 21 = .ok (.ifCond .ge 7, 3) := by decide +kernel
theorem dX2_quotient_24 : decode cX2_quotient 24 = .ok (.iconst 1, 1) := by decide +kernel
theorem dX2_quotient_25 : decode cX2_quotient 25 = .ok (.goto 4, 3) := by decide +kernel
theorem dX2_quotient_28 : decode cX2_quotient 28 = .ok (.iconst 0, 1) := by decide +kernel
theorem dX2_quotient_29 : decode cX2_quotient 29 = .ok (.if_icmp .eq 9, 3) := by decide +kernel
theorem dX2_quotient_32 : decode cX2_quotient 32 = .ok (.iload_n 2, 1) := by decide +kernel
theorem dX2_quotient_33 : decode cX2_quotient 33 = .ok (.iconst 1, 1) := by decide +kernel
theorem dX2_quotient_34 : decode cX2_quotient 34 = .ok (.isub, 1) := by decide +kernel
theorem dX2_quotient_35 : decode cX2_quotient 35 = .ok (.goto 4, 3) := by decide +kernel
theorem dX2_quotient_38 : decode cX2_quotient 38 = .ok (.iload_n 2, 1) := by decide +kernel
theorem dX2_quotient_39 : decode cX2_quotient 39 = .ok (.ireturn, 1) := by decide +kernel
theorem dX2_add_0 : decode cX2_add 0 = .ok (.aload_n 0, 1) := by decide +kernel
theorem dX2_add_1 : decode cX2_add 1 = .ok (.getfield 64, 3) := by decide +kernel
theorem dX2_add_4 : decode cX2_add 4 = .ok (.aload_n 0, 1) := by decide +kernel
theorem dX2_add_5 : decode cX2_add 5 = .ok (.getfield 54, 3) := by decide +kernel
theorem dX2_add_8 : decode cX2_add 8 = .ok (.if_icmp .ge 23, 3) := by decide +kernel
theorem dX2_add_11 : decode cX2_add 11 = .ok (.aload_n 0, 1) := by decide +kernel
theorem dX2_add_12 : decode cX2_add 12 = .ok (.getfield 25, 3) := by decide +kernel
theorem dX2_add_15 : decode cX2_add 15 = .ok (.aload_n 0, 1) := by decide +kernel
theorem dX2_add_16 : decode cX2_add 16 = .ok (.getfield 64, 3) := by decide +kernel
theorem dX2_add_19 : decode cX2_add 19 = .ok (.iload_n 1, 1) := by decide +kernel
theorem dX2_add_20 : decode cX2_add 20 = .ok (.iastore, 1) := by decide +kernel
theorem dX2_add_21 : decode cX2_add 21 = .ok (.aload_n 0, 1) := by decide +kernel
theorem dX2_add_22 : decode cX2_add 22 = .ok (.getfield 28, 3) := by decide +kernel
theorem dX2_add_25 : decode cX2_add 25 = .ok (.aload_n 0, 1) := by decide +kernel
theorem dX2_add_26 : decode cX2_add 26 = .ok (.getfield 64, 3) := by decide +kernel
theorem dX2_add_29 : decode cX2_add 29 = .ok (.iload_n 2, 1) := by decide +kernel
theorem dX2_add_30 : decode cX2_add 30 = .ok (.iastore, 1) := by decide +kernel
theorem dX2_add_31 : decode cX2_add 31 = .ok (.aload_n 0, 1) := by decide +kernel
theorem dX2_add_32 : decode cX2_add 32 = .ok (.dup, 1) := by decide +kernel
theorem dX2_add_33 : decode cX2_add 33 = .ok (.getfield 64, 3) := by decide +kernel
theorem dX2_add_36 : decode cX2_add 36 = .ok (.iconst 1, 1) := by decide +kernel
theorem dX2_add_37 : decode cX2_add 37 = .ok (.iadd, 1) := by decide +kernel
theorem dX2_add_38 : decode cX2_add 38 = .ok (.putfield 64, 3) := by decide +kernel
theorem dX2_add_41 : decode cX2_add 41 = .ok (.return_, 1) := by decide +kernel
set_option maxRecDepth 20000 in
theorem ggX2_cut_X2_quotient : GoodIn wsX2_cut wsX2_quotient := goodIn_r _ [8] (by decide +kernel) (by decide +kernel)
set_option maxRecDepth 20000 in
theorem gX2_cut_X2_quotient : GoodIn wsX2_cut (va_wsS RX2 67 yX2_quotient wsX2_quotient) := goodIn_app (goodIn_of _ (by decide +kernel)) ggX2_cut_X2_quotient
set_option maxRecDepth 20000 in
theorem ggX2_cut_X2_add : GoodIn wsX2_cut wsX2_add := goodIn_r _ [12, 13, 14, 15, 16, 17, 18, 19, 20, 21, 22, 23, 24, 25, 26, 27, 28, 29, 30, 31, 32, 33] (by decide +kernel) (by decide +kernel)
set_option maxRecDepth 20000 in
theorem gX2_cut_X2_add : GoodIn wsX2_cut (wsV RX2 71 RX2 yX2_add wsX2_add) := goodIn_app (goodIn_of _ (by decide +kernel)) ggX2_cut_X2_add
theorem dX2_cut_0 : decode cX2_cut 0 = .ok (.iload_n 1, 1) := by decide +kernel
theorem dX2_cut_1 : decode cX2_cut 1 = .ok (.iconst 2, 1) := by decide +kernel
theorem dX2_cut_2 : decode cX2_cut 2 = .ok (.if_icmp .ge 47, 3) := by decide +kernel
theorem dX2_cut_5 : decode cX2_cut 5 = .ok (.iload_n 1, 1) := by decide +kernel
theorem dX2_cut_6 : decode cX2_cut 6 = .ok (.ifCond .ne 10, 3) := by decide +kernel
theorem dX2_cut_9 : decode cX2_cut 9 = .ok (.aload_n 0, 1) := by decide +kernel
theorem dX2_cut_10 : decode cX2_cut 10 = .ok (.getfield 31, 3) := by decide +kernel
theorem dX2_cut_13 : decode cX2_cut 13 = .ok (.goto 7, 3) := by decide +kernel
theorem dX2_cut_16 : decode cX2_cut 16 = .ok (.aload_n 0, 1) := by decide +kernel
theorem dX2_cut_17 : decode cX2_cut 17 = .ok (.getfield 35, 3) := by decide +kernel
theorem dX2_cut_20 : decode cX2_cut 20 = .ok (.istore 6, 2) := by decide +kernel
theorem dX2_cut_22 : decode cX2_cut 22 = .ok (.aload_n 0, 1) := by decide +kernel
theorem dX2_cut_23 : decode cX2_cut 23 = .ok (.iload 6, 2) := by decide +kernel
theorem dX2_cut_25 : decode cX2_cut 25 = .ok (.iload_n 3, 1) := by decide +kernel
theorem dX2_cut_26 : decode cX2_cut 26 = .ok (.iload 5, 2) := by decide +kernel
theorem dX2_cut_28 : decode cX2_cut 28 = .ok (.iload_n 3, 1) := by decide +kernel
theorem dX2_cut_29 : decode cX2_cut 29 = .ok (.isub, 1) := by decide +kernel
theorem dX2_cut_30 : decode cX2_cut 30 = .ok (.iload 6, 2) := by decide +kernel
theorem dX2_cut_32 : decode cX2_cut 32 = .ok (.iload_n 2, 1) := by decide +kernel
theorem dX2_cut_33 : decode cX2_cut 33 = .ok (.isub, 1) := by decide +kernel
theorem dX2_cut_34 : decode cX2_cut 34 = .ok (.imul, 1) := by decide +kernel
theorem dX2_cut_35 : decode cX2_cut 35 = .ok (.iload 4, 2) := by decide +kernel
theorem dX2_cut_37 : decode cX2_cut 37 = .ok (.iload_n 2, 1) := by decide +kernel
theorem dX2_cut_38 : decode cX2_cut 38 = .ok (.isub, 1) := by decide +kernel
theorem dX2_cut_39 : decode cX2_cut 39 = .ok (.invokestatic 67, 3) := by decide +kernel
theorem dX2_cut_42 : decode cX2_cut 42 = .ok (.iadd, 1) := by decide +kernel
theorem dX2_cut_43 : decode cX2_cut 43 = .ok (.invokevirtual 71, 3) := by decide +kernel
theorem dX2_cut_46 : decode cX2_cut 46 = .ok (.goto 45, 3) := by decide +kernel
theorem dX2_cut_49 : decode cX2_cut 49 = .ok (.iload_n 1, 1) := by decide +kernel
theorem dX2_cut_50 : decode cX2_cut 50 = .ok (.iconst 2, 1) := by decide +kernel
theorem dX2_cut_51 : decode cX2_cut 51 = .ok (.if_icmp .ne 10, 3) := by decide +kernel
theorem dX2_cut_54 : decode cX2_cut 54 = .ok (.aload_n 0, 1) := by decide +kernel
theorem dX2_cut_55 : decode cX2_cut 55 = .ok (.getfield 38, 3) := by decide +kernel
theorem dX2_cut_58 : decode cX2_cut 58 = .ok (.goto 7, 3) := by decide +kernel
theorem dX2_cut_61 : decode cX2_cut 61 = .ok (.aload_n 0, 1) := by decide +kernel
theorem dX2_cut_62 : decode cX2_cut 62 = .ok (.getfield 41, 3) := by decide +kernel
theorem dX2_cut_65 : decode cX2_cut 65 = .ok (.istore 6, 2) := by decide +kernel
theorem dX2_cut_67 : decode cX2_cut 67 = .ok (.aload_n 0, 1) := by decide +kernel
theorem dX2_cut_68 : decode cX2_cut 68 = .ok (.iload_n 2, 1) := by decide +kernel
theorem dX2_cut_69 : decode cX2_cut 69 = .ok (.iload 4, 2) := by decide +kernel
theorem dX2_cut_71 : decode cX2_cut 71 = .ok (.iload_n 2, 1) := by decide +kernel
theorem dX2_cut_72 : decode cX2_cut 72 = .ok (.isub, 1) := by decide +kernel
theorem dX2_cut_73 : decode cX2_cut 73 = .ok (.iload 6, 2) := by decide +kernel
theorem dX2_cut_75 : decode cX2_cut 75 = .ok (.iload_n 3, 1) := by decide +kernel
theorem dX2_cut_76 : decode cX2_cut 76 = .ok (.isub, 1) := by decide +kernel
theorem dX2_cut_77 : decode cX2_cut 77 = .ok (.imul, 1) := by decide +kernel
theorem dX2_cut_78 : decode cX2_cut 78 = .ok (.iload 5, 2) := by decide +kernel
theorem dX2_cut_80 : decode cX2_cut 80 = .ok (.iload_n 3, 1) := by decide +kernel
theorem dX2_cut_81 : decode cX2_cut 81 = .ok (.isub, 1) := by decide +kernel
theorem dX2_cut_82 : decode cX2_cut 82 = .ok (.invokestatic 67, 3) := by decide +kernel
theorem dX2_cut_85 : decode cX2_cut 85 = .ok (.iadd, 1) := by decide +kernel
theorem dX2_cut_86 : decode cX2_cut 86 = .ok (.iload 6, 2) := by decide +kernel
theorem dX2_cut_88 : decode cX2_cut 88 = .ok (.invokevirtual 71, 3) := by decide +kernel
theorem dX2_cut_91 : decode cX2_cut 91 = .ok (.return_, 1) := by decide +kernel
set_option maxRecDepth 20000 in
theorem ggX2_pass_X2_depth : GoodIn wsX2_pass wsX2_depth := goodIn_r _ [9, 10, 11, 12, 13, 28, 29, 30, 31, 32, 33, 34, 35, 36, 37, 38, 39, 40, 41, 42, 43, 44] (by decide +kernel) (by decide +kernel)
set_option maxRecDepth 20000 in
theorem gX2_pass_X2_depth : GoodIn wsX2_pass (wsV RX2 78 RX2 yX2_depth wsX2_depth) := goodIn_app (goodIn_of _ (by decide +kernel)) ggX2_pass_X2_depth
set_option maxRecDepth 20000 in
theorem ggX2_pass_X2_cut : GoodIn wsX2_pass wsX2_cut := goodIn_r _ [17, 10, 11, 12, 13, 18, 19, 8, 20, 21, 22, 23, 24, 1, 25, 26, 27, 28, 29, 30, 31, 32, 33, 34, 35, 36, 37, 38, 39, 40, 41, 42, 43, 44] (by decide +kernel) (by decide +kernel)
set_option maxRecDepth 20000 in
theorem gX2_pass_X2_cut : GoodIn wsX2_pass (wsV RX2 81 RX2 yX2_cut wsX2_cut) := goodIn_app (goodIn_of _ (by decide +kernel)) ggX2_pass_X2_cut
set_option maxRecDepth 20000 in
theorem ggX2_pass_X2_add : GoodIn wsX2_pass wsX2_add := goodIn_r _ [24, 1, 25, 26, 27, 28, 29, 30, 31, 32, 33, 34, 35, 36, 37, 38, 39, 40, 41, 42, 43, 44] (by decide +kernel) (by decide +kernel)
set_option maxRecDepth 20000 in
theorem gX2_pass_X2_add : GoodIn wsX2_pass (wsV RX2 71 RX2 yX2_add wsX2_add) := goodIn_app (goodIn_of _ (by decide +kernel)) ggX2_pass_X2_add
theorem dX2_pass_0 : decode cX2_pass 0 = .ok (.aload_n 0, 1) := by decide +kernel
theorem dX2_pass_1 : decode cX2_pass 1 = .ok (.iconst 0, 1) := by decide +kernel
theorem dX2_pass_2 : decode cX2_pass 2 = .ok (.putfield 64, 3) := by decide +kernel
theorem dX2_pass_5 : decode cX2_pass 5 = .ok (.iconst 0, 1) := by decide +kernel
theorem dX2_pass_6 : decode cX2_pass 6 = .ok (.istore_n 2, 1) := by decide +kernel
theorem dX2_pass_7 : decode cX2_pass 7 = .ok (.iload_n 2, 1) := by decide +kernel
theorem dX2_pass_8 : decode cX2_pass 8 = .ok (.aload_n 0, 1) := by decide +kernel
theorem dX2_pass_9 : decode cX2_pass 9 = .ok (.getfield 75, 3) := by decide +kernel
theorem dX2_pass_12 : decode cX2_pass 12 = .ok (.if_icmp .ge 137, 3) := by decide +kernel
theorem dX2_pass_15 : decode cX2_pass 15 = .ok (.iload_n 2, 1) := by decide +kernel
theorem dX2_pass_16 : decode cX2_pass 16 = .ok (.ifCond .ne 12, 3) := by decide +kernel
theorem dX2_pass_19 : decode cX2_pass 19 = .ok (.aload_n 0, 1) := by decide +kernel
theorem dX2_pass_20 : decode cX2_pass 20 = .ok (.getfield 75, 3) := by decide +kernel
theorem dX2_pass_23 : decode cX2_pass 23 = .ok (.iconst 1, 1) := by decide +kernel
theorem dX2_pass_24 : decode cX2_pass 24 = .ok (.isub, 1) := by decide +kernel
theorem dX2_pass_25 : decode cX2_pass 25 = .ok (.goto 6, 3) := by decide +kernel
theorem dX2_pass_28 : decode cX2_pass 28 = .ok (.iload_n 2, 1) := by decide +kernel
theorem dX2_pass_29 : decode cX2_pass 29 = .ok (.iconst 1, 1) := by decide +kernel
theorem dX2_pass_30 : decode cX2_pass 30 = .ok (.isub, 1) := by decide +kernel
theorem dX2_pass_31 : decode cX2_pass 31 = .ok (.istore_n 3, 1) := by decide +kernel
theorem dX2_pass_32 : decode cX2_pass 32 = .ok (.aload_n 0, 1) := by decide +kernel
theorem dX2_pass_33 : decode cX2_pass 33 = .ok (.iload_n 1, 1) := by decide +kernel
theorem dX2_pass_34 : decode cX2_pass 34 = .ok (.aload_n 0, 1) := by decide +kernel
theorem dX2_pass_35 : decode cX2_pass 35 = .ok (.getfield 19, 3) := by decide +kernel
theorem dX2_pass_38 : decode cX2_pass 38 = .ok (.iload_n 2, 1) := by decide +kernel
theorem dX2_pass_39 : decode cX2_pass 39 = .ok (.iaload, 1) := by decide +kernel
theorem dX2_pass_40 : decode cX2_pass 40 = .ok (.aload_n 0, 1) := by decide +kernel
theorem dX2_pass_41 : decode cX2_pass 41 = .ok (.getfield 22, 3) := by decide +kernel
theorem dX2_pass_44 : decode cX2_pass 44 = .ok (.iload_n 2, 1) := by decide +kernel
theorem dX2_pass_45 : decode cX2_pass 45 = .ok (.iaload, 1) := by decide +kernel
theorem dX2_pass_46 : decode cX2_pass 46 = .ok (.invokevirtual 78, 3) := by decide +kernel
theorem dX2_pass_49 : decode cX2_pass 49 = .ok (.ifCond .lt 7, 3) := by decide +kernel
theorem dX2_pass_52 : decode cX2_pass 52 = .ok (.iconst 1, 1) := by decide +kernel
theorem dX2_pass_53 : decode cX2_pass 53 = .ok (.goto 4, 3) := by decide +kernel
theorem dX2_pass_56 : decode cX2_pass 56 = .ok (.iconst 0, 1) := by decide +kernel
theorem dX2_pass_57 : decode cX2_pass 57 = .ok (.istore 4, 2) := by decide +kernel
theorem dX2_pass_59 : decode cX2_pass 59 = .ok (.aload_n 0, 1) := by decide +kernel
theorem dX2_pass_60 : decode cX2_pass 60 = .ok (.iload_n 1, 1) := by decide +kernel
theorem dX2_pass_61 : decode cX2_pass 61 = .ok (.aload_n 0, 1) := by decide +kernel
theorem dX2_pass_62 : decode cX2_pass 62 = .ok (.getfield 19, 3) := by decide +kernel
theorem dX2_pass_65 : decode cX2_pass 65 = .ok (.iload_n 3, 1) := by decide +kernel
theorem dX2_pass_66 : decode cX2_pass 66 = .ok (.iaload, 1) := by decide +kernel
theorem dX2_pass_67 : decode cX2_pass 67 = .ok (.aload_n 0, 1) := by decide +kernel
theorem dX2_pass_68 : decode cX2_pass 68 = .ok (.getfield 22, 3) := by decide +kernel
theorem dX2_pass_71 : decode cX2_pass 71 = .ok (.iload_n 3, 1) := by decide +kernel
theorem dX2_pass_72 : decode cX2_pass 72 = .ok (.iaload, 1) := by decide +kernel
theorem dX2_pass_73 : decode cX2_pass 73 = .ok (.invokevirtual 78, 3) := by decide +kernel
theorem dX2_pass_76 : decode cX2_pass 76 = .ok (.ifCond .lt 7, 3) := by decide +kernel
theorem dX2_pass_79 : decode cX2_pass 79 = .ok (.iconst 1, 1) := by decide +kernel
theorem dX2_pass_80 : decode cX2_pass 80 = .ok (.goto 4, 3) := by decide +kernel
theorem dX2_pass_83 : decode cX2_pass 83 = .ok (.iconst 0, 1) := by decide +kernel
theorem dX2_pass_84 : decode cX2_pass 84 = .ok (.istore 5, 2) := by decide +kernel
theorem dX2_pass_86 : decode cX2_pass 86 = .ok (.iload 4, 2) := by decide +kernel
theorem dX2_pass_88 : decode cX2_pass 88 = .ok (.iload 5, 2) := by decide +kernel
theorem dX2_pass_90 : decode cX2_pass 90 = .ok (.if_icmp .eq 32, 3) := by decide +kernel
theorem dX2_pass_93 : decode cX2_pass 93 = .ok (.aload_n 0, 1) := by decide +kernel
theorem dX2_pass_94 : decode cX2_pass 94 = .ok (.iload_n 1, 1) := by decide +kernel
theorem dX2_pass_95 : decode cX2_pass 95 = .ok (.aload_n 0, 1) := by decide +kernel
theorem dX2_pass_96 : decode cX2_pass 96 = .ok (.getfield 19, 3) := by decide +kernel
theorem dX2_pass_99 : decode cX2_pass 99 = .ok (.iload_n 3, 1) := by decide +kernel
theorem dX2_pass_100 : decode cX2_pass 100 = .ok (.iaload, 1) := by decide +kernel
theorem dX2_pass_101 : decode cX2_pass 101 = .ok (.aload_n 0, 1) := by decide +kernel
theorem dX2_pass_102 : decode cX2_pass 102 = .ok (.getfield 22, 3) := by decide +kernel
theorem dX2_pass_105 : decode cX2_pass 105 = .ok (.iload_n 3, 1) := by decide +kernel
theorem dX2_pass_106 : decode cX2_pass 106 = .ok (.iaload, 1) := by decide +kernel
theorem dX2_pass_107 : decode cX2_pass 107 = .ok (.aload_n 0, 1) := by decide +kernel
theorem dX2_pass_108 : decode cX2_pass 108 = .ok (.getfield 19, 3) := by decide +kernel
theorem dX2_pass_111 : decode cX2_pass 111 = .ok (.iload_n 2, 1) := by decide +kernel
theorem dX2_pass_112 : decode cX2_pass 112 = .ok (.iaload, 1) := by decide +kernel
theorem dX2_pass_113 : decode cX2_pass 113 = .ok (.aload_n 0, 1) := by decide +kernel
theorem dX2_pass_114 : decode cX2_pass 114 = .ok (.getfield 22, 3) := by decide +kernel
theorem dX2_pass_117 : decode cX2_pass 117 = .ok (.iload_n 2, 1) := by decide +kernel
theorem dX2_pass_118 : decode cX2_pass 118 = .ok (.iaload, 1) := by decide +kernel
theorem dX2_pass_119 : decode cX2_pass 119 = .ok (.invokevirtual 81, 3) := by decide +kernel
theorem dX2_pass_122 : decode cX2_pass 122 = .ok (.iload 4, 2) := by decide +kernel
theorem dX2_pass_124 : decode cX2_pass 124 = .ok (.ifCond .eq 19, 3) := by decide +kernel
theorem dX2_pass_127 : decode cX2_pass 127 = .ok (.aload_n 0, 1) := by decide +kernel
theorem dX2_pass_128 : decode cX2_pass 128 = .ok (.aload_n 0, 1) := by decide +kernel
theorem dX2_pass_129 : decode cX2_pass 129 = .ok (.getfield 19, 3) := by decide +kernel
theorem dX2_pass_132 : decode cX2_pass 132 = .ok (.iload_n 2, 1) := by decide +kernel
theorem dX2_pass_133 : decode cX2_pass 133 = .ok (.iaload, 1) := by decide +kernel
theorem dX2_pass_134 : decode cX2_pass 134 = .ok (.aload_n 0, 1) := by decide +kernel
theorem dX2_pass_135 : decode cX2_pass 135 = .ok (.getfield 22, 3) := by decide +kernel
theorem dX2_pass_138 : decode cX2_pass 138 = .ok (.iload_n 2, 1) := by decide +kernel
theorem dX2_pass_139 : decode cX2_pass 139 = .ok (.iaload, 1) := by decide +kernel
theorem dX2_pass_140 : decode cX2_pass 140 = .ok (.invokevirtual 71, 3) := by decide +kernel
theorem dX2_pass_143 : decode cX2_pass 143 = .ok (.iinc 2 1, 3) := by decide +kernel
theorem dX2_pass_146 : decode cX2_pass 146 = .ok (.goto (-139), 3) := by decide +kernel
theorem dX2_pass_149 : decode cX2_pass 149 = .ok (.return_, 1) := by decide +kernel
set_option maxRecDepth 20000 in
theorem ggX2_clip_X2_pass : GoodIn wsX2_clip wsX2_pass := goodIn_r _ [15, 7, 2, 3, 5, 16, 17, 18, 14, 19, 20, 21, 22, 23, 24, 25, 26, 27, 28, 29, 30, 31, 32, 33, 34, 8, 9, 10, 35, 36, 37, 38, 39, 40, 41, 42, 43, 44, 45, 46, 47, 48, 49, 50, 51] (by decide +kernel) (by decide +kernel)
set_option maxRecDepth 20000 in
theorem gX2_clip_X2_pass : GoodIn wsX2_clip (wsV RX2 85 RX2 yX2_pass wsX2_pass) := goodIn_app (goodIn_of _ (by decide +kernel)) ggX2_clip_X2_pass
theorem dX2_clip_0 : decode cX2_clip 0 = .ok (.aload_n 0, 1) := by decide +kernel
theorem dX2_clip_1 : decode cX2_clip 1 = .ok (.aload_n 0, 1) := by decide +kernel
theorem dX2_clip_2 : decode cX2_clip 2 = .ok (.getfield 57, 3) := by decide +kernel
theorem dX2_clip_5 : decode cX2_clip 5 = .ok (.putfield 75, 3) := by decide +kernel
theorem dX2_clip_8 : decode cX2_clip 8 = .ok (.iconst 0, 1) := by decide +kernel
theorem dX2_clip_9 : decode cX2_clip 9 = .ok (.istore_n 1, 1) := by decide +kernel
theorem dX2_clip_10 : decode cX2_clip 10 = .ok (.iload_n 1, 1) := by decide +kernel
theorem dX2_clip_11 : decode cX2_clip 11 = .ok (.aload_n 0, 1) := by decide +kernel
theorem dX2_clip_12 : decode cX2_clip 12 = .ok (.getfield 57, 3) := by decide +kernel
theorem dX2_clip_15 : decode cX2_clip 15 = .ok (.if_icmp .ge 33, 3) := by decide +kernel
theorem dX2_clip_18 : decode cX2_clip 18 = .ok (.aload_n 0, 1) := by decide +kernel
theorem dX2_clip_19 : decode cX2_clip 19 = .ok (.getfield 19, 3) := by decide +kernel
theorem dX2_clip_22 : decode cX2_clip 22 = .ok (.iload_n 1, 1) := by decide +kernel
theorem dX2_clip_23 : decode cX2_clip 23 = .ok (.aload_n 0, 1) := by decide +kernel
theorem dX2_clip_24 : decode cX2_clip 24 = .ok (.getfield 13, 3) := by decide +kernel
theorem dX2_clip_27 : decode cX2_clip 27 = .ok (.iload_n 1, 1) := by decide +kernel
theorem dX2_clip_28 : decode cX2_clip 28 = .ok (.iaload, 1) := by decide +kernel
theorem dX2_clip_29 : decode cX2_clip 29 = .ok (.iastore, 1) := by decide +kernel
theorem dX2_clip_30 : decode cX2_clip 30 = .ok (.aload_n 0, 1) := by decide +kernel
theorem dX2_clip_31 : decode cX2_clip 31 = .ok (.getfield 22, 3) := by decide +kernel
theorem dX2_clip_34 : decode cX2_clip 34 = .ok (.iload_n 1, 1) := by decide +kernel
theorem dX2_clip_35 : decode cX2_clip 35 = .ok (.aload_n 0, 1) := by decide +kernel
theorem dX2_clip_36 : decode cX2_clip 36 = .ok (.getfield 16, 3) := by decide +kernel
theorem dX2_clip_39 : decode cX2_clip 39 = .ok (.iload_n 1, 1) := by decide +kernel
theorem dX2_clip_40 : decode cX2_clip 40 = .ok (.iaload, 1) := by decide +kernel
theorem dX2_clip_41 : decode cX2_clip 41 = .ok (.iastore, 1) := by decide +kernel
theorem dX2_clip_42 : decode cX2_clip 42 = .ok (.iinc 1 1, 3) := by decide +kernel
theorem dX2_clip_45 : decode cX2_clip 45 = .ok (.goto (-35), 3) := by decide +kernel
theorem dX2_clip_48 : decode cX2_clip 48 = .ok (.iconst 0, 1) := by decide +kernel
theorem dX2_clip_49 : decode cX2_clip 49 = .ok (.istore_n 1, 1) := by decide +kernel
theorem dX2_clip_50 : decode cX2_clip 50 = .ok (.iload_n 1, 1) := by decide +kernel
theorem dX2_clip_51 : decode cX2_clip 51 = .ok (.iconst 4, 1) := by decide +kernel
theorem dX2_clip_52 : decode cX2_clip 52 = .ok (.if_icmp .ge 75, 3) := by decide +kernel
theorem dX2_clip_55 : decode cX2_clip 55 = .ok (.aload_n 0, 1) := by decide +kernel
theorem dX2_clip_56 : decode cX2_clip 56 = .ok (.iload_n 1, 1) := by decide +kernel
theorem dX2_clip_57 : decode cX2_clip 57 = .ok (.invokevirtual 85, 3) := by decide +kernel
theorem dX2_clip_60 : decode cX2_clip 60 = .ok (.aload_n 0, 1) := by decide +kernel
theorem dX2_clip_61 : decode cX2_clip 61 = .ok (.getfield 64, 3) := by decide +kernel
theorem dX2_clip_64 : decode cX2_clip 64 = .ok (.aload_n 0, 1) := by decide +kernel
theorem dX2_clip_65 : decode cX2_clip 65 = .ok (.getfield 54, 3) := by decide +kernel
theorem dX2_clip_68 : decode cX2_clip 68 = .ok (.if_icmp .le 5, 3) := by decide +kernel
theorem dX2_clip_71 : decode cX2_clip 71 = .ok (.iconst (-1), 1) := by decide +kernel
theorem dX2_clip_72 : decode cX2_clip 72 = .ok (.ireturn, 1) := by decide +kernel
theorem dX2_clip_73 : decode cX2_clip 73 = .ok (.aload_n 0, 1) := by decide +kernel
theorem dX2_clip_74 : decode cX2_clip 74 = .ok (.aload_n 0, 1) := by decide +kernel
theorem dX2_clip_75 : decode cX2_clip 75 = .ok (.getfield 64, 3) := by decide +kernel
theorem dX2_clip_78 : decode cX2_clip 78 = .ok (.putfield 75, 3) := by decide +kernel
theorem dX2_clip_81 : decode cX2_clip 81 = .ok (.iconst 0, 1) := by decide +kernel
theorem dX2_clip_82 : decode cX2_clip 82 = .ok (.istore_n 2, 1) := by decide +kernel
theorem dX2_clip_83 : decode cX2_clip 83 = .ok (.iload_n 2, 1) := by decide +kernel
theorem dX2_clip_84 : decode cX2_clip 84 = .ok (.aload_n 0, 1) := by decide +kernel
theorem dX2_clip_85 : decode cX2_clip 85 = .ok (.getfield 64, 3) := by decide +kernel
theorem dX2_clip_88 : decode cX2_clip 88 = .ok (.if_icmp .ge 33, 3) := by decide +kernel
theorem dX2_clip_91 : decode cX2_clip 91 = .ok (.aload_n 0, 1) := by decide +kernel
theorem dX2_clip_92 : decode cX2_clip 92 = .ok (.getfield 19, 3) := by decide +kernel
theorem dX2_clip_95 : decode cX2_clip 95 = .ok (.iload_n 2, 1) := by decide +kernel
theorem dX2_clip_96 : decode cX2_clip 96 = .ok (.aload_n 0, 1) := by decide +kernel
theorem dX2_clip_97 : decode cX2_clip 97 = .ok (.getfield 25, 3) := by decide +kernel
theorem dX2_clip_100 : decode cX2_clip 100 = .ok (.iload_n 2, 1) := by decide +kernel
theorem dX2_clip_101 : decode cX2_clip 101 = .ok (.iaload, 1) := by decide +kernel
theorem dX2_clip_102 : decode cX2_clip 102 = .ok (.iastore, 1) := by decide +kernel
theorem dX2_clip_103 : decode cX2_clip 103 = .ok (.aload_n 0, 1) := by decide +kernel
theorem dX2_clip_104 : decode cX2_clip 104 = .ok (.getfield 22, 3) := by decide +kernel
theorem dX2_clip_107 : decode cX2_clip 107 = .ok (.iload_n 2, 1) := by decide +kernel
theorem dX2_clip_108 : decode cX2_clip 108 = .ok (.aload_n 0, 1) := by decide +kernel
theorem dX2_clip_109 : decode cX2_clip 109 = .ok (.getfield 28, 3) := by decide +kernel
theorem dX2_clip_112 : decode cX2_clip 112 = .ok (.iload_n 2, 1) := by decide +kernel
theorem dX2_clip_113 : decode cX2_clip 113 = .ok (.iaload, 1) := by decide +kernel
theorem dX2_clip_114 : decode cX2_clip 114 = .ok (.iastore, 1) := by decide +kernel
theorem dX2_clip_115 : decode cX2_clip 115 = .ok (.iinc 2 1, 3) := by decide +kernel
theorem dX2_clip_118 : decode cX2_clip 118 = .ok (.goto (-35), 3) := by decide +kernel
theorem dX2_clip_121 : decode cX2_clip 121 = .ok (.iinc 1 1, 3) := by decide +kernel
theorem dX2_clip_124 : decode cX2_clip 124 = .ok (.goto (-74), 3) := by decide +kernel
theorem dX2_clip_127 : decode cX2_clip 127 = .ok (.aload_n 0, 1) := by decide +kernel
theorem dX2_clip_128 : decode cX2_clip 128 = .ok (.aload_n 0, 1) := by decide +kernel
theorem dX2_clip_129 : decode cX2_clip 129 = .ok (.getfield 75, 3) := by decide +kernel
theorem dX2_clip_132 : decode cX2_clip 132 = .ok (.putfield 57, 3) := by decide +kernel
theorem dX2_clip_135 : decode cX2_clip 135 = .ok (.iconst 0, 1) := by decide +kernel
theorem dX2_clip_136 : decode cX2_clip 136 = .ok (.istore_n 1, 1) := by decide +kernel
theorem dX2_clip_137 : decode cX2_clip 137 = .ok (.iload_n 1, 1) := by decide +kernel
theorem dX2_clip_138 : decode cX2_clip 138 = .ok (.aload_n 0, 1) := by decide +kernel
theorem dX2_clip_139 : decode cX2_clip 139 = .ok (.getfield 57, 3) := by decide +kernel
theorem dX2_clip_142 : decode cX2_clip 142 = .ok (.if_icmp .ge 33, 3) := by decide +kernel
theorem dX2_clip_145 : decode cX2_clip 145 = .ok (.aload_n 0, 1) := by decide +kernel
theorem dX2_clip_146 : decode cX2_clip 146 = .ok (.getfield 13, 3) := by decide +kernel
theorem dX2_clip_149 : decode cX2_clip 149 = .ok (.iload_n 1, 1) := by decide +kernel
theorem dX2_clip_150 : decode cX2_clip 150 = .ok (.aload_n 0, 1) := by decide +kernel
theorem dX2_clip_151 : decode cX2_clip 151 = .ok (.getfield 19, 3) := by decide +kernel
theorem dX2_clip_154 : decode cX2_clip 154 = .ok (.iload_n 1, 1) := by decide +kernel
theorem dX2_clip_155 : decode cX2_clip 155 = .ok (.iaload, 1) := by decide +kernel
theorem dX2_clip_156 : decode cX2_clip 156 = .ok (.iastore, 1) := by decide +kernel
theorem dX2_clip_157 : decode cX2_clip 157 = .ok (.aload_n 0, 1) := by decide +kernel
theorem dX2_clip_158 : decode cX2_clip 158 = .ok (.getfield 16, 3) := by decide +kernel
theorem dX2_clip_161 : decode cX2_clip 161 = .ok (.iload_n 1, 1) := by decide +kernel
theorem dX2_clip_162 : decode cX2_clip 162 = .ok (.aload_n 0, 1) := by decide +kernel
theorem dX2_clip_163 : decode cX2_clip 163 = .ok (.getfield 22, 3) := by decide +kernel
theorem dX2_clip_166 : decode cX2_clip 166 = .ok (.iload_n 1, 1) := by decide +kernel
theorem dX2_clip_167 : decode cX2_clip 167 = .ok (.iaload, 1) := by decide +kernel
theorem dX2_clip_168 : decode cX2_clip 168 = .ok (.iastore, 1) := by decide +kernel
theorem dX2_clip_169 : decode cX2_clip 169 = .ok (.iinc 1 1, 3) := by decide +kernel
theorem dX2_clip_172 : decode cX2_clip 172 = .ok (.goto (-35), 3) := by decide +kernel
theorem dX2_clip_175 : decode cX2_clip 175 = .ok (.aload_n 0, 1) := by decide +kernel
theorem dX2_clip_176 : decode cX2_clip 176 = .ok (.getfield 57, 3) := by decide +kernel
theorem dX2_clip_179 : decode cX2_clip 179 = .ok (.ireturn, 1) := by decide +kernel
theorem dX2_isVertex_0 : decode cX2_isVertex 0 = .ok (.iload_n 1, 1) := by decide +kernel
theorem dX2_isVertex_1 : decode cX2_isVertex 1 = .ok (.ifCond .lt 15, 3) := by decide +kernel
theorem dX2_isVertex_4 : decode cX2_isVertex 4 = .ok (.iload_n 1, 1) := by decide +kernel
theorem dX2_isVertex_5 : decode cX2_isVertex 5 = .ok (.aload_n 0, 1) := by decide +kernel
theorem dX2_isVertex_6 : decode cX2_isVertex 6 = .ok (.getfield 57, 3) := by decide +kernel
theorem dX2_isVertex_9 : decode cX2_isVertex 9 = .ok (.if_icmp .ge 7, 3) := by decide +kernel
theorem dX2_isVertex_12 : decode cX2_isVertex 12 = .ok (.iconst 1, 1) := by decide +kernel
theorem dX2_isVertex_13 : decode cX2_isVertex 13 = .ok (.goto 4, 3) := by decide +kernel
theorem dX2_isVertex_16 : decode cX2_isVertex 16 = .ok (.iconst 0, 1) := by decide +kernel
theorem dX2_isVertex_17 : decode cX2_isVertex 17 = .ok (.ireturn, 1) := by decide +kernel
set_option maxRecDepth 20000 in
theorem ggX2_vx_X2_isVertex : GoodIn wsX2_vx wsX2_isVertex := goodIn_r _ [6, 7, 8, 9, 10, 11, 12, 13, 14, 15, 16, 17, 18, 19, 20, 21, 22, 23, 24] (by decide +kernel) (by decide +kernel)
set_option maxRecDepth 20000 in
theorem gX2_vx_X2_isVertex : GoodIn wsX2_vx (wsV RX2 89 RX2 yX2_isVertex wsX2_isVertex) := goodIn_app (goodIn_of _ (by decide +kernel)) ggX2_vx_X2_isVertex
theorem dX2_vx_0 : decode cX2_vx 0 = .ok (.aload_n 0, 1) := by decide +kernel
theorem dX2_vx_1 : decode cX2_vx 1 = .ok (.iload_n 1, 1) := by decide +kernel
theorem dX2_vx_2 : decode cX2_vx 2 = .ok (.invokevirtual 89, 3) := by decide +kernel
theorem dX2_vx_5 : decode cX2_vx 5 = .ok (.ifCond .eq 12, 3) := by decide +kernel
theorem dX2_vx_8 : decode cX2_vx 8 = .ok (.aload_n 0, 1) := by decide +kernel
theorem dX2_vx_9 : decode cX2_vx 9 = .ok (.getfield 13, 3) := by decide +kernel
theorem dX2_vx_12 : decode cX2_vx 12 = .ok (.iload_n 1, 1) := by decide +kernel
theorem dX2_vx_13 : decode cX2_vx 13 = .ok (.iaload, 1) := by decide +kernel
theorem dX2_vx_14 : decode cX2_vx 14 = .ok (.goto 6, 3) := by decide +kernel
theorem dX2_vx_17 : decode cX2_vx 17 = .ok (.sipush (-32768), 3) := by decide +kernel
theorem dX2_vx_20 : decode cX2_vx 20 = .ok (.ireturn, 1) := by decide +kernel
set_option maxRecDepth 20000 in
theorem ggX2_vy_X2_isVertex : GoodIn wsX2_vy wsX2_isVertex := goodIn_r _ [6, 7, 8, 9, 10, 11, 12, 13, 14, 15, 16, 17, 18, 19, 20, 21, 22, 23, 24] (by decide +kernel) (by decide +kernel)
set_option maxRecDepth 20000 in
theorem gX2_vy_X2_isVertex : GoodIn wsX2_vy (wsV RX2 89 RX2 yX2_isVertex wsX2_isVertex) := goodIn_app (goodIn_of _ (by decide +kernel)) ggX2_vy_X2_isVertex
theorem dX2_vy_0 : decode cX2_vy 0 = .ok (.aload_n 0, 1) := by decide +kernel
theorem dX2_vy_1 : decode cX2_vy 1 = .ok (.iload_n 1, 1) := by decide +kernel
theorem dX2_vy_2 : decode cX2_vy 2 = .ok (.invokevirtual 89, 3) := by decide +kernel
theorem dX2_vy_5 : decode cX2_vy 5 = .ok (.ifCond .eq 12, 3) := by decide +kernel
theorem dX2_vy_8 : decode cX2_vy 8 = .ok (.aload_n 0, 1) := by decide +kernel
theorem dX2_vy_9 : decode cX2_vy 9 = .ok (.getfield 16, 3) := by decide +kernel
theorem dX2_vy_12 : decode cX2_vy 12 = .ok (.iload_n 1, 1) := by decide +kernel
theorem dX2_vy_13 : decode cX2_vy 13 = .ok (.iaload, 1) := by decide +kernel
theorem dX2_vy_14 : decode cX2_vy 14 = .ok (.goto 6, 3) := by decide +kernel
theorem dX2_vy_17 : decode cX2_vy 17 = .ok (.sipush (-32768), 3) := by decide +kernel
theorem dX2_vy_20 : decode cX2_vy 20 = .ok (.ireturn, 1) := by decide +kernel
theorem dX2_crosses_0 : decode cX2_crosses 0 = .ok (.lload_n 2, 1) := by decide +kernel
theorem dX2_crosses_1 : decode cX2_crosses 1 = .ok (.lload 10, 2) := by decide +kernel
theorem dX2_crosses_3 : decode cX2_crosses 3 = .ok (.lcmp, 1) := by decide +kernel
theorem dX2_crosses_4 : decode cX2_crosses 4 = .ok (.ifCond .gt 7, 3) := by decide +kernel
theorem dX2_crosses_7 : decode cX2_crosses 7 = .ok (.iconst 1, 1) := by decide +kernel
theorem dX2_crosses_8 : decode cX2_crosses 8 = .ok (.goto 4, 3) := by decide +kernel
theorem dX2_crosses_11 : decode cX2_crosses 11 = .ok (.iconst 0, 1) := by decide +kernel
theorem dX2_crosses_12 : decode cX2_crosses 12 = .ok (.lload 6, 2) := by decide +kernel
theorem dX2_crosses_14 : decode cX2_crosses 14 = .ok (.lload 10, 2) := by decide +kernel
theorem dX2_crosses_16 : decode cX2_crosses 16 = .ok (.lcmp, 1) := by decide +kernel
theorem dX2_crosses_17 : decode cX2_crosses 17 = .ok (.ifCond .gt 7, 3) := by decide +kernel
theorem dX2_crosses_20 : decode cX2_crosses 20 = .ok (.iconst 1, 1) := by decide +kernel
theorem dX2_crosses_21 : decode cX2_crosses 21 = .ok (.goto 4, 3) := by decide +kernel
theorem dX2_crosses_24 : decode cX2_crosses 24 = .ok (.iconst 0, 1) := by decide +kernel
theorem dX2_crosses_25 : decode cX2_crosses 25 = .ok (.if_icmp .ne 5, 3) := by decide +kernel
theorem dX2_crosses_28 : decode cX2_crosses 28 = .ok (.iconst 0, 1) := by decide +kernel
theorem dX2_crosses_29 : decode cX2_crosses 29 = .ok (.ireturn, 1) := by decide +kernel
theorem dX2_crosses_30 : decode cX2_crosses 30 = .ok (.lload_n 2, 1) := by decide +kernel
theorem dX2_crosses_31 : decode cX2_crosses 31 = .ok (.lload 10, 2) := by decide +kernel
theorem dX2_crosses_33 : decode cX2_crosses 33 = .ok (.lcmp, 1) := by decide +kernel
theorem dX2_crosses_34 : decode cX2_crosses 34 = .ok (.ifCond .gt 7, 3) := by decide +kernel
theorem dX2_crosses_37 : decode cX2_crosses 37 = .ok (.iconst 1, 1) := by decide +kernel
theorem dX2_crosses_38 : decode cX2_crosses 38 = .ok (.goto 4, 3) := by decide +kernel
theorem dX2_crosses_41 : decode cX2_crosses 41 = .ok (.iconst 0, 1) := by decide +kernel
theorem dX2_crosses_42 : decode cX2_crosses 42 = .ok (.istore 12, 2) := by decide +kernel
theorem dX2_crosses_44 : decode cX2_crosses 44 = .ok (.iload 12, 2) := by decide +kernel
theorem dX2_crosses_46 : decode cX2_crosses 46 = .ok (.ifCond .eq 7, 3) := by decide +kernel
theorem dX2_crosses_49 : decode cX2_crosses 49 = .ok (.lload_n 0, 1) := by decide +kernel
theorem dX2_crosses_50 : decode cX2_crosses 50 = .ok (.goto 5, 3) := by decide +kernel
theorem dX2_crosses_53 : decode cX2_crosses 53 = .ok (.lload 4, 2) := by decide +kernel
theorem dX2_crosses_55 : decode cX2_crosses 55 = .ok (.lstore 13, 2) := by decide +kernel
theorem dX2_crosses_57 : decode cX2_crosses 57 = .ok (.iload 12, 2) := by decide +kernel
theorem dX2_crosses_59 : decode cX2_crosses 59 = .ok (.ifCond .eq 7, 3) := by decide +kernel
theorem dX2_crosses_62 : decode cX2_crosses 62 = .ok (.lload_n 2, 1) := by decide +kernel
theorem dX2_crosses_63 : decode cX2_crosses 63 = .ok (.goto 5, 3) := by decide +kernel
theorem dX2_crosses_66 : decode cX2_crosses 66 = .ok (.lload 6, 2) := by decide +kernel
theorem dX2_crosses_68 : decode cX2_crosses 68 = .ok (.lstore 15, 2) := by decide +kernel
theorem dX2_crosses_70 : decode cX2_crosses 70 = .ok (.iload 12, 2) := by decide +kernel
theorem dX2_crosses_72 : decode cX2_crosses 72 = .ok (.ifCond .eq 10, 3) := by decide +kernel
theorem dX2_crosses_75 : decode cX2_crosses 75 = .ok (.lload 4, 2) := by decide +kernel
theorem dX2_crosses_77 : decode cX2_crosses 77 = .ok (.lload_n 0, 1) := by decide +kernel
theorem dX2_crosses_78 : decode cX2_crosses 78 = .ok (.lsub, 1) := by decide +kernel
theorem dX2_crosses_79 : decode cX2_crosses 79 = .ok (.goto 7, 3) := by decide +kernel
theorem dX2_crosses_82 : decode cX2_crosses 82 = .ok (.lload_n 0, 1) := by decide +kernel
theorem dX2_crosses_83 : decode cX2_crosses 83 = .ok (.lload 4, 2) := by decide +kernel
theorem dX2_crosses_85 : decode cX2_crosses 85 = .ok (.lsub, 1) := by decide +kernel
theorem dX2_crosses_86 : decode cX2_crosses 86 = .ok (.lstore 17, 2) := by decide +kernel
theorem dX2_crosses_88 : decode cX2_crosses 88 = .ok (.iload 12, 2) := by decide +kernel
theorem dX2_crosses_90 : decode cX2_crosses 90 = .ok (.ifCond .eq 10, 3) := by decide +kernel
theorem dX2_crosses_93 : decode cX2_crosses 93 = .ok (.lload 6, 2) := by decide +kernel
theorem dX2_crosses_95 : decode cX2_crosses 95 = .ok (.lload_n 2, 1) := by decide +kernel
theorem dX2_crosses_96 : decode cX2_crosses 96 = .ok (.lsub, 1) := by decide +kernel
theorem dX2_crosses_97 : decode cX2_crosses 97 = .ok (.goto 7, 3) := by decide +kernel
theorem dX2_crosses_100 : decode cX2_crosses 100 = .ok (.lload_n 2, 1) := by decide +kernel
theorem dX2_crosses_101 : decode cX2_crosses 101 = .ok (.lload 6, 2) := by decide +kernel
theorem dX2_crosses_103 : decode cX2_crosses 103 = .ok (.lsub, 1) := by decide +kernel
theorem dX2_crosses_104 : decode cX2_crosses 104 = .ok (.lstore 19, 2) := by decide +kernel
theorem dX2_crosses_106 : decode cX2_crosses 106 = .ok (.lload 17, 2) := by decide +kernel
theorem dX2_crosses_108 : decode cX2_crosses 108 = .ok (.lload 10, 2) := by decide +kernel
theorem dX2_crosses_110 : decode cX2_crosses 110 = .ok (.lload 15, 2) := by decide +kernel
theorem dX2_crosses_112 : decode cX2_crosses 112 = .ok (.lsub, 1) := by decide +kernel
theorem dX2_crosses_113 : decode cX2_crosses 113 = .ok (.lmul, 1) := by decide +kernel
theorem dX2_crosses_114 : decode cX2_crosses 114 = .ok (.lload 8, 2) := by decide +kernel
theorem dX2_crosses_116 : decode cX2_crosses 116 = .ok (.lload 13, 2) := by decide +kernel
theorem dX2_crosses_118 : decode cX2_crosses 118 = .ok (.lsub, 1) := by decide +kernel
theorem dX2_crosses_119 : decode cX2_crosses 119 = .ok (.lload 19, 2) := by decide +kernel
theorem dX2_crosses_121 : decode cX2_crosses 121 = .ok (.lmul, 1) := by decide +kernel
theorem dX2_crosses_122 : decode cX2_crosses 122 = .ok (.lcmp, 1) := by decide +kernel
theorem dX2_crosses_123 : decode cX2_crosses 123 = .ok (.ifCond .le 7, 3) := by decide +kernel
theorem dX2_crosses_126 : decode cX2_crosses 126 = .ok (.iconst 1, 1) := by decide +kernel
theorem dX2_crosses_127 : decode cX2_crosses 127 = .ok (.goto 4, 3) := by decide +kernel
theorem dX2_crosses_130 : decode cX2_crosses 130 = .ok (.iconst 0, 1) := by decide +kernel
theorem dX2_crosses_131 : decode cX2_crosses 131 = .ok (.ireturn, 1) := by decide +kernel
set_option maxRecDepth 20000 in
theorem ggX2_inside_X2_crosses : GoodIn wsX2_inside wsX2_crosses := goodIn_r _ [7] (by decide +kernel) (by decide +kernel)
set_option maxRecDepth 20000 in
theorem gX2_inside_X2_crosses : GoodIn wsX2_inside (va_wsS RX2 92 yX2_crosses wsX2_crosses) := goodIn_app (goodIn_of _ (by decide +kernel)) ggX2_inside_X2_crosses
theorem dX2_inside_0 : decode cX2_inside 0 = .ok (.iconst 0, 1) := by decide +kernel
theorem dX2_inside_1 : decode cX2_inside 1 = .ok (.istore_n 3, 1) := by decide +kernel
theorem dX2_inside_2 : decode cX2_inside 2 = .ok (.iconst 0, 1) := by decide +kernel
theorem dX2_inside_3 : decode cX2_inside 3 = .ok (.istore 4, 2) := by decide +kernel
theorem dX2_inside_5 : decode cX2_inside 5 = .ok (.iload 4, 2) := by decide +kernel
theorem dX2_inside_7 : decode cX2_inside 7 = .ok (.aload_n 0, 1) := by decide +kernel
theorem dX2_inside_8 : decode cX2_inside 8 = .ok (.getfield 57, 3) := by decide +kernel
theorem dX2_inside_11 : decode cX2_inside 11 = .ok (.if_icmp .ge 82, 3) := by decide +kernel
theorem dX2_inside_14 : decode cX2_inside 14 = .ok (.iload 4, 2) := by decide +kernel
theorem dX2_inside_16 : decode cX2_inside 16 = .ok (.iconst 1, 1) := by decide +kernel
theorem dX2_inside_17 : decode cX2_inside 17 = .ok (.iadd, 1) := by decide +kernel
theorem dX2_inside_18 : decode cX2_inside 18 = .ok (.aload_n 0, 1) := by decide +kernel
theorem dX2_inside_19 : decode cX2_inside 19 = .ok (.getfield 57, 3) := by decide +kernel
theorem dX2_inside_22 : decode cX2_inside 22 = .ok (.if_icmp .ne 7, 3) := by decide +kernel
theorem dX2_inside_25 : decode cX2_inside 25 = .ok (.iconst 0, 1) := by decide +kernel
theorem dX2_inside_26 : decode cX2_inside 26 = .ok (.goto 7, 3) := by decide +kernel
theorem dX2_inside_29 : decode cX2_inside 29 = .ok (.iload 4, 2) := by decide +kernel
theorem dX2_inside_31 : decode cX2_inside 31 = .ok (.iconst 1, 1) := by decide +kernel
theorem dX2_inside_32 : decode cX2_inside 32 = .ok (.iadd, 1) := by decide +kernel
theorem dX2_inside_33 : decode cX2_inside 33 = .ok (.istore 5, 2) := by decide +kernel
theorem dX2_inside_35 : decode cX2_inside 35 = .ok (.aload_n 0, 1) := by decide +kernel
theorem dX2_inside_36 : decode cX2_inside 36 = .ok (.getfield 13, 3) := by decide +kernel
theorem dX2_inside_39 : decode cX2_inside 39 = .ok (.iload 4, 2) := by decide +kernel
theorem dX2_inside_41 : decode cX2_inside 41 = .ok (.iaload, 1) := by decide +kernel
theorem dX2_inside_42 : decode cX2_inside 42 = .ok (.i2l, 1) := by decide +kernel
theorem dX2_inside_43 : decode cX2_inside 43 = .ok (.aload_n 0, 1) := by decide +kernel
theorem dX2_inside_44 : decode cX2_inside 44 = .ok (.getfield 16, 3) := by decide +kernel
theorem dX2_inside_47 : decode cX2_inside 47 = .ok (.iload 4, 2) := by decide +kernel
theorem dX2_inside_49 : decode cX2_inside 49 = .ok (.iaload, 1) := by decide +kernel
theorem dX2_inside_50 : decode cX2_inside 50 = .ok (.i2l, 1) := by decide +kernel
theorem dX2_inside_51 : decode cX2_inside 51 = .ok (.aload_n 0, 1) := by decide +kernel
theorem dX2_inside_52 : decode cX2_inside 52 = .ok (.getfield 13, 3) := by decide +kernel
theorem dX2_inside_55 : decode cX2_inside 55 = .ok (.iload 5, 2) := by decide +kernel
theorem dX2_inside_57 : decode cX2_inside 57 = .ok (.iaload, 1) := by decide +kernel
theorem dX2_inside_58 : decode cX2_inside 58 = .ok (.i2l, 1) := by decide +kernel
theorem dX2_inside_59 : decode cX2_inside 59 = .ok (.aload_n 0, 1) := by decide +kernel
theorem dX2_inside_60 : decode cX2_inside 60 = .ok (.getfield 16, 3) := by decide +kernel
theorem dX2_inside_63 : decode cX2_inside 63 = .ok (.iload 5, 2) := by decide +kernel
theorem dX2_inside_65 : decode cX2_inside 65 = .ok (.iaload, 1) := by decide +kernel
theorem dX2_inside_66 : decode cX2_inside 66 = .ok (.i2l, 1) := by decide +kernel
theorem dX2_inside_67 : decode cX2_inside 67 = .ok (.iload_n 1, 1) := by decide +kernel
theorem dX2_inside_68 : decode cX2_inside 68 = .ok (.i2l, 1) := by decide +kernel
theorem dX2_inside_69 : decode cX2_inside 69 = .ok (.iload_n 2, 1) := by decide +kernel
theorem dX2_inside_70 : decode cX2_inside 70 = .ok (.i2l, 1) := by decide +kernel
theorem dX2_inside_71 : decode cX2_inside 71 = .ok (.invokestatic 92, 3) := by decide +kernel
theorem dX2_inside_74 : decode cX2_inside 74 = .ok (.ifCond .eq 13, 3) := by decide +kernel
theorem dX2_inside_77 : decode cX2_inside 77 = .ok (.iload_n 3, 1) := by decide +kernel
theorem dX2_inside_78 : decode cX2_inside 78 = .ok (.ifCond .ne 7, 3) := by decide +kernel
theorem dX2_inside_81 : decode cX2_inside 81 = .ok (.iconst 1, 1) := by decide +kernel
theorem dX2_inside_82 : decode cX2_inside 82 = .ok (.goto 4, 3) := by decide +kernel
theorem dX2_inside_85 : decode cX2_inside 85 = .ok (.iconst 0, 1) := by decide +kernel
theorem dX2_inside_86 : decode cX2_inside 86 = .ok (.istore_n 3, 1) := by decide +kernel
theorem dX2_inside_87 : decode cX2_inside 87 = .ok (.iinc 4 1, 3) := by decide +kernel
theorem dX2_inside_90 : decode cX2_inside 90 = .ok (.goto (-85), 3) := by decide +kernel
theorem dX2_inside_93 : decode cX2_inside 93 = .ok (.iload_n 3, 1) := by decide +kernel
theorem dX2_inside_94 : decode cX2_inside 94 = .ok (.ireturn, 1) := by decide +kernel
set_option maxRecDepth 20000 in
theorem ggX2_fill_X2_inside : GoodIn wsX2_fill wsX2_inside := goodIn_r _ [8, 9, 10, 11, 12, 13, 7, 14, 15, 16, 17, 18, 19, 20, 21, 22, 23, 24, 25, 26, 27, 28, 29, 30, 31] (by decide +kernel) (by decide +kernel)
set_option maxRecDepth 20000 in
theorem gX2_fill_X2_inside : GoodIn wsX2_fill (wsV RX2 96 RX2 yX2_inside wsX2_inside) := goodIn_app (goodIn_of _ (by decide +kernel)) ggX2_fill_X2_inside
theorem dX2_fill_0 : decode cX2_fill 0 = .ok (.iconst 0, 1) := by decide +kernel
theorem dX2_fill_1 : decode cX2_fill 1 = .ok (.istore_n 2, 1) := by decide +kernel
theorem dX2_fill_2 : decode cX2_fill 2 = .ok (.iconst 0, 1) := by decide +kernel
theorem dX2_fill_3 : decode cX2_fill 3 = .ok (.istore_n 3, 1) := by decide +kernel
theorem dX2_fill_4 : decode cX2_fill 4 = .ok (.iload_n 3, 1) := by decide +kernel
theorem dX2_fill_5 : decode cX2_fill 5 = .ok (.aload_n 0, 1) := by decide +kernel
theorem dX2_fill_6 : decode cX2_fill 6 = .ok (.getfield 51, 3) := by decide +kernel
theorem dX2_fill_9 : decode cX2_fill 9 = .ok (.if_icmp .ge 53, 3) := by decide +kernel
theorem dX2_fill_12 : decode cX2_fill 12 = .ok (.iconst 0, 1) := by decide +kernel
theorem dX2_fill_13 : decode cX2_fill 13 = .ok (.istore 4, 2) := by decide +kernel
theorem dX2_fill_15 : decode cX2_fill 15 = .ok (.iload 4, 2) := by decide +kernel
theorem dX2_fill_17 : decode cX2_fill 17 = .ok (.aload_n 0, 1) := by decide +kernel
theorem dX2_fill_18 : decode cX2_fill 18 = .ok (.getfield 48, 3) := by decide +kernel
theorem dX2_fill_21 : decode cX2_fill 21 = .ok (.if_icmp .ge 35, 3) := by decide +kernel
theorem dX2_fill_24 : decode cX2_fill 24 = .ok (.aload_n 0, 1) := by decide +kernel
theorem dX2_fill_25 : decode cX2_fill 25 = .ok (.iload 4, 2) := by decide +kernel
theorem dX2_fill_27 : decode cX2_fill 27 = .ok (.iload_n 3, 1) := by decide +kernel
theorem dX2_fill_28 : decode cX2_fill 28 = .ok (.invokevirtual 96, 3) := by decide +kernel
theorem dX2_fill_31 : decode cX2_fill 31 = .ok (.ifCond .eq 19, 3) := by decide +kernel
theorem dX2_fill_34 : decode cX2_fill 34 = .ok (.aload_n 0, 1) := by decide +kernel
theorem dX2_fill_35 : decode cX2_fill 35 = .ok (.getfield 7, 3) := by decide +kernel
theorem dX2_fill_38 : decode cX2_fill 38 = .ok (.bipush 24, 2) := by decide +kernel
theorem dX2_fill_40 : decode cX2_fill 40 = .ok (.iload_n 3, 1) := by decide +kernel
theorem dX2_fill_41 : decode cX2_fill 41 = .ok (.imul, 1) := by decide +kernel
theorem dX2_fill_42 : decode cX2_fill 42 = .ok (.iload 4, 2) := by decide +kernel
theorem dX2_fill_44 : decode cX2_fill 44 = .ok (.iadd, 1) := by decide +kernel
theorem dX2_fill_45 : decode cX2_fill 45 = .ok (.iload_n 1, 1) := by decide +kernel
theorem dX2_fill_46 : decode cX2_fill 46 = .ok (.iastore, 1) := by decide +kernel
theorem dX2_fill_47 : decode cX2_fill 47 = .ok (.iinc 2 1, 3) := by decide +kernel
theorem dX2_fill_50 : decode cX2_fill 50 = .ok (.iinc 4 1, 3) := by decide +kernel
theorem dX2_fill_53 : decode cX2_fill 53 = .ok (.goto (-38), 3) := by decide +kernel
theorem dX2_fill_56 : decode cX2_fill 56 = .ok (.iinc 3 1, 3) := by decide +kernel
theorem dX2_fill_59 : decode cX2_fill 59 = .ok (.goto (-55), 3) := by decide +kernel
theorem dX2_fill_62 : decode cX2_fill 62 = .ok (.iload_n 2, 1) := by decide +kernel
theorem dX2_fill_63 : decode cX2_fill 63 = .ok (.ireturn, 1) := by decide +kernel
theorem dX2_pixel_0 : decode cX2_pixel 0 = .ok (.iload_n 1, 1) := by decide +kernel
theorem dX2_pixel_1 : decode cX2_pixel 1 = .ok (.ifCond .lt 37, 3) := by decide +kernel
theorem dX2_pixel_4 : decode cX2_pixel 4 = .ok (.iload_n 1, 1) := by decide +kernel
theorem dX2_pixel_5 : decode cX2_pixel 5 = .ok (.aload_n 0, 1) := by decide +kernel
theorem dX2_pixel_6 : decode cX2_pixel 6 = .ok (.getfield 48, 3) := by decide +kernel
theorem dX2_pixel_9 : decode cX2_pixel 9 = .ok (.if_icmp .ge 29, 3) := by decide +kernel
theorem dX2_pixel_12 : decode cX2_pixel 12 = .ok (.iload_n 2, 1) := by decide +kernel
theorem dX2_pixel_13 : decode cX2_pixel 13 = .ok (.ifCond .lt 25, 3) := by decide +kernel
theorem dX2_pixel_16 : decode cX2_pixel 16 = .ok (.iload_n 2, 1) := by decide +kernel
theorem dX2_pixel_17 : decode cX2_pixel 17 = .ok (.aload_n 0, 1) := by decide +kernel
theorem dX2_pixel_18 : decode cX2_pixel 18 = .ok (.getfield 51, 3) := by decide +kernel
theorem dX2_pixel_21 : decode cX2_pixel 21 = .ok (.if_icmp .ge 17, 3) := by decide +kernel
theorem dX2_pixel_24 : decode cX2_pixel 24 = .ok (.aload_n 0, 1) := by decide +kernel
theorem dX2_pixel_25 : decode cX2_pixel 25 = .ok (.getfield 7, 3) := by decide +kernel
theorem dX2_pixel_28 : decode cX2_pixel 28 = .ok (.bipush 24, 2) := by decide +kernel
theorem dX2_pixel_30 : decode cX2_pixel 30 = .ok (.iload_n 2, 1) := by decide +kernel
theorem dX2_pixel_31 : decode cX2_pixel 31 = .ok (.imul, 1) := by decide +kernel
theorem dX2_pixel_32 : decode cX2_pixel 32 = .ok (.iload_n 1, 1) := by decide +kernel
theorem dX2_pixel_33 : decode cX2_pixel 33 = .ok (.iadd, 1) := by decide +kernel
theorem dX2_pixel_34 : decode cX2_pixel 34 = .ok (.iaload, 1) := by decide +kernel
theorem dX2_pixel_35 : decode cX2_pixel 35 = .ok (.goto 4, 3) := by decide +kernel
theorem dX2_pixel_38 : decode cX2_pixel 38 = .ok (.iconst (-1), 1) := by decide +kernel
theorem dX2_pixel_39 : decode cX2_pixel 39 = .ok (.ireturn, 1) := by decide +kernel
theorem dX2_vertices_0 : decode cX2_vertices 0 = .ok (.aload_n 0, 1) := by decide +kernel
theorem dX2_vertices_1 : decode cX2_vertices 1 = .ok (.getfield 57, 3) := by decide +kernel
theorem dX2_vertices_4 : decode cX2_vertices 4 = .ok (.ireturn, 1) := by decide +kernel
theorem dJ9_floorDiv_7cf53_0 : decode cJ9_floorDiv_7cf53 0 = .ok (.iload_n 0, 1) := by decide +kernel
theorem dJ9_floorDiv_7cf53_1 : decode cJ9_floorDiv_7cf53 1 = .ok (.iload_n 1, 1) := by decide +kernel
theorem dJ9_floorDiv_7cf53_2 : decode cJ9_floorDiv_7cf53 2 = .ok (.idiv, 1) := by decide +kernel
theorem dJ9_floorDiv_7cf53_3 : decode cJ9_floorDiv_7cf53 3 = .ok (.istore_n 2, 1) := by decide +kernel
theorem dJ9_floorDiv_7cf53_4 : decode cJ9_floorDiv_7cf53 4 = .ok (.iload_n 0, 1) := by decide +kernel
theorem dJ9_floorDiv_7cf53_5 : decode cJ9_floorDiv_7cf53 5 = .ok (.iload_n 1, 1) := by decide +kernel
theorem dJ9_floorDiv_7cf53_6 : decode cJ9_floorDiv_7cf53 6 = .ok (.ixor, 1) := by decide +kernel
theorem dJ9_floorDiv_7cf53_7 : decode cJ9_floorDiv_7cf53 7 = .ok (.ifCond .ge 14, 3) := by decide +kernel
theorem dJ9_floorDiv_7cf53_10 : decode cJ9_floorDiv_7cf53 10 = .ok (.iload_n 2, 1) := by decide +kernel
theorem dJ9_floorDiv_7cf53_11 : decode cJ9_floorDiv_7cf53 11 = .ok (.iload_n 1, 1) := by decide +kernel
theorem dJ9_floorDiv_7cf53_12 : decode cJ9_floorDiv_7cf53 12 = .ok (.imul, 1) := by decide +kernel
theorem dJ9_floorDiv_7cf53_13 : decode cJ9_floorDiv_7cf53 13 = .ok (.iload_n 0, 1) := by decide +kernel
theorem dJ9_floorDiv_7cf53_14 : decode cJ9_floorDiv_7cf53 14 = .ok (.if_icmp .eq 7, 3) := by decide +kernel
theorem dJ9_floorDiv_7cf53_17 : decode cJ9_floorDiv_7cf53 17 = .ok (.iload_n 2, 1) := by decide +kernel
theorem dJ9_floorDiv_7cf53_18 : decode cJ9_floorDiv_7cf53 18 = .ok (.iconst 1, 1) := by decide +kernel
theorem dJ9_floorDiv_7cf53_19 : decode cJ9_floorDiv_7cf53 19 = .ok (.isub, 1) := by decide +kernel
theorem dJ9_floorDiv_7cf53_20 : decode cJ9_floorDiv_7cf53 20 = .ok (.ireturn, 1) := by decide +kernel
theorem dJ9_floorDiv_7cf53_21 : decode cJ9_floorDiv_7cf53 21 = .ok (.iload_n 2, 1) := by decide +kernel
theorem dJ9_floorDiv_7cf53_22 : decode cJ9_floorDiv_7cf53 22 = .ok (.ireturn, 1) := by decide +kernel
theorem dJ9_max_7cf53_0 : decode cJ9_max_7cf53 0 = .ok (.iload_n 0, 1) := by decide +kernel
theorem dJ9_max_7cf53_1 : decode cJ9_max_7cf53 1 = .ok (.iload_n 1, 1) := by decide +kernel
theorem dJ9_max_7cf53_2 : decode cJ9_max_7cf53 2 = .ok (.if_icmp .lt 7, 3) := by decide +kernel
theorem dJ9_max_7cf53_5 : decode cJ9_max_7cf53 5 = .ok (.iload_n 0, 1) := by decide +kernel
theorem dJ9_max_7cf53_6 : decode cJ9_max_7cf53 6 = .ok (.goto 4, 3) := by decide +kernel
theorem dJ9_max_7cf53_9 : decode cJ9_max_7cf53 9 = .ok (.iload_n 1, 1) := by decide +kernel
theorem dJ9_max_7cf53_10 : decode cJ9_max_7cf53 10 = .ok (.ireturn, 1) := by decide +kernel
theorem dJ9_min_7cf53_0 : decode cJ9_min_7cf53 0 = .ok (.iload_n 0, 1) := by decide +kernel
theorem dJ9_min_7cf53_1 : decode cJ9_min_7cf53 1 = .ok (.iload_n 1, 1) := by decide +kernel
theorem dJ9_min_7cf53_2 : decode cJ9_min_7cf53 2 = .ok (.if_icmp .gt 7, 3) := by decide +kernel
theorem dJ9_min_7cf53_5 : decode cJ9_min_7cf53 5 = .ok (.iload_n 0, 1) := by decide +kernel
theorem dJ9_min_7cf53_6 : decode cJ9_min_7cf53 6 = .ok (.goto 4, 3) := by decide +kernel
theorem dJ9_min_7cf53_9 : decode cJ9_min_7cf53 9 = .ok (.iload_n 1, 1) := by decide +kernel
theorem dJ9_min_7cf53_10 : decode cJ9_min_7cf53 10 = .ok (.ireturn, 1) := by decide +kernel
theorem dJ7_fill_53178_0 : decode cJ7_fill_53178 0 = .ok (.iconst 0, 1) := by decide +kernel
theorem dJ7_fill_53178_1 : decode cJ7_fill_53178 1 = .ok (.istore_n 2, 1) := by decide +kernel
theorem dJ7_fill_53178_2 : decode cJ7_fill_53178 2 = .ok (.aload_n 0, 1) := by decide +kernel
theorem dJ7_fill_53178_3 : decode cJ7_fill_53178 3 = .ok (.arraylength, 1) := by decide +kernel
theorem dJ7_fill_53178_4 : decode cJ7_fill_53178 4 = .ok (.istore_n 3, 1) := by decide +kernel
theorem dJ7_fill_53178_5 : decode cJ7_fill_53178 5 = .ok (.iload_n 2, 1) := by decide +kernel
theorem dJ7_fill_53178_6 : decode cJ7_fill_53178 6 = .ok (.iload_n 3, 1) := by decide +kernel
theorem dJ7_fill_53178_7 : decode cJ7_fill_53178 7 = .ok (.if_icmp .ge 13, 3) := by decide +kernel
theorem dJ7_fill_53178_10 : decode cJ7_fill_53178 10 = .ok (.aload_n 0, 1) := by decide +kernel
theorem dJ7_fill_53178_11 : decode cJ7_fill_53178 11 = .ok (.iload_n 2, 1) := by decide +kernel
theorem dJ7_fill_53178_12 : decode cJ7_fill_53178 12 = .ok (.iload_n 1, 1) := by decide +kernel
theorem dJ7_fill_53178_13 : decode cJ7_fill_53178 13 = .ok (.iastore, 1) := by decide +kernel
theorem dJ7_fill_53178_14 : decode cJ7_fill_53178 14 = .ok (.iinc 2 1, 3) := by decide +kernel
theorem dJ7_fill_53178_17 : decode cJ7_fill_53178 17 = .ok (.goto (-12), 3) := by decide +kernel
theorem dJ7_fill_53178_20 : decode cJ7_fill_53178 20 = .ok (.return_, 1) := by decide +kernel
theorem dL_cell_0 : decode cL_cell 0 = .ok (.iload_n 1, 1) := by decide +kernel
theorem dL_cell_1 : decode cL_cell 1 = .ok (.aload_n 0, 1) := by decide +kernel
theorem dL_cell_2 : decode cL_cell 2 = .ok (.arraylength, 1) := by decide +kernel
theorem dL_cell_3 : decode cL_cell 3 = .ok (.if_icmp .ge 9, 3) := by decide +kernel
theorem dL_cell_6 : decode cL_cell 6 = .ok (.aload_n 0, 1) := by decide +kernel
theorem dL_cell_7 : decode cL_cell 7 = .ok (.iload_n 1, 1) := by decide +kernel
theorem dL_cell_8 : decode cL_cell 8 = .ok (.iaload, 1) := by decide +kernel
theorem dL_cell_9 : decode cL_cell 9 = .ok (.goto 4, 3) := by decide +kernel
theorem dL_cell_12 : decode cL_cell 12 = .ok (.iconst 0, 1) := by decide +kernel
theorem dL_cell_13 : decode cL_cell 13 = .ok (.ireturn, 1) := by decide +kernel
set_option maxRecDepth 20000 in
theorem ggL_law_L_cell : GoodIn wsL_law wsL_cell := goodIn_r _ [9] (by decide +kernel) (by decide +kernel)
set_option maxRecDepth 20000 in
theorem gL_law_L_cell : GoodIn wsL_law (va_wsS RL 9 yL_cell wsL_cell) := goodIn_app (goodIn_of _ (by decide +kernel)) ggL_law_L_cell
set_option maxRecDepth 20000 in
theorem ggL_law_X1_init : GoodIn wsL_law wsX1_init := goodIn_r _ [12, 13, 14, 15, 16, 17, 18, 19, 20, 21, 22, 23, 24, 25, 26, 27, 28, 29, 30, 2, 31, 32, 33, 34, 35, 36, 37, 38, 39, 40, 41, 42, 43, 44, 240, 241, 242, 243, 244, 245, 246, 247, 265, 266, 267] (by decide +kernel) (by decide +kernel)
set_option maxRecDepth 20000 in
theorem gL_law_X1_init : GoodIn wsL_law (wsX1_init) := ggL_law_X1_init
set_option maxRecDepth 20000 in
theorem ggL_law_X2_init : GoodIn wsL_law wsX2_init := goodIn_r _ [47, 48, 14, 15, 18, 49, 50, 51, 52, 53, 54, 55, 56, 57, 58, 59, 60, 61, 62, 63, 64, 5, 65, 248, 249, 250, 251, 252, 253, 254, 255, 256, 257, 258, 259, 260, 261, 262, 263, 264] (by decide +kernel) (by decide +kernel)
set_option maxRecDepth 20000 in
theorem gL_law_X2_init : GoodIn wsL_law (wsX2_init) := ggL_law_X2_init
set_option maxRecDepth 20000 in
theorem ggL_law_X1_clear : GoodIn wsL_law wsX1_clear := goodIn_r _ [69, 19, 70, 71, 72, 73, 240, 241, 242, 243, 244, 245, 246, 247] (by decide +kernel) (by decide +kernel)
set_option maxRecDepth 20000 in
theorem gL_law_X1_clear : GoodIn wsL_law (wsV RL 21 RX1 yX1_clear wsX1_clear) := goodIn_app (goodIn_of _ (by decide +kernel)) ggL_law_X1_clear
set_option maxRecDepth 20000 in
theorem ggL_law_X2_clear : GoodIn wsL_law wsX2_clear := goodIn_r _ [77, 49, 248, 249, 250, 251, 252, 253, 254, 255, 256, 257, 258, 259, 260, 261, 262, 263, 264] (by decide +kernel) (by decide +kernel)
set_option maxRecDepth 20000 in
theorem gL_law_X2_clear : GoodIn wsL_law (wsV RL 25 RX2 yX2_clear wsX2_clear) := goodIn_app (goodIn_of _ (by decide +kernel)) ggL_law_X2_clear
set_option maxRecDepth 20000 in
theorem ggL_law_X1_begin : GoodIn wsL_law wsX1_begin := goodIn_r _ [81, 26, 240, 241, 242, 243, 244, 245, 246, 247, 265, 266, 267] (by decide +kernel) (by decide +kernel)
set_option maxRecDepth 20000 in
theorem gL_law_X1_begin : GoodIn wsL_law (wsV RL 26 RX1 yX1_begin wsX1_begin) := goodIn_app (goodIn_of _ (by decide +kernel)) ggL_law_X1_begin
set_option maxRecDepth 20000 in
theorem ggL_law_X2_begin : GoodIn wsL_law wsX2_begin := goodIn_r _ [85, 86, 248, 249, 250, 251, 252, 253, 254, 255, 256, 257, 258, 259, 260, 261, 262, 263, 264] (by decide +kernel) (by decide +kernel)
set_option maxRecDepth 20000 in
theorem gL_law_X2_begin : GoodIn wsL_law (wsV RL 29 RX2 yX2_begin wsX2_begin) := goodIn_app (goodIn_of _ (by decide +kernel)) ggL_law_X2_begin
set_option maxRecDepth 20000 in
theorem ggL_law_X1_vertex : GoodIn wsL_law wsX1_vertex := goodIn_r _ [90, 26, 91, 92, 2, 93, 94, 25, 95, 96, 44, 42, 43, 240, 241, 242, 243, 244, 245, 246, 247, 265, 266, 267] (by decide +kernel) (by decide +kernel)
set_option maxRecDepth 20000 in
theorem gL_law_X1_vertex : GoodIn wsL_law (wsV RL 30 RX1 yX1_vertex wsX1_vertex) := goodIn_app (goodIn_of _ (by decide +kernel)) ggL_law_X1_vertex
set_option maxRecDepth 20000 in
theorem ggL_law_X2_vertex : GoodIn wsL_law wsX2_vertex := goodIn_r _ [100, 86, 62, 50, 51, 101, 102, 5, 103, 248, 249, 250, 251, 252, 253, 254, 255, 256, 257, 258, 259, 260, 261, 262, 263, 264] (by decide +kernel) (by decide +kernel)
set_option maxRecDepth 20000 in
theorem gL_law_X2_vertex : GoodIn wsL_law (wsV RL 34 RX2 yX2_vertex wsX2_vertex) := goodIn_app (goodIn_of _ (by decide +kernel)) ggL_law_X2_vertex
set_option maxRecDepth 20000 in
theorem ggL_law_X1_setClip : GoodIn wsL_law wsX1_setClip := goodIn_r _ [107, 22, 108, 109, 2, 110, 91, 92, 93, 240, 241, 242, 243, 244, 245, 246, 247] (by decide +kernel) (by decide +kernel)
set_option maxRecDepth 20000 in
theorem gL_law_X1_setClip : GoodIn wsL_law (wsV RL 35 RX1 yX1_setClip wsX1_setClip) := goodIn_app (goodIn_of _ (by decide +kernel)) ggL_law_X1_setClip
set_option maxRecDepth 20000 in
theorem ggL_law_X2_setClip : GoodIn wsL_law wsX2_setClip := goodIn_r _ [114, 56, 57, 58, 59, 101, 102, 5, 103, 248, 249, 250, 251, 252, 253, 254, 255, 256, 257, 258, 259, 260, 261, 262, 263, 264] (by decide +kernel) (by decide +kernel)
set_option maxRecDepth 20000 in
theorem gL_law_X2_setClip : GoodIn wsL_law (wsV RL 39 RX2 yX2_setClip wsX2_setClip) := goodIn_app (goodIn_of _ (by decide +kernel)) ggL_law_X2_setClip
set_option maxRecDepth 20000 in
theorem ggL_law_X1_clip : GoodIn wsL_law wsX1_clip := goodIn_r _ [118, 26, 22, 27, 28, 119, 120, 121, 2, 122, 123, 25, 124, 125, 42, 43, 126, 127, 128, 129, 130, 131, 132, 133, 134, 135, 136, 94, 95, 96, 44, 240, 241, 242, 243, 244, 245, 246, 247, 265, 266, 267] (by decide +kernel) (by decide +kernel)
set_option maxRecDepth 20000 in
theorem gL_law_X1_clip : GoodIn wsL_law (wsV RL 40 RX1 yX1_clip wsX1_clip) := goodIn_app (goodIn_of _ (by decide +kernel)) ggL_law_X1_clip
set_option maxRecDepth 20000 in
theorem ggL_law_X2_clip : GoodIn wsL_law wsX2_clip := goodIn_r _ [140, 86, 141, 52, 50, 53, 51, 142, 62, 54, 55, 143, 144, 145, 5, 146, 147, 148, 149, 150, 56, 57, 58, 59, 151, 152, 153, 154, 155, 156, 157, 158, 159, 160, 161, 248, 249, 250, 251, 252, 253, 254, 255, 256, 257, 258, 259, 260, 261, 262, 263, 264] (by decide +kernel) (by decide +kernel)
set_option maxRecDepth 20000 in
theorem gL_law_X2_clip : GoodIn wsL_law (wsV RL 44 RX2 yX2_clip wsX2_clip) := goodIn_app (goodIn_of _ (by decide +kernel)) ggL_law_X2_clip
set_option maxRecDepth 20000 in
theorem ggL_law_X1_vx : GoodIn wsL_law wsX1_vx := goodIn_r _ [165, 26, 166, 25, 167, 168, 44, 240, 241, 242, 243, 244, 245, 246, 247, 265, 266, 267] (by decide +kernel) (by decide +kernel)
set_option maxRecDepth 20000 in
theorem gL_law_X1_vx : GoodIn wsL_law (wsV RL 45 RX1 yX1_vx wsX1_vx) := goodIn_app (goodIn_of _ (by decide +kernel)) ggL_law_X1_vx
set_option maxRecDepth 20000 in
theorem ggL_law_X2_vx : GoodIn wsL_law wsX2_vx := goodIn_r _ [172, 50, 173, 174, 175, 5, 176, 86, 248, 249, 250, 251, 252, 253, 254, 255, 256, 257, 258, 259, 260, 261, 262, 263, 264] (by decide +kernel) (by decide +kernel)
set_option maxRecDepth 20000 in
theorem gL_law_X2_vx : GoodIn wsL_law (wsV RL 49 RX2 yX2_vx wsX2_vx) := goodIn_app (goodIn_of _ (by decide +kernel)) ggL_law_X2_vx
set_option maxRecDepth 20000 in
theorem ggL_law_X1_vy : GoodIn wsL_law wsX1_vy := goodIn_r _ [180, 26, 166, 25, 167, 168, 44, 240, 241, 242, 243, 244, 245, 246, 247, 265, 266, 267] (by decide +kernel) (by decide +kernel)
set_option maxRecDepth 20000 in
theorem gL_law_X1_vy : GoodIn wsL_law (wsV RL 50 RX1 yX1_vy wsX1_vy) := goodIn_app (goodIn_of _ (by decide +kernel)) ggL_law_X1_vy
set_option maxRecDepth 20000 in
theorem ggL_law_X2_vy : GoodIn wsL_law wsX2_vy := goodIn_r _ [184, 51, 173, 174, 175, 5, 176, 86, 248, 249, 250, 251, 252, 253, 254, 255, 256, 257, 258, 259, 260, 261, 262, 263, 264] (by decide +kernel) (by decide +kernel)
set_option maxRecDepth 20000 in
theorem gL_law_X2_vy : GoodIn wsL_law (wsV RL 53 RX2 yX2_vy wsX2_vy) := goodIn_app (goodIn_of _ (by decide +kernel)) ggL_law_X2_vy
set_option maxRecDepth 20000 in
theorem ggL_law_X1_fill : GoodIn wsL_law wsX1_fill := goodIn_r _ [188, 17, 189, 190, 191, 2, 192, 16, 21, 26, 193, 25, 194, 195, 43, 196, 197, 198, 199, 44, 200, 201, 202, 42, 203, 134, 135, 136, 29, 30, 31, 32, 33, 34, 35, 36, 37, 38, 204, 205, 206, 207, 19, 240, 241, 242, 243, 244, 245, 246, 247, 265, 266, 267] (by decide +kernel) (by decide +kernel)
set_option maxRecDepth 20000 in
theorem gL_law_X1_fill : GoodIn wsL_law (wsV RL 54 RX1 yX1_fill wsX1_fill) := goodIn_app (goodIn_of _ (by decide +kernel)) ggL_law_X1_fill
set_option maxRecDepth 20000 in
theorem ggL_law_X2_fill : GoodIn wsL_law wsX2_fill := goodIn_r _ [211, 61, 60, 49, 212, 213, 214, 5, 215, 86, 50, 51, 216, 217, 218, 248, 249, 250, 251, 252, 253, 254, 255, 256, 257, 258, 259, 260, 261, 262, 263, 264] (by decide +kernel) (by decide +kernel)
set_option maxRecDepth 20000 in
theorem gL_law_X2_fill : GoodIn wsL_law (wsV RL 57 RX2 yX2_fill wsX2_fill) := goodIn_app (goodIn_of _ (by decide +kernel)) ggL_law_X2_fill
set_option maxRecDepth 20000 in
theorem ggL_law_X1_inside : GoodIn wsL_law wsX1_inside := goodIn_r _ [222, 26, 193, 25, 194, 195, 43, 196, 197, 198, 199, 44, 200, 201, 202, 42, 203, 134, 135, 136, 240, 241, 242, 243, 244, 245, 246, 247, 265, 266, 267] (by decide +kernel) (by decide +kernel)
set_option maxRecDepth 20000 in
theorem gL_law_X1_inside : GoodIn wsL_law (wsV RL 58 RX1 yX1_inside wsX1_inside) := goodIn_app (goodIn_of _ (by decide +kernel)) ggL_law_X1_inside
set_option maxRecDepth 20000 in
theorem ggL_law_X2_inside : GoodIn wsL_law wsX2_inside := goodIn_r _ [215, 86, 50, 51, 216, 217, 5, 218, 248, 249, 250, 251, 252, 253, 254, 255, 256, 257, 258, 259, 260, 261, 262, 263, 264] (by decide +kernel) (by decide +kernel)
set_option maxRecDepth 20000 in
theorem gL_law_X2_inside : GoodIn wsL_law (wsV RL 61 RX2 yX2_inside wsX2_inside) := goodIn_app (goodIn_of _ (by decide +kernel)) ggL_law_X2_inside
set_option maxRecDepth 20000 in
theorem ggL_law_X1_pixel : GoodIn wsL_law wsX1_pixel := goodIn_r _ [227, 16, 17, 19, 240, 241, 242, 243, 244, 245, 246, 247] (by decide +kernel) (by decide +kernel)
set_option maxRecDepth 20000 in
theorem gL_law_X1_pixel : GoodIn wsL_law (wsV RL 62 RX1 yX1_pixel wsX1_pixel) := goodIn_app (goodIn_of _ (by decide +kernel)) ggL_law_X1_pixel
set_option maxRecDepth 20000 in
theorem ggL_law_X2_pixel : GoodIn wsL_law wsX2_pixel := goodIn_r _ [231, 60, 61, 49, 248, 249, 250, 251, 252, 253, 254, 255, 256, 257, 258, 259, 260, 261, 262, 263, 264] (by decide +kernel) (by decide +kernel)
set_option maxRecDepth 20000 in
theorem gL_law_X2_pixel : GoodIn wsL_law (wsV RL 66 RX2 yX2_pixel wsX2_pixel) := goodIn_app (goodIn_of _ (by decide +kernel)) ggL_law_X2_pixel
set_option maxRecDepth 20000 in
theorem ggL_law_X1_vertices : GoodIn wsL_law wsX1_vertices := goodIn_r _ [235, 26, 240, 241, 242, 243, 244, 245, 246, 247, 265, 266, 267] (by decide +kernel) (by decide +kernel)
set_option maxRecDepth 20000 in
theorem gL_law_X1_vertices : GoodIn wsL_law (wsV RL 67 RX1 yX1_vertices wsX1_vertices) := goodIn_app (goodIn_of _ (by decide +kernel)) ggL_law_X1_vertices
set_option maxRecDepth 20000 in
theorem ggL_law_X2_vertices : GoodIn wsL_law wsX2_vertices := goodIn_r _ [239, 86, 248, 249, 250, 251, 252, 253, 254, 255, 256, 257, 258, 259, 260, 261, 262, 263, 264] (by decide +kernel) (by decide +kernel)
set_option maxRecDepth 20000 in
theorem gL_law_X2_vertices : GoodIn wsL_law (wsV RL 70 RX2 yX2_vertices wsX2_vertices) := goodIn_app (goodIn_of _ (by decide +kernel)) ggL_law_X2_vertices
theorem dL_law_0 : decode cL_law 0 = .ok (.new 7, 3) := by decide +kernel
theorem dL_law_3 : decode cL_law 3 = .ok (.dup, 1) := by decide +kernel
theorem dL_law_4 : decode cL_law 4 = .ok (.aload_n 0, 1) := by decide +kernel
theorem dL_law_5 : decode cL_law 5 = .ok (.iconst 0, 1) := by decide +kernel
theorem dL_law_6 : decode cL_law 6 = .ok (.invokestatic 9, 3) := by decide +kernel
theorem dL_law_9 : decode cL_law 9 = .ok (.aload_n 0, 1) := by decide +kernel
theorem dL_law_10 : decode cL_law 10 = .ok (.iconst 1, 1) := by decide +kernel
theorem dL_law_11 : decode cL_law 11 = .ok (.invokestatic 9, 3) := by decide +kernel
theorem dL_law_14 : decode cL_law 14 = .ok (.aload_n 0, 1) := by decide +kernel
theorem dL_law_15 : decode cL_law 15 = .ok (.iconst 2, 1) := by decide +kernel
theorem dL_law_16 : decode cL_law 16 = .ok (.invokestatic 9, 3) := by decide +kernel
theorem dL_law_19 : decode cL_law 19 = .ok (.invokespecial 15, 3) := by decide +kernel
theorem dL_law_22 : decode cL_law 22 = .ok (.astore_n 1, 1) := by decide +kernel
theorem dL_law_23 : decode cL_law 23 = .ok (.new 18, 3) := by decide +kernel
theorem dL_law_26 : decode cL_law 26 = .ok (.dup, 1) := by decide +kernel
theorem dL_law_27 : decode cL_law 27 = .ok (.aload_n 0, 1) := by decide +kernel
theorem dL_law_28 : decode cL_law 28 = .ok (.iconst 0, 1) := by decide +kernel
theorem dL_law_29 : decode cL_law 29 = .ok (.invokestatic 9, 3) := by decide +kernel
theorem dL_law_32 : decode cL_law 32 = .ok (.aload_n 0, 1) := by decide +kernel
theorem dL_law_33 : decode cL_law 33 = .ok (.iconst 1, 1) := by decide +kernel
theorem dL_law_34 : decode cL_law 34 = .ok (.invokestatic 9, 3) := by decide +kernel
theorem dL_law_37 : decode cL_law 37 = .ok (.aload_n 0, 1) := by decide +kernel
theorem dL_law_38 : decode cL_law 38 = .ok (.iconst 2, 1) := by decide +kernel
theorem dL_law_39 : decode cL_law 39 = .ok (.invokestatic 9, 3) := by decide +kernel
theorem dL_law_42 : decode cL_law 42 = .ok (.invokespecial 20, 3) := by decide +kernel
theorem dL_law_45 : decode cL_law 45 = .ok (.astore_n 2, 1) := by decide +kernel
theorem dL_law_46 : decode cL_law 46 = .ok (.iconst 3, 1) := by decide +kernel
theorem dL_law_47 : decode cL_law 47 = .ok (.istore_n 3, 1) := by decide +kernel
theorem dL_law_48 : decode cL_law 48 = .ok (.iload_n 3, 1) := by decide +kernel
theorem dL_law_49 : decode cL_law 49 = .ok (.aload_n 0, 1) := by decide +kernel
theorem dL_law_50 : decode cL_law 50 = .ok (.arraylength, 1) := by decide +kernel
theorem dL_law_51 : decode cL_law 51 = .ok (.iconst 5, 1) := by decide +kernel
theorem dL_law_52 : decode cL_law 52 = .ok (.isub, 1) := by decide +kernel
theorem dL_law_53 : decode cL_law 53 = .ok (.if_icmp .gt 352, 3) := by decide +kernel
theorem dL_law_56 : decode cL_law 56 = .ok (.aload_n 0, 1) := by decide +kernel
theorem dL_law_57 : decode cL_law 57 = .ok (.iload_n 3, 1) := by decide +kernel
theorem dL_law_58 : decode cL_law 58 = .ok (.iaload, 1) := by decide +kernel
theorem dL_law_59 : decode cL_law 59 = .ok (.bipush 15, 2) := by decide +kernel
theorem dL_law_61 : decode cL_law 61 = .ok (.iand, 1) := by decide +kernel
theorem dL_law_62 : decode cL_law 62 = .ok (.tableswitch 337 0 10 #[58, 79, 90, 123, 176, 189, 212, 235, 258, 291, 324], 58) := by decide +kernel
theorem dL_law_120 : decode cL_law 120 = .ok (.aload_n 1, 1) := by decide +kernel
theorem dL_law_121 : decode cL_law 121 = .ok (.aload_n 0, 1) := by decide +kernel
theorem dL_law_122 : decode cL_law 122 = .ok (.iload_n 3, 1) := by decide +kernel
theorem dL_law_123 : decode cL_law 123 = .ok (.iconst 1, 1) := by decide +kernel
theorem dL_law_124 : decode cL_law 124 = .ok (.iadd, 1) := by decide +kernel
theorem dL_law_125 : decode cL_law 125 = .ok (.iaload, 1) := by decide +kernel
theorem dL_law_126 : decode cL_law 126 = .ok (.invokevirtual 21, 3) := by decide +kernel
theorem dL_law_129 : decode cL_law 129 = .ok (.aload_n 2, 1) := by decide +kernel
theorem dL_law_130 : decode cL_law 130 = .ok (.aload_n 0, 1) := by decide +kernel
theorem dL_law_131 : decode cL_law 131 = .ok (.iload_n 3, 1) := by decide +kernel
theorem dL_law_132 : decode cL_law 132 = .ok (.iconst 1, 1) := by decide +kernel
theorem dL_law_133 : decode cL_law 133 = .ok (.iadd, 1) := by decide +kernel
theorem dL_law_134 : decode cL_law 134 = .ok (.iaload, 1) := by decide +kernel
theorem dL_law_135 : decode cL_law 135 = .ok (.invokevirtual 25, 3) := by decide +kernel
theorem dL_law_138 : decode cL_law 138 = .ok (.goto 261, 3) := by decide +kernel
theorem dL_law_141 : decode cL_law 141 = .ok (.aload_n 1, 1) := by decide +kernel
theorem dL_law_142 : decode cL_law 142 = .ok (.invokevirtual 26, 3) := by decide +kernel
theorem dL_law_145 : decode cL_law 145 = .ok (.aload_n 2, 1) := by decide +kernel
theorem dL_law_146 : decode cL_law 146 = .ok (.invokevirtual 29, 3) := by decide +kernel
theorem dL_law_149 : decode cL_law 149 = .ok (.goto 250, 3) := by decide +kernel
theorem dL_law_152 : decode cL_law 152 = .ok (.aload_n 1, 1) := by decide +kernel
theorem dL_law_153 : decode cL_law 153 = .ok (.aload_n 0, 1) := by decide +kernel
theorem dL_law_154 : decode cL_law 154 = .ok (.iload_n 3, 1) := by decide +kernel
theorem dL_law_155 : decode cL_law 155 = .ok (.iconst 1, 1) := by decide +kernel
theorem dL_law_156 : decode cL_law 156 = .ok (.iadd, 1) := by decide +kernel
theorem dL_law_157 : decode cL_law 157 = .ok (.iaload, 1) := by decide +kernel
theorem dL_law_158 : decode cL_law 158 = .ok (.aload_n 0, 1) := by decide +kernel
theorem dL_law_159 : decode cL_law 159 = .ok (.iload_n 3, 1) := by decide +kernel
theorem dL_law_160 : decode cL_law 160 = .ok (.iconst 2, 1) := by decide +kernel
theorem dL_law_161 : decode cL_law 161 = .ok (.iadd, 1) := by decide +kernel
theorem dL_law_162 : decode cL_law 162 = .ok (.iaload, 1) := by decide +kernel
theorem dL_law_163 : decode cL_law 163 = .ok (.invokevirtual 30, 3) := by decide +kernel
theorem dL_law_166 : decode cL_law 166 = .ok (.aload_n 2, 1) := by decide +kernel
theorem dL_law_167 : decode cL_law 167 = .ok (.aload_n 0, 1) := by decide +kernel
theorem dL_law_168 : decode cL_law 168 = .ok (.iload_n 3, 1) := by decide +kernel
theorem dL_law_169 : decode cL_law 169 = .ok (.iconst 1, 1) := by decide +kernel
theorem dL_law_170 : decode cL_law 170 = .ok (.iadd, 1) := by decide +kernel
theorem dL_law_171 : decode cL_law 171 = .ok (.iaload, 1) := by decide +kernel
theorem dL_law_172 : decode cL_law 172 = .ok (.aload_n 0, 1) := by decide +kernel
theorem dL_law_173 : decode cL_law 173 = .ok (.iload_n 3, 1) := by decide +kernel
theorem dL_law_174 : decode cL_law 174 = .ok (.iconst 2, 1) := by decide +kernel
theorem dL_law_175 : decode cL_law 175 = .ok (.iadd, 1) := by decide +kernel
theorem dL_law_176 : decode cL_law 176 = .ok (.iaload, 1) := by decide +kernel
theorem dL_law_177 : decode cL_law 177 = .ok (.invokevirtual 34, 3) := by decide +kernel
theorem dL_law_180 : decode cL_law 180 = .ok (.if_icmp .eq 219, 3) := by decide +kernel
theorem dL_law_183 : decode cL_law 183 = .ok (.iconst 0, 1) := by decide +kernel
theorem dL_law_184 : decode cL_law 184 = .ok (.ireturn, 1) := by decide +kernel
theorem dL_law_185 : decode cL_law 185 = .ok (.aload_n 1, 1) := by decide +kernel
theorem dL_law_186 : decode cL_law 186 = .ok (.aload_n 0, 1) := by decide +kernel
theorem dL_law_187 : decode cL_law 187 = .ok (.iload_n 3, 1) := by decide +kernel
theorem dL_law_188 : decode cL_law 188 = .ok (.iconst 1, 1) := by decide +kernel
theorem dL_law_189 : decode cL_law 189 = .ok (.iadd, 1) := by decide +kernel
theorem dL_law_190 : decode cL_law 190 = .ok (.iaload, 1) := by decide +kernel
theorem dL_law_191 : decode cL_law 191 = .ok (.aload_n 0, 1) := by decide +kernel
theorem dL_law_192 : decode cL_law 192 = .ok (.iload_n 3, 1) := by decide +kernel
theorem dL_law_193 : decode cL_law 193 = .ok (.iconst 2, 1) := by decide +kernel
theorem dL_law_194 : decode cL_law 194 = .ok (.iadd, 1) := by decide +kernel
theorem dL_law_195 : decode cL_law 195 = .ok (.iaload, 1) := by decide +kernel
theorem dL_law_196 : decode cL_law 196 = .ok (.aload_n 0, 1) := by decide +kernel
theorem dL_law_197 : decode cL_law 197 = .ok (.iload_n 3, 1) := by decide +kernel
theorem dL_law_198 : decode cL_law 198 = .ok (.iconst 3, 1) := by decide +kernel
theorem dL_law_199 : decode cL_law 199 = .ok (.iadd, 1) := by decide +kernel
theorem dL_law_200 : decode cL_law 200 = .ok (.iaload, 1) := by decide +kernel
theorem dL_law_201 : decode cL_law 201 = .ok (.aload_n 0, 1) := by decide +kernel
theorem dL_law_202 : decode cL_law 202 = .ok (.iload_n 3, 1) := by decide +kernel
theorem dL_law_203 : decode cL_law 203 = .ok (.iconst 4, 1) := by decide +kernel
theorem dL_law_204 : decode cL_law 204 = .ok (.iadd, 1) := by decide +kernel
theorem dL_law_205 : decode cL_law 205 = .ok (.iaload, 1) := by decide +kernel
theorem dL_law_206 : decode cL_law 206 = .ok (.invokevirtual 35, 3) := by decide +kernel
theorem dL_law_209 : decode cL_law 209 = .ok (.aload_n 2, 1) := by decide +kernel
theorem dL_law_210 : decode cL_law 210 = .ok (.aload_n 0, 1) := by decide +kernel
theorem dL_law_211 : decode cL_law 211 = .ok (.iload_n 3, 1) := by decide +kernel
theorem dL_law_212 : decode cL_law 212 = .ok (.iconst 1, 1) := by decide +kernel
theorem dL_law_213 : decode cL_law 213 = .ok (.iadd, 1) := by decide +kernel
theorem dL_law_214 : decode cL_law 214 = .ok (.iaload, 1) := by decide +kernel
theorem dL_law_215 : decode cL_law 215 = .ok (.aload_n 0, 1) := by decide +kernel
theorem dL_law_216 : decode cL_law 216 = .ok (.iload_n 3, 1) := by decide +kernel
theorem dL_law_217 : decode cL_law 217 = .ok (.iconst 2, 1) := by decide +kernel
theorem dL_law_218 : decode cL_law 218 = .ok (.iadd, 1) := by decide +kernel
theorem dL_law_219 : decode cL_law 219 = .ok (.iaload, 1) := by decide +kernel
theorem dL_law_220 : decode cL_law 220 = .ok (.aload_n 0, 1) := by decide +kernel
theorem dL_law_221 : decode cL_law 221 = .ok (.iload_n 3, 1) := by decide +kernel
theorem dL_law_222 : decode cL_law 222 = .ok (.iconst 3, 1) := by decide +kernel
theorem dL_law_223 : decode cL_law 223 = .ok (.iadd, 1) := by decide +kernel
theorem dL_law_224 : decode cL_law 224 = .ok (.iaload, 1) := by decide +kernel
theorem dL_law_225 : decode cL_law 225 = .ok (.aload_n 0, 1) := by decide +kernel
theorem dL_law_226 : decode cL_law 226 = .ok (.iload_n 3, 1) := by decide +kernel
theorem dL_law_227 : decode cL_law 227 = .ok (.iconst 4, 1) := by decide +kernel
theorem dL_law_228 : decode cL_law 228 = .ok (.iadd, 1) := by decide +kernel
theorem dL_law_229 : decode cL_law 229 = .ok (.iaload, 1) := by decide +kernel
theorem dL_law_230 : decode cL_law 230 = .ok (.invokevirtual 39, 3) := by decide +kernel
theorem dL_law_233 : decode cL_law 233 = .ok (.if_icmp .eq 166, 3) := by decide +kernel
theorem dL_law_236 : decode cL_law 236 = .ok (.iconst 0, 1) := by decide +kernel
theorem dL_law_237 : decode cL_law 237 = .ok (.ireturn, 1) := by decide +kernel
theorem dL_law_238 : decode cL_law 238 = .ok (.aload_n 1, 1) := by decide +kernel
theorem dL_law_239 : decode cL_law 239 = .ok (.invokevirtual 40, 3) := by decide +kernel
theorem dL_law_242 : decode cL_law 242 = .ok (.aload_n 2, 1) := by decide +kernel
theorem dL_law_243 : decode cL_law 243 = .ok (.invokevirtual 44, 3) := by decide +kernel
theorem dL_law_246 : decode cL_law 246 = .ok (.if_icmp .eq 153, 3) := by decide +kernel
theorem dL_law_249 : decode cL_law 249 = .ok (.iconst 0, 1) := by decide +kernel
theorem dL_law_250 : decode cL_law 250 = .ok (.ireturn, 1) := by decide +kernel
theorem dL_law_251 : decode cL_law 251 = .ok (.aload_n 1, 1) := by decide +kernel
theorem dL_law_252 : decode cL_law 252 = .ok (.aload_n 0, 1) := by decide +kernel
theorem dL_law_253 : decode cL_law 253 = .ok (.iload_n 3, 1) := by decide +kernel
theorem dL_law_254 : decode cL_law 254 = .ok (.iconst 1, 1) := by decide +kernel
theorem dL_law_255 : decode cL_law 255 = .ok (.iadd, 1) := by decide +kernel
theorem dL_law_256 : decode cL_law 256 = .ok (.iaload, 1) := by decide +kernel
theorem dL_law_257 : decode cL_law 257 = .ok (.invokevirtual 45, 3) := by decide +kernel
theorem dL_law_260 : decode cL_law 260 = .ok (.aload_n 2, 1) := by decide +kernel
theorem dL_law_261 : decode cL_law 261 = .ok (.aload_n 0, 1) := by decide +kernel
theorem dL_law_262 : decode cL_law 262 = .ok (.iload_n 3, 1) := by decide +kernel
theorem dL_law_263 : decode cL_law 263 = .ok (.iconst 1, 1) := by decide +kernel
theorem dL_law_264 : decode cL_law 264 = .ok (.iadd, 1) := by decide +kernel
theorem dL_law_265 : decode cL_law 265 = .ok (.iaload, 1) := by decide +kernel
theorem dL_law_266 : decode cL_law 266 = .ok (.invokevirtual 49, 3) := by decide +kernel
theorem dL_law_269 : decode cL_law 269 = .ok (.if_icmp .eq 130, 3) := by decide +kernel
theorem dL_law_272 : decode cL_law 272 = .ok (.iconst 0, 1) := by decide +kernel
theorem dL_law_273 : decode cL_law 273 = .ok (.ireturn, 1) := by decide +kernel
theorem dL_law_274 : decode cL_law 274 = .ok (.aload_n 1, 1) := by decide +kernel
theorem dL_law_275 : decode cL_law 275 = .ok (.aload_n 0, 1) := by decide +kernel
theorem dL_law_276 : decode cL_law 276 = .ok (.iload_n 3, 1) := by decide +kernel
theorem dL_law_277 : decode cL_law 277 = .ok (.iconst 1, 1) := by decide +kernel
theorem dL_law_278 : decode cL_law 278 = .ok (.iadd, 1) := by decide +kernel
theorem dL_law_279 : decode cL_law 279 = .ok (.iaload, 1) := by decide +kernel
theorem dL_law_280 : decode cL_law 280 = .ok (.invokevirtual 50, 3) := by decide +kernel
theorem dL_law_283 : decode cL_law 283 = .ok (.aload_n 2, 1) := by decide +kernel
theorem dL_law_284 : decode cL_law 284 = .ok (.aload_n 0, 1) := by decide +kernel
theorem dL_law_285 : decode cL_law 285 = .ok (.iload_n 3, 1) := by decide +kernel
theorem dL_law_286 : decode cL_law 286 = .ok (.iconst 1, 1) := by decide +kernel
theorem dL_law_287 : decode cL_law 287 = .ok (.iadd, 1) := by decide +kernel
theorem dL_law_288 : decode cL_law 288 = .ok (.iaload, 1) := by decide +kernel
theorem dL_law_289 : decode cL_law 289 = .ok (.invokevirtual 53, 3) := by decide +kernel
theorem dL_law_292 : decode cL_law 292 = .ok (.if_icmp .eq 107, 3) := by decide +kernel
theorem dL_law_295 : decode cL_law 295 = .ok (.iconst 0, 1) := by decide +kernel
theorem dL_law_296 : decode cL_law 296 = .ok (.ireturn, 1) := by decide +kernel
theorem dL_law_297 : decode cL_law 297 = .ok (.aload_n 1, 1) := by decide +kernel
theorem dL_law_298 : decode cL_law 298 = .ok (.aload_n 0, 1) := by decide +kernel
theorem dL_law_299 : decode cL_law 299 = .ok (.iload_n 3, 1) := by decide +kernel
theorem dL_law_300 : decode cL_law 300 = .ok (.iconst 1, 1) := by decide +kernel
theorem dL_law_301 : decode cL_law 301 = .ok (.iadd, 1) := by decide +kernel
theorem dL_law_302 : decode cL_law 302 = .ok (.iaload, 1) := by decide +kernel
theorem dL_law_303 : decode cL_law 303 = .ok (.invokevirtual 54, 3) := by decide +kernel
theorem dL_law_306 : decode cL_law 306 = .ok (.aload_n 2, 1) := by decide +kernel
theorem dL_law_307 : decode cL_law 307 = .ok (.aload_n 0, 1) := by decide +kernel
theorem dL_law_308 : decode cL_law 308 = .ok (.iload_n 3, 1) := by decide +kernel
theorem dL_law_309 : decode cL_law 309 = .ok (.iconst 1, 1) := by decide +kernel
theorem dL_law_310 : decode cL_law 310 = .ok (.iadd, 1) := by decide +kernel
theorem dL_law_311 : decode cL_law 311 = .ok (.iaload, 1) := by decide +kernel
theorem dL_law_312 : decode cL_law 312 = .ok (.invokevirtual 57, 3) := by decide +kernel
theorem dL_law_315 : decode cL_law 315 = .ok (.if_icmp .eq 84, 3) := by decide +kernel
theorem dL_law_318 : decode cL_law 318 = .ok (.iconst 0, 1) := by decide +kernel
theorem dL_law_319 : decode cL_law 319 = .ok (.ireturn, 1) := by decide +kernel
theorem dL_law_320 : decode cL_law 320 = .ok (.aload_n 1, 1) := by decide +kernel
theorem dL_law_321 : decode cL_law 321 = .ok (.aload_n 0, 1) := by decide +kernel
theorem dL_law_322 : decode cL_law 322 = .ok (.iload_n 3, 1) := by decide +kernel
theorem dL_law_323 : decode cL_law 323 = .ok (.iconst 1, 1) := by decide +kernel
theorem dL_law_324 : decode cL_law 324 = .ok (.iadd, 1) := by decide +kernel
theorem dL_law_325 : decode cL_law 325 = .ok (.iaload, 1) := by decide +kernel
theorem dL_law_326 : decode cL_law 326 = .ok (.aload_n 0, 1) := by decide +kernel
theorem dL_law_327 : decode cL_law 327 = .ok (.iload_n 3, 1) := by decide +kernel
theorem dL_law_328 : decode cL_law 328 = .ok (.iconst 2, 1) := by decide +kernel
theorem dL_law_329 : decode cL_law 329 = .ok (.iadd, 1) := by decide +kernel
theorem dL_law_330 : decode cL_law 330 = .ok (.iaload, 1) := by decide +kernel
theorem dL_law_331 : decode cL_law 331 = .ok (.invokevirtual 58, 3) := by decide +kernel
theorem dL_law_334 : decode cL_law 334 = .ok (.aload_n 2, 1) := by decide +kernel
theorem dL_law_335 : decode cL_law 335 = .ok (.aload_n 0, 1) := by decide +kernel
theorem dL_law_336 : decode cL_law 336 = .ok (.iload_n 3, 1) := by decide +kernel
theorem dL_law_337 : decode cL_law 337 = .ok (.iconst 1, 1) := by decide +kernel
theorem dL_law_338 : decode cL_law 338 = .ok (.iadd, 1) := by decide +kernel
theorem dL_law_339 : decode cL_law 339 = .ok (.iaload, 1) := by decide +kernel
theorem dL_law_340 : decode cL_law 340 = .ok (.aload_n 0, 1) := by decide +kernel
theorem dL_law_341 : decode cL_law 341 = .ok (.iload_n 3, 1) := by decide +kernel
theorem dL_law_342 : decode cL_law 342 = .ok (.iconst 2, 1) := by decide +kernel
theorem dL_law_343 : decode cL_law 343 = .ok (.iadd, 1) := by decide +kernel
theorem dL_law_344 : decode cL_law 344 = .ok (.iaload, 1) := by decide +kernel
theorem dL_law_345 : decode cL_law 345 = .ok (.invokevirtual 61, 3) := by decide +kernel
theorem dL_law_348 : decode cL_law 348 = .ok (.if_icmp .eq 51, 3) := by decide +kernel
theorem dL_law_351 : decode cL_law 351 = .ok (.iconst 0, 1) := by decide +kernel
theorem dL_law_352 : decode cL_law 352 = .ok (.ireturn, 1) := by decide +kernel
theorem dL_law_353 : decode cL_law 353 = .ok (.aload_n 1, 1) := by decide +kernel
theorem dL_law_354 : decode cL_law 354 = .ok (.aload_n 0, 1) := by decide +kernel
theorem dL_law_355 : decode cL_law 355 = .ok (.iload_n 3, 1) := by decide +kernel
theorem dL_law_356 : decode cL_law 356 = .ok (.iconst 1, 1) := by decide +kernel
theorem dL_law_357 : decode cL_law 357 = .ok (.iadd, 1) := by decide +kernel
theorem dL_law_358 : decode cL_law 358 = .ok (.iaload, 1) := by decide +kernel
theorem dL_law_359 : decode cL_law 359 = .ok (.aload_n 0, 1) := by decide +kernel
theorem dL_law_360 : decode cL_law 360 = .ok (.iload_n 3, 1) := by decide +kernel
theorem dL_law_361 : decode cL_law 361 = .ok (.iconst 2, 1) := by decide +kernel
theorem dL_law_362 : decode cL_law 362 = .ok (.iadd, 1) := by decide +kernel
theorem dL_law_363 : decode cL_law 363 = .ok (.iaload, 1) := by decide +kernel
theorem dL_law_364 : decode cL_law 364 = .ok (.invokevirtual 62, 3) := by decide +kernel
theorem dL_law_367 : decode cL_law 367 = .ok (.aload_n 2, 1) := by decide +kernel
theorem dL_law_368 : decode cL_law 368 = .ok (.aload_n 0, 1) := by decide +kernel
theorem dL_law_369 : decode cL_law 369 = .ok (.iload_n 3, 1) := by decide +kernel
theorem dL_law_370 : decode cL_law 370 = .ok (.iconst 1, 1) := by decide +kernel
theorem dL_law_371 : decode cL_law 371 = .ok (.iadd, 1) := by decide +kernel
theorem dL_law_372 : decode cL_law 372 = .ok (.iaload, 1) := by decide +kernel
theorem dL_law_373 : decode cL_law 373 = .ok (.aload_n 0, 1) := by decide +kernel
theorem dL_law_374 : decode cL_law 374 = .ok (.iload_n 3, 1) := by decide +kernel
theorem dL_law_375 : decode cL_law 375 = .ok (.iconst 2, 1) := by decide +kernel
theorem dL_law_376 : decode cL_law 376 = .ok (.iadd, 1) := by decide +kernel
theorem dL_law_377 : decode cL_law 377 = .ok (.iaload, 1) := by decide +kernel
theorem dL_law_378 : decode cL_law 378 = .ok (.invokevirtual 66, 3) := by decide +kernel
theorem dL_law_381 : decode cL_law 381 = .ok (.if_icmp .eq 18, 3) := by decide +kernel
theorem dL_law_384 : decode cL_law 384 = .ok (.iconst 0, 1) := by decide +kernel
theorem dL_law_385 : decode cL_law 385 = .ok (.ireturn, 1) := by decide +kernel
theorem dL_law_386 : decode cL_law 386 = .ok (.aload_n 1, 1) := by decide +kernel
theorem dL_law_387 : decode cL_law 387 = .ok (.invokevirtual 67, 3) := by decide +kernel
theorem dL_law_390 : decode cL_law 390 = .ok (.aload_n 2, 1) := by decide +kernel
theorem dL_law_391 : decode cL_law 391 = .ok (.invokevirtual 70, 3) := by decide +kernel
theorem dL_law_394 : decode cL_law 394 = .ok (.if_icmp .eq 5, 3) := by decide +kernel
theorem dL_law_397 : decode cL_law 397 = .ok (.iconst 0, 1) := by decide +kernel
theorem dL_law_398 : decode cL_law 398 = .ok (.ireturn, 1) := by decide +kernel
theorem dL_law_399 : decode cL_law 399 = .ok (.iinc 3 5, 3) := by decide +kernel
theorem dL_law_402 : decode cL_law 402 = .ok (.goto (-354), 3) := by decide +kernel
theorem dL_law_405 : decode cL_law 405 = .ok (.iconst 1, 1) := by decide +kernel
theorem dL_law_406 : decode cL_law 406 = .ok (.ireturn, 1) := by decide +kernel
abbrev vwCl : List vw_C := [(RX0, TX0, 3), (RX1, TX1, 8), (RX2, TX2, 17)]
end
section
/-! BASE: the nest's links; what is known of the tables; calls that only read, calls that write; the numbers of a boolean. -/
def bI (b : Bool) : Int32 := if b then 1 else 0
theorem bI_t : bI true = 1 := rfl
theorem bI_f : bI false = 0 := rfl
theorem bI_nar (b : Bool) : narrow .boolean (.int (bI b)) = .int (bI b) := by cases b <;> rfl
theorem bI_vp (b : Bool) : vp_nar .boolean (bI b) = bI b := by cases b <;> rfl
theorem bI_eq0 {b : Bool} : bI b = 0 ↔ b = false := by cases b <;> decide
theorem bI_eq {a b : Bool} : bI a = bI b ↔ a = b := by cases a <;> cases b <;> decide
/-- the links of PolygonFrame into its nested class -/
def nW (U : State) : Prop :=
  va_Nw (.fieldLinkNest RX1 52 RX0 "count" "I" RX1) U ∧ va_Nw (.fieldLinkNest RX1 73 RX0 "xs" "[I" RX1) U ∧ va_Nw (.fieldLinkNest RX1 76 RX0 "ys" "[I" RX1) U ∧
  va_Nw (.methodLinkNest RX1 33 yX0_init RX1) U ∧ va_Nw (.methodLinkNest RX1 59 yX0_append RX1) U ∧ va_Nw (.methodLinkNest RX1 70 yX0_has RX1) U ∧
  va_Nw (.methodLinkNest RX1 86 yX0_edgeMeets RX1) U ∧ va_Nw (.methodLinkNest RX1 89 yX0_crossingUpwards RX1) U ∧ va_Nw (.methodLinkNest RX1 100 yX0_axis RX1) U
theorem nW.warm {s U : State} (hW : s.WarmedH U.vm) (h : nW s) : nW U :=
  ⟨va_Nw.warmF hW h.1, va_Nw.warmF hW h.2.1, va_Nw.warmF hW h.2.2.1, va_Nw.warmM hW h.2.2.2.1, va_Nw.warmM hW h.2.2.2.2.1, va_Nw.warmM hW h.2.2.2.2.2.1, va_Nw.warmM hW h.2.2.2.2.2.2.1, va_Nw.warmM hW h.2.2.2.2.2.2.2.1, va_Nw.warmM hW h.2.2.2.2.2.2.2.2⟩
theorem nW.same {u U : State} (e : u.vm = U.vm) (h : nW u) : nW U :=
  ⟨va_Nw.same rfl e h.1, va_Nw.same rfl e h.2.1, va_Nw.same rfl e h.2.2.1, va_Nw.same rfl e h.2.2.2.1, va_Nw.same rfl e h.2.2.2.2.1, va_Nw.same rfl e h.2.2.2.2.2.1, va_Nw.same rfl e h.2.2.2.2.2.2.1, va_Nw.same rfl e h.2.2.2.2.2.2.2.1, va_Nw.same rfl e h.2.2.2.2.2.2.2.2⟩
/-- the links, one by one, at any arguments -/
theorem nW.count {s : State} (h : nW s) (A : Array Value) : (Cond.fieldLinkNest RX1 52 RX0 "count" "I" RX1).before A s = true := va_Nw.use rfl h.1
theorem nW.xs {s : State} (h : nW s) (A : Array Value) : (Cond.fieldLinkNest RX1 73 RX0 "xs" "[I" RX1).before A s = true := va_Nw.use rfl h.2.1
theorem nW.ys {s : State} (h : nW s) (A : Array Value) : (Cond.fieldLinkNest RX1 76 RX0 "ys" "[I" RX1).before A s = true := va_Nw.use rfl h.2.2.1
/-- the classes, the array classes and the nest's links -/
def pK (D : va_G) (cI cZ : ClassId) (U : State) : Prop := va_K D vwCl [(cI, .int), (cZ, .boolean)] U ∧ nW U
theorem pK.warm {D : va_G} {cI cZ : ClassId} {s U : State} (hW : s.WarmedH U.vm) (h : pK D cI cZ s) : pK D cI cZ U := ⟨va_K.moved hW.alike h.1, nW.warm hW h.2⟩
theorem pK.calling {D : va_G} {cI cZ : ClassId} {U : State} {g : JFrame} {mk : MethodId} {a : Array Value} (h : pK D cI cZ U) : pK D cI cZ (U.calling g mk a) := ⟨va_K.moved (u := U) (U := U.calling g mk a) (Vm.Alike.refl U.vm) h.1, nW.same (u := U) rfl h.2⟩
/-- a new array's class is the one that is known -/
theorem pK.int {D : va_G} {cI cZ cA : ClassId} {s : State} (h : va_K D vwCl ([(cI, .int), (cZ, .boolean)] ++ [(cA, .int)]) s) : cA = cI := by
  have h0 : s.vm.findClass ("[" ++ FieldType.int.toString) = some cI := (h.2 0 (cI, .int) rfl).2
  have h2 : s.vm.findClass ("[" ++ FieldType.int.toString) = some cA := (h.2 2 (cA, .int) rfl).2
  exact (Option.some.inj (h0.symm.trans h2)).symm
theorem pK.bool {D : va_G} {cI cZ cA : ClassId} {s : State} (h : va_K D vwCl ([(cI, .int), (cZ, .boolean)] ++ [(cA, .boolean)]) s) : cA = cZ := by
  have h0 : s.vm.findClass ("[" ++ FieldType.boolean.toString) = some cZ := (h.2 1 (cZ, .boolean) rfl).2
  have h2 : s.vm.findClass ("[" ++ FieldType.boolean.toString) = some cA := (h.2 2 (cA, .boolean) rfl).2
  exact (Option.some.inj (h0.symm.trans h2)).symm
/-- what a method that only reads starts from -/
def rdP (D : va_G) (cI cZ : ClassId) (wc : va_W) : State → Prop := fun U => va_P D vwCl wc U.heap ∧ pK D cI cZ U
/-- what a method that writes starts from -/
def wrP (D : va_G) (cI cZ : ClassId) (sz : Nat) (wc : va_W) : State → Prop := fun U => U.heap.size = sz ∧ va_P D vwCl wc U.heap ∧ pK D cI cZ U ∧ va_D (fun _ => True) wc
/-- the world behind it -/
def wrB {S : Type} (D : va_G) (wc : va_W) (sz : Nat) (w1 : S → va_W) : S → State → Prop := fun u t => va_P D vwCl (w1 u) t.heap ∧ va_D (va_A wc sz) (w1 u)
/-- a reading method that answers a cell -/
def rdR (x : Nat) : Array Value → State → Outcome → State → Prop := fun _ st o t => o = .returned (some (.ref x)) ∧ t.heap = st.heap
section RD
variable {p : Program} {l : Launch} {e : Env} {R : Room} {s : State} {m : MethodId} {args : Array Value} {below : List Frame} {meth : Method} {c : Code} {H : Heap} {locs : List Loc} {cells slots : Nat} {Q : State → Prop}
variable {pc : Nat} {ls : Array Slot} {rest st0 : List Value} {a : Array Value} {A : Nat → Prop} {H0 : Heap} {mc ms : Nat} {D : va_G} {cI cZ : ClassId}
theorem rd_pre {As : List Value} {wc : va_W} (hP : va_P D vwCl wc H) (hK : pK D cI cZ s) : PreS s H (va_Pc As (rdP D cI cZ wc)) As :=
  ⟨fun _ _ _ _ q => ⟨q.1, q.2.1, q.2.2.calling⟩, fun U hU hW => ⟨rfl, by rw [hU]; exact hP, hK.warm hW⟩⟩
theorem rd_pre0 {As : List Value} : PreS s H (va_Pc As (fun _ => True)) As := ⟨fun _ _ _ _ q => ⟨q.1, trivial⟩, fun _ _ _ => ⟨rfl, trivial⟩⟩
theorem rd_preV {As : List Value} {wc : va_W} {b ci q0 : Nat} {q : vw_C} {fs : List Value} (hP : va_P D vwCl wc H) (hK : pK D cI cZ s) (hc : vwCl[ci]? = some q) (he : wc[q0]? = some (b, .inr (ci, fs))) : PreV s H q.1 b (va_Pc (.ref b :: As) (rdP D cI cZ wc)) As :=
  ⟨(rd_pre (As := .ref b :: As) hP hK).1, va_recv hK.1 hP hc he, (rd_pre (As := .ref b :: As) hP hK).2⟩
theorem wr_pre {As : List Value} {wc : va_W} (hP : va_P D vwCl wc H) (hK : pK D cI cZ s) (hD : va_D A wc) : PreS s H (va_Pc As (wrP D cI cZ H.size wc)) As :=
  ⟨fun _ _ _ _ q => ⟨q.1, q.2.1, q.2.2.1, q.2.2.2.1.calling, q.2.2.2.2⟩, fun U hU hW => ⟨rfl, by rw [hU], by rw [hU]; exact hP, hK.warm hW, hD.weaken (fun _ _ _ _ => trivial)⟩⟩
theorem wr_preV {As : List Value} {wc : va_W} {b ci q0 : Nat} {q : vw_C} {fs : List Value} (hP : va_P D vwCl wc H) (hK : pK D cI cZ s) (hD : va_D A wc) (hc : vwCl[ci]? = some q) (he : wc[q0]? = some (b, .inr (ci, fs))) : PreV s H q.1 b (va_Pc (.ref b :: As) (wrP D cI cZ H.size wc)) As :=
  ⟨(wr_pre (As := .ref b :: As) hP hK hD).1, va_recv hK.1 hP hc he, (wr_pre (As := .ref b :: As) hP hK hD).2⟩
/-- behind a call that only reads: the heap is what it was -/
theorem rd_i {r : Int32} (hr : va_Run p l e R s m args below meth c H locs cells slots 0 0 (F0 m pc ls st0) rest (QcRead r a) (fun _ => False)) (kk : W p l e R s m args below meth c H locs cells slots Q (F0 m (pc + 3) ls (.int r :: rest))) : W p l e R s m args below meth c H locs cells slots Q (F0 m pc ls st0) := by
  intro T hT X
  obtain ⟨v, st₀, t, T', L, h0, X', hL, e1, e2, ⟨hv, hh⟩, st⟩ := hr T hT X
  cases hv
  obtain ⟨t2, a1, b1⟩ := kk T' (by rw [e1, hh, h0]) (Stand.forget X' (fun q h => (hL q h).elim))
  exact ⟨t2, st t2 a1, b1⟩
theorem rd_r {x : Nat} (hr : va_Run p l e R s m args below meth c H locs cells slots 0 0 (F0 m pc ls st0) rest (rdR x a) (fun _ => False)) (kk : W p l e R s m args below meth c H locs cells slots Q (F0 m (pc + 3) ls (.ref x :: rest))) : W p l e R s m args below meth c H locs cells slots Q (F0 m pc ls st0) := by
  intro T hT X
  obtain ⟨v, st₀, t, T', L, h0, X', hL, e1, e2, ⟨hv, hh⟩, st⟩ := hr T hT X
  cases hv
  obtain ⟨t2, a1, b1⟩ := kk T' (by rw [e1, hh, h0]) (Stand.forget X' (fun q h => (hL q h).elim))
  exact ⟨t2, st t2 a1, b1⟩
/-- behind a call that writes: the rest's cells, and the callee's world -/
theorem wr_i {S : Type} {post : Int32 → S → Prop} {ws wc wr : va_W} {w1 : S → va_W} (hP : va_P D vwCl ws H) (hD : va_D A ws) (hS : va_S A H0 H locs) (hA : ∀ q, H0.size ≤ q → A q) (isC isR : List Nat) (hC : isC.map (fun i => ws[i]?) = wc.map some) (hR : isR.map (fun i => ws[i]?) = wr.map some) (hn : va_nd isR = true) (hdis : ∀ i ∈ isR, i ∉ isC)
    (hr : va_Run p l e R s m args below meth c H locs cells slots mc ms (F0 m pc ls st0) rest (va_Qi post (wrB D wc H.size w1) (va_A wc H.size) a) (va_A wc H.size))
    (kk : ∀ (r : Int32) (u : S) (H1 : Heap) (locs1 : List Loc), post r u → va_P D vwCl (wr ++ w1 u) H1 → va_D A (wr ++ w1 u) → va_S A H0 H1 locs1 → W p l e R s m args below meth c H1 locs1 (cells + mc) (slots + ms) Q (F0 m (pc + 3) ls (.int r :: rest))) : W p l e R s m args below meth c H locs cells slots Q (F0 m pc ls st0) := by
  have hFc := va_free (wc := wc) hD hS hA isC hC
  refine va_calli hr hS (fun q _ h => hFc q h) hFc (fun r u t H1 locs1 ht hvm hw hB hz hk hS1 => ?_)
  obtain ⟨hP1, hD1⟩ := hB
  rw [ht] at hP1
  obtain ⟨h1, h2⟩ := va_join hP hD isC isR hC hR hn hdis hk hFc hP1 hD1
  exact kk r u H1 locs1 hw h1 h2 hS1
theorem wr_v {S : Type} {post : S → Prop} {ws wc wr : va_W} {w1 : S → va_W} (hP : va_P D vwCl ws H) (hD : va_D A ws) (hS : va_S A H0 H locs) (hA : ∀ q, H0.size ≤ q → A q) (isC isR : List Nat) (hC : isC.map (fun i => ws[i]?) = wc.map some) (hR : isR.map (fun i => ws[i]?) = wr.map some) (hn : va_nd isR = true) (hdis : ∀ i ∈ isR, i ∉ isC)
    (hr : va_Run p l e R s m args below meth c H locs cells slots mc ms (F0 m pc ls st0) rest (va_Qv post (wrB D wc H.size w1) (va_A wc H.size) a) (va_A wc H.size))
    (kk : ∀ (u : S) (H1 : Heap) (locs1 : List Loc), post u → va_P D vwCl (wr ++ w1 u) H1 → va_D A (wr ++ w1 u) → va_S A H0 H1 locs1 → W p l e R s m args below meth c H1 locs1 (cells + mc) (slots + ms) Q (F0 m (pc + 3) ls rest)) : W p l e R s m args below meth c H locs cells slots Q (F0 m pc ls st0) := by
  have hFc := va_free (wc := wc) hD hS hA isC hC
  refine va_callv hr hS (fun q _ h => hFc q h) hFc (fun u t H1 locs1 ht hvm hw hB hz hk hS1 => ?_)
  obtain ⟨hP1, hD1⟩ := hB
  rw [ht] at hP1
  obtain ⟨h1, h2⟩ := va_join hP hD isC isR hC hR hn hdis hk hFc hP1 hD1
  exact kk u H1 locs1 hw h1 h2 hS1
end RD
section AR
variable {p : Program} {l : Launch} {e : Env} {R : Room} {s : State} {m : MethodId} {args : Array Value} {below : List Frame} {meth : Method} {c : Code} {H : Heap} {locs : List Loc} {cells slots : Nat} {Q : State → Prop}
variable {cc : ByteArray} {pc a : Nat} {ls : Array Slot} {rest : List Value} {A : Nat → Prop} {H0 : Heap} {D : va_G} {cl : List vw_C} {tys : List (ClassId × FieldType)} {ws : va_W}
/-- arrays at a place that is a number -/
theorem q_iald (hexec : p.tables.exec = Jvm.exec) (hb : c.code = cc) (hK : va_K D cl tys s) (hP : va_P D cl ws H) (q0 t0 : Nat) {cA : ClassId} {n k : Nat} {f : Nat → Int32} (ha : ws[q0]? = some (a, .inl (cA, n, .inl f))) (ht : tys[t0]? = some (cA, .int)) (hk : k < n) (hn : n < 2 ^ 31) (hdg : decode cc pc = .ok (.iaload, 1))
    (kk : W p l e R s m args below meth c H locs cells slots Q (F0 m (pc + 1) ls (.int (f k) :: rest))) : W p l e R s m args below meth c H locs cells slots Q (F0 m pc ls (.int (nI k) :: .ref a :: rest)) := by
  refine va_iald hexec hb hK hP q0 t0 ha ht (vp_in_nI hk hn) hdg ?_
  rw [nI_clamp (Nat.lt_trans hk hn)]; exact kk
theorem q_zald (hexec : p.tables.exec = Jvm.exec) (hb : c.code = cc) (hK : va_K D cl tys s) (hP : va_P D cl ws H) (q0 t0 : Nat) {cA : ClassId} {n k : Nat} {f : Nat → Int32} (ha : ws[q0]? = some (a, .inl (cA, n, .inl f))) (ht : tys[t0]? = some (cA, .boolean)) (hk : k < n) (hn : n < 2 ^ 31) (hdg : decode cc pc = .ok (.baload, 1))
    (kk : W p l e R s m args below meth c H locs cells slots Q (F0 m (pc + 1) ls (.int (f k) :: rest))) : W p l e R s m args below meth c H locs cells slots Q (F0 m pc ls (.int (nI k) :: .ref a :: rest)) := by
  refine va_zald hexec hb hK hP q0 t0 ha ht (vp_in_nI hk hn) hdg ?_
  rw [nI_clamp (Nat.lt_trans hk hn)]; exact kk
theorem q_iast (hexec : p.tables.exec = Jvm.exec) (hb : c.code = cc) (hK : va_K D cl tys s) (hP : va_P D cl ws H) (hD : va_D A ws) (hS : va_S A H0 H locs) (q0 t0 : Nat) {cA : ClassId} {n k : Nat} {f : Nat → Int32} (ha : ws[q0]? = some (a, .inl (cA, n, .inl f))) (ht : tys[t0]? = some (cA, .int)) {x : Int32} (hk : k < n) (hn : n < 2 ^ 31) (hdg : decode cc pc = .ok (.iastore, 1))
    (kk : ∀ (H1 : Heap) (locs1 : List Loc), va_P D cl (ws.set q0 (a, .inl (cA, n, .inl (upd f k x)))) H1 → va_D A (ws.set q0 (a, .inl (cA, n, .inl (upd f k x)))) → va_S A H0 H1 locs1 → W p l e R s m args below meth c H1 locs1 cells slots Q (F0 m (pc + 1) ls rest)) : W p l e R s m args below meth c H locs cells slots Q (F0 m pc ls (.int x :: .int (nI k) :: .ref a :: rest)) := by
  refine va_iast hexec hb hK hP hD hS q0 t0 ha ht (vp_in_nI hk hn) hdg ?_
  rw [nI_clamp (Nat.lt_trans hk hn)]; exact kk
theorem q_zast (hexec : p.tables.exec = Jvm.exec) (hb : c.code = cc) (hK : va_K D cl tys s) (hP : va_P D cl ws H) (hD : va_D A ws) (hS : va_S A H0 H locs) (q0 t0 : Nat) {cA : ClassId} {n k : Nat} {f : Nat → Int32} (ha : ws[q0]? = some (a, .inl (cA, n, .inl f))) (ht : tys[t0]? = some (cA, .boolean)) {x : Int32} (hx2 : vp_nar .boolean x = x) (hk : k < n) (hn : n < 2 ^ 31) (hdg : decode cc pc = .ok (.bastore, 1))
    (kk : ∀ (H1 : Heap) (locs1 : List Loc), va_P D cl (ws.set q0 (a, .inl (cA, n, .inl (upd f k x)))) H1 → va_D A (ws.set q0 (a, .inl (cA, n, .inl (upd f k x)))) → va_S A H0 H1 locs1 → W p l e R s m args below meth c H1 locs1 cells slots Q (F0 m (pc + 1) ls rest)) : W p l e R s m args below meth c H locs cells slots Q (F0 m pc ls (.int x :: .int (nI k) :: .ref a :: rest)) := by
  refine va_zast hexec hb hK hP hD hS q0 t0 ha ht (vp_in_nI hk hn) hdg ?_
  rw [nI_clamp (Nat.lt_trans hk hn), hx2]; exact kk
/-- another word for the number on top -/
theorem q_eq {x y : Int32} (h : x = y) (k : W p l e R s m args below meth c H locs cells slots Q (F0 m pc ls (.int y :: rest))) : W p l e R s m args below meth c H locs cells slots Q (F0 m pc ls (.int x :: rest)) := by
  rw [h]; exact k
end AR
end
section
/-! Numbers: quotients cut downwards; sums and products that fit. -/
/-- q is a / b, cut downwards -/
def fl_is (a b q : Int) : Prop := (0 < b ∧ q * b ≤ a ∧ a < q * b + b) ∨ (b < 0 ∧ a ≤ q * b ∧ q * b + b < a)
/-- Math.floorDiv of ints, as its code does it -/
def fl_i (x y : Int32) : Int32 := if 0 ≤ (x ^^^ y) then x / y else if x / y * y = x then x / y else x / y - 1
theorem fl_mul {x y : Int32} (h1 : -2147483648 ≤ x.toInt * y.toInt) (h2 : x.toInt * y.toInt ≤ 2147483647) : (x * y).toInt = x.toInt * y.toInt := by
  rw [Int32.toInt_mul]; exact Int.bmod_eq_of_le (by omega) (by omega)
theorem fl_add {x y : Int32} (h1 : -2147483648 ≤ x.toInt + y.toInt) (h2 : x.toInt + y.toInt ≤ 2147483647) : (x + y).toInt = x.toInt + y.toInt := by
  rw [Int32.toInt_add]; exact Int.bmod_eq_of_le (by omega) (by omega)
theorem fl_sub {x y : Int32} (h1 : -2147483648 ≤ x.toInt - y.toInt) (h2 : x.toInt - y.toInt ≤ 2147483647) : (x - y).toInt = x.toInt - y.toInt := by
  rw [Int32.toInt_sub]; exact Int.bmod_eq_of_le (by omega) (by omega)
theorem fl_xor (x y : Int32) : (x ^^^ y) < 0 ↔ ¬ (x.toInt < 0 ↔ y.toInt < 0) := by
  have e : ∀ z : Int32, z.toInt < 0 ↔ z.toBitVec.msb = true := fun z => by
    rw [← Int32.toInt_toBitVec, BitVec.toInt_neg_iff, BitVec.msb_eq_decide, decide_eq_true_iff]; omega
  rw [Int32.lt_iff_toInt_lt, show (0 : Int32).toInt = 0 from rfl, e, e, e]
  rw [Int32.toBitVec_xor, BitVec.msb_xor]
  cases x.toBitVec.msb <;> cases y.toBitVec.msb <;> simp
theorem fl_same {x y : Int32} (h : 0 ≤ (x ^^^ y)) : (x.toInt < 0 ∧ y.toInt < 0) ∨ (0 ≤ x.toInt ∧ 0 ≤ y.toInt) := by
  have h2 : ¬ (x ^^^ y) < 0 := fun h3 => absurd h (Int32.not_le.mpr h3)
  rw [fl_xor] at h2
  by_cases hx : x.toInt < 0 <;> by_cases hy : y.toInt < 0
  · exact Or.inl ⟨hx, hy⟩
  · exact absurd (fun q => absurd (q.mp hx) hy) h2
  · exact absurd (fun q => absurd (q.mpr hy) hx) h2
  · exact Or.inr ⟨by omega, by omega⟩
theorem fl_diff {x y : Int32} (h : ¬ 0 ≤ (x ^^^ y)) : (x.toInt < 0 ∧ 0 ≤ y.toInt) ∨ (0 ≤ x.toInt ∧ y.toInt < 0) := by
  have h2 : (x ^^^ y) < 0 := Int32.not_le.mp h
  rw [fl_xor] at h2
  by_cases hx : x.toInt < 0 <;> by_cases hy : y.toInt < 0
  · exact absurd ⟨fun _ => hy, fun _ => hx⟩ h2
  · exact Or.inl ⟨hx, by omega⟩
  · exact Or.inr ⟨by omega, hy⟩
  · exact absurd ⟨fun q => absurd q hx, fun q => absurd q hy⟩ h2
theorem fl_ok {x y : Int32} (h0 : ¬ y = 0) (h1 : -2147483648 < x.toInt) : fl_is x.toInt y.toInt (fl_i x y).toInt := by
  have hy : y.toInt ≠ 0 := fun h => h0 (Int32.toInt_inj.mp (by rw [h]; rfl))
  have hx : x ≠ Int32.minValue := fun h => by rw [h] at h1; exact absurd h1 (by decide)
  have hq : (x / y).toInt = x.toInt.tdiv y.toInt := Int32.toInt_div_of_ne_left x y hx
  have hb := Int32.toInt_lt x
  have hyb := Int32.toInt_lt y
  have hyc := Int32.le_toInt y
  have hm : x.toInt.tdiv y.toInt * y.toInt + x.toInt.tmod y.toInt = x.toInt := Int.tdiv_mul_add_tmod _ _
  have hn : (x.toInt.tmod y.toInt).natAbs < y.toInt.natAbs := by
    rw [Int.natAbs_tmod]; exact Nat.mod_lt _ (by omega)
  have hsg : (0 ≤ x.toInt ∧ 0 ≤ x.toInt.tmod y.toInt) ∨ (x.toInt < 0 ∧ x.toInt.tmod y.toInt ≤ 0) := by
    rcases Int.lt_or_le x.toInt 0 with h | h
    rotate_left
    · exact Or.inl ⟨h, Int.tmod_nonneg _ h⟩
    · have h2 := Int.tmod_nonneg (a := -x.toInt) y.toInt (by omega)
      rw [Int.neg_tmod] at h2; exact Or.inr ⟨h, by omega⟩
  have hqy : (x / y * y).toInt = x.toInt.tdiv y.toInt * y.toInt := by
    rw [← hq]
    refine fl_mul ?_ ?_ <;> rw [hq] <;> omega
  have heq : x / y * y = x ↔ x.toInt.tmod y.toInt = 0 := by
    rw [← Int32.toInt_inj, hqy]; omega
  have hql : (x / y).toInt ≤ x.toInt.natAbs ∧ -(x.toInt.natAbs : Int) ≤ (x / y).toInt := by
    have h3 : (x.toInt.tdiv y.toInt).natAbs ≤ x.toInt.natAbs := by
      rw [Int.natAbs_tdiv]; exact Nat.div_le_self _ _
    rw [hq]; omega
  unfold fl_i
  generalize hr : x.toInt.tmod y.toInt = r at *
  split
  · rename_i hs
    have hs := fl_same hs
    rw [hq]; unfold fl_is; omega
  · rename_i hs
    have hs := fl_diff hs
    split
    · rename_i h
      rw [heq] at h
      rw [hq]; unfold fl_is; omega
    · rename_i h
      rw [heq] at h
      have h5 : (x / y).toInt * y.toInt = x.toInt.tdiv y.toInt * y.toInt := by rw [hq]
      rw [fl_sub (by rw [show (1 : Int32).toInt = 1 from rfl]; omega) (by rw [show (1 : Int32).toInt = 1 from rfl]; omega), show (1 : Int32).toInt = 1 from rfl]
      unfold fl_is
      rw [Int.sub_mul, h5]; omega
/-- the same, as the reference's code does it -/
def qt_i (a b : Int32) : Int32 := if a / b * b = a then a / b else if (0 ≤ a ↔ 0 ≤ b) then a / b else a / b - 1
theorem qt_fl (a b : Int32) : qt_i a b = fl_i a b := by
  unfold qt_i fl_i
  by_cases h1 : a / b * b = a
  · simp [h1]
  · simp only [h1, if_false]
    have z : ∀ q : Int32, 0 ≤ q ↔ 0 ≤ q.toInt := fun q => by rw [Int32.le_iff_toInt_le]; rfl
    by_cases h2 : 0 ≤ (a ^^^ b)
    · rw [if_pos h2, if_pos]
      have h3 := fl_same h2
      rw [z, z]
      constructor <;> intro h <;> omega
    · rw [if_neg h2, if_neg]
      have h3 := fl_diff h2
      rw [z, z]
      intro h
      rcases h3 with ⟨h4, h5⟩ | ⟨h4, h5⟩
      · have := h.mpr h5; omega
      · have := h.mp h4; omega
/-- the quotient is one alone -/
theorem fl_one {a b q q' : Int} (h : fl_is a b q) (h' : fl_is a b q') : q = q' := by
  unfold fl_is at h h'
  rcases Int.lt_trichotomy q q' with h3 | h3 | h3
  · exfalso
    rcases h with ⟨hb, h1, h2⟩ | ⟨hb, h1, h2⟩
    · have : (q + 1) * b ≤ q' * b := Int.mul_le_mul_of_nonneg_right (by omega) (by omega)
      rw [Int.add_mul, Int.one_mul] at this; omega
    · have : q' * b ≤ (q + 1) * b := Int.mul_le_mul_of_nonpos_right (by omega) (by omega)
      rw [Int.add_mul, Int.one_mul] at this; omega
  · exact h3
  · exfalso
    rcases h with ⟨hb, h1, h2⟩ | ⟨hb, h1, h2⟩
    · have : (q' + 1) * b ≤ q * b := Int.mul_le_mul_of_nonneg_right (by omega) (by omega)
      rw [Int.add_mul, Int.one_mul] at this; omega
    · have : q * b ≤ (q' + 1) * b := Int.mul_le_mul_of_nonpos_right (by omega) (by omega)
      rw [Int.add_mul, Int.one_mul] at this; omega
end
section
/-! LEAVES: static methods, and the readers of a ring. -/
theorem oI {v r : Int32} (h : v = r) : Outcome.returned (some (Value.int v)) = .returned (some (.int r)) := by rw [h]
theorem bI_tt {b : Bool} (h : b = true) : (1 : Int32) = bI b := by rw [h]; rfl
theorem bI_ff {b : Bool} (h : b = false) : (0 : Int32) = bI b := by rw [h]; rfl
theorem bI_ne {b : Bool} (h : ¬ bI b = 0) : b = true := by
  cases b
  · exact absurd rfl h
  · rfl
def coB (x : Int32) : Bool := decide (¬ x < (-16384) ∧ ¬ 16384 < x)
def rgB (a b : Int32) : Bool := decide (coB a = true ∧ coB b = true ∧ ¬ b < a)
def neI (v lo hi : Int32) : Int32 := if lo < (if v < hi then v else hi) then (if v < hi then v else hi) else lo
def bwI (v lo hi : Int32) : Int32 := if lo ≤ v then (if v ≤ hi then v else hi) else lo
def caI (a b c d s : Int32) : Int32 := b + fl_i ((d - b) * (s - a)) (c - a)
def hsB (i n : Int32) : Bool := decide (¬ i < 0 ∧ ¬ n ≤ i)
def nxN (n k : Nat) : Nat := if k + 1 < n then k + 1 else 0
theorem nxN_lt {n k : Nat} (h : k < n) : nxN n k < n := by unfold nxN; split <;> omega
def emB (ys : Nat → Int32) (n k : Nat) (y : Int32) : Bool := decide (y < ys k) != decide (y < ys (nxN n k))
def cuI (xs ys : Nat → Int32) (n k : Nat) (y : Int32) : Int32 := xs k - fl_i ((xs k - xs (nxN n k)) * (y - ys k)) (ys (nxN n k) - ys k)
def gdB (side : Nat) (v s : Int32) : Bool := if side % 2 = 0 then decide (¬ v < s) else decide (¬ s < v)
set_option maxHeartbeats 4000000 in
set_option maxRecDepth 100000 in
/-- nearest: the nearest number of a range -/
theorem kX1_nearest (l : Launch) (D : va_G) (cI cZ : ClassId) (v lo hi : Int32)  : Met l yX1_nearest wsX1_nearest ({ frames := 1, cells := 0, slots := 0, locals := 20 }) (va_Pc [.int v, .int lo, .int hi] (fun _ => True)) (QcRead (neI v lo hi)) 0 0 (fun _ => False) := by
  refine Met.ofW (cc := cX1_nearest) (maxL := 3) (ret := (some .int)) (by decide) rfl ?_
  intro p e s m args below meth c s₁ B hml hv
  obtain ⟨rfl, -⟩ := hv
  have hx := B.exec
  have hb := B.bytes
  have hr := B.returns
  have hts := atoms_spec (ws := wsX1_nearest) B.pre
  have hown : s.vm.findClass RX1 = some m.cls := findClass_of_methodNamed B.named
  have hlocks := B.notSynchronized
  have hl := lv_entry ([.int v, .int lo, .int hi]) (n := 3) (Nat.le_of_ble_eq_true rfl)
  rw [lg_entry_eq]
  generalize (lg_sl ([.int v, .int lo, .int hi]) ++ List.replicate (3 - (lg_sl ([.int v, .int lo, .int hi])).length) Slot.unset).toArray = ls at hl ⊢
  have hl : lv_has ls 3 [(0, .int v), (1, .int lo), (2, .int hi)] := hl
  refine lv_iload_n hx hb dX1_nearest_0 rfl (lv_at hl 1 rfl) ?_
  refine lv_iload_n hx hb dX1_nearest_1 rfl (lv_at hl 2 rfl) ?_
  refine lv_iload_n hx hb dX1_nearest_2 rfl (lv_at hl 0 rfl) ?_
  refine va_mmin hx hb (hml.trans hl.1.symm) hown (hts (.methodLink RX1 92 Lib.Math.min.name) (by decide +kernel)) (hts (.static Lib.Math.min.name) (by decide +kernel)) (hts (.initialized "java/lang/Math") (by decide +kernel)) (hts (.code Lib.Math.min.name Lib.Math.min.code 2 (some .int)) (List.mem_cons_of_mem _ (List.mem_of_getElem? (i := 3) rfl))) (Nat.le_of_ble_eq_true rfl) (Nat.le_of_ble_eq_true rfl) (Nat.zero_le _) (Nat.zero_le _) dX1_nearest_3 ?_
  refine va_mmax hx hb (hml.trans hl.1.symm) hown (hts (.methodLink RX1 97 Lib.Math.max.name) (by decide +kernel)) (hts (.static Lib.Math.max.name) (by decide +kernel)) (hts (.initialized "java/lang/Math") (by decide +kernel)) (hts (.code Lib.Math.max.name Lib.Math.max.code 2 (some .int)) (List.mem_cons_of_mem _ (List.mem_of_getElem? (i := 6) rfl))) (Nat.le_of_ble_eq_true rfl) (Nat.le_of_ble_eq_true rfl) (Nat.zero_le _) (Nat.zero_le _) dX1_nearest_6 ?_
  exact W.iret (v := (if lo < (if v < hi then v else hi) then (if v < hi then v else hi) else lo)) hx hb hr (fun t ht _ => ⟨rfl, ht⟩) (fun _ h => absurd h List.not_mem_nil) dX1_nearest_9
set_option maxHeartbeats 4000000 in
set_option maxRecDepth 100000 in
theorem kX1_isCoordinate (l : Launch) (D : va_G) (cI cZ : ClassId) (x : Int32)  : Met l yX1_isCoordinate wsX1_isCoordinate ({ frames := 0, cells := 0, slots := 0, locals := 0 }) (va_Pc [.int x] (fun _ => True)) (QcRead (bI (coB x))) 0 0 (fun _ => False) := by
  refine Met.ofW (cc := cX1_isCoordinate) (maxL := 1) (ret := (some .boolean)) (by decide) rfl ?_
  intro p e s m args below meth c s₁ B hml hv
  obtain ⟨rfl, -⟩ := hv
  have hx := B.exec
  have hb := B.bytes
  have hr := B.returns
  have hts := atoms_spec (ws := wsX1_isCoordinate) B.pre
  have hown : s.vm.findClass RX1 = some m.cls := findClass_of_methodNamed B.named
  have hlocks := B.notSynchronized
  have hl := lv_entry ([.int x]) (n := 1) (Nat.le_of_ble_eq_true rfl)
  rw [lg_entry_eq]
  generalize (lg_sl ([.int x]) ++ List.replicate (1 - (lg_sl ([.int x])).length) Slot.unset).toArray = ls at hl ⊢
  have hl : lv_has ls 1 [(0, .int x)] := hl
  refine lv_iload_n hx hb dX1_isCoordinate_0 rfl (lv_at hl 0 rfl) ?_
  refine lv_sipush (v := (-16384)) hx hb dX1_isCoordinate_1 (by decide) ?_
  refine lv_icmp_lt (tgt := 18) hx hb dX1_isCoordinate_4 (by decide) (fun c4 => ?_) (fun c4 => ?_)
  · skip
    refine lv_iconst (v := 0) hx hb dX1_isCoordinate_18 (by decide) ?_
    exact W.zret (v := 0) hx hb hr rfl (fun t ht _ => ⟨oI (bI_ff (decide_eq_false (fun h => h.1 c4))), ht⟩) (fun _ h => absurd h List.not_mem_nil) dX1_isCoordinate_19
  · skip
    refine lv_iload_n hx hb dX1_isCoordinate_7 rfl (lv_at hl 0 rfl) ?_
    refine lv_sipush (v := 16384) hx hb dX1_isCoordinate_8 (by decide) ?_
    refine lv_icmp_gt (tgt := 18) hx hb dX1_isCoordinate_11 (by decide) (fun c11 => ?_) (fun c11 => ?_)
    · skip
      refine lv_iconst (v := 0) hx hb dX1_isCoordinate_18 (by decide) ?_
      exact W.zret (v := 0) hx hb hr rfl (fun t ht _ => ⟨oI (bI_ff (decide_eq_false (fun h => h.2 c11))), ht⟩) (fun _ h => absurd h List.not_mem_nil) dX1_isCoordinate_19
    · skip
      refine lv_iconst (v := 1) hx hb dX1_isCoordinate_14 (by decide) ?_
      refine lv_goto (tgt := 19) hx hb dX1_isCoordinate_15 (by decide) ?_
      exact W.zret (v := 1) hx hb hr rfl (fun t ht _ => ⟨oI (bI_tt (decide_eq_true ⟨c4, c11⟩)), ht⟩) (fun _ h => absurd h List.not_mem_nil) dX1_isCoordinate_19
set_option maxHeartbeats 4000000 in
set_option maxRecDepth 100000 in
theorem kX2_isNear (l : Launch) (D : va_G) (cI cZ : ClassId) (x : Int32)  : Met l yX2_isNear wsX2_isNear ({ frames := 0, cells := 0, slots := 0, locals := 0 }) (va_Pc [.int x] (fun _ => True)) (QcRead (bI (coB x))) 0 0 (fun _ => False) := by
  refine Met.ofW (cc := cX2_isNear) (maxL := 1) (ret := (some .boolean)) (by decide) rfl ?_
  intro p e s m args below meth c s₁ B hml hv
  obtain ⟨rfl, -⟩ := hv
  have hx := B.exec
  have hb := B.bytes
  have hr := B.returns
  have hts := atoms_spec (ws := wsX2_isNear) B.pre
  have hown : s.vm.findClass RX2 = some m.cls := findClass_of_methodNamed B.named
  have hlocks := B.notSynchronized
  have hl := lv_entry ([.int x]) (n := 1) (Nat.le_of_ble_eq_true rfl)
  rw [lg_entry_eq]
  generalize (lg_sl ([.int x]) ++ List.replicate (1 - (lg_sl ([.int x])).length) Slot.unset).toArray = ls at hl ⊢
  have hl : lv_has ls 1 [(0, .int x)] := hl
  refine lv_iload_n hx hb dX2_isNear_0 rfl (lv_at hl 0 rfl) ?_
  refine lv_sipush (v := (-16384)) hx hb dX2_isNear_1 (by decide) ?_
  refine lv_icmp_lt (tgt := 18) hx hb dX2_isNear_4 (by decide) (fun c4 => ?_) (fun c4 => ?_)
  · skip
    refine lv_iconst (v := 0) hx hb dX2_isNear_18 (by decide) ?_
    exact W.zret (v := 0) hx hb hr rfl (fun t ht _ => ⟨oI (bI_ff (decide_eq_false (fun h => h.1 c4))), ht⟩) (fun _ h => absurd h List.not_mem_nil) dX2_isNear_19
  · skip
    refine lv_iload_n hx hb dX2_isNear_7 rfl (lv_at hl 0 rfl) ?_
    refine lv_sipush (v := 16384) hx hb dX2_isNear_8 (by decide) ?_
    refine lv_icmp_gt (tgt := 18) hx hb dX2_isNear_11 (by decide) (fun c11 => ?_) (fun c11 => ?_)
    · skip
      refine lv_iconst (v := 0) hx hb dX2_isNear_18 (by decide) ?_
      exact W.zret (v := 0) hx hb hr rfl (fun t ht _ => ⟨oI (bI_ff (decide_eq_false (fun h => h.2 c11))), ht⟩) (fun _ h => absurd h List.not_mem_nil) dX2_isNear_19
    · skip
      refine lv_iconst (v := 1) hx hb dX2_isNear_14 (by decide) ?_
      refine lv_goto (tgt := 19) hx hb dX2_isNear_15 (by decide) ?_
      exact W.zret (v := 1) hx hb hr rfl (fun t ht _ => ⟨oI (bI_tt (decide_eq_true ⟨c4, c11⟩)), ht⟩) (fun _ h => absurd h List.not_mem_nil) dX2_isNear_19
set_option maxHeartbeats 4000000 in
set_option maxRecDepth 100000 in
theorem kX1_isRange (l : Launch) (D : va_G) (cI cZ : ClassId) (a b : Int32)  : Met l yX1_isRange wsX1_isRange ({ frames := 1, cells := 0, slots := 0, locals := 20 }) (va_Pc [.int a, .int b] (fun _ => True)) (QcRead (bI (rgB a b))) 0 0 (fun _ => False) := by
  refine Met.ofW (cc := cX1_isRange) (maxL := 2) (ret := (some .boolean)) (by decide) rfl ?_
  intro p e s m args below meth c s₁ B hml hv
  obtain ⟨rfl, -⟩ := hv
  have hx := B.exec
  have hb := B.bytes
  have hr := B.returns
  have hts := atoms_spec (ws := wsX1_isRange) B.pre
  have hown : s.vm.findClass RX1 = some m.cls := findClass_of_methodNamed B.named
  have hlocks := B.notSynchronized
  have hl := lv_entry ([.int a, .int b]) (n := 2) (Nat.le_of_ble_eq_true rfl)
  rw [lg_entry_eq]
  generalize (lg_sl ([.int a, .int b]) ++ List.replicate (2 - (lg_sl ([.int a, .int b])).length) Slot.unset).toArray = ls at hl ⊢
  have hl : lv_has ls 2 [(0, .int a), (1, .int b)] := hl
  refine lv_iload_n hx hb dX1_isRange_0 rfl (lv_at hl 0 rfl) ?_
  refine rd_i (va_runS (As := [.int a]) ⟨hx, hb, hml, hown, hts⟩ (kX1_isCoordinate l D cI cZ a) (va_cwS 1 hts gX1_isRange_X1_isCoordinate rfl rfl rfl (by decide +kernel) ⟨Nat.le_of_ble_eq_true rfl, Nat.le_of_ble_eq_true rfl⟩) rd_pre0 rfl rfl hl.1 rfl (lv_room (Nat.le_of_ble_eq_true rfl)) dX1_isRange_1 ⟨Nat.zero_le _, Nat.zero_le _⟩) ?_
  refine lv_if_eq (tgt := 23) hx hb dX1_isRange_4 (by decide) (fun c4 => ?_) (fun c4 => ?_)
  · skip
    refine lv_iconst (v := 0) hx hb dX1_isRange_23 (by decide) ?_
    exact W.zret (v := 0) hx hb hr rfl (fun t ht _ => ⟨oI (bI_ff (decide_eq_false (fun h => by rw [bI_eq0.mp c4] at h; exact absurd h.1 (by decide)))), ht⟩) (fun _ h => absurd h List.not_mem_nil) dX1_isRange_24
  · skip
    refine lv_iload_n hx hb dX1_isRange_7 rfl (lv_at hl 1 rfl) ?_
    refine rd_i (va_runS (As := [.int b]) ⟨hx, hb, hml, hown, hts⟩ (kX1_isCoordinate l D cI cZ b) (va_cwS 1 hts gX1_isRange_X1_isCoordinate rfl rfl rfl (by decide +kernel) ⟨Nat.le_of_ble_eq_true rfl, Nat.le_of_ble_eq_true rfl⟩) rd_pre0 rfl rfl hl.1 rfl (lv_room (Nat.le_of_ble_eq_true rfl)) dX1_isRange_8 ⟨Nat.zero_le _, Nat.zero_le _⟩) ?_
    refine lv_if_eq (tgt := 23) hx hb dX1_isRange_11 (by decide) (fun c11 => ?_) (fun c11 => ?_)
    · skip
      refine lv_iconst (v := 0) hx hb dX1_isRange_23 (by decide) ?_
      exact W.zret (v := 0) hx hb hr rfl (fun t ht _ => ⟨oI (bI_ff (decide_eq_false (fun h => by rw [bI_eq0.mp c11] at h; exact absurd h.2.1 (by decide)))), ht⟩) (fun _ h => absurd h List.not_mem_nil) dX1_isRange_24
    · skip
      refine lv_iload_n hx hb dX1_isRange_14 rfl (lv_at hl 0 rfl) ?_
      refine lv_iload_n hx hb dX1_isRange_15 rfl (lv_at hl 1 rfl) ?_
      refine lv_icmp_gt (tgt := 23) hx hb dX1_isRange_16 (by decide) (fun c16 => ?_) (fun c16 => ?_)
      · skip
        refine lv_iconst (v := 0) hx hb dX1_isRange_23 (by decide) ?_
        exact W.zret (v := 0) hx hb hr rfl (fun t ht _ => ⟨oI (bI_ff (decide_eq_false (fun h => h.2.2 c16))), ht⟩) (fun _ h => absurd h List.not_mem_nil) dX1_isRange_24
      · skip
        refine lv_iconst (v := 1) hx hb dX1_isRange_19 (by decide) ?_
        refine lv_goto (tgt := 24) hx hb dX1_isRange_20 (by decide) ?_
        exact W.zret (v := 1) hx hb hr rfl (fun t ht _ => ⟨oI (bI_tt (decide_eq_true ⟨bI_ne c4, bI_ne c11, c16⟩)), ht⟩) (fun _ h => absurd h List.not_mem_nil) dX1_isRange_24
set_option maxHeartbeats 4000000 in
set_option maxRecDepth 100000 in
theorem kJ9_floorDiv_7cf53 (l : Launch) (D : va_G) (cI cZ : ClassId) (x y : Int32) (h0 : ¬ y = 0) : Met l yJ9_floorDiv_7cf53 wsJ9_floorDiv_7cf53 ({ frames := 0, cells := 0, slots := 0, locals := 0 }) (va_Pc [.int x, .int y] (fun _ => True)) (QcRead (fl_i x y)) 0 0 (fun _ => False) := by
  refine va_MetF (cc := cJ9_floorDiv_7cf53) (maxL := 3) (ret := (some .int)) (by decide +kernel) rfl ?_
  intro p e s m args below meth c s₁ B hml hv
  obtain ⟨rfl, -⟩ := hv
  have hx := B.exec
  have hb := B.bytes
  have hr := B.returns
  have hts := atoms_spec (ws := wsJ9_floorDiv_7cf53) B.pre
  have hown : s.vm.findClass RJ9 = some m.cls := findClass_of_methodNamed B.named
  have hlocks := B.notSynchronized
  have hl := lv_entry ([.int x, .int y]) (n := 3) (Nat.le_of_ble_eq_true rfl)
  rw [lg_entry_eq]
  generalize (lg_sl ([.int x, .int y]) ++ List.replicate (3 - (lg_sl ([.int x, .int y])).length) Slot.unset).toArray = ls at hl ⊢
  have hl : lv_has ls 3 [(0, .int x), (1, .int y)] := hl
  refine lv_iload_n hx hb dJ9_floorDiv_7cf53_0 rfl (lv_at hl 0 rfl) ?_
  refine lv_iload_n hx hb dJ9_floorDiv_7cf53_1 rfl (lv_at hl 1 rfl) ?_
  refine lv_idiv hx hb dJ9_floorDiv_7cf53_2 h0 ?_
  refine lv_istore_n (lv' := [(2, .int (x / y)), (0, .int x), (1, .int y)]) hx hb dJ9_floorDiv_7cf53_3 rfl hl (by decide) rfl (fun ls hl => ?_)
  refine lv_iload_n hx hb dJ9_floorDiv_7cf53_4 rfl (lv_at hl 1 rfl) ?_
  refine lv_iload_n hx hb dJ9_floorDiv_7cf53_5 rfl (lv_at hl 2 rfl) ?_
  refine lv_ixor hx hb dJ9_floorDiv_7cf53_6 ?_
  refine lv_if_ge (tgt := 21) hx hb dJ9_floorDiv_7cf53_7 (by decide) (fun c7 => ?_) (fun c7 => ?_)
  · skip
    refine lv_iload_n hx hb dJ9_floorDiv_7cf53_21 rfl (lv_at hl 0 rfl) ?_
    exact W.iret (v := (x / y)) hx hb hr (fun t ht _ => ⟨oI (by rw [fl_i, if_pos c7]), ht⟩) (fun _ h => absurd h List.not_mem_nil) dJ9_floorDiv_7cf53_22
  · skip
    refine lv_iload_n hx hb dJ9_floorDiv_7cf53_10 rfl (lv_at hl 0 rfl) ?_
    refine lv_iload_n hx hb dJ9_floorDiv_7cf53_11 rfl (lv_at hl 2 rfl) ?_
    refine lv_imul hx hb dJ9_floorDiv_7cf53_12 ?_
    refine lv_iload_n hx hb dJ9_floorDiv_7cf53_13 rfl (lv_at hl 1 rfl) ?_
    refine lv_icmp_eq (tgt := 21) hx hb dJ9_floorDiv_7cf53_14 (by decide) (fun c14 => ?_) (fun c14 => ?_)
    · skip
      refine lv_iload_n hx hb dJ9_floorDiv_7cf53_21 rfl (lv_at hl 0 rfl) ?_
      exact W.iret (v := (x / y)) hx hb hr (fun t ht _ => ⟨oI (by rw [fl_i, if_neg c7, if_pos c14]), ht⟩) (fun _ h => absurd h List.not_mem_nil) dJ9_floorDiv_7cf53_22
    · skip
      refine lv_iload_n hx hb dJ9_floorDiv_7cf53_17 rfl (lv_at hl 0 rfl) ?_
      refine lv_iconst (v := 1) hx hb dJ9_floorDiv_7cf53_18 (by decide) ?_
      refine lv_isub hx hb dJ9_floorDiv_7cf53_19 ?_
      exact W.iret (v := ((x / y) - 1)) hx hb hr (fun t ht _ => ⟨oI (by rw [fl_i, if_neg c7, if_neg c14]), ht⟩) (fun _ h => absurd h List.not_mem_nil) dJ9_floorDiv_7cf53_20
set_option maxHeartbeats 4000000 in
set_option maxRecDepth 100000 in
theorem kX1_cutAcross (l : Launch) (D : va_G) (cI cZ : ClassId) (a0 b0 c0 d0 s0 : Int32) (h0 : ¬ c0 - a0 = 0) : Met l yX1_cutAcross wsX1_cutAcross ({ frames := 1, cells := 0, slots := 0, locals := 22 }) (va_Pc [.int a0, .int b0, .int c0, .int d0, .int s0] (fun _ => True)) (QcRead (caI a0 b0 c0 d0 s0)) 0 0 (fun _ => False) := by
  refine Met.ofW (cc := cX1_cutAcross) (maxL := 5) (ret := (some .int)) (by decide) rfl ?_
  intro p e s m args below meth c s₁ B hml hv
  obtain ⟨rfl, -⟩ := hv
  have hx := B.exec
  have hb := B.bytes
  have hr := B.returns
  have hts := atoms_spec (ws := wsX1_cutAcross) B.pre
  have hown : s.vm.findClass RX1 = some m.cls := findClass_of_methodNamed B.named
  have hlocks := B.notSynchronized
  have hl := lv_entry ([.int a0, .int b0, .int c0, .int d0, .int s0]) (n := 5) (Nat.le_of_ble_eq_true rfl)
  rw [lg_entry_eq]
  generalize (lg_sl ([.int a0, .int b0, .int c0, .int d0, .int s0]) ++ List.replicate (5 - (lg_sl ([.int a0, .int b0, .int c0, .int d0, .int s0])).length) Slot.unset).toArray = ls at hl ⊢
  have hl : lv_has ls 5 [(0, .int a0), (1, .int b0), (2, .int c0), (3, .int d0), (4, .int s0)] := hl
  refine lv_iload_n hx hb dX1_cutAcross_0 rfl (lv_at hl 1 rfl) ?_
  refine lv_iload_n hx hb dX1_cutAcross_1 rfl (lv_at hl 3 rfl) ?_
  refine lv_iload_n hx hb dX1_cutAcross_2 rfl (lv_at hl 1 rfl) ?_
  refine lv_isub hx hb dX1_cutAcross_3 ?_
  refine lv_iload hx hb dX1_cutAcross_4 (lv_at hl 4 rfl) ?_
  refine lv_iload_n hx hb dX1_cutAcross_6 rfl (lv_at hl 0 rfl) ?_
  refine lv_isub hx hb dX1_cutAcross_7 ?_
  refine lv_imul hx hb dX1_cutAcross_8 ?_
  refine lv_iload_n hx hb dX1_cutAcross_9 rfl (lv_at hl 2 rfl) ?_
  refine lv_iload_n hx hb dX1_cutAcross_10 rfl (lv_at hl 0 rfl) ?_
  refine lv_isub hx hb dX1_cutAcross_11 ?_
  refine rd_i (va_runS (As := [.int ((d0 - b0) * (s0 - a0)), .int (c0 - a0)]) ⟨hx, hb, hml, hown, hts⟩ (kJ9_floorDiv_7cf53 l D cI cZ ((d0 - b0) * (s0 - a0)) (c0 - a0) h0) (va_cwS 2 hts gX1_cutAcross_J9_floorDiv_7cf53 rfl rfl rfl (by decide +kernel) ⟨Nat.le_of_ble_eq_true rfl, Nat.le_of_ble_eq_true rfl⟩) rd_pre0 rfl rfl hl.1 rfl (lv_room (Nat.le_of_ble_eq_true rfl)) dX1_cutAcross_12 ⟨Nat.zero_le _, Nat.zero_le _⟩) ?_
  refine lv_iadd hx hb dX1_cutAcross_15 ?_
  exact W.iret (v := (b0 + (fl_i ((d0 - b0) * (s0 - a0)) (c0 - a0)))) hx hb hr (fun t ht _ => ⟨rfl, ht⟩) (fun _ h => absurd h List.not_mem_nil) dX1_cutAcross_16
set_option maxHeartbeats 4000000 in
set_option maxRecDepth 100000 in
theorem kX2_quotient (l : Launch) (D : va_G) (cI cZ : ClassId) (a b : Int32) (h0 : ¬ b = 0) : Met l yX2_quotient wsX2_quotient ({ frames := 0, cells := 0, slots := 0, locals := 0 }) (va_Pc [.int a, .int b] (fun _ => True)) (QcRead (qt_i a b)) 0 0 (fun _ => False) := by
  refine Met.ofW (cc := cX2_quotient) (maxL := 3) (ret := (some .int)) (by decide) rfl ?_
  intro p e s m args below meth c s₁ B hml hv
  obtain ⟨rfl, -⟩ := hv
  have hx := B.exec
  have hb := B.bytes
  have hr := B.returns
  have hts := atoms_spec (ws := wsX2_quotient) B.pre
  have hown : s.vm.findClass RX2 = some m.cls := findClass_of_methodNamed B.named
  have hlocks := B.notSynchronized
  have hl := lv_entry ([.int a, .int b]) (n := 3) (Nat.le_of_ble_eq_true rfl)
  rw [lg_entry_eq]
  generalize (lg_sl ([.int a, .int b]) ++ List.replicate (3 - (lg_sl ([.int a, .int b])).length) Slot.unset).toArray = ls at hl ⊢
  have hl : lv_has ls 3 [(0, .int a), (1, .int b)] := hl
  refine lv_iload_n hx hb dX2_quotient_0 rfl (lv_at hl 0 rfl) ?_
  refine lv_iload_n hx hb dX2_quotient_1 rfl (lv_at hl 1 rfl) ?_
  refine lv_idiv hx hb dX2_quotient_2 h0 ?_
  refine lv_istore_n (lv' := [(2, .int (a / b)), (0, .int a), (1, .int b)]) hx hb dX2_quotient_3 rfl hl (by decide) rfl (fun ls hl => ?_)
  refine lv_iload_n hx hb dX2_quotient_4 rfl (lv_at hl 0 rfl) ?_
  refine lv_iload_n hx hb dX2_quotient_5 rfl (lv_at hl 2 rfl) ?_
  refine lv_imul hx hb dX2_quotient_6 ?_
  refine lv_iload_n hx hb dX2_quotient_7 rfl (lv_at hl 1 rfl) ?_
  refine lv_icmp_eq (tgt := 38) hx hb dX2_quotient_8 (by decide) (fun c8 => ?_) (fun c8 => ?_)
  · skip
    refine lv_iload_n hx hb dX2_quotient_38 rfl (lv_at hl 0 rfl) ?_
    exact W.iret (v := (a / b)) hx hb hr (fun t ht _ => ⟨oI (by rw [qt_i, if_pos c8]), ht⟩) (fun _ h => absurd h List.not_mem_nil) dX2_quotient_39
  · skip
    refine lv_iload_n hx hb dX2_quotient_11 rfl (lv_at hl 1 rfl) ?_
    refine lv_if_ge (tgt := 19) hx hb dX2_quotient_12 (by decide) (fun c12 => ?_) (fun c12 => ?_)
    · skip
      refine lv_iconst (v := 0) hx hb dX2_quotient_19 (by decide) ?_
      refine lv_iload_n hx hb dX2_quotient_20 rfl (lv_at hl 2 rfl) ?_
      refine lv_if_ge (tgt := 28) hx hb dX2_quotient_21 (by decide) (fun c21 => ?_) (fun c21 => ?_)
      · skip
        refine lv_iconst (v := 0) hx hb dX2_quotient_28 (by decide) ?_
        refine lv_icmp_eq (tgt := 38) hx hb dX2_quotient_29 (by decide) (fun c29 => ?_) (fun c29 => absurd (by decide) c29)
        refine lv_iload_n hx hb dX2_quotient_38 rfl (lv_at hl 0 rfl) ?_
        exact W.iret (v := (a / b)) hx hb hr (fun t ht _ => ⟨oI (by rw [qt_i, if_neg c8, if_pos (show (0 ≤ a ↔ 0 ≤ b) from ⟨fun _ => c21, fun _ => c12⟩)]), ht⟩) (fun _ h => absurd h List.not_mem_nil) dX2_quotient_39
      · skip
        refine lv_iconst (v := 1) hx hb dX2_quotient_24 (by decide) ?_
        refine lv_goto (tgt := 29) hx hb dX2_quotient_25 (by decide) ?_
        refine lv_icmp_eq (tgt := 38) hx hb dX2_quotient_29 (by decide) (fun c29 => absurd c29 (by decide)) (fun c29 => ?_)
        refine lv_iload_n hx hb dX2_quotient_32 rfl (lv_at hl 0 rfl) ?_
        refine lv_iconst (v := 1) hx hb dX2_quotient_33 (by decide) ?_
        refine lv_isub hx hb dX2_quotient_34 ?_
        refine lv_goto (tgt := 39) hx hb dX2_quotient_35 (by decide) ?_
        exact W.iret (v := ((a / b) - 1)) hx hb hr (fun t ht _ => ⟨oI (by rw [qt_i, if_neg c8, if_neg (show ¬ (0 ≤ a ↔ 0 ≤ b) from fun h => c21 (h.mp c12))]), ht⟩) (fun _ h => absurd h List.not_mem_nil) dX2_quotient_39
    · skip
      refine lv_iconst (v := 1) hx hb dX2_quotient_15 (by decide) ?_
      refine lv_goto (tgt := 20) hx hb dX2_quotient_16 (by decide) ?_
      refine lv_iload_n hx hb dX2_quotient_20 rfl (lv_at hl 2 rfl) ?_
      refine lv_if_ge (tgt := 28) hx hb dX2_quotient_21 (by decide) (fun c21 => ?_) (fun c21 => ?_)
      · skip
        refine lv_iconst (v := 0) hx hb dX2_quotient_28 (by decide) ?_
        refine lv_icmp_eq (tgt := 38) hx hb dX2_quotient_29 (by decide) (fun c29 => absurd c29 (by decide)) (fun c29 => ?_)
        refine lv_iload_n hx hb dX2_quotient_32 rfl (lv_at hl 0 rfl) ?_
        refine lv_iconst (v := 1) hx hb dX2_quotient_33 (by decide) ?_
        refine lv_isub hx hb dX2_quotient_34 ?_
        refine lv_goto (tgt := 39) hx hb dX2_quotient_35 (by decide) ?_
        exact W.iret (v := ((a / b) - 1)) hx hb hr (fun t ht _ => ⟨oI (by rw [qt_i, if_neg c8, if_neg (show ¬ (0 ≤ a ↔ 0 ≤ b) from fun h => c12 (h.mpr c21))]), ht⟩) (fun _ h => absurd h List.not_mem_nil) dX2_quotient_39
      · skip
        refine lv_iconst (v := 1) hx hb dX2_quotient_24 (by decide) ?_
        refine lv_goto (tgt := 29) hx hb dX2_quotient_25 (by decide) ?_
        refine lv_icmp_eq (tgt := 38) hx hb dX2_quotient_29 (by decide) (fun c29 => ?_) (fun c29 => absurd (by decide) c29)
        refine lv_iload_n hx hb dX2_quotient_38 rfl (lv_at hl 0 rfl) ?_
        exact W.iret (v := (a / b)) hx hb hr (fun t ht _ => ⟨oI (by rw [qt_i, if_neg c8, if_pos (show (0 ≤ a ↔ 0 ≤ b) from ⟨fun h => absurd h c12, fun h => absurd h c21⟩)]), ht⟩) (fun _ h => absurd h List.not_mem_nil) dX2_quotient_39
set_option maxHeartbeats 4000000 in
set_option maxRecDepth 100000 in
theorem kX2_between (l : Launch) (D : va_G) (cI cZ : ClassId) (v lo hi : Int32)  : Met l yX2_between wsX2_between ({ frames := 0, cells := 0, slots := 0, locals := 0 }) (va_Pc [.int v, .int lo, .int hi] (fun _ => True)) (QcRead (bwI v lo hi)) 0 0 (fun _ => False) := by
  refine Met.ofW (cc := cX2_between) (maxL := 3) (ret := (some .int)) (by decide) rfl ?_
  intro p e s m args below meth c s₁ B hml hv
  obtain ⟨rfl, -⟩ := hv
  have hx := B.exec
  have hb := B.bytes
  have hr := B.returns
  have hts := atoms_spec (ws := wsX2_between) B.pre
  have hown : s.vm.findClass RX2 = some m.cls := findClass_of_methodNamed B.named
  have hlocks := B.notSynchronized
  have hl := lv_entry ([.int v, .int lo, .int hi]) (n := 3) (Nat.le_of_ble_eq_true rfl)
  rw [lg_entry_eq]
  generalize (lg_sl ([.int v, .int lo, .int hi]) ++ List.replicate (3 - (lg_sl ([.int v, .int lo, .int hi])).length) Slot.unset).toArray = ls at hl ⊢
  have hl : lv_has ls 3 [(0, .int v), (1, .int lo), (2, .int hi)] := hl
  refine lv_iload_n hx hb dX2_between_0 rfl (lv_at hl 0 rfl) ?_
  refine lv_iload_n hx hb dX2_between_1 rfl (lv_at hl 1 rfl) ?_
  refine lv_icmp_ge (tgt := 9) hx hb dX2_between_2 (by decide) (fun c2 => ?_) (fun c2 => ?_)
  · skip
    refine lv_iload_n hx hb dX2_between_9 rfl (lv_at hl 0 rfl) ?_
    refine lv_iload_n hx hb dX2_between_10 rfl (lv_at hl 2 rfl) ?_
    refine lv_icmp_le (tgt := 18) hx hb dX2_between_11 (by decide) (fun c11 => ?_) (fun c11 => ?_)
    · skip
      refine lv_iload_n hx hb dX2_between_18 rfl (lv_at hl 0 rfl) ?_
      exact W.iret (v := v) hx hb hr (fun t ht _ => ⟨oI (by rw [bwI, if_pos c2, if_pos c11]), ht⟩) (fun _ h => absurd h List.not_mem_nil) dX2_between_19
    · skip
      refine lv_iload_n hx hb dX2_between_14 rfl (lv_at hl 2 rfl) ?_
      refine lv_goto (tgt := 19) hx hb dX2_between_15 (by decide) ?_
      exact W.iret (v := hi) hx hb hr (fun t ht _ => ⟨oI (by rw [bwI, if_pos c2, if_neg c11]), ht⟩) (fun _ h => absurd h List.not_mem_nil) dX2_between_19
  · skip
    refine lv_iload_n hx hb dX2_between_5 rfl (lv_at hl 1 rfl) ?_
    refine lv_goto (tgt := 19) hx hb dX2_between_6 (by decide) ?_
    exact W.iret (v := lo) hx hb hr (fun t ht _ => ⟨oI (by rw [bwI, if_neg c2]), ht⟩) (fun _ h => absurd h List.not_mem_nil) dX2_between_19
theorem nX0_has_X0 : ∀ w ∈ wsX00, w ∈ wsX0_has := fun w h => List.mem_cons_of_mem _ (List.mem_append_right _ h)
set_option maxHeartbeats 4000000 in
set_option maxRecDepth 100000 in
theorem kX0_has (l : Launch) (D : va_G) (cI cZ : ClassId) (r0 ax ay n cap : Nat) (xs ys : Nat → Int32) (i : Int32)  : Met l yX0_has wsX0_has ({ frames := 0, cells := 0, slots := 0, locals := 0 }) (va_Pc [.ref r0, .int i] (rdP D cI cZ [(r0, .inr (0, [.ref ax, .ref ay, .int (nI n)])), (ax, .inl (cI, cap, .inl xs)), (ay, .inl (cI, cap, .inl ys))])) (QcRead (bI (hsB i (nI n)))) 0 0 (fun _ => False) := by
  refine Met.ofW (cc := cX0_has) (maxL := 2) (ret := (some .boolean)) (by decide) rfl ?_
  intro p e s m args below meth c s₁ B hml hv
  obtain ⟨rfl, hP, hK⟩ := hv
  have hx := B.exec
  have hb := B.bytes
  have hr := B.returns
  have hts := atoms_spec (ws := wsX0_has) B.pre
  have hown : s.vm.findClass RX0 = some m.cls := findClass_of_methodNamed B.named
  have hlocks := B.notSynchronized
  have hP : va_P D vwCl [(r0, .inr (0, [.ref ax, .ref ay, .int (nI n)])), (ax, .inl (cI, cap, .inl xs)), (ay, .inl (cI, cap, .inl ys))] s.heap := hP
  have hl := lv_entry ([.ref r0, .int i]) (n := 2) (Nat.le_of_ble_eq_true rfl)
  rw [lg_entry_eq]
  generalize (lg_sl ([.ref r0, .int i]) ++ List.replicate (2 - (lg_sl ([.ref r0, .int i])).length) Slot.unset).toArray = ls at hl ⊢
  have hl : lv_has ls 2 [(0, .ref r0), (1, .int i)] := hl
  refine lv_iload_n hx hb dX0_has_0 rfl (lv_at hl 1 rfl) ?_
  refine lv_if_lt (tgt := 16) hx hb dX0_has_1 (by decide) (fun c1 => ?_) (fun c1 => ?_)
  · skip
    refine lv_iconst (v := 0) hx hb dX0_has_16 (by decide) ?_
    exact W.zret (v := 0) hx hb hr rfl (fun t ht _ => ⟨oI (bI_ff (decide_eq_false (fun h => h.1 c1))), ht⟩) (fun _ h => absurd h List.not_mem_nil) dX0_has_17
  · skip
    refine lv_iload_n hx hb dX0_has_4 rfl (lv_at hl 1 rfl) ?_
    refine lv_aload_n hx hb dX0_has_5 rfl (lv_at hl 0 rfl) ?_
    refine va_get (D := D) (ci := 0) (v := .int (nI n)) (C := RX0) (T := TX0) (N := 3) hx hb hts nX0_has_X0 hown hK.1 hP 0 rfl rfl 2 (by decide) (hts (.fieldLink RX0 16 "PolygonFrame$Ring" "count" "I") (by decide +kernel)) (fun _ h9 => h9) rfl dX0_has_6 ?_
    refine lv_icmp_ge (tgt := 16) hx hb dX0_has_9 (by decide) (fun c9 => ?_) (fun c9 => ?_)
    · skip
      refine lv_iconst (v := 0) hx hb dX0_has_16 (by decide) ?_
      exact W.zret (v := 0) hx hb hr rfl (fun t ht _ => ⟨oI (bI_ff (decide_eq_false (fun h => h.2 c9))), ht⟩) (fun _ h => absurd h List.not_mem_nil) dX0_has_17
    · skip
      refine lv_iconst (v := 1) hx hb dX0_has_12 (by decide) ?_
      refine lv_goto (tgt := 17) hx hb dX0_has_13 (by decide) ?_
      exact W.zret (v := 1) hx hb hr rfl (fun t ht _ => ⟨oI (bI_tt (decide_eq_true ⟨c1, c9⟩)), ht⟩) (fun _ h => absurd h List.not_mem_nil) dX0_has_17
theorem nX0_nextOf_X0 : ∀ w ∈ wsX00, w ∈ wsX0_nextOf := fun w h => List.mem_cons_of_mem _ (List.mem_append_right _ h)
set_option maxHeartbeats 4000000 in
set_option maxRecDepth 100000 in
theorem kX0_nextOf (l : Launch) (D : va_G) (cI cZ : ClassId) (r0 ax ay n cap k : Nat) (xs ys : Nat → Int32) (hk : k < n) (hn : n ≤ cap) (hc : cap ≤ 60) : Met l yX0_nextOf wsX0_nextOf ({ frames := 0, cells := 0, slots := 0, locals := 0 }) (va_Pc [.ref r0, .int (nI k)] (rdP D cI cZ [(r0, .inr (0, [.ref ax, .ref ay, .int (nI n)])), (ax, .inl (cI, cap, .inl xs)), (ay, .inl (cI, cap, .inl ys))])) (QcRead (nI (nxN n k))) 0 0 (fun _ => False) := by
  refine Met.ofW (cc := cX0_nextOf) (maxL := 2) (ret := (some .int)) (by decide) rfl ?_
  intro p e s m args below meth c s₁ B hml hv
  obtain ⟨rfl, hP, hK⟩ := hv
  have hx := B.exec
  have hb := B.bytes
  have hr := B.returns
  have hts := atoms_spec (ws := wsX0_nextOf) B.pre
  have hown : s.vm.findClass RX0 = some m.cls := findClass_of_methodNamed B.named
  have hlocks := B.notSynchronized
  have hP : va_P D vwCl [(r0, .inr (0, [.ref ax, .ref ay, .int (nI n)])), (ax, .inl (cI, cap, .inl xs)), (ay, .inl (cI, cap, .inl ys))] s.heap := hP
  have hl := lv_entry ([.ref r0, .int (nI k)]) (n := 2) (Nat.le_of_ble_eq_true rfl)
  rw [lg_entry_eq]
  generalize (lg_sl ([.ref r0, .int (nI k)]) ++ List.replicate (2 - (lg_sl ([.ref r0, .int (nI k)])).length) Slot.unset).toArray = ls at hl ⊢
  have hl : lv_has ls 2 [(0, .ref r0), (1, .int (nI k))] := hl
  refine lv_iload_n hx hb dX0_nextOf_0 rfl (lv_at hl 1 rfl) ?_
  refine lv_iconst (v := 1) hx hb dX0_nextOf_1 (by decide) ?_
  refine lv_iadd hx hb dX0_nextOf_2 ?_
  refine q_eq (nI_1 _) ?_
  refine lv_aload_n hx hb dX0_nextOf_3 rfl (lv_at hl 0 rfl) ?_
  refine va_get (D := D) (ci := 0) (v := .int (nI n)) (C := RX0) (T := TX0) (N := 3) hx hb hts nX0_nextOf_X0 hown hK.1 hP 0 rfl rfl 2 (by decide) (hts (.fieldLink RX0 16 "PolygonFrame$Ring" "count" "I") (by decide +kernel)) (fun _ h9 => h9) rfl dX0_nextOf_4 ?_
  refine lv_icmp_ge (tgt := 16) hx hb dX0_nextOf_7 (by decide) (fun c7 => ?_) (fun c7 => ?_)
  · skip
    refine lv_iconst (v := 0) hx hb dX0_nextOf_16 (by decide) ?_
    exact W.iret (v := 0) hx hb hr (fun t ht _ => ⟨oI (by rw [nxN, if_neg (Nat.not_lt.mpr ((nI_leI (by omega) (by omega)).mp c7))]; rfl), ht⟩) (fun _ h => absurd h List.not_mem_nil) dX0_nextOf_17
  · skip
    refine lv_iload_n hx hb dX0_nextOf_10 rfl (lv_at hl 1 rfl) ?_
    refine lv_iconst (v := 1) hx hb dX0_nextOf_11 (by decide) ?_
    refine lv_iadd hx hb dX0_nextOf_12 ?_
    refine q_eq (nI_1 _) ?_
    refine lv_goto (tgt := 17) hx hb dX0_nextOf_13 (by decide) ?_
    exact W.iret (v := (nI (k + 1))) hx hb hr (fun t ht _ => ⟨oI (by rw [nxN, if_pos (Nat.lt_of_not_le (fun h => c7 (nI_le h (by omega))))]), ht⟩) (fun _ h => absurd h List.not_mem_nil) dX0_nextOf_17
theorem nX0_edgeMeets_X0 : ∀ w ∈ wsX00, w ∈ wsX0_edgeMeets := fun w h => List.mem_cons_of_mem _ (List.mem_append_right _ h)
set_option maxHeartbeats 4000000 in
set_option maxRecDepth 100000 in
theorem kX0_edgeMeets (l : Launch) (D : va_G) (cI cZ : ClassId) (r0 ax ay n cap k : Nat) (xs ys : Nat → Int32) (y : Int32) (hk : k < n) (hn : n ≤ cap) (hc : cap ≤ 60) : Met l yX0_edgeMeets wsX0_edgeMeets ({ frames := 1, cells := 0, slots := 0, locals := 21 }) (va_Pc [.ref r0, .int (nI k), .int y] (rdP D cI cZ [(r0, .inr (0, [.ref ax, .ref ay, .int (nI n)])), (ax, .inl (cI, cap, .inl xs)), (ay, .inl (cI, cap, .inl ys))])) (QcRead (bI (emB ys n k y))) 0 0 (fun _ => False) := by
  refine Met.ofW (cc := cX0_edgeMeets) (maxL := 3) (ret := (some .boolean)) (by decide) rfl ?_
  intro p e s m args below meth c s₁ B hml hv
  obtain ⟨rfl, hP, hK⟩ := hv
  have hx := B.exec
  have hb := B.bytes
  have hr := B.returns
  have hts := atoms_spec (ws := wsX0_edgeMeets) B.pre
  have hown : s.vm.findClass RX0 = some m.cls := findClass_of_methodNamed B.named
  have hlocks := B.notSynchronized
  have hP : va_P D vwCl [(r0, .inr (0, [.ref ax, .ref ay, .int (nI n)])), (ax, .inl (cI, cap, .inl xs)), (ay, .inl (cI, cap, .inl ys))] s.heap := hP
  have hl := lv_entry ([.ref r0, .int (nI k), .int y]) (n := 3) (Nat.le_of_ble_eq_true rfl)
  rw [lg_entry_eq]
  generalize (lg_sl ([.ref r0, .int (nI k), .int y]) ++ List.replicate (3 - (lg_sl ([.ref r0, .int (nI k), .int y])).length) Slot.unset).toArray = ls at hl ⊢
  have hl : lv_has ls 3 [(0, .ref r0), (1, .int (nI k)), (2, .int y)] := hl
  refine lv_aload_n hx hb dX0_edgeMeets_0 rfl (lv_at hl 0 rfl) ?_
  refine va_get (D := D) (ci := 0) (v := .ref ay) (C := RX0) (T := TX0) (N := 3) hx hb hts nX0_edgeMeets_X0 hown hK.1 hP 0 rfl rfl 1 (by decide) (hts (.fieldLink RX0 13 "PolygonFrame$Ring" "ys" "[I") (by decide +kernel)) (fun _ h9 => h9) rfl dX0_edgeMeets_1 ?_
  refine lv_iload_n hx hb dX0_edgeMeets_4 rfl (lv_at hl 1 rfl) ?_
  refine q_iald (k := k) hx hb hK.1 hP 2 0 rfl rfl (by omega) (by omega) dX0_edgeMeets_5 ?_
  refine lv_iload_n hx hb dX0_edgeMeets_6 rfl (lv_at hl 2 rfl) ?_
  refine lv_icmp_gt (tgt := 14) hx hb dX0_edgeMeets_7 (by decide) (fun c7 => ?_) (fun c7 => ?_)
  · skip
    refine lv_iconst (v := 0) hx hb dX0_edgeMeets_14 (by decide) ?_
    refine lv_aload_n hx hb dX0_edgeMeets_15 rfl (lv_at hl 0 rfl) ?_
    refine va_get (D := D) (ci := 0) (v := .ref ay) (C := RX0) (T := TX0) (N := 3) hx hb hts nX0_edgeMeets_X0 hown hK.1 hP 0 rfl rfl 1 (by decide) (hts (.fieldLink RX0 13 "PolygonFrame$Ring" "ys" "[I") (by decide +kernel)) (fun _ h9 => h9) rfl dX0_edgeMeets_16 ?_
    refine lv_aload_n hx hb dX0_edgeMeets_19 rfl (lv_at hl 0 rfl) ?_
    refine lv_iload_n hx hb dX0_edgeMeets_20 rfl (lv_at hl 1 rfl) ?_
    refine rd_i (va_runV (As := [.int (nI k)]) ⟨hx, hb, hml, hown, hts⟩ (kX0_nextOf l D cI cZ r0 ax ay n cap k xs ys hk hn hc) (cwV 1 hts gX0_edgeMeets_X0_nextOf rfl rfl rfl (by decide +kernel) ⟨Nat.le_of_ble_eq_true rfl, Nat.le_of_ble_eq_true rfl⟩) (rd_preV (ci := 0) (q0 := 0) (hP.sub [0, 1, 2] rfl) hK rfl rfl) rfl rfl hl.1 rfl (lv_room (Nat.le_of_ble_eq_true rfl)) dX0_edgeMeets_21 ⟨Nat.zero_le _, Nat.zero_le _⟩) ?_
    refine q_iald (k := (nxN n k)) hx hb hK.1 hP 2 0 rfl rfl (Nat.lt_of_lt_of_le (nxN_lt hk) hn) (by omega) dX0_edgeMeets_24 ?_
    refine lv_iload_n hx hb dX0_edgeMeets_25 rfl (lv_at hl 2 rfl) ?_
    refine lv_icmp_gt (tgt := 33) hx hb dX0_edgeMeets_26 (by decide) (fun c26 => ?_) (fun c26 => ?_)
    · skip
      refine lv_iconst (v := 0) hx hb dX0_edgeMeets_33 (by decide) ?_
      refine lv_icmp_eq (tgt := 41) hx hb dX0_edgeMeets_34 (by decide) (fun c34 => ?_) (fun c34 => absurd (by decide) c34)
      refine lv_iconst (v := 0) hx hb dX0_edgeMeets_41 (by decide) ?_
      exact W.zret (v := 0) hx hb hr rfl (fun t ht _ => ⟨oI (by rw [emB, decide_eq_true c7, decide_eq_true c26]; rfl), ht⟩) (fun _ h => absurd h List.not_mem_nil) dX0_edgeMeets_42
    · skip
      refine lv_iconst (v := 1) hx hb dX0_edgeMeets_29 (by decide) ?_
      refine lv_goto (tgt := 34) hx hb dX0_edgeMeets_30 (by decide) ?_
      refine lv_icmp_eq (tgt := 41) hx hb dX0_edgeMeets_34 (by decide) (fun c34 => absurd c34 (by decide)) (fun c34 => ?_)
      refine lv_iconst (v := 1) hx hb dX0_edgeMeets_37 (by decide) ?_
      refine lv_goto (tgt := 42) hx hb dX0_edgeMeets_38 (by decide) ?_
      exact W.zret (v := 1) hx hb hr rfl (fun t ht _ => ⟨oI (by rw [emB, decide_eq_true c7, decide_eq_false c26]; rfl), ht⟩) (fun _ h => absurd h List.not_mem_nil) dX0_edgeMeets_42
  · skip
    refine lv_iconst (v := 1) hx hb dX0_edgeMeets_10 (by decide) ?_
    refine lv_goto (tgt := 15) hx hb dX0_edgeMeets_11 (by decide) ?_
    refine lv_aload_n hx hb dX0_edgeMeets_15 rfl (lv_at hl 0 rfl) ?_
    refine va_get (D := D) (ci := 0) (v := .ref ay) (C := RX0) (T := TX0) (N := 3) hx hb hts nX0_edgeMeets_X0 hown hK.1 hP 0 rfl rfl 1 (by decide) (hts (.fieldLink RX0 13 "PolygonFrame$Ring" "ys" "[I") (by decide +kernel)) (fun _ h9 => h9) rfl dX0_edgeMeets_16 ?_
    refine lv_aload_n hx hb dX0_edgeMeets_19 rfl (lv_at hl 0 rfl) ?_
    refine lv_iload_n hx hb dX0_edgeMeets_20 rfl (lv_at hl 1 rfl) ?_
    refine rd_i (va_runV (As := [.int (nI k)]) ⟨hx, hb, hml, hown, hts⟩ (kX0_nextOf l D cI cZ r0 ax ay n cap k xs ys hk hn hc) (cwV 1 hts gX0_edgeMeets_X0_nextOf rfl rfl rfl (by decide +kernel) ⟨Nat.le_of_ble_eq_true rfl, Nat.le_of_ble_eq_true rfl⟩) (rd_preV (ci := 0) (q0 := 0) (hP.sub [0, 1, 2] rfl) hK rfl rfl) rfl rfl hl.1 rfl (lv_room (Nat.le_of_ble_eq_true rfl)) dX0_edgeMeets_21 ⟨Nat.zero_le _, Nat.zero_le _⟩) ?_
    refine q_iald (k := (nxN n k)) hx hb hK.1 hP 2 0 rfl rfl (Nat.lt_of_lt_of_le (nxN_lt hk) hn) (by omega) dX0_edgeMeets_24 ?_
    refine lv_iload_n hx hb dX0_edgeMeets_25 rfl (lv_at hl 2 rfl) ?_
    refine lv_icmp_gt (tgt := 33) hx hb dX0_edgeMeets_26 (by decide) (fun c26 => ?_) (fun c26 => ?_)
    · skip
      refine lv_iconst (v := 0) hx hb dX0_edgeMeets_33 (by decide) ?_
      refine lv_icmp_eq (tgt := 41) hx hb dX0_edgeMeets_34 (by decide) (fun c34 => absurd c34 (by decide)) (fun c34 => ?_)
      refine lv_iconst (v := 1) hx hb dX0_edgeMeets_37 (by decide) ?_
      refine lv_goto (tgt := 42) hx hb dX0_edgeMeets_38 (by decide) ?_
      exact W.zret (v := 1) hx hb hr rfl (fun t ht _ => ⟨oI (by rw [emB, decide_eq_false c7, decide_eq_true c26]; rfl), ht⟩) (fun _ h => absurd h List.not_mem_nil) dX0_edgeMeets_42
    · skip
      refine lv_iconst (v := 1) hx hb dX0_edgeMeets_29 (by decide) ?_
      refine lv_goto (tgt := 34) hx hb dX0_edgeMeets_30 (by decide) ?_
      refine lv_icmp_eq (tgt := 41) hx hb dX0_edgeMeets_34 (by decide) (fun c34 => ?_) (fun c34 => absurd (by decide) c34)
      refine lv_iconst (v := 0) hx hb dX0_edgeMeets_41 (by decide) ?_
      exact W.zret (v := 0) hx hb hr rfl (fun t ht _ => ⟨oI (by rw [emB, decide_eq_false c7, decide_eq_false c26]; rfl), ht⟩) (fun _ h => absurd h List.not_mem_nil) dX0_edgeMeets_42
theorem nX0_crossingUpwards_X0 : ∀ w ∈ wsX00, w ∈ wsX0_crossingUpwards := fun w h => List.mem_cons_of_mem _ (List.mem_append_right _ h)
set_option maxHeartbeats 4000000 in
set_option maxRecDepth 100000 in
theorem kX0_crossingUpwards (l : Launch) (D : va_G) (cI cZ : ClassId) (r0 ax ay n cap k : Nat) (xs ys : Nat → Int32) (y : Int32) (hk : k < n) (hn : n ≤ cap) (hc : cap ≤ 60) (h0 : ¬ ys (nxN n k) - ys k = 0) : Met l yX0_crossingUpwards wsX0_crossingUpwards ({ frames := 1, cells := 0, slots := 0, locals := 22 }) (va_Pc [.ref r0, .int (nI k), .int y] (rdP D cI cZ [(r0, .inr (0, [.ref ax, .ref ay, .int (nI n)])), (ax, .inl (cI, cap, .inl xs)), (ay, .inl (cI, cap, .inl ys))])) (QcRead (cuI xs ys n k y)) 0 0 (fun _ => False) := by
  refine Met.ofW (cc := cX0_crossingUpwards) (maxL := 4) (ret := (some .int)) (by decide) rfl ?_
  intro p e s m args below meth c s₁ B hml hv
  obtain ⟨rfl, hP, hK⟩ := hv
  have hx := B.exec
  have hb := B.bytes
  have hr := B.returns
  have hts := atoms_spec (ws := wsX0_crossingUpwards) B.pre
  have hown : s.vm.findClass RX0 = some m.cls := findClass_of_methodNamed B.named
  have hlocks := B.notSynchronized
  have hP : va_P D vwCl [(r0, .inr (0, [.ref ax, .ref ay, .int (nI n)])), (ax, .inl (cI, cap, .inl xs)), (ay, .inl (cI, cap, .inl ys))] s.heap := hP
  have hl := lv_entry ([.ref r0, .int (nI k), .int y]) (n := 4) (Nat.le_of_ble_eq_true rfl)
  rw [lg_entry_eq]
  generalize (lg_sl ([.ref r0, .int (nI k), .int y]) ++ List.replicate (4 - (lg_sl ([.ref r0, .int (nI k), .int y])).length) Slot.unset).toArray = ls at hl ⊢
  have hl : lv_has ls 4 [(0, .ref r0), (1, .int (nI k)), (2, .int y)] := hl
  refine lv_aload_n hx hb dX0_crossingUpwards_0 rfl (lv_at hl 0 rfl) ?_
  refine lv_iload_n hx hb dX0_crossingUpwards_1 rfl (lv_at hl 1 rfl) ?_
  refine rd_i (va_runV (As := [.int (nI k)]) ⟨hx, hb, hml, hown, hts⟩ (kX0_nextOf l D cI cZ r0 ax ay n cap k xs ys hk hn hc) (cwV 1 hts gX0_crossingUpwards_X0_nextOf rfl rfl rfl (by decide +kernel) ⟨Nat.le_of_ble_eq_true rfl, Nat.le_of_ble_eq_true rfl⟩) (rd_preV (ci := 0) (q0 := 0) (hP.sub [0, 1, 2] rfl) hK rfl rfl) rfl rfl hl.1 rfl (lv_room (Nat.le_of_ble_eq_true rfl)) dX0_crossingUpwards_2 ⟨Nat.zero_le _, Nat.zero_le _⟩) ?_
  refine lv_istore_n (lv' := [(3, .int (nI (nxN n k))), (0, .ref r0), (1, .int (nI k)), (2, .int y)]) hx hb dX0_crossingUpwards_5 rfl hl (by decide) rfl (fun ls hl => ?_)
  refine lv_aload_n hx hb dX0_crossingUpwards_6 rfl (lv_at hl 1 rfl) ?_
  refine va_get (D := D) (ci := 0) (v := .ref ax) (C := RX0) (T := TX0) (N := 3) hx hb hts nX0_crossingUpwards_X0 hown hK.1 hP 0 rfl rfl 0 (by decide) (hts (.fieldLink RX0 7 "PolygonFrame$Ring" "xs" "[I") (by decide +kernel)) (fun _ h9 => h9) rfl dX0_crossingUpwards_7 ?_
  refine lv_iload_n hx hb dX0_crossingUpwards_10 rfl (lv_at hl 2 rfl) ?_
  refine q_iald (k := k) hx hb hK.1 hP 1 0 rfl rfl (by omega) (by omega) dX0_crossingUpwards_11 ?_
  refine lv_aload_n hx hb dX0_crossingUpwards_12 rfl (lv_at hl 1 rfl) ?_
  refine va_get (D := D) (ci := 0) (v := .ref ax) (C := RX0) (T := TX0) (N := 3) hx hb hts nX0_crossingUpwards_X0 hown hK.1 hP 0 rfl rfl 0 (by decide) (hts (.fieldLink RX0 7 "PolygonFrame$Ring" "xs" "[I") (by decide +kernel)) (fun _ h9 => h9) rfl dX0_crossingUpwards_13 ?_
  refine lv_iload_n hx hb dX0_crossingUpwards_16 rfl (lv_at hl 2 rfl) ?_
  refine q_iald (k := k) hx hb hK.1 hP 1 0 rfl rfl (by omega) (by omega) dX0_crossingUpwards_17 ?_
  refine lv_aload_n hx hb dX0_crossingUpwards_18 rfl (lv_at hl 1 rfl) ?_
  refine va_get (D := D) (ci := 0) (v := .ref ax) (C := RX0) (T := TX0) (N := 3) hx hb hts nX0_crossingUpwards_X0 hown hK.1 hP 0 rfl rfl 0 (by decide) (hts (.fieldLink RX0 7 "PolygonFrame$Ring" "xs" "[I") (by decide +kernel)) (fun _ h9 => h9) rfl dX0_crossingUpwards_19 ?_
  refine lv_iload_n hx hb dX0_crossingUpwards_22 rfl (lv_at hl 0 rfl) ?_
  refine q_iald (k := (nxN n k)) hx hb hK.1 hP 1 0 rfl rfl (Nat.lt_of_lt_of_le (nxN_lt hk) hn) (by omega) dX0_crossingUpwards_23 ?_
  refine lv_isub hx hb dX0_crossingUpwards_24 ?_
  refine lv_iload_n hx hb dX0_crossingUpwards_25 rfl (lv_at hl 3 rfl) ?_
  refine lv_aload_n hx hb dX0_crossingUpwards_26 rfl (lv_at hl 1 rfl) ?_
  refine va_get (D := D) (ci := 0) (v := .ref ay) (C := RX0) (T := TX0) (N := 3) hx hb hts nX0_crossingUpwards_X0 hown hK.1 hP 0 rfl rfl 1 (by decide) (hts (.fieldLink RX0 13 "PolygonFrame$Ring" "ys" "[I") (by decide +kernel)) (fun _ h9 => h9) rfl dX0_crossingUpwards_27 ?_
  refine lv_iload_n hx hb dX0_crossingUpwards_30 rfl (lv_at hl 2 rfl) ?_
  refine q_iald (k := k) hx hb hK.1 hP 2 0 rfl rfl (by omega) (by omega) dX0_crossingUpwards_31 ?_
  refine lv_isub hx hb dX0_crossingUpwards_32 ?_
  refine lv_imul hx hb dX0_crossingUpwards_33 ?_
  refine lv_aload_n hx hb dX0_crossingUpwards_34 rfl (lv_at hl 1 rfl) ?_
  refine va_get (D := D) (ci := 0) (v := .ref ay) (C := RX0) (T := TX0) (N := 3) hx hb hts nX0_crossingUpwards_X0 hown hK.1 hP 0 rfl rfl 1 (by decide) (hts (.fieldLink RX0 13 "PolygonFrame$Ring" "ys" "[I") (by decide +kernel)) (fun _ h9 => h9) rfl dX0_crossingUpwards_35 ?_
  refine lv_iload_n hx hb dX0_crossingUpwards_38 rfl (lv_at hl 0 rfl) ?_
  refine q_iald (k := (nxN n k)) hx hb hK.1 hP 2 0 rfl rfl (Nat.lt_of_lt_of_le (nxN_lt hk) hn) (by omega) dX0_crossingUpwards_39 ?_
  refine lv_aload_n hx hb dX0_crossingUpwards_40 rfl (lv_at hl 1 rfl) ?_
  refine va_get (D := D) (ci := 0) (v := .ref ay) (C := RX0) (T := TX0) (N := 3) hx hb hts nX0_crossingUpwards_X0 hown hK.1 hP 0 rfl rfl 1 (by decide) (hts (.fieldLink RX0 13 "PolygonFrame$Ring" "ys" "[I") (by decide +kernel)) (fun _ h9 => h9) rfl dX0_crossingUpwards_41 ?_
  refine lv_iload_n hx hb dX0_crossingUpwards_44 rfl (lv_at hl 2 rfl) ?_
  refine q_iald (k := k) hx hb hK.1 hP 2 0 rfl rfl (by omega) (by omega) dX0_crossingUpwards_45 ?_
  refine lv_isub hx hb dX0_crossingUpwards_46 ?_
  refine rd_i (va_runS (As := [.int (((xs k) - (xs (nxN n k))) * (y - (ys k))), .int ((ys (nxN n k)) - (ys k))]) ⟨hx, hb, hml, hown, hts⟩ (kJ9_floorDiv_7cf53 l D cI cZ (((xs k) - (xs (nxN n k))) * (y - (ys k))) ((ys (nxN n k)) - (ys k)) h0) (va_cwS 2 hts gX0_crossingUpwards_J9_floorDiv_7cf53 rfl rfl rfl (by decide +kernel) ⟨Nat.le_of_ble_eq_true rfl, Nat.le_of_ble_eq_true rfl⟩) rd_pre0 rfl rfl hl.1 rfl (lv_room (Nat.le_of_ble_eq_true rfl)) dX0_crossingUpwards_47 ⟨Nat.zero_le _, Nat.zero_le _⟩) ?_
  refine lv_isub hx hb dX0_crossingUpwards_50 ?_
  exact W.iret (v := ((xs k) - (fl_i (((xs k) - (xs (nxN n k))) * (y - (ys k))) ((ys (nxN n k)) - (ys k))))) hx hb hr (fun t ht _ => ⟨rfl, ht⟩) (fun _ h => absurd h List.not_mem_nil) dX0_crossingUpwards_51
theorem nX0_axis_X0 : ∀ w ∈ wsX00, w ∈ wsX0_axis := fun w h => List.mem_cons_of_mem _ (List.mem_append_right _ h)
set_option maxHeartbeats 4000000 in
set_option maxRecDepth 100000 in
theorem kX0_axis (l : Launch) (D : va_G) (cI cZ : ClassId) (r0 ax ay n cap : Nat) (xs ys : Nat → Int32) (b : Bool)  : Met l yX0_axis wsX0_axis ({ frames := 0, cells := 0, slots := 0, locals := 0 }) (va_Pc [.ref r0, .int (bI b)] (rdP D cI cZ [(r0, .inr (0, [.ref ax, .ref ay, .int (nI n)])), (ax, .inl (cI, cap, .inl xs)), (ay, .inl (cI, cap, .inl ys))])) (rdR (if b then ax else ay)) 0 0 (fun _ => False) := by
  refine Met.ofW (cc := cX0_axis) (maxL := 2) (ret := (some (.array .int))) (by decide) rfl ?_
  intro p e s m args below meth c s₁ B hml hv
  obtain ⟨rfl, hP, hK⟩ := hv
  have hx := B.exec
  have hb := B.bytes
  have hr := B.returns
  have hts := atoms_spec (ws := wsX0_axis) B.pre
  have hown : s.vm.findClass RX0 = some m.cls := findClass_of_methodNamed B.named
  have hlocks := B.notSynchronized
  have hP : va_P D vwCl [(r0, .inr (0, [.ref ax, .ref ay, .int (nI n)])), (ax, .inl (cI, cap, .inl xs)), (ay, .inl (cI, cap, .inl ys))] s.heap := hP
  have hl := lv_entry ([.ref r0, .int (bI b)]) (n := 2) (Nat.le_of_ble_eq_true rfl)
  rw [lg_entry_eq]
  generalize (lg_sl ([.ref r0, .int (bI b)]) ++ List.replicate (2 - (lg_sl ([.ref r0, .int (bI b)])).length) Slot.unset).toArray = ls at hl ⊢
  have hl : lv_has ls 2 [(0, .ref r0), (1, .int (bI b))] := hl
  refine lv_iload_n hx hb dX0_axis_0 rfl (lv_at hl 1 rfl) ?_
  refine lv_if_eq (tgt := 11) hx hb dX0_axis_1 (by decide) (fun c1 => ?_) (fun c1 => ?_)
  · skip
    refine lv_aload_n hx hb dX0_axis_11 rfl (lv_at hl 0 rfl) ?_
    refine va_get (D := D) (ci := 0) (v := .ref ay) (C := RX0) (T := TX0) (N := 3) hx hb hts nX0_axis_X0 hown hK.1 hP 0 rfl rfl 1 (by decide) (hts (.fieldLink RX0 13 "PolygonFrame$Ring" "ys" "[I") (by decide +kernel)) (fun _ h9 => h9) rfl dX0_axis_12 ?_
    exact W.aret (v := .ref ay) hx hb hr (Or.inr ⟨_, rfl⟩) (Or.inr ⟨_, rfl⟩) (fun t ht _ => ⟨by rw [bI_eq0.mp c1]; rfl, ht⟩) (fun _ h => absurd h List.not_mem_nil) dX0_axis_15
  · skip
    refine lv_aload_n hx hb dX0_axis_4 rfl (lv_at hl 0 rfl) ?_
    refine va_get (D := D) (ci := 0) (v := .ref ax) (C := RX0) (T := TX0) (N := 3) hx hb hts nX0_axis_X0 hown hK.1 hP 0 rfl rfl 0 (by decide) (hts (.fieldLink RX0 7 "PolygonFrame$Ring" "xs" "[I") (by decide +kernel)) (fun _ h9 => h9) rfl dX0_axis_5 ?_
    refine lv_goto (tgt := 15) hx hb dX0_axis_8 (by decide) ?_
    exact W.aret (v := .ref ax) hx hb hr (Or.inr ⟨_, rfl⟩) (Or.inr ⟨_, rfl⟩) (fun t ht _ => ⟨by rw [bI_ne c1]; rfl, ht⟩) (fun _ h => absurd h List.not_mem_nil) dX0_axis_15
theorem nX1_isGood_X1 : ∀ w ∈ wsX10, w ∈ wsX1_isGood := fun w h => List.mem_cons_of_mem _ (List.mem_append_right _ h)
set_option maxHeartbeats 4000000 in
set_option maxRecDepth 100000 in
theorem kX1_isGood (l : Launch) (D : va_G) (cI cZ : ClassId) (p0 aC aT aS rP rO rE : Nat) (wd hg : Int32) (sd : Nat → Int32) (v : Int32) (k : Nat) (hk : k < 4) : Met l yX1_isGood wsX1_isGood ({ frames := 0, cells := 0, slots := 0, locals := 0 }) (va_Pc [.ref p0, .int v, .int (nI k)] (rdP D cI cZ [(p0, .inr (1, [.int wd, .int hg, .ref aC, .ref aT, .ref aS, .ref rP, .ref rO, .ref rE])), (aS, .inl (cI, 4, .inl sd))])) (QcRead (bI (gdB k v (sd k)))) 0 0 (fun _ => False) := by
  refine Met.ofW (cc := cX1_isGood) (maxL := 3) (ret := (some .boolean)) (by decide) rfl ?_
  intro p e s m args below meth c s₁ B hml hv
  obtain ⟨rfl, hP, hK⟩ := hv
  have hx := B.exec
  have hb := B.bytes
  have hr := B.returns
  have hts := atoms_spec (ws := wsX1_isGood) B.pre
  have hown : s.vm.findClass RX1 = some m.cls := findClass_of_methodNamed B.named
  have hlocks := B.notSynchronized
  have hP : va_P D vwCl [(p0, .inr (1, [.int wd, .int hg, .ref aC, .ref aT, .ref aS, .ref rP, .ref rO, .ref rE])), (aS, .inl (cI, 4, .inl sd))] s.heap := hP
  have hl := lv_entry ([.ref p0, .int v, .int (nI k)]) (n := 3) (Nat.le_of_ble_eq_true rfl)
  rw [lg_entry_eq]
  generalize (lg_sl ([.ref p0, .int v, .int (nI k)]) ++ List.replicate (3 - (lg_sl ([.ref p0, .int v, .int (nI k)])).length) Slot.unset).toArray = ls at hl ⊢
  have hl : lv_has ls 3 [(0, .ref p0), (1, .int v), (2, .int (nI k))] := hl
  refine lv_iload_n hx hb dX1_isGood_0 rfl (lv_at hl 2 rfl) ?_
  refine lv_iconst (v := 2) hx hb dX1_isGood_1 (by decide) ?_
  refine lv_irem hx hb dX1_isGood_2 (by decide) ?_
  refine q_eq (pk_rem (a := k) (d := 2) (by omega) (by decide) (by decide)) ?_
  refine lv_if_ne (tgt := 24) hx hb dX1_isGood_3 (by decide) (fun c3 => ?_) (fun c3 => ?_)
  · skip
    refine lv_iload_n hx hb dX1_isGood_24 rfl (lv_at hl 1 rfl) ?_
    refine lv_aload_n hx hb dX1_isGood_25 rfl (lv_at hl 0 rfl) ?_
    refine va_get (D := D) (ci := 1) (v := .ref aS) (C := RX1) (T := TX1) (N := 8) hx hb hts nX1_isGood_X1 hown hK.1 hP 0 rfl rfl 4 (by decide) (hts (.fieldLink RX1 28 "PolygonFrame" "sides" "[I") (by decide +kernel)) (fun _ h9 => h9) rfl dX1_isGood_26 ?_
    refine lv_iload_n hx hb dX1_isGood_29 rfl (lv_at hl 2 rfl) ?_
    refine q_iald (k := k) hx hb hK.1 hP 1 0 rfl rfl (by omega) (by omega) dX1_isGood_30 ?_
    refine lv_icmp_gt (tgt := 38) hx hb dX1_isGood_31 (by decide) (fun c31 => ?_) (fun c31 => ?_)
    · skip
      refine lv_iconst (v := 0) hx hb dX1_isGood_38 (by decide) ?_
      exact W.zret (v := 0) hx hb hr rfl (fun t ht _ => ⟨oI (by rw [gdB, if_neg (fun h => c3 (by rw [h]; rfl)), decide_eq_false (fun h => h c31)]; rfl), ht⟩) (fun _ h => absurd h List.not_mem_nil) dX1_isGood_39
    · skip
      refine lv_iconst (v := 1) hx hb dX1_isGood_34 (by decide) ?_
      refine lv_goto (tgt := 39) hx hb dX1_isGood_35 (by decide) ?_
      exact W.zret (v := 1) hx hb hr rfl (fun t ht _ => ⟨oI (by rw [gdB, if_neg (fun h => c3 (by rw [h]; rfl)), decide_eq_true c31]; rfl), ht⟩) (fun _ h => absurd h List.not_mem_nil) dX1_isGood_39
  · skip
    refine lv_iload_n hx hb dX1_isGood_6 rfl (lv_at hl 1 rfl) ?_
    refine lv_aload_n hx hb dX1_isGood_7 rfl (lv_at hl 0 rfl) ?_
    refine va_get (D := D) (ci := 1) (v := .ref aS) (C := RX1) (T := TX1) (N := 8) hx hb hts nX1_isGood_X1 hown hK.1 hP 0 rfl rfl 4 (by decide) (hts (.fieldLink RX1 28 "PolygonFrame" "sides" "[I") (by decide +kernel)) (fun _ h9 => h9) rfl dX1_isGood_8 ?_
    refine lv_iload_n hx hb dX1_isGood_11 rfl (lv_at hl 2 rfl) ?_
    refine q_iald (k := k) hx hb hK.1 hP 1 0 rfl rfl (by omega) (by omega) dX1_isGood_12 ?_
    refine lv_icmp_lt (tgt := 20) hx hb dX1_isGood_13 (by decide) (fun c13 => ?_) (fun c13 => ?_)
    · skip
      refine lv_iconst (v := 0) hx hb dX1_isGood_20 (by decide) ?_
      refine lv_goto (tgt := 39) hx hb dX1_isGood_21 (by decide) ?_
      exact W.zret (v := 0) hx hb hr rfl (fun t ht _ => ⟨oI (by rw [gdB, if_pos ((nI_eq (a := k % 2) (b := 0) (by omega) (by decide)).mp c3), decide_eq_false (fun h => h c13)]; rfl), ht⟩) (fun _ h => absurd h List.not_mem_nil) dX1_isGood_39
    · skip
      refine lv_iconst (v := 1) hx hb dX1_isGood_16 (by decide) ?_
      refine lv_goto (tgt := 39) hx hb dX1_isGood_17 (by decide) ?_
      exact W.zret (v := 1) hx hb hr rfl (fun t ht _ => ⟨oI (by rw [gdB, if_pos ((nI_eq (a := k % 2) (b := 0) (by omega) (by decide)).mp c3), decide_eq_true c13]; rfl), ht⟩) (fun _ h => absurd h List.not_mem_nil) dX1_isGood_39
end
section
/-! READERS of the frame and of the reference. -/
theorem sub0 {a b : Int32} (h : a - b = 0) : a = b := by
  have h2 : a - b + b = 0 + b := by rw [h]
  rwa [Int32.sub_add_cancel, Int32.zero_add] at h2
def vxI (xs : Nat → Int32) (n : Nat) (i : Int32) : Int32 := if hsB i (nI n) = true then xs i.toNatClampNeg else (-32768)
theorem hs_ix {i : Int32} {n : Nat} (hn : n ≤ 60) (h : hsB i (nI n) = true) : ∃ j : Nat, j < n ∧ i = nI j := by
  have h2 := of_decide_eq_true h
  rcases pk_ix i (n := n) (by omega) with h3 | h3 | h3
  · exact absurd h3 h2.1
  · exact absurd h3 h2.2
  · exact h3
theorem em_ne {ys : Nat → Int32} {n k : Nat} {y : Int32} (h : emB ys n k y = true) : ¬ ys (nxN n k) - ys k = 0 := by
  intro h2
  rw [emB, sub0 h2] at h
  simp at h
/-- edge k crosses the line of y at a place above x -/
def crB (xs ys : Nat → Int32) (n : Nat) (x y : Int32) (k : Nat) : Bool := emB ys n k y && decide (¬ cuI xs ys n k y ≤ x)
theorem cr_f {xs ys : Nat → Int32} {n : Nat} {x y : Int32} {k : Nat} (h : emB ys n k y = false) : crB xs ys n x y k = false := by rw [crB, h]; rfl
theorem cr_g {xs ys : Nat → Int32} {n : Nat} {x y : Int32} {k : Nat} (h : cuI xs ys n k y ≤ x) : crB xs ys n x y k = false := by rw [crB, decide_eq_false (fun q => q h), Bool.and_false]
theorem cr_t {xs ys : Nat → Int32} {n : Nat} {x y : Int32} {k : Nat} (h : emB ys n k y = true) (h2 : ¬ cuI xs ys n k y ≤ x) : crB xs ys n x y k = true := by rw [crB, h, decide_eq_true h2]; rfl
/-- is the number of the first k of them odd -/
def oddB (f : Nat → Bool) : Nat → Bool
  | 0 => false
  | k + 1 => f k != oddB f k
theorem odd_f {f : Nat → Bool} {k : Nat} (h : f k = false) : oddB f (k + 1) = oddB f k := by rw [oddB, h]; cases oddB f k <;> rfl
theorem odd_t1 {f : Nat → Bool} {k : Nat} (h : f k = true) (h2 : oddB f k = false) : oddB f (k + 1) = true := by rw [oddB, h, h2]; rfl
theorem odd_t0 {f : Nat → Bool} {k : Nat} (h : f k = true) (h2 : oddB f k = true) : oddB f (k + 1) = false := by rw [oddB, h, h2]; rfl
theorem at_lt {w h i j : Nat} (hi : i < w) (hj : j < h) : j * w + i < w * h := by
  have h1 : (j + 1) * w ≤ h * w := Nat.mul_le_mul_right w hj
  rw [Nat.add_mul, Nat.one_mul] at h1
  rw [Nat.mul_comm w h]; omega
def pxI (col : Nat → Int32) (w h x y : Int32) (f : Nat → Nat → Nat) : Int32 := if ¬ x < 0 ∧ ¬ w ≤ x ∧ ¬ y < 0 ∧ ¬ h ≤ y then col (f x.toNatClampNeg y.toNatClampNeg) else (-1)
theorem ge_ix {i : Int32} {n : Nat} (hn : n ≤ 60) (h1 : ¬ i < 0) (h2 : ¬ nI n ≤ i) : ∃ j : Nat, j < n ∧ i = nI j := by
  rcases pk_ix i (n := n) (by omega) with h3 | h3 | h3
  · exact absurd h3 h1
  · exact absurd h3 h2
  · exact h3
theorem nX1_vertices_X1 : ∀ w ∈ wsX10, w ∈ wsX1_vertices := fun w h => List.mem_cons_of_mem _ (List.mem_append_left _ (List.mem_append_right _ h))
theorem nX1_vertices_X0 : ∀ w ∈ wsX00, w ∈ wsX1_vertices := fun w h => List.mem_cons_of_mem _ (List.mem_append_right _ h)
set_option maxHeartbeats 4000000 in
set_option maxRecDepth 100000 in
theorem kX1_vertices (l : Launch) (D : va_G) (cI cZ : ClassId) (p0 aC aT aS r0 rO rE wd hg : Nat) (ax ay n cap : Nat) (xs ys : Nat → Int32)  : Met l yX1_vertices wsX1_vertices ({ frames := 0, cells := 0, slots := 0, locals := 0 }) (va_Pc [.ref p0] (rdP D cI cZ [(p0, .inr (1, [.int (nI wd), .int (nI hg), .ref aC, .ref aT, .ref aS, .ref r0, .ref rO, .ref rE])), (r0, .inr (0, [.ref ax, .ref ay, .int (nI n)])), (ax, .inl (cI, cap, .inl xs)), (ay, .inl (cI, cap, .inl ys))])) (QcRead (nI n)) 0 0 (fun _ => False) := by
  refine Met.ofW (cc := cX1_vertices) (maxL := 1) (ret := (some .int)) (by decide) rfl ?_
  intro p e s m args below meth c s₁ B hml hv
  obtain ⟨rfl, hP, hK⟩ := hv
  have hx := B.exec
  have hb := B.bytes
  have hr := B.returns
  have hts := atoms_spec (ws := wsX1_vertices) B.pre
  have hown : s.vm.findClass RX1 = some m.cls := findClass_of_methodNamed B.named
  have hlocks := B.notSynchronized
  have hP : va_P D vwCl [(p0, .inr (1, [.int (nI wd), .int (nI hg), .ref aC, .ref aT, .ref aS, .ref r0, .ref rO, .ref rE])), (r0, .inr (0, [.ref ax, .ref ay, .int (nI n)])), (ax, .inl (cI, cap, .inl xs)), (ay, .inl (cI, cap, .inl ys))] s.heap := hP
  have hl := lv_entry ([.ref p0]) (n := 1) (Nat.le_of_ble_eq_true rfl)
  rw [lg_entry_eq]
  generalize (lg_sl ([.ref p0]) ++ List.replicate (1 - (lg_sl ([.ref p0])).length) Slot.unset).toArray = ls at hl ⊢
  have hl : lv_has ls 1 [(0, .ref p0)] := hl
  refine lv_aload_n hx hb dX1_vertices_0 rfl (lv_at hl 0 rfl) ?_
  refine va_get (D := D) (ci := 1) (v := .ref r0) (C := RX1) (T := TX1) (N := 8) hx hb hts nX1_vertices_X1 hown hK.1 hP 0 rfl rfl 5 (by decide) (hts (.fieldLink RX1 36 "PolygonFrame" "polygon" "LPolygonFrame$Ring;") (by decide +kernel)) (fun _ h9 => h9) rfl dX1_vertices_1 ?_
  refine va_getN (D := D) (ci := 0) (v := .int (nI n)) (C := RX0) (T := TX0) (N := 3) hx hb hts nX1_vertices_X0 hown hK.1 hP 1 rfl rfl 2 (by decide) (hK.2.count _) (fun _ h9 => h9) rfl dX1_vertices_4 ?_
  exact W.iret (v := (nI n)) hx hb hr (fun t ht _ => ⟨rfl, ht⟩) (fun _ h => absurd h List.not_mem_nil) dX1_vertices_7
theorem nX1_vx_X1 : ∀ w ∈ wsX10, w ∈ wsX1_vx := fun w h => List.mem_cons_of_mem _ (List.mem_append_left _ (List.mem_append_right _ h))
theorem nX1_vx_X0 : ∀ w ∈ wsX00, w ∈ wsX1_vx := fun w h => List.mem_cons_of_mem _ (List.mem_append_right _ h)
set_option maxHeartbeats 4000000 in
set_option maxRecDepth 100000 in
theorem kX1_vx (l : Launch) (D : va_G) (cI cZ : ClassId) (p0 aC aT aS r0 rO rE wd hg : Nat) (ax ay n cap : Nat) (xs ys : Nat → Int32) (i : Int32) (hn : n ≤ cap) (hc : cap ≤ 60) : Met l yX1_vx wsX1_vx ({ frames := 1, cells := 0, slots := 0, locals := 21 }) (va_Pc [.ref p0, .int i] (rdP D cI cZ [(p0, .inr (1, [.int (nI wd), .int (nI hg), .ref aC, .ref aT, .ref aS, .ref r0, .ref rO, .ref rE])), (r0, .inr (0, [.ref ax, .ref ay, .int (nI n)])), (ax, .inl (cI, cap, .inl xs)), (ay, .inl (cI, cap, .inl ys))])) (QcRead (vxI xs n i)) 0 0 (fun _ => False) := by
  refine Met.ofW (cc := cX1_vx) (maxL := 2) (ret := (some .int)) (by decide) rfl ?_
  intro p e s m args below meth c s₁ B hml hv
  obtain ⟨rfl, hP, hK⟩ := hv
  have hx := B.exec
  have hb := B.bytes
  have hr := B.returns
  have hts := atoms_spec (ws := wsX1_vx) B.pre
  have hown : s.vm.findClass RX1 = some m.cls := findClass_of_methodNamed B.named
  have hlocks := B.notSynchronized
  have hP : va_P D vwCl [(p0, .inr (1, [.int (nI wd), .int (nI hg), .ref aC, .ref aT, .ref aS, .ref r0, .ref rO, .ref rE])), (r0, .inr (0, [.ref ax, .ref ay, .int (nI n)])), (ax, .inl (cI, cap, .inl xs)), (ay, .inl (cI, cap, .inl ys))] s.heap := hP
  have hl := lv_entry ([.ref p0, .int i]) (n := 2) (Nat.le_of_ble_eq_true rfl)
  rw [lg_entry_eq]
  generalize (lg_sl ([.ref p0, .int i]) ++ List.replicate (2 - (lg_sl ([.ref p0, .int i])).length) Slot.unset).toArray = ls at hl ⊢
  have hl : lv_has ls 2 [(0, .ref p0), (1, .int i)] := hl
  refine lv_aload_n hx hb dX1_vx_0 rfl (lv_at hl 0 rfl) ?_
  refine va_get (D := D) (ci := 1) (v := .ref r0) (C := RX1) (T := TX1) (N := 8) hx hb hts nX1_vx_X1 hown hK.1 hP 0 rfl rfl 5 (by decide) (hts (.fieldLink RX1 36 "PolygonFrame" "polygon" "LPolygonFrame$Ring;") (by decide +kernel)) (fun _ h9 => h9) rfl dX1_vx_1 ?_
  refine lv_iload_n hx hb dX1_vx_4 rfl (lv_at hl 1 rfl) ?_
  refine rd_i (va_runVN (C := RX0) (As := [.int i]) ⟨hx, hb, hml, hown, hts⟩ (kX0_has l D cI cZ r0 ax ay n cap xs ys i) ⟨va_cnB 1 hts gX1_vx_X0_has_n70 rfl rfl rfl hK.2.2.2.2.2.2.1 (hts (.initialized RX0) (by decide +kernel)) (by decide +kernel) ⟨Nat.le_of_ble_eq_true rfl, Nat.le_of_ble_eq_true rfl⟩, hts (.instanceMethod yX0_has) (by decide +kernel), hts (.selects RX0 yX0_has yX0_has) (by decide +kernel)⟩ (rd_preV (ci := 0) (q0 := 0) (hP.sub [1, 2, 3] rfl) hK rfl rfl) rfl rfl hl.1 rfl (lv_room (Nat.le_of_ble_eq_true rfl)) dX1_vx_5 ⟨Nat.zero_le _, Nat.zero_le _⟩) ?_
  refine lv_if_eq (tgt := 23) hx hb dX1_vx_8 (by decide) (fun c8 => ?_) (fun c8 => ?_)
  · skip
    refine lv_sipush (v := (-32768)) hx hb dX1_vx_23 (by decide) ?_
    exact W.iret (v := (-32768)) hx hb hr (fun t ht _ => ⟨oI (by rw [vxI, if_neg (by rw [bI_eq0.mp c8]; decide)]), ht⟩) (fun _ h => absurd h List.not_mem_nil) dX1_vx_26
  · skip
    obtain ⟨j, hj, rfl⟩ := hs_ix (Nat.le_trans hn hc) (bI_ne c8)
    refine lv_aload_n hx hb dX1_vx_11 rfl (lv_at hl 0 rfl) ?_
    refine va_get (D := D) (ci := 1) (v := .ref r0) (C := RX1) (T := TX1) (N := 8) hx hb hts nX1_vx_X1 hown hK.1 hP 0 rfl rfl 5 (by decide) (hts (.fieldLink RX1 36 "PolygonFrame" "polygon" "LPolygonFrame$Ring;") (by decide +kernel)) (fun _ h9 => h9) rfl dX1_vx_12 ?_
    refine va_getN (D := D) (ci := 0) (v := .ref ax) (C := RX0) (T := TX0) (N := 3) hx hb hts nX1_vx_X0 hown hK.1 hP 1 rfl rfl 0 (by decide) (hK.2.xs _) (fun _ h9 => h9) rfl dX1_vx_15 ?_
    refine lv_iload_n hx hb dX1_vx_18 rfl (lv_at hl 1 rfl) ?_
    refine q_iald (k := j) hx hb hK.1 hP 2 0 rfl rfl (by omega) (by omega) dX1_vx_19 ?_
    refine lv_goto (tgt := 26) hx hb dX1_vx_20 (by decide) ?_
    exact W.iret (v := (xs j)) hx hb hr (fun t ht _ => ⟨oI (by rw [vxI, if_pos (bI_ne c8), nI_clamp (by omega)]), ht⟩) (fun _ h => absurd h List.not_mem_nil) dX1_vx_26
theorem nX1_vy_X1 : ∀ w ∈ wsX10, w ∈ wsX1_vy := fun w h => List.mem_cons_of_mem _ (List.mem_append_left _ (List.mem_append_right _ h))
theorem nX1_vy_X0 : ∀ w ∈ wsX00, w ∈ wsX1_vy := fun w h => List.mem_cons_of_mem _ (List.mem_append_right _ h)
set_option maxHeartbeats 4000000 in
set_option maxRecDepth 100000 in
theorem kX1_vy (l : Launch) (D : va_G) (cI cZ : ClassId) (p0 aC aT aS r0 rO rE wd hg : Nat) (ax ay n cap : Nat) (xs ys : Nat → Int32) (i : Int32) (hn : n ≤ cap) (hc : cap ≤ 60) : Met l yX1_vy wsX1_vy ({ frames := 1, cells := 0, slots := 0, locals := 21 }) (va_Pc [.ref p0, .int i] (rdP D cI cZ [(p0, .inr (1, [.int (nI wd), .int (nI hg), .ref aC, .ref aT, .ref aS, .ref r0, .ref rO, .ref rE])), (r0, .inr (0, [.ref ax, .ref ay, .int (nI n)])), (ax, .inl (cI, cap, .inl xs)), (ay, .inl (cI, cap, .inl ys))])) (QcRead (vxI ys n i)) 0 0 (fun _ => False) := by
  refine Met.ofW (cc := cX1_vy) (maxL := 2) (ret := (some .int)) (by decide) rfl ?_
  intro p e s m args below meth c s₁ B hml hv
  obtain ⟨rfl, hP, hK⟩ := hv
  have hx := B.exec
  have hb := B.bytes
  have hr := B.returns
  have hts := atoms_spec (ws := wsX1_vy) B.pre
  have hown : s.vm.findClass RX1 = some m.cls := findClass_of_methodNamed B.named
  have hlocks := B.notSynchronized
  have hP : va_P D vwCl [(p0, .inr (1, [.int (nI wd), .int (nI hg), .ref aC, .ref aT, .ref aS, .ref r0, .ref rO, .ref rE])), (r0, .inr (0, [.ref ax, .ref ay, .int (nI n)])), (ax, .inl (cI, cap, .inl xs)), (ay, .inl (cI, cap, .inl ys))] s.heap := hP
  have hl := lv_entry ([.ref p0, .int i]) (n := 2) (Nat.le_of_ble_eq_true rfl)
  rw [lg_entry_eq]
  generalize (lg_sl ([.ref p0, .int i]) ++ List.replicate (2 - (lg_sl ([.ref p0, .int i])).length) Slot.unset).toArray = ls at hl ⊢
  have hl : lv_has ls 2 [(0, .ref p0), (1, .int i)] := hl
  refine lv_aload_n hx hb dX1_vy_0 rfl (lv_at hl 0 rfl) ?_
  refine va_get (D := D) (ci := 1) (v := .ref r0) (C := RX1) (T := TX1) (N := 8) hx hb hts nX1_vy_X1 hown hK.1 hP 0 rfl rfl 5 (by decide) (hts (.fieldLink RX1 36 "PolygonFrame" "polygon" "LPolygonFrame$Ring;") (by decide +kernel)) (fun _ h9 => h9) rfl dX1_vy_1 ?_
  refine lv_iload_n hx hb dX1_vy_4 rfl (lv_at hl 1 rfl) ?_
  refine rd_i (va_runVN (C := RX0) (As := [.int i]) ⟨hx, hb, hml, hown, hts⟩ (kX0_has l D cI cZ r0 ax ay n cap xs ys i) ⟨va_cnB 1 hts gX1_vy_X0_has_n70 rfl rfl rfl hK.2.2.2.2.2.2.1 (hts (.initialized RX0) (by decide +kernel)) (by decide +kernel) ⟨Nat.le_of_ble_eq_true rfl, Nat.le_of_ble_eq_true rfl⟩, hts (.instanceMethod yX0_has) (by decide +kernel), hts (.selects RX0 yX0_has yX0_has) (by decide +kernel)⟩ (rd_preV (ci := 0) (q0 := 0) (hP.sub [1, 2, 3] rfl) hK rfl rfl) rfl rfl hl.1 rfl (lv_room (Nat.le_of_ble_eq_true rfl)) dX1_vy_5 ⟨Nat.zero_le _, Nat.zero_le _⟩) ?_
  refine lv_if_eq (tgt := 23) hx hb dX1_vy_8 (by decide) (fun c8 => ?_) (fun c8 => ?_)
  · skip
    refine lv_sipush (v := (-32768)) hx hb dX1_vy_23 (by decide) ?_
    exact W.iret (v := (-32768)) hx hb hr (fun t ht _ => ⟨oI (by rw [vxI, if_neg (by rw [bI_eq0.mp c8]; decide)]), ht⟩) (fun _ h => absurd h List.not_mem_nil) dX1_vy_26
  · skip
    obtain ⟨j, hj, rfl⟩ := hs_ix (Nat.le_trans hn hc) (bI_ne c8)
    refine lv_aload_n hx hb dX1_vy_11 rfl (lv_at hl 0 rfl) ?_
    refine va_get (D := D) (ci := 1) (v := .ref r0) (C := RX1) (T := TX1) (N := 8) hx hb hts nX1_vy_X1 hown hK.1 hP 0 rfl rfl 5 (by decide) (hts (.fieldLink RX1 36 "PolygonFrame" "polygon" "LPolygonFrame$Ring;") (by decide +kernel)) (fun _ h9 => h9) rfl dX1_vy_12 ?_
    refine va_getN (D := D) (ci := 0) (v := .ref ay) (C := RX0) (T := TX0) (N := 3) hx hb hts nX1_vy_X0 hown hK.1 hP 1 rfl rfl 1 (by decide) (hK.2.ys _) (fun _ h9 => h9) rfl dX1_vy_15 ?_
    refine lv_iload_n hx hb dX1_vy_18 rfl (lv_at hl 1 rfl) ?_
    refine q_iald (k := j) hx hb hK.1 hP 3 0 rfl rfl (by omega) (by omega) dX1_vy_19 ?_
    refine lv_goto (tgt := 26) hx hb dX1_vy_20 (by decide) ?_
    exact W.iret (v := (ys j)) hx hb hr (fun t ht _ => ⟨oI (by rw [vxI, if_pos (bI_ne c8), nI_clamp (by omega)]), ht⟩) (fun _ h => absurd h List.not_mem_nil) dX1_vy_26
theorem nX1_inside_X1 : ∀ w ∈ wsX10, w ∈ wsX1_inside := fun w h => List.mem_cons_of_mem _ (List.mem_append_left _ (List.mem_append_right _ h))
theorem nX1_inside_X0 : ∀ w ∈ wsX00, w ∈ wsX1_inside := fun w h => List.mem_cons_of_mem _ (List.mem_append_right _ h)
set_option maxHeartbeats 4000000 in
set_option maxRecDepth 100000 in
theorem kX1_inside (l : Launch) (D : va_G) (cI cZ : ClassId) (p0 aC aT aS r0 rO rE wd hg : Nat) (ax ay n cap : Nat) (xs ys : Nat → Int32) (x y : Int32) (hn : n ≤ cap) (hc : cap ≤ 60) : Met l yX1_inside wsX1_inside ({ frames := 2, cells := 0, slots := 0, locals := 60 }) (va_Pc [.ref p0, .int x, .int y] (rdP D cI cZ [(p0, .inr (1, [.int (nI wd), .int (nI hg), .ref aC, .ref aT, .ref aS, .ref r0, .ref rO, .ref rE])), (r0, .inr (0, [.ref ax, .ref ay, .int (nI n)])), (ax, .inl (cI, cap, .inl xs)), (ay, .inl (cI, cap, .inl ys))])) (QcRead (bI (oddB (crB xs ys n x y) n))) 0 0 (fun _ => False) := by
  refine Met.ofW (cc := cX1_inside) (maxL := 5) (ret := (some .boolean)) (by decide) rfl ?_
  intro p e s m args below meth c s₁ B hml hv
  obtain ⟨rfl, hP, hK⟩ := hv
  have hx := B.exec
  have hb := B.bytes
  have hr := B.returns
  have hts := atoms_spec (ws := wsX1_inside) B.pre
  have hown : s.vm.findClass RX1 = some m.cls := findClass_of_methodNamed B.named
  have hlocks := B.notSynchronized
  have hP : va_P D vwCl [(p0, .inr (1, [.int (nI wd), .int (nI hg), .ref aC, .ref aT, .ref aS, .ref r0, .ref rO, .ref rE])), (r0, .inr (0, [.ref ax, .ref ay, .int (nI n)])), (ax, .inl (cI, cap, .inl xs)), (ay, .inl (cI, cap, .inl ys))] s.heap := hP
  have hl := lv_entry ([.ref p0, .int x, .int y]) (n := 5) (Nat.le_of_ble_eq_true rfl)
  rw [lg_entry_eq]
  generalize (lg_sl ([.ref p0, .int x, .int y]) ++ List.replicate (5 - (lg_sl ([.ref p0, .int x, .int y])).length) Slot.unset).toArray = ls at hl ⊢
  have hl : lv_has ls 5 [(0, .ref p0), (1, .int x), (2, .int y)] := hl
  have LOOP : ∀ (j k : Nat), k ≤ n → n < k + j → ∀ ls : Array Slot, lv_has ls 5 [(0, .ref p0), (1, .int x), (2, .int y), (3, .int (bI (oddB (crB xs ys n x y) k))), (4, .int (nI k))] → W p l e ({ frames := 2, cells := 0, slots := 0, locals := 60 } : Room) s m #[.ref p0, .int x, .int y] below meth c s.heap [] 0 0 (MQ below (QcRead (bI (oddB (crB xs ys n x y) n))) #[.ref p0, .int x, .int y] s 0 0 (fun _ => False)) (F0 m 5 ls []) := by
    intro j
    induction j with
    | zero => intro k h1 h2; omega
    | succ j ih =>
      intro k hk hkj ls hl
      refine lv_iload hx hb dX1_inside_5 (lv_at hl 4 rfl) ?_
      refine lv_aload_n hx hb dX1_inside_7 rfl (lv_at hl 0 rfl) ?_
      refine va_get (D := D) (ci := 1) (v := .ref r0) (C := RX1) (T := TX1) (N := 8) hx hb hts nX1_inside_X1 hown hK.1 hP 0 rfl rfl 5 (by decide) (hts (.fieldLink RX1 36 "PolygonFrame" "polygon" "LPolygonFrame$Ring;") (by decide +kernel)) (fun _ h9 => h9) rfl dX1_inside_8 ?_
      refine va_getN (D := D) (ci := 0) (v := .int (nI n)) (C := RX0) (T := TX0) (N := 3) hx hb hts nX1_inside_X0 hown hK.1 hP 1 rfl rfl 2 (by decide) (hK.2.count _) (fun _ h9 => h9) rfl dX1_inside_11 ?_
      refine lv_icmp_ge (tgt := 60) hx hb dX1_inside_14 (by decide) (fun c14 => ?_) (fun c14 => ?_)
      · skip
        have hkn : k = n := Nat.le_antisymm hk ((nI_leI (by omega) (by omega)).mp c14)
        refine lv_iload_n hx hb dX1_inside_60 rfl (lv_at hl 3 rfl) ?_
        exact W.zret (v := (bI (oddB (crB xs ys n x y) k))) hx hb hr (bI_nar _) (fun t ht _ => ⟨oI (by rw [hkn]), ht⟩) (fun _ h => absurd h List.not_mem_nil) dX1_inside_61
      · skip
        have hk2 : k < n := Nat.lt_of_not_le (fun h => c14 (nI_le h (by omega)))
        refine lv_aload_n hx hb dX1_inside_17 rfl (lv_at hl 0 rfl) ?_
        refine va_get (D := D) (ci := 1) (v := .ref r0) (C := RX1) (T := TX1) (N := 8) hx hb hts nX1_inside_X1 hown hK.1 hP 0 rfl rfl 5 (by decide) (hts (.fieldLink RX1 36 "PolygonFrame" "polygon" "LPolygonFrame$Ring;") (by decide +kernel)) (fun _ h9 => h9) rfl dX1_inside_18 ?_
        refine lv_iload hx hb dX1_inside_21 (lv_at hl 4 rfl) ?_
        refine lv_iload_n hx hb dX1_inside_23 rfl (lv_at hl 2 rfl) ?_
        refine rd_i (va_runVN (C := RX0) (As := [.int (nI k), .int y]) ⟨hx, hb, hml, hown, hts⟩ (kX0_edgeMeets l D cI cZ r0 ax ay n cap k xs ys y hk2 hn hc) ⟨va_cnB 2 hts gX1_inside_X0_edgeMeets_n86 rfl rfl rfl hK.2.2.2.2.2.2.2.1 (hts (.initialized RX0) (by decide +kernel)) (by decide +kernel) ⟨Nat.le_of_ble_eq_true rfl, Nat.le_of_ble_eq_true rfl⟩, hts (.instanceMethod yX0_edgeMeets) (by decide +kernel), hts (.selects RX0 yX0_edgeMeets yX0_edgeMeets) (by decide +kernel)⟩ (rd_preV (ci := 0) (q0 := 0) (hP.sub [1, 2, 3] rfl) hK rfl rfl) rfl rfl hl.1 rfl (lv_room (Nat.le_of_ble_eq_true rfl)) dX1_inside_24 ⟨Nat.zero_le _, Nat.zero_le _⟩) ?_
        refine lv_if_eq (tgt := 54) hx hb dX1_inside_27 (by decide) (fun c27 => ?_) (fun c27 => ?_)
        · skip
          refine lv_iinc (v := (nI (k + 1))) (lv' := [(4, .int (nI (k + 1))), (0, .ref p0), (1, .int x), (2, .int y), (3, .int (bI (oddB (crB xs ys n x y) k)))]) hx hb dX1_inside_54 hl (k := 4) rfl (nI_1 _) (by decide) rfl (fun ls hl => ?_)
          refine lv_goto (tgt := 5) hx hb dX1_inside_57 (by decide) ?_
          exact ih (k + 1) (by omega) (by omega) ls (by rw [odd_f (cr_f (bI_eq0.mp c27))]; exact lv_sub hl [1, 2, 3, 4, 0] rfl)
        · skip
          refine lv_aload_n hx hb dX1_inside_30 rfl (lv_at hl 0 rfl) ?_
          refine va_get (D := D) (ci := 1) (v := .ref r0) (C := RX1) (T := TX1) (N := 8) hx hb hts nX1_inside_X1 hown hK.1 hP 0 rfl rfl 5 (by decide) (hts (.fieldLink RX1 36 "PolygonFrame" "polygon" "LPolygonFrame$Ring;") (by decide +kernel)) (fun _ h9 => h9) rfl dX1_inside_31 ?_
          refine lv_iload hx hb dX1_inside_34 (lv_at hl 4 rfl) ?_
          refine lv_iload_n hx hb dX1_inside_36 rfl (lv_at hl 2 rfl) ?_
          refine rd_i (va_runVN (C := RX0) (As := [.int (nI k), .int y]) ⟨hx, hb, hml, hown, hts⟩ (kX0_crossingUpwards l D cI cZ r0 ax ay n cap k xs ys y hk2 hn hc (em_ne (bI_ne c27))) ⟨va_cnB 2 hts gX1_inside_X0_crossingUpwards_n89 rfl rfl rfl hK.2.2.2.2.2.2.2.2.1 (hts (.initialized RX0) (by decide +kernel)) (by decide +kernel) ⟨Nat.le_of_ble_eq_true rfl, Nat.le_of_ble_eq_true rfl⟩, hts (.instanceMethod yX0_crossingUpwards) (by decide +kernel), hts (.selects RX0 yX0_crossingUpwards yX0_crossingUpwards) (by decide +kernel)⟩ (rd_preV (ci := 0) (q0 := 0) (hP.sub [1, 2, 3] rfl) hK rfl rfl) rfl rfl hl.1 rfl (lv_room (Nat.le_of_ble_eq_true rfl)) dX1_inside_37 ⟨Nat.zero_le _, Nat.zero_le _⟩) ?_
          refine lv_iload_n hx hb dX1_inside_40 rfl (lv_at hl 1 rfl) ?_
          refine lv_icmp_le (tgt := 54) hx hb dX1_inside_41 (by decide) (fun c41 => ?_) (fun c41 => ?_)
          · skip
            refine lv_iinc (v := (nI (k + 1))) (lv' := [(4, .int (nI (k + 1))), (0, .ref p0), (1, .int x), (2, .int y), (3, .int (bI (oddB (crB xs ys n x y) k)))]) hx hb dX1_inside_54 hl (k := 4) rfl (nI_1 _) (by decide) rfl (fun ls hl => ?_)
            refine lv_goto (tgt := 5) hx hb dX1_inside_57 (by decide) ?_
            exact ih (k + 1) (by omega) (by omega) ls (by rw [odd_f (cr_g c41)]; exact lv_sub hl [1, 2, 3, 4, 0] rfl)
          · skip
            refine lv_iload_n hx hb dX1_inside_44 rfl (lv_at hl 3 rfl) ?_
            refine lv_if_ne (tgt := 52) hx hb dX1_inside_45 (by decide) (fun c45 => ?_) (fun c45 => ?_)
            · skip
              refine lv_iconst (v := 0) hx hb dX1_inside_52 (by decide) ?_
              refine lv_istore_n (lv' := [(3, .int 0), (0, .ref p0), (1, .int x), (2, .int y), (4, .int (nI k))]) hx hb dX1_inside_53 rfl hl (by decide) rfl (fun ls hl => ?_)
              refine lv_iinc (v := (nI (k + 1))) (lv' := [(4, .int (nI (k + 1))), (3, .int 0), (0, .ref p0), (1, .int x), (2, .int y)]) hx hb dX1_inside_54 hl (k := 4) rfl (nI_1 _) (by decide) rfl (fun ls hl => ?_)
              refine lv_goto (tgt := 5) hx hb dX1_inside_57 (by decide) ?_
              exact ih (k + 1) (by omega) (by omega) ls (by rw [odd_t0 (cr_t (bI_ne c27) c41) (bI_ne c45)]; exact lv_sub hl [2, 3, 4, 1, 0] rfl)
            · skip
              refine lv_iconst (v := 1) hx hb dX1_inside_48 (by decide) ?_
              refine lv_goto (tgt := 53) hx hb dX1_inside_49 (by decide) ?_
              refine lv_istore_n (lv' := [(3, .int 1), (0, .ref p0), (1, .int x), (2, .int y), (4, .int (nI k))]) hx hb dX1_inside_53 rfl hl (by decide) rfl (fun ls hl => ?_)
              refine lv_iinc (v := (nI (k + 1))) (lv' := [(4, .int (nI (k + 1))), (3, .int 1), (0, .ref p0), (1, .int x), (2, .int y)]) hx hb dX1_inside_54 hl (k := 4) rfl (nI_1 _) (by decide) rfl (fun ls hl => ?_)
              refine lv_goto (tgt := 5) hx hb dX1_inside_57 (by decide) ?_
              exact ih (k + 1) (by omega) (by omega) ls (by rw [odd_t1 (cr_t (bI_ne c27) c41) (bI_eq0.mp c45)]; exact lv_sub hl [2, 3, 4, 1, 0] rfl)
  refine lv_iconst (v := 0) hx hb dX1_inside_0 (by decide) ?_
  refine lv_istore_n (lv' := [(3, .int 0), (0, .ref p0), (1, .int x), (2, .int y)]) hx hb dX1_inside_1 rfl hl (by decide) rfl (fun ls hl => ?_)
  refine lv_iconst (v := 0) hx hb dX1_inside_2 (by decide) ?_
  refine lv_istore (lv' := [(4, .int 0), (3, .int 0), (0, .ref p0), (1, .int x), (2, .int y)]) hx hb dX1_inside_3 hl (by decide) rfl (fun ls hl => ?_)
  exact LOOP (n + 1) 0 (Nat.zero_le _) (by omega) ls (lv_sub hl [2, 3, 4, 1, 0] rfl)
theorem nX1_pixel_X1 : ∀ w ∈ wsX10, w ∈ wsX1_pixel := fun w h => List.mem_cons_of_mem _ (List.mem_append_right _ h)
set_option maxHeartbeats 4000000 in
set_option maxRecDepth 100000 in
theorem kX1_pixel (l : Launch) (D : va_G) (cI cZ : ClassId) (p0 aC aT aS rP rO rE wd hg : Nat) (col : Nat → Int32) (x y : Int32) (hw : wd ≤ 24) (hh : hg ≤ 24) : Met l yX1_pixel wsX1_pixel ({ frames := 0, cells := 0, slots := 0, locals := 0 }) (va_Pc [.ref p0, .int x, .int y] (rdP D cI cZ [(p0, .inr (1, [.int (nI wd), .int (nI hg), .ref aC, .ref aT, .ref aS, .ref rP, .ref rO, .ref rE])), (aC, .inl (cI, (wd * hg), .inl col))])) (QcRead (pxI col (nI wd) (nI hg) x y (fun i j => j * wd + i))) 0 0 (fun _ => False) := by
  refine Met.ofW (cc := cX1_pixel) (maxL := 3) (ret := (some .int)) (by decide) rfl ?_
  intro p e s m args below meth c s₁ B hml hv
  obtain ⟨rfl, hP, hK⟩ := hv
  have hx := B.exec
  have hb := B.bytes
  have hr := B.returns
  have hts := atoms_spec (ws := wsX1_pixel) B.pre
  have hown : s.vm.findClass RX1 = some m.cls := findClass_of_methodNamed B.named
  have hlocks := B.notSynchronized
  have hP : va_P D vwCl [(p0, .inr (1, [.int (nI wd), .int (nI hg), .ref aC, .ref aT, .ref aS, .ref rP, .ref rO, .ref rE])), (aC, .inl (cI, (wd * hg), .inl col))] s.heap := hP
  have hl := lv_entry ([.ref p0, .int x, .int y]) (n := 3) (Nat.le_of_ble_eq_true rfl)
  rw [lg_entry_eq]
  generalize (lg_sl ([.ref p0, .int x, .int y]) ++ List.replicate (3 - (lg_sl ([.ref p0, .int x, .int y])).length) Slot.unset).toArray = ls at hl ⊢
  have hl : lv_has ls 3 [(0, .ref p0), (1, .int x), (2, .int y)] := hl
  refine lv_iload_n hx hb dX1_pixel_0 rfl (lv_at hl 1 rfl) ?_
  refine lv_if_lt (tgt := 24) hx hb dX1_pixel_1 (by decide) (fun c1 => ?_) (fun c1 => ?_)
  · skip
    refine lv_iconst (v := (-1)) hx hb dX1_pixel_24 (by decide) ?_
    exact W.iret (v := (-1)) hx hb hr (fun t ht _ => ⟨oI (by rw [pxI, if_neg (fun h => h.1 c1)]), ht⟩) (fun _ h => absurd h List.not_mem_nil) dX1_pixel_25
  · skip
    refine lv_iload_n hx hb dX1_pixel_4 rfl (lv_at hl 1 rfl) ?_
    refine lv_aload_n hx hb dX1_pixel_5 rfl (lv_at hl 0 rfl) ?_
    refine va_get (D := D) (ci := 1) (v := .int (nI wd)) (C := RX1) (T := TX1) (N := 8) hx hb hts nX1_pixel_X1 hown hK.1 hP 0 rfl rfl 0 (by decide) (hts (.fieldLink RX1 13 "PolygonFrame" "width" "I") (by decide +kernel)) (fun _ h9 => h9) rfl dX1_pixel_6 ?_
    refine lv_icmp_ge (tgt := 24) hx hb dX1_pixel_9 (by decide) (fun c9 => ?_) (fun c9 => ?_)
    · skip
      refine lv_iconst (v := (-1)) hx hb dX1_pixel_24 (by decide) ?_
      exact W.iret (v := (-1)) hx hb hr (fun t ht _ => ⟨oI (by rw [pxI, if_neg (fun h => h.2.1 c9)]), ht⟩) (fun _ h => absurd h List.not_mem_nil) dX1_pixel_25
    · skip
      refine lv_iload_n hx hb dX1_pixel_12 rfl (lv_at hl 2 rfl) ?_
      refine lv_if_lt (tgt := 24) hx hb dX1_pixel_13 (by decide) (fun c13 => ?_) (fun c13 => ?_)
      · skip
        refine lv_iconst (v := (-1)) hx hb dX1_pixel_24 (by decide) ?_
        exact W.iret (v := (-1)) hx hb hr (fun t ht _ => ⟨oI (by rw [pxI, if_neg (fun h => h.2.2.1 c13)]), ht⟩) (fun _ h => absurd h List.not_mem_nil) dX1_pixel_25
      · skip
        refine lv_iload_n hx hb dX1_pixel_16 rfl (lv_at hl 2 rfl) ?_
        refine lv_aload_n hx hb dX1_pixel_17 rfl (lv_at hl 0 rfl) ?_
        refine va_get (D := D) (ci := 1) (v := .int (nI hg)) (C := RX1) (T := TX1) (N := 8) hx hb hts nX1_pixel_X1 hown hK.1 hP 0 rfl rfl 1 (by decide) (hts (.fieldLink RX1 17 "PolygonFrame" "height" "I") (by decide +kernel)) (fun _ h9 => h9) rfl dX1_pixel_18 ?_
        refine lv_icmp_lt (tgt := 26) hx hb dX1_pixel_21 (by decide) (fun c21 => ?_) (fun c21 => ?_)
        · skip
          obtain ⟨i, hi, rfl⟩ := ge_ix (by omega) c1 c9
          obtain ⟨j, hj, rfl⟩ := ge_ix (by omega) c13 (fun h => absurd (Int32.lt_of_lt_of_le c21 h) Int32.lt_irrefl)
          have hij := at_lt hi hj
          have hwh : wd * hg ≤ 24 * 24 := Nat.mul_le_mul hw hh
          refine lv_aload_n hx hb dX1_pixel_26 rfl (lv_at hl 0 rfl) ?_
          refine va_get (D := D) (ci := 1) (v := .ref aC) (C := RX1) (T := TX1) (N := 8) hx hb hts nX1_pixel_X1 hown hK.1 hP 0 rfl rfl 2 (by decide) (hts (.fieldLink RX1 20 "PolygonFrame" "colours" "[I") (by decide +kernel)) (fun _ h9 => h9) rfl dX1_pixel_27 ?_
          refine lv_iload_n hx hb dX1_pixel_30 rfl (lv_at hl 2 rfl) ?_
          refine lv_aload_n hx hb dX1_pixel_31 rfl (lv_at hl 0 rfl) ?_
          refine va_get (D := D) (ci := 1) (v := .int (nI wd)) (C := RX1) (T := TX1) (N := 8) hx hb hts nX1_pixel_X1 hown hK.1 hP 0 rfl rfl 0 (by decide) (hts (.fieldLink RX1 13 "PolygonFrame" "width" "I") (by decide +kernel)) (fun _ h9 => h9) rfl dX1_pixel_32 ?_
          refine lv_imul hx hb dX1_pixel_35 ?_
          refine lv_iload_n hx hb dX1_pixel_36 rfl (lv_at hl 1 rfl) ?_
          refine lv_iadd hx hb dX1_pixel_37 ?_
          refine q_eq (show nI j * nI wd + nI i = nI (j * wd + i) by rw [pk_mul, nI_add]) ?_
          refine q_iald (k := (j * wd + i)) hx hb hK.1 hP 1 0 rfl rfl (by omega) (by omega) dX1_pixel_38 ?_
          exact W.iret (v := (col (j * wd + i))) hx hb hr (fun t ht _ => ⟨oI (by rw [pxI, if_pos ⟨c1, c9, c13, fun h => absurd (Int32.lt_of_lt_of_le c21 h) Int32.lt_irrefl⟩, nI_clamp (by omega), nI_clamp (by omega)]), ht⟩) (fun _ h => absurd h List.not_mem_nil) dX1_pixel_39
        · skip
          refine lv_iconst (v := (-1)) hx hb dX1_pixel_24 (by decide) ?_
          exact W.iret (v := (-1)) hx hb hr (fun t ht _ => ⟨oI (by rw [pxI, if_neg (fun h => c21 (Int32.not_le.mp h.2.2.2))]), ht⟩) (fun _ h => absurd h List.not_mem_nil) dX1_pixel_25
theorem nX2_isVertex_X2 : ∀ w ∈ wsX20, w ∈ wsX2_isVertex := fun w h => List.mem_cons_of_mem _ (List.mem_append_right _ h)
set_option maxHeartbeats 4000000 in
set_option maxRecDepth 100000 in
theorem kX2_isVertex (l : Launch) (D : va_G) (cI cZ : ClassId) (m0 aP ax ay afx afy atx aty wd hg cap n : Nat) (fr tt x0 x1 y0 y1 : Int32) (xs ys : Nat → Int32) (i : Int32)  : Met l yX2_isVertex wsX2_isVertex ({ frames := 0, cells := 0, slots := 0, locals := 0 }) (va_Pc [.ref m0, .int i] (rdP D cI cZ [(m0, .inr (2, [.int (nI wd), .int (nI hg), .int (nI cap), .ref aP, .ref ax, .ref ay, .int (nI n), .ref afx, .ref afy, .ref atx, .ref aty, .int fr, .int tt, .int x0, .int x1, .int y0, .int y1])), (ax, .inl (cI, 60, .inl xs)), (ay, .inl (cI, 60, .inl ys))])) (QcRead (bI (hsB i (nI n)))) 0 0 (fun _ => False) := by
  refine Met.ofW (cc := cX2_isVertex) (maxL := 2) (ret := (some .boolean)) (by decide) rfl ?_
  intro p e s m args below meth c s₁ B hml hv
  obtain ⟨rfl, hP, hK⟩ := hv
  have hx := B.exec
  have hb := B.bytes
  have hr := B.returns
  have hts := atoms_spec (ws := wsX2_isVertex) B.pre
  have hown : s.vm.findClass RX2 = some m.cls := findClass_of_methodNamed B.named
  have hlocks := B.notSynchronized
  have hP : va_P D vwCl [(m0, .inr (2, [.int (nI wd), .int (nI hg), .int (nI cap), .ref aP, .ref ax, .ref ay, .int (nI n), .ref afx, .ref afy, .ref atx, .ref aty, .int fr, .int tt, .int x0, .int x1, .int y0, .int y1])), (ax, .inl (cI, 60, .inl xs)), (ay, .inl (cI, 60, .inl ys))] s.heap := hP
  have hl := lv_entry ([.ref m0, .int i]) (n := 2) (Nat.le_of_ble_eq_true rfl)
  rw [lg_entry_eq]
  generalize (lg_sl ([.ref m0, .int i]) ++ List.replicate (2 - (lg_sl ([.ref m0, .int i])).length) Slot.unset).toArray = ls at hl ⊢
  have hl : lv_has ls 2 [(0, .ref m0), (1, .int i)] := hl
  refine lv_iload_n hx hb dX2_isVertex_0 rfl (lv_at hl 1 rfl) ?_
  refine lv_if_lt (tgt := 16) hx hb dX2_isVertex_1 (by decide) (fun c1 => ?_) (fun c1 => ?_)
  · skip
    refine lv_iconst (v := 0) hx hb dX2_isVertex_16 (by decide) ?_
    exact W.zret (v := 0) hx hb hr rfl (fun t ht _ => ⟨oI (bI_ff (decide_eq_false (fun h => h.1 c1))), ht⟩) (fun _ h => absurd h List.not_mem_nil) dX2_isVertex_17
  · skip
    refine lv_iload_n hx hb dX2_isVertex_4 rfl (lv_at hl 1 rfl) ?_
    refine lv_aload_n hx hb dX2_isVertex_5 rfl (lv_at hl 0 rfl) ?_
    refine va_get (D := D) (ci := 2) (v := .int (nI n)) (C := RX2) (T := TX2) (N := 17) hx hb hts nX2_isVertex_X2 hown hK.1 hP 0 rfl rfl 6 (by decide) (hts (.fieldLink RX2 57 "PolygonFrameModel" "size" "I") (by decide +kernel)) (fun _ h9 => h9) rfl dX2_isVertex_6 ?_
    refine lv_icmp_ge (tgt := 16) hx hb dX2_isVertex_9 (by decide) (fun c9 => ?_) (fun c9 => ?_)
    · skip
      refine lv_iconst (v := 0) hx hb dX2_isVertex_16 (by decide) ?_
      exact W.zret (v := 0) hx hb hr rfl (fun t ht _ => ⟨oI (bI_ff (decide_eq_false (fun h => h.2 c9))), ht⟩) (fun _ h => absurd h List.not_mem_nil) dX2_isVertex_17
    · skip
      refine lv_iconst (v := 1) hx hb dX2_isVertex_12 (by decide) ?_
      refine lv_goto (tgt := 17) hx hb dX2_isVertex_13 (by decide) ?_
      exact W.zret (v := 1) hx hb hr rfl (fun t ht _ => ⟨oI (bI_tt (decide_eq_true ⟨c1, c9⟩)), ht⟩) (fun _ h => absurd h List.not_mem_nil) dX2_isVertex_17
theorem nX2_vertices_X2 : ∀ w ∈ wsX20, w ∈ wsX2_vertices := fun w h => List.mem_cons_of_mem _ (List.mem_append_right _ h)
set_option maxHeartbeats 4000000 in
set_option maxRecDepth 100000 in
theorem kX2_vertices (l : Launch) (D : va_G) (cI cZ : ClassId) (m0 aP ax ay afx afy atx aty wd hg cap n : Nat) (fr tt x0 x1 y0 y1 : Int32) (xs ys : Nat → Int32)  : Met l yX2_vertices wsX2_vertices ({ frames := 0, cells := 0, slots := 0, locals := 0 }) (va_Pc [.ref m0] (rdP D cI cZ [(m0, .inr (2, [.int (nI wd), .int (nI hg), .int (nI cap), .ref aP, .ref ax, .ref ay, .int (nI n), .ref afx, .ref afy, .ref atx, .ref aty, .int fr, .int tt, .int x0, .int x1, .int y0, .int y1])), (ax, .inl (cI, 60, .inl xs)), (ay, .inl (cI, 60, .inl ys))])) (QcRead (nI n)) 0 0 (fun _ => False) := by
  refine Met.ofW (cc := cX2_vertices) (maxL := 1) (ret := (some .int)) (by decide) rfl ?_
  intro p e s m args below meth c s₁ B hml hv
  obtain ⟨rfl, hP, hK⟩ := hv
  have hx := B.exec
  have hb := B.bytes
  have hr := B.returns
  have hts := atoms_spec (ws := wsX2_vertices) B.pre
  have hown : s.vm.findClass RX2 = some m.cls := findClass_of_methodNamed B.named
  have hlocks := B.notSynchronized
  have hP : va_P D vwCl [(m0, .inr (2, [.int (nI wd), .int (nI hg), .int (nI cap), .ref aP, .ref ax, .ref ay, .int (nI n), .ref afx, .ref afy, .ref atx, .ref aty, .int fr, .int tt, .int x0, .int x1, .int y0, .int y1])), (ax, .inl (cI, 60, .inl xs)), (ay, .inl (cI, 60, .inl ys))] s.heap := hP
  have hl := lv_entry ([.ref m0]) (n := 1) (Nat.le_of_ble_eq_true rfl)
  rw [lg_entry_eq]
  generalize (lg_sl ([.ref m0]) ++ List.replicate (1 - (lg_sl ([.ref m0])).length) Slot.unset).toArray = ls at hl ⊢
  have hl : lv_has ls 1 [(0, .ref m0)] := hl
  refine lv_aload_n hx hb dX2_vertices_0 rfl (lv_at hl 0 rfl) ?_
  refine va_get (D := D) (ci := 2) (v := .int (nI n)) (C := RX2) (T := TX2) (N := 17) hx hb hts nX2_vertices_X2 hown hK.1 hP 0 rfl rfl 6 (by decide) (hts (.fieldLink RX2 57 "PolygonFrameModel" "size" "I") (by decide +kernel)) (fun _ h9 => h9) rfl dX2_vertices_1 ?_
  exact W.iret (v := (nI n)) hx hb hr (fun t ht _ => ⟨rfl, ht⟩) (fun _ h => absurd h List.not_mem_nil) dX2_vertices_4
theorem nX2_vx_X2 : ∀ w ∈ wsX20, w ∈ wsX2_vx := fun w h => List.mem_cons_of_mem _ (List.mem_append_right _ h)
set_option maxHeartbeats 4000000 in
set_option maxRecDepth 100000 in
theorem kX2_vx (l : Launch) (D : va_G) (cI cZ : ClassId) (m0 aP ax ay afx afy atx aty wd hg cap n : Nat) (fr tt x0 x1 y0 y1 : Int32) (xs ys : Nat → Int32) (i : Int32) (hn : n ≤ 60) : Met l yX2_vx wsX2_vx ({ frames := 1, cells := 0, slots := 0, locals := 21 }) (va_Pc [.ref m0, .int i] (rdP D cI cZ [(m0, .inr (2, [.int (nI wd), .int (nI hg), .int (nI cap), .ref aP, .ref ax, .ref ay, .int (nI n), .ref afx, .ref afy, .ref atx, .ref aty, .int fr, .int tt, .int x0, .int x1, .int y0, .int y1])), (ax, .inl (cI, 60, .inl xs)), (ay, .inl (cI, 60, .inl ys))])) (QcRead (vxI xs n i)) 0 0 (fun _ => False) := by
  refine Met.ofW (cc := cX2_vx) (maxL := 2) (ret := (some .int)) (by decide) rfl ?_
  intro p e s m args below meth c s₁ B hml hv
  obtain ⟨rfl, hP, hK⟩ := hv
  have hx := B.exec
  have hb := B.bytes
  have hr := B.returns
  have hts := atoms_spec (ws := wsX2_vx) B.pre
  have hown : s.vm.findClass RX2 = some m.cls := findClass_of_methodNamed B.named
  have hlocks := B.notSynchronized
  have hP : va_P D vwCl [(m0, .inr (2, [.int (nI wd), .int (nI hg), .int (nI cap), .ref aP, .ref ax, .ref ay, .int (nI n), .ref afx, .ref afy, .ref atx, .ref aty, .int fr, .int tt, .int x0, .int x1, .int y0, .int y1])), (ax, .inl (cI, 60, .inl xs)), (ay, .inl (cI, 60, .inl ys))] s.heap := hP
  have hl := lv_entry ([.ref m0, .int i]) (n := 2) (Nat.le_of_ble_eq_true rfl)
  rw [lg_entry_eq]
  generalize (lg_sl ([.ref m0, .int i]) ++ List.replicate (2 - (lg_sl ([.ref m0, .int i])).length) Slot.unset).toArray = ls at hl ⊢
  have hl : lv_has ls 2 [(0, .ref m0), (1, .int i)] := hl
  refine lv_aload_n hx hb dX2_vx_0 rfl (lv_at hl 0 rfl) ?_
  refine lv_iload_n hx hb dX2_vx_1 rfl (lv_at hl 1 rfl) ?_
  refine rd_i (va_runV (As := [.int i]) ⟨hx, hb, hml, hown, hts⟩ (kX2_isVertex l D cI cZ m0 aP ax ay afx afy atx aty wd hg cap n fr tt x0 x1 y0 y1 xs ys i) (cwV 1 hts gX2_vx_X2_isVertex rfl rfl rfl (by decide +kernel) ⟨Nat.le_of_ble_eq_true rfl, Nat.le_of_ble_eq_true rfl⟩) (rd_preV (ci := 2) (q0 := 0) (hP.sub [0, 1, 2] rfl) hK rfl rfl) rfl rfl hl.1 rfl (lv_room (Nat.le_of_ble_eq_true rfl)) dX2_vx_2 ⟨Nat.zero_le _, Nat.zero_le _⟩) ?_
  refine lv_if_eq (tgt := 17) hx hb dX2_vx_5 (by decide) (fun c5 => ?_) (fun c5 => ?_)
  · skip
    refine lv_sipush (v := (-32768)) hx hb dX2_vx_17 (by decide) ?_
    exact W.iret (v := (-32768)) hx hb hr (fun t ht _ => ⟨oI (by rw [vxI, if_neg (by rw [bI_eq0.mp c5]; decide)]), ht⟩) (fun _ h => absurd h List.not_mem_nil) dX2_vx_20
  · skip
    obtain ⟨j, hj, rfl⟩ := hs_ix hn (bI_ne c5)
    refine lv_aload_n hx hb dX2_vx_8 rfl (lv_at hl 0 rfl) ?_
    refine va_get (D := D) (ci := 2) (v := .ref ax) (C := RX2) (T := TX2) (N := 17) hx hb hts nX2_vx_X2 hown hK.1 hP 0 rfl rfl 4 (by decide) (hts (.fieldLink RX2 13 "PolygonFrameModel" "xs" "[I") (by decide +kernel)) (fun _ h9 => h9) rfl dX2_vx_9 ?_
    refine lv_iload_n hx hb dX2_vx_12 rfl (lv_at hl 1 rfl) ?_
    refine q_iald (k := j) hx hb hK.1 hP 1 0 rfl rfl (by omega) (by omega) dX2_vx_13 ?_
    refine lv_goto (tgt := 20) hx hb dX2_vx_14 (by decide) ?_
    exact W.iret (v := (xs j)) hx hb hr (fun t ht _ => ⟨oI (by rw [vxI, if_pos (bI_ne c5), nI_clamp (by omega)]), ht⟩) (fun _ h => absurd h List.not_mem_nil) dX2_vx_20
theorem nX2_vy_X2 : ∀ w ∈ wsX20, w ∈ wsX2_vy := fun w h => List.mem_cons_of_mem _ (List.mem_append_right _ h)
set_option maxHeartbeats 4000000 in
set_option maxRecDepth 100000 in
theorem kX2_vy (l : Launch) (D : va_G) (cI cZ : ClassId) (m0 aP ax ay afx afy atx aty wd hg cap n : Nat) (fr tt x0 x1 y0 y1 : Int32) (xs ys : Nat → Int32) (i : Int32) (hn : n ≤ 60) : Met l yX2_vy wsX2_vy ({ frames := 1, cells := 0, slots := 0, locals := 21 }) (va_Pc [.ref m0, .int i] (rdP D cI cZ [(m0, .inr (2, [.int (nI wd), .int (nI hg), .int (nI cap), .ref aP, .ref ax, .ref ay, .int (nI n), .ref afx, .ref afy, .ref atx, .ref aty, .int fr, .int tt, .int x0, .int x1, .int y0, .int y1])), (ax, .inl (cI, 60, .inl xs)), (ay, .inl (cI, 60, .inl ys))])) (QcRead (vxI ys n i)) 0 0 (fun _ => False) := by
  refine Met.ofW (cc := cX2_vy) (maxL := 2) (ret := (some .int)) (by decide) rfl ?_
  intro p e s m args below meth c s₁ B hml hv
  obtain ⟨rfl, hP, hK⟩ := hv
  have hx := B.exec
  have hb := B.bytes
  have hr := B.returns
  have hts := atoms_spec (ws := wsX2_vy) B.pre
  have hown : s.vm.findClass RX2 = some m.cls := findClass_of_methodNamed B.named
  have hlocks := B.notSynchronized
  have hP : va_P D vwCl [(m0, .inr (2, [.int (nI wd), .int (nI hg), .int (nI cap), .ref aP, .ref ax, .ref ay, .int (nI n), .ref afx, .ref afy, .ref atx, .ref aty, .int fr, .int tt, .int x0, .int x1, .int y0, .int y1])), (ax, .inl (cI, 60, .inl xs)), (ay, .inl (cI, 60, .inl ys))] s.heap := hP
  have hl := lv_entry ([.ref m0, .int i]) (n := 2) (Nat.le_of_ble_eq_true rfl)
  rw [lg_entry_eq]
  generalize (lg_sl ([.ref m0, .int i]) ++ List.replicate (2 - (lg_sl ([.ref m0, .int i])).length) Slot.unset).toArray = ls at hl ⊢
  have hl : lv_has ls 2 [(0, .ref m0), (1, .int i)] := hl
  refine lv_aload_n hx hb dX2_vy_0 rfl (lv_at hl 0 rfl) ?_
  refine lv_iload_n hx hb dX2_vy_1 rfl (lv_at hl 1 rfl) ?_
  refine rd_i (va_runV (As := [.int i]) ⟨hx, hb, hml, hown, hts⟩ (kX2_isVertex l D cI cZ m0 aP ax ay afx afy atx aty wd hg cap n fr tt x0 x1 y0 y1 xs ys i) (cwV 1 hts gX2_vy_X2_isVertex rfl rfl rfl (by decide +kernel) ⟨Nat.le_of_ble_eq_true rfl, Nat.le_of_ble_eq_true rfl⟩) (rd_preV (ci := 2) (q0 := 0) (hP.sub [0, 1, 2] rfl) hK rfl rfl) rfl rfl hl.1 rfl (lv_room (Nat.le_of_ble_eq_true rfl)) dX2_vy_2 ⟨Nat.zero_le _, Nat.zero_le _⟩) ?_
  refine lv_if_eq (tgt := 17) hx hb dX2_vy_5 (by decide) (fun c5 => ?_) (fun c5 => ?_)
  · skip
    refine lv_sipush (v := (-32768)) hx hb dX2_vy_17 (by decide) ?_
    exact W.iret (v := (-32768)) hx hb hr (fun t ht _ => ⟨oI (by rw [vxI, if_neg (by rw [bI_eq0.mp c5]; decide)]), ht⟩) (fun _ h => absurd h List.not_mem_nil) dX2_vy_20
  · skip
    obtain ⟨j, hj, rfl⟩ := hs_ix hn (bI_ne c5)
    refine lv_aload_n hx hb dX2_vy_8 rfl (lv_at hl 0 rfl) ?_
    refine va_get (D := D) (ci := 2) (v := .ref ay) (C := RX2) (T := TX2) (N := 17) hx hb hts nX2_vy_X2 hown hK.1 hP 0 rfl rfl 5 (by decide) (hts (.fieldLink RX2 16 "PolygonFrameModel" "ys" "[I") (by decide +kernel)) (fun _ h9 => h9) rfl dX2_vy_9 ?_
    refine lv_iload_n hx hb dX2_vy_12 rfl (lv_at hl 1 rfl) ?_
    refine q_iald (k := j) hx hb hK.1 hP 2 0 rfl rfl (by omega) (by omega) dX2_vy_13 ?_
    refine lv_goto (tgt := 20) hx hb dX2_vy_14 (by decide) ?_
    exact W.iret (v := (ys j)) hx hb hr (fun t ht _ => ⟨oI (by rw [vxI, if_pos (bI_ne c5), nI_clamp (by omega)]), ht⟩) (fun _ h => absurd h List.not_mem_nil) dX2_vy_20
def dpI (side : Nat) (x y x0 x1 y0 y1 : Int32) : Int32 := if side = 0 then x - x0 else if side = 1 then x1 - x else if side = 2 then y - y0 else y1 - y
theorem nX2_depth_X2 : ∀ w ∈ wsX20, w ∈ wsX2_depth := fun w h => List.mem_cons_of_mem _ (List.mem_append_right _ h)
set_option maxHeartbeats 4000000 in
set_option maxRecDepth 100000 in
theorem kX2_depth (l : Launch) (D : va_G) (cI cZ : ClassId) (m0 aP ax ay afx afy atx aty wd hg cap n : Nat) (fr tt x0 x1 y0 y1 : Int32) (k : Nat) (x y : Int32) (hk : k < 4) : Met l yX2_depth wsX2_depth ({ frames := 0, cells := 0, slots := 0, locals := 0 }) (va_Pc [.ref m0, .int (nI k), .int x, .int y] (rdP D cI cZ [(m0, .inr (2, [.int (nI wd), .int (nI hg), .int (nI cap), .ref aP, .ref ax, .ref ay, .int (nI n), .ref afx, .ref afy, .ref atx, .ref aty, .int fr, .int tt, .int x0, .int x1, .int y0, .int y1]))])) (QcRead (dpI k x y x0 x1 y0 y1)) 0 0 (fun _ => False) := by
  refine Met.ofW (cc := cX2_depth) (maxL := 4) (ret := (some .int)) (by decide) rfl ?_
  intro p e s m args below meth c s₁ B hml hv
  obtain ⟨rfl, hP, hK⟩ := hv
  have hx := B.exec
  have hb := B.bytes
  have hr := B.returns
  have hts := atoms_spec (ws := wsX2_depth) B.pre
  have hown : s.vm.findClass RX2 = some m.cls := findClass_of_methodNamed B.named
  have hlocks := B.notSynchronized
  have hP : va_P D vwCl [(m0, .inr (2, [.int (nI wd), .int (nI hg), .int (nI cap), .ref aP, .ref ax, .ref ay, .int (nI n), .ref afx, .ref afy, .ref atx, .ref aty, .int fr, .int tt, .int x0, .int x1, .int y0, .int y1]))] s.heap := hP
  have hl := lv_entry ([.ref m0, .int (nI k), .int x, .int y]) (n := 4) (Nat.le_of_ble_eq_true rfl)
  rw [lg_entry_eq]
  generalize (lg_sl ([.ref m0, .int (nI k), .int x, .int y]) ++ List.replicate (4 - (lg_sl ([.ref m0, .int (nI k), .int x, .int y])).length) Slot.unset).toArray = ls at hl ⊢
  have hl : lv_has ls 4 [(0, .ref m0), (1, .int (nI k)), (2, .int x), (3, .int y)] := hl
  refine lv_iload_n hx hb dX2_depth_0 rfl (lv_at hl 1 rfl) ?_
  refine lv_if_ne (tgt := 13) hx hb dX2_depth_1 (by decide) (fun c1 => ?_) (fun c1 => ?_)
  · skip
    refine lv_iload_n hx hb dX2_depth_13 rfl (lv_at hl 1 rfl) ?_
    refine lv_iconst (v := 1) hx hb dX2_depth_14 (by decide) ?_
    refine lv_icmp_ne (tgt := 27) hx hb dX2_depth_15 (by decide) (fun c15 => ?_) (fun c15 => ?_)
    · skip
      refine lv_iload_n hx hb dX2_depth_27 rfl (lv_at hl 1 rfl) ?_
      refine lv_iconst (v := 2) hx hb dX2_depth_28 (by decide) ?_
      refine lv_icmp_ne (tgt := 41) hx hb dX2_depth_29 (by decide) (fun c29 => ?_) (fun c29 => ?_)
      · skip
        refine lv_aload_n hx hb dX2_depth_41 rfl (lv_at hl 0 rfl) ?_
        refine va_get (D := D) (ci := 2) (v := .int y1) (C := RX2) (T := TX2) (N := 17) hx hb hts nX2_depth_X2 hown hK.1 hP 0 rfl rfl 16 (by decide) (hts (.fieldLink RX2 41 "PolygonFrameModel" "top" "I") (by decide +kernel)) (fun _ h9 => h9) rfl dX2_depth_42 ?_
        refine lv_iload_n hx hb dX2_depth_45 rfl (lv_at hl 3 rfl) ?_
        refine lv_isub hx hb dX2_depth_46 ?_
        exact W.iret (v := (y1 - y)) hx hb hr (fun t ht _ => ⟨oI (by rw [dpI, if_neg (fun h => c1 (by rw [h]; rfl)), if_neg (fun h => c15 (by rw [h]; rfl)), if_neg (fun h => c29 (by rw [h]; rfl))]), ht⟩) (fun _ h => absurd h List.not_mem_nil) dX2_depth_47
      · skip
        refine lv_iload_n hx hb dX2_depth_32 rfl (lv_at hl 3 rfl) ?_
        refine lv_aload_n hx hb dX2_depth_33 rfl (lv_at hl 0 rfl) ?_
        refine va_get (D := D) (ci := 2) (v := .int y0) (C := RX2) (T := TX2) (N := 17) hx hb hts nX2_depth_X2 hown hK.1 hP 0 rfl rfl 15 (by decide) (hts (.fieldLink RX2 38 "PolygonFrameModel" "low" "I") (by decide +kernel)) (fun _ h9 => h9) rfl dX2_depth_34 ?_
        refine lv_isub hx hb dX2_depth_37 ?_
        refine lv_goto (tgt := 47) hx hb dX2_depth_38 (by decide) ?_
        exact W.iret (v := (y - y0)) hx hb hr (fun t ht _ => ⟨oI (by rw [dpI, if_neg (fun h => c1 (by rw [h]; rfl)), if_neg (fun h => c15 (by rw [h]; rfl)), if_pos ((nI_eq (a := k) (b := 2) (by omega) (by decide)).mp c29)]), ht⟩) (fun _ h => absurd h List.not_mem_nil) dX2_depth_47
    · skip
      refine lv_aload_n hx hb dX2_depth_18 rfl (lv_at hl 0 rfl) ?_
      refine va_get (D := D) (ci := 2) (v := .int x1) (C := RX2) (T := TX2) (N := 17) hx hb hts nX2_depth_X2 hown hK.1 hP 0 rfl rfl 14 (by decide) (hts (.fieldLink RX2 35 "PolygonFrameModel" "right" "I") (by decide +kernel)) (fun _ h9 => h9) rfl dX2_depth_19 ?_
      refine lv_iload_n hx hb dX2_depth_22 rfl (lv_at hl 2 rfl) ?_
      refine lv_isub hx hb dX2_depth_23 ?_
      refine lv_goto (tgt := 47) hx hb dX2_depth_24 (by decide) ?_
      exact W.iret (v := (x1 - x)) hx hb hr (fun t ht _ => ⟨oI (by rw [dpI, if_neg (fun h => c1 (by rw [h]; rfl)), if_pos ((nI_eq (a := k) (b := 1) (by omega) (by decide)).mp c15)]), ht⟩) (fun _ h => absurd h List.not_mem_nil) dX2_depth_47
  · skip
    refine lv_iload_n hx hb dX2_depth_4 rfl (lv_at hl 2 rfl) ?_
    refine lv_aload_n hx hb dX2_depth_5 rfl (lv_at hl 0 rfl) ?_
    refine va_get (D := D) (ci := 2) (v := .int x0) (C := RX2) (T := TX2) (N := 17) hx hb hts nX2_depth_X2 hown hK.1 hP 0 rfl rfl 13 (by decide) (hts (.fieldLink RX2 31 "PolygonFrameModel" "left" "I") (by decide +kernel)) (fun _ h9 => h9) rfl dX2_depth_6 ?_
    refine lv_isub hx hb dX2_depth_9 ?_
    refine lv_goto (tgt := 47) hx hb dX2_depth_10 (by decide) ?_
    exact W.iret (v := (x - x0)) hx hb hr (fun t ht _ => ⟨oI (by rw [dpI, if_pos ((nI_eq (a := k) (b := 0) (by omega) (by decide)).mp c1)]), ht⟩) (fun _ h => absurd h List.not_mem_nil) dX2_depth_47
def crM (a b c d x y : Int64) : Bool := if (0 < lg_cmp b y ↔ 0 < lg_cmp d y) then false else if 0 < lg_cmp b y then decide (¬ lg_cmp ((a - c) * (y - d)) ((x - c) * (b - d)) ≤ 0) else decide (¬ lg_cmp ((c - a) * (y - b)) ((x - a) * (d - b)) ≤ 0)
set_option maxHeartbeats 4000000 in
set_option maxRecDepth 100000 in
theorem kX2_crosses (l : Launch) (D : va_G) (cI cZ : ClassId) (a0 b0 c0 d0 x y : Int64)  : Met l yX2_crosses wsX2_crosses ({ frames := 0, cells := 0, slots := 0, locals := 0 }) (va_Pc [.long a0, .long b0, .long c0, .long d0, .long x, .long y] (fun _ => True)) (QcRead (bI (crM a0 b0 c0 d0 x y))) 0 0 (fun _ => False) := by
  refine Met.ofW (cc := cX2_crosses) (maxL := 21) (ret := (some .boolean)) (by decide) rfl ?_
  intro p e s m args below meth c s₁ B hml hv
  obtain ⟨rfl, -⟩ := hv
  have hx := B.exec
  have hb := B.bytes
  have hr := B.returns
  have hts := atoms_spec (ws := wsX2_crosses) B.pre
  have hown : s.vm.findClass RX2 = some m.cls := findClass_of_methodNamed B.named
  have hlocks := B.notSynchronized
  have hl := lv_entry ([.long a0, .long b0, .long c0, .long d0, .long x, .long y]) (n := 21) (Nat.le_of_ble_eq_true rfl)
  rw [lg_entry_eq]
  generalize (lg_sl ([.long a0, .long b0, .long c0, .long d0, .long x, .long y]) ++ List.replicate (21 - (lg_sl ([.long a0, .long b0, .long c0, .long d0, .long x, .long y])).length) Slot.unset).toArray = ls at hl ⊢
  have hl : lv_has ls 21 [(0, .long a0), (2, .long b0), (4, .long c0), (6, .long d0), (8, .long x), (10, .long y)] := hl
  refine lv_lload_n hx hb dX2_crosses_0 rfl (lv_at hl 1 rfl) ?_
  refine lv_lload hx hb dX2_crosses_1 (lv_at hl 5 rfl) ?_
  refine W.lcmp hx hb dX2_crosses_3 ?_
  refine lv_if_gt (tgt := 11) hx hb dX2_crosses_4 (by decide) (fun c4 => ?_) (fun c4 => ?_)
  · skip
    refine lv_iconst (v := 0) hx hb dX2_crosses_11 (by decide) ?_
    refine lv_lload hx hb dX2_crosses_12 (lv_at hl 3 rfl) ?_
    refine lv_lload hx hb dX2_crosses_14 (lv_at hl 5 rfl) ?_
    refine W.lcmp hx hb dX2_crosses_16 ?_
    refine lv_if_gt (tgt := 24) hx hb dX2_crosses_17 (by decide) (fun c17 => ?_) (fun c17 => ?_)
    · skip
      refine lv_iconst (v := 0) hx hb dX2_crosses_24 (by decide) ?_
      refine lv_icmp_ne (tgt := 30) hx hb dX2_crosses_25 (by decide) (fun c25 => absurd (by decide) c25) (fun c25 => ?_)
      refine lv_iconst (v := 0) hx hb dX2_crosses_28 (by decide) ?_
      exact W.zret (v := 0) hx hb hr rfl (fun t ht _ => ⟨oI (by rw [crM, if_pos (show (0 < lg_cmp b0 y ↔ 0 < lg_cmp d0 y) from ⟨fun _ => c17, fun _ => c4⟩)]; rfl), ht⟩) (fun _ h => absurd h List.not_mem_nil) dX2_crosses_29
    · skip
      refine lv_iconst (v := 1) hx hb dX2_crosses_20 (by decide) ?_
      refine lv_goto (tgt := 25) hx hb dX2_crosses_21 (by decide) ?_
      refine lv_icmp_ne (tgt := 30) hx hb dX2_crosses_25 (by decide) (fun c25 => ?_) (fun c25 => absurd c25 (by decide))
      refine lv_lload_n hx hb dX2_crosses_30 rfl (lv_at hl 1 rfl) ?_
      refine lv_lload hx hb dX2_crosses_31 (lv_at hl 5 rfl) ?_
      refine W.lcmp hx hb dX2_crosses_33 ?_
      refine lv_if_gt (tgt := 41) hx hb dX2_crosses_34 (by decide) (fun c34 => ?_) (fun c34 => absurd c4 c34)
      refine lv_iconst (v := 0) hx hb dX2_crosses_41 (by decide) ?_
      refine lv_istore (lv' := [(12, .int 0), (0, .long a0), (2, .long b0), (4, .long c0), (6, .long d0), (8, .long x), (10, .long y)]) hx hb dX2_crosses_42 hl (by decide) rfl (fun ls hl => ?_)
      refine lv_iload hx hb dX2_crosses_44 (lv_at hl 0 rfl) ?_
      refine lv_if_eq (tgt := 53) hx hb dX2_crosses_46 (by decide) (fun c46 => ?_) (fun c46 => absurd (by decide) c46)
      refine lv_lload hx hb dX2_crosses_53 (lv_at hl 3 rfl) ?_
      refine lv_lstore (lv' := [(13, .long c0), (12, .int 0), (0, .long a0), (2, .long b0), (4, .long c0), (6, .long d0), (8, .long x), (10, .long y)]) hx hb dX2_crosses_55 hl (by decide) rfl (fun ls hl => ?_)
      refine lv_iload hx hb dX2_crosses_57 (lv_at hl 1 rfl) ?_
      refine lv_if_eq (tgt := 66) hx hb dX2_crosses_59 (by decide) (fun c59 => ?_) (fun c59 => absurd (by decide) c59)
      refine lv_lload hx hb dX2_crosses_66 (lv_at hl 5 rfl) ?_
      refine lv_lstore (lv' := [(15, .long d0), (13, .long c0), (12, .int 0), (0, .long a0), (2, .long b0), (4, .long c0), (6, .long d0), (8, .long x), (10, .long y)]) hx hb dX2_crosses_68 hl (by decide) rfl (fun ls hl => ?_)
      refine lv_iload hx hb dX2_crosses_70 (lv_at hl 2 rfl) ?_
      refine lv_if_eq (tgt := 82) hx hb dX2_crosses_72 (by decide) (fun c72 => ?_) (fun c72 => absurd (by decide) c72)
      refine lv_lload_n hx hb dX2_crosses_82 rfl (lv_at hl 3 rfl) ?_
      refine lv_lload hx hb dX2_crosses_83 (lv_at hl 5 rfl) ?_
      refine lv_lsub hx hb dX2_crosses_85 ?_
      refine lv_lstore (lv' := [(17, .long (a0 - c0)), (15, .long d0), (13, .long c0), (12, .int 0), (0, .long a0), (2, .long b0), (4, .long c0), (6, .long d0), (8, .long x), (10, .long y)]) hx hb dX2_crosses_86 hl (by decide) rfl (fun ls hl => ?_)
      refine lv_iload hx hb dX2_crosses_88 (lv_at hl 3 rfl) ?_
      refine lv_if_eq (tgt := 100) hx hb dX2_crosses_90 (by decide) (fun c90 => ?_) (fun c90 => absurd (by decide) c90)
      refine lv_lload_n hx hb dX2_crosses_100 rfl (lv_at hl 5 rfl) ?_
      refine lv_lload hx hb dX2_crosses_101 (lv_at hl 7 rfl) ?_
      refine lv_lsub hx hb dX2_crosses_103 ?_
      refine lv_lstore (lv' := [(19, .long (b0 - d0)), (17, .long (a0 - c0)), (15, .long d0), (13, .long c0), (12, .int 0), (0, .long a0), (2, .long b0), (4, .long c0), (6, .long d0), (8, .long x), (10, .long y)]) hx hb dX2_crosses_104 hl (by decide) rfl (fun ls hl => ?_)
      refine lv_lload hx hb dX2_crosses_106 (lv_at hl 1 rfl) ?_
      refine lv_lload hx hb dX2_crosses_108 (lv_at hl 10 rfl) ?_
      refine lv_lload hx hb dX2_crosses_110 (lv_at hl 2 rfl) ?_
      refine lv_lsub hx hb dX2_crosses_112 ?_
      refine lv_lmul hx hb dX2_crosses_113 ?_
      refine lv_lload hx hb dX2_crosses_114 (lv_at hl 9 rfl) ?_
      refine lv_lload hx hb dX2_crosses_116 (lv_at hl 3 rfl) ?_
      refine lv_lsub hx hb dX2_crosses_118 ?_
      refine lv_lload hx hb dX2_crosses_119 (lv_at hl 0 rfl) ?_
      refine lv_lmul hx hb dX2_crosses_121 ?_
      refine W.lcmp hx hb dX2_crosses_122 ?_
      refine lv_if_le (tgt := 130) hx hb dX2_crosses_123 (by decide) (fun c123 => ?_) (fun c123 => ?_)
      · skip
        refine lv_iconst (v := 0) hx hb dX2_crosses_130 (by decide) ?_
        exact W.zret (v := 0) hx hb hr rfl (fun t ht _ => ⟨oI (by rw [crM, if_neg (show ¬ (0 < lg_cmp b0 y ↔ 0 < lg_cmp d0 y) from fun h => c17 (h.mp c4)), if_pos c4, decide_eq_false (fun h => h c123)]; rfl), ht⟩) (fun _ h => absurd h List.not_mem_nil) dX2_crosses_131
      · skip
        refine lv_iconst (v := 1) hx hb dX2_crosses_126 (by decide) ?_
        refine lv_goto (tgt := 131) hx hb dX2_crosses_127 (by decide) ?_
        exact W.zret (v := 1) hx hb hr rfl (fun t ht _ => ⟨oI (by rw [crM, if_neg (show ¬ (0 < lg_cmp b0 y ↔ 0 < lg_cmp d0 y) from fun h => c17 (h.mp c4)), if_pos c4, decide_eq_true c123]; rfl), ht⟩) (fun _ h => absurd h List.not_mem_nil) dX2_crosses_131
  · skip
    refine lv_iconst (v := 1) hx hb dX2_crosses_7 (by decide) ?_
    refine lv_goto (tgt := 12) hx hb dX2_crosses_8 (by decide) ?_
    refine lv_lload hx hb dX2_crosses_12 (lv_at hl 3 rfl) ?_
    refine lv_lload hx hb dX2_crosses_14 (lv_at hl 5 rfl) ?_
    refine W.lcmp hx hb dX2_crosses_16 ?_
    refine lv_if_gt (tgt := 24) hx hb dX2_crosses_17 (by decide) (fun c17 => ?_) (fun c17 => ?_)
    · skip
      refine lv_iconst (v := 0) hx hb dX2_crosses_24 (by decide) ?_
      refine lv_icmp_ne (tgt := 30) hx hb dX2_crosses_25 (by decide) (fun c25 => ?_) (fun c25 => absurd c25 (by decide))
      refine lv_lload_n hx hb dX2_crosses_30 rfl (lv_at hl 1 rfl) ?_
      refine lv_lload hx hb dX2_crosses_31 (lv_at hl 5 rfl) ?_
      refine W.lcmp hx hb dX2_crosses_33 ?_
      refine lv_if_gt (tgt := 41) hx hb dX2_crosses_34 (by decide) (fun c34 => absurd c34 c4) (fun c34 => ?_)
      refine lv_iconst (v := 1) hx hb dX2_crosses_37 (by decide) ?_
      refine lv_goto (tgt := 42) hx hb dX2_crosses_38 (by decide) ?_
      refine lv_istore (lv' := [(12, .int 1), (0, .long a0), (2, .long b0), (4, .long c0), (6, .long d0), (8, .long x), (10, .long y)]) hx hb dX2_crosses_42 hl (by decide) rfl (fun ls hl => ?_)
      refine lv_iload hx hb dX2_crosses_44 (lv_at hl 0 rfl) ?_
      refine lv_if_eq (tgt := 53) hx hb dX2_crosses_46 (by decide) (fun c46 => absurd c46 (by decide)) (fun c46 => ?_)
      refine lv_lload_n hx hb dX2_crosses_49 rfl (lv_at hl 1 rfl) ?_
      refine lv_goto (tgt := 55) hx hb dX2_crosses_50 (by decide) ?_
      refine lv_lstore (lv' := [(13, .long a0), (12, .int 1), (0, .long a0), (2, .long b0), (4, .long c0), (6, .long d0), (8, .long x), (10, .long y)]) hx hb dX2_crosses_55 hl (by decide) rfl (fun ls hl => ?_)
      refine lv_iload hx hb dX2_crosses_57 (lv_at hl 1 rfl) ?_
      refine lv_if_eq (tgt := 66) hx hb dX2_crosses_59 (by decide) (fun c59 => absurd c59 (by decide)) (fun c59 => ?_)
      refine lv_lload_n hx hb dX2_crosses_62 rfl (lv_at hl 3 rfl) ?_
      refine lv_goto (tgt := 68) hx hb dX2_crosses_63 (by decide) ?_
      refine lv_lstore (lv' := [(15, .long b0), (13, .long a0), (12, .int 1), (0, .long a0), (2, .long b0), (4, .long c0), (6, .long d0), (8, .long x), (10, .long y)]) hx hb dX2_crosses_68 hl (by decide) rfl (fun ls hl => ?_)
      refine lv_iload hx hb dX2_crosses_70 (lv_at hl 2 rfl) ?_
      refine lv_if_eq (tgt := 82) hx hb dX2_crosses_72 (by decide) (fun c72 => absurd c72 (by decide)) (fun c72 => ?_)
      refine lv_lload hx hb dX2_crosses_75 (lv_at hl 5 rfl) ?_
      refine lv_lload_n hx hb dX2_crosses_77 rfl (lv_at hl 3 rfl) ?_
      refine lv_lsub hx hb dX2_crosses_78 ?_
      refine lv_goto (tgt := 86) hx hb dX2_crosses_79 (by decide) ?_
      refine lv_lstore (lv' := [(17, .long (c0 - a0)), (15, .long b0), (13, .long a0), (12, .int 1), (0, .long a0), (2, .long b0), (4, .long c0), (6, .long d0), (8, .long x), (10, .long y)]) hx hb dX2_crosses_86 hl (by decide) rfl (fun ls hl => ?_)
      refine lv_iload hx hb dX2_crosses_88 (lv_at hl 3 rfl) ?_
      refine lv_if_eq (tgt := 100) hx hb dX2_crosses_90 (by decide) (fun c90 => absurd c90 (by decide)) (fun c90 => ?_)
      refine lv_lload hx hb dX2_crosses_93 (lv_at hl 7 rfl) ?_
      refine lv_lload_n hx hb dX2_crosses_95 rfl (lv_at hl 5 rfl) ?_
      refine lv_lsub hx hb dX2_crosses_96 ?_
      refine lv_goto (tgt := 104) hx hb dX2_crosses_97 (by decide) ?_
      refine lv_lstore (lv' := [(19, .long (d0 - b0)), (17, .long (c0 - a0)), (15, .long b0), (13, .long a0), (12, .int 1), (0, .long a0), (2, .long b0), (4, .long c0), (6, .long d0), (8, .long x), (10, .long y)]) hx hb dX2_crosses_104 hl (by decide) rfl (fun ls hl => ?_)
      refine lv_lload hx hb dX2_crosses_106 (lv_at hl 1 rfl) ?_
      refine lv_lload hx hb dX2_crosses_108 (lv_at hl 10 rfl) ?_
      refine lv_lload hx hb dX2_crosses_110 (lv_at hl 2 rfl) ?_
      refine lv_lsub hx hb dX2_crosses_112 ?_
      refine lv_lmul hx hb dX2_crosses_113 ?_
      refine lv_lload hx hb dX2_crosses_114 (lv_at hl 9 rfl) ?_
      refine lv_lload hx hb dX2_crosses_116 (lv_at hl 3 rfl) ?_
      refine lv_lsub hx hb dX2_crosses_118 ?_
      refine lv_lload hx hb dX2_crosses_119 (lv_at hl 0 rfl) ?_
      refine lv_lmul hx hb dX2_crosses_121 ?_
      refine W.lcmp hx hb dX2_crosses_122 ?_
      refine lv_if_le (tgt := 130) hx hb dX2_crosses_123 (by decide) (fun c123 => ?_) (fun c123 => ?_)
      · skip
        refine lv_iconst (v := 0) hx hb dX2_crosses_130 (by decide) ?_
        exact W.zret (v := 0) hx hb hr rfl (fun t ht _ => ⟨oI (by rw [crM, if_neg (show ¬ (0 < lg_cmp b0 y ↔ 0 < lg_cmp d0 y) from fun h => c4 (h.mpr c17)), if_neg c4, decide_eq_false (fun h => h c123)]; rfl), ht⟩) (fun _ h => absurd h List.not_mem_nil) dX2_crosses_131
      · skip
        refine lv_iconst (v := 1) hx hb dX2_crosses_126 (by decide) ?_
        refine lv_goto (tgt := 131) hx hb dX2_crosses_127 (by decide) ?_
        exact W.zret (v := 1) hx hb hr rfl (fun t ht _ => ⟨oI (by rw [crM, if_neg (show ¬ (0 < lg_cmp b0 y ↔ 0 < lg_cmp d0 y) from fun h => c4 (h.mpr c17)), if_neg c4, decide_eq_true c123]; rfl), ht⟩) (fun _ h => absurd h List.not_mem_nil) dX2_crosses_131
    · skip
      refine lv_iconst (v := 1) hx hb dX2_crosses_20 (by decide) ?_
      refine lv_goto (tgt := 25) hx hb dX2_crosses_21 (by decide) ?_
      refine lv_icmp_ne (tgt := 30) hx hb dX2_crosses_25 (by decide) (fun c25 => absurd (by decide) c25) (fun c25 => ?_)
      refine lv_iconst (v := 0) hx hb dX2_crosses_28 (by decide) ?_
      exact W.zret (v := 0) hx hb hr rfl (fun t ht _ => ⟨oI (by rw [crM, if_pos (show (0 < lg_cmp b0 y ↔ 0 < lg_cmp d0 y) from ⟨fun h => absurd h c4, fun h => absurd h c17⟩)]; rfl), ht⟩) (fun _ h => absurd h List.not_mem_nil) dX2_crosses_29
def nxM (n k : Nat) : Nat := if k + 1 = n then 0 else k + 1
theorem nxM_lt {n k : Nat} (h : k < n) : nxM n k < n := by unfold nxM; split <;> omega
def crQ (xs ys : Nat → Int32) (n : Nat) (x y : Int32) (k : Nat) : Bool := crM (xs k).toInt64 (ys k).toInt64 (xs (nxM n k)).toInt64 (ys (nxM n k)).toInt64 x.toInt64 y.toInt64
theorem nX2_inside_X2 : ∀ w ∈ wsX20, w ∈ wsX2_inside := fun w h => List.mem_cons_of_mem _ (List.mem_append_right _ h)
set_option maxHeartbeats 4000000 in
set_option maxRecDepth 100000 in
theorem kX2_inside (l : Launch) (D : va_G) (cI cZ : ClassId) (m0 aP ax ay afx afy atx aty wd hg cap n : Nat) (fr tt x0 x1 y0 y1 : Int32) (xs ys : Nat → Int32) (x y : Int32) (hn : n ≤ 60) : Met l yX2_inside wsX2_inside ({ frames := 1, cells := 0, slots := 0, locals := 40 }) (va_Pc [.ref m0, .int x, .int y] (rdP D cI cZ [(m0, .inr (2, [.int (nI wd), .int (nI hg), .int (nI cap), .ref aP, .ref ax, .ref ay, .int (nI n), .ref afx, .ref afy, .ref atx, .ref aty, .int fr, .int tt, .int x0, .int x1, .int y0, .int y1])), (ax, .inl (cI, 60, .inl xs)), (ay, .inl (cI, 60, .inl ys))])) (QcRead (bI (oddB (crQ xs ys n x y) n))) 0 0 (fun _ => False) := by
  refine Met.ofW (cc := cX2_inside) (maxL := 6) (ret := (some .boolean)) (by decide) rfl ?_
  intro p e s m args below meth c s₁ B hml hv
  obtain ⟨rfl, hP, hK⟩ := hv
  have hx := B.exec
  have hb := B.bytes
  have hr := B.returns
  have hts := atoms_spec (ws := wsX2_inside) B.pre
  have hown : s.vm.findClass RX2 = some m.cls := findClass_of_methodNamed B.named
  have hlocks := B.notSynchronized
  have hP : va_P D vwCl [(m0, .inr (2, [.int (nI wd), .int (nI hg), .int (nI cap), .ref aP, .ref ax, .ref ay, .int (nI n), .ref afx, .ref afy, .ref atx, .ref aty, .int fr, .int tt, .int x0, .int x1, .int y0, .int y1])), (ax, .inl (cI, 60, .inl xs)), (ay, .inl (cI, 60, .inl ys))] s.heap := hP
  have hl := lv_entry ([.ref m0, .int x, .int y]) (n := 6) (Nat.le_of_ble_eq_true rfl)
  rw [lg_entry_eq]
  generalize (lg_sl ([.ref m0, .int x, .int y]) ++ List.replicate (6 - (lg_sl ([.ref m0, .int x, .int y])).length) Slot.unset).toArray = ls at hl ⊢
  have hl : lv_has ls 6 [(0, .ref m0), (1, .int x), (2, .int y)] := hl
  have LOOP : ∀ (j k : Nat), k ≤ n → n < k + j → ∀ ls : Array Slot, lv_has ls 6 [(0, .ref m0), (1, .int x), (2, .int y), (3, .int (bI (oddB (crQ xs ys n x y) k))), (4, .int (nI k))] → W p l e ({ frames := 1, cells := 0, slots := 0, locals := 40 } : Room) s m #[.ref m0, .int x, .int y] below meth c s.heap [] 0 0 (MQ below (QcRead (bI (oddB (crQ xs ys n x y) n))) #[.ref m0, .int x, .int y] s 0 0 (fun _ => False)) (F0 m 5 ls []) := by
    intro j
    induction j with
    | zero => intro k h1 h2; omega
    | succ j ih =>
      intro k hk hkj ls hl
      refine lv_iload hx hb dX2_inside_5 (lv_at hl 4 rfl) ?_
      refine lv_aload_n hx hb dX2_inside_7 rfl (lv_at hl 0 rfl) ?_
      refine va_get (D := D) (ci := 2) (v := .int (nI n)) (C := RX2) (T := TX2) (N := 17) hx hb hts nX2_inside_X2 hown hK.1 hP 0 rfl rfl 6 (by decide) (hts (.fieldLink RX2 57 "PolygonFrameModel" "size" "I") (by decide +kernel)) (fun _ h9 => h9) rfl dX2_inside_8 ?_
      refine lv_icmp_ge (tgt := 93) hx hb dX2_inside_11 (by decide) (fun c11 => ?_) (fun c11 => ?_)
      · skip
        have hkn : k = n := Nat.le_antisymm hk ((nI_leI (by omega) (by omega)).mp c11)
        refine lv_iload_n hx hb dX2_inside_93 rfl (lv_at hl 3 rfl) ?_
        exact W.zret (v := (bI (oddB (crQ xs ys n x y) k))) hx hb hr (bI_nar _) (fun t ht _ => ⟨oI (by rw [hkn]), ht⟩) (fun _ h => absurd h List.not_mem_nil) dX2_inside_94
      · skip
        have hk2 : k < n := Nat.lt_of_not_le (fun h => c11 (nI_le h (by omega)))
        refine lv_iload hx hb dX2_inside_14 (lv_at hl 4 rfl) ?_
        refine lv_iconst (v := 1) hx hb dX2_inside_16 (by decide) ?_
        refine lv_iadd hx hb dX2_inside_17 ?_
        refine q_eq (nI_1 _) ?_
        refine lv_aload_n hx hb dX2_inside_18 rfl (lv_at hl 0 rfl) ?_
        refine va_get (D := D) (ci := 2) (v := .int (nI n)) (C := RX2) (T := TX2) (N := 17) hx hb hts nX2_inside_X2 hown hK.1 hP 0 rfl rfl 6 (by decide) (hts (.fieldLink RX2 57 "PolygonFrameModel" "size" "I") (by decide +kernel)) (fun _ h9 => h9) rfl dX2_inside_19 ?_
        refine lv_icmp_ne (tgt := 29) hx hb dX2_inside_22 (by decide) (fun c22 => ?_) (fun c22 => ?_)
        · skip
          refine lv_iload hx hb dX2_inside_29 (lv_at hl 4 rfl) ?_
          refine lv_iconst (v := 1) hx hb dX2_inside_31 (by decide) ?_
          refine lv_iadd hx hb dX2_inside_32 ?_
          refine q_eq (nI_1 _) ?_
          refine q_eq (show nI (k + 1) = nI (nxM n k) from by rw [nxM, if_neg (fun h => c22 (by rw [h]))]) ?_
          refine lv_istore (lv' := [(5, .int (nI (nxM n k))), (0, .ref m0), (1, .int x), (2, .int y), (3, .int (bI (oddB (crQ xs ys n x y) k))), (4, .int (nI k))]) hx hb dX2_inside_33 hl (by decide) rfl (fun ls hl => ?_)
          refine lv_aload_n hx hb dX2_inside_35 rfl (lv_at hl 1 rfl) ?_
          refine va_get (D := D) (ci := 2) (v := .ref ax) (C := RX2) (T := TX2) (N := 17) hx hb hts nX2_inside_X2 hown hK.1 hP 0 rfl rfl 4 (by decide) (hts (.fieldLink RX2 13 "PolygonFrameModel" "xs" "[I") (by decide +kernel)) (fun _ h9 => h9) rfl dX2_inside_36 ?_
          refine lv_iload hx hb dX2_inside_39 (lv_at hl 5 rfl) ?_
          refine q_iald (k := k) hx hb hK.1 hP 1 0 rfl rfl (by omega) (by omega) dX2_inside_41 ?_
          refine lv_i2l (v := ((xs k)).toInt64) hx hb dX2_inside_42 rfl ?_
          refine lv_aload_n hx hb dX2_inside_43 rfl (lv_at hl 1 rfl) ?_
          refine va_get (D := D) (ci := 2) (v := .ref ay) (C := RX2) (T := TX2) (N := 17) hx hb hts nX2_inside_X2 hown hK.1 hP 0 rfl rfl 5 (by decide) (hts (.fieldLink RX2 16 "PolygonFrameModel" "ys" "[I") (by decide +kernel)) (fun _ h9 => h9) rfl dX2_inside_44 ?_
          refine lv_iload hx hb dX2_inside_47 (lv_at hl 5 rfl) ?_
          refine q_iald (k := k) hx hb hK.1 hP 2 0 rfl rfl (by omega) (by omega) dX2_inside_49 ?_
          refine lv_i2l (v := ((ys k)).toInt64) hx hb dX2_inside_50 rfl ?_
          refine lv_aload_n hx hb dX2_inside_51 rfl (lv_at hl 1 rfl) ?_
          refine va_get (D := D) (ci := 2) (v := .ref ax) (C := RX2) (T := TX2) (N := 17) hx hb hts nX2_inside_X2 hown hK.1 hP 0 rfl rfl 4 (by decide) (hts (.fieldLink RX2 13 "PolygonFrameModel" "xs" "[I") (by decide +kernel)) (fun _ h9 => h9) rfl dX2_inside_52 ?_
          refine lv_iload hx hb dX2_inside_55 (lv_at hl 0 rfl) ?_
          refine q_iald (k := (nxM n k)) hx hb hK.1 hP 1 0 rfl rfl (Nat.lt_of_lt_of_le (nxM_lt hk2) hn) (by decide) dX2_inside_57 ?_
          refine lv_i2l (v := ((xs (nxM n k))).toInt64) hx hb dX2_inside_58 rfl ?_
          refine lv_aload_n hx hb dX2_inside_59 rfl (lv_at hl 1 rfl) ?_
          refine va_get (D := D) (ci := 2) (v := .ref ay) (C := RX2) (T := TX2) (N := 17) hx hb hts nX2_inside_X2 hown hK.1 hP 0 rfl rfl 5 (by decide) (hts (.fieldLink RX2 16 "PolygonFrameModel" "ys" "[I") (by decide +kernel)) (fun _ h9 => h9) rfl dX2_inside_60 ?_
          refine lv_iload hx hb dX2_inside_63 (lv_at hl 0 rfl) ?_
          refine q_iald (k := (nxM n k)) hx hb hK.1 hP 2 0 rfl rfl (Nat.lt_of_lt_of_le (nxM_lt hk2) hn) (by decide) dX2_inside_65 ?_
          refine lv_i2l (v := ((ys (nxM n k))).toInt64) hx hb dX2_inside_66 rfl ?_
          refine lv_iload_n hx hb dX2_inside_67 rfl (lv_at hl 2 rfl) ?_
          refine lv_i2l (v := (x).toInt64) hx hb dX2_inside_68 rfl ?_
          refine lv_iload_n hx hb dX2_inside_69 rfl (lv_at hl 3 rfl) ?_
          refine lv_i2l (v := (y).toInt64) hx hb dX2_inside_70 rfl ?_
          refine rd_i (va_runS (As := [.long (((xs k)).toInt64), .long (((ys k)).toInt64), .long (((xs (nxM n k))).toInt64), .long (((ys (nxM n k))).toInt64), .long ((x).toInt64), .long ((y).toInt64)]) ⟨hx, hb, hml, hown, hts⟩ (kX2_crosses l D cI cZ (((xs k)).toInt64) (((ys k)).toInt64) (((xs (nxM n k))).toInt64) (((ys (nxM n k))).toInt64) ((x).toInt64) ((y).toInt64)) (va_cwS 6 hts gX2_inside_X2_crosses rfl rfl rfl (by decide +kernel) ⟨Nat.le_of_ble_eq_true rfl, Nat.le_of_ble_eq_true rfl⟩) rd_pre0 rfl rfl hl.1 rfl (lv_room (Nat.le_of_ble_eq_true rfl)) dX2_inside_71 ⟨Nat.zero_le _, Nat.zero_le _⟩) ?_
          refine lv_if_eq (tgt := 87) hx hb dX2_inside_74 (by decide) (fun c74 => ?_) (fun c74 => ?_)
          · skip
            refine lv_iinc (v := (nI (k + 1))) (lv' := [(4, .int (nI (k + 1))), (5, .int (nI (nxM n k))), (0, .ref m0), (1, .int x), (2, .int y), (3, .int (bI (oddB (crQ xs ys n x y) k)))]) hx hb dX2_inside_87 hl (k := 5) rfl (nI_1 _) (by decide) rfl (fun ls hl => ?_)
            refine lv_goto (tgt := 5) hx hb dX2_inside_90 (by decide) ?_
            exact ih (k + 1) (by omega) (by omega) ls (by rw [odd_f (bI_eq0.mp c74)]; exact lv_sub hl [2, 3, 4, 5, 0] rfl)
          · skip
            refine lv_iload_n hx hb dX2_inside_77 rfl (lv_at hl 4 rfl) ?_
            refine lv_if_ne (tgt := 85) hx hb dX2_inside_78 (by decide) (fun c78 => ?_) (fun c78 => ?_)
            · skip
              refine lv_iconst (v := 0) hx hb dX2_inside_85 (by decide) ?_
              refine lv_istore_n (lv' := [(3, .int 0), (5, .int (nI (nxM n k))), (0, .ref m0), (1, .int x), (2, .int y), (4, .int (nI k))]) hx hb dX2_inside_86 rfl hl (by decide) rfl (fun ls hl => ?_)
              refine lv_iinc (v := (nI (k + 1))) (lv' := [(4, .int (nI (k + 1))), (3, .int 0), (5, .int (nI (nxM n k))), (0, .ref m0), (1, .int x), (2, .int y)]) hx hb dX2_inside_87 hl (k := 5) rfl (nI_1 _) (by decide) rfl (fun ls hl => ?_)
              refine lv_goto (tgt := 5) hx hb dX2_inside_90 (by decide) ?_
              exact ih (k + 1) (by omega) (by omega) ls (by rw [odd_t0 (bI_ne c74) (bI_ne c78)]; exact lv_sub hl [3, 4, 5, 1, 0] rfl)
            · skip
              refine lv_iconst (v := 1) hx hb dX2_inside_81 (by decide) ?_
              refine lv_goto (tgt := 86) hx hb dX2_inside_82 (by decide) ?_
              refine lv_istore_n (lv' := [(3, .int 1), (5, .int (nI (nxM n k))), (0, .ref m0), (1, .int x), (2, .int y), (4, .int (nI k))]) hx hb dX2_inside_86 rfl hl (by decide) rfl (fun ls hl => ?_)
              refine lv_iinc (v := (nI (k + 1))) (lv' := [(4, .int (nI (k + 1))), (3, .int 1), (5, .int (nI (nxM n k))), (0, .ref m0), (1, .int x), (2, .int y)]) hx hb dX2_inside_87 hl (k := 5) rfl (nI_1 _) (by decide) rfl (fun ls hl => ?_)
              refine lv_goto (tgt := 5) hx hb dX2_inside_90 (by decide) ?_
              exact ih (k + 1) (by omega) (by omega) ls (by rw [odd_t1 (bI_ne c74) (bI_eq0.mp c78)]; exact lv_sub hl [3, 4, 5, 1, 0] rfl)
        · skip
          refine lv_iconst (v := 0) hx hb dX2_inside_25 (by decide) ?_
          refine lv_goto (tgt := 33) hx hb dX2_inside_26 (by decide) ?_
          refine q_eq (show (0 : Int32) = nI (nxM n k) from by rw [nxM, if_pos ((nI_eq (by omega) (by omega)).mp c22)]; rfl) ?_
          refine lv_istore (lv' := [(5, .int (nI (nxM n k))), (0, .ref m0), (1, .int x), (2, .int y), (3, .int (bI (oddB (crQ xs ys n x y) k))), (4, .int (nI k))]) hx hb dX2_inside_33 hl (by decide) rfl (fun ls hl => ?_)
          refine lv_aload_n hx hb dX2_inside_35 rfl (lv_at hl 1 rfl) ?_
          refine va_get (D := D) (ci := 2) (v := .ref ax) (C := RX2) (T := TX2) (N := 17) hx hb hts nX2_inside_X2 hown hK.1 hP 0 rfl rfl 4 (by decide) (hts (.fieldLink RX2 13 "PolygonFrameModel" "xs" "[I") (by decide +kernel)) (fun _ h9 => h9) rfl dX2_inside_36 ?_
          refine lv_iload hx hb dX2_inside_39 (lv_at hl 5 rfl) ?_
          refine q_iald (k := k) hx hb hK.1 hP 1 0 rfl rfl (by omega) (by omega) dX2_inside_41 ?_
          refine lv_i2l (v := ((xs k)).toInt64) hx hb dX2_inside_42 rfl ?_
          refine lv_aload_n hx hb dX2_inside_43 rfl (lv_at hl 1 rfl) ?_
          refine va_get (D := D) (ci := 2) (v := .ref ay) (C := RX2) (T := TX2) (N := 17) hx hb hts nX2_inside_X2 hown hK.1 hP 0 rfl rfl 5 (by decide) (hts (.fieldLink RX2 16 "PolygonFrameModel" "ys" "[I") (by decide +kernel)) (fun _ h9 => h9) rfl dX2_inside_44 ?_
          refine lv_iload hx hb dX2_inside_47 (lv_at hl 5 rfl) ?_
          refine q_iald (k := k) hx hb hK.1 hP 2 0 rfl rfl (by omega) (by omega) dX2_inside_49 ?_
          refine lv_i2l (v := ((ys k)).toInt64) hx hb dX2_inside_50 rfl ?_
          refine lv_aload_n hx hb dX2_inside_51 rfl (lv_at hl 1 rfl) ?_
          refine va_get (D := D) (ci := 2) (v := .ref ax) (C := RX2) (T := TX2) (N := 17) hx hb hts nX2_inside_X2 hown hK.1 hP 0 rfl rfl 4 (by decide) (hts (.fieldLink RX2 13 "PolygonFrameModel" "xs" "[I") (by decide +kernel)) (fun _ h9 => h9) rfl dX2_inside_52 ?_
          refine lv_iload hx hb dX2_inside_55 (lv_at hl 0 rfl) ?_
          refine q_iald (k := (nxM n k)) hx hb hK.1 hP 1 0 rfl rfl (Nat.lt_of_lt_of_le (nxM_lt hk2) hn) (by decide) dX2_inside_57 ?_
          refine lv_i2l (v := ((xs (nxM n k))).toInt64) hx hb dX2_inside_58 rfl ?_
          refine lv_aload_n hx hb dX2_inside_59 rfl (lv_at hl 1 rfl) ?_
          refine va_get (D := D) (ci := 2) (v := .ref ay) (C := RX2) (T := TX2) (N := 17) hx hb hts nX2_inside_X2 hown hK.1 hP 0 rfl rfl 5 (by decide) (hts (.fieldLink RX2 16 "PolygonFrameModel" "ys" "[I") (by decide +kernel)) (fun _ h9 => h9) rfl dX2_inside_60 ?_
          refine lv_iload hx hb dX2_inside_63 (lv_at hl 0 rfl) ?_
          refine q_iald (k := (nxM n k)) hx hb hK.1 hP 2 0 rfl rfl (Nat.lt_of_lt_of_le (nxM_lt hk2) hn) (by decide) dX2_inside_65 ?_
          refine lv_i2l (v := ((ys (nxM n k))).toInt64) hx hb dX2_inside_66 rfl ?_
          refine lv_iload_n hx hb dX2_inside_67 rfl (lv_at hl 2 rfl) ?_
          refine lv_i2l (v := (x).toInt64) hx hb dX2_inside_68 rfl ?_
          refine lv_iload_n hx hb dX2_inside_69 rfl (lv_at hl 3 rfl) ?_
          refine lv_i2l (v := (y).toInt64) hx hb dX2_inside_70 rfl ?_
          refine rd_i (va_runS (As := [.long (((xs k)).toInt64), .long (((ys k)).toInt64), .long (((xs (nxM n k))).toInt64), .long (((ys (nxM n k))).toInt64), .long ((x).toInt64), .long ((y).toInt64)]) ⟨hx, hb, hml, hown, hts⟩ (kX2_crosses l D cI cZ (((xs k)).toInt64) (((ys k)).toInt64) (((xs (nxM n k))).toInt64) (((ys (nxM n k))).toInt64) ((x).toInt64) ((y).toInt64)) (va_cwS 6 hts gX2_inside_X2_crosses rfl rfl rfl (by decide +kernel) ⟨Nat.le_of_ble_eq_true rfl, Nat.le_of_ble_eq_true rfl⟩) rd_pre0 rfl rfl hl.1 rfl (lv_room (Nat.le_of_ble_eq_true rfl)) dX2_inside_71 ⟨Nat.zero_le _, Nat.zero_le _⟩) ?_
          refine lv_if_eq (tgt := 87) hx hb dX2_inside_74 (by decide) (fun c74 => ?_) (fun c74 => ?_)
          · skip
            refine lv_iinc (v := (nI (k + 1))) (lv' := [(4, .int (nI (k + 1))), (5, .int (nI (nxM n k))), (0, .ref m0), (1, .int x), (2, .int y), (3, .int (bI (oddB (crQ xs ys n x y) k)))]) hx hb dX2_inside_87 hl (k := 5) rfl (nI_1 _) (by decide) rfl (fun ls hl => ?_)
            refine lv_goto (tgt := 5) hx hb dX2_inside_90 (by decide) ?_
            exact ih (k + 1) (by omega) (by omega) ls (by rw [odd_f (bI_eq0.mp c74)]; exact lv_sub hl [2, 3, 4, 5, 0] rfl)
          · skip
            refine lv_iload_n hx hb dX2_inside_77 rfl (lv_at hl 4 rfl) ?_
            refine lv_if_ne (tgt := 85) hx hb dX2_inside_78 (by decide) (fun c78 => ?_) (fun c78 => ?_)
            · skip
              refine lv_iconst (v := 0) hx hb dX2_inside_85 (by decide) ?_
              refine lv_istore_n (lv' := [(3, .int 0), (5, .int (nI (nxM n k))), (0, .ref m0), (1, .int x), (2, .int y), (4, .int (nI k))]) hx hb dX2_inside_86 rfl hl (by decide) rfl (fun ls hl => ?_)
              refine lv_iinc (v := (nI (k + 1))) (lv' := [(4, .int (nI (k + 1))), (3, .int 0), (5, .int (nI (nxM n k))), (0, .ref m0), (1, .int x), (2, .int y)]) hx hb dX2_inside_87 hl (k := 5) rfl (nI_1 _) (by decide) rfl (fun ls hl => ?_)
              refine lv_goto (tgt := 5) hx hb dX2_inside_90 (by decide) ?_
              exact ih (k + 1) (by omega) (by omega) ls (by rw [odd_t0 (bI_ne c74) (bI_ne c78)]; exact lv_sub hl [3, 4, 5, 1, 0] rfl)
            · skip
              refine lv_iconst (v := 1) hx hb dX2_inside_81 (by decide) ?_
              refine lv_goto (tgt := 86) hx hb dX2_inside_82 (by decide) ?_
              refine lv_istore_n (lv' := [(3, .int 1), (5, .int (nI (nxM n k))), (0, .ref m0), (1, .int x), (2, .int y), (4, .int (nI k))]) hx hb dX2_inside_86 rfl hl (by decide) rfl (fun ls hl => ?_)
              refine lv_iinc (v := (nI (k + 1))) (lv' := [(4, .int (nI (k + 1))), (3, .int 1), (5, .int (nI (nxM n k))), (0, .ref m0), (1, .int x), (2, .int y)]) hx hb dX2_inside_87 hl (k := 5) rfl (nI_1 _) (by decide) rfl (fun ls hl => ?_)
              refine lv_goto (tgt := 5) hx hb dX2_inside_90 (by decide) ?_
              exact ih (k + 1) (by omega) (by omega) ls (by rw [odd_t1 (bI_ne c74) (bI_eq0.mp c78)]; exact lv_sub hl [3, 4, 5, 1, 0] rfl)
  refine lv_iconst (v := 0) hx hb dX2_inside_0 (by decide) ?_
  refine lv_istore_n (lv' := [(3, .int 0), (0, .ref m0), (1, .int x), (2, .int y)]) hx hb dX2_inside_1 rfl hl (by decide) rfl (fun ls hl => ?_)
  refine lv_iconst (v := 0) hx hb dX2_inside_2 (by decide) ?_
  refine lv_istore (lv' := [(4, .int 0), (3, .int 0), (0, .ref m0), (1, .int x), (2, .int y)]) hx hb dX2_inside_3 hl (by decide) rfl (fun ls hl => ?_)
  exact LOOP (n + 1) 0 (Nat.zero_le _) (by omega) ls (lv_sub hl [2, 3, 4, 1, 0] rfl)
theorem nX2_pixel_X2 : ∀ w ∈ wsX20, w ∈ wsX2_pixel := fun w h => List.mem_cons_of_mem _ (List.mem_append_right _ h)
set_option maxHeartbeats 4000000 in
set_option maxRecDepth 100000 in
theorem kX2_pixel (l : Launch) (D : va_G) (cI cZ : ClassId) (m0 aP ax ay afx afy atx aty wd hg cap n : Nat) (fr tt x0 x1 y0 y1 : Int32) (col : Nat → Int32) (x y : Int32) (hw : wd ≤ 24) (hh : hg ≤ 24) : Met l yX2_pixel wsX2_pixel ({ frames := 0, cells := 0, slots := 0, locals := 0 }) (va_Pc [.ref m0, .int x, .int y] (rdP D cI cZ [(m0, .inr (2, [.int (nI wd), .int (nI hg), .int (nI cap), .ref aP, .ref ax, .ref ay, .int (nI n), .ref afx, .ref afy, .ref atx, .ref aty, .int fr, .int tt, .int x0, .int x1, .int y0, .int y1])), (aP, .inl (cI, 576, .inl col))])) (QcRead (pxI col (nI wd) (nI hg) x y (fun i j => 24 * j + i))) 0 0 (fun _ => False) := by
  refine Met.ofW (cc := cX2_pixel) (maxL := 3) (ret := (some .int)) (by decide) rfl ?_
  intro p e s m args below meth c s₁ B hml hv
  obtain ⟨rfl, hP, hK⟩ := hv
  have hx := B.exec
  have hb := B.bytes
  have hr := B.returns
  have hts := atoms_spec (ws := wsX2_pixel) B.pre
  have hown : s.vm.findClass RX2 = some m.cls := findClass_of_methodNamed B.named
  have hlocks := B.notSynchronized
  have hP : va_P D vwCl [(m0, .inr (2, [.int (nI wd), .int (nI hg), .int (nI cap), .ref aP, .ref ax, .ref ay, .int (nI n), .ref afx, .ref afy, .ref atx, .ref aty, .int fr, .int tt, .int x0, .int x1, .int y0, .int y1])), (aP, .inl (cI, 576, .inl col))] s.heap := hP
  have hl := lv_entry ([.ref m0, .int x, .int y]) (n := 3) (Nat.le_of_ble_eq_true rfl)
  rw [lg_entry_eq]
  generalize (lg_sl ([.ref m0, .int x, .int y]) ++ List.replicate (3 - (lg_sl ([.ref m0, .int x, .int y])).length) Slot.unset).toArray = ls at hl ⊢
  have hl : lv_has ls 3 [(0, .ref m0), (1, .int x), (2, .int y)] := hl
  refine lv_iload_n hx hb dX2_pixel_0 rfl (lv_at hl 1 rfl) ?_
  refine lv_if_lt (tgt := 38) hx hb dX2_pixel_1 (by decide) (fun c1 => ?_) (fun c1 => ?_)
  · skip
    refine lv_iconst (v := (-1)) hx hb dX2_pixel_38 (by decide) ?_
    exact W.iret (v := (-1)) hx hb hr (fun t ht _ => ⟨oI (by rw [pxI, if_neg (fun h => h.1 c1)]), ht⟩) (fun _ h => absurd h List.not_mem_nil) dX2_pixel_39
  · skip
    refine lv_iload_n hx hb dX2_pixel_4 rfl (lv_at hl 1 rfl) ?_
    refine lv_aload_n hx hb dX2_pixel_5 rfl (lv_at hl 0 rfl) ?_
    refine va_get (D := D) (ci := 2) (v := .int (nI wd)) (C := RX2) (T := TX2) (N := 17) hx hb hts nX2_pixel_X2 hown hK.1 hP 0 rfl rfl 0 (by decide) (hts (.fieldLink RX2 48 "PolygonFrameModel" "wide" "I") (by decide +kernel)) (fun _ h9 => h9) rfl dX2_pixel_6 ?_
    refine lv_icmp_ge (tgt := 38) hx hb dX2_pixel_9 (by decide) (fun c9 => ?_) (fun c9 => ?_)
    · skip
      refine lv_iconst (v := (-1)) hx hb dX2_pixel_38 (by decide) ?_
      exact W.iret (v := (-1)) hx hb hr (fun t ht _ => ⟨oI (by rw [pxI, if_neg (fun h => h.2.1 c9)]), ht⟩) (fun _ h => absurd h List.not_mem_nil) dX2_pixel_39
    · skip
      refine lv_iload_n hx hb dX2_pixel_12 rfl (lv_at hl 2 rfl) ?_
      refine lv_if_lt (tgt := 38) hx hb dX2_pixel_13 (by decide) (fun c13 => ?_) (fun c13 => ?_)
      · skip
        refine lv_iconst (v := (-1)) hx hb dX2_pixel_38 (by decide) ?_
        exact W.iret (v := (-1)) hx hb hr (fun t ht _ => ⟨oI (by rw [pxI, if_neg (fun h => h.2.2.1 c13)]), ht⟩) (fun _ h => absurd h List.not_mem_nil) dX2_pixel_39
      · skip
        refine lv_iload_n hx hb dX2_pixel_16 rfl (lv_at hl 2 rfl) ?_
        refine lv_aload_n hx hb dX2_pixel_17 rfl (lv_at hl 0 rfl) ?_
        refine va_get (D := D) (ci := 2) (v := .int (nI hg)) (C := RX2) (T := TX2) (N := 17) hx hb hts nX2_pixel_X2 hown hK.1 hP 0 rfl rfl 1 (by decide) (hts (.fieldLink RX2 51 "PolygonFrameModel" "high" "I") (by decide +kernel)) (fun _ h9 => h9) rfl dX2_pixel_18 ?_
        refine lv_icmp_ge (tgt := 38) hx hb dX2_pixel_21 (by decide) (fun c21 => ?_) (fun c21 => ?_)
        · skip
          refine lv_iconst (v := (-1)) hx hb dX2_pixel_38 (by decide) ?_
          exact W.iret (v := (-1)) hx hb hr (fun t ht _ => ⟨oI (by rw [pxI, if_neg (fun h => h.2.2.2 c21)]), ht⟩) (fun _ h => absurd h List.not_mem_nil) dX2_pixel_39
        · skip
          obtain ⟨i, hi, rfl⟩ := ge_ix (by omega) c1 c9
          obtain ⟨j, hj, rfl⟩ := ge_ix (by omega) c13 c21
          refine lv_aload_n hx hb dX2_pixel_24 rfl (lv_at hl 0 rfl) ?_
          refine va_get (D := D) (ci := 2) (v := .ref aP) (C := RX2) (T := TX2) (N := 17) hx hb hts nX2_pixel_X2 hown hK.1 hP 0 rfl rfl 3 (by decide) (hts (.fieldLink RX2 7 "PolygonFrameModel" "pixels" "[I") (by decide +kernel)) (fun _ h9 => h9) rfl dX2_pixel_25 ?_
          refine lv_bipush (v := 24) hx hb dX2_pixel_28 (by decide) ?_
          refine lv_iload_n hx hb dX2_pixel_30 rfl (lv_at hl 2 rfl) ?_
          refine lv_imul hx hb dX2_pixel_31 ?_
          refine lv_iload_n hx hb dX2_pixel_32 rfl (lv_at hl 1 rfl) ?_
          refine lv_iadd hx hb dX2_pixel_33 ?_
          refine q_eq (show 24 * nI j + nI i = nI (24 * j + i) by rw [← nI_add, ← pk_mul]; rfl) ?_
          refine q_iald (k := (24 * j + i)) hx hb hK.1 hP 1 0 rfl rfl (by omega) (by omega) dX2_pixel_34 ?_
          refine lv_goto (tgt := 39) hx hb dX2_pixel_35 (by decide) ?_
          exact W.iret (v := (col (24 * j + i))) hx hb hr (fun t ht _ => ⟨oI (by rw [pxI, if_pos ⟨c1, c9, c13, c21⟩, nI_clamp (by omega), nI_clamp (by omega)]), ht⟩) (fun _ h => absurd h List.not_mem_nil) dX2_pixel_39
end
section
/-! WRITERS: a ring's append; begin, vertex, setClip, clear on both sides; add and cut of the reference. -/
theorem nX0_append_X0 : ∀ w ∈ wsX00, w ∈ wsX0_append := fun w h => List.mem_cons_of_mem _ (List.mem_append_right _ h)
set_option maxHeartbeats 4000000 in
set_option maxRecDepth 100000 in
theorem kX0_append (l : Launch) (D : va_G) (cI cZ : ClassId) (sz : Nat) (r0 ax ay n cap : Nat) (xs ys : Nat → Int32) (x y : Int32) (hn : n ≤ cap) (hc : cap ≤ 60) : Met l yX0_append wsX0_append ({ frames := 0, cells := 0, slots := 0, locals := 0 }) (va_Pc [.ref r0, .int x, .int y] (wrP D cI cZ sz [(r0, .inr (0, [.ref ax, .ref ay, .int (nI n)])), (ax, .inl (cI, cap, .inl xs)), (ay, .inl (cI, cap, .inl ys))])) (va_Qi (S := Nat × (Nat → Int32) × (Nat → Int32)) (fun r u => (n < cap ∧ r = 1 ∧ u = (n + 1, upd xs n x, upd ys n y)) ∨ (cap ≤ n ∧ r = 0 ∧ u = (n, xs, ys))) (wrB D [(r0, .inr (0, [.ref ax, .ref ay, .int (nI n)])), (ax, .inl (cI, cap, .inl xs)), (ay, .inl (cI, cap, .inl ys))] sz (fun u => [(r0, .inr (0, [.ref ax, .ref ay, .int (nI u.1)])), (ax, .inl (cI, cap, .inl u.2.1)), (ay, .inl (cI, cap, .inl u.2.2))])) (va_A [(r0, .inr (0, [.ref ax, .ref ay, .int (nI n)])), (ax, .inl (cI, cap, .inl xs)), (ay, .inl (cI, cap, .inl ys))] sz)) 0 0 (va_A [(r0, .inr (0, [.ref ax, .ref ay, .int (nI n)])), (ax, .inl (cI, cap, .inl xs)), (ay, .inl (cI, cap, .inl ys))] sz) := by
  refine Met.ofW (cc := cX0_append) (maxL := 3) (ret := (some .boolean)) (by decide) rfl ?_
  intro p e s m args below meth c s₁ B hml hv
  obtain ⟨rfl, hsz, hP, hK, hD0⟩ := hv
  have hx := B.exec
  have hb := B.bytes
  have hr := B.returns
  have hts := atoms_spec (ws := wsX0_append) B.pre
  have hown : s.vm.findClass RX0 = some m.cls := findClass_of_methodNamed B.named
  have hlocks := B.notSynchronized
  subst hsz
  have hD := hD0.self (sz := s.heap.size)
  generalize hAe : va_A [(r0, .inr (0, [.ref ax, .ref ay, .int (nI n)])), (ax, .inl (cI, cap, .inl xs)), (ay, .inl (cI, cap, .inl ys))] s.heap.size = A at hD ⊢
  have hA : ∀ q : Nat, s.heap.size ≤ q → A q := fun q h => by rw [← hAe]; exact Or.inr h
  have hS : va_S A s.heap s.heap [] := va_S.rf
  have hP : va_P D vwCl [(r0, .inr (0, [.ref ax, .ref ay, .int (nI n)])), (ax, .inl (cI, cap, .inl xs)), (ay, .inl (cI, cap, .inl ys))] s.heap := hP
  have hl := lv_entry ([.ref r0, .int x, .int y]) (n := 3) (Nat.le_of_ble_eq_true rfl)
  rw [lg_entry_eq]
  generalize (lg_sl ([.ref r0, .int x, .int y]) ++ List.replicate (3 - (lg_sl ([.ref r0, .int x, .int y])).length) Slot.unset).toArray = ls at hl ⊢
  have hl : lv_has ls 3 [(0, .ref r0), (1, .int x), (2, .int y)] := hl
  refine lv_aload_n hx hb dX0_append_0 rfl (lv_at hl 0 rfl) ?_
  refine va_get (D := D) (ci := 0) (v := .int (nI n)) (C := RX0) (T := TX0) (N := 3) hx hb hts nX0_append_X0 hown hK.1 hP 0 rfl rfl 2 (by decide) (hts (.fieldLink RX0 16 "PolygonFrame$Ring" "count" "I") (by decide +kernel)) (fun _ h9 => h9) rfl dX0_append_1 ?_
  refine lv_aload_n hx hb dX0_append_4 rfl (lv_at hl 0 rfl) ?_
  refine va_get (D := D) (ci := 0) (v := .ref ax) (C := RX0) (T := TX0) (N := 3) hx hb hts nX0_append_X0 hown hK.1 hP 0 rfl rfl 0 (by decide) (hts (.fieldLink RX0 7 "PolygonFrame$Ring" "xs" "[I") (by decide +kernel)) (fun _ h9 => h9) rfl dX0_append_5 ?_
  refine va_alen (v := (nI cap)) hx hb hK.1 hP 1 0 rfl rfl rfl dX0_append_8 ?_
  refine lv_icmp_lt (tgt := 14) hx hb dX0_append_9 (by decide) (fun c9 => ?_) (fun c9 => ?_)
  · skip
    have hlt : n < cap := (nI_ltI (by omega) (by omega)).mp c9
    refine lv_aload_n hx hb dX0_append_14 rfl (lv_at hl 0 rfl) ?_
    refine va_get (D := D) (ci := 0) (v := .ref ax) (C := RX0) (T := TX0) (N := 3) hx hb hts nX0_append_X0 hown hK.1 hP 0 rfl rfl 0 (by decide) (hts (.fieldLink RX0 7 "PolygonFrame$Ring" "xs" "[I") (by decide +kernel)) (fun _ h9 => h9) rfl dX0_append_15 ?_
    refine lv_aload_n hx hb dX0_append_18 rfl (lv_at hl 0 rfl) ?_
    refine va_get (D := D) (ci := 0) (v := .int (nI n)) (C := RX0) (T := TX0) (N := 3) hx hb hts nX0_append_X0 hown hK.1 hP 0 rfl rfl 2 (by decide) (hts (.fieldLink RX0 16 "PolygonFrame$Ring" "count" "I") (by decide +kernel)) (fun _ h9 => h9) rfl dX0_append_19 ?_
    refine lv_iload_n hx hb dX0_append_22 rfl (lv_at hl 1 rfl) ?_
    refine q_iast (k := n) hx hb hK.1 hP hD hS 1 0 rfl rfl (by omega) (by omega) dX0_append_23 (fun H locs hP hD hS => ?_)
    have hP : va_P D vwCl [(r0, .inr (0, [.ref ax, .ref ay, .int (nI n)])), (ax, .inl (cI, cap, .inl (upd xs n x))), (ay, .inl (cI, cap, .inl ys))] H := hP
    have hD : va_D A [(r0, .inr (0, [.ref ax, .ref ay, .int (nI n)])), (ax, .inl (cI, cap, .inl (upd xs n x))), (ay, .inl (cI, cap, .inl ys))] := hD
    refine lv_aload_n hx hb dX0_append_24 rfl (lv_at hl 0 rfl) ?_
    refine va_get (D := D) (ci := 0) (v := .ref ay) (C := RX0) (T := TX0) (N := 3) hx hb hts nX0_append_X0 hown hK.1 hP 0 rfl rfl 1 (by decide) (hts (.fieldLink RX0 13 "PolygonFrame$Ring" "ys" "[I") (by decide +kernel)) (fun _ h9 => h9) rfl dX0_append_25 ?_
    refine lv_aload_n hx hb dX0_append_28 rfl (lv_at hl 0 rfl) ?_
    refine va_get (D := D) (ci := 0) (v := .int (nI n)) (C := RX0) (T := TX0) (N := 3) hx hb hts nX0_append_X0 hown hK.1 hP 0 rfl rfl 2 (by decide) (hts (.fieldLink RX0 16 "PolygonFrame$Ring" "count" "I") (by decide +kernel)) (fun _ h9 => h9) rfl dX0_append_29 ?_
    refine lv_iload_n hx hb dX0_append_32 rfl (lv_at hl 2 rfl) ?_
    refine q_iast (k := n) hx hb hK.1 hP hD hS 2 0 rfl rfl (by omega) (by omega) dX0_append_33 (fun H locs hP hD hS => ?_)
    have hP : va_P D vwCl [(r0, .inr (0, [.ref ax, .ref ay, .int (nI n)])), (ax, .inl (cI, cap, .inl (upd xs n x))), (ay, .inl (cI, cap, .inl (upd ys n y)))] H := hP
    have hD : va_D A [(r0, .inr (0, [.ref ax, .ref ay, .int (nI n)])), (ax, .inl (cI, cap, .inl (upd xs n x))), (ay, .inl (cI, cap, .inl (upd ys n y)))] := hD
    refine lv_aload_n hx hb dX0_append_34 rfl (lv_at hl 0 rfl) ?_
    refine lv_dup hx hb dX0_append_35 rfl ?_
    refine va_get (D := D) (ci := 0) (v := .int (nI n)) (C := RX0) (T := TX0) (N := 3) hx hb hts nX0_append_X0 hown hK.1 hP 0 rfl rfl 2 (by decide) (hts (.fieldLink RX0 16 "PolygonFrame$Ring" "count" "I") (by decide +kernel)) (fun _ h9 => h9) rfl dX0_append_36 ?_
    refine lv_iconst (v := 1) hx hb dX0_append_39 (by decide) ?_
    refine lv_iadd hx hb dX0_append_40 ?_
    refine q_eq (nI_1 _) ?_
    refine va_put (D := D) (ci := 0) (v := .int (nI (n + 1))) (ty := .int) (C := RX0) (T := TX0) (N := 3) hx hb hts nX0_append_X0 tyX0 tyX0_ok nmX0 hown hK.1 hP hD hS 0 rfl rfl 2 (by decide) (hts (.fieldLink RX0 16 "PolygonFrame$Ring" "count" "I") (by decide +kernel)) (fun _ h9 => h9) rfl (tyX0_ok 2 (by decide)) rfl rfl (Nat.le_of_ble_eq_true rfl) dX0_append_41 (fun H locs hP hD hS => ?_)
    have hP : va_P D vwCl [(r0, .inr (0, [.ref ax, .ref ay, .int (nI (n + 1))])), (ax, .inl (cI, cap, .inl (upd xs n x))), (ay, .inl (cI, cap, .inl (upd ys n y)))] H := hP
    have hD : va_D A [(r0, .inr (0, [.ref ax, .ref ay, .int (nI (n + 1))])), (ax, .inl (cI, cap, .inl (upd xs n x))), (ay, .inl (cI, cap, .inl (upd ys n y)))] := hD
    refine lv_iconst (v := 1) hx hb dX0_append_44 (by decide) ?_
    exact W.zret (v := 1) hx hb hr rfl (fun t ht hW => ⟨⟨1, (n + 1, upd xs n x, upd ys n y), rfl, Or.inl ⟨hlt, rfl, rfl⟩, by rw [ht]; exact hP, by rw [hAe]; exact hD⟩, hS.F ht⟩) hS.2.2 dX0_append_45
  · skip
    refine lv_iconst (v := 0) hx hb dX0_append_12 (by decide) ?_
    exact W.zret (v := 0) hx hb hr rfl (fun t ht hW => ⟨⟨0, (n, xs, ys), rfl, Or.inr ⟨Nat.le_of_not_lt (fun h => c9 (nI_lt h (by omega))), rfl, rfl⟩, by rw [ht]; exact hP, by rw [hAe]; exact hD⟩, hS.F ht⟩) hS.2.2 dX0_append_13
theorem nX1_begin_X1 : ∀ w ∈ wsX10, w ∈ wsX1_begin := fun w h => List.mem_cons_of_mem _ (List.mem_append_left _ (List.mem_append_right _ h))
theorem nX1_begin_X0 : ∀ w ∈ wsX00, w ∈ wsX1_begin := fun w h => List.mem_cons_of_mem _ (List.mem_append_right _ h)
set_option maxHeartbeats 4000000 in
set_option maxRecDepth 100000 in
theorem kX1_begin (l : Launch) (D : va_G) (cI cZ : ClassId) (sz : Nat) (p0 aC aT aS r0 rO rE wd hg : Nat) (ax ay n : Nat)  : Met l yX1_begin wsX1_begin ({ frames := 0, cells := 0, slots := 0, locals := 0 }) (va_Pc [.ref p0] (wrP D cI cZ sz [(p0, .inr (1, [.int (nI wd), .int (nI hg), .ref aC, .ref aT, .ref aS, .ref r0, .ref rO, .ref rE])), (r0, .inr (0, [.ref ax, .ref ay, .int (nI n)]))])) (va_Qv (S := Unit) (fun _ => True) (wrB D [(p0, .inr (1, [.int (nI wd), .int (nI hg), .ref aC, .ref aT, .ref aS, .ref r0, .ref rO, .ref rE])), (r0, .inr (0, [.ref ax, .ref ay, .int (nI n)]))] sz (fun _ => [(p0, .inr (1, [.int (nI wd), .int (nI hg), .ref aC, .ref aT, .ref aS, .ref r0, .ref rO, .ref rE])), (r0, .inr (0, [.ref ax, .ref ay, .int (nI 0)]))])) (va_A [(p0, .inr (1, [.int (nI wd), .int (nI hg), .ref aC, .ref aT, .ref aS, .ref r0, .ref rO, .ref rE])), (r0, .inr (0, [.ref ax, .ref ay, .int (nI n)]))] sz)) 0 0 (va_A [(p0, .inr (1, [.int (nI wd), .int (nI hg), .ref aC, .ref aT, .ref aS, .ref r0, .ref rO, .ref rE])), (r0, .inr (0, [.ref ax, .ref ay, .int (nI n)]))] sz) := by
  refine Met.ofW (cc := cX1_begin) (maxL := 1) (ret := none) (by decide) rfl ?_
  intro p e s m args below meth c s₁ B hml hv
  obtain ⟨rfl, hsz, hP, hK, hD0⟩ := hv
  have hx := B.exec
  have hb := B.bytes
  have hr := B.returns
  have hts := atoms_spec (ws := wsX1_begin) B.pre
  have hown : s.vm.findClass RX1 = some m.cls := findClass_of_methodNamed B.named
  have hlocks := B.notSynchronized
  subst hsz
  have hD := hD0.self (sz := s.heap.size)
  generalize hAe : va_A [(p0, .inr (1, [.int (nI wd), .int (nI hg), .ref aC, .ref aT, .ref aS, .ref r0, .ref rO, .ref rE])), (r0, .inr (0, [.ref ax, .ref ay, .int (nI n)]))] s.heap.size = A at hD ⊢
  have hA : ∀ q : Nat, s.heap.size ≤ q → A q := fun q h => by rw [← hAe]; exact Or.inr h
  have hS : va_S A s.heap s.heap [] := va_S.rf
  have hP : va_P D vwCl [(p0, .inr (1, [.int (nI wd), .int (nI hg), .ref aC, .ref aT, .ref aS, .ref r0, .ref rO, .ref rE])), (r0, .inr (0, [.ref ax, .ref ay, .int (nI n)]))] s.heap := hP
  have hl := lv_entry ([.ref p0]) (n := 1) (Nat.le_of_ble_eq_true rfl)
  rw [lg_entry_eq]
  generalize (lg_sl ([.ref p0]) ++ List.replicate (1 - (lg_sl ([.ref p0])).length) Slot.unset).toArray = ls at hl ⊢
  have hl : lv_has ls 1 [(0, .ref p0)] := hl
  refine lv_aload_n hx hb dX1_begin_0 rfl (lv_at hl 0 rfl) ?_
  refine va_get (D := D) (ci := 1) (v := .ref r0) (C := RX1) (T := TX1) (N := 8) hx hb hts nX1_begin_X1 hown hK.1 hP 0 rfl rfl 5 (by decide) (hts (.fieldLink RX1 36 "PolygonFrame" "polygon" "LPolygonFrame$Ring;") (by decide +kernel)) (fun _ h9 => h9) rfl dX1_begin_1 ?_
  refine lv_iconst (v := 0) hx hb dX1_begin_4 (by decide) ?_
  refine va_putN (D := D) (ci := 0) (v := .int 0) (ty := .int) (C := RX0) (T := TX0) (N := 3) hx hb hts nX1_begin_X0 tyX0 tyX0_ok nmX0 hown hK.1 hP hD hS 1 rfl rfl 2 (by decide) (hK.2.count _) (fun _ h9 => h9) rfl (tyX0_ok 2 (by decide)) rfl rfl (Nat.le_of_ble_eq_true rfl) dX1_begin_5 (fun H locs hP hD hS => ?_)
  have hP : va_P D vwCl [(p0, .inr (1, [.int (nI wd), .int (nI hg), .ref aC, .ref aT, .ref aS, .ref r0, .ref rO, .ref rE])), (r0, .inr (0, [.ref ax, .ref ay, .int 0]))] H := hP
  have hD : va_D A [(p0, .inr (1, [.int (nI wd), .int (nI hg), .ref aC, .ref aT, .ref aS, .ref r0, .ref rO, .ref rE])), (r0, .inr (0, [.ref ax, .ref ay, .int 0]))] := hD
  exact W.vret hx hb hr (fun t ht hW => ⟨⟨(), rfl, trivial, by rw [ht]; exact hP, by rw [hAe]; exact hD⟩, hS.F ht⟩) hS.2.2 dX1_begin_8
theorem nX1_vertex_X1 : ∀ w ∈ wsX10, w ∈ wsX1_vertex := fun w h => List.mem_cons_of_mem _ (List.mem_append_left _ (List.mem_append_right _ h))
theorem nX1_vertex_X0 : ∀ w ∈ wsX00, w ∈ wsX1_vertex := fun w h => List.mem_cons_of_mem _ (List.mem_append_right _ h)
set_option maxHeartbeats 4000000 in
set_option maxRecDepth 100000 in
theorem kX1_vertex (l : Launch) (D : va_G) (cI cZ : ClassId) (sz : Nat) (p0 aC aT aS r0 rO rE wd hg : Nat) (ax ay n cap : Nat) (xs ys : Nat → Int32) (x y : Int32) (hn : n ≤ cap) (hc : cap ≤ 60) : Met l yX1_vertex wsX1_vertex ({ frames := 1, cells := 0, slots := 0, locals := 40 }) (va_Pc [.ref p0, .int x, .int y] (wrP D cI cZ sz [(p0, .inr (1, [.int (nI wd), .int (nI hg), .ref aC, .ref aT, .ref aS, .ref r0, .ref rO, .ref rE])), (r0, .inr (0, [.ref ax, .ref ay, .int (nI n)])), (ax, .inl (cI, cap, .inl xs)), (ay, .inl (cI, cap, .inl ys))])) (va_Qi (S := Nat × (Nat → Int32) × (Nat → Int32)) (fun r u => ((coB x = true ∧ coB y = true ∧ n < cap) ∧ r = 1 ∧ u = (n + 1, upd xs n x, upd ys n y)) ∨ (¬ (coB x = true ∧ coB y = true ∧ n < cap) ∧ r = 0 ∧ u = (n, xs, ys))) (wrB D [(p0, .inr (1, [.int (nI wd), .int (nI hg), .ref aC, .ref aT, .ref aS, .ref r0, .ref rO, .ref rE])), (r0, .inr (0, [.ref ax, .ref ay, .int (nI n)])), (ax, .inl (cI, cap, .inl xs)), (ay, .inl (cI, cap, .inl ys))] sz (fun u => [(p0, .inr (1, [.int (nI wd), .int (nI hg), .ref aC, .ref aT, .ref aS, .ref r0, .ref rO, .ref rE])), (r0, .inr (0, [.ref ax, .ref ay, .int (nI u.1)])), (ax, .inl (cI, cap, .inl u.2.1)), (ay, .inl (cI, cap, .inl u.2.2))])) (va_A [(p0, .inr (1, [.int (nI wd), .int (nI hg), .ref aC, .ref aT, .ref aS, .ref r0, .ref rO, .ref rE])), (r0, .inr (0, [.ref ax, .ref ay, .int (nI n)])), (ax, .inl (cI, cap, .inl xs)), (ay, .inl (cI, cap, .inl ys))] sz)) 0 0 (va_A [(p0, .inr (1, [.int (nI wd), .int (nI hg), .ref aC, .ref aT, .ref aS, .ref r0, .ref rO, .ref rE])), (r0, .inr (0, [.ref ax, .ref ay, .int (nI n)])), (ax, .inl (cI, cap, .inl xs)), (ay, .inl (cI, cap, .inl ys))] sz) := by
  refine Met.ofW (cc := cX1_vertex) (maxL := 3) (ret := (some .boolean)) (by decide) rfl ?_
  intro p e s m args below meth c s₁ B hml hv
  obtain ⟨rfl, hsz, hP, hK, hD0⟩ := hv
  have hx := B.exec
  have hb := B.bytes
  have hr := B.returns
  have hts := atoms_spec (ws := wsX1_vertex) B.pre
  have hown : s.vm.findClass RX1 = some m.cls := findClass_of_methodNamed B.named
  have hlocks := B.notSynchronized
  subst hsz
  have hD := hD0.self (sz := s.heap.size)
  generalize hAe : va_A [(p0, .inr (1, [.int (nI wd), .int (nI hg), .ref aC, .ref aT, .ref aS, .ref r0, .ref rO, .ref rE])), (r0, .inr (0, [.ref ax, .ref ay, .int (nI n)])), (ax, .inl (cI, cap, .inl xs)), (ay, .inl (cI, cap, .inl ys))] s.heap.size = A at hD ⊢
  have hA : ∀ q : Nat, s.heap.size ≤ q → A q := fun q h => by rw [← hAe]; exact Or.inr h
  have hS : va_S A s.heap s.heap [] := va_S.rf
  have hP : va_P D vwCl [(p0, .inr (1, [.int (nI wd), .int (nI hg), .ref aC, .ref aT, .ref aS, .ref r0, .ref rO, .ref rE])), (r0, .inr (0, [.ref ax, .ref ay, .int (nI n)])), (ax, .inl (cI, cap, .inl xs)), (ay, .inl (cI, cap, .inl ys))] s.heap := hP
  have hl := lv_entry ([.ref p0, .int x, .int y]) (n := 3) (Nat.le_of_ble_eq_true rfl)
  rw [lg_entry_eq]
  generalize (lg_sl ([.ref p0, .int x, .int y]) ++ List.replicate (3 - (lg_sl ([.ref p0, .int x, .int y])).length) Slot.unset).toArray = ls at hl ⊢
  have hl : lv_has ls 3 [(0, .ref p0), (1, .int x), (2, .int y)] := hl
  refine lv_iload_n hx hb dX1_vertex_0 rfl (lv_at hl 1 rfl) ?_
  refine rd_i (va_runS (As := [.int x]) ⟨hx, hb, hml, hown, hts⟩ (kX1_isCoordinate l D cI cZ x) (va_cwS 1 hts gX1_vertex_X1_isCoordinate rfl rfl rfl (by decide +kernel) ⟨Nat.le_of_ble_eq_true rfl, Nat.le_of_ble_eq_true rfl⟩) rd_pre0 rfl rfl hl.1 rfl (lv_room (Nat.le_of_ble_eq_true rfl)) dX1_vertex_1 ⟨Nat.zero_le _, Nat.zero_le _⟩) ?_
  refine lv_if_eq (tgt := 30) hx hb dX1_vertex_4 (by decide) (fun c4 => ?_) (fun c4 => ?_)
  · skip
    refine lv_iconst (v := 0) hx hb dX1_vertex_30 (by decide) ?_
    exact W.zret (v := 0) hx hb hr rfl (fun t ht hW => ⟨⟨0, (n, xs, ys), rfl, Or.inr ⟨fun h => by rw [bI_eq0.mp c4] at h; exact absurd h.1 (by decide), rfl, rfl⟩, by rw [ht]; exact hP, by rw [hAe]; exact hD⟩, hS.F ht⟩) hS.2.2 dX1_vertex_31
  · skip
    refine lv_iload_n hx hb dX1_vertex_7 rfl (lv_at hl 2 rfl) ?_
    refine rd_i (va_runS (As := [.int y]) ⟨hx, hb, hml, hown, hts⟩ (kX1_isCoordinate l D cI cZ y) (va_cwS 1 hts gX1_vertex_X1_isCoordinate rfl rfl rfl (by decide +kernel) ⟨Nat.le_of_ble_eq_true rfl, Nat.le_of_ble_eq_true rfl⟩) rd_pre0 rfl rfl hl.1 rfl (lv_room (Nat.le_of_ble_eq_true rfl)) dX1_vertex_8 ⟨Nat.zero_le _, Nat.zero_le _⟩) ?_
    refine lv_if_eq (tgt := 30) hx hb dX1_vertex_11 (by decide) (fun c11 => ?_) (fun c11 => ?_)
    · skip
      refine lv_iconst (v := 0) hx hb dX1_vertex_30 (by decide) ?_
      exact W.zret (v := 0) hx hb hr rfl (fun t ht hW => ⟨⟨0, (n, xs, ys), rfl, Or.inr ⟨fun h => by rw [bI_eq0.mp c11] at h; exact absurd h.2.1 (by decide), rfl, rfl⟩, by rw [ht]; exact hP, by rw [hAe]; exact hD⟩, hS.F ht⟩) hS.2.2 dX1_vertex_31
    · skip
      refine lv_aload_n hx hb dX1_vertex_14 rfl (lv_at hl 0 rfl) ?_
      refine va_get (D := D) (ci := 1) (v := .ref r0) (C := RX1) (T := TX1) (N := 8) hx hb hts nX1_vertex_X1 hown hK.1 hP 0 rfl rfl 5 (by decide) (hts (.fieldLink RX1 36 "PolygonFrame" "polygon" "LPolygonFrame$Ring;") (by decide +kernel)) (fun _ h9 => h9) rfl dX1_vertex_15 ?_
      refine lv_iload_n hx hb dX1_vertex_18 rfl (lv_at hl 1 rfl) ?_
      refine lv_iload_n hx hb dX1_vertex_19 rfl (lv_at hl 2 rfl) ?_
      refine wr_i (wr := [(p0, .inr (1, [.int (nI wd), .int (nI hg), .ref aC, .ref aT, .ref aS, .ref r0, .ref rO, .ref rE]))]) hP hD hS hA [1, 2, 3] [0] rfl rfl (by decide) (by decide) (va_runVN (C := RX0) (As := [.int x, .int y]) ⟨hx, hb, hml, hown, hts⟩ (kX0_append l D cI cZ s.heap.size r0 ax ay n cap xs ys x y hn hc) ⟨va_cnB 2 hts gX1_vertex_X0_append_n59 rfl rfl rfl hK.2.2.2.2.2.1 (hts (.initialized RX0) (by decide +kernel)) (by decide +kernel) ⟨Nat.le_of_ble_eq_true rfl, Nat.le_of_ble_eq_true rfl⟩, hts (.instanceMethod yX0_append) (by decide +kernel), hts (.selects RX0 yX0_append yX0_append) (by decide +kernel)⟩ (wr_preV (ci := 0) (q0 := 0) (hP.sub [1, 2, 3] rfl) hK (hD.sub [1, 2, 3] (by decide) rfl) rfl rfl) rfl rfl hl.1 rfl (lv_room (Nat.le_of_ble_eq_true rfl)) dX1_vertex_20 ⟨Nat.zero_le _, Nat.zero_le _⟩) (fun r1 u1 H locs hw1 hP hD hS => ?_)
      rcases hw1 with ⟨hw, rfl, rfl⟩ | ⟨hw, rfl, rfl⟩
      · skip
        replace hP : va_P D vwCl [(p0, .inr (1, [.int (nI wd), .int (nI hg), .ref aC, .ref aT, .ref aS, .ref r0, .ref rO, .ref rE])), (r0, .inr (0, [.ref ax, .ref ay, .int (nI (n + 1))])), (ax, .inl (cI, cap, .inl (upd xs n x))), (ay, .inl (cI, cap, .inl (upd ys n y)))] H := hP.sub [0, 1, 2, 3] rfl
        replace hD : va_D A [(p0, .inr (1, [.int (nI wd), .int (nI hg), .ref aC, .ref aT, .ref aS, .ref r0, .ref rO, .ref rE])), (r0, .inr (0, [.ref ax, .ref ay, .int (nI (n + 1))])), (ax, .inl (cI, cap, .inl (upd xs n x))), (ay, .inl (cI, cap, .inl (upd ys n y)))] := hD.sub [0, 1, 2, 3] (by decide) rfl
        refine lv_if_eq (tgt := 30) hx hb dX1_vertex_23 (by decide) (fun c23 => absurd c23 (by decide)) (fun c23 => ?_)
        refine lv_iconst (v := 1) hx hb dX1_vertex_26 (by decide) ?_
        refine lv_goto (tgt := 31) hx hb dX1_vertex_27 (by decide) ?_
        exact W.zret (v := 1) hx hb hr rfl (fun t ht hW => ⟨⟨1, (n + 1, upd xs n x, upd ys n y), rfl, Or.inl ⟨⟨bI_ne c4, bI_ne c11, hw⟩, rfl, rfl⟩, by rw [ht]; exact hP, by rw [hAe]; exact hD⟩, hS.F ht⟩) hS.2.2 dX1_vertex_31
      · skip
        replace hP : va_P D vwCl [(p0, .inr (1, [.int (nI wd), .int (nI hg), .ref aC, .ref aT, .ref aS, .ref r0, .ref rO, .ref rE])), (r0, .inr (0, [.ref ax, .ref ay, .int (nI n)])), (ax, .inl (cI, cap, .inl xs)), (ay, .inl (cI, cap, .inl ys))] H := hP.sub [0, 1, 2, 3] rfl
        replace hD : va_D A [(p0, .inr (1, [.int (nI wd), .int (nI hg), .ref aC, .ref aT, .ref aS, .ref r0, .ref rO, .ref rE])), (r0, .inr (0, [.ref ax, .ref ay, .int (nI n)])), (ax, .inl (cI, cap, .inl xs)), (ay, .inl (cI, cap, .inl ys))] := hD.sub [0, 1, 2, 3] (by decide) rfl
        refine lv_if_eq (tgt := 30) hx hb dX1_vertex_23 (by decide) (fun c23 => ?_) (fun c23 => absurd (by decide) c23)
        refine lv_iconst (v := 0) hx hb dX1_vertex_30 (by decide) ?_
        exact W.zret (v := 0) hx hb hr rfl (fun t ht hW => ⟨⟨0, (n, xs, ys), rfl, Or.inr ⟨fun h => absurd h.2.2 (Nat.not_lt.mpr hw), rfl, rfl⟩, by rw [ht]; exact hP, by rw [hAe]; exact hD⟩, hS.F ht⟩) hS.2.2 dX1_vertex_31
theorem nX1_setClip_X1 : ∀ w ∈ wsX10, w ∈ wsX1_setClip := fun w h => List.mem_cons_of_mem _ (List.mem_append_right _ h)
set_option maxHeartbeats 4000000 in
set_option maxRecDepth 100000 in
theorem kX1_setClip (l : Launch) (D : va_G) (cI cZ : ClassId) (sz : Nat) (p0 aC aT aS rP rO rE wd hg : Nat) (sd : Nat → Int32) (x0 y0 x1 y1 : Int32)  : Met l yX1_setClip wsX1_setClip ({ frames := 2, cells := 0, slots := 0, locals := 60 }) (va_Pc [.ref p0, .int x0, .int y0, .int x1, .int y1] (wrP D cI cZ sz [(p0, .inr (1, [.int (nI wd), .int (nI hg), .ref aC, .ref aT, .ref aS, .ref rP, .ref rO, .ref rE])), (aS, .inl (cI, 4, .inl sd))])) (va_Qi (S := Nat → Int32) (fun r u => ((rgB x0 x1 = true ∧ rgB y0 y1 = true) ∧ r = 1 ∧ u = upd (upd (upd (upd sd 0 x0) 1 x1) 2 y0) 3 y1) ∨ (¬ (rgB x0 x1 = true ∧ rgB y0 y1 = true) ∧ r = 0 ∧ u = sd)) (wrB D [(p0, .inr (1, [.int (nI wd), .int (nI hg), .ref aC, .ref aT, .ref aS, .ref rP, .ref rO, .ref rE])), (aS, .inl (cI, 4, .inl sd))] sz (fun u => [(p0, .inr (1, [.int (nI wd), .int (nI hg), .ref aC, .ref aT, .ref aS, .ref rP, .ref rO, .ref rE])), (aS, .inl (cI, 4, .inl u))])) (va_A [(p0, .inr (1, [.int (nI wd), .int (nI hg), .ref aC, .ref aT, .ref aS, .ref rP, .ref rO, .ref rE])), (aS, .inl (cI, 4, .inl sd))] sz)) 0 0 (va_A [(p0, .inr (1, [.int (nI wd), .int (nI hg), .ref aC, .ref aT, .ref aS, .ref rP, .ref rO, .ref rE])), (aS, .inl (cI, 4, .inl sd))] sz) := by
  refine Met.ofW (cc := cX1_setClip) (maxL := 5) (ret := (some .boolean)) (by decide) rfl ?_
  intro p e s m args below meth c s₁ B hml hv
  obtain ⟨rfl, hsz, hP, hK, hD0⟩ := hv
  have hx := B.exec
  have hb := B.bytes
  have hr := B.returns
  have hts := atoms_spec (ws := wsX1_setClip) B.pre
  have hown : s.vm.findClass RX1 = some m.cls := findClass_of_methodNamed B.named
  have hlocks := B.notSynchronized
  subst hsz
  have hD := hD0.self (sz := s.heap.size)
  generalize hAe : va_A [(p0, .inr (1, [.int (nI wd), .int (nI hg), .ref aC, .ref aT, .ref aS, .ref rP, .ref rO, .ref rE])), (aS, .inl (cI, 4, .inl sd))] s.heap.size = A at hD ⊢
  have hA : ∀ q : Nat, s.heap.size ≤ q → A q := fun q h => by rw [← hAe]; exact Or.inr h
  have hS : va_S A s.heap s.heap [] := va_S.rf
  have hP : va_P D vwCl [(p0, .inr (1, [.int (nI wd), .int (nI hg), .ref aC, .ref aT, .ref aS, .ref rP, .ref rO, .ref rE])), (aS, .inl (cI, 4, .inl sd))] s.heap := hP
  have hl := lv_entry ([.ref p0, .int x0, .int y0, .int x1, .int y1]) (n := 5) (Nat.le_of_ble_eq_true rfl)
  rw [lg_entry_eq]
  generalize (lg_sl ([.ref p0, .int x0, .int y0, .int x1, .int y1]) ++ List.replicate (5 - (lg_sl ([.ref p0, .int x0, .int y0, .int x1, .int y1])).length) Slot.unset).toArray = ls at hl ⊢
  have hl : lv_has ls 5 [(0, .ref p0), (1, .int x0), (2, .int y0), (3, .int x1), (4, .int y1)] := hl
  refine lv_iload_n hx hb dX1_setClip_0 rfl (lv_at hl 1 rfl) ?_
  refine lv_iload_n hx hb dX1_setClip_1 rfl (lv_at hl 3 rfl) ?_
  refine rd_i (va_runS (As := [.int x0, .int x1]) ⟨hx, hb, hml, hown, hts⟩ (kX1_isRange l D cI cZ x0 x1) (va_cwS 2 hts gX1_setClip_X1_isRange rfl rfl rfl (by decide +kernel) ⟨Nat.le_of_ble_eq_true rfl, Nat.le_of_ble_eq_true rfl⟩) rd_pre0 rfl rfl hl.1 rfl (lv_room (Nat.le_of_ble_eq_true rfl)) dX1_setClip_2 ⟨Nat.zero_le _, Nat.zero_le _⟩) ?_
  refine lv_if_eq (tgt := 17) hx hb dX1_setClip_5 (by decide) (fun c5 => ?_) (fun c5 => ?_)
  · skip
    refine lv_iconst (v := 0) hx hb dX1_setClip_17 (by decide) ?_
    exact W.zret (v := 0) hx hb hr rfl (fun t ht hW => ⟨⟨0, sd, rfl, Or.inr ⟨fun h => by rw [bI_eq0.mp c5] at h; exact absurd h.1 (by decide), rfl, rfl⟩, by rw [ht]; exact hP, by rw [hAe]; exact hD⟩, hS.F ht⟩) hS.2.2 dX1_setClip_18
  · skip
    refine lv_iload_n hx hb dX1_setClip_8 rfl (lv_at hl 2 rfl) ?_
    refine lv_iload hx hb dX1_setClip_9 (lv_at hl 4 rfl) ?_
    refine rd_i (va_runS (As := [.int y0, .int y1]) ⟨hx, hb, hml, hown, hts⟩ (kX1_isRange l D cI cZ y0 y1) (va_cwS 2 hts gX1_setClip_X1_isRange rfl rfl rfl (by decide +kernel) ⟨Nat.le_of_ble_eq_true rfl, Nat.le_of_ble_eq_true rfl⟩) rd_pre0 rfl rfl hl.1 rfl (lv_room (Nat.le_of_ble_eq_true rfl)) dX1_setClip_11 ⟨Nat.zero_le _, Nat.zero_le _⟩) ?_
    refine lv_if_ne (tgt := 19) hx hb dX1_setClip_14 (by decide) (fun c14 => ?_) (fun c14 => ?_)
    · skip
      refine lv_aload_n hx hb dX1_setClip_19 rfl (lv_at hl 0 rfl) ?_
      refine va_get (D := D) (ci := 1) (v := .ref aS) (C := RX1) (T := TX1) (N := 8) hx hb hts nX1_setClip_X1 hown hK.1 hP 0 rfl rfl 4 (by decide) (hts (.fieldLink RX1 28 "PolygonFrame" "sides" "[I") (by decide +kernel)) (fun _ h9 => h9) rfl dX1_setClip_20 ?_
      refine lv_iconst (v := 0) hx hb dX1_setClip_23 (by decide) ?_
      refine lv_iload_n hx hb dX1_setClip_24 rfl (lv_at hl 1 rfl) ?_
      refine q_iast (k := 0) hx hb hK.1 hP hD hS 1 0 rfl rfl (by omega) (by omega) dX1_setClip_25 (fun H locs hP hD hS => ?_)
      have hP : va_P D vwCl [(p0, .inr (1, [.int (nI wd), .int (nI hg), .ref aC, .ref aT, .ref aS, .ref rP, .ref rO, .ref rE])), (aS, .inl (cI, 4, .inl (upd sd 0 x0)))] H := hP
      have hD : va_D A [(p0, .inr (1, [.int (nI wd), .int (nI hg), .ref aC, .ref aT, .ref aS, .ref rP, .ref rO, .ref rE])), (aS, .inl (cI, 4, .inl (upd sd 0 x0)))] := hD
      refine lv_aload_n hx hb dX1_setClip_26 rfl (lv_at hl 0 rfl) ?_
      refine va_get (D := D) (ci := 1) (v := .ref aS) (C := RX1) (T := TX1) (N := 8) hx hb hts nX1_setClip_X1 hown hK.1 hP 0 rfl rfl 4 (by decide) (hts (.fieldLink RX1 28 "PolygonFrame" "sides" "[I") (by decide +kernel)) (fun _ h9 => h9) rfl dX1_setClip_27 ?_
      refine lv_iconst (v := 1) hx hb dX1_setClip_30 (by decide) ?_
      refine lv_iload_n hx hb dX1_setClip_31 rfl (lv_at hl 3 rfl) ?_
      refine q_iast (k := 1) hx hb hK.1 hP hD hS 1 0 rfl rfl (by omega) (by omega) dX1_setClip_32 (fun H locs hP hD hS => ?_)
      have hP : va_P D vwCl [(p0, .inr (1, [.int (nI wd), .int (nI hg), .ref aC, .ref aT, .ref aS, .ref rP, .ref rO, .ref rE])), (aS, .inl (cI, 4, .inl (upd (upd sd 0 x0) 1 x1)))] H := hP
      have hD : va_D A [(p0, .inr (1, [.int (nI wd), .int (nI hg), .ref aC, .ref aT, .ref aS, .ref rP, .ref rO, .ref rE])), (aS, .inl (cI, 4, .inl (upd (upd sd 0 x0) 1 x1)))] := hD
      refine lv_aload_n hx hb dX1_setClip_33 rfl (lv_at hl 0 rfl) ?_
      refine va_get (D := D) (ci := 1) (v := .ref aS) (C := RX1) (T := TX1) (N := 8) hx hb hts nX1_setClip_X1 hown hK.1 hP 0 rfl rfl 4 (by decide) (hts (.fieldLink RX1 28 "PolygonFrame" "sides" "[I") (by decide +kernel)) (fun _ h9 => h9) rfl dX1_setClip_34 ?_
      refine lv_iconst (v := 2) hx hb dX1_setClip_37 (by decide) ?_
      refine lv_iload_n hx hb dX1_setClip_38 rfl (lv_at hl 2 rfl) ?_
      refine q_iast (k := 2) hx hb hK.1 hP hD hS 1 0 rfl rfl (by omega) (by omega) dX1_setClip_39 (fun H locs hP hD hS => ?_)
      have hP : va_P D vwCl [(p0, .inr (1, [.int (nI wd), .int (nI hg), .ref aC, .ref aT, .ref aS, .ref rP, .ref rO, .ref rE])), (aS, .inl (cI, 4, .inl (upd (upd (upd sd 0 x0) 1 x1) 2 y0)))] H := hP
      have hD : va_D A [(p0, .inr (1, [.int (nI wd), .int (nI hg), .ref aC, .ref aT, .ref aS, .ref rP, .ref rO, .ref rE])), (aS, .inl (cI, 4, .inl (upd (upd (upd sd 0 x0) 1 x1) 2 y0)))] := hD
      refine lv_aload_n hx hb dX1_setClip_40 rfl (lv_at hl 0 rfl) ?_
      refine va_get (D := D) (ci := 1) (v := .ref aS) (C := RX1) (T := TX1) (N := 8) hx hb hts nX1_setClip_X1 hown hK.1 hP 0 rfl rfl 4 (by decide) (hts (.fieldLink RX1 28 "PolygonFrame" "sides" "[I") (by decide +kernel)) (fun _ h9 => h9) rfl dX1_setClip_41 ?_
      refine lv_iconst (v := 3) hx hb dX1_setClip_44 (by decide) ?_
      refine lv_iload hx hb dX1_setClip_45 (lv_at hl 4 rfl) ?_
      refine q_iast (k := 3) hx hb hK.1 hP hD hS 1 0 rfl rfl (by omega) (by omega) dX1_setClip_47 (fun H locs hP hD hS => ?_)
      have hP : va_P D vwCl [(p0, .inr (1, [.int (nI wd), .int (nI hg), .ref aC, .ref aT, .ref aS, .ref rP, .ref rO, .ref rE])), (aS, .inl (cI, 4, .inl (upd (upd (upd (upd sd 0 x0) 1 x1) 2 y0) 3 y1)))] H := hP
      have hD : va_D A [(p0, .inr (1, [.int (nI wd), .int (nI hg), .ref aC, .ref aT, .ref aS, .ref rP, .ref rO, .ref rE])), (aS, .inl (cI, 4, .inl (upd (upd (upd (upd sd 0 x0) 1 x1) 2 y0) 3 y1)))] := hD
      refine lv_iconst (v := 1) hx hb dX1_setClip_48 (by decide) ?_
      exact W.zret (v := 1) hx hb hr rfl (fun t ht hW => ⟨⟨1, (upd (upd (upd (upd sd 0 x0) 1 x1) 2 y0) 3 y1), rfl, Or.inl ⟨⟨bI_ne c5, bI_ne c14⟩, rfl, rfl⟩, by rw [ht]; exact hP, by rw [hAe]; exact hD⟩, hS.F ht⟩) hS.2.2 dX1_setClip_49
    · skip
      refine lv_iconst (v := 0) hx hb dX1_setClip_17 (by decide) ?_
      exact W.zret (v := 0) hx hb hr rfl (fun t ht hW => ⟨⟨0, sd, rfl, Or.inr ⟨fun h => by rw [bI_eq0.mp c14] at h; exact absurd h.2 (by decide), rfl, rfl⟩, by rw [ht]; exact hP, by rw [hAe]; exact hD⟩, hS.F ht⟩) hS.2.2 dX1_setClip_18
def flN (f : Nat → Int32) (v : Int32) (k : Nat) : Nat → Int32 := fun i => if i < k then v else f i
theorem flN_0 (f : Nat → Int32) (v : Int32) : flN f v 0 = f := rfl
theorem flN_s (f : Nat → Int32) (v : Int32) (k : Nat) : upd (flN f v k) k v = flN f v (k + 1) := by
  funext i
  unfold upd flN
  by_cases h : i = k
  · subst h; simp
  · by_cases h2 : i < k
    · rw [if_neg h, if_pos h2, if_pos (by omega)]
    · rw [if_neg h, if_neg h2, if_neg (by omega)]
set_option maxHeartbeats 4000000 in
set_option maxRecDepth 100000 in
theorem kJ7_fill_53178 (l : Launch) (D : va_G) (cI cZ : ClassId) (sz : Nat) (a0 N : Nat) (f : Nat → Int32) (v : Int32) (hN : N ≤ 1000) : Met l yJ7_fill_53178 wsJ7_fill_53178 ({ frames := 0, cells := 0, slots := 0, locals := 0 }) (va_Pc [.ref a0, .int v] (wrP D cI cZ sz [(a0, .inl (cI, N, .inl f))])) (va_Qv (S := Unit) (fun _ => True) (wrB D [(a0, .inl (cI, N, .inl f))] sz (fun _ => [(a0, .inl (cI, N, .inl (flN f v N)))])) (va_A [(a0, .inl (cI, N, .inl f))] sz)) 0 0 (va_A [(a0, .inl (cI, N, .inl f))] sz) := by
  refine va_MetF (cc := cJ7_fill_53178) (maxL := 4) (ret := none) (by decide +kernel) rfl ?_
  intro p e s m args below meth c s₁ B hml hv
  obtain ⟨rfl, hsz, hP, hK, hD0⟩ := hv
  have hx := B.exec
  have hb := B.bytes
  have hr := B.returns
  have hts := atoms_spec (ws := wsJ7_fill_53178) B.pre
  have hown : s.vm.findClass RJ7 = some m.cls := findClass_of_methodNamed B.named
  have hlocks := B.notSynchronized
  subst hsz
  have hD := hD0.self (sz := s.heap.size)
  generalize hAe : va_A [(a0, .inl (cI, N, .inl f))] s.heap.size = A at hD ⊢
  have hA : ∀ q : Nat, s.heap.size ≤ q → A q := fun q h => by rw [← hAe]; exact Or.inr h
  have hS : va_S A s.heap s.heap [] := va_S.rf
  have hP : va_P D vwCl [(a0, .inl (cI, N, .inl f))] s.heap := hP
  have hl := lv_entry ([.ref a0, .int v]) (n := 4) (Nat.le_of_ble_eq_true rfl)
  rw [lg_entry_eq]
  generalize (lg_sl ([.ref a0, .int v]) ++ List.replicate (4 - (lg_sl ([.ref a0, .int v])).length) Slot.unset).toArray = ls at hl ⊢
  have hl : lv_has ls 4 [(0, .ref a0), (1, .int v)] := hl
  have LOOP : ∀ (j k : Nat), k ≤ N → N < k + j → ∀ (H : Heap) (locs : List Loc), va_P D vwCl [(a0, .inl (cI, N, .inl (flN f v k)))] H → va_D A [(a0, .inl (cI, N, .inl (flN f v k)))] → va_S A s.heap H locs → ∀ ls : Array Slot, lv_has ls 4 [(0, .ref a0), (1, .int v), (2, .int (nI k)), (3, .int (nI N))] → W p l e ({ frames := 0, cells := 0, slots := 0, locals := 0 } : Room) s m #[.ref a0, .int v] below meth c H locs 0 0 (MQ below (va_Qv (S := Unit) (fun _ => True) (wrB D [(a0, .inl (cI, N, .inl f))] s.heap.size (fun _ => [(a0, .inl (cI, N, .inl (flN f v N)))])) A) #[.ref a0, .int v] s 0 0 A) (F0 m 5 ls []) := by
    intro j
    induction j with
    | zero => intro k h1 h2; omega
    | succ j ih =>
      intro k hk hkj H locs hP hD hS ls hl
      refine lv_iload_n hx hb dJ7_fill_53178_5 rfl (lv_at hl 2 rfl) ?_
      refine lv_iload_n hx hb dJ7_fill_53178_6 rfl (lv_at hl 3 rfl) ?_
      refine lv_icmp_ge (tgt := 20) hx hb dJ7_fill_53178_7 (by decide) (fun c7 => ?_) (fun c7 => ?_)
      · skip
        have hkn : k = N := Nat.le_antisymm hk ((nI_leI (by omega) (by omega)).mp c7)
        subst hkn
        exact W.vret hx hb hr (fun t ht hW => ⟨⟨(), rfl, trivial, by rw [ht]; exact hP, by rw [hAe]; exact hD⟩, hS.F ht⟩) hS.2.2 dJ7_fill_53178_20
      · skip
        have hk2 : k < N := Nat.lt_of_not_le (fun h => c7 (nI_le h (by omega)))
        refine lv_aload_n hx hb dJ7_fill_53178_10 rfl (lv_at hl 0 rfl) ?_
        refine lv_iload_n hx hb dJ7_fill_53178_11 rfl (lv_at hl 2 rfl) ?_
        refine lv_iload_n hx hb dJ7_fill_53178_12 rfl (lv_at hl 1 rfl) ?_
        refine q_iast (k := k) hx hb hK.1 hP hD hS 0 0 rfl rfl (by omega) (by omega) dJ7_fill_53178_13 (fun H locs hP hD hS => ?_)
        have hP : va_P D vwCl [(a0, .inl (cI, N, .inl (upd (flN f v k) k v)))] H := hP
        have hD : va_D A [(a0, .inl (cI, N, .inl (upd (flN f v k) k v)))] := hD
        refine lv_iinc (v := (nI (k + 1))) (lv' := [(2, .int (nI (k + 1))), (0, .ref a0), (1, .int v), (3, .int (nI N))]) hx hb dJ7_fill_53178_14 hl (k := 2) rfl (nI_1 _) (by decide) rfl (fun ls hl => ?_)
        refine lv_goto (tgt := 5) hx hb dJ7_fill_53178_17 (by decide) ?_
        rw [flN_s] at hP hD
        exact ih (k + 1) (by omega) (by omega) H locs hP hD hS ls (lv_sub hl [1, 2, 0, 3] rfl)
  refine lv_iconst (v := 0) hx hb dJ7_fill_53178_0 (by decide) ?_
  refine lv_istore_n (lv' := [(2, .int 0), (0, .ref a0), (1, .int v)]) hx hb dJ7_fill_53178_1 rfl hl (by decide) rfl (fun ls hl => ?_)
  refine lv_aload_n hx hb dJ7_fill_53178_2 rfl (lv_at hl 1 rfl) ?_
  refine va_alen (v := (nI N)) hx hb hK.1 hP 0 0 rfl rfl rfl dJ7_fill_53178_3 ?_
  refine lv_istore_n (lv' := [(3, .int (nI N)), (2, .int 0), (0, .ref a0), (1, .int v)]) hx hb dJ7_fill_53178_4 rfl hl (by decide) rfl (fun ls hl => ?_)
  exact LOOP (N + 1) 0 (Nat.zero_le _) (by omega) s.heap [] hP hD hS ls (lv_sub hl [2, 3, 1, 0] rfl)
theorem nX1_clear_X1 : ∀ w ∈ wsX10, w ∈ wsX1_clear := fun w h => List.mem_cons_of_mem _ (List.mem_append_right _ h)
set_option maxHeartbeats 4000000 in
set_option maxRecDepth 100000 in
theorem kX1_clear (l : Launch) (D : va_G) (cI cZ : ClassId) (sz : Nat) (p0 aC aT aS rP rO rE wd hg : Nat) (col : Nat → Int32) (v : Int32) (hw : wd ≤ 24) (hh : hg ≤ 24) : Met l yX1_clear wsX1_clear ({ frames := 1, cells := 0, slots := 0, locals := 40 }) (va_Pc [.ref p0, .int v] (wrP D cI cZ sz [(p0, .inr (1, [.int (nI wd), .int (nI hg), .ref aC, .ref aT, .ref aS, .ref rP, .ref rO, .ref rE])), (aC, .inl (cI, (wd * hg), .inl col))])) (va_Qv (S := Unit) (fun _ => True) (wrB D [(p0, .inr (1, [.int (nI wd), .int (nI hg), .ref aC, .ref aT, .ref aS, .ref rP, .ref rO, .ref rE])), (aC, .inl (cI, (wd * hg), .inl col))] sz (fun _ => [(p0, .inr (1, [.int (nI wd), .int (nI hg), .ref aC, .ref aT, .ref aS, .ref rP, .ref rO, .ref rE])), (aC, .inl (cI, (wd * hg), .inl (flN col v (wd * hg))))])) (va_A [(p0, .inr (1, [.int (nI wd), .int (nI hg), .ref aC, .ref aT, .ref aS, .ref rP, .ref rO, .ref rE])), (aC, .inl (cI, (wd * hg), .inl col))] sz)) 0 0 (va_A [(p0, .inr (1, [.int (nI wd), .int (nI hg), .ref aC, .ref aT, .ref aS, .ref rP, .ref rO, .ref rE])), (aC, .inl (cI, (wd * hg), .inl col))] sz) := by
  refine Met.ofW (cc := cX1_clear) (maxL := 2) (ret := none) (by decide) rfl ?_
  intro p e s m args below meth c s₁ B hml hv
  obtain ⟨rfl, hsz, hP, hK, hD0⟩ := hv
  have hx := B.exec
  have hb := B.bytes
  have hr := B.returns
  have hts := atoms_spec (ws := wsX1_clear) B.pre
  have hown : s.vm.findClass RX1 = some m.cls := findClass_of_methodNamed B.named
  have hlocks := B.notSynchronized
  subst hsz
  have hD := hD0.self (sz := s.heap.size)
  generalize hAe : va_A [(p0, .inr (1, [.int (nI wd), .int (nI hg), .ref aC, .ref aT, .ref aS, .ref rP, .ref rO, .ref rE])), (aC, .inl (cI, (wd * hg), .inl col))] s.heap.size = A at hD ⊢
  have hA : ∀ q : Nat, s.heap.size ≤ q → A q := fun q h => by rw [← hAe]; exact Or.inr h
  have hS : va_S A s.heap s.heap [] := va_S.rf
  have hP : va_P D vwCl [(p0, .inr (1, [.int (nI wd), .int (nI hg), .ref aC, .ref aT, .ref aS, .ref rP, .ref rO, .ref rE])), (aC, .inl (cI, (wd * hg), .inl col))] s.heap := hP
  have hl := lv_entry ([.ref p0, .int v]) (n := 2) (Nat.le_of_ble_eq_true rfl)
  rw [lg_entry_eq]
  generalize (lg_sl ([.ref p0, .int v]) ++ List.replicate (2 - (lg_sl ([.ref p0, .int v])).length) Slot.unset).toArray = ls at hl ⊢
  have hl : lv_has ls 2 [(0, .ref p0), (1, .int v)] := hl
  refine lv_aload_n hx hb dX1_clear_0 rfl (lv_at hl 0 rfl) ?_
  refine va_get (D := D) (ci := 1) (v := .ref aC) (C := RX1) (T := TX1) (N := 8) hx hb hts nX1_clear_X1 hown hK.1 hP 0 rfl rfl 2 (by decide) (hts (.fieldLink RX1 20 "PolygonFrame" "colours" "[I") (by decide +kernel)) (fun _ h9 => h9) rfl dX1_clear_1 ?_
  refine lv_iload_n hx hb dX1_clear_4 rfl (lv_at hl 1 rfl) ?_
  refine wr_v (wr := [(p0, .inr (1, [.int (nI wd), .int (nI hg), .ref aC, .ref aT, .ref aS, .ref rP, .ref rO, .ref rE]))]) hP hD hS hA [1] [0] rfl rfl (by decide) (by decide) (va_runS (As := [.ref aC, .int v]) ⟨hx, hb, hml, hown, hts⟩ (kJ7_fill_53178 l D cI cZ s.heap.size aC (wd * hg) col v (Nat.le_trans (Nat.mul_le_mul hw hh) (by decide))) (va_cwS 2 hts gX1_clear_J7_fill_53178 rfl rfl rfl (by decide +kernel) ⟨Nat.le_of_ble_eq_true rfl, Nat.le_of_ble_eq_true rfl⟩) (wr_pre (hP.sub [1] rfl) hK (hD.sub [1] (by decide) rfl)) rfl rfl hl.1 rfl (lv_room (Nat.le_of_ble_eq_true rfl)) dX1_clear_5 ⟨Nat.zero_le _, Nat.zero_le _⟩) (fun u1 H locs hw1 hP hD hS => ?_)
  replace hP : va_P D vwCl [(p0, .inr (1, [.int (nI wd), .int (nI hg), .ref aC, .ref aT, .ref aS, .ref rP, .ref rO, .ref rE])), (aC, .inl (cI, (wd * hg), .inl (flN col v (wd * hg))))] H := hP.sub [0, 1] rfl
  replace hD : va_D A [(p0, .inr (1, [.int (nI wd), .int (nI hg), .ref aC, .ref aT, .ref aS, .ref rP, .ref rO, .ref rE])), (aC, .inl (cI, (wd * hg), .inl (flN col v (wd * hg))))] := hD.sub [0, 1] (by decide) rfl
  exact W.vret hx hb hr (fun t ht hW => ⟨⟨(), rfl, trivial, by rw [ht]; exact hP, by rw [hAe]; exact hD⟩, hS.F ht⟩) hS.2.2 dX1_clear_8
theorem nX2_begin_X2 : ∀ w ∈ wsX20, w ∈ wsX2_begin := fun w h => List.mem_cons_of_mem _ (List.mem_append_right _ h)
set_option maxHeartbeats 4000000 in
set_option maxRecDepth 100000 in
theorem kX2_begin (l : Launch) (D : va_G) (cI cZ : ClassId) (sz : Nat) (m0 aP ax ay afx afy atx aty wd hg cap n : Nat) (fr tt x0 x1 y0 y1 : Int32)  : Met l yX2_begin wsX2_begin ({ frames := 0, cells := 0, slots := 0, locals := 0 }) (va_Pc [.ref m0] (wrP D cI cZ sz [(m0, .inr (2, [.int (nI wd), .int (nI hg), .int (nI cap), .ref aP, .ref ax, .ref ay, .int (nI n), .ref afx, .ref afy, .ref atx, .ref aty, .int fr, .int tt, .int x0, .int x1, .int y0, .int y1]))])) (va_Qv (S := Unit) (fun _ => True) (wrB D [(m0, .inr (2, [.int (nI wd), .int (nI hg), .int (nI cap), .ref aP, .ref ax, .ref ay, .int (nI n), .ref afx, .ref afy, .ref atx, .ref aty, .int fr, .int tt, .int x0, .int x1, .int y0, .int y1]))] sz (fun _ => [(m0, .inr (2, [.int (nI wd), .int (nI hg), .int (nI cap), .ref aP, .ref ax, .ref ay, .int (nI 0), .ref afx, .ref afy, .ref atx, .ref aty, .int fr, .int tt, .int x0, .int x1, .int y0, .int y1]))])) (va_A [(m0, .inr (2, [.int (nI wd), .int (nI hg), .int (nI cap), .ref aP, .ref ax, .ref ay, .int (nI n), .ref afx, .ref afy, .ref atx, .ref aty, .int fr, .int tt, .int x0, .int x1, .int y0, .int y1]))] sz)) 0 0 (va_A [(m0, .inr (2, [.int (nI wd), .int (nI hg), .int (nI cap), .ref aP, .ref ax, .ref ay, .int (nI n), .ref afx, .ref afy, .ref atx, .ref aty, .int fr, .int tt, .int x0, .int x1, .int y0, .int y1]))] sz) := by
  refine Met.ofW (cc := cX2_begin) (maxL := 1) (ret := none) (by decide) rfl ?_
  intro p e s m args below meth c s₁ B hml hv
  obtain ⟨rfl, hsz, hP, hK, hD0⟩ := hv
  have hx := B.exec
  have hb := B.bytes
  have hr := B.returns
  have hts := atoms_spec (ws := wsX2_begin) B.pre
  have hown : s.vm.findClass RX2 = some m.cls := findClass_of_methodNamed B.named
  have hlocks := B.notSynchronized
  subst hsz
  have hD := hD0.self (sz := s.heap.size)
  generalize hAe : va_A [(m0, .inr (2, [.int (nI wd), .int (nI hg), .int (nI cap), .ref aP, .ref ax, .ref ay, .int (nI n), .ref afx, .ref afy, .ref atx, .ref aty, .int fr, .int tt, .int x0, .int x1, .int y0, .int y1]))] s.heap.size = A at hD ⊢
  have hA : ∀ q : Nat, s.heap.size ≤ q → A q := fun q h => by rw [← hAe]; exact Or.inr h
  have hS : va_S A s.heap s.heap [] := va_S.rf
  have hP : va_P D vwCl [(m0, .inr (2, [.int (nI wd), .int (nI hg), .int (nI cap), .ref aP, .ref ax, .ref ay, .int (nI n), .ref afx, .ref afy, .ref atx, .ref aty, .int fr, .int tt, .int x0, .int x1, .int y0, .int y1]))] s.heap := hP
  have hl := lv_entry ([.ref m0]) (n := 1) (Nat.le_of_ble_eq_true rfl)
  rw [lg_entry_eq]
  generalize (lg_sl ([.ref m0]) ++ List.replicate (1 - (lg_sl ([.ref m0])).length) Slot.unset).toArray = ls at hl ⊢
  have hl : lv_has ls 1 [(0, .ref m0)] := hl
  refine lv_aload_n hx hb dX2_begin_0 rfl (lv_at hl 0 rfl) ?_
  refine lv_iconst (v := 0) hx hb dX2_begin_1 (by decide) ?_
  refine va_put (D := D) (ci := 2) (v := .int 0) (ty := .int) (C := RX2) (T := TX2) (N := 17) hx hb hts nX2_begin_X2 tyX2 tyX2_ok nmX2 hown hK.1 hP hD hS 0 rfl rfl 6 (by decide) (hts (.fieldLink RX2 57 "PolygonFrameModel" "size" "I") (by decide +kernel)) (fun _ h9 => h9) rfl (tyX2_ok 6 (by decide)) rfl rfl (Nat.le_of_ble_eq_true rfl) dX2_begin_2 (fun H locs hP hD hS => ?_)
  have hP : va_P D vwCl [(m0, .inr (2, [.int (nI wd), .int (nI hg), .int (nI cap), .ref aP, .ref ax, .ref ay, .int 0, .ref afx, .ref afy, .ref atx, .ref aty, .int fr, .int tt, .int x0, .int x1, .int y0, .int y1]))] H := hP
  have hD : va_D A [(m0, .inr (2, [.int (nI wd), .int (nI hg), .int (nI cap), .ref aP, .ref ax, .ref ay, .int 0, .ref afx, .ref afy, .ref atx, .ref aty, .int fr, .int tt, .int x0, .int x1, .int y0, .int y1]))] := hD
  exact W.vret hx hb hr (fun t ht hW => ⟨⟨(), rfl, trivial, by rw [ht]; exact hP, by rw [hAe]; exact hD⟩, hS.F ht⟩) hS.2.2 dX2_begin_5
theorem nX2_vertex_X2 : ∀ w ∈ wsX20, w ∈ wsX2_vertex := fun w h => List.mem_cons_of_mem _ (List.mem_append_right _ h)
set_option maxHeartbeats 4000000 in
set_option maxRecDepth 100000 in
theorem kX2_vertex (l : Launch) (D : va_G) (cI cZ : ClassId) (sz : Nat) (m0 aP ax ay afx afy atx aty wd hg cap n : Nat) (fr tt x0 x1 y0 y1 : Int32) (xs ys : Nat → Int32) (x y : Int32) (hn : n ≤ cap) (hc : cap ≤ 60) : Met l yX2_vertex wsX2_vertex ({ frames := 1, cells := 0, slots := 0, locals := 40 }) (va_Pc [.ref m0, .int x, .int y] (wrP D cI cZ sz [(m0, .inr (2, [.int (nI wd), .int (nI hg), .int (nI cap), .ref aP, .ref ax, .ref ay, .int (nI n), .ref afx, .ref afy, .ref atx, .ref aty, .int fr, .int tt, .int x0, .int x1, .int y0, .int y1])), (ax, .inl (cI, 60, .inl xs)), (ay, .inl (cI, 60, .inl ys))])) (va_Qi (S := Nat × (Nat → Int32) × (Nat → Int32)) (fun r u => ((coB x = true ∧ coB y = true ∧ n < cap) ∧ r = 1 ∧ u = (n + 1, upd xs n x, upd ys n y)) ∨ (¬ (coB x = true ∧ coB y = true ∧ n < cap) ∧ r = 0 ∧ u = (n, xs, ys))) (wrB D [(m0, .inr (2, [.int (nI wd), .int (nI hg), .int (nI cap), .ref aP, .ref ax, .ref ay, .int (nI n), .ref afx, .ref afy, .ref atx, .ref aty, .int fr, .int tt, .int x0, .int x1, .int y0, .int y1])), (ax, .inl (cI, 60, .inl xs)), (ay, .inl (cI, 60, .inl ys))] sz (fun u => [(m0, .inr (2, [.int (nI wd), .int (nI hg), .int (nI cap), .ref aP, .ref ax, .ref ay, .int (nI u.1), .ref afx, .ref afy, .ref atx, .ref aty, .int fr, .int tt, .int x0, .int x1, .int y0, .int y1])), (ax, .inl (cI, 60, .inl u.2.1)), (ay, .inl (cI, 60, .inl u.2.2))])) (va_A [(m0, .inr (2, [.int (nI wd), .int (nI hg), .int (nI cap), .ref aP, .ref ax, .ref ay, .int (nI n), .ref afx, .ref afy, .ref atx, .ref aty, .int fr, .int tt, .int x0, .int x1, .int y0, .int y1])), (ax, .inl (cI, 60, .inl xs)), (ay, .inl (cI, 60, .inl ys))] sz)) 0 0 (va_A [(m0, .inr (2, [.int (nI wd), .int (nI hg), .int (nI cap), .ref aP, .ref ax, .ref ay, .int (nI n), .ref afx, .ref afy, .ref atx, .ref aty, .int fr, .int tt, .int x0, .int x1, .int y0, .int y1])), (ax, .inl (cI, 60, .inl xs)), (ay, .inl (cI, 60, .inl ys))] sz) := by
  refine Met.ofW (cc := cX2_vertex) (maxL := 3) (ret := (some .boolean)) (by decide) rfl ?_
  intro p e s m args below meth c s₁ B hml hv
  obtain ⟨rfl, hsz, hP, hK, hD0⟩ := hv
  have hx := B.exec
  have hb := B.bytes
  have hr := B.returns
  have hts := atoms_spec (ws := wsX2_vertex) B.pre
  have hown : s.vm.findClass RX2 = some m.cls := findClass_of_methodNamed B.named
  have hlocks := B.notSynchronized
  subst hsz
  have hD := hD0.self (sz := s.heap.size)
  generalize hAe : va_A [(m0, .inr (2, [.int (nI wd), .int (nI hg), .int (nI cap), .ref aP, .ref ax, .ref ay, .int (nI n), .ref afx, .ref afy, .ref atx, .ref aty, .int fr, .int tt, .int x0, .int x1, .int y0, .int y1])), (ax, .inl (cI, 60, .inl xs)), (ay, .inl (cI, 60, .inl ys))] s.heap.size = A at hD ⊢
  have hA : ∀ q : Nat, s.heap.size ≤ q → A q := fun q h => by rw [← hAe]; exact Or.inr h
  have hS : va_S A s.heap s.heap [] := va_S.rf
  have hP : va_P D vwCl [(m0, .inr (2, [.int (nI wd), .int (nI hg), .int (nI cap), .ref aP, .ref ax, .ref ay, .int (nI n), .ref afx, .ref afy, .ref atx, .ref aty, .int fr, .int tt, .int x0, .int x1, .int y0, .int y1])), (ax, .inl (cI, 60, .inl xs)), (ay, .inl (cI, 60, .inl ys))] s.heap := hP
  have hl := lv_entry ([.ref m0, .int x, .int y]) (n := 3) (Nat.le_of_ble_eq_true rfl)
  rw [lg_entry_eq]
  generalize (lg_sl ([.ref m0, .int x, .int y]) ++ List.replicate (3 - (lg_sl ([.ref m0, .int x, .int y])).length) Slot.unset).toArray = ls at hl ⊢
  have hl : lv_has ls 3 [(0, .ref m0), (1, .int x), (2, .int y)] := hl
  refine lv_aload_n hx hb dX2_vertex_0 rfl (lv_at hl 0 rfl) ?_
  refine va_get (D := D) (ci := 2) (v := .int (nI n)) (C := RX2) (T := TX2) (N := 17) hx hb hts nX2_vertex_X2 hown hK.1 hP 0 rfl rfl 6 (by decide) (hts (.fieldLink RX2 57 "PolygonFrameModel" "size" "I") (by decide +kernel)) (fun _ h9 => h9) rfl dX2_vertex_1 ?_
  refine lv_aload_n hx hb dX2_vertex_4 rfl (lv_at hl 0 rfl) ?_
  refine va_get (D := D) (ci := 2) (v := .int (nI cap)) (C := RX2) (T := TX2) (N := 17) hx hb hts nX2_vertex_X2 hown hK.1 hP 0 rfl rfl 2 (by decide) (hts (.fieldLink RX2 54 "PolygonFrameModel" "most" "I") (by decide +kernel)) (fun _ h9 => h9) rfl dX2_vertex_5 ?_
  refine lv_icmp_eq (tgt := 25) hx hb dX2_vertex_8 (by decide) (fun c8 => ?_) (fun c8 => ?_)
  · skip
    refine lv_iconst (v := 0) hx hb dX2_vertex_25 (by decide) ?_
    exact W.zret (v := 0) hx hb hr rfl (fun t ht hW => ⟨⟨0, (n, xs, ys), rfl, Or.inr ⟨fun h => absurd ((nI_eq (by omega) (by omega)).mp c8) (by omega), rfl, rfl⟩, by rw [ht]; exact hP, by rw [hAe]; exact hD⟩, hS.F ht⟩) hS.2.2 dX2_vertex_26
  · skip
    refine lv_iload_n hx hb dX2_vertex_11 rfl (lv_at hl 1 rfl) ?_
    refine rd_i (va_runS (As := [.int x]) ⟨hx, hb, hml, hown, hts⟩ (kX2_isNear l D cI cZ x) (va_cwS 1 hts gX2_vertex_X2_isNear rfl rfl rfl (by decide +kernel) ⟨Nat.le_of_ble_eq_true rfl, Nat.le_of_ble_eq_true rfl⟩) rd_pre0 rfl rfl hl.1 rfl (lv_room (Nat.le_of_ble_eq_true rfl)) dX2_vertex_12 ⟨Nat.zero_le _, Nat.zero_le _⟩) ?_
    refine lv_if_eq (tgt := 25) hx hb dX2_vertex_15 (by decide) (fun c15 => ?_) (fun c15 => ?_)
    · skip
      refine lv_iconst (v := 0) hx hb dX2_vertex_25 (by decide) ?_
      exact W.zret (v := 0) hx hb hr rfl (fun t ht hW => ⟨⟨0, (n, xs, ys), rfl, Or.inr ⟨fun h => by rw [bI_eq0.mp c15] at h; exact absurd h.1 (by decide), rfl, rfl⟩, by rw [ht]; exact hP, by rw [hAe]; exact hD⟩, hS.F ht⟩) hS.2.2 dX2_vertex_26
    · skip
      refine lv_iload_n hx hb dX2_vertex_18 rfl (lv_at hl 2 rfl) ?_
      refine rd_i (va_runS (As := [.int y]) ⟨hx, hb, hml, hown, hts⟩ (kX2_isNear l D cI cZ y) (va_cwS 1 hts gX2_vertex_X2_isNear rfl rfl rfl (by decide +kernel) ⟨Nat.le_of_ble_eq_true rfl, Nat.le_of_ble_eq_true rfl⟩) rd_pre0 rfl rfl hl.1 rfl (lv_room (Nat.le_of_ble_eq_true rfl)) dX2_vertex_19 ⟨Nat.zero_le _, Nat.zero_le _⟩) ?_
      refine lv_if_ne (tgt := 27) hx hb dX2_vertex_22 (by decide) (fun c22 => ?_) (fun c22 => ?_)
      · skip
        have hlt : n < cap := Nat.lt_of_le_of_ne hn (fun h => c8 (by rw [h]))
        refine lv_aload_n hx hb dX2_vertex_27 rfl (lv_at hl 0 rfl) ?_
        refine va_get (D := D) (ci := 2) (v := .ref ax) (C := RX2) (T := TX2) (N := 17) hx hb hts nX2_vertex_X2 hown hK.1 hP 0 rfl rfl 4 (by decide) (hts (.fieldLink RX2 13 "PolygonFrameModel" "xs" "[I") (by decide +kernel)) (fun _ h9 => h9) rfl dX2_vertex_28 ?_
        refine lv_aload_n hx hb dX2_vertex_31 rfl (lv_at hl 0 rfl) ?_
        refine va_get (D := D) (ci := 2) (v := .int (nI n)) (C := RX2) (T := TX2) (N := 17) hx hb hts nX2_vertex_X2 hown hK.1 hP 0 rfl rfl 6 (by decide) (hts (.fieldLink RX2 57 "PolygonFrameModel" "size" "I") (by decide +kernel)) (fun _ h9 => h9) rfl dX2_vertex_32 ?_
        refine lv_iload_n hx hb dX2_vertex_35 rfl (lv_at hl 1 rfl) ?_
        refine q_iast (k := n) hx hb hK.1 hP hD hS 1 0 rfl rfl (by omega) (by omega) dX2_vertex_36 (fun H locs hP hD hS => ?_)
        have hP : va_P D vwCl [(m0, .inr (2, [.int (nI wd), .int (nI hg), .int (nI cap), .ref aP, .ref ax, .ref ay, .int (nI n), .ref afx, .ref afy, .ref atx, .ref aty, .int fr, .int tt, .int x0, .int x1, .int y0, .int y1])), (ax, .inl (cI, 60, .inl (upd xs n x))), (ay, .inl (cI, 60, .inl ys))] H := hP
        have hD : va_D A [(m0, .inr (2, [.int (nI wd), .int (nI hg), .int (nI cap), .ref aP, .ref ax, .ref ay, .int (nI n), .ref afx, .ref afy, .ref atx, .ref aty, .int fr, .int tt, .int x0, .int x1, .int y0, .int y1])), (ax, .inl (cI, 60, .inl (upd xs n x))), (ay, .inl (cI, 60, .inl ys))] := hD
        refine lv_aload_n hx hb dX2_vertex_37 rfl (lv_at hl 0 rfl) ?_
        refine va_get (D := D) (ci := 2) (v := .ref ay) (C := RX2) (T := TX2) (N := 17) hx hb hts nX2_vertex_X2 hown hK.1 hP 0 rfl rfl 5 (by decide) (hts (.fieldLink RX2 16 "PolygonFrameModel" "ys" "[I") (by decide +kernel)) (fun _ h9 => h9) rfl dX2_vertex_38 ?_
        refine lv_aload_n hx hb dX2_vertex_41 rfl (lv_at hl 0 rfl) ?_
        refine va_get (D := D) (ci := 2) (v := .int (nI n)) (C := RX2) (T := TX2) (N := 17) hx hb hts nX2_vertex_X2 hown hK.1 hP 0 rfl rfl 6 (by decide) (hts (.fieldLink RX2 57 "PolygonFrameModel" "size" "I") (by decide +kernel)) (fun _ h9 => h9) rfl dX2_vertex_42 ?_
        refine lv_iload_n hx hb dX2_vertex_45 rfl (lv_at hl 2 rfl) ?_
        refine q_iast (k := n) hx hb hK.1 hP hD hS 2 0 rfl rfl (by omega) (by omega) dX2_vertex_46 (fun H locs hP hD hS => ?_)
        have hP : va_P D vwCl [(m0, .inr (2, [.int (nI wd), .int (nI hg), .int (nI cap), .ref aP, .ref ax, .ref ay, .int (nI n), .ref afx, .ref afy, .ref atx, .ref aty, .int fr, .int tt, .int x0, .int x1, .int y0, .int y1])), (ax, .inl (cI, 60, .inl (upd xs n x))), (ay, .inl (cI, 60, .inl (upd ys n y)))] H := hP
        have hD : va_D A [(m0, .inr (2, [.int (nI wd), .int (nI hg), .int (nI cap), .ref aP, .ref ax, .ref ay, .int (nI n), .ref afx, .ref afy, .ref atx, .ref aty, .int fr, .int tt, .int x0, .int x1, .int y0, .int y1])), (ax, .inl (cI, 60, .inl (upd xs n x))), (ay, .inl (cI, 60, .inl (upd ys n y)))] := hD
        refine lv_aload_n hx hb dX2_vertex_47 rfl (lv_at hl 0 rfl) ?_
        refine lv_dup hx hb dX2_vertex_48 rfl ?_
        refine va_get (D := D) (ci := 2) (v := .int (nI n)) (C := RX2) (T := TX2) (N := 17) hx hb hts nX2_vertex_X2 hown hK.1 hP 0 rfl rfl 6 (by decide) (hts (.fieldLink RX2 57 "PolygonFrameModel" "size" "I") (by decide +kernel)) (fun _ h9 => h9) rfl dX2_vertex_49 ?_
        refine lv_iconst (v := 1) hx hb dX2_vertex_52 (by decide) ?_
        refine lv_iadd hx hb dX2_vertex_53 ?_
        refine q_eq (nI_1 _) ?_
        refine va_put (D := D) (ci := 2) (v := .int (nI (n + 1))) (ty := .int) (C := RX2) (T := TX2) (N := 17) hx hb hts nX2_vertex_X2 tyX2 tyX2_ok nmX2 hown hK.1 hP hD hS 0 rfl rfl 6 (by decide) (hts (.fieldLink RX2 57 "PolygonFrameModel" "size" "I") (by decide +kernel)) (fun _ h9 => h9) rfl (tyX2_ok 6 (by decide)) rfl rfl (Nat.le_of_ble_eq_true rfl) dX2_vertex_54 (fun H locs hP hD hS => ?_)
        have hP : va_P D vwCl [(m0, .inr (2, [.int (nI wd), .int (nI hg), .int (nI cap), .ref aP, .ref ax, .ref ay, .int (nI (n + 1)), .ref afx, .ref afy, .ref atx, .ref aty, .int fr, .int tt, .int x0, .int x1, .int y0, .int y1])), (ax, .inl (cI, 60, .inl (upd xs n x))), (ay, .inl (cI, 60, .inl (upd ys n y)))] H := hP
        have hD : va_D A [(m0, .inr (2, [.int (nI wd), .int (nI hg), .int (nI cap), .ref aP, .ref ax, .ref ay, .int (nI (n + 1)), .ref afx, .ref afy, .ref atx, .ref aty, .int fr, .int tt, .int x0, .int x1, .int y0, .int y1])), (ax, .inl (cI, 60, .inl (upd xs n x))), (ay, .inl (cI, 60, .inl (upd ys n y)))] := hD
        refine lv_iconst (v := 1) hx hb dX2_vertex_57 (by decide) ?_
        exact W.zret (v := 1) hx hb hr rfl (fun t ht hW => ⟨⟨1, (n + 1, upd xs n x, upd ys n y), rfl, Or.inl ⟨⟨bI_ne c15, bI_ne c22, hlt⟩, rfl, rfl⟩, by rw [ht]; exact hP, by rw [hAe]; exact hD⟩, hS.F ht⟩) hS.2.2 dX2_vertex_58
      · skip
        refine lv_iconst (v := 0) hx hb dX2_vertex_25 (by decide) ?_
        exact W.zret (v := 0) hx hb hr rfl (fun t ht hW => ⟨⟨0, (n, xs, ys), rfl, Or.inr ⟨fun h => by rw [bI_eq0.mp c22] at h; exact absurd h.2.1 (by decide), rfl, rfl⟩, by rw [ht]; exact hP, by rw [hAe]; exact hD⟩, hS.F ht⟩) hS.2.2 dX2_vertex_26
theorem nX2_setClip_X2 : ∀ w ∈ wsX20, w ∈ wsX2_setClip := fun w h => List.mem_cons_of_mem _ (List.mem_append_right _ h)
set_option maxHeartbeats 4000000 in
set_option maxRecDepth 100000 in
theorem kX2_setClip (l : Launch) (D : va_G) (cI cZ : ClassId) (sz : Nat) (m0 aP ax ay afx afy atx aty wd hg cap n : Nat) (fr tt x0 x1 y0 y1 : Int32) (a0 b0 a1 b1 : Int32)  : Met l yX2_setClip wsX2_setClip ({ frames := 1, cells := 0, slots := 0, locals := 40 }) (va_Pc [.ref m0, .int a0, .int b0, .int a1, .int b1] (wrP D cI cZ sz [(m0, .inr (2, [.int (nI wd), .int (nI hg), .int (nI cap), .ref aP, .ref ax, .ref ay, .int (nI n), .ref afx, .ref afy, .ref atx, .ref aty, .int fr, .int tt, .int x0, .int x1, .int y0, .int y1]))])) (va_Qi (S := Int32 × Int32 × Int32 × Int32) (fun r u => ((coB a0 = true ∧ coB b0 = true ∧ coB a1 = true ∧ coB b1 = true ∧ a0 ≤ a1 ∧ b0 ≤ b1) ∧ r = 1 ∧ u = (a0, a1, b0, b1)) ∨ (¬ (coB a0 = true ∧ coB b0 = true ∧ coB a1 = true ∧ coB b1 = true ∧ a0 ≤ a1 ∧ b0 ≤ b1) ∧ r = 0 ∧ u = (x0, x1, y0, y1))) (wrB D [(m0, .inr (2, [.int (nI wd), .int (nI hg), .int (nI cap), .ref aP, .ref ax, .ref ay, .int (nI n), .ref afx, .ref afy, .ref atx, .ref aty, .int fr, .int tt, .int x0, .int x1, .int y0, .int y1]))] sz (fun u => [(m0, .inr (2, [.int (nI wd), .int (nI hg), .int (nI cap), .ref aP, .ref ax, .ref ay, .int (nI n), .ref afx, .ref afy, .ref atx, .ref aty, .int fr, .int tt, .int u.1, .int u.2.1, .int u.2.2.1, .int u.2.2.2]))])) (va_A [(m0, .inr (2, [.int (nI wd), .int (nI hg), .int (nI cap), .ref aP, .ref ax, .ref ay, .int (nI n), .ref afx, .ref afy, .ref atx, .ref aty, .int fr, .int tt, .int x0, .int x1, .int y0, .int y1]))] sz)) 0 0 (va_A [(m0, .inr (2, [.int (nI wd), .int (nI hg), .int (nI cap), .ref aP, .ref ax, .ref ay, .int (nI n), .ref afx, .ref afy, .ref atx, .ref aty, .int fr, .int tt, .int x0, .int x1, .int y0, .int y1]))] sz) := by
  refine Met.ofW (cc := cX2_setClip) (maxL := 5) (ret := (some .boolean)) (by decide) rfl ?_
  intro p e s m args below meth c s₁ B hml hv
  obtain ⟨rfl, hsz, hP, hK, hD0⟩ := hv
  have hx := B.exec
  have hb := B.bytes
  have hr := B.returns
  have hts := atoms_spec (ws := wsX2_setClip) B.pre
  have hown : s.vm.findClass RX2 = some m.cls := findClass_of_methodNamed B.named
  have hlocks := B.notSynchronized
  subst hsz
  have hD := hD0.self (sz := s.heap.size)
  generalize hAe : va_A [(m0, .inr (2, [.int (nI wd), .int (nI hg), .int (nI cap), .ref aP, .ref ax, .ref ay, .int (nI n), .ref afx, .ref afy, .ref atx, .ref aty, .int fr, .int tt, .int x0, .int x1, .int y0, .int y1]))] s.heap.size = A at hD ⊢
  have hA : ∀ q : Nat, s.heap.size ≤ q → A q := fun q h => by rw [← hAe]; exact Or.inr h
  have hS : va_S A s.heap s.heap [] := va_S.rf
  have hP : va_P D vwCl [(m0, .inr (2, [.int (nI wd), .int (nI hg), .int (nI cap), .ref aP, .ref ax, .ref ay, .int (nI n), .ref afx, .ref afy, .ref atx, .ref aty, .int fr, .int tt, .int x0, .int x1, .int y0, .int y1]))] s.heap := hP
  have hl := lv_entry ([.ref m0, .int a0, .int b0, .int a1, .int b1]) (n := 5) (Nat.le_of_ble_eq_true rfl)
  rw [lg_entry_eq]
  generalize (lg_sl ([.ref m0, .int a0, .int b0, .int a1, .int b1]) ++ List.replicate (5 - (lg_sl ([.ref m0, .int a0, .int b0, .int a1, .int b1])).length) Slot.unset).toArray = ls at hl ⊢
  have hl : lv_has ls 5 [(0, .ref m0), (1, .int a0), (2, .int b0), (3, .int a1), (4, .int b1)] := hl
  refine lv_iload_n hx hb dX2_setClip_0 rfl (lv_at hl 1 rfl) ?_
  refine rd_i (va_runS (As := [.int a0]) ⟨hx, hb, hml, hown, hts⟩ (kX2_isNear l D cI cZ a0) (va_cwS 1 hts gX2_setClip_X2_isNear rfl rfl rfl (by decide +kernel) ⟨Nat.le_of_ble_eq_true rfl, Nat.le_of_ble_eq_true rfl⟩) rd_pre0 rfl rfl hl.1 rfl (lv_room (Nat.le_of_ble_eq_true rfl)) dX2_setClip_1 ⟨Nat.zero_le _, Nat.zero_le _⟩) ?_
  refine lv_if_eq (tgt := 40) hx hb dX2_setClip_4 (by decide) (fun c4 => ?_) (fun c4 => ?_)
  · skip
    refine lv_iconst (v := 0) hx hb dX2_setClip_40 (by decide) ?_
    exact W.zret (v := 0) hx hb hr rfl (fun t ht hW => ⟨⟨0, (x0, x1, y0, y1), rfl, Or.inr ⟨fun h => by rw [bI_eq0.mp c4] at h; exact absurd h.1 (by decide), rfl, rfl⟩, by rw [ht]; exact hP, by rw [hAe]; exact hD⟩, hS.F ht⟩) hS.2.2 dX2_setClip_41
  · skip
    refine lv_iload_n hx hb dX2_setClip_7 rfl (lv_at hl 2 rfl) ?_
    refine rd_i (va_runS (As := [.int b0]) ⟨hx, hb, hml, hown, hts⟩ (kX2_isNear l D cI cZ b0) (va_cwS 1 hts gX2_setClip_X2_isNear rfl rfl rfl (by decide +kernel) ⟨Nat.le_of_ble_eq_true rfl, Nat.le_of_ble_eq_true rfl⟩) rd_pre0 rfl rfl hl.1 rfl (lv_room (Nat.le_of_ble_eq_true rfl)) dX2_setClip_8 ⟨Nat.zero_le _, Nat.zero_le _⟩) ?_
    refine lv_if_eq (tgt := 40) hx hb dX2_setClip_11 (by decide) (fun c11 => ?_) (fun c11 => ?_)
    · skip
      refine lv_iconst (v := 0) hx hb dX2_setClip_40 (by decide) ?_
      exact W.zret (v := 0) hx hb hr rfl (fun t ht hW => ⟨⟨0, (x0, x1, y0, y1), rfl, Or.inr ⟨fun h => by rw [bI_eq0.mp c11] at h; exact absurd h.2.1 (by decide), rfl, rfl⟩, by rw [ht]; exact hP, by rw [hAe]; exact hD⟩, hS.F ht⟩) hS.2.2 dX2_setClip_41
    · skip
      refine lv_iload_n hx hb dX2_setClip_14 rfl (lv_at hl 3 rfl) ?_
      refine rd_i (va_runS (As := [.int a1]) ⟨hx, hb, hml, hown, hts⟩ (kX2_isNear l D cI cZ a1) (va_cwS 1 hts gX2_setClip_X2_isNear rfl rfl rfl (by decide +kernel) ⟨Nat.le_of_ble_eq_true rfl, Nat.le_of_ble_eq_true rfl⟩) rd_pre0 rfl rfl hl.1 rfl (lv_room (Nat.le_of_ble_eq_true rfl)) dX2_setClip_15 ⟨Nat.zero_le _, Nat.zero_le _⟩) ?_
      refine lv_if_eq (tgt := 40) hx hb dX2_setClip_18 (by decide) (fun c18 => ?_) (fun c18 => ?_)
      · skip
        refine lv_iconst (v := 0) hx hb dX2_setClip_40 (by decide) ?_
        exact W.zret (v := 0) hx hb hr rfl (fun t ht hW => ⟨⟨0, (x0, x1, y0, y1), rfl, Or.inr ⟨fun h => by rw [bI_eq0.mp c18] at h; exact absurd h.2.2.1 (by decide), rfl, rfl⟩, by rw [ht]; exact hP, by rw [hAe]; exact hD⟩, hS.F ht⟩) hS.2.2 dX2_setClip_41
      · skip
        refine lv_iload hx hb dX2_setClip_21 (lv_at hl 4 rfl) ?_
        refine rd_i (va_runS (As := [.int b1]) ⟨hx, hb, hml, hown, hts⟩ (kX2_isNear l D cI cZ b1) (va_cwS 1 hts gX2_setClip_X2_isNear rfl rfl rfl (by decide +kernel) ⟨Nat.le_of_ble_eq_true rfl, Nat.le_of_ble_eq_true rfl⟩) rd_pre0 rfl rfl hl.1 rfl (lv_room (Nat.le_of_ble_eq_true rfl)) dX2_setClip_23 ⟨Nat.zero_le _, Nat.zero_le _⟩) ?_
        refine lv_if_eq (tgt := 40) hx hb dX2_setClip_26 (by decide) (fun c26 => ?_) (fun c26 => ?_)
        · skip
          refine lv_iconst (v := 0) hx hb dX2_setClip_40 (by decide) ?_
          exact W.zret (v := 0) hx hb hr rfl (fun t ht hW => ⟨⟨0, (x0, x1, y0, y1), rfl, Or.inr ⟨fun h => by rw [bI_eq0.mp c26] at h; exact absurd h.2.2.2.1 (by decide), rfl, rfl⟩, by rw [ht]; exact hP, by rw [hAe]; exact hD⟩, hS.F ht⟩) hS.2.2 dX2_setClip_41
        · skip
          refine lv_iload_n hx hb dX2_setClip_29 rfl (lv_at hl 1 rfl) ?_
          refine lv_iload_n hx hb dX2_setClip_30 rfl (lv_at hl 3 rfl) ?_
          refine lv_icmp_gt (tgt := 40) hx hb dX2_setClip_31 (by decide) (fun c31 => ?_) (fun c31 => ?_)
          · skip
            refine lv_iconst (v := 0) hx hb dX2_setClip_40 (by decide) ?_
            exact W.zret (v := 0) hx hb hr rfl (fun t ht hW => ⟨⟨0, (x0, x1, y0, y1), rfl, Or.inr ⟨fun h => absurd h.2.2.2.2.1 (Int32.not_le.mpr c31), rfl, rfl⟩, by rw [ht]; exact hP, by rw [hAe]; exact hD⟩, hS.F ht⟩) hS.2.2 dX2_setClip_41
          · skip
            refine lv_iload_n hx hb dX2_setClip_34 rfl (lv_at hl 2 rfl) ?_
            refine lv_iload hx hb dX2_setClip_35 (lv_at hl 4 rfl) ?_
            refine lv_icmp_le (tgt := 42) hx hb dX2_setClip_37 (by decide) (fun c37 => ?_) (fun c37 => ?_)
            · skip
              refine lv_aload_n hx hb dX2_setClip_42 rfl (lv_at hl 0 rfl) ?_
              refine lv_iload_n hx hb dX2_setClip_43 rfl (lv_at hl 1 rfl) ?_
              refine va_put (D := D) (ci := 2) (v := .int a0) (ty := .int) (C := RX2) (T := TX2) (N := 17) hx hb hts nX2_setClip_X2 tyX2 tyX2_ok nmX2 hown hK.1 hP hD hS 0 rfl rfl 13 (by decide) (hts (.fieldLink RX2 31 "PolygonFrameModel" "left" "I") (by decide +kernel)) (fun _ h9 => h9) rfl (tyX2_ok 13 (by decide)) rfl rfl (Nat.le_of_ble_eq_true rfl) dX2_setClip_44 (fun H locs hP hD hS => ?_)
              have hP : va_P D vwCl [(m0, .inr (2, [.int (nI wd), .int (nI hg), .int (nI cap), .ref aP, .ref ax, .ref ay, .int (nI n), .ref afx, .ref afy, .ref atx, .ref aty, .int fr, .int tt, .int a0, .int x1, .int y0, .int y1]))] H := hP
              have hD : va_D A [(m0, .inr (2, [.int (nI wd), .int (nI hg), .int (nI cap), .ref aP, .ref ax, .ref ay, .int (nI n), .ref afx, .ref afy, .ref atx, .ref aty, .int fr, .int tt, .int a0, .int x1, .int y0, .int y1]))] := hD
              refine lv_aload_n hx hb dX2_setClip_47 rfl (lv_at hl 0 rfl) ?_
              refine lv_iload_n hx hb dX2_setClip_48 rfl (lv_at hl 3 rfl) ?_
              refine va_put (D := D) (ci := 2) (v := .int a1) (ty := .int) (C := RX2) (T := TX2) (N := 17) hx hb hts nX2_setClip_X2 tyX2 tyX2_ok nmX2 hown hK.1 hP hD hS 0 rfl rfl 14 (by decide) (hts (.fieldLink RX2 35 "PolygonFrameModel" "right" "I") (by decide +kernel)) (fun _ h9 => h9) rfl (tyX2_ok 14 (by decide)) rfl rfl (Nat.le_of_ble_eq_true rfl) dX2_setClip_49 (fun H locs hP hD hS => ?_)
              have hP : va_P D vwCl [(m0, .inr (2, [.int (nI wd), .int (nI hg), .int (nI cap), .ref aP, .ref ax, .ref ay, .int (nI n), .ref afx, .ref afy, .ref atx, .ref aty, .int fr, .int tt, .int a0, .int a1, .int y0, .int y1]))] H := hP
              have hD : va_D A [(m0, .inr (2, [.int (nI wd), .int (nI hg), .int (nI cap), .ref aP, .ref ax, .ref ay, .int (nI n), .ref afx, .ref afy, .ref atx, .ref aty, .int fr, .int tt, .int a0, .int a1, .int y0, .int y1]))] := hD
              refine lv_aload_n hx hb dX2_setClip_52 rfl (lv_at hl 0 rfl) ?_
              refine lv_iload_n hx hb dX2_setClip_53 rfl (lv_at hl 2 rfl) ?_
              refine va_put (D := D) (ci := 2) (v := .int b0) (ty := .int) (C := RX2) (T := TX2) (N := 17) hx hb hts nX2_setClip_X2 tyX2 tyX2_ok nmX2 hown hK.1 hP hD hS 0 rfl rfl 15 (by decide) (hts (.fieldLink RX2 38 "PolygonFrameModel" "low" "I") (by decide +kernel)) (fun _ h9 => h9) rfl (tyX2_ok 15 (by decide)) rfl rfl (Nat.le_of_ble_eq_true rfl) dX2_setClip_54 (fun H locs hP hD hS => ?_)
              have hP : va_P D vwCl [(m0, .inr (2, [.int (nI wd), .int (nI hg), .int (nI cap), .ref aP, .ref ax, .ref ay, .int (nI n), .ref afx, .ref afy, .ref atx, .ref aty, .int fr, .int tt, .int a0, .int a1, .int b0, .int y1]))] H := hP
              have hD : va_D A [(m0, .inr (2, [.int (nI wd), .int (nI hg), .int (nI cap), .ref aP, .ref ax, .ref ay, .int (nI n), .ref afx, .ref afy, .ref atx, .ref aty, .int fr, .int tt, .int a0, .int a1, .int b0, .int y1]))] := hD
              refine lv_aload_n hx hb dX2_setClip_57 rfl (lv_at hl 0 rfl) ?_
              refine lv_iload hx hb dX2_setClip_58 (lv_at hl 4 rfl) ?_
              refine va_put (D := D) (ci := 2) (v := .int b1) (ty := .int) (C := RX2) (T := TX2) (N := 17) hx hb hts nX2_setClip_X2 tyX2 tyX2_ok nmX2 hown hK.1 hP hD hS 0 rfl rfl 16 (by decide) (hts (.fieldLink RX2 41 "PolygonFrameModel" "top" "I") (by decide +kernel)) (fun _ h9 => h9) rfl (tyX2_ok 16 (by decide)) rfl rfl (Nat.le_of_ble_eq_true rfl) dX2_setClip_60 (fun H locs hP hD hS => ?_)
              have hP : va_P D vwCl [(m0, .inr (2, [.int (nI wd), .int (nI hg), .int (nI cap), .ref aP, .ref ax, .ref ay, .int (nI n), .ref afx, .ref afy, .ref atx, .ref aty, .int fr, .int tt, .int a0, .int a1, .int b0, .int b1]))] H := hP
              have hD : va_D A [(m0, .inr (2, [.int (nI wd), .int (nI hg), .int (nI cap), .ref aP, .ref ax, .ref ay, .int (nI n), .ref afx, .ref afy, .ref atx, .ref aty, .int fr, .int tt, .int a0, .int a1, .int b0, .int b1]))] := hD
              refine lv_iconst (v := 1) hx hb dX2_setClip_63 (by decide) ?_
              exact W.zret (v := 1) hx hb hr rfl (fun t ht hW => ⟨⟨1, (a0, a1, b0, b1), rfl, Or.inl ⟨⟨bI_ne c4, bI_ne c11, bI_ne c18, bI_ne c26, Int32.not_lt.mp c31, c37⟩, rfl, rfl⟩, by rw [ht]; exact hP, by rw [hAe]; exact hD⟩, hS.F ht⟩) hS.2.2 dX2_setClip_64
            · skip
              refine lv_iconst (v := 0) hx hb dX2_setClip_40 (by decide) ?_
              exact W.zret (v := 0) hx hb hr rfl (fun t ht hW => ⟨⟨0, (x0, x1, y0, y1), rfl, Or.inr ⟨fun h => c37 h.2.2.2.2.2, rfl, rfl⟩, by rw [ht]; exact hP, by rw [hAe]; exact hD⟩, hS.F ht⟩) hS.2.2 dX2_setClip_41
theorem nX2_clear_X2 : ∀ w ∈ wsX20, w ∈ wsX2_clear := fun w h => List.mem_cons_of_mem _ (List.mem_append_right _ h)
set_option maxHeartbeats 4000000 in
set_option maxRecDepth 100000 in
theorem kX2_clear (l : Launch) (D : va_G) (cI cZ : ClassId) (sz : Nat) (m0 aP ax ay afx afy atx aty wd hg cap n : Nat) (fr tt x0 x1 y0 y1 : Int32) (col : Nat → Int32) (v : Int32)  : Met l yX2_clear wsX2_clear ({ frames := 0, cells := 0, slots := 0, locals := 0 }) (va_Pc [.ref m0, .int v] (wrP D cI cZ sz [(m0, .inr (2, [.int (nI wd), .int (nI hg), .int (nI cap), .ref aP, .ref ax, .ref ay, .int (nI n), .ref afx, .ref afy, .ref atx, .ref aty, .int fr, .int tt, .int x0, .int x1, .int y0, .int y1])), (aP, .inl (cI, 576, .inl col))])) (va_Qv (S := Unit) (fun _ => True) (wrB D [(m0, .inr (2, [.int (nI wd), .int (nI hg), .int (nI cap), .ref aP, .ref ax, .ref ay, .int (nI n), .ref afx, .ref afy, .ref atx, .ref aty, .int fr, .int tt, .int x0, .int x1, .int y0, .int y1])), (aP, .inl (cI, 576, .inl col))] sz (fun _ => [(m0, .inr (2, [.int (nI wd), .int (nI hg), .int (nI cap), .ref aP, .ref ax, .ref ay, .int (nI n), .ref afx, .ref afy, .ref atx, .ref aty, .int fr, .int tt, .int x0, .int x1, .int y0, .int y1])), (aP, .inl (cI, 576, .inl (flN col v 576)))])) (va_A [(m0, .inr (2, [.int (nI wd), .int (nI hg), .int (nI cap), .ref aP, .ref ax, .ref ay, .int (nI n), .ref afx, .ref afy, .ref atx, .ref aty, .int fr, .int tt, .int x0, .int x1, .int y0, .int y1])), (aP, .inl (cI, 576, .inl col))] sz)) 0 0 (va_A [(m0, .inr (2, [.int (nI wd), .int (nI hg), .int (nI cap), .ref aP, .ref ax, .ref ay, .int (nI n), .ref afx, .ref afy, .ref atx, .ref aty, .int fr, .int tt, .int x0, .int x1, .int y0, .int y1])), (aP, .inl (cI, 576, .inl col))] sz) := by
  refine Met.ofW (cc := cX2_clear) (maxL := 3) (ret := none) (by decide) rfl ?_
  intro p e s m args below meth c s₁ B hml hv
  obtain ⟨rfl, hsz, hP, hK, hD0⟩ := hv
  have hx := B.exec
  have hb := B.bytes
  have hr := B.returns
  have hts := atoms_spec (ws := wsX2_clear) B.pre
  have hown : s.vm.findClass RX2 = some m.cls := findClass_of_methodNamed B.named
  have hlocks := B.notSynchronized
  subst hsz
  have hD := hD0.self (sz := s.heap.size)
  generalize hAe : va_A [(m0, .inr (2, [.int (nI wd), .int (nI hg), .int (nI cap), .ref aP, .ref ax, .ref ay, .int (nI n), .ref afx, .ref afy, .ref atx, .ref aty, .int fr, .int tt, .int x0, .int x1, .int y0, .int y1])), (aP, .inl (cI, 576, .inl col))] s.heap.size = A at hD ⊢
  have hA : ∀ q : Nat, s.heap.size ≤ q → A q := fun q h => by rw [← hAe]; exact Or.inr h
  have hS : va_S A s.heap s.heap [] := va_S.rf
  have hP : va_P D vwCl [(m0, .inr (2, [.int (nI wd), .int (nI hg), .int (nI cap), .ref aP, .ref ax, .ref ay, .int (nI n), .ref afx, .ref afy, .ref atx, .ref aty, .int fr, .int tt, .int x0, .int x1, .int y0, .int y1])), (aP, .inl (cI, 576, .inl col))] s.heap := hP
  have hl := lv_entry ([.ref m0, .int v]) (n := 3) (Nat.le_of_ble_eq_true rfl)
  rw [lg_entry_eq]
  generalize (lg_sl ([.ref m0, .int v]) ++ List.replicate (3 - (lg_sl ([.ref m0, .int v])).length) Slot.unset).toArray = ls at hl ⊢
  have hl : lv_has ls 3 [(0, .ref m0), (1, .int v)] := hl
  have LOOP : ∀ (j k : Nat), k ≤ 576 → 576 < k + j → ∀ (H : Heap) (locs : List Loc), va_P D vwCl [(m0, .inr (2, [.int (nI wd), .int (nI hg), .int (nI cap), .ref aP, .ref ax, .ref ay, .int (nI n), .ref afx, .ref afy, .ref atx, .ref aty, .int fr, .int tt, .int x0, .int x1, .int y0, .int y1])), (aP, .inl (cI, 576, .inl (flN col v k)))] H → va_D A [(m0, .inr (2, [.int (nI wd), .int (nI hg), .int (nI cap), .ref aP, .ref ax, .ref ay, .int (nI n), .ref afx, .ref afy, .ref atx, .ref aty, .int fr, .int tt, .int x0, .int x1, .int y0, .int y1])), (aP, .inl (cI, 576, .inl (flN col v k)))] → va_S A s.heap H locs → ∀ ls : Array Slot, lv_has ls 3 [(0, .ref m0), (1, .int v), (2, .int (nI k))] → W p l e ({ frames := 0, cells := 0, slots := 0, locals := 0 } : Room) s m #[.ref m0, .int v] below meth c H locs 0 0 (MQ below (va_Qv (S := Unit) (fun _ => True) (wrB D [(m0, .inr (2, [.int (nI wd), .int (nI hg), .int (nI cap), .ref aP, .ref ax, .ref ay, .int (nI n), .ref afx, .ref afy, .ref atx, .ref aty, .int fr, .int tt, .int x0, .int x1, .int y0, .int y1])), (aP, .inl (cI, 576, .inl col))] s.heap.size (fun _ => [(m0, .inr (2, [.int (nI wd), .int (nI hg), .int (nI cap), .ref aP, .ref ax, .ref ay, .int (nI n), .ref afx, .ref afy, .ref atx, .ref aty, .int fr, .int tt, .int x0, .int x1, .int y0, .int y1])), (aP, .inl (cI, 576, .inl (flN col v 576)))])) A) #[.ref m0, .int v] s 0 0 A) (F0 m 2 ls []) := by
    intro j
    induction j with
    | zero => intro k h1 h2; omega
    | succ j ih =>
      intro k hk hkj H locs hP hD hS ls hl
      refine lv_iload_n hx hb dX2_clear_2 rfl (lv_at hl 2 rfl) ?_
      refine lv_sipush (v := 576) hx hb dX2_clear_3 (by decide) ?_
      refine lv_icmp_ge (tgt := 22) hx hb dX2_clear_6 (by decide) (fun c6 => ?_) (fun c6 => ?_)
      · skip
        have hkn : k = 576 := Nat.le_antisymm hk ((nI_leI (a := 576) (by omega) (by omega)).mp c6)
        subst hkn
        exact W.vret hx hb hr (fun t ht hW => ⟨⟨(), rfl, trivial, by rw [ht]; exact hP, by rw [hAe]; exact hD⟩, hS.F ht⟩) hS.2.2 dX2_clear_22
      · skip
        have hk2 : k < 576 := Nat.lt_of_not_le (fun h => c6 (nI_le (a := 576) h (by omega)))
        refine lv_aload_n hx hb dX2_clear_9 rfl (lv_at hl 0 rfl) ?_
        refine va_get (D := D) (ci := 2) (v := .ref aP) (C := RX2) (T := TX2) (N := 17) hx hb hts nX2_clear_X2 hown hK.1 hP 0 rfl rfl 3 (by decide) (hts (.fieldLink RX2 7 "PolygonFrameModel" "pixels" "[I") (by decide +kernel)) (fun _ h9 => h9) rfl dX2_clear_10 ?_
        refine lv_iload_n hx hb dX2_clear_13 rfl (lv_at hl 2 rfl) ?_
        refine lv_iload_n hx hb dX2_clear_14 rfl (lv_at hl 1 rfl) ?_
        refine q_iast (k := k) hx hb hK.1 hP hD hS 1 0 rfl rfl (by omega) (by omega) dX2_clear_15 (fun H locs hP hD hS => ?_)
        have hP : va_P D vwCl [(m0, .inr (2, [.int (nI wd), .int (nI hg), .int (nI cap), .ref aP, .ref ax, .ref ay, .int (nI n), .ref afx, .ref afy, .ref atx, .ref aty, .int fr, .int tt, .int x0, .int x1, .int y0, .int y1])), (aP, .inl (cI, 576, .inl (upd (flN col v k) k v)))] H := hP
        have hD : va_D A [(m0, .inr (2, [.int (nI wd), .int (nI hg), .int (nI cap), .ref aP, .ref ax, .ref ay, .int (nI n), .ref afx, .ref afy, .ref atx, .ref aty, .int fr, .int tt, .int x0, .int x1, .int y0, .int y1])), (aP, .inl (cI, 576, .inl (upd (flN col v k) k v)))] := hD
        refine lv_iinc (v := (nI (k + 1))) (lv' := [(2, .int (nI (k + 1))), (0, .ref m0), (1, .int v)]) hx hb dX2_clear_16 hl (k := 2) rfl (nI_1 _) (by decide) rfl (fun ls hl => ?_)
        refine lv_goto (tgt := 2) hx hb dX2_clear_19 (by decide) ?_
        rw [flN_s] at hP hD
        exact ih (k + 1) (by omega) (by omega) H locs hP hD hS ls (lv_sub hl [1, 2, 0] rfl)
  refine lv_iconst (v := 0) hx hb dX2_clear_0 (by decide) ?_
  refine lv_istore_n (lv' := [(2, .int 0), (0, .ref m0), (1, .int v)]) hx hb dX2_clear_1 rfl hl (by decide) rfl (fun ls hl => ?_)
  exact LOOP (576 + 1) 0 (Nat.zero_le _) (by omega) s.heap [] hP hD hS ls (lv_sub hl [1, 2, 0] rfl)
/-- a vertex more among those behind a pass; beyond the most it is counted alone -/
def adP (cap : Nat) (u : Nat × (Nat → Int32) × (Nat → Int32)) (x y : Int32) : Nat × (Nat → Int32) × (Nat → Int32) := if u.1 < cap then (u.1 + 1, upd u.2.1 u.1 x, upd u.2.2 u.1 y) else (u.1 + 1, u.2.1, u.2.2)
/-- the reference's cut: the new vertex -/
def ctX (side : Nat) (a b c d x0 x1 : Int32) : Int32 × Int32 → Int32 × Int32 := fun w => if side < 2 then ((if side = 0 then x0 else x1), b + qt_i ((d - b) * ((if side = 0 then x0 else x1) - a)) (c - a)) else (a + qt_i ((c - a) * ((if side = 2 then w.1 else w.2) - b)) (d - b), (if side = 2 then w.1 else w.2))
theorem nX2_add_X2 : ∀ w ∈ wsX20, w ∈ wsX2_add := fun w h => List.mem_cons_of_mem _ (List.mem_append_right _ h)
set_option maxHeartbeats 4000000 in
set_option maxRecDepth 100000 in
theorem kX2_add (l : Launch) (D : va_G) (cI cZ : ClassId) (sz : Nat) (m0 aP ax ay afx afy atx aty wd hg cap n : Nat) (fr x0 x1 y0 y1 : Int32) (u : Nat × (Nat → Int32) × (Nat → Int32)) (x y : Int32) (hu : u.1 ≤ 1000) (hc : cap ≤ 60) : Met l yX2_add wsX2_add ({ frames := 0, cells := 0, slots := 0, locals := 0 }) (va_Pc [.ref m0, .int x, .int y] (wrP D cI cZ sz [(m0, .inr (2, [.int (nI wd), .int (nI hg), .int (nI cap), .ref aP, .ref ax, .ref ay, .int (nI n), .ref afx, .ref afy, .ref atx, .ref aty, .int fr, .int (nI u.1), .int x0, .int x1, .int y0, .int y1])), (atx, .inl (cI, 60, .inl u.2.1)), (aty, .inl (cI, 60, .inl u.2.2))])) (va_Qv (S := Nat × (Nat → Int32) × (Nat → Int32)) (fun z => z = (adP cap u x y)) (wrB D [(m0, .inr (2, [.int (nI wd), .int (nI hg), .int (nI cap), .ref aP, .ref ax, .ref ay, .int (nI n), .ref afx, .ref afy, .ref atx, .ref aty, .int fr, .int (nI u.1), .int x0, .int x1, .int y0, .int y1])), (atx, .inl (cI, 60, .inl u.2.1)), (aty, .inl (cI, 60, .inl u.2.2))] sz (fun z => [(m0, .inr (2, [.int (nI wd), .int (nI hg), .int (nI cap), .ref aP, .ref ax, .ref ay, .int (nI n), .ref afx, .ref afy, .ref atx, .ref aty, .int fr, .int (nI z.1), .int x0, .int x1, .int y0, .int y1])), (atx, .inl (cI, 60, .inl z.2.1)), (aty, .inl (cI, 60, .inl z.2.2))])) (va_A [(m0, .inr (2, [.int (nI wd), .int (nI hg), .int (nI cap), .ref aP, .ref ax, .ref ay, .int (nI n), .ref afx, .ref afy, .ref atx, .ref aty, .int fr, .int (nI u.1), .int x0, .int x1, .int y0, .int y1])), (atx, .inl (cI, 60, .inl u.2.1)), (aty, .inl (cI, 60, .inl u.2.2))] sz)) 0 0 (va_A [(m0, .inr (2, [.int (nI wd), .int (nI hg), .int (nI cap), .ref aP, .ref ax, .ref ay, .int (nI n), .ref afx, .ref afy, .ref atx, .ref aty, .int fr, .int (nI u.1), .int x0, .int x1, .int y0, .int y1])), (atx, .inl (cI, 60, .inl u.2.1)), (aty, .inl (cI, 60, .inl u.2.2))] sz) := by
  refine Met.ofW (cc := cX2_add) (maxL := 3) (ret := none) (by decide) rfl ?_
  intro p e s m args below meth c s₁ B hml hv
  obtain ⟨rfl, hsz, hP, hK, hD0⟩ := hv
  have hx := B.exec
  have hb := B.bytes
  have hr := B.returns
  have hts := atoms_spec (ws := wsX2_add) B.pre
  have hown : s.vm.findClass RX2 = some m.cls := findClass_of_methodNamed B.named
  have hlocks := B.notSynchronized
  subst hsz
  have hD := hD0.self (sz := s.heap.size)
  generalize hAe : va_A [(m0, .inr (2, [.int (nI wd), .int (nI hg), .int (nI cap), .ref aP, .ref ax, .ref ay, .int (nI n), .ref afx, .ref afy, .ref atx, .ref aty, .int fr, .int (nI u.1), .int x0, .int x1, .int y0, .int y1])), (atx, .inl (cI, 60, .inl u.2.1)), (aty, .inl (cI, 60, .inl u.2.2))] s.heap.size = A at hD ⊢
  have hA : ∀ q : Nat, s.heap.size ≤ q → A q := fun q h => by rw [← hAe]; exact Or.inr h
  have hS : va_S A s.heap s.heap [] := va_S.rf
  have hP : va_P D vwCl [(m0, .inr (2, [.int (nI wd), .int (nI hg), .int (nI cap), .ref aP, .ref ax, .ref ay, .int (nI n), .ref afx, .ref afy, .ref atx, .ref aty, .int fr, .int (nI u.1), .int x0, .int x1, .int y0, .int y1])), (atx, .inl (cI, 60, .inl u.2.1)), (aty, .inl (cI, 60, .inl u.2.2))] s.heap := hP
  have hl := lv_entry ([.ref m0, .int x, .int y]) (n := 3) (Nat.le_of_ble_eq_true rfl)
  rw [lg_entry_eq]
  generalize (lg_sl ([.ref m0, .int x, .int y]) ++ List.replicate (3 - (lg_sl ([.ref m0, .int x, .int y])).length) Slot.unset).toArray = ls at hl ⊢
  have hl : lv_has ls 3 [(0, .ref m0), (1, .int x), (2, .int y)] := hl
  refine lv_aload_n hx hb dX2_add_0 rfl (lv_at hl 0 rfl) ?_
  refine va_get (D := D) (ci := 2) (v := .int (nI u.1)) (C := RX2) (T := TX2) (N := 17) hx hb hts nX2_add_X2 hown hK.1 hP 0 rfl rfl 12 (by decide) (hts (.fieldLink RX2 64 "PolygonFrameModel" "to" "I") (by decide +kernel)) (fun _ h9 => h9) rfl dX2_add_1 ?_
  refine lv_aload_n hx hb dX2_add_4 rfl (lv_at hl 0 rfl) ?_
  refine va_get (D := D) (ci := 2) (v := .int (nI cap)) (C := RX2) (T := TX2) (N := 17) hx hb hts nX2_add_X2 hown hK.1 hP 0 rfl rfl 2 (by decide) (hts (.fieldLink RX2 54 "PolygonFrameModel" "most" "I") (by decide +kernel)) (fun _ h9 => h9) rfl dX2_add_5 ?_
  refine lv_icmp_ge (tgt := 31) hx hb dX2_add_8 (by decide) (fun c8 => ?_) (fun c8 => ?_)
  · skip
    refine lv_aload_n hx hb dX2_add_31 rfl (lv_at hl 0 rfl) ?_
    refine lv_dup hx hb dX2_add_32 rfl ?_
    refine va_get (D := D) (ci := 2) (v := .int (nI u.1)) (C := RX2) (T := TX2) (N := 17) hx hb hts nX2_add_X2 hown hK.1 hP 0 rfl rfl 12 (by decide) (hts (.fieldLink RX2 64 "PolygonFrameModel" "to" "I") (by decide +kernel)) (fun _ h9 => h9) rfl dX2_add_33 ?_
    refine lv_iconst (v := 1) hx hb dX2_add_36 (by decide) ?_
    refine lv_iadd hx hb dX2_add_37 ?_
    refine q_eq (nI_1 _) ?_
    refine va_put (D := D) (ci := 2) (v := .int (nI (u.1 + 1))) (ty := .int) (C := RX2) (T := TX2) (N := 17) hx hb hts nX2_add_X2 tyX2 tyX2_ok nmX2 hown hK.1 hP hD hS 0 rfl rfl 12 (by decide) (hts (.fieldLink RX2 64 "PolygonFrameModel" "to" "I") (by decide +kernel)) (fun _ h9 => h9) rfl (tyX2_ok 12 (by decide)) rfl rfl (Nat.le_of_ble_eq_true rfl) dX2_add_38 (fun H locs hP hD hS => ?_)
    have hP : va_P D vwCl [(m0, .inr (2, [.int (nI wd), .int (nI hg), .int (nI cap), .ref aP, .ref ax, .ref ay, .int (nI n), .ref afx, .ref afy, .ref atx, .ref aty, .int fr, .int (nI (u.1 + 1)), .int x0, .int x1, .int y0, .int y1])), (atx, .inl (cI, 60, .inl u.2.1)), (aty, .inl (cI, 60, .inl u.2.2))] H := hP
    have hD : va_D A [(m0, .inr (2, [.int (nI wd), .int (nI hg), .int (nI cap), .ref aP, .ref ax, .ref ay, .int (nI n), .ref afx, .ref afy, .ref atx, .ref aty, .int fr, .int (nI (u.1 + 1)), .int x0, .int x1, .int y0, .int y1])), (atx, .inl (cI, 60, .inl u.2.1)), (aty, .inl (cI, 60, .inl u.2.2))] := hD
    exact W.vret hx hb hr (fun t ht hW => ⟨⟨(adP cap u x y), rfl, rfl, by rw [ht]; rw [adP, if_neg (fun h => absurd (nI_lt h (by omega)) (Int32.not_lt.mpr c8))]; exact hP, by rw [hAe]; rw [adP, if_neg (fun h => absurd (nI_lt h (by omega)) (Int32.not_lt.mpr c8))]; exact hD⟩, hS.F ht⟩) hS.2.2 dX2_add_41
  · skip
    have hlt : u.1 < cap := Nat.lt_of_not_le (fun h => c8 (nI_le h (by omega)))
    refine lv_aload_n hx hb dX2_add_11 rfl (lv_at hl 0 rfl) ?_
    refine va_get (D := D) (ci := 2) (v := .ref atx) (C := RX2) (T := TX2) (N := 17) hx hb hts nX2_add_X2 hown hK.1 hP 0 rfl rfl 9 (by decide) (hts (.fieldLink RX2 25 "PolygonFrameModel" "toX" "[I") (by decide +kernel)) (fun _ h9 => h9) rfl dX2_add_12 ?_
    refine lv_aload_n hx hb dX2_add_15 rfl (lv_at hl 0 rfl) ?_
    refine va_get (D := D) (ci := 2) (v := .int (nI u.1)) (C := RX2) (T := TX2) (N := 17) hx hb hts nX2_add_X2 hown hK.1 hP 0 rfl rfl 12 (by decide) (hts (.fieldLink RX2 64 "PolygonFrameModel" "to" "I") (by decide +kernel)) (fun _ h9 => h9) rfl dX2_add_16 ?_
    refine lv_iload_n hx hb dX2_add_19 rfl (lv_at hl 1 rfl) ?_
    refine q_iast (k := u.1) hx hb hK.1 hP hD hS 1 0 rfl rfl (by omega) (by omega) dX2_add_20 (fun H locs hP hD hS => ?_)
    have hP : va_P D vwCl [(m0, .inr (2, [.int (nI wd), .int (nI hg), .int (nI cap), .ref aP, .ref ax, .ref ay, .int (nI n), .ref afx, .ref afy, .ref atx, .ref aty, .int fr, .int (nI u.1), .int x0, .int x1, .int y0, .int y1])), (atx, .inl (cI, 60, .inl (upd u.2.1 u.1 x))), (aty, .inl (cI, 60, .inl u.2.2))] H := hP
    have hD : va_D A [(m0, .inr (2, [.int (nI wd), .int (nI hg), .int (nI cap), .ref aP, .ref ax, .ref ay, .int (nI n), .ref afx, .ref afy, .ref atx, .ref aty, .int fr, .int (nI u.1), .int x0, .int x1, .int y0, .int y1])), (atx, .inl (cI, 60, .inl (upd u.2.1 u.1 x))), (aty, .inl (cI, 60, .inl u.2.2))] := hD
    refine lv_aload_n hx hb dX2_add_21 rfl (lv_at hl 0 rfl) ?_
    refine va_get (D := D) (ci := 2) (v := .ref aty) (C := RX2) (T := TX2) (N := 17) hx hb hts nX2_add_X2 hown hK.1 hP 0 rfl rfl 10 (by decide) (hts (.fieldLink RX2 28 "PolygonFrameModel" "toY" "[I") (by decide +kernel)) (fun _ h9 => h9) rfl dX2_add_22 ?_
    refine lv_aload_n hx hb dX2_add_25 rfl (lv_at hl 0 rfl) ?_
    refine va_get (D := D) (ci := 2) (v := .int (nI u.1)) (C := RX2) (T := TX2) (N := 17) hx hb hts nX2_add_X2 hown hK.1 hP 0 rfl rfl 12 (by decide) (hts (.fieldLink RX2 64 "PolygonFrameModel" "to" "I") (by decide +kernel)) (fun _ h9 => h9) rfl dX2_add_26 ?_
    refine lv_iload_n hx hb dX2_add_29 rfl (lv_at hl 2 rfl) ?_
    refine q_iast (k := u.1) hx hb hK.1 hP hD hS 2 0 rfl rfl (by omega) (by omega) dX2_add_30 (fun H locs hP hD hS => ?_)
    have hP : va_P D vwCl [(m0, .inr (2, [.int (nI wd), .int (nI hg), .int (nI cap), .ref aP, .ref ax, .ref ay, .int (nI n), .ref afx, .ref afy, .ref atx, .ref aty, .int fr, .int (nI u.1), .int x0, .int x1, .int y0, .int y1])), (atx, .inl (cI, 60, .inl (upd u.2.1 u.1 x))), (aty, .inl (cI, 60, .inl (upd u.2.2 u.1 y)))] H := hP
    have hD : va_D A [(m0, .inr (2, [.int (nI wd), .int (nI hg), .int (nI cap), .ref aP, .ref ax, .ref ay, .int (nI n), .ref afx, .ref afy, .ref atx, .ref aty, .int fr, .int (nI u.1), .int x0, .int x1, .int y0, .int y1])), (atx, .inl (cI, 60, .inl (upd u.2.1 u.1 x))), (aty, .inl (cI, 60, .inl (upd u.2.2 u.1 y)))] := hD
    refine lv_aload_n hx hb dX2_add_31 rfl (lv_at hl 0 rfl) ?_
    refine lv_dup hx hb dX2_add_32 rfl ?_
    refine va_get (D := D) (ci := 2) (v := .int (nI u.1)) (C := RX2) (T := TX2) (N := 17) hx hb hts nX2_add_X2 hown hK.1 hP 0 rfl rfl 12 (by decide) (hts (.fieldLink RX2 64 "PolygonFrameModel" "to" "I") (by decide +kernel)) (fun _ h9 => h9) rfl dX2_add_33 ?_
    refine lv_iconst (v := 1) hx hb dX2_add_36 (by decide) ?_
    refine lv_iadd hx hb dX2_add_37 ?_
    refine q_eq (nI_1 _) ?_
    refine va_put (D := D) (ci := 2) (v := .int (nI (u.1 + 1))) (ty := .int) (C := RX2) (T := TX2) (N := 17) hx hb hts nX2_add_X2 tyX2 tyX2_ok nmX2 hown hK.1 hP hD hS 0 rfl rfl 12 (by decide) (hts (.fieldLink RX2 64 "PolygonFrameModel" "to" "I") (by decide +kernel)) (fun _ h9 => h9) rfl (tyX2_ok 12 (by decide)) rfl rfl (Nat.le_of_ble_eq_true rfl) dX2_add_38 (fun H locs hP hD hS => ?_)
    have hP : va_P D vwCl [(m0, .inr (2, [.int (nI wd), .int (nI hg), .int (nI cap), .ref aP, .ref ax, .ref ay, .int (nI n), .ref afx, .ref afy, .ref atx, .ref aty, .int fr, .int (nI (u.1 + 1)), .int x0, .int x1, .int y0, .int y1])), (atx, .inl (cI, 60, .inl (upd u.2.1 u.1 x))), (aty, .inl (cI, 60, .inl (upd u.2.2 u.1 y)))] H := hP
    have hD : va_D A [(m0, .inr (2, [.int (nI wd), .int (nI hg), .int (nI cap), .ref aP, .ref ax, .ref ay, .int (nI n), .ref afx, .ref afy, .ref atx, .ref aty, .int fr, .int (nI (u.1 + 1)), .int x0, .int x1, .int y0, .int y1])), (atx, .inl (cI, 60, .inl (upd u.2.1 u.1 x))), (aty, .inl (cI, 60, .inl (upd u.2.2 u.1 y)))] := hD
    exact W.vret hx hb hr (fun t ht hW => ⟨⟨(adP cap u x y), rfl, rfl, by rw [ht]; rw [adP, if_pos hlt]; exact hP, by rw [hAe]; rw [adP, if_pos hlt]; exact hD⟩, hS.F ht⟩) hS.2.2 dX2_add_41
end
section
/-! LISTS: what a pass makes, vertex by vertex; what arrays hold of it. -/
def mpU (cap : Nat) (tx ty : Nat → Int32) (L : List (Int32 × Int32)) : Nat × (Nat → Int32) × (Nat → Int32) := L.foldl (fun u v => adP cap u v.1 v.2) (0, tx, ty)
theorem mpU_0 (cap : Nat) (tx ty : Nat → Int32) : mpU cap tx ty [] = (0, tx, ty) := rfl
theorem mpU_snoc (cap : Nat) (tx ty : Nat → Int32) (L : List (Int32 × Int32)) (v : Int32 × Int32) : mpU cap tx ty (L ++ [v]) = adP cap (mpU cap tx ty L) v.1 v.2 := by
  unfold mpU; rw [List.foldl_append]; rfl
theorem adP_1 (cap : Nat) (u : Nat × (Nat → Int32) × (Nat → Int32)) (x y : Int32) : (adP cap u x y).1 = u.1 + 1 := by unfold adP; split <;> rfl
theorem fold_1 (cap : Nat) (L : List (Int32 × Int32)) : ∀ u, (L.foldl (fun u v => adP cap u v.1 v.2) u).1 = u.1 + L.length := by
  induction L with
  | nil => intro u; rfl
  | cons v L ih => intro u; rw [List.foldl_cons, ih, adP_1, List.length_cons]; omega
theorem mpU_1 (cap : Nat) (tx ty : Nat → Int32) (L : List (Int32 × Int32)) : (mpU cap tx ty L).1 = L.length := by
  unfold mpU; rw [fold_1]; show 0 + L.length = L.length; omega
theorem fold_get (cap : Nat) (L : List (Int32 × Int32)) : ∀ (u : Nat × (Nat → Int32) × (Nat → Int32)) (i : Nat),
    (i < u.1 → (L.foldl (fun u v => adP cap u v.1 v.2) u).2.1 i = u.2.1 i ∧ (L.foldl (fun u v => adP cap u v.1 v.2) u).2.2 i = u.2.2 i) ∧
    (u.1 ≤ i → i < u.1 + L.length → i < cap → some ((L.foldl (fun u v => adP cap u v.1 v.2) u).2.1 i, (L.foldl (fun u v => adP cap u v.1 v.2) u).2.2 i) = L[i - u.1]?) := by
  induction L with
  | nil => intro u i; exact ⟨fun _ => ⟨rfl, rfl⟩, fun h1 h2 => absurd h2 (by simp only [List.length_nil]; omega)⟩
  | cons v L ih =>
    intro u i
    rw [List.foldl_cons]
    obtain ⟨h1, h2⟩ := ih (adP cap u v.1 v.2) i
    rw [adP_1] at h1 h2
    have keep : i < u.1 → (adP cap u v.1 v.2).2.1 i = u.2.1 i ∧ (adP cap u v.1 v.2).2.2 i = u.2.2 i := by
      intro h
      unfold adP
      split
      · exact ⟨if_neg (by omega), if_neg (by omega)⟩
      · exact ⟨rfl, rfl⟩
    refine ⟨fun h => ?_, fun h3 h4 h5 => ?_⟩
    · rw [(h1 (by omega)).1, (h1 (by omega)).2]; exact keep h
    · rw [List.length_cons] at h4
      by_cases he : i = u.1
      · subst he
        rw [(h1 (by omega)).1, (h1 (by omega)).2]
        have e : adP cap u v.1 v.2 = (u.1 + 1, upd u.2.1 u.1 v.1, upd u.2.2 u.1 v.2) := if_pos h5
        rw [e]
        rw [Nat.sub_self, List.getElem?_cons_zero]
        show some (upd u.2.1 u.1 v.1 u.1, upd u.2.2 u.1 v.2 u.1) = some v
        rw [pk_us, pk_us]
      · rw [h2 (by omega) (by omega) h5]
        rw [show i - u.1 = (i - (u.1 + 1)) + 1 by omega, List.getElem?_cons_succ]
/-- arrays hold a list -/
def hoL (fx fy : Nat → Int32) (L : List (Int32 × Int32)) : Prop := ∀ i : Nat, i < L.length → L[i]? = some (fx i, fy i)
theorem mpU_ho {cap : Nat} {tx ty : Nat → Int32} {L : List (Int32 × Int32)} (h : L.length ≤ cap) : hoL (mpU cap tx ty L).2.1 (mpU cap tx ty L).2.2 L := by
  intro i hi
  have h2 := (fold_get cap L (0, tx, ty) i).2 (Nat.zero_le _) (by show i < 0 + L.length; omega) (by omega)
  exact h2.symm
/-- the one before, going round -/
def prN (n k : Nat) : Nat := if k = 0 then n - 1 else k - 1
theorem prN_lt {n k : Nat} (h : k < n) : prN n k < n := by unfold prN; split <;> omega
def stL (g : Nat → Bool) (c : Nat → Nat → Int32 × Int32) (f : Nat → Int32 × Int32) (P k : Nat) : List (Int32 × Int32) := (if g k = g P then [] else [c P k]) ++ (if g k = true then [f k] else [])
def outL (g : Nat → Bool) (c : Nat → Nat → Int32 × Int32) (f : Nat → Int32 × Int32) (n : Nat) : Nat → List (Int32 × Int32)
  | 0 => []
  | k + 1 => outL g c f n k ++ stL g c f (prN n k) k
section OUT
variable {g : Nat → Bool} {c : Nat → Nat → Int32 × Int32} {f : Nat → Int32 × Int32} {n k : Nat}
theorem out_00 (h : g k = g (prN n k)) (h2 : g k = false) : outL g c f n (k + 1) = outL g c f n k := by
  rw [outL, stL, if_pos h, if_neg (by rw [h2]; decide), List.append_nil, List.append_nil]
theorem out_01 (h : g k = g (prN n k)) (h2 : g k = true) : outL g c f n (k + 1) = outL g c f n k ++ [f k] := by
  rw [outL, stL, if_pos h, if_pos h2, List.nil_append]
theorem out_10 (h : ¬ g k = g (prN n k)) (h2 : g k = false) : outL g c f n (k + 1) = outL g c f n k ++ [c (prN n k) k] := by
  rw [outL, stL, if_neg h, if_neg (by rw [h2]; decide), List.append_nil]
theorem out_11 (h : ¬ g k = g (prN n k)) (h2 : g k = true) : outL g c f n (k + 1) = (outL g c f n k ++ [c (prN n k) k]) ++ [f k] := by
  rw [outL, stL, if_neg h, if_pos h2, List.append_assoc]
theorem out_mono {m : Nat} (h : k ≤ m) : (outL g c f n k).length ≤ (outL g c f n m).length := by
  induction m with
  | zero => rw [Nat.le_zero.mp h]; exact Nat.le_refl _
  | succ m ih =>
    by_cases he : k = m + 1
    · rw [he]; exact Nat.le_refl _
    · rw [outL, List.length_append]; have := ih (by omega); omega
theorem out_len (k : Nat) : (outL g c f n k).length ≤ 2 * k := by
  induction k with
  | zero => exact Nat.le_refl _
  | succ k ih =>
    rw [outL, List.length_append, stL, List.length_append]
    have h1 : (if g k = g (prN n k) then ([] : List (Int32 × Int32)) else [c (prN n k) k]).length ≤ 1 := by split <;> simp
    have h2 : (if g k = true then [f k] else []).length ≤ 1 := by split <;> simp
    omega
theorem out_cutlt (h : ¬ g k = g (prN n k)) : (outL g c f n k).length < (outL g c f n (k + 1)).length := by
  rw [outL, List.length_append, stL, if_neg h, List.length_append, List.length_singleton]; omega
theorem out_goodlt (h : ¬ g k = g (prN n k)) (h2 : g k = true) : (outL g c f n k).length + 1 < (outL g c f n (k + 1)).length := by
  rw [out_11 h h2, List.length_append, List.length_append, List.length_singleton, List.length_singleton]; omega
theorem out_goodlt0 (h2 : g k = true) : (outL g c f n k).length < (outL g c f n (k + 1)).length := by
  rw [outL, List.length_append, stL, if_pos h2, List.length_append, List.length_singleton]; omega
end OUT
theorem out_congr {g g' : Nat → Bool} {c c' : Nat → Nat → Int32 × Int32} {f f' : Nat → Int32 × Int32} {n : Nat} (hg : ∀ i, i < n → g i = g' i) (hc : ∀ i j, i < n → j < n → ¬ g' j = g' i → c i j = c' i j) (hf : ∀ i, i < n → f i = f' i) : ∀ k, k ≤ n → outL g c f n k = outL g' c' f' n k := by
  intro k
  induction k with
  | zero => intro _; rfl
  | succ k ih =>
    intro hk
    rw [outL, outL, ih (by omega), stL, stL, hg k (by omega), hg (prN n k) (prN_lt (by omega)), hf k (by omega)]
    by_cases h : g' k = g' (prN n k)
    · rw [if_pos h, if_pos h]
    · rw [if_neg h, if_neg h, hc (prN n k) k (prN_lt (by omega)) (by omega) h]
/-- which vertices are good, and the cut, of side q at s -/
def gV (q : Nat) (s : Int32) (fx fy : Nat → Int32) (i : Nat) : Bool := gdB q (if q < 2 then fx i else fy i) s
def ctV (q : Nat) (s : Int32) (fx fy : Nat → Int32) (P k : Nat) : Int32 × Int32 := if q < 2 then (s, caI (fx P) (fy P) (fx k) (fy k) s) else (caI (fy P) (fx P) (fy k) (fx k) s, s)
def psL (q : Nat) (s : Int32) (fx fy : Nat → Int32) (n k : Nat) : List (Int32 × Int32) := outL (gV q s fx fy) (ctV q s fx fy) (fun i => (fx i, fy i)) n k
theorem gd_ne {q : Nat} {v v' s : Int32} (h : ¬ gdB q v s = gdB q v' s) : ¬ v - v' = 0 := fun h2 => h (by rw [sub0 h2])
/-- a list's own arrays -/
def lX (L : List (Int32 × Int32)) (i : Nat) : Int32 := (L.getD i (0, 0)).1
def lY (L : List (Int32 × Int32)) (i : Nat) : Int32 := (L.getD i (0, 0)).2
def pasL (q : Nat) (s : Int32) (L : List (Int32 × Int32)) : List (Int32 × Int32) := psL q s (lX L) (lY L) L.length L.length
theorem hoL_x {fx fy : Nat → Int32} {L : List (Int32 × Int32)} (h : hoL fx fy L) {i : Nat} (hi : i < L.length) : fx i = lX L i ∧ fy i = lY L i := by
  have h2 := h i hi
  unfold lX lY
  rw [List.getD_eq_getElem?_getD, h2]; exact ⟨rfl, rfl⟩
theorem psL_pas {q : Nat} {s : Int32} {fx fy : Nat → Int32} {L : List (Int32 × Int32)} (h : hoL fx fy L) : psL q s fx fy L.length L.length = pasL q s L := by
  unfold pasL psL
  refine out_congr (fun i hi => ?_) (fun i j hi hj _ => ?_) (fun i hi => ?_) _ (Nat.le_refl _)
  · unfold gV; rw [(hoL_x h hi).1, (hoL_x h hi).2]
  · unfold ctV; rw [(hoL_x h hi).1, (hoL_x h hi).2, (hoL_x h hj).1, (hoL_x h hj).2]
  · rw [(hoL_x h hi).1, (hoL_x h hi).2]
/-- the first k passes; none where there would be too many -/
def clpL (cap : Nat) (sd : Nat → Int32) (L : List (Int32 × Int32)) : Nat → Option (List (Int32 × Int32))
  | 0 => some L
  | k + 1 => match clpL cap sd L k with
    | none => none
    | some M => if (pasL k (sd k) M).length ≤ cap then some (pasL k (sd k) M) else none
theorem clp_s {cap : Nat} {sd : Nat → Int32} {L M : List (Int32 × Int32)} {k : Nat} (h : clpL cap sd L k = some M) (h2 : (pasL k (sd k) M).length ≤ cap) : clpL cap sd L (k + 1) = some (pasL k (sd k) M) := by
  rw [clpL, h]; exact if_pos h2
theorem clp_n {cap : Nat} {sd : Nat → Int32} {L M : List (Int32 × Int32)} {k : Nat} (h : clpL cap sd L k = some M) (h2 : ¬ (pasL k (sd k) M).length ≤ cap) : clpL cap sd L (k + 1) = none := by
  rw [clpL, h]; exact if_neg h2
theorem clp_nn {cap : Nat} {sd : Nat → Int32} {L : List (Int32 × Int32)} {k : Nat} (h : clpL cap sd L k = none) : ∀ m, clpL cap sd L (k + m) = none := by
  intro m
  induction m with
  | zero => exact h
  | succ m ih => rw [← Nat.add_assoc, clpL, ih]
theorem clp_none {cap : Nat} {sd : Nat → Int32} {L M : List (Int32 × Int32)} {k : Nat} (hk : k < 4) (h : clpL cap sd L k = some M) (h2 : ¬ (pasL k (sd k) M).length ≤ cap) : clpL cap sd L 4 = none := by
  have h3 := clp_nn (clp_n h h2) (4 - (k + 1))
  rwa [show k + 1 + (4 - (k + 1)) = 4 by omega] at h3
end
section
/-! PASSES: the reference's cut and pass; the class's pass, by x and by y. -/
/-- the cut of (a, b) and (c, d) with side q at s -/
def ctC (q : Nat) (s a b c d : Int32) : Int32 × Int32 := if q < 2 then (s, caI a b c d s) else (caI b a d c s, s)
theorem nX2_cut_X2 : ∀ w ∈ wsX20, w ∈ wsX2_cut := fun w h => List.mem_cons_of_mem _ (List.mem_append_right _ h)
set_option maxHeartbeats 4000000 in
set_option maxRecDepth 100000 in
theorem kX2_cut (l : Launch) (D : va_G) (cI cZ : ClassId) (sz : Nat) (m0 aP ax ay afx afy atx aty wd hg cap n : Nat) (fr : Int32) (sd : Nat → Int32) (u : Nat × (Nat → Int32) × (Nat → Int32)) (q : Nat) (a0 b0 c0 d0 : Int32) (hq : q < 4) (h0 : q < 2 → ¬ c0 - a0 = 0) (h1 : 2 ≤ q → ¬ d0 - b0 = 0) (hu : u.1 ≤ 1000) (hc : cap ≤ 60) : Met l yX2_cut wsX2_cut ({ frames := 1, cells := 0, slots := 0, locals := 40 }) (va_Pc [.ref m0, .int (nI q), .int a0, .int b0, .int c0, .int d0] (wrP D cI cZ sz [(m0, .inr (2, [.int (nI wd), .int (nI hg), .int (nI cap), .ref aP, .ref ax, .ref ay, .int (nI n), .ref afx, .ref afy, .ref atx, .ref aty, .int fr, .int (nI u.1), .int (sd 0), .int (sd 1), .int (sd 2), .int (sd 3)])), (atx, .inl (cI, 60, .inl u.2.1)), (aty, .inl (cI, 60, .inl u.2.2))])) (va_Qv (S := Nat × (Nat → Int32) × (Nat → Int32)) (fun z => z = adP cap u (ctC q (sd q) a0 b0 c0 d0).1 (ctC q (sd q) a0 b0 c0 d0).2) (wrB D [(m0, .inr (2, [.int (nI wd), .int (nI hg), .int (nI cap), .ref aP, .ref ax, .ref ay, .int (nI n), .ref afx, .ref afy, .ref atx, .ref aty, .int fr, .int (nI u.1), .int (sd 0), .int (sd 1), .int (sd 2), .int (sd 3)])), (atx, .inl (cI, 60, .inl u.2.1)), (aty, .inl (cI, 60, .inl u.2.2))] sz (fun z => [(m0, .inr (2, [.int (nI wd), .int (nI hg), .int (nI cap), .ref aP, .ref ax, .ref ay, .int (nI n), .ref afx, .ref afy, .ref atx, .ref aty, .int fr, .int (nI z.1), .int (sd 0), .int (sd 1), .int (sd 2), .int (sd 3)])), (atx, .inl (cI, 60, .inl z.2.1)), (aty, .inl (cI, 60, .inl z.2.2))])) (va_A [(m0, .inr (2, [.int (nI wd), .int (nI hg), .int (nI cap), .ref aP, .ref ax, .ref ay, .int (nI n), .ref afx, .ref afy, .ref atx, .ref aty, .int fr, .int (nI u.1), .int (sd 0), .int (sd 1), .int (sd 2), .int (sd 3)])), (atx, .inl (cI, 60, .inl u.2.1)), (aty, .inl (cI, 60, .inl u.2.2))] sz)) 0 0 (va_A [(m0, .inr (2, [.int (nI wd), .int (nI hg), .int (nI cap), .ref aP, .ref ax, .ref ay, .int (nI n), .ref afx, .ref afy, .ref atx, .ref aty, .int fr, .int (nI u.1), .int (sd 0), .int (sd 1), .int (sd 2), .int (sd 3)])), (atx, .inl (cI, 60, .inl u.2.1)), (aty, .inl (cI, 60, .inl u.2.2))] sz) := by
  refine Met.ofW (cc := cX2_cut) (maxL := 7) (ret := none) (by decide) rfl ?_
  intro p e s m args below meth c s₁ B hml hv
  obtain ⟨rfl, hsz, hP, hK, hD0⟩ := hv
  have hx := B.exec
  have hb := B.bytes
  have hr := B.returns
  have hts := atoms_spec (ws := wsX2_cut) B.pre
  have hown : s.vm.findClass RX2 = some m.cls := findClass_of_methodNamed B.named
  have hlocks := B.notSynchronized
  subst hsz
  have hD := hD0.self (sz := s.heap.size)
  generalize hAe : va_A [(m0, .inr (2, [.int (nI wd), .int (nI hg), .int (nI cap), .ref aP, .ref ax, .ref ay, .int (nI n), .ref afx, .ref afy, .ref atx, .ref aty, .int fr, .int (nI u.1), .int (sd 0), .int (sd 1), .int (sd 2), .int (sd 3)])), (atx, .inl (cI, 60, .inl u.2.1)), (aty, .inl (cI, 60, .inl u.2.2))] s.heap.size = A at hD ⊢
  have hA : ∀ q : Nat, s.heap.size ≤ q → A q := fun q h => by rw [← hAe]; exact Or.inr h
  have hS : va_S A s.heap s.heap [] := va_S.rf
  have hP : va_P D vwCl [(m0, .inr (2, [.int (nI wd), .int (nI hg), .int (nI cap), .ref aP, .ref ax, .ref ay, .int (nI n), .ref afx, .ref afy, .ref atx, .ref aty, .int fr, .int (nI u.1), .int (sd 0), .int (sd 1), .int (sd 2), .int (sd 3)])), (atx, .inl (cI, 60, .inl u.2.1)), (aty, .inl (cI, 60, .inl u.2.2))] s.heap := hP
  have hl := lv_entry ([.ref m0, .int (nI q), .int a0, .int b0, .int c0, .int d0]) (n := 7) (Nat.le_of_ble_eq_true rfl)
  rw [lg_entry_eq]
  generalize (lg_sl ([.ref m0, .int (nI q), .int a0, .int b0, .int c0, .int d0]) ++ List.replicate (7 - (lg_sl ([.ref m0, .int (nI q), .int a0, .int b0, .int c0, .int d0])).length) Slot.unset).toArray = ls at hl ⊢
  have hl : lv_has ls 7 [(0, .ref m0), (1, .int (nI q)), (2, .int a0), (3, .int b0), (4, .int c0), (5, .int d0)] := hl
  refine lv_iload_n hx hb dX2_cut_0 rfl (lv_at hl 1 rfl) ?_
  refine lv_iconst (v := 2) hx hb dX2_cut_1 (by decide) ?_
  refine lv_icmp_ge (tgt := 49) hx hb dX2_cut_2 (by decide) (fun c2 => ?_) (fun c2 => ?_)
  · skip
    refine lv_iload_n hx hb dX2_cut_49 rfl (lv_at hl 1 rfl) ?_
    refine lv_iconst (v := 2) hx hb dX2_cut_50 (by decide) ?_
    refine lv_icmp_ne (tgt := 61) hx hb dX2_cut_51 (by decide) (fun c51 => ?_) (fun c51 => ?_)
    · skip
      have hq2 : 2 ≤ q := (nI_leI (a := 2) (by omega) (by omega)).mp c2
      obtain rfl : q = 3 := Nat.le_antisymm (by omega) (Nat.lt_of_le_of_ne hq2 (fun h => c51 (by rw [← h]; rfl)))
      refine lv_aload_n hx hb dX2_cut_61 rfl (lv_at hl 0 rfl) ?_
      refine va_get (D := D) (ci := 2) (v := .int (sd 3)) (C := RX2) (T := TX2) (N := 17) hx hb hts nX2_cut_X2 hown hK.1 hP 0 rfl rfl 16 (by decide) (hts (.fieldLink RX2 41 "PolygonFrameModel" "top" "I") (by decide +kernel)) (fun _ h9 => h9) rfl dX2_cut_62 ?_
      refine lv_istore (lv' := [(6, .int (sd 3)), (0, .ref m0), (1, .int (nI 3)), (2, .int a0), (3, .int b0), (4, .int c0), (5, .int d0)]) hx hb dX2_cut_65 hl (by decide) rfl (fun ls hl => ?_)
      refine lv_aload_n hx hb dX2_cut_67 rfl (lv_at hl 1 rfl) ?_
      refine lv_iload_n hx hb dX2_cut_68 rfl (lv_at hl 3 rfl) ?_
      refine lv_iload hx hb dX2_cut_69 (lv_at hl 5 rfl) ?_
      refine lv_iload_n hx hb dX2_cut_71 rfl (lv_at hl 3 rfl) ?_
      refine lv_isub hx hb dX2_cut_72 ?_
      refine lv_iload hx hb dX2_cut_73 (lv_at hl 0 rfl) ?_
      refine lv_iload_n hx hb dX2_cut_75 rfl (lv_at hl 4 rfl) ?_
      refine lv_isub hx hb dX2_cut_76 ?_
      refine lv_imul hx hb dX2_cut_77 ?_
      refine lv_iload hx hb dX2_cut_78 (lv_at hl 6 rfl) ?_
      refine lv_iload_n hx hb dX2_cut_80 rfl (lv_at hl 4 rfl) ?_
      refine lv_isub hx hb dX2_cut_81 ?_
      refine rd_i (va_runS (As := [.int ((c0 - a0) * ((sd 3) - b0)), .int (d0 - b0)]) ⟨hx, hb, hml, hown, hts⟩ (kX2_quotient l D cI cZ ((c0 - a0) * ((sd 3) - b0)) (d0 - b0) (h1 (by decide))) (va_cwS 2 hts gX2_cut_X2_quotient rfl rfl rfl (by decide +kernel) ⟨Nat.le_of_ble_eq_true rfl, Nat.le_of_ble_eq_true rfl⟩) rd_pre0 rfl rfl hl.1 rfl (lv_room (Nat.le_of_ble_eq_true rfl)) dX2_cut_82 ⟨Nat.zero_le _, Nat.zero_le _⟩) ?_
      refine q_eq (qt_fl _ _) ?_
      refine lv_iadd hx hb dX2_cut_85 ?_
      refine lv_iload hx hb dX2_cut_86 (lv_at hl 0 rfl) ?_
      refine wr_v (wr := []) hP hD hS hA [0, 1, 2] [] rfl rfl (by decide) (by decide) (va_runV (As := [.int (a0 + (fl_i ((c0 - a0) * ((sd 3) - b0)) (d0 - b0))), .int (sd 3)]) ⟨hx, hb, hml, hown, hts⟩ (kX2_add l D cI cZ s.heap.size m0 aP ax ay afx afy atx aty wd hg cap n fr (sd 0) (sd 1) (sd 2) (sd 3) u (a0 + (fl_i ((c0 - a0) * ((sd 3) - b0)) (d0 - b0))) (sd 3) hu hc) (cwV 2 hts gX2_cut_X2_add rfl rfl rfl (by decide +kernel) ⟨Nat.le_of_ble_eq_true rfl, Nat.le_of_ble_eq_true rfl⟩) (wr_preV (ci := 2) (q0 := 0) (hP.sub [0, 1, 2] rfl) hK (hD.sub [0, 1, 2] (by decide) rfl) rfl rfl) rfl rfl hl.1 rfl (lv_room (Nat.le_of_ble_eq_true rfl)) dX2_cut_88 ⟨Nat.zero_le _, Nat.zero_le _⟩) (fun u1 H locs hw1 hP hD hS => ?_)
      replace hP : va_P D vwCl [(m0, .inr (2, [.int (nI wd), .int (nI hg), .int (nI cap), .ref aP, .ref ax, .ref ay, .int (nI n), .ref afx, .ref afy, .ref atx, .ref aty, .int fr, .int (nI u1.1), .int (sd 0), .int (sd 1), .int (sd 2), .int (sd 3)])), (atx, .inl (cI, 60, .inl u1.2.1)), (aty, .inl (cI, 60, .inl u1.2.2))] H := hP.sub [0, 1, 2] rfl
      replace hD : va_D A [(m0, .inr (2, [.int (nI wd), .int (nI hg), .int (nI cap), .ref aP, .ref ax, .ref ay, .int (nI n), .ref afx, .ref afy, .ref atx, .ref aty, .int fr, .int (nI u1.1), .int (sd 0), .int (sd 1), .int (sd 2), .int (sd 3)])), (atx, .inl (cI, 60, .inl u1.2.1)), (aty, .inl (cI, 60, .inl u1.2.2))] := hD.sub [0, 1, 2] (by decide) rfl
      exact W.vret hx hb hr (fun t ht hW => ⟨⟨u1, rfl, hw1, by rw [ht]; exact hP, by rw [hAe]; exact hD⟩, hS.F ht⟩) hS.2.2 dX2_cut_91
    · skip
      have hq2 : 2 ≤ q := (nI_leI (a := 2) (by omega) (by omega)).mp c2
      obtain rfl : q = 2 := (nI_eq (b := 2) (by omega) (by omega)).mp c51
      refine lv_aload_n hx hb dX2_cut_54 rfl (lv_at hl 0 rfl) ?_
      refine va_get (D := D) (ci := 2) (v := .int (sd 2)) (C := RX2) (T := TX2) (N := 17) hx hb hts nX2_cut_X2 hown hK.1 hP 0 rfl rfl 15 (by decide) (hts (.fieldLink RX2 38 "PolygonFrameModel" "low" "I") (by decide +kernel)) (fun _ h9 => h9) rfl dX2_cut_55 ?_
      refine lv_goto (tgt := 65) hx hb dX2_cut_58 (by decide) ?_
      refine lv_istore (lv' := [(6, .int (sd 2)), (0, .ref m0), (1, .int (nI 2)), (2, .int a0), (3, .int b0), (4, .int c0), (5, .int d0)]) hx hb dX2_cut_65 hl (by decide) rfl (fun ls hl => ?_)
      refine lv_aload_n hx hb dX2_cut_67 rfl (lv_at hl 1 rfl) ?_
      refine lv_iload_n hx hb dX2_cut_68 rfl (lv_at hl 3 rfl) ?_
      refine lv_iload hx hb dX2_cut_69 (lv_at hl 5 rfl) ?_
      refine lv_iload_n hx hb dX2_cut_71 rfl (lv_at hl 3 rfl) ?_
      refine lv_isub hx hb dX2_cut_72 ?_
      refine lv_iload hx hb dX2_cut_73 (lv_at hl 0 rfl) ?_
      refine lv_iload_n hx hb dX2_cut_75 rfl (lv_at hl 4 rfl) ?_
      refine lv_isub hx hb dX2_cut_76 ?_
      refine lv_imul hx hb dX2_cut_77 ?_
      refine lv_iload hx hb dX2_cut_78 (lv_at hl 6 rfl) ?_
      refine lv_iload_n hx hb dX2_cut_80 rfl (lv_at hl 4 rfl) ?_
      refine lv_isub hx hb dX2_cut_81 ?_
      refine rd_i (va_runS (As := [.int ((c0 - a0) * ((sd 2) - b0)), .int (d0 - b0)]) ⟨hx, hb, hml, hown, hts⟩ (kX2_quotient l D cI cZ ((c0 - a0) * ((sd 2) - b0)) (d0 - b0) (h1 (by decide))) (va_cwS 2 hts gX2_cut_X2_quotient rfl rfl rfl (by decide +kernel) ⟨Nat.le_of_ble_eq_true rfl, Nat.le_of_ble_eq_true rfl⟩) rd_pre0 rfl rfl hl.1 rfl (lv_room (Nat.le_of_ble_eq_true rfl)) dX2_cut_82 ⟨Nat.zero_le _, Nat.zero_le _⟩) ?_
      refine q_eq (qt_fl _ _) ?_
      refine lv_iadd hx hb dX2_cut_85 ?_
      refine lv_iload hx hb dX2_cut_86 (lv_at hl 0 rfl) ?_
      refine wr_v (wr := []) hP hD hS hA [0, 1, 2] [] rfl rfl (by decide) (by decide) (va_runV (As := [.int (a0 + (fl_i ((c0 - a0) * ((sd 2) - b0)) (d0 - b0))), .int (sd 2)]) ⟨hx, hb, hml, hown, hts⟩ (kX2_add l D cI cZ s.heap.size m0 aP ax ay afx afy atx aty wd hg cap n fr (sd 0) (sd 1) (sd 2) (sd 3) u (a0 + (fl_i ((c0 - a0) * ((sd 2) - b0)) (d0 - b0))) (sd 2) hu hc) (cwV 2 hts gX2_cut_X2_add rfl rfl rfl (by decide +kernel) ⟨Nat.le_of_ble_eq_true rfl, Nat.le_of_ble_eq_true rfl⟩) (wr_preV (ci := 2) (q0 := 0) (hP.sub [0, 1, 2] rfl) hK (hD.sub [0, 1, 2] (by decide) rfl) rfl rfl) rfl rfl hl.1 rfl (lv_room (Nat.le_of_ble_eq_true rfl)) dX2_cut_88 ⟨Nat.zero_le _, Nat.zero_le _⟩) (fun u1 H locs hw1 hP hD hS => ?_)
      replace hP : va_P D vwCl [(m0, .inr (2, [.int (nI wd), .int (nI hg), .int (nI cap), .ref aP, .ref ax, .ref ay, .int (nI n), .ref afx, .ref afy, .ref atx, .ref aty, .int fr, .int (nI u1.1), .int (sd 0), .int (sd 1), .int (sd 2), .int (sd 3)])), (atx, .inl (cI, 60, .inl u1.2.1)), (aty, .inl (cI, 60, .inl u1.2.2))] H := hP.sub [0, 1, 2] rfl
      replace hD : va_D A [(m0, .inr (2, [.int (nI wd), .int (nI hg), .int (nI cap), .ref aP, .ref ax, .ref ay, .int (nI n), .ref afx, .ref afy, .ref atx, .ref aty, .int fr, .int (nI u1.1), .int (sd 0), .int (sd 1), .int (sd 2), .int (sd 3)])), (atx, .inl (cI, 60, .inl u1.2.1)), (aty, .inl (cI, 60, .inl u1.2.2))] := hD.sub [0, 1, 2] (by decide) rfl
      exact W.vret hx hb hr (fun t ht hW => ⟨⟨u1, rfl, hw1, by rw [ht]; exact hP, by rw [hAe]; exact hD⟩, hS.F ht⟩) hS.2.2 dX2_cut_91
  · skip
    refine lv_iload_n hx hb dX2_cut_5 rfl (lv_at hl 1 rfl) ?_
    refine lv_if_ne (tgt := 16) hx hb dX2_cut_6 (by decide) (fun c6 => ?_) (fun c6 => ?_)
    · skip
      have hq2 : q < 2 := Nat.lt_of_not_le (fun h => c2 (nI_le (a := 2) h (by omega)))
      obtain rfl : q = 1 := Nat.le_antisymm (by omega) (Nat.pos_of_ne_zero (fun h => c6 (by rw [h]; rfl)))
      refine lv_aload_n hx hb dX2_cut_16 rfl (lv_at hl 0 rfl) ?_
      refine va_get (D := D) (ci := 2) (v := .int (sd 1)) (C := RX2) (T := TX2) (N := 17) hx hb hts nX2_cut_X2 hown hK.1 hP 0 rfl rfl 14 (by decide) (hts (.fieldLink RX2 35 "PolygonFrameModel" "right" "I") (by decide +kernel)) (fun _ h9 => h9) rfl dX2_cut_17 ?_
      refine lv_istore (lv' := [(6, .int (sd 1)), (0, .ref m0), (1, .int (nI 1)), (2, .int a0), (3, .int b0), (4, .int c0), (5, .int d0)]) hx hb dX2_cut_20 hl (by decide) rfl (fun ls hl => ?_)
      refine lv_aload_n hx hb dX2_cut_22 rfl (lv_at hl 1 rfl) ?_
      refine lv_iload hx hb dX2_cut_23 (lv_at hl 0 rfl) ?_
      refine lv_iload_n hx hb dX2_cut_25 rfl (lv_at hl 4 rfl) ?_
      refine lv_iload hx hb dX2_cut_26 (lv_at hl 6 rfl) ?_
      refine lv_iload_n hx hb dX2_cut_28 rfl (lv_at hl 4 rfl) ?_
      refine lv_isub hx hb dX2_cut_29 ?_
      refine lv_iload hx hb dX2_cut_30 (lv_at hl 0 rfl) ?_
      refine lv_iload_n hx hb dX2_cut_32 rfl (lv_at hl 3 rfl) ?_
      refine lv_isub hx hb dX2_cut_33 ?_
      refine lv_imul hx hb dX2_cut_34 ?_
      refine lv_iload hx hb dX2_cut_35 (lv_at hl 5 rfl) ?_
      refine lv_iload_n hx hb dX2_cut_37 rfl (lv_at hl 3 rfl) ?_
      refine lv_isub hx hb dX2_cut_38 ?_
      refine rd_i (va_runS (As := [.int ((d0 - b0) * ((sd 1) - a0)), .int (c0 - a0)]) ⟨hx, hb, hml, hown, hts⟩ (kX2_quotient l D cI cZ ((d0 - b0) * ((sd 1) - a0)) (c0 - a0) (h0 (by decide))) (va_cwS 2 hts gX2_cut_X2_quotient rfl rfl rfl (by decide +kernel) ⟨Nat.le_of_ble_eq_true rfl, Nat.le_of_ble_eq_true rfl⟩) rd_pre0 rfl rfl hl.1 rfl (lv_room (Nat.le_of_ble_eq_true rfl)) dX2_cut_39 ⟨Nat.zero_le _, Nat.zero_le _⟩) ?_
      refine q_eq (qt_fl _ _) ?_
      refine lv_iadd hx hb dX2_cut_42 ?_
      refine wr_v (wr := []) hP hD hS hA [0, 1, 2] [] rfl rfl (by decide) (by decide) (va_runV (As := [.int (sd 1), .int (b0 + (fl_i ((d0 - b0) * ((sd 1) - a0)) (c0 - a0)))]) ⟨hx, hb, hml, hown, hts⟩ (kX2_add l D cI cZ s.heap.size m0 aP ax ay afx afy atx aty wd hg cap n fr (sd 0) (sd 1) (sd 2) (sd 3) u (sd 1) (b0 + (fl_i ((d0 - b0) * ((sd 1) - a0)) (c0 - a0))) hu hc) (cwV 2 hts gX2_cut_X2_add rfl rfl rfl (by decide +kernel) ⟨Nat.le_of_ble_eq_true rfl, Nat.le_of_ble_eq_true rfl⟩) (wr_preV (ci := 2) (q0 := 0) (hP.sub [0, 1, 2] rfl) hK (hD.sub [0, 1, 2] (by decide) rfl) rfl rfl) rfl rfl hl.1 rfl (lv_room (Nat.le_of_ble_eq_true rfl)) dX2_cut_43 ⟨Nat.zero_le _, Nat.zero_le _⟩) (fun u1 H locs hw1 hP hD hS => ?_)
      replace hP : va_P D vwCl [(m0, .inr (2, [.int (nI wd), .int (nI hg), .int (nI cap), .ref aP, .ref ax, .ref ay, .int (nI n), .ref afx, .ref afy, .ref atx, .ref aty, .int fr, .int (nI u1.1), .int (sd 0), .int (sd 1), .int (sd 2), .int (sd 3)])), (atx, .inl (cI, 60, .inl u1.2.1)), (aty, .inl (cI, 60, .inl u1.2.2))] H := hP.sub [0, 1, 2] rfl
      replace hD : va_D A [(m0, .inr (2, [.int (nI wd), .int (nI hg), .int (nI cap), .ref aP, .ref ax, .ref ay, .int (nI n), .ref afx, .ref afy, .ref atx, .ref aty, .int fr, .int (nI u1.1), .int (sd 0), .int (sd 1), .int (sd 2), .int (sd 3)])), (atx, .inl (cI, 60, .inl u1.2.1)), (aty, .inl (cI, 60, .inl u1.2.2))] := hD.sub [0, 1, 2] (by decide) rfl
      refine lv_goto (tgt := 91) hx hb dX2_cut_46 (by decide) ?_
      exact W.vret hx hb hr (fun t ht hW => ⟨⟨u1, rfl, hw1, by rw [ht]; exact hP, by rw [hAe]; exact hD⟩, hS.F ht⟩) hS.2.2 dX2_cut_91
    · skip
      have hq2 : q < 2 := Nat.lt_of_not_le (fun h => c2 (nI_le (a := 2) h (by omega)))
      obtain rfl : q = 0 := (nI_eq (b := 0) (by omega) (by omega)).mp c6
      refine lv_aload_n hx hb dX2_cut_9 rfl (lv_at hl 0 rfl) ?_
      refine va_get (D := D) (ci := 2) (v := .int (sd 0)) (C := RX2) (T := TX2) (N := 17) hx hb hts nX2_cut_X2 hown hK.1 hP 0 rfl rfl 13 (by decide) (hts (.fieldLink RX2 31 "PolygonFrameModel" "left" "I") (by decide +kernel)) (fun _ h9 => h9) rfl dX2_cut_10 ?_
      refine lv_goto (tgt := 20) hx hb dX2_cut_13 (by decide) ?_
      refine lv_istore (lv' := [(6, .int (sd 0)), (0, .ref m0), (1, .int (nI 0)), (2, .int a0), (3, .int b0), (4, .int c0), (5, .int d0)]) hx hb dX2_cut_20 hl (by decide) rfl (fun ls hl => ?_)
      refine lv_aload_n hx hb dX2_cut_22 rfl (lv_at hl 1 rfl) ?_
      refine lv_iload hx hb dX2_cut_23 (lv_at hl 0 rfl) ?_
      refine lv_iload_n hx hb dX2_cut_25 rfl (lv_at hl 4 rfl) ?_
      refine lv_iload hx hb dX2_cut_26 (lv_at hl 6 rfl) ?_
      refine lv_iload_n hx hb dX2_cut_28 rfl (lv_at hl 4 rfl) ?_
      refine lv_isub hx hb dX2_cut_29 ?_
      refine lv_iload hx hb dX2_cut_30 (lv_at hl 0 rfl) ?_
      refine lv_iload_n hx hb dX2_cut_32 rfl (lv_at hl 3 rfl) ?_
      refine lv_isub hx hb dX2_cut_33 ?_
      refine lv_imul hx hb dX2_cut_34 ?_
      refine lv_iload hx hb dX2_cut_35 (lv_at hl 5 rfl) ?_
      refine lv_iload_n hx hb dX2_cut_37 rfl (lv_at hl 3 rfl) ?_
      refine lv_isub hx hb dX2_cut_38 ?_
      refine rd_i (va_runS (As := [.int ((d0 - b0) * ((sd 0) - a0)), .int (c0 - a0)]) ⟨hx, hb, hml, hown, hts⟩ (kX2_quotient l D cI cZ ((d0 - b0) * ((sd 0) - a0)) (c0 - a0) (h0 (by decide))) (va_cwS 2 hts gX2_cut_X2_quotient rfl rfl rfl (by decide +kernel) ⟨Nat.le_of_ble_eq_true rfl, Nat.le_of_ble_eq_true rfl⟩) rd_pre0 rfl rfl hl.1 rfl (lv_room (Nat.le_of_ble_eq_true rfl)) dX2_cut_39 ⟨Nat.zero_le _, Nat.zero_le _⟩) ?_
      refine q_eq (qt_fl _ _) ?_
      refine lv_iadd hx hb dX2_cut_42 ?_
      refine wr_v (wr := []) hP hD hS hA [0, 1, 2] [] rfl rfl (by decide) (by decide) (va_runV (As := [.int (sd 0), .int (b0 + (fl_i ((d0 - b0) * ((sd 0) - a0)) (c0 - a0)))]) ⟨hx, hb, hml, hown, hts⟩ (kX2_add l D cI cZ s.heap.size m0 aP ax ay afx afy atx aty wd hg cap n fr (sd 0) (sd 1) (sd 2) (sd 3) u (sd 0) (b0 + (fl_i ((d0 - b0) * ((sd 0) - a0)) (c0 - a0))) hu hc) (cwV 2 hts gX2_cut_X2_add rfl rfl rfl (by decide +kernel) ⟨Nat.le_of_ble_eq_true rfl, Nat.le_of_ble_eq_true rfl⟩) (wr_preV (ci := 2) (q0 := 0) (hP.sub [0, 1, 2] rfl) hK (hD.sub [0, 1, 2] (by decide) rfl) rfl rfl) rfl rfl hl.1 rfl (lv_room (Nat.le_of_ble_eq_true rfl)) dX2_cut_43 ⟨Nat.zero_le _, Nat.zero_le _⟩) (fun u1 H locs hw1 hP hD hS => ?_)
      replace hP : va_P D vwCl [(m0, .inr (2, [.int (nI wd), .int (nI hg), .int (nI cap), .ref aP, .ref ax, .ref ay, .int (nI n), .ref afx, .ref afy, .ref atx, .ref aty, .int fr, .int (nI u1.1), .int (sd 0), .int (sd 1), .int (sd 2), .int (sd 3)])), (atx, .inl (cI, 60, .inl u1.2.1)), (aty, .inl (cI, 60, .inl u1.2.2))] H := hP.sub [0, 1, 2] rfl
      replace hD : va_D A [(m0, .inr (2, [.int (nI wd), .int (nI hg), .int (nI cap), .ref aP, .ref ax, .ref ay, .int (nI n), .ref afx, .ref afy, .ref atx, .ref aty, .int fr, .int (nI u1.1), .int (sd 0), .int (sd 1), .int (sd 2), .int (sd 3)])), (atx, .inl (cI, 60, .inl u1.2.1)), (aty, .inl (cI, 60, .inl u1.2.2))] := hD.sub [0, 1, 2] (by decide) rfl
      refine lv_goto (tgt := 91) hx hb dX2_cut_46 (by decide) ?_
      exact W.vret hx hb hr (fun t ht hW => ⟨⟨u1, rfl, hw1, by rw [ht]; exact hP, by rw [hAe]; exact hD⟩, hS.F ht⟩) hS.2.2 dX2_cut_91
/-- the reference's good vertices -/
def gM (q : Nat) (sd fx fy : Nat → Int32) (i : Nat) : Bool := decide (¬ dpI q (fx i) (fy i) (sd 0) (sd 1) (sd 2) (sd 3) < 0)
theorem gM_nx {q : Nat} {sd fx fy : Nat → Int32} {i j : Nat} (h : ¬ gM q sd fx fy i = gM q sd fx fy j) : (q < 2 → ¬ fx i - fx j = 0) ∧ (2 ≤ q → ¬ fy i - fy j = 0) := by
  refine ⟨fun h1 h2 => h ?_, fun h1 h2 => h ?_⟩
  · rw [gM, gM, sub0 h2]; unfold dpI
    rcases (show q = 0 ∨ q = 1 by omega) with rfl | rfl <;> rfl
  · rw [gM, gM, sub0 h2]; unfold dpI
    rw [if_neg (show ¬ q = 0 by omega), if_neg (show ¬ q = 1 by omega), if_neg (show ¬ q = 0 by omega), if_neg (show ¬ q = 1 by omega)]
def mpL (q : Nat) (sd fx fy : Nat → Int32) (n k : Nat) : List (Int32 × Int32) := outL (gM q sd fx fy) (ctV q (sd q) fx fy) (fun i => (fx i, fy i)) n k
def mpV (cap : Nat) (tx ty : Nat → Int32) (q : Nat) (sd fx fy : Nat → Int32) (n k : Nat) : Nat × (Nat → Int32) × (Nat → Int32) := mpU cap tx ty (mpL q sd fx fy n k)
theorem mpV_1 {cap : Nat} {tx ty : Nat → Int32} {q : Nat} {sd fx fy : Nat → Int32} {n k : Nat} : (mpV cap tx ty q sd fx fy n k).1 = (mpL q sd fx fy n k).length := mpU_1 _ _ _ _
theorem mpV_le {cap : Nat} {tx ty : Nat → Int32} {q : Nat} {sd fx fy : Nat → Int32} {n k : Nat} (h : k ≤ 60) : (mpV cap tx ty q sd fx fy n k).1 ≤ 120 := by
  rw [mpV_1]; exact Nat.le_trans (out_len k) (by omega)
theorem ct_eq {q : Nat} {s : Int32} {fx fy : Nat → Int32} {P k : Nat} : ctC q s (fx P) (fy P) (fx k) (fy k) = ctV q s fx fy P k := rfl
theorem nX2_pass_X2 : ∀ w ∈ wsX20, w ∈ wsX2_pass := fun w h => List.mem_cons_of_mem _ (List.mem_append_right _ h)
set_option maxHeartbeats 4000000 in
set_option maxRecDepth 100000 in
theorem kX2_pass (l : Launch) (D : va_G) (cI cZ : ClassId) (sz : Nat) (m0 aP ax ay afx afy atx aty wd hg cap n F : Nat) (tt : Int32) (sd fx fy tx ty : Nat → Int32) (q : Nat) (hq : q < 4) (hF : F ≤ 60) (hc : cap ≤ 60) : Met l yX2_pass wsX2_pass ({ frames := 2, cells := 0, slots := 0, locals := 80 }) (va_Pc [.ref m0, .int (nI q)] (wrP D cI cZ sz [(m0, .inr (2, [.int (nI wd), .int (nI hg), .int (nI cap), .ref aP, .ref ax, .ref ay, .int (nI n), .ref afx, .ref afy, .ref atx, .ref aty, .int (nI F), .int tt, .int (sd 0), .int (sd 1), .int (sd 2), .int (sd 3)])), (afx, .inl (cI, 60, .inl fx)), (afy, .inl (cI, 60, .inl fy)), (atx, .inl (cI, 60, .inl tx)), (aty, .inl (cI, 60, .inl ty))])) (va_Qv (S := Nat × (Nat → Int32) × (Nat → Int32)) (fun z => z = (mpV cap tx ty q sd fx fy F F)) (wrB D [(m0, .inr (2, [.int (nI wd), .int (nI hg), .int (nI cap), .ref aP, .ref ax, .ref ay, .int (nI n), .ref afx, .ref afy, .ref atx, .ref aty, .int (nI F), .int tt, .int (sd 0), .int (sd 1), .int (sd 2), .int (sd 3)])), (afx, .inl (cI, 60, .inl fx)), (afy, .inl (cI, 60, .inl fy)), (atx, .inl (cI, 60, .inl tx)), (aty, .inl (cI, 60, .inl ty))] sz (fun z => [(m0, .inr (2, [.int (nI wd), .int (nI hg), .int (nI cap), .ref aP, .ref ax, .ref ay, .int (nI n), .ref afx, .ref afy, .ref atx, .ref aty, .int (nI F), .int (nI z.1), .int (sd 0), .int (sd 1), .int (sd 2), .int (sd 3)])), (afx, .inl (cI, 60, .inl fx)), (afy, .inl (cI, 60, .inl fy)), (atx, .inl (cI, 60, .inl z.2.1)), (aty, .inl (cI, 60, .inl z.2.2))])) (va_A [(m0, .inr (2, [.int (nI wd), .int (nI hg), .int (nI cap), .ref aP, .ref ax, .ref ay, .int (nI n), .ref afx, .ref afy, .ref atx, .ref aty, .int (nI F), .int tt, .int (sd 0), .int (sd 1), .int (sd 2), .int (sd 3)])), (afx, .inl (cI, 60, .inl fx)), (afy, .inl (cI, 60, .inl fy)), (atx, .inl (cI, 60, .inl tx)), (aty, .inl (cI, 60, .inl ty))] sz)) 0 0 (va_A [(m0, .inr (2, [.int (nI wd), .int (nI hg), .int (nI cap), .ref aP, .ref ax, .ref ay, .int (nI n), .ref afx, .ref afy, .ref atx, .ref aty, .int (nI F), .int tt, .int (sd 0), .int (sd 1), .int (sd 2), .int (sd 3)])), (afx, .inl (cI, 60, .inl fx)), (afy, .inl (cI, 60, .inl fy)), (atx, .inl (cI, 60, .inl tx)), (aty, .inl (cI, 60, .inl ty))] sz) := by
  refine Met.ofW (cc := cX2_pass) (maxL := 6) (ret := none) (by decide) rfl ?_
  intro p e s m args below meth c s₁ B hml hv
  obtain ⟨rfl, hsz, hP, hK, hD0⟩ := hv
  have hx := B.exec
  have hb := B.bytes
  have hr := B.returns
  have hts := atoms_spec (ws := wsX2_pass) B.pre
  have hown : s.vm.findClass RX2 = some m.cls := findClass_of_methodNamed B.named
  have hlocks := B.notSynchronized
  subst hsz
  have hD := hD0.self (sz := s.heap.size)
  generalize hAe : va_A [(m0, .inr (2, [.int (nI wd), .int (nI hg), .int (nI cap), .ref aP, .ref ax, .ref ay, .int (nI n), .ref afx, .ref afy, .ref atx, .ref aty, .int (nI F), .int tt, .int (sd 0), .int (sd 1), .int (sd 2), .int (sd 3)])), (afx, .inl (cI, 60, .inl fx)), (afy, .inl (cI, 60, .inl fy)), (atx, .inl (cI, 60, .inl tx)), (aty, .inl (cI, 60, .inl ty))] s.heap.size = A at hD ⊢
  have hA : ∀ q : Nat, s.heap.size ≤ q → A q := fun q h => by rw [← hAe]; exact Or.inr h
  have hS : va_S A s.heap s.heap [] := va_S.rf
  have hP : va_P D vwCl [(m0, .inr (2, [.int (nI wd), .int (nI hg), .int (nI cap), .ref aP, .ref ax, .ref ay, .int (nI n), .ref afx, .ref afy, .ref atx, .ref aty, .int (nI F), .int tt, .int (sd 0), .int (sd 1), .int (sd 2), .int (sd 3)])), (afx, .inl (cI, 60, .inl fx)), (afy, .inl (cI, 60, .inl fy)), (atx, .inl (cI, 60, .inl tx)), (aty, .inl (cI, 60, .inl ty))] s.heap := hP
  have hl := lv_entry ([.ref m0, .int (nI q)]) (n := 6) (Nat.le_of_ble_eq_true rfl)
  rw [lg_entry_eq]
  generalize (lg_sl ([.ref m0, .int (nI q)]) ++ List.replicate (6 - (lg_sl ([.ref m0, .int (nI q)])).length) Slot.unset).toArray = ls at hl ⊢
  have hl : lv_has ls 6 [(0, .ref m0), (1, .int (nI q))] := hl
  have LOOP : ∀ (j k : Nat), k ≤ F → F < k + j → ∀ (H : Heap) (locs : List Loc), va_P D vwCl [(m0, .inr (2, [.int (nI wd), .int (nI hg), .int (nI cap), .ref aP, .ref ax, .ref ay, .int (nI n), .ref afx, .ref afy, .ref atx, .ref aty, .int (nI F), .int (nI (mpV cap tx ty q sd fx fy F k).1), .int (sd 0), .int (sd 1), .int (sd 2), .int (sd 3)])), (afx, .inl (cI, 60, .inl fx)), (afy, .inl (cI, 60, .inl fy)), (atx, .inl (cI, 60, .inl ((mpV cap tx ty q sd fx fy F k).2.1))), (aty, .inl (cI, 60, .inl ((mpV cap tx ty q sd fx fy F k).2.2)))] H → va_D A [(m0, .inr (2, [.int (nI wd), .int (nI hg), .int (nI cap), .ref aP, .ref ax, .ref ay, .int (nI n), .ref afx, .ref afy, .ref atx, .ref aty, .int (nI F), .int (nI (mpV cap tx ty q sd fx fy F k).1), .int (sd 0), .int (sd 1), .int (sd 2), .int (sd 3)])), (afx, .inl (cI, 60, .inl fx)), (afy, .inl (cI, 60, .inl fy)), (atx, .inl (cI, 60, .inl ((mpV cap tx ty q sd fx fy F k).2.1))), (aty, .inl (cI, 60, .inl ((mpV cap tx ty q sd fx fy F k).2.2)))] → va_S A s.heap H locs → ∀ ls : Array Slot, lv_has ls 6 [(0, .ref m0), (1, .int (nI q)), (2, .int (nI k))] → W p l e ({ frames := 2, cells := 0, slots := 0, locals := 80 } : Room) s m #[.ref m0, .int (nI q)] below meth c H locs 0 0 (MQ below (va_Qv (S := Nat × (Nat → Int32) × (Nat → Int32)) (fun z => z = (mpV cap tx ty q sd fx fy F F)) (wrB D [(m0, .inr (2, [.int (nI wd), .int (nI hg), .int (nI cap), .ref aP, .ref ax, .ref ay, .int (nI n), .ref afx, .ref afy, .ref atx, .ref aty, .int (nI F), .int tt, .int (sd 0), .int (sd 1), .int (sd 2), .int (sd 3)])), (afx, .inl (cI, 60, .inl fx)), (afy, .inl (cI, 60, .inl fy)), (atx, .inl (cI, 60, .inl tx)), (aty, .inl (cI, 60, .inl ty))] s.heap.size (fun z => [(m0, .inr (2, [.int (nI wd), .int (nI hg), .int (nI cap), .ref aP, .ref ax, .ref ay, .int (nI n), .ref afx, .ref afy, .ref atx, .ref aty, .int (nI F), .int (nI z.1), .int (sd 0), .int (sd 1), .int (sd 2), .int (sd 3)])), (afx, .inl (cI, 60, .inl fx)), (afy, .inl (cI, 60, .inl fy)), (atx, .inl (cI, 60, .inl z.2.1)), (aty, .inl (cI, 60, .inl z.2.2))])) A) #[.ref m0, .int (nI q)] s 0 0 A) (F0 m 7 ls []) := by
    intro j
    induction j with
    | zero => intro k h1 h2; omega
    | succ j ih =>
      intro k hk hkj H locs hP hD hS ls hl
      have hv := mpV_le (cap := cap) (tx := tx) (ty := ty) (q := q) (sd := sd) (fx := fx) (fy := fy) (n := F) (k := k) (by omega)
      refine lv_iload_n hx hb dX2_pass_7 rfl (lv_at hl 2 rfl) ?_
      refine lv_aload_n hx hb dX2_pass_8 rfl (lv_at hl 0 rfl) ?_
      refine va_get (D := D) (ci := 2) (v := .int (nI F)) (C := RX2) (T := TX2) (N := 17) hx hb hts nX2_pass_X2 hown hK.1 hP 0 rfl rfl 11 (by decide) (hts (.fieldLink RX2 75 "PolygonFrameModel" "from" "I") (by decide +kernel)) (fun _ h9 => h9) rfl dX2_pass_9 ?_
      refine lv_icmp_ge (tgt := 149) hx hb dX2_pass_12 (by decide) (fun c12 => ?_) (fun c12 => ?_)
      · skip
        have hkn : k = F := Nat.le_antisymm hk ((nI_leI (by omega) (by omega)).mp c12)
        rw [hkn] at hP hD
        exact W.vret hx hb hr (fun t ht hW => ⟨⟨(mpV cap tx ty q sd fx fy F F), rfl, rfl, by rw [ht]; exact hP, by rw [hAe]; exact hD⟩, hS.F ht⟩) hS.2.2 dX2_pass_149
      · skip
        have hk2 : k < F := Nat.lt_of_not_le (fun h => c12 (nI_le h (by omega)))
        have hp := prN_lt hk2
        refine lv_iload_n hx hb dX2_pass_15 rfl (lv_at hl 2 rfl) ?_
        refine lv_if_ne (tgt := 28) hx hb dX2_pass_16 (by decide) (fun c16 => ?_) (fun c16 => ?_)
        · skip
          refine lv_iload_n hx hb dX2_pass_28 rfl (lv_at hl 2 rfl) ?_
          refine lv_iconst (v := 1) hx hb dX2_pass_29 (by decide) ?_
          refine lv_isub hx hb dX2_pass_30 ?_
          have hk0 : ¬ k = 0 := fun h => c16 (by rw [h]; rfl)
          refine q_eq (show nI k - 1 = nI (prN F k) by rw [prN, if_neg hk0, ← pk_sub (a := k) (b := 1) (by omega)]; rfl) ?_
          refine lv_istore_n (lv' := [(3, .int (nI (prN F k))), (0, .ref m0), (1, .int (nI q)), (2, .int (nI k))]) hx hb dX2_pass_31 rfl hl (by decide) rfl (fun ls hl => ?_)
          refine lv_aload_n hx hb dX2_pass_32 rfl (lv_at hl 1 rfl) ?_
          refine lv_iload_n hx hb dX2_pass_33 rfl (lv_at hl 2 rfl) ?_
          refine lv_aload_n hx hb dX2_pass_34 rfl (lv_at hl 1 rfl) ?_
          refine va_get (D := D) (ci := 2) (v := .ref afx) (C := RX2) (T := TX2) (N := 17) hx hb hts nX2_pass_X2 hown hK.1 hP 0 rfl rfl 7 (by decide) (hts (.fieldLink RX2 19 "PolygonFrameModel" "fromX" "[I") (by decide +kernel)) (fun _ h9 => h9) rfl dX2_pass_35 ?_
          refine lv_iload_n hx hb dX2_pass_38 rfl (lv_at hl 3 rfl) ?_
          refine q_iald (k := k) hx hb hK.1 hP 1 0 rfl rfl (by omega) (by omega) dX2_pass_39 ?_
          refine lv_aload_n hx hb dX2_pass_40 rfl (lv_at hl 1 rfl) ?_
          refine va_get (D := D) (ci := 2) (v := .ref afy) (C := RX2) (T := TX2) (N := 17) hx hb hts nX2_pass_X2 hown hK.1 hP 0 rfl rfl 8 (by decide) (hts (.fieldLink RX2 22 "PolygonFrameModel" "fromY" "[I") (by decide +kernel)) (fun _ h9 => h9) rfl dX2_pass_41 ?_
          refine lv_iload_n hx hb dX2_pass_44 rfl (lv_at hl 3 rfl) ?_
          refine q_iald (k := k) hx hb hK.1 hP 2 0 rfl rfl (by omega) (by omega) dX2_pass_45 ?_
          refine rd_i (va_runV (As := [.int (nI q), .int (fx k), .int (fy k)]) ⟨hx, hb, hml, hown, hts⟩ (kX2_depth l D cI cZ m0 aP ax ay afx afy atx aty wd hg cap n (nI F) (nI (mpV cap tx ty q sd fx fy F k).1) (sd 0) (sd 1) (sd 2) (sd 3) q (fx k) (fy k) hq) (cwV 3 hts gX2_pass_X2_depth rfl rfl rfl (by decide +kernel) ⟨Nat.le_of_ble_eq_true rfl, Nat.le_of_ble_eq_true rfl⟩) (rd_preV (ci := 2) (q0 := 0) (hP.sub [0] rfl) hK rfl rfl) rfl rfl hl.1 rfl (lv_room (Nat.le_of_ble_eq_true rfl)) dX2_pass_46 ⟨Nat.zero_le _, Nat.zero_le _⟩) ?_
          refine lv_if_lt (tgt := 56) hx hb dX2_pass_49 (by decide) (fun c49 => ?_) (fun c49 => ?_)
          · skip
            refine lv_iconst (v := 0) hx hb dX2_pass_56 (by decide) ?_
            refine q_eq (show 0 = bI (gM q sd fx fy k) from bI_ff (decide_eq_false (fun h => h c49))) ?_
            refine lv_istore (lv' := [(4, .int (bI (gM q sd fx fy k))), (3, .int (nI (prN F k))), (0, .ref m0), (1, .int (nI q)), (2, .int (nI k))]) hx hb dX2_pass_57 hl (by decide) rfl (fun ls hl => ?_)
            refine lv_aload_n hx hb dX2_pass_59 rfl (lv_at hl 2 rfl) ?_
            refine lv_iload_n hx hb dX2_pass_60 rfl (lv_at hl 3 rfl) ?_
            refine lv_aload_n hx hb dX2_pass_61 rfl (lv_at hl 2 rfl) ?_
            refine va_get (D := D) (ci := 2) (v := .ref afx) (C := RX2) (T := TX2) (N := 17) hx hb hts nX2_pass_X2 hown hK.1 hP 0 rfl rfl 7 (by decide) (hts (.fieldLink RX2 19 "PolygonFrameModel" "fromX" "[I") (by decide +kernel)) (fun _ h9 => h9) rfl dX2_pass_62 ?_
            refine lv_iload_n hx hb dX2_pass_65 rfl (lv_at hl 1 rfl) ?_
            refine q_iald (k := (prN F k)) hx hb hK.1 hP 1 0 rfl rfl (Nat.lt_of_lt_of_le hp hF) (by decide) dX2_pass_66 ?_
            refine lv_aload_n hx hb dX2_pass_67 rfl (lv_at hl 2 rfl) ?_
            refine va_get (D := D) (ci := 2) (v := .ref afy) (C := RX2) (T := TX2) (N := 17) hx hb hts nX2_pass_X2 hown hK.1 hP 0 rfl rfl 8 (by decide) (hts (.fieldLink RX2 22 "PolygonFrameModel" "fromY" "[I") (by decide +kernel)) (fun _ h9 => h9) rfl dX2_pass_68 ?_
            refine lv_iload_n hx hb dX2_pass_71 rfl (lv_at hl 1 rfl) ?_
            refine q_iald (k := (prN F k)) hx hb hK.1 hP 2 0 rfl rfl (Nat.lt_of_lt_of_le hp hF) (by decide) dX2_pass_72 ?_
            refine rd_i (va_runV (As := [.int (nI q), .int (fx (prN F k)), .int (fy (prN F k))]) ⟨hx, hb, hml, hown, hts⟩ (kX2_depth l D cI cZ m0 aP ax ay afx afy atx aty wd hg cap n (nI F) (nI (mpV cap tx ty q sd fx fy F k).1) (sd 0) (sd 1) (sd 2) (sd 3) q (fx (prN F k)) (fy (prN F k)) hq) (cwV 3 hts gX2_pass_X2_depth rfl rfl rfl (by decide +kernel) ⟨Nat.le_of_ble_eq_true rfl, Nat.le_of_ble_eq_true rfl⟩) (rd_preV (ci := 2) (q0 := 0) (hP.sub [0] rfl) hK rfl rfl) rfl rfl hl.1 rfl (lv_room (Nat.le_of_ble_eq_true rfl)) dX2_pass_73 ⟨Nat.zero_le _, Nat.zero_le _⟩) ?_
            refine lv_if_lt (tgt := 83) hx hb dX2_pass_76 (by decide) (fun c76 => ?_) (fun c76 => ?_)
            · skip
              refine lv_iconst (v := 0) hx hb dX2_pass_83 (by decide) ?_
              refine q_eq (show 0 = bI (gM q sd fx fy (prN F k)) from bI_ff (decide_eq_false (fun h => h c76))) ?_
              refine lv_istore (lv' := [(5, .int (bI (gM q sd fx fy (prN F k)))), (4, .int (bI (gM q sd fx fy k))), (3, .int (nI (prN F k))), (0, .ref m0), (1, .int (nI q)), (2, .int (nI k))]) hx hb dX2_pass_84 hl (by decide) rfl (fun ls hl => ?_)
              refine lv_iload hx hb dX2_pass_86 (lv_at hl 1 rfl) ?_
              refine lv_iload hx hb dX2_pass_88 (lv_at hl 0 rfl) ?_
              refine lv_icmp_eq (tgt := 122) hx hb dX2_pass_90 (by decide) (fun c90 => ?_) (fun c90 => ?_)
              · skip
                refine lv_iload hx hb dX2_pass_122 (lv_at hl 1 rfl) ?_
                refine lv_if_eq (tgt := 143) hx hb dX2_pass_124 (by decide) (fun c124 => ?_) (fun c124 => ?_)
                · skip
                  refine lv_iinc (v := (nI (k + 1))) (lv' := [(2, .int (nI (k + 1))), (5, .int (bI (gM q sd fx fy (prN F k)))), (4, .int (bI (gM q sd fx fy k))), (3, .int (nI (prN F k))), (0, .ref m0), (1, .int (nI q))]) hx hb dX2_pass_143 hl (k := 5) rfl (nI_1 _) (by decide) rfl (fun ls hl => ?_)
                  have e : (mpV cap tx ty q sd fx fy F k) = (mpV cap tx ty q sd fx fy F (k + 1)) := by rw [mpV, mpV, mpL, mpL, out_00 (bI_eq.mp c90) (bI_eq0.mp c124)]
                  refine lv_goto (tgt := 7) hx hb dX2_pass_146 (by decide) ?_
                  rw [e] at hP hD
                  exact ih (k + 1) (by omega) (by omega) H locs hP hD hS ls (lv_sub hl [4, 5, 0] rfl)
                · skip
                  refine lv_aload_n hx hb dX2_pass_127 rfl (lv_at hl 3 rfl) ?_
                  refine lv_aload_n hx hb dX2_pass_128 rfl (lv_at hl 3 rfl) ?_
                  refine va_get (D := D) (ci := 2) (v := .ref afx) (C := RX2) (T := TX2) (N := 17) hx hb hts nX2_pass_X2 hown hK.1 hP 0 rfl rfl 7 (by decide) (hts (.fieldLink RX2 19 "PolygonFrameModel" "fromX" "[I") (by decide +kernel)) (fun _ h9 => h9) rfl dX2_pass_129 ?_
                  refine lv_iload_n hx hb dX2_pass_132 rfl (lv_at hl 5 rfl) ?_
                  refine q_iald (k := k) hx hb hK.1 hP 1 0 rfl rfl (by omega) (by omega) dX2_pass_133 ?_
                  refine lv_aload_n hx hb dX2_pass_134 rfl (lv_at hl 3 rfl) ?_
                  refine va_get (D := D) (ci := 2) (v := .ref afy) (C := RX2) (T := TX2) (N := 17) hx hb hts nX2_pass_X2 hown hK.1 hP 0 rfl rfl 8 (by decide) (hts (.fieldLink RX2 22 "PolygonFrameModel" "fromY" "[I") (by decide +kernel)) (fun _ h9 => h9) rfl dX2_pass_135 ?_
                  refine lv_iload_n hx hb dX2_pass_138 rfl (lv_at hl 5 rfl) ?_
                  refine q_iald (k := k) hx hb hK.1 hP 2 0 rfl rfl (by omega) (by omega) dX2_pass_139 ?_
                  refine wr_v (wr := [(afx, .inl (cI, 60, .inl fx)), (afy, .inl (cI, 60, .inl fy))]) hP hD hS hA [0, 3, 4] [1, 2] rfl rfl (by decide) (by decide) (va_runV (As := [.int (fx k), .int (fy k)]) ⟨hx, hb, hml, hown, hts⟩ (kX2_add l D cI cZ H.size m0 aP ax ay afx afy atx aty wd hg cap n (nI F) (sd 0) (sd 1) (sd 2) (sd 3) (mpV cap tx ty q sd fx fy F k) (fx k) (fy k) (by omega) hc) (cwV 2 hts gX2_pass_X2_add rfl rfl rfl (by decide +kernel) ⟨Nat.le_of_ble_eq_true rfl, Nat.le_of_ble_eq_true rfl⟩) (wr_preV (ci := 2) (q0 := 0) (hP.sub [0, 3, 4] rfl) hK (hD.sub [0, 3, 4] (by decide) rfl) rfl rfl) rfl rfl hl.1 rfl (lv_room (Nat.le_of_ble_eq_true rfl)) dX2_pass_140 ⟨Nat.zero_le _, Nat.zero_le _⟩) (fun u2 H locs hw2 hP hD hS => ?_)
                  replace hP : va_P D vwCl [(m0, .inr (2, [.int (nI wd), .int (nI hg), .int (nI cap), .ref aP, .ref ax, .ref ay, .int (nI n), .ref afx, .ref afy, .ref atx, .ref aty, .int (nI F), .int (nI u2.1), .int (sd 0), .int (sd 1), .int (sd 2), .int (sd 3)])), (afx, .inl (cI, 60, .inl fx)), (afy, .inl (cI, 60, .inl fy)), (atx, .inl (cI, 60, .inl u2.2.1)), (aty, .inl (cI, 60, .inl u2.2.2))] H := hP.sub [2, 0, 1, 3, 4] rfl
                  replace hD : va_D A [(m0, .inr (2, [.int (nI wd), .int (nI hg), .int (nI cap), .ref aP, .ref ax, .ref ay, .int (nI n), .ref afx, .ref afy, .ref atx, .ref aty, .int (nI F), .int (nI u2.1), .int (sd 0), .int (sd 1), .int (sd 2), .int (sd 3)])), (afx, .inl (cI, 60, .inl fx)), (afy, .inl (cI, 60, .inl fy)), (atx, .inl (cI, 60, .inl u2.2.1)), (aty, .inl (cI, 60, .inl u2.2.2))] := hD.sub [2, 0, 1, 3, 4] (by decide) rfl
                  refine lv_iinc (v := (nI (k + 1))) (lv' := [(2, .int (nI (k + 1))), (5, .int (bI (gM q sd fx fy (prN F k)))), (4, .int (bI (gM q sd fx fy k))), (3, .int (nI (prN F k))), (0, .ref m0), (1, .int (nI q))]) hx hb dX2_pass_143 hl (k := 5) rfl (nI_1 _) (by decide) rfl (fun ls hl => ?_)
                  have e : u2 = (mpV cap tx ty q sd fx fy F (k + 1)) := by rw [mpV, mpL, out_01 (bI_eq.mp c90) (bI_ne c124), mpU_snoc]; rw [hw2]; rfl
                  refine lv_goto (tgt := 7) hx hb dX2_pass_146 (by decide) ?_
                  rw [e] at hP hD
                  exact ih (k + 1) (by omega) (by omega) H locs hP hD hS ls (lv_sub hl [4, 5, 0] rfl)
              · skip
                refine lv_aload_n hx hb dX2_pass_93 rfl (lv_at hl 3 rfl) ?_
                refine lv_iload_n hx hb dX2_pass_94 rfl (lv_at hl 4 rfl) ?_
                refine lv_aload_n hx hb dX2_pass_95 rfl (lv_at hl 3 rfl) ?_
                refine va_get (D := D) (ci := 2) (v := .ref afx) (C := RX2) (T := TX2) (N := 17) hx hb hts nX2_pass_X2 hown hK.1 hP 0 rfl rfl 7 (by decide) (hts (.fieldLink RX2 19 "PolygonFrameModel" "fromX" "[I") (by decide +kernel)) (fun _ h9 => h9) rfl dX2_pass_96 ?_
                refine lv_iload_n hx hb dX2_pass_99 rfl (lv_at hl 2 rfl) ?_
                refine q_iald (k := (prN F k)) hx hb hK.1 hP 1 0 rfl rfl (Nat.lt_of_lt_of_le hp hF) (by decide) dX2_pass_100 ?_
                refine lv_aload_n hx hb dX2_pass_101 rfl (lv_at hl 3 rfl) ?_
                refine va_get (D := D) (ci := 2) (v := .ref afy) (C := RX2) (T := TX2) (N := 17) hx hb hts nX2_pass_X2 hown hK.1 hP 0 rfl rfl 8 (by decide) (hts (.fieldLink RX2 22 "PolygonFrameModel" "fromY" "[I") (by decide +kernel)) (fun _ h9 => h9) rfl dX2_pass_102 ?_
                refine lv_iload_n hx hb dX2_pass_105 rfl (lv_at hl 2 rfl) ?_
                refine q_iald (k := (prN F k)) hx hb hK.1 hP 2 0 rfl rfl (Nat.lt_of_lt_of_le hp hF) (by decide) dX2_pass_106 ?_
                refine lv_aload_n hx hb dX2_pass_107 rfl (lv_at hl 3 rfl) ?_
                refine va_get (D := D) (ci := 2) (v := .ref afx) (C := RX2) (T := TX2) (N := 17) hx hb hts nX2_pass_X2 hown hK.1 hP 0 rfl rfl 7 (by decide) (hts (.fieldLink RX2 19 "PolygonFrameModel" "fromX" "[I") (by decide +kernel)) (fun _ h9 => h9) rfl dX2_pass_108 ?_
                refine lv_iload_n hx hb dX2_pass_111 rfl (lv_at hl 5 rfl) ?_
                refine q_iald (k := k) hx hb hK.1 hP 1 0 rfl rfl (by omega) (by omega) dX2_pass_112 ?_
                refine lv_aload_n hx hb dX2_pass_113 rfl (lv_at hl 3 rfl) ?_
                refine va_get (D := D) (ci := 2) (v := .ref afy) (C := RX2) (T := TX2) (N := 17) hx hb hts nX2_pass_X2 hown hK.1 hP 0 rfl rfl 8 (by decide) (hts (.fieldLink RX2 22 "PolygonFrameModel" "fromY" "[I") (by decide +kernel)) (fun _ h9 => h9) rfl dX2_pass_114 ?_
                refine lv_iload_n hx hb dX2_pass_117 rfl (lv_at hl 5 rfl) ?_
                refine q_iald (k := k) hx hb hK.1 hP 2 0 rfl rfl (by omega) (by omega) dX2_pass_118 ?_
                have hgg : ¬ gM q sd fx fy k = gM q sd fx fy (prN F k) := fun h => c90 (by rw [h])
                refine wr_v (wr := [(afx, .inl (cI, 60, .inl fx)), (afy, .inl (cI, 60, .inl fy))]) hP hD hS hA [0, 3, 4] [1, 2] rfl rfl (by decide) (by decide) (va_runV (As := [.int (nI q), .int (fx (prN F k)), .int (fy (prN F k)), .int (fx k), .int (fy k)]) ⟨hx, hb, hml, hown, hts⟩ (kX2_cut l D cI cZ H.size m0 aP ax ay afx afy atx aty wd hg cap n (nI F) sd (mpV cap tx ty q sd fx fy F k) q (fx (prN F k)) (fy (prN F k)) (fx k) (fy k) hq (gM_nx hgg).1 (gM_nx hgg).2 (by omega) hc) (cwV 5 hts gX2_pass_X2_cut rfl rfl rfl (by decide +kernel) ⟨Nat.le_of_ble_eq_true rfl, Nat.le_of_ble_eq_true rfl⟩) (wr_preV (ci := 2) (q0 := 0) (hP.sub [0, 3, 4] rfl) hK (hD.sub [0, 3, 4] (by decide) rfl) rfl rfl) rfl rfl hl.1 rfl (lv_room (Nat.le_of_ble_eq_true rfl)) dX2_pass_119 ⟨Nat.zero_le _, Nat.zero_le _⟩) (fun u1 H locs hw1 hP hD hS => ?_)
                replace hP : va_P D vwCl [(m0, .inr (2, [.int (nI wd), .int (nI hg), .int (nI cap), .ref aP, .ref ax, .ref ay, .int (nI n), .ref afx, .ref afy, .ref atx, .ref aty, .int (nI F), .int (nI u1.1), .int (sd 0), .int (sd 1), .int (sd 2), .int (sd 3)])), (afx, .inl (cI, 60, .inl fx)), (afy, .inl (cI, 60, .inl fy)), (atx, .inl (cI, 60, .inl u1.2.1)), (aty, .inl (cI, 60, .inl u1.2.2))] H := hP.sub [2, 0, 1, 3, 4] rfl
                replace hD : va_D A [(m0, .inr (2, [.int (nI wd), .int (nI hg), .int (nI cap), .ref aP, .ref ax, .ref ay, .int (nI n), .ref afx, .ref afy, .ref atx, .ref aty, .int (nI F), .int (nI u1.1), .int (sd 0), .int (sd 1), .int (sd 2), .int (sd 3)])), (afx, .inl (cI, 60, .inl fx)), (afy, .inl (cI, 60, .inl fy)), (atx, .inl (cI, 60, .inl u1.2.1)), (aty, .inl (cI, 60, .inl u1.2.2))] := hD.sub [2, 0, 1, 3, 4] (by decide) rfl
                have hu1 : u1.1 ≤ 1000 := by rw [hw1, adP_1]; omega
                refine lv_iload hx hb dX2_pass_122 (lv_at hl 1 rfl) ?_
                refine lv_if_eq (tgt := 143) hx hb dX2_pass_124 (by decide) (fun c124 => ?_) (fun c124 => ?_)
                · skip
                  refine lv_iinc (v := (nI (k + 1))) (lv' := [(2, .int (nI (k + 1))), (5, .int (bI (gM q sd fx fy (prN F k)))), (4, .int (bI (gM q sd fx fy k))), (3, .int (nI (prN F k))), (0, .ref m0), (1, .int (nI q))]) hx hb dX2_pass_143 hl (k := 5) rfl (nI_1 _) (by decide) rfl (fun ls hl => ?_)
                  have e : u1 = (mpV cap tx ty q sd fx fy F (k + 1)) := by rw [mpV, mpL, out_10 hgg (bI_eq0.mp c124), mpU_snoc]; rw [hw1]; rfl
                  refine lv_goto (tgt := 7) hx hb dX2_pass_146 (by decide) ?_
                  rw [e] at hP hD
                  exact ih (k + 1) (by omega) (by omega) H locs hP hD hS ls (lv_sub hl [4, 5, 0] rfl)
                · skip
                  refine lv_aload_n hx hb dX2_pass_127 rfl (lv_at hl 3 rfl) ?_
                  refine lv_aload_n hx hb dX2_pass_128 rfl (lv_at hl 3 rfl) ?_
                  refine va_get (D := D) (ci := 2) (v := .ref afx) (C := RX2) (T := TX2) (N := 17) hx hb hts nX2_pass_X2 hown hK.1 hP 0 rfl rfl 7 (by decide) (hts (.fieldLink RX2 19 "PolygonFrameModel" "fromX" "[I") (by decide +kernel)) (fun _ h9 => h9) rfl dX2_pass_129 ?_
                  refine lv_iload_n hx hb dX2_pass_132 rfl (lv_at hl 5 rfl) ?_
                  refine q_iald (k := k) hx hb hK.1 hP 1 0 rfl rfl (by omega) (by omega) dX2_pass_133 ?_
                  refine lv_aload_n hx hb dX2_pass_134 rfl (lv_at hl 3 rfl) ?_
                  refine va_get (D := D) (ci := 2) (v := .ref afy) (C := RX2) (T := TX2) (N := 17) hx hb hts nX2_pass_X2 hown hK.1 hP 0 rfl rfl 8 (by decide) (hts (.fieldLink RX2 22 "PolygonFrameModel" "fromY" "[I") (by decide +kernel)) (fun _ h9 => h9) rfl dX2_pass_135 ?_
                  refine lv_iload_n hx hb dX2_pass_138 rfl (lv_at hl 5 rfl) ?_
                  refine q_iald (k := k) hx hb hK.1 hP 2 0 rfl rfl (by omega) (by omega) dX2_pass_139 ?_
                  refine wr_v (wr := [(afx, .inl (cI, 60, .inl fx)), (afy, .inl (cI, 60, .inl fy))]) hP hD hS hA [0, 3, 4] [1, 2] rfl rfl (by decide) (by decide) (va_runV (As := [.int (fx k), .int (fy k)]) ⟨hx, hb, hml, hown, hts⟩ (kX2_add l D cI cZ H.size m0 aP ax ay afx afy atx aty wd hg cap n (nI F) (sd 0) (sd 1) (sd 2) (sd 3) u1 (fx k) (fy k) hu1 hc) (cwV 2 hts gX2_pass_X2_add rfl rfl rfl (by decide +kernel) ⟨Nat.le_of_ble_eq_true rfl, Nat.le_of_ble_eq_true rfl⟩) (wr_preV (ci := 2) (q0 := 0) (hP.sub [0, 3, 4] rfl) hK (hD.sub [0, 3, 4] (by decide) rfl) rfl rfl) rfl rfl hl.1 rfl (lv_room (Nat.le_of_ble_eq_true rfl)) dX2_pass_140 ⟨Nat.zero_le _, Nat.zero_le _⟩) (fun u2 H locs hw2 hP hD hS => ?_)
                  replace hP : va_P D vwCl [(m0, .inr (2, [.int (nI wd), .int (nI hg), .int (nI cap), .ref aP, .ref ax, .ref ay, .int (nI n), .ref afx, .ref afy, .ref atx, .ref aty, .int (nI F), .int (nI u2.1), .int (sd 0), .int (sd 1), .int (sd 2), .int (sd 3)])), (afx, .inl (cI, 60, .inl fx)), (afy, .inl (cI, 60, .inl fy)), (atx, .inl (cI, 60, .inl u2.2.1)), (aty, .inl (cI, 60, .inl u2.2.2))] H := hP.sub [2, 0, 1, 3, 4] rfl
                  replace hD : va_D A [(m0, .inr (2, [.int (nI wd), .int (nI hg), .int (nI cap), .ref aP, .ref ax, .ref ay, .int (nI n), .ref afx, .ref afy, .ref atx, .ref aty, .int (nI F), .int (nI u2.1), .int (sd 0), .int (sd 1), .int (sd 2), .int (sd 3)])), (afx, .inl (cI, 60, .inl fx)), (afy, .inl (cI, 60, .inl fy)), (atx, .inl (cI, 60, .inl u2.2.1)), (aty, .inl (cI, 60, .inl u2.2.2))] := hD.sub [2, 0, 1, 3, 4] (by decide) rfl
                  refine lv_iinc (v := (nI (k + 1))) (lv' := [(2, .int (nI (k + 1))), (5, .int (bI (gM q sd fx fy (prN F k)))), (4, .int (bI (gM q sd fx fy k))), (3, .int (nI (prN F k))), (0, .ref m0), (1, .int (nI q))]) hx hb dX2_pass_143 hl (k := 5) rfl (nI_1 _) (by decide) rfl (fun ls hl => ?_)
                  have e : u2 = (mpV cap tx ty q sd fx fy F (k + 1)) := by rw [mpV, mpL, out_11 hgg (bI_ne c124), mpU_snoc, mpU_snoc]; rw [hw2, hw1]; rfl
                  refine lv_goto (tgt := 7) hx hb dX2_pass_146 (by decide) ?_
                  rw [e] at hP hD
                  exact ih (k + 1) (by omega) (by omega) H locs hP hD hS ls (lv_sub hl [4, 5, 0] rfl)
            · skip
              refine lv_iconst (v := 1) hx hb dX2_pass_79 (by decide) ?_
              refine lv_goto (tgt := 84) hx hb dX2_pass_80 (by decide) ?_
              refine q_eq (show 1 = bI (gM q sd fx fy (prN F k)) from bI_tt (decide_eq_true c76)) ?_
              refine lv_istore (lv' := [(5, .int (bI (gM q sd fx fy (prN F k)))), (4, .int (bI (gM q sd fx fy k))), (3, .int (nI (prN F k))), (0, .ref m0), (1, .int (nI q)), (2, .int (nI k))]) hx hb dX2_pass_84 hl (by decide) rfl (fun ls hl => ?_)
              refine lv_iload hx hb dX2_pass_86 (lv_at hl 1 rfl) ?_
              refine lv_iload hx hb dX2_pass_88 (lv_at hl 0 rfl) ?_
              refine lv_icmp_eq (tgt := 122) hx hb dX2_pass_90 (by decide) (fun c90 => ?_) (fun c90 => ?_)
              · skip
                refine lv_iload hx hb dX2_pass_122 (lv_at hl 1 rfl) ?_
                refine lv_if_eq (tgt := 143) hx hb dX2_pass_124 (by decide) (fun c124 => ?_) (fun c124 => ?_)
                · skip
                  refine lv_iinc (v := (nI (k + 1))) (lv' := [(2, .int (nI (k + 1))), (5, .int (bI (gM q sd fx fy (prN F k)))), (4, .int (bI (gM q sd fx fy k))), (3, .int (nI (prN F k))), (0, .ref m0), (1, .int (nI q))]) hx hb dX2_pass_143 hl (k := 5) rfl (nI_1 _) (by decide) rfl (fun ls hl => ?_)
                  have e : (mpV cap tx ty q sd fx fy F k) = (mpV cap tx ty q sd fx fy F (k + 1)) := by rw [mpV, mpV, mpL, mpL, out_00 (bI_eq.mp c90) (bI_eq0.mp c124)]
                  refine lv_goto (tgt := 7) hx hb dX2_pass_146 (by decide) ?_
                  rw [e] at hP hD
                  exact ih (k + 1) (by omega) (by omega) H locs hP hD hS ls (lv_sub hl [4, 5, 0] rfl)
                · skip
                  refine lv_aload_n hx hb dX2_pass_127 rfl (lv_at hl 3 rfl) ?_
                  refine lv_aload_n hx hb dX2_pass_128 rfl (lv_at hl 3 rfl) ?_
                  refine va_get (D := D) (ci := 2) (v := .ref afx) (C := RX2) (T := TX2) (N := 17) hx hb hts nX2_pass_X2 hown hK.1 hP 0 rfl rfl 7 (by decide) (hts (.fieldLink RX2 19 "PolygonFrameModel" "fromX" "[I") (by decide +kernel)) (fun _ h9 => h9) rfl dX2_pass_129 ?_
                  refine lv_iload_n hx hb dX2_pass_132 rfl (lv_at hl 5 rfl) ?_
                  refine q_iald (k := k) hx hb hK.1 hP 1 0 rfl rfl (by omega) (by omega) dX2_pass_133 ?_
                  refine lv_aload_n hx hb dX2_pass_134 rfl (lv_at hl 3 rfl) ?_
                  refine va_get (D := D) (ci := 2) (v := .ref afy) (C := RX2) (T := TX2) (N := 17) hx hb hts nX2_pass_X2 hown hK.1 hP 0 rfl rfl 8 (by decide) (hts (.fieldLink RX2 22 "PolygonFrameModel" "fromY" "[I") (by decide +kernel)) (fun _ h9 => h9) rfl dX2_pass_135 ?_
                  refine lv_iload_n hx hb dX2_pass_138 rfl (lv_at hl 5 rfl) ?_
                  refine q_iald (k := k) hx hb hK.1 hP 2 0 rfl rfl (by omega) (by omega) dX2_pass_139 ?_
                  refine wr_v (wr := [(afx, .inl (cI, 60, .inl fx)), (afy, .inl (cI, 60, .inl fy))]) hP hD hS hA [0, 3, 4] [1, 2] rfl rfl (by decide) (by decide) (va_runV (As := [.int (fx k), .int (fy k)]) ⟨hx, hb, hml, hown, hts⟩ (kX2_add l D cI cZ H.size m0 aP ax ay afx afy atx aty wd hg cap n (nI F) (sd 0) (sd 1) (sd 2) (sd 3) (mpV cap tx ty q sd fx fy F k) (fx k) (fy k) (by omega) hc) (cwV 2 hts gX2_pass_X2_add rfl rfl rfl (by decide +kernel) ⟨Nat.le_of_ble_eq_true rfl, Nat.le_of_ble_eq_true rfl⟩) (wr_preV (ci := 2) (q0 := 0) (hP.sub [0, 3, 4] rfl) hK (hD.sub [0, 3, 4] (by decide) rfl) rfl rfl) rfl rfl hl.1 rfl (lv_room (Nat.le_of_ble_eq_true rfl)) dX2_pass_140 ⟨Nat.zero_le _, Nat.zero_le _⟩) (fun u2 H locs hw2 hP hD hS => ?_)
                  replace hP : va_P D vwCl [(m0, .inr (2, [.int (nI wd), .int (nI hg), .int (nI cap), .ref aP, .ref ax, .ref ay, .int (nI n), .ref afx, .ref afy, .ref atx, .ref aty, .int (nI F), .int (nI u2.1), .int (sd 0), .int (sd 1), .int (sd 2), .int (sd 3)])), (afx, .inl (cI, 60, .inl fx)), (afy, .inl (cI, 60, .inl fy)), (atx, .inl (cI, 60, .inl u2.2.1)), (aty, .inl (cI, 60, .inl u2.2.2))] H := hP.sub [2, 0, 1, 3, 4] rfl
                  replace hD : va_D A [(m0, .inr (2, [.int (nI wd), .int (nI hg), .int (nI cap), .ref aP, .ref ax, .ref ay, .int (nI n), .ref afx, .ref afy, .ref atx, .ref aty, .int (nI F), .int (nI u2.1), .int (sd 0), .int (sd 1), .int (sd 2), .int (sd 3)])), (afx, .inl (cI, 60, .inl fx)), (afy, .inl (cI, 60, .inl fy)), (atx, .inl (cI, 60, .inl u2.2.1)), (aty, .inl (cI, 60, .inl u2.2.2))] := hD.sub [2, 0, 1, 3, 4] (by decide) rfl
                  refine lv_iinc (v := (nI (k + 1))) (lv' := [(2, .int (nI (k + 1))), (5, .int (bI (gM q sd fx fy (prN F k)))), (4, .int (bI (gM q sd fx fy k))), (3, .int (nI (prN F k))), (0, .ref m0), (1, .int (nI q))]) hx hb dX2_pass_143 hl (k := 5) rfl (nI_1 _) (by decide) rfl (fun ls hl => ?_)
                  have e : u2 = (mpV cap tx ty q sd fx fy F (k + 1)) := by rw [mpV, mpL, out_01 (bI_eq.mp c90) (bI_ne c124), mpU_snoc]; rw [hw2]; rfl
                  refine lv_goto (tgt := 7) hx hb dX2_pass_146 (by decide) ?_
                  rw [e] at hP hD
                  exact ih (k + 1) (by omega) (by omega) H locs hP hD hS ls (lv_sub hl [4, 5, 0] rfl)
              · skip
                refine lv_aload_n hx hb dX2_pass_93 rfl (lv_at hl 3 rfl) ?_
                refine lv_iload_n hx hb dX2_pass_94 rfl (lv_at hl 4 rfl) ?_
                refine lv_aload_n hx hb dX2_pass_95 rfl (lv_at hl 3 rfl) ?_
                refine va_get (D := D) (ci := 2) (v := .ref afx) (C := RX2) (T := TX2) (N := 17) hx hb hts nX2_pass_X2 hown hK.1 hP 0 rfl rfl 7 (by decide) (hts (.fieldLink RX2 19 "PolygonFrameModel" "fromX" "[I") (by decide +kernel)) (fun _ h9 => h9) rfl dX2_pass_96 ?_
                refine lv_iload_n hx hb dX2_pass_99 rfl (lv_at hl 2 rfl) ?_
                refine q_iald (k := (prN F k)) hx hb hK.1 hP 1 0 rfl rfl (Nat.lt_of_lt_of_le hp hF) (by decide) dX2_pass_100 ?_
                refine lv_aload_n hx hb dX2_pass_101 rfl (lv_at hl 3 rfl) ?_
                refine va_get (D := D) (ci := 2) (v := .ref afy) (C := RX2) (T := TX2) (N := 17) hx hb hts nX2_pass_X2 hown hK.1 hP 0 rfl rfl 8 (by decide) (hts (.fieldLink RX2 22 "PolygonFrameModel" "fromY" "[I") (by decide +kernel)) (fun _ h9 => h9) rfl dX2_pass_102 ?_
                refine lv_iload_n hx hb dX2_pass_105 rfl (lv_at hl 2 rfl) ?_
                refine q_iald (k := (prN F k)) hx hb hK.1 hP 2 0 rfl rfl (Nat.lt_of_lt_of_le hp hF) (by decide) dX2_pass_106 ?_
                refine lv_aload_n hx hb dX2_pass_107 rfl (lv_at hl 3 rfl) ?_
                refine va_get (D := D) (ci := 2) (v := .ref afx) (C := RX2) (T := TX2) (N := 17) hx hb hts nX2_pass_X2 hown hK.1 hP 0 rfl rfl 7 (by decide) (hts (.fieldLink RX2 19 "PolygonFrameModel" "fromX" "[I") (by decide +kernel)) (fun _ h9 => h9) rfl dX2_pass_108 ?_
                refine lv_iload_n hx hb dX2_pass_111 rfl (lv_at hl 5 rfl) ?_
                refine q_iald (k := k) hx hb hK.1 hP 1 0 rfl rfl (by omega) (by omega) dX2_pass_112 ?_
                refine lv_aload_n hx hb dX2_pass_113 rfl (lv_at hl 3 rfl) ?_
                refine va_get (D := D) (ci := 2) (v := .ref afy) (C := RX2) (T := TX2) (N := 17) hx hb hts nX2_pass_X2 hown hK.1 hP 0 rfl rfl 8 (by decide) (hts (.fieldLink RX2 22 "PolygonFrameModel" "fromY" "[I") (by decide +kernel)) (fun _ h9 => h9) rfl dX2_pass_114 ?_
                refine lv_iload_n hx hb dX2_pass_117 rfl (lv_at hl 5 rfl) ?_
                refine q_iald (k := k) hx hb hK.1 hP 2 0 rfl rfl (by omega) (by omega) dX2_pass_118 ?_
                have hgg : ¬ gM q sd fx fy k = gM q sd fx fy (prN F k) := fun h => c90 (by rw [h])
                refine wr_v (wr := [(afx, .inl (cI, 60, .inl fx)), (afy, .inl (cI, 60, .inl fy))]) hP hD hS hA [0, 3, 4] [1, 2] rfl rfl (by decide) (by decide) (va_runV (As := [.int (nI q), .int (fx (prN F k)), .int (fy (prN F k)), .int (fx k), .int (fy k)]) ⟨hx, hb, hml, hown, hts⟩ (kX2_cut l D cI cZ H.size m0 aP ax ay afx afy atx aty wd hg cap n (nI F) sd (mpV cap tx ty q sd fx fy F k) q (fx (prN F k)) (fy (prN F k)) (fx k) (fy k) hq (gM_nx hgg).1 (gM_nx hgg).2 (by omega) hc) (cwV 5 hts gX2_pass_X2_cut rfl rfl rfl (by decide +kernel) ⟨Nat.le_of_ble_eq_true rfl, Nat.le_of_ble_eq_true rfl⟩) (wr_preV (ci := 2) (q0 := 0) (hP.sub [0, 3, 4] rfl) hK (hD.sub [0, 3, 4] (by decide) rfl) rfl rfl) rfl rfl hl.1 rfl (lv_room (Nat.le_of_ble_eq_true rfl)) dX2_pass_119 ⟨Nat.zero_le _, Nat.zero_le _⟩) (fun u1 H locs hw1 hP hD hS => ?_)
                replace hP : va_P D vwCl [(m0, .inr (2, [.int (nI wd), .int (nI hg), .int (nI cap), .ref aP, .ref ax, .ref ay, .int (nI n), .ref afx, .ref afy, .ref atx, .ref aty, .int (nI F), .int (nI u1.1), .int (sd 0), .int (sd 1), .int (sd 2), .int (sd 3)])), (afx, .inl (cI, 60, .inl fx)), (afy, .inl (cI, 60, .inl fy)), (atx, .inl (cI, 60, .inl u1.2.1)), (aty, .inl (cI, 60, .inl u1.2.2))] H := hP.sub [2, 0, 1, 3, 4] rfl
                replace hD : va_D A [(m0, .inr (2, [.int (nI wd), .int (nI hg), .int (nI cap), .ref aP, .ref ax, .ref ay, .int (nI n), .ref afx, .ref afy, .ref atx, .ref aty, .int (nI F), .int (nI u1.1), .int (sd 0), .int (sd 1), .int (sd 2), .int (sd 3)])), (afx, .inl (cI, 60, .inl fx)), (afy, .inl (cI, 60, .inl fy)), (atx, .inl (cI, 60, .inl u1.2.1)), (aty, .inl (cI, 60, .inl u1.2.2))] := hD.sub [2, 0, 1, 3, 4] (by decide) rfl
                have hu1 : u1.1 ≤ 1000 := by rw [hw1, adP_1]; omega
                refine lv_iload hx hb dX2_pass_122 (lv_at hl 1 rfl) ?_
                refine lv_if_eq (tgt := 143) hx hb dX2_pass_124 (by decide) (fun c124 => ?_) (fun c124 => ?_)
                · skip
                  refine lv_iinc (v := (nI (k + 1))) (lv' := [(2, .int (nI (k + 1))), (5, .int (bI (gM q sd fx fy (prN F k)))), (4, .int (bI (gM q sd fx fy k))), (3, .int (nI (prN F k))), (0, .ref m0), (1, .int (nI q))]) hx hb dX2_pass_143 hl (k := 5) rfl (nI_1 _) (by decide) rfl (fun ls hl => ?_)
                  have e : u1 = (mpV cap tx ty q sd fx fy F (k + 1)) := by rw [mpV, mpL, out_10 hgg (bI_eq0.mp c124), mpU_snoc]; rw [hw1]; rfl
                  refine lv_goto (tgt := 7) hx hb dX2_pass_146 (by decide) ?_
                  rw [e] at hP hD
                  exact ih (k + 1) (by omega) (by omega) H locs hP hD hS ls (lv_sub hl [4, 5, 0] rfl)
                · skip
                  refine lv_aload_n hx hb dX2_pass_127 rfl (lv_at hl 3 rfl) ?_
                  refine lv_aload_n hx hb dX2_pass_128 rfl (lv_at hl 3 rfl) ?_
                  refine va_get (D := D) (ci := 2) (v := .ref afx) (C := RX2) (T := TX2) (N := 17) hx hb hts nX2_pass_X2 hown hK.1 hP 0 rfl rfl 7 (by decide) (hts (.fieldLink RX2 19 "PolygonFrameModel" "fromX" "[I") (by decide +kernel)) (fun _ h9 => h9) rfl dX2_pass_129 ?_
                  refine lv_iload_n hx hb dX2_pass_132 rfl (lv_at hl 5 rfl) ?_
                  refine q_iald (k := k) hx hb hK.1 hP 1 0 rfl rfl (by omega) (by omega) dX2_pass_133 ?_
                  refine lv_aload_n hx hb dX2_pass_134 rfl (lv_at hl 3 rfl) ?_
                  refine va_get (D := D) (ci := 2) (v := .ref afy) (C := RX2) (T := TX2) (N := 17) hx hb hts nX2_pass_X2 hown hK.1 hP 0 rfl rfl 8 (by decide) (hts (.fieldLink RX2 22 "PolygonFrameModel" "fromY" "[I") (by decide +kernel)) (fun _ h9 => h9) rfl dX2_pass_135 ?_
                  refine lv_iload_n hx hb dX2_pass_138 rfl (lv_at hl 5 rfl) ?_
                  refine q_iald (k := k) hx hb hK.1 hP 2 0 rfl rfl (by omega) (by omega) dX2_pass_139 ?_
                  refine wr_v (wr := [(afx, .inl (cI, 60, .inl fx)), (afy, .inl (cI, 60, .inl fy))]) hP hD hS hA [0, 3, 4] [1, 2] rfl rfl (by decide) (by decide) (va_runV (As := [.int (fx k), .int (fy k)]) ⟨hx, hb, hml, hown, hts⟩ (kX2_add l D cI cZ H.size m0 aP ax ay afx afy atx aty wd hg cap n (nI F) (sd 0) (sd 1) (sd 2) (sd 3) u1 (fx k) (fy k) hu1 hc) (cwV 2 hts gX2_pass_X2_add rfl rfl rfl (by decide +kernel) ⟨Nat.le_of_ble_eq_true rfl, Nat.le_of_ble_eq_true rfl⟩) (wr_preV (ci := 2) (q0 := 0) (hP.sub [0, 3, 4] rfl) hK (hD.sub [0, 3, 4] (by decide) rfl) rfl rfl) rfl rfl hl.1 rfl (lv_room (Nat.le_of_ble_eq_true rfl)) dX2_pass_140 ⟨Nat.zero_le _, Nat.zero_le _⟩) (fun u2 H locs hw2 hP hD hS => ?_)
                  replace hP : va_P D vwCl [(m0, .inr (2, [.int (nI wd), .int (nI hg), .int (nI cap), .ref aP, .ref ax, .ref ay, .int (nI n), .ref afx, .ref afy, .ref atx, .ref aty, .int (nI F), .int (nI u2.1), .int (sd 0), .int (sd 1), .int (sd 2), .int (sd 3)])), (afx, .inl (cI, 60, .inl fx)), (afy, .inl (cI, 60, .inl fy)), (atx, .inl (cI, 60, .inl u2.2.1)), (aty, .inl (cI, 60, .inl u2.2.2))] H := hP.sub [2, 0, 1, 3, 4] rfl
                  replace hD : va_D A [(m0, .inr (2, [.int (nI wd), .int (nI hg), .int (nI cap), .ref aP, .ref ax, .ref ay, .int (nI n), .ref afx, .ref afy, .ref atx, .ref aty, .int (nI F), .int (nI u2.1), .int (sd 0), .int (sd 1), .int (sd 2), .int (sd 3)])), (afx, .inl (cI, 60, .inl fx)), (afy, .inl (cI, 60, .inl fy)), (atx, .inl (cI, 60, .inl u2.2.1)), (aty, .inl (cI, 60, .inl u2.2.2))] := hD.sub [2, 0, 1, 3, 4] (by decide) rfl
                  refine lv_iinc (v := (nI (k + 1))) (lv' := [(2, .int (nI (k + 1))), (5, .int (bI (gM q sd fx fy (prN F k)))), (4, .int (bI (gM q sd fx fy k))), (3, .int (nI (prN F k))), (0, .ref m0), (1, .int (nI q))]) hx hb dX2_pass_143 hl (k := 5) rfl (nI_1 _) (by decide) rfl (fun ls hl => ?_)
                  have e : u2 = (mpV cap tx ty q sd fx fy F (k + 1)) := by rw [mpV, mpL, out_11 hgg (bI_ne c124), mpU_snoc, mpU_snoc]; rw [hw2, hw1]; rfl
                  refine lv_goto (tgt := 7) hx hb dX2_pass_146 (by decide) ?_
                  rw [e] at hP hD
                  exact ih (k + 1) (by omega) (by omega) H locs hP hD hS ls (lv_sub hl [4, 5, 0] rfl)
          · skip
            refine lv_iconst (v := 1) hx hb dX2_pass_52 (by decide) ?_
            refine lv_goto (tgt := 57) hx hb dX2_pass_53 (by decide) ?_
            refine q_eq (show 1 = bI (gM q sd fx fy k) from bI_tt (decide_eq_true c49)) ?_
            refine lv_istore (lv' := [(4, .int (bI (gM q sd fx fy k))), (3, .int (nI (prN F k))), (0, .ref m0), (1, .int (nI q)), (2, .int (nI k))]) hx hb dX2_pass_57 hl (by decide) rfl (fun ls hl => ?_)
            refine lv_aload_n hx hb dX2_pass_59 rfl (lv_at hl 2 rfl) ?_
            refine lv_iload_n hx hb dX2_pass_60 rfl (lv_at hl 3 rfl) ?_
            refine lv_aload_n hx hb dX2_pass_61 rfl (lv_at hl 2 rfl) ?_
            refine va_get (D := D) (ci := 2) (v := .ref afx) (C := RX2) (T := TX2) (N := 17) hx hb hts nX2_pass_X2 hown hK.1 hP 0 rfl rfl 7 (by decide) (hts (.fieldLink RX2 19 "PolygonFrameModel" "fromX" "[I") (by decide +kernel)) (fun _ h9 => h9) rfl dX2_pass_62 ?_
            refine lv_iload_n hx hb dX2_pass_65 rfl (lv_at hl 1 rfl) ?_
            refine q_iald (k := (prN F k)) hx hb hK.1 hP 1 0 rfl rfl (Nat.lt_of_lt_of_le hp hF) (by decide) dX2_pass_66 ?_
            refine lv_aload_n hx hb dX2_pass_67 rfl (lv_at hl 2 rfl) ?_
            refine va_get (D := D) (ci := 2) (v := .ref afy) (C := RX2) (T := TX2) (N := 17) hx hb hts nX2_pass_X2 hown hK.1 hP 0 rfl rfl 8 (by decide) (hts (.fieldLink RX2 22 "PolygonFrameModel" "fromY" "[I") (by decide +kernel)) (fun _ h9 => h9) rfl dX2_pass_68 ?_
            refine lv_iload_n hx hb dX2_pass_71 rfl (lv_at hl 1 rfl) ?_
            refine q_iald (k := (prN F k)) hx hb hK.1 hP 2 0 rfl rfl (Nat.lt_of_lt_of_le hp hF) (by decide) dX2_pass_72 ?_
            refine rd_i (va_runV (As := [.int (nI q), .int (fx (prN F k)), .int (fy (prN F k))]) ⟨hx, hb, hml, hown, hts⟩ (kX2_depth l D cI cZ m0 aP ax ay afx afy atx aty wd hg cap n (nI F) (nI (mpV cap tx ty q sd fx fy F k).1) (sd 0) (sd 1) (sd 2) (sd 3) q (fx (prN F k)) (fy (prN F k)) hq) (cwV 3 hts gX2_pass_X2_depth rfl rfl rfl (by decide +kernel) ⟨Nat.le_of_ble_eq_true rfl, Nat.le_of_ble_eq_true rfl⟩) (rd_preV (ci := 2) (q0 := 0) (hP.sub [0] rfl) hK rfl rfl) rfl rfl hl.1 rfl (lv_room (Nat.le_of_ble_eq_true rfl)) dX2_pass_73 ⟨Nat.zero_le _, Nat.zero_le _⟩) ?_
            refine lv_if_lt (tgt := 83) hx hb dX2_pass_76 (by decide) (fun c76 => ?_) (fun c76 => ?_)
            · skip
              refine lv_iconst (v := 0) hx hb dX2_pass_83 (by decide) ?_
              refine q_eq (show 0 = bI (gM q sd fx fy (prN F k)) from bI_ff (decide_eq_false (fun h => h c76))) ?_
              refine lv_istore (lv' := [(5, .int (bI (gM q sd fx fy (prN F k)))), (4, .int (bI (gM q sd fx fy k))), (3, .int (nI (prN F k))), (0, .ref m0), (1, .int (nI q)), (2, .int (nI k))]) hx hb dX2_pass_84 hl (by decide) rfl (fun ls hl => ?_)
              refine lv_iload hx hb dX2_pass_86 (lv_at hl 1 rfl) ?_
              refine lv_iload hx hb dX2_pass_88 (lv_at hl 0 rfl) ?_
              refine lv_icmp_eq (tgt := 122) hx hb dX2_pass_90 (by decide) (fun c90 => ?_) (fun c90 => ?_)
              · skip
                refine lv_iload hx hb dX2_pass_122 (lv_at hl 1 rfl) ?_
                refine lv_if_eq (tgt := 143) hx hb dX2_pass_124 (by decide) (fun c124 => ?_) (fun c124 => ?_)
                · skip
                  refine lv_iinc (v := (nI (k + 1))) (lv' := [(2, .int (nI (k + 1))), (5, .int (bI (gM q sd fx fy (prN F k)))), (4, .int (bI (gM q sd fx fy k))), (3, .int (nI (prN F k))), (0, .ref m0), (1, .int (nI q))]) hx hb dX2_pass_143 hl (k := 5) rfl (nI_1 _) (by decide) rfl (fun ls hl => ?_)
                  have e : (mpV cap tx ty q sd fx fy F k) = (mpV cap tx ty q sd fx fy F (k + 1)) := by rw [mpV, mpV, mpL, mpL, out_00 (bI_eq.mp c90) (bI_eq0.mp c124)]
                  refine lv_goto (tgt := 7) hx hb dX2_pass_146 (by decide) ?_
                  rw [e] at hP hD
                  exact ih (k + 1) (by omega) (by omega) H locs hP hD hS ls (lv_sub hl [4, 5, 0] rfl)
                · skip
                  refine lv_aload_n hx hb dX2_pass_127 rfl (lv_at hl 3 rfl) ?_
                  refine lv_aload_n hx hb dX2_pass_128 rfl (lv_at hl 3 rfl) ?_
                  refine va_get (D := D) (ci := 2) (v := .ref afx) (C := RX2) (T := TX2) (N := 17) hx hb hts nX2_pass_X2 hown hK.1 hP 0 rfl rfl 7 (by decide) (hts (.fieldLink RX2 19 "PolygonFrameModel" "fromX" "[I") (by decide +kernel)) (fun _ h9 => h9) rfl dX2_pass_129 ?_
                  refine lv_iload_n hx hb dX2_pass_132 rfl (lv_at hl 5 rfl) ?_
                  refine q_iald (k := k) hx hb hK.1 hP 1 0 rfl rfl (by omega) (by omega) dX2_pass_133 ?_
                  refine lv_aload_n hx hb dX2_pass_134 rfl (lv_at hl 3 rfl) ?_
                  refine va_get (D := D) (ci := 2) (v := .ref afy) (C := RX2) (T := TX2) (N := 17) hx hb hts nX2_pass_X2 hown hK.1 hP 0 rfl rfl 8 (by decide) (hts (.fieldLink RX2 22 "PolygonFrameModel" "fromY" "[I") (by decide +kernel)) (fun _ h9 => h9) rfl dX2_pass_135 ?_
                  refine lv_iload_n hx hb dX2_pass_138 rfl (lv_at hl 5 rfl) ?_
                  refine q_iald (k := k) hx hb hK.1 hP 2 0 rfl rfl (by omega) (by omega) dX2_pass_139 ?_
                  refine wr_v (wr := [(afx, .inl (cI, 60, .inl fx)), (afy, .inl (cI, 60, .inl fy))]) hP hD hS hA [0, 3, 4] [1, 2] rfl rfl (by decide) (by decide) (va_runV (As := [.int (fx k), .int (fy k)]) ⟨hx, hb, hml, hown, hts⟩ (kX2_add l D cI cZ H.size m0 aP ax ay afx afy atx aty wd hg cap n (nI F) (sd 0) (sd 1) (sd 2) (sd 3) (mpV cap tx ty q sd fx fy F k) (fx k) (fy k) (by omega) hc) (cwV 2 hts gX2_pass_X2_add rfl rfl rfl (by decide +kernel) ⟨Nat.le_of_ble_eq_true rfl, Nat.le_of_ble_eq_true rfl⟩) (wr_preV (ci := 2) (q0 := 0) (hP.sub [0, 3, 4] rfl) hK (hD.sub [0, 3, 4] (by decide) rfl) rfl rfl) rfl rfl hl.1 rfl (lv_room (Nat.le_of_ble_eq_true rfl)) dX2_pass_140 ⟨Nat.zero_le _, Nat.zero_le _⟩) (fun u2 H locs hw2 hP hD hS => ?_)
                  replace hP : va_P D vwCl [(m0, .inr (2, [.int (nI wd), .int (nI hg), .int (nI cap), .ref aP, .ref ax, .ref ay, .int (nI n), .ref afx, .ref afy, .ref atx, .ref aty, .int (nI F), .int (nI u2.1), .int (sd 0), .int (sd 1), .int (sd 2), .int (sd 3)])), (afx, .inl (cI, 60, .inl fx)), (afy, .inl (cI, 60, .inl fy)), (atx, .inl (cI, 60, .inl u2.2.1)), (aty, .inl (cI, 60, .inl u2.2.2))] H := hP.sub [2, 0, 1, 3, 4] rfl
                  replace hD : va_D A [(m0, .inr (2, [.int (nI wd), .int (nI hg), .int (nI cap), .ref aP, .ref ax, .ref ay, .int (nI n), .ref afx, .ref afy, .ref atx, .ref aty, .int (nI F), .int (nI u2.1), .int (sd 0), .int (sd 1), .int (sd 2), .int (sd 3)])), (afx, .inl (cI, 60, .inl fx)), (afy, .inl (cI, 60, .inl fy)), (atx, .inl (cI, 60, .inl u2.2.1)), (aty, .inl (cI, 60, .inl u2.2.2))] := hD.sub [2, 0, 1, 3, 4] (by decide) rfl
                  refine lv_iinc (v := (nI (k + 1))) (lv' := [(2, .int (nI (k + 1))), (5, .int (bI (gM q sd fx fy (prN F k)))), (4, .int (bI (gM q sd fx fy k))), (3, .int (nI (prN F k))), (0, .ref m0), (1, .int (nI q))]) hx hb dX2_pass_143 hl (k := 5) rfl (nI_1 _) (by decide) rfl (fun ls hl => ?_)
                  have e : u2 = (mpV cap tx ty q sd fx fy F (k + 1)) := by rw [mpV, mpL, out_01 (bI_eq.mp c90) (bI_ne c124), mpU_snoc]; rw [hw2]; rfl
                  refine lv_goto (tgt := 7) hx hb dX2_pass_146 (by decide) ?_
                  rw [e] at hP hD
                  exact ih (k + 1) (by omega) (by omega) H locs hP hD hS ls (lv_sub hl [4, 5, 0] rfl)
              · skip
                refine lv_aload_n hx hb dX2_pass_93 rfl (lv_at hl 3 rfl) ?_
                refine lv_iload_n hx hb dX2_pass_94 rfl (lv_at hl 4 rfl) ?_
                refine lv_aload_n hx hb dX2_pass_95 rfl (lv_at hl 3 rfl) ?_
                refine va_get (D := D) (ci := 2) (v := .ref afx) (C := RX2) (T := TX2) (N := 17) hx hb hts nX2_pass_X2 hown hK.1 hP 0 rfl rfl 7 (by decide) (hts (.fieldLink RX2 19 "PolygonFrameModel" "fromX" "[I") (by decide +kernel)) (fun _ h9 => h9) rfl dX2_pass_96 ?_
                refine lv_iload_n hx hb dX2_pass_99 rfl (lv_at hl 2 rfl) ?_
                refine q_iald (k := (prN F k)) hx hb hK.1 hP 1 0 rfl rfl (Nat.lt_of_lt_of_le hp hF) (by decide) dX2_pass_100 ?_
                refine lv_aload_n hx hb dX2_pass_101 rfl (lv_at hl 3 rfl) ?_
                refine va_get (D := D) (ci := 2) (v := .ref afy) (C := RX2) (T := TX2) (N := 17) hx hb hts nX2_pass_X2 hown hK.1 hP 0 rfl rfl 8 (by decide) (hts (.fieldLink RX2 22 "PolygonFrameModel" "fromY" "[I") (by decide +kernel)) (fun _ h9 => h9) rfl dX2_pass_102 ?_
                refine lv_iload_n hx hb dX2_pass_105 rfl (lv_at hl 2 rfl) ?_
                refine q_iald (k := (prN F k)) hx hb hK.1 hP 2 0 rfl rfl (Nat.lt_of_lt_of_le hp hF) (by decide) dX2_pass_106 ?_
                refine lv_aload_n hx hb dX2_pass_107 rfl (lv_at hl 3 rfl) ?_
                refine va_get (D := D) (ci := 2) (v := .ref afx) (C := RX2) (T := TX2) (N := 17) hx hb hts nX2_pass_X2 hown hK.1 hP 0 rfl rfl 7 (by decide) (hts (.fieldLink RX2 19 "PolygonFrameModel" "fromX" "[I") (by decide +kernel)) (fun _ h9 => h9) rfl dX2_pass_108 ?_
                refine lv_iload_n hx hb dX2_pass_111 rfl (lv_at hl 5 rfl) ?_
                refine q_iald (k := k) hx hb hK.1 hP 1 0 rfl rfl (by omega) (by omega) dX2_pass_112 ?_
                refine lv_aload_n hx hb dX2_pass_113 rfl (lv_at hl 3 rfl) ?_
                refine va_get (D := D) (ci := 2) (v := .ref afy) (C := RX2) (T := TX2) (N := 17) hx hb hts nX2_pass_X2 hown hK.1 hP 0 rfl rfl 8 (by decide) (hts (.fieldLink RX2 22 "PolygonFrameModel" "fromY" "[I") (by decide +kernel)) (fun _ h9 => h9) rfl dX2_pass_114 ?_
                refine lv_iload_n hx hb dX2_pass_117 rfl (lv_at hl 5 rfl) ?_
                refine q_iald (k := k) hx hb hK.1 hP 2 0 rfl rfl (by omega) (by omega) dX2_pass_118 ?_
                have hgg : ¬ gM q sd fx fy k = gM q sd fx fy (prN F k) := fun h => c90 (by rw [h])
                refine wr_v (wr := [(afx, .inl (cI, 60, .inl fx)), (afy, .inl (cI, 60, .inl fy))]) hP hD hS hA [0, 3, 4] [1, 2] rfl rfl (by decide) (by decide) (va_runV (As := [.int (nI q), .int (fx (prN F k)), .int (fy (prN F k)), .int (fx k), .int (fy k)]) ⟨hx, hb, hml, hown, hts⟩ (kX2_cut l D cI cZ H.size m0 aP ax ay afx afy atx aty wd hg cap n (nI F) sd (mpV cap tx ty q sd fx fy F k) q (fx (prN F k)) (fy (prN F k)) (fx k) (fy k) hq (gM_nx hgg).1 (gM_nx hgg).2 (by omega) hc) (cwV 5 hts gX2_pass_X2_cut rfl rfl rfl (by decide +kernel) ⟨Nat.le_of_ble_eq_true rfl, Nat.le_of_ble_eq_true rfl⟩) (wr_preV (ci := 2) (q0 := 0) (hP.sub [0, 3, 4] rfl) hK (hD.sub [0, 3, 4] (by decide) rfl) rfl rfl) rfl rfl hl.1 rfl (lv_room (Nat.le_of_ble_eq_true rfl)) dX2_pass_119 ⟨Nat.zero_le _, Nat.zero_le _⟩) (fun u1 H locs hw1 hP hD hS => ?_)
                replace hP : va_P D vwCl [(m0, .inr (2, [.int (nI wd), .int (nI hg), .int (nI cap), .ref aP, .ref ax, .ref ay, .int (nI n), .ref afx, .ref afy, .ref atx, .ref aty, .int (nI F), .int (nI u1.1), .int (sd 0), .int (sd 1), .int (sd 2), .int (sd 3)])), (afx, .inl (cI, 60, .inl fx)), (afy, .inl (cI, 60, .inl fy)), (atx, .inl (cI, 60, .inl u1.2.1)), (aty, .inl (cI, 60, .inl u1.2.2))] H := hP.sub [2, 0, 1, 3, 4] rfl
                replace hD : va_D A [(m0, .inr (2, [.int (nI wd), .int (nI hg), .int (nI cap), .ref aP, .ref ax, .ref ay, .int (nI n), .ref afx, .ref afy, .ref atx, .ref aty, .int (nI F), .int (nI u1.1), .int (sd 0), .int (sd 1), .int (sd 2), .int (sd 3)])), (afx, .inl (cI, 60, .inl fx)), (afy, .inl (cI, 60, .inl fy)), (atx, .inl (cI, 60, .inl u1.2.1)), (aty, .inl (cI, 60, .inl u1.2.2))] := hD.sub [2, 0, 1, 3, 4] (by decide) rfl
                have hu1 : u1.1 ≤ 1000 := by rw [hw1, adP_1]; omega
                refine lv_iload hx hb dX2_pass_122 (lv_at hl 1 rfl) ?_
                refine lv_if_eq (tgt := 143) hx hb dX2_pass_124 (by decide) (fun c124 => ?_) (fun c124 => ?_)
                · skip
                  refine lv_iinc (v := (nI (k + 1))) (lv' := [(2, .int (nI (k + 1))), (5, .int (bI (gM q sd fx fy (prN F k)))), (4, .int (bI (gM q sd fx fy k))), (3, .int (nI (prN F k))), (0, .ref m0), (1, .int (nI q))]) hx hb dX2_pass_143 hl (k := 5) rfl (nI_1 _) (by decide) rfl (fun ls hl => ?_)
                  have e : u1 = (mpV cap tx ty q sd fx fy F (k + 1)) := by rw [mpV, mpL, out_10 hgg (bI_eq0.mp c124), mpU_snoc]; rw [hw1]; rfl
                  refine lv_goto (tgt := 7) hx hb dX2_pass_146 (by decide) ?_
                  rw [e] at hP hD
                  exact ih (k + 1) (by omega) (by omega) H locs hP hD hS ls (lv_sub hl [4, 5, 0] rfl)
                · skip
                  refine lv_aload_n hx hb dX2_pass_127 rfl (lv_at hl 3 rfl) ?_
                  refine lv_aload_n hx hb dX2_pass_128 rfl (lv_at hl 3 rfl) ?_
                  refine va_get (D := D) (ci := 2) (v := .ref afx) (C := RX2) (T := TX2) (N := 17) hx hb hts nX2_pass_X2 hown hK.1 hP 0 rfl rfl 7 (by decide) (hts (.fieldLink RX2 19 "PolygonFrameModel" "fromX" "[I") (by decide +kernel)) (fun _ h9 => h9) rfl dX2_pass_129 ?_
                  refine lv_iload_n hx hb dX2_pass_132 rfl (lv_at hl 5 rfl) ?_
                  refine q_iald (k := k) hx hb hK.1 hP 1 0 rfl rfl (by omega) (by omega) dX2_pass_133 ?_
                  refine lv_aload_n hx hb dX2_pass_134 rfl (lv_at hl 3 rfl) ?_
                  refine va_get (D := D) (ci := 2) (v := .ref afy) (C := RX2) (T := TX2) (N := 17) hx hb hts nX2_pass_X2 hown hK.1 hP 0 rfl rfl 8 (by decide) (hts (.fieldLink RX2 22 "PolygonFrameModel" "fromY" "[I") (by decide +kernel)) (fun _ h9 => h9) rfl dX2_pass_135 ?_
                  refine lv_iload_n hx hb dX2_pass_138 rfl (lv_at hl 5 rfl) ?_
                  refine q_iald (k := k) hx hb hK.1 hP 2 0 rfl rfl (by omega) (by omega) dX2_pass_139 ?_
                  refine wr_v (wr := [(afx, .inl (cI, 60, .inl fx)), (afy, .inl (cI, 60, .inl fy))]) hP hD hS hA [0, 3, 4] [1, 2] rfl rfl (by decide) (by decide) (va_runV (As := [.int (fx k), .int (fy k)]) ⟨hx, hb, hml, hown, hts⟩ (kX2_add l D cI cZ H.size m0 aP ax ay afx afy atx aty wd hg cap n (nI F) (sd 0) (sd 1) (sd 2) (sd 3) u1 (fx k) (fy k) hu1 hc) (cwV 2 hts gX2_pass_X2_add rfl rfl rfl (by decide +kernel) ⟨Nat.le_of_ble_eq_true rfl, Nat.le_of_ble_eq_true rfl⟩) (wr_preV (ci := 2) (q0 := 0) (hP.sub [0, 3, 4] rfl) hK (hD.sub [0, 3, 4] (by decide) rfl) rfl rfl) rfl rfl hl.1 rfl (lv_room (Nat.le_of_ble_eq_true rfl)) dX2_pass_140 ⟨Nat.zero_le _, Nat.zero_le _⟩) (fun u2 H locs hw2 hP hD hS => ?_)
                  replace hP : va_P D vwCl [(m0, .inr (2, [.int (nI wd), .int (nI hg), .int (nI cap), .ref aP, .ref ax, .ref ay, .int (nI n), .ref afx, .ref afy, .ref atx, .ref aty, .int (nI F), .int (nI u2.1), .int (sd 0), .int (sd 1), .int (sd 2), .int (sd 3)])), (afx, .inl (cI, 60, .inl fx)), (afy, .inl (cI, 60, .inl fy)), (atx, .inl (cI, 60, .inl u2.2.1)), (aty, .inl (cI, 60, .inl u2.2.2))] H := hP.sub [2, 0, 1, 3, 4] rfl
                  replace hD : va_D A [(m0, .inr (2, [.int (nI wd), .int (nI hg), .int (nI cap), .ref aP, .ref ax, .ref ay, .int (nI n), .ref afx, .ref afy, .ref atx, .ref aty, .int (nI F), .int (nI u2.1), .int (sd 0), .int (sd 1), .int (sd 2), .int (sd 3)])), (afx, .inl (cI, 60, .inl fx)), (afy, .inl (cI, 60, .inl fy)), (atx, .inl (cI, 60, .inl u2.2.1)), (aty, .inl (cI, 60, .inl u2.2.2))] := hD.sub [2, 0, 1, 3, 4] (by decide) rfl
                  refine lv_iinc (v := (nI (k + 1))) (lv' := [(2, .int (nI (k + 1))), (5, .int (bI (gM q sd fx fy (prN F k)))), (4, .int (bI (gM q sd fx fy k))), (3, .int (nI (prN F k))), (0, .ref m0), (1, .int (nI q))]) hx hb dX2_pass_143 hl (k := 5) rfl (nI_1 _) (by decide) rfl (fun ls hl => ?_)
                  have e : u2 = (mpV cap tx ty q sd fx fy F (k + 1)) := by rw [mpV, mpL, out_11 hgg (bI_ne c124), mpU_snoc, mpU_snoc]; rw [hw2, hw1]; rfl
                  refine lv_goto (tgt := 7) hx hb dX2_pass_146 (by decide) ?_
                  rw [e] at hP hD
                  exact ih (k + 1) (by omega) (by omega) H locs hP hD hS ls (lv_sub hl [4, 5, 0] rfl)
            · skip
              refine lv_iconst (v := 1) hx hb dX2_pass_79 (by decide) ?_
              refine lv_goto (tgt := 84) hx hb dX2_pass_80 (by decide) ?_
              refine q_eq (show 1 = bI (gM q sd fx fy (prN F k)) from bI_tt (decide_eq_true c76)) ?_
              refine lv_istore (lv' := [(5, .int (bI (gM q sd fx fy (prN F k)))), (4, .int (bI (gM q sd fx fy k))), (3, .int (nI (prN F k))), (0, .ref m0), (1, .int (nI q)), (2, .int (nI k))]) hx hb dX2_pass_84 hl (by decide) rfl (fun ls hl => ?_)
              refine lv_iload hx hb dX2_pass_86 (lv_at hl 1 rfl) ?_
              refine lv_iload hx hb dX2_pass_88 (lv_at hl 0 rfl) ?_
              refine lv_icmp_eq (tgt := 122) hx hb dX2_pass_90 (by decide) (fun c90 => ?_) (fun c90 => ?_)
              · skip
                refine lv_iload hx hb dX2_pass_122 (lv_at hl 1 rfl) ?_
                refine lv_if_eq (tgt := 143) hx hb dX2_pass_124 (by decide) (fun c124 => ?_) (fun c124 => ?_)
                · skip
                  refine lv_iinc (v := (nI (k + 1))) (lv' := [(2, .int (nI (k + 1))), (5, .int (bI (gM q sd fx fy (prN F k)))), (4, .int (bI (gM q sd fx fy k))), (3, .int (nI (prN F k))), (0, .ref m0), (1, .int (nI q))]) hx hb dX2_pass_143 hl (k := 5) rfl (nI_1 _) (by decide) rfl (fun ls hl => ?_)
                  have e : (mpV cap tx ty q sd fx fy F k) = (mpV cap tx ty q sd fx fy F (k + 1)) := by rw [mpV, mpV, mpL, mpL, out_00 (bI_eq.mp c90) (bI_eq0.mp c124)]
                  refine lv_goto (tgt := 7) hx hb dX2_pass_146 (by decide) ?_
                  rw [e] at hP hD
                  exact ih (k + 1) (by omega) (by omega) H locs hP hD hS ls (lv_sub hl [4, 5, 0] rfl)
                · skip
                  refine lv_aload_n hx hb dX2_pass_127 rfl (lv_at hl 3 rfl) ?_
                  refine lv_aload_n hx hb dX2_pass_128 rfl (lv_at hl 3 rfl) ?_
                  refine va_get (D := D) (ci := 2) (v := .ref afx) (C := RX2) (T := TX2) (N := 17) hx hb hts nX2_pass_X2 hown hK.1 hP 0 rfl rfl 7 (by decide) (hts (.fieldLink RX2 19 "PolygonFrameModel" "fromX" "[I") (by decide +kernel)) (fun _ h9 => h9) rfl dX2_pass_129 ?_
                  refine lv_iload_n hx hb dX2_pass_132 rfl (lv_at hl 5 rfl) ?_
                  refine q_iald (k := k) hx hb hK.1 hP 1 0 rfl rfl (by omega) (by omega) dX2_pass_133 ?_
                  refine lv_aload_n hx hb dX2_pass_134 rfl (lv_at hl 3 rfl) ?_
                  refine va_get (D := D) (ci := 2) (v := .ref afy) (C := RX2) (T := TX2) (N := 17) hx hb hts nX2_pass_X2 hown hK.1 hP 0 rfl rfl 8 (by decide) (hts (.fieldLink RX2 22 "PolygonFrameModel" "fromY" "[I") (by decide +kernel)) (fun _ h9 => h9) rfl dX2_pass_135 ?_
                  refine lv_iload_n hx hb dX2_pass_138 rfl (lv_at hl 5 rfl) ?_
                  refine q_iald (k := k) hx hb hK.1 hP 2 0 rfl rfl (by omega) (by omega) dX2_pass_139 ?_
                  refine wr_v (wr := [(afx, .inl (cI, 60, .inl fx)), (afy, .inl (cI, 60, .inl fy))]) hP hD hS hA [0, 3, 4] [1, 2] rfl rfl (by decide) (by decide) (va_runV (As := [.int (fx k), .int (fy k)]) ⟨hx, hb, hml, hown, hts⟩ (kX2_add l D cI cZ H.size m0 aP ax ay afx afy atx aty wd hg cap n (nI F) (sd 0) (sd 1) (sd 2) (sd 3) (mpV cap tx ty q sd fx fy F k) (fx k) (fy k) (by omega) hc) (cwV 2 hts gX2_pass_X2_add rfl rfl rfl (by decide +kernel) ⟨Nat.le_of_ble_eq_true rfl, Nat.le_of_ble_eq_true rfl⟩) (wr_preV (ci := 2) (q0 := 0) (hP.sub [0, 3, 4] rfl) hK (hD.sub [0, 3, 4] (by decide) rfl) rfl rfl) rfl rfl hl.1 rfl (lv_room (Nat.le_of_ble_eq_true rfl)) dX2_pass_140 ⟨Nat.zero_le _, Nat.zero_le _⟩) (fun u2 H locs hw2 hP hD hS => ?_)
                  replace hP : va_P D vwCl [(m0, .inr (2, [.int (nI wd), .int (nI hg), .int (nI cap), .ref aP, .ref ax, .ref ay, .int (nI n), .ref afx, .ref afy, .ref atx, .ref aty, .int (nI F), .int (nI u2.1), .int (sd 0), .int (sd 1), .int (sd 2), .int (sd 3)])), (afx, .inl (cI, 60, .inl fx)), (afy, .inl (cI, 60, .inl fy)), (atx, .inl (cI, 60, .inl u2.2.1)), (aty, .inl (cI, 60, .inl u2.2.2))] H := hP.sub [2, 0, 1, 3, 4] rfl
                  replace hD : va_D A [(m0, .inr (2, [.int (nI wd), .int (nI hg), .int (nI cap), .ref aP, .ref ax, .ref ay, .int (nI n), .ref afx, .ref afy, .ref atx, .ref aty, .int (nI F), .int (nI u2.1), .int (sd 0), .int (sd 1), .int (sd 2), .int (sd 3)])), (afx, .inl (cI, 60, .inl fx)), (afy, .inl (cI, 60, .inl fy)), (atx, .inl (cI, 60, .inl u2.2.1)), (aty, .inl (cI, 60, .inl u2.2.2))] := hD.sub [2, 0, 1, 3, 4] (by decide) rfl
                  refine lv_iinc (v := (nI (k + 1))) (lv' := [(2, .int (nI (k + 1))), (5, .int (bI (gM q sd fx fy (prN F k)))), (4, .int (bI (gM q sd fx fy k))), (3, .int (nI (prN F k))), (0, .ref m0), (1, .int (nI q))]) hx hb dX2_pass_143 hl (k := 5) rfl (nI_1 _) (by decide) rfl (fun ls hl => ?_)
                  have e : u2 = (mpV cap tx ty q sd fx fy F (k + 1)) := by rw [mpV, mpL, out_01 (bI_eq.mp c90) (bI_ne c124), mpU_snoc]; rw [hw2]; rfl
                  refine lv_goto (tgt := 7) hx hb dX2_pass_146 (by decide) ?_
                  rw [e] at hP hD
                  exact ih (k + 1) (by omega) (by omega) H locs hP hD hS ls (lv_sub hl [4, 5, 0] rfl)
              · skip
                refine lv_aload_n hx hb dX2_pass_93 rfl (lv_at hl 3 rfl) ?_
                refine lv_iload_n hx hb dX2_pass_94 rfl (lv_at hl 4 rfl) ?_
                refine lv_aload_n hx hb dX2_pass_95 rfl (lv_at hl 3 rfl) ?_
                refine va_get (D := D) (ci := 2) (v := .ref afx) (C := RX2) (T := TX2) (N := 17) hx hb hts nX2_pass_X2 hown hK.1 hP 0 rfl rfl 7 (by decide) (hts (.fieldLink RX2 19 "PolygonFrameModel" "fromX" "[I") (by decide +kernel)) (fun _ h9 => h9) rfl dX2_pass_96 ?_
                refine lv_iload_n hx hb dX2_pass_99 rfl (lv_at hl 2 rfl) ?_
                refine q_iald (k := (prN F k)) hx hb hK.1 hP 1 0 rfl rfl (Nat.lt_of_lt_of_le hp hF) (by decide) dX2_pass_100 ?_
                refine lv_aload_n hx hb dX2_pass_101 rfl (lv_at hl 3 rfl) ?_
                refine va_get (D := D) (ci := 2) (v := .ref afy) (C := RX2) (T := TX2) (N := 17) hx hb hts nX2_pass_X2 hown hK.1 hP 0 rfl rfl 8 (by decide) (hts (.fieldLink RX2 22 "PolygonFrameModel" "fromY" "[I") (by decide +kernel)) (fun _ h9 => h9) rfl dX2_pass_102 ?_
                refine lv_iload_n hx hb dX2_pass_105 rfl (lv_at hl 2 rfl) ?_
                refine q_iald (k := (prN F k)) hx hb hK.1 hP 2 0 rfl rfl (Nat.lt_of_lt_of_le hp hF) (by decide) dX2_pass_106 ?_
                refine lv_aload_n hx hb dX2_pass_107 rfl (lv_at hl 3 rfl) ?_
                refine va_get (D := D) (ci := 2) (v := .ref afx) (C := RX2) (T := TX2) (N := 17) hx hb hts nX2_pass_X2 hown hK.1 hP 0 rfl rfl 7 (by decide) (hts (.fieldLink RX2 19 "PolygonFrameModel" "fromX" "[I") (by decide +kernel)) (fun _ h9 => h9) rfl dX2_pass_108 ?_
                refine lv_iload_n hx hb dX2_pass_111 rfl (lv_at hl 5 rfl) ?_
                refine q_iald (k := k) hx hb hK.1 hP 1 0 rfl rfl (by omega) (by omega) dX2_pass_112 ?_
                refine lv_aload_n hx hb dX2_pass_113 rfl (lv_at hl 3 rfl) ?_
                refine va_get (D := D) (ci := 2) (v := .ref afy) (C := RX2) (T := TX2) (N := 17) hx hb hts nX2_pass_X2 hown hK.1 hP 0 rfl rfl 8 (by decide) (hts (.fieldLink RX2 22 "PolygonFrameModel" "fromY" "[I") (by decide +kernel)) (fun _ h9 => h9) rfl dX2_pass_114 ?_
                refine lv_iload_n hx hb dX2_pass_117 rfl (lv_at hl 5 rfl) ?_
                refine q_iald (k := k) hx hb hK.1 hP 2 0 rfl rfl (by omega) (by omega) dX2_pass_118 ?_
                have hgg : ¬ gM q sd fx fy k = gM q sd fx fy (prN F k) := fun h => c90 (by rw [h])
                refine wr_v (wr := [(afx, .inl (cI, 60, .inl fx)), (afy, .inl (cI, 60, .inl fy))]) hP hD hS hA [0, 3, 4] [1, 2] rfl rfl (by decide) (by decide) (va_runV (As := [.int (nI q), .int (fx (prN F k)), .int (fy (prN F k)), .int (fx k), .int (fy k)]) ⟨hx, hb, hml, hown, hts⟩ (kX2_cut l D cI cZ H.size m0 aP ax ay afx afy atx aty wd hg cap n (nI F) sd (mpV cap tx ty q sd fx fy F k) q (fx (prN F k)) (fy (prN F k)) (fx k) (fy k) hq (gM_nx hgg).1 (gM_nx hgg).2 (by omega) hc) (cwV 5 hts gX2_pass_X2_cut rfl rfl rfl (by decide +kernel) ⟨Nat.le_of_ble_eq_true rfl, Nat.le_of_ble_eq_true rfl⟩) (wr_preV (ci := 2) (q0 := 0) (hP.sub [0, 3, 4] rfl) hK (hD.sub [0, 3, 4] (by decide) rfl) rfl rfl) rfl rfl hl.1 rfl (lv_room (Nat.le_of_ble_eq_true rfl)) dX2_pass_119 ⟨Nat.zero_le _, Nat.zero_le _⟩) (fun u1 H locs hw1 hP hD hS => ?_)
                replace hP : va_P D vwCl [(m0, .inr (2, [.int (nI wd), .int (nI hg), .int (nI cap), .ref aP, .ref ax, .ref ay, .int (nI n), .ref afx, .ref afy, .ref atx, .ref aty, .int (nI F), .int (nI u1.1), .int (sd 0), .int (sd 1), .int (sd 2), .int (sd 3)])), (afx, .inl (cI, 60, .inl fx)), (afy, .inl (cI, 60, .inl fy)), (atx, .inl (cI, 60, .inl u1.2.1)), (aty, .inl (cI, 60, .inl u1.2.2))] H := hP.sub [2, 0, 1, 3, 4] rfl
                replace hD : va_D A [(m0, .inr (2, [.int (nI wd), .int (nI hg), .int (nI cap), .ref aP, .ref ax, .ref ay, .int (nI n), .ref afx, .ref afy, .ref atx, .ref aty, .int (nI F), .int (nI u1.1), .int (sd 0), .int (sd 1), .int (sd 2), .int (sd 3)])), (afx, .inl (cI, 60, .inl fx)), (afy, .inl (cI, 60, .inl fy)), (atx, .inl (cI, 60, .inl u1.2.1)), (aty, .inl (cI, 60, .inl u1.2.2))] := hD.sub [2, 0, 1, 3, 4] (by decide) rfl
                have hu1 : u1.1 ≤ 1000 := by rw [hw1, adP_1]; omega
                refine lv_iload hx hb dX2_pass_122 (lv_at hl 1 rfl) ?_
                refine lv_if_eq (tgt := 143) hx hb dX2_pass_124 (by decide) (fun c124 => ?_) (fun c124 => ?_)
                · skip
                  refine lv_iinc (v := (nI (k + 1))) (lv' := [(2, .int (nI (k + 1))), (5, .int (bI (gM q sd fx fy (prN F k)))), (4, .int (bI (gM q sd fx fy k))), (3, .int (nI (prN F k))), (0, .ref m0), (1, .int (nI q))]) hx hb dX2_pass_143 hl (k := 5) rfl (nI_1 _) (by decide) rfl (fun ls hl => ?_)
                  have e : u1 = (mpV cap tx ty q sd fx fy F (k + 1)) := by rw [mpV, mpL, out_10 hgg (bI_eq0.mp c124), mpU_snoc]; rw [hw1]; rfl
                  refine lv_goto (tgt := 7) hx hb dX2_pass_146 (by decide) ?_
                  rw [e] at hP hD
                  exact ih (k + 1) (by omega) (by omega) H locs hP hD hS ls (lv_sub hl [4, 5, 0] rfl)
                · skip
                  refine lv_aload_n hx hb dX2_pass_127 rfl (lv_at hl 3 rfl) ?_
                  refine lv_aload_n hx hb dX2_pass_128 rfl (lv_at hl 3 rfl) ?_
                  refine va_get (D := D) (ci := 2) (v := .ref afx) (C := RX2) (T := TX2) (N := 17) hx hb hts nX2_pass_X2 hown hK.1 hP 0 rfl rfl 7 (by decide) (hts (.fieldLink RX2 19 "PolygonFrameModel" "fromX" "[I") (by decide +kernel)) (fun _ h9 => h9) rfl dX2_pass_129 ?_
                  refine lv_iload_n hx hb dX2_pass_132 rfl (lv_at hl 5 rfl) ?_
                  refine q_iald (k := k) hx hb hK.1 hP 1 0 rfl rfl (by omega) (by omega) dX2_pass_133 ?_
                  refine lv_aload_n hx hb dX2_pass_134 rfl (lv_at hl 3 rfl) ?_
                  refine va_get (D := D) (ci := 2) (v := .ref afy) (C := RX2) (T := TX2) (N := 17) hx hb hts nX2_pass_X2 hown hK.1 hP 0 rfl rfl 8 (by decide) (hts (.fieldLink RX2 22 "PolygonFrameModel" "fromY" "[I") (by decide +kernel)) (fun _ h9 => h9) rfl dX2_pass_135 ?_
                  refine lv_iload_n hx hb dX2_pass_138 rfl (lv_at hl 5 rfl) ?_
                  refine q_iald (k := k) hx hb hK.1 hP 2 0 rfl rfl (by omega) (by omega) dX2_pass_139 ?_
                  refine wr_v (wr := [(afx, .inl (cI, 60, .inl fx)), (afy, .inl (cI, 60, .inl fy))]) hP hD hS hA [0, 3, 4] [1, 2] rfl rfl (by decide) (by decide) (va_runV (As := [.int (fx k), .int (fy k)]) ⟨hx, hb, hml, hown, hts⟩ (kX2_add l D cI cZ H.size m0 aP ax ay afx afy atx aty wd hg cap n (nI F) (sd 0) (sd 1) (sd 2) (sd 3) u1 (fx k) (fy k) hu1 hc) (cwV 2 hts gX2_pass_X2_add rfl rfl rfl (by decide +kernel) ⟨Nat.le_of_ble_eq_true rfl, Nat.le_of_ble_eq_true rfl⟩) (wr_preV (ci := 2) (q0 := 0) (hP.sub [0, 3, 4] rfl) hK (hD.sub [0, 3, 4] (by decide) rfl) rfl rfl) rfl rfl hl.1 rfl (lv_room (Nat.le_of_ble_eq_true rfl)) dX2_pass_140 ⟨Nat.zero_le _, Nat.zero_le _⟩) (fun u2 H locs hw2 hP hD hS => ?_)
                  replace hP : va_P D vwCl [(m0, .inr (2, [.int (nI wd), .int (nI hg), .int (nI cap), .ref aP, .ref ax, .ref ay, .int (nI n), .ref afx, .ref afy, .ref atx, .ref aty, .int (nI F), .int (nI u2.1), .int (sd 0), .int (sd 1), .int (sd 2), .int (sd 3)])), (afx, .inl (cI, 60, .inl fx)), (afy, .inl (cI, 60, .inl fy)), (atx, .inl (cI, 60, .inl u2.2.1)), (aty, .inl (cI, 60, .inl u2.2.2))] H := hP.sub [2, 0, 1, 3, 4] rfl
                  replace hD : va_D A [(m0, .inr (2, [.int (nI wd), .int (nI hg), .int (nI cap), .ref aP, .ref ax, .ref ay, .int (nI n), .ref afx, .ref afy, .ref atx, .ref aty, .int (nI F), .int (nI u2.1), .int (sd 0), .int (sd 1), .int (sd 2), .int (sd 3)])), (afx, .inl (cI, 60, .inl fx)), (afy, .inl (cI, 60, .inl fy)), (atx, .inl (cI, 60, .inl u2.2.1)), (aty, .inl (cI, 60, .inl u2.2.2))] := hD.sub [2, 0, 1, 3, 4] (by decide) rfl
                  refine lv_iinc (v := (nI (k + 1))) (lv' := [(2, .int (nI (k + 1))), (5, .int (bI (gM q sd fx fy (prN F k)))), (4, .int (bI (gM q sd fx fy k))), (3, .int (nI (prN F k))), (0, .ref m0), (1, .int (nI q))]) hx hb dX2_pass_143 hl (k := 5) rfl (nI_1 _) (by decide) rfl (fun ls hl => ?_)
                  have e : u2 = (mpV cap tx ty q sd fx fy F (k + 1)) := by rw [mpV, mpL, out_11 hgg (bI_ne c124), mpU_snoc, mpU_snoc]; rw [hw2, hw1]; rfl
                  refine lv_goto (tgt := 7) hx hb dX2_pass_146 (by decide) ?_
                  rw [e] at hP hD
                  exact ih (k + 1) (by omega) (by omega) H locs hP hD hS ls (lv_sub hl [4, 5, 0] rfl)
        · skip
          refine lv_aload_n hx hb dX2_pass_19 rfl (lv_at hl 0 rfl) ?_
          refine va_get (D := D) (ci := 2) (v := .int (nI F)) (C := RX2) (T := TX2) (N := 17) hx hb hts nX2_pass_X2 hown hK.1 hP 0 rfl rfl 11 (by decide) (hts (.fieldLink RX2 75 "PolygonFrameModel" "from" "I") (by decide +kernel)) (fun _ h9 => h9) rfl dX2_pass_20 ?_
          refine lv_iconst (v := 1) hx hb dX2_pass_23 (by decide) ?_
          refine lv_isub hx hb dX2_pass_24 ?_
          refine lv_goto (tgt := 31) hx hb dX2_pass_25 (by decide) ?_
          have hk0 : k = 0 := (nI_eq (b := 0) (by omega) (by omega)).mp c16
          refine q_eq (show nI F - 1 = nI (prN F k) by rw [prN, if_pos hk0, ← pk_sub (a := F) (b := 1) (by omega)]; rfl) ?_
          refine lv_istore_n (lv' := [(3, .int (nI (prN F k))), (0, .ref m0), (1, .int (nI q)), (2, .int (nI k))]) hx hb dX2_pass_31 rfl hl (by decide) rfl (fun ls hl => ?_)
          refine lv_aload_n hx hb dX2_pass_32 rfl (lv_at hl 1 rfl) ?_
          refine lv_iload_n hx hb dX2_pass_33 rfl (lv_at hl 2 rfl) ?_
          refine lv_aload_n hx hb dX2_pass_34 rfl (lv_at hl 1 rfl) ?_
          refine va_get (D := D) (ci := 2) (v := .ref afx) (C := RX2) (T := TX2) (N := 17) hx hb hts nX2_pass_X2 hown hK.1 hP 0 rfl rfl 7 (by decide) (hts (.fieldLink RX2 19 "PolygonFrameModel" "fromX" "[I") (by decide +kernel)) (fun _ h9 => h9) rfl dX2_pass_35 ?_
          refine lv_iload_n hx hb dX2_pass_38 rfl (lv_at hl 3 rfl) ?_
          refine q_iald (k := k) hx hb hK.1 hP 1 0 rfl rfl (by omega) (by omega) dX2_pass_39 ?_
          refine lv_aload_n hx hb dX2_pass_40 rfl (lv_at hl 1 rfl) ?_
          refine va_get (D := D) (ci := 2) (v := .ref afy) (C := RX2) (T := TX2) (N := 17) hx hb hts nX2_pass_X2 hown hK.1 hP 0 rfl rfl 8 (by decide) (hts (.fieldLink RX2 22 "PolygonFrameModel" "fromY" "[I") (by decide +kernel)) (fun _ h9 => h9) rfl dX2_pass_41 ?_
          refine lv_iload_n hx hb dX2_pass_44 rfl (lv_at hl 3 rfl) ?_
          refine q_iald (k := k) hx hb hK.1 hP 2 0 rfl rfl (by omega) (by omega) dX2_pass_45 ?_
          refine rd_i (va_runV (As := [.int (nI q), .int (fx k), .int (fy k)]) ⟨hx, hb, hml, hown, hts⟩ (kX2_depth l D cI cZ m0 aP ax ay afx afy atx aty wd hg cap n (nI F) (nI (mpV cap tx ty q sd fx fy F k).1) (sd 0) (sd 1) (sd 2) (sd 3) q (fx k) (fy k) hq) (cwV 3 hts gX2_pass_X2_depth rfl rfl rfl (by decide +kernel) ⟨Nat.le_of_ble_eq_true rfl, Nat.le_of_ble_eq_true rfl⟩) (rd_preV (ci := 2) (q0 := 0) (hP.sub [0] rfl) hK rfl rfl) rfl rfl hl.1 rfl (lv_room (Nat.le_of_ble_eq_true rfl)) dX2_pass_46 ⟨Nat.zero_le _, Nat.zero_le _⟩) ?_
          refine lv_if_lt (tgt := 56) hx hb dX2_pass_49 (by decide) (fun c49 => ?_) (fun c49 => ?_)
          · skip
            refine lv_iconst (v := 0) hx hb dX2_pass_56 (by decide) ?_
            refine q_eq (show 0 = bI (gM q sd fx fy k) from bI_ff (decide_eq_false (fun h => h c49))) ?_
            refine lv_istore (lv' := [(4, .int (bI (gM q sd fx fy k))), (3, .int (nI (prN F k))), (0, .ref m0), (1, .int (nI q)), (2, .int (nI k))]) hx hb dX2_pass_57 hl (by decide) rfl (fun ls hl => ?_)
            refine lv_aload_n hx hb dX2_pass_59 rfl (lv_at hl 2 rfl) ?_
            refine lv_iload_n hx hb dX2_pass_60 rfl (lv_at hl 3 rfl) ?_
            refine lv_aload_n hx hb dX2_pass_61 rfl (lv_at hl 2 rfl) ?_
            refine va_get (D := D) (ci := 2) (v := .ref afx) (C := RX2) (T := TX2) (N := 17) hx hb hts nX2_pass_X2 hown hK.1 hP 0 rfl rfl 7 (by decide) (hts (.fieldLink RX2 19 "PolygonFrameModel" "fromX" "[I") (by decide +kernel)) (fun _ h9 => h9) rfl dX2_pass_62 ?_
            refine lv_iload_n hx hb dX2_pass_65 rfl (lv_at hl 1 rfl) ?_
            refine q_iald (k := (prN F k)) hx hb hK.1 hP 1 0 rfl rfl (Nat.lt_of_lt_of_le hp hF) (by decide) dX2_pass_66 ?_
            refine lv_aload_n hx hb dX2_pass_67 rfl (lv_at hl 2 rfl) ?_
            refine va_get (D := D) (ci := 2) (v := .ref afy) (C := RX2) (T := TX2) (N := 17) hx hb hts nX2_pass_X2 hown hK.1 hP 0 rfl rfl 8 (by decide) (hts (.fieldLink RX2 22 "PolygonFrameModel" "fromY" "[I") (by decide +kernel)) (fun _ h9 => h9) rfl dX2_pass_68 ?_
            refine lv_iload_n hx hb dX2_pass_71 rfl (lv_at hl 1 rfl) ?_
            refine q_iald (k := (prN F k)) hx hb hK.1 hP 2 0 rfl rfl (Nat.lt_of_lt_of_le hp hF) (by decide) dX2_pass_72 ?_
            refine rd_i (va_runV (As := [.int (nI q), .int (fx (prN F k)), .int (fy (prN F k))]) ⟨hx, hb, hml, hown, hts⟩ (kX2_depth l D cI cZ m0 aP ax ay afx afy atx aty wd hg cap n (nI F) (nI (mpV cap tx ty q sd fx fy F k).1) (sd 0) (sd 1) (sd 2) (sd 3) q (fx (prN F k)) (fy (prN F k)) hq) (cwV 3 hts gX2_pass_X2_depth rfl rfl rfl (by decide +kernel) ⟨Nat.le_of_ble_eq_true rfl, Nat.le_of_ble_eq_true rfl⟩) (rd_preV (ci := 2) (q0 := 0) (hP.sub [0] rfl) hK rfl rfl) rfl rfl hl.1 rfl (lv_room (Nat.le_of_ble_eq_true rfl)) dX2_pass_73 ⟨Nat.zero_le _, Nat.zero_le _⟩) ?_
            refine lv_if_lt (tgt := 83) hx hb dX2_pass_76 (by decide) (fun c76 => ?_) (fun c76 => ?_)
            · skip
              refine lv_iconst (v := 0) hx hb dX2_pass_83 (by decide) ?_
              refine q_eq (show 0 = bI (gM q sd fx fy (prN F k)) from bI_ff (decide_eq_false (fun h => h c76))) ?_
              refine lv_istore (lv' := [(5, .int (bI (gM q sd fx fy (prN F k)))), (4, .int (bI (gM q sd fx fy k))), (3, .int (nI (prN F k))), (0, .ref m0), (1, .int (nI q)), (2, .int (nI k))]) hx hb dX2_pass_84 hl (by decide) rfl (fun ls hl => ?_)
              refine lv_iload hx hb dX2_pass_86 (lv_at hl 1 rfl) ?_
              refine lv_iload hx hb dX2_pass_88 (lv_at hl 0 rfl) ?_
              refine lv_icmp_eq (tgt := 122) hx hb dX2_pass_90 (by decide) (fun c90 => ?_) (fun c90 => ?_)
              · skip
                refine lv_iload hx hb dX2_pass_122 (lv_at hl 1 rfl) ?_
                refine lv_if_eq (tgt := 143) hx hb dX2_pass_124 (by decide) (fun c124 => ?_) (fun c124 => ?_)
                · skip
                  refine lv_iinc (v := (nI (k + 1))) (lv' := [(2, .int (nI (k + 1))), (5, .int (bI (gM q sd fx fy (prN F k)))), (4, .int (bI (gM q sd fx fy k))), (3, .int (nI (prN F k))), (0, .ref m0), (1, .int (nI q))]) hx hb dX2_pass_143 hl (k := 5) rfl (nI_1 _) (by decide) rfl (fun ls hl => ?_)
                  have e : (mpV cap tx ty q sd fx fy F k) = (mpV cap tx ty q sd fx fy F (k + 1)) := by rw [mpV, mpV, mpL, mpL, out_00 (bI_eq.mp c90) (bI_eq0.mp c124)]
                  refine lv_goto (tgt := 7) hx hb dX2_pass_146 (by decide) ?_
                  rw [e] at hP hD
                  exact ih (k + 1) (by omega) (by omega) H locs hP hD hS ls (lv_sub hl [4, 5, 0] rfl)
                · skip
                  refine lv_aload_n hx hb dX2_pass_127 rfl (lv_at hl 3 rfl) ?_
                  refine lv_aload_n hx hb dX2_pass_128 rfl (lv_at hl 3 rfl) ?_
                  refine va_get (D := D) (ci := 2) (v := .ref afx) (C := RX2) (T := TX2) (N := 17) hx hb hts nX2_pass_X2 hown hK.1 hP 0 rfl rfl 7 (by decide) (hts (.fieldLink RX2 19 "PolygonFrameModel" "fromX" "[I") (by decide +kernel)) (fun _ h9 => h9) rfl dX2_pass_129 ?_
                  refine lv_iload_n hx hb dX2_pass_132 rfl (lv_at hl 5 rfl) ?_
                  refine q_iald (k := k) hx hb hK.1 hP 1 0 rfl rfl (by omega) (by omega) dX2_pass_133 ?_
                  refine lv_aload_n hx hb dX2_pass_134 rfl (lv_at hl 3 rfl) ?_
                  refine va_get (D := D) (ci := 2) (v := .ref afy) (C := RX2) (T := TX2) (N := 17) hx hb hts nX2_pass_X2 hown hK.1 hP 0 rfl rfl 8 (by decide) (hts (.fieldLink RX2 22 "PolygonFrameModel" "fromY" "[I") (by decide +kernel)) (fun _ h9 => h9) rfl dX2_pass_135 ?_
                  refine lv_iload_n hx hb dX2_pass_138 rfl (lv_at hl 5 rfl) ?_
                  refine q_iald (k := k) hx hb hK.1 hP 2 0 rfl rfl (by omega) (by omega) dX2_pass_139 ?_
                  refine wr_v (wr := [(afx, .inl (cI, 60, .inl fx)), (afy, .inl (cI, 60, .inl fy))]) hP hD hS hA [0, 3, 4] [1, 2] rfl rfl (by decide) (by decide) (va_runV (As := [.int (fx k), .int (fy k)]) ⟨hx, hb, hml, hown, hts⟩ (kX2_add l D cI cZ H.size m0 aP ax ay afx afy atx aty wd hg cap n (nI F) (sd 0) (sd 1) (sd 2) (sd 3) (mpV cap tx ty q sd fx fy F k) (fx k) (fy k) (by omega) hc) (cwV 2 hts gX2_pass_X2_add rfl rfl rfl (by decide +kernel) ⟨Nat.le_of_ble_eq_true rfl, Nat.le_of_ble_eq_true rfl⟩) (wr_preV (ci := 2) (q0 := 0) (hP.sub [0, 3, 4] rfl) hK (hD.sub [0, 3, 4] (by decide) rfl) rfl rfl) rfl rfl hl.1 rfl (lv_room (Nat.le_of_ble_eq_true rfl)) dX2_pass_140 ⟨Nat.zero_le _, Nat.zero_le _⟩) (fun u2 H locs hw2 hP hD hS => ?_)
                  replace hP : va_P D vwCl [(m0, .inr (2, [.int (nI wd), .int (nI hg), .int (nI cap), .ref aP, .ref ax, .ref ay, .int (nI n), .ref afx, .ref afy, .ref atx, .ref aty, .int (nI F), .int (nI u2.1), .int (sd 0), .int (sd 1), .int (sd 2), .int (sd 3)])), (afx, .inl (cI, 60, .inl fx)), (afy, .inl (cI, 60, .inl fy)), (atx, .inl (cI, 60, .inl u2.2.1)), (aty, .inl (cI, 60, .inl u2.2.2))] H := hP.sub [2, 0, 1, 3, 4] rfl
                  replace hD : va_D A [(m0, .inr (2, [.int (nI wd), .int (nI hg), .int (nI cap), .ref aP, .ref ax, .ref ay, .int (nI n), .ref afx, .ref afy, .ref atx, .ref aty, .int (nI F), .int (nI u2.1), .int (sd 0), .int (sd 1), .int (sd 2), .int (sd 3)])), (afx, .inl (cI, 60, .inl fx)), (afy, .inl (cI, 60, .inl fy)), (atx, .inl (cI, 60, .inl u2.2.1)), (aty, .inl (cI, 60, .inl u2.2.2))] := hD.sub [2, 0, 1, 3, 4] (by decide) rfl
                  refine lv_iinc (v := (nI (k + 1))) (lv' := [(2, .int (nI (k + 1))), (5, .int (bI (gM q sd fx fy (prN F k)))), (4, .int (bI (gM q sd fx fy k))), (3, .int (nI (prN F k))), (0, .ref m0), (1, .int (nI q))]) hx hb dX2_pass_143 hl (k := 5) rfl (nI_1 _) (by decide) rfl (fun ls hl => ?_)
                  have e : u2 = (mpV cap tx ty q sd fx fy F (k + 1)) := by rw [mpV, mpL, out_01 (bI_eq.mp c90) (bI_ne c124), mpU_snoc]; rw [hw2]; rfl
                  refine lv_goto (tgt := 7) hx hb dX2_pass_146 (by decide) ?_
                  rw [e] at hP hD
                  exact ih (k + 1) (by omega) (by omega) H locs hP hD hS ls (lv_sub hl [4, 5, 0] rfl)
              · skip
                refine lv_aload_n hx hb dX2_pass_93 rfl (lv_at hl 3 rfl) ?_
                refine lv_iload_n hx hb dX2_pass_94 rfl (lv_at hl 4 rfl) ?_
                refine lv_aload_n hx hb dX2_pass_95 rfl (lv_at hl 3 rfl) ?_
                refine va_get (D := D) (ci := 2) (v := .ref afx) (C := RX2) (T := TX2) (N := 17) hx hb hts nX2_pass_X2 hown hK.1 hP 0 rfl rfl 7 (by decide) (hts (.fieldLink RX2 19 "PolygonFrameModel" "fromX" "[I") (by decide +kernel)) (fun _ h9 => h9) rfl dX2_pass_96 ?_
                refine lv_iload_n hx hb dX2_pass_99 rfl (lv_at hl 2 rfl) ?_
                refine q_iald (k := (prN F k)) hx hb hK.1 hP 1 0 rfl rfl (Nat.lt_of_lt_of_le hp hF) (by decide) dX2_pass_100 ?_
                refine lv_aload_n hx hb dX2_pass_101 rfl (lv_at hl 3 rfl) ?_
                refine va_get (D := D) (ci := 2) (v := .ref afy) (C := RX2) (T := TX2) (N := 17) hx hb hts nX2_pass_X2 hown hK.1 hP 0 rfl rfl 8 (by decide) (hts (.fieldLink RX2 22 "PolygonFrameModel" "fromY" "[I") (by decide +kernel)) (fun _ h9 => h9) rfl dX2_pass_102 ?_
                refine lv_iload_n hx hb dX2_pass_105 rfl (lv_at hl 2 rfl) ?_
                refine q_iald (k := (prN F k)) hx hb hK.1 hP 2 0 rfl rfl (Nat.lt_of_lt_of_le hp hF) (by decide) dX2_pass_106 ?_
                refine lv_aload_n hx hb dX2_pass_107 rfl (lv_at hl 3 rfl) ?_
                refine va_get (D := D) (ci := 2) (v := .ref afx) (C := RX2) (T := TX2) (N := 17) hx hb hts nX2_pass_X2 hown hK.1 hP 0 rfl rfl 7 (by decide) (hts (.fieldLink RX2 19 "PolygonFrameModel" "fromX" "[I") (by decide +kernel)) (fun _ h9 => h9) rfl dX2_pass_108 ?_
                refine lv_iload_n hx hb dX2_pass_111 rfl (lv_at hl 5 rfl) ?_
                refine q_iald (k := k) hx hb hK.1 hP 1 0 rfl rfl (by omega) (by omega) dX2_pass_112 ?_
                refine lv_aload_n hx hb dX2_pass_113 rfl (lv_at hl 3 rfl) ?_
                refine va_get (D := D) (ci := 2) (v := .ref afy) (C := RX2) (T := TX2) (N := 17) hx hb hts nX2_pass_X2 hown hK.1 hP 0 rfl rfl 8 (by decide) (hts (.fieldLink RX2 22 "PolygonFrameModel" "fromY" "[I") (by decide +kernel)) (fun _ h9 => h9) rfl dX2_pass_114 ?_
                refine lv_iload_n hx hb dX2_pass_117 rfl (lv_at hl 5 rfl) ?_
                refine q_iald (k := k) hx hb hK.1 hP 2 0 rfl rfl (by omega) (by omega) dX2_pass_118 ?_
                have hgg : ¬ gM q sd fx fy k = gM q sd fx fy (prN F k) := fun h => c90 (by rw [h])
                refine wr_v (wr := [(afx, .inl (cI, 60, .inl fx)), (afy, .inl (cI, 60, .inl fy))]) hP hD hS hA [0, 3, 4] [1, 2] rfl rfl (by decide) (by decide) (va_runV (As := [.int (nI q), .int (fx (prN F k)), .int (fy (prN F k)), .int (fx k), .int (fy k)]) ⟨hx, hb, hml, hown, hts⟩ (kX2_cut l D cI cZ H.size m0 aP ax ay afx afy atx aty wd hg cap n (nI F) sd (mpV cap tx ty q sd fx fy F k) q (fx (prN F k)) (fy (prN F k)) (fx k) (fy k) hq (gM_nx hgg).1 (gM_nx hgg).2 (by omega) hc) (cwV 5 hts gX2_pass_X2_cut rfl rfl rfl (by decide +kernel) ⟨Nat.le_of_ble_eq_true rfl, Nat.le_of_ble_eq_true rfl⟩) (wr_preV (ci := 2) (q0 := 0) (hP.sub [0, 3, 4] rfl) hK (hD.sub [0, 3, 4] (by decide) rfl) rfl rfl) rfl rfl hl.1 rfl (lv_room (Nat.le_of_ble_eq_true rfl)) dX2_pass_119 ⟨Nat.zero_le _, Nat.zero_le _⟩) (fun u1 H locs hw1 hP hD hS => ?_)
                replace hP : va_P D vwCl [(m0, .inr (2, [.int (nI wd), .int (nI hg), .int (nI cap), .ref aP, .ref ax, .ref ay, .int (nI n), .ref afx, .ref afy, .ref atx, .ref aty, .int (nI F), .int (nI u1.1), .int (sd 0), .int (sd 1), .int (sd 2), .int (sd 3)])), (afx, .inl (cI, 60, .inl fx)), (afy, .inl (cI, 60, .inl fy)), (atx, .inl (cI, 60, .inl u1.2.1)), (aty, .inl (cI, 60, .inl u1.2.2))] H := hP.sub [2, 0, 1, 3, 4] rfl
                replace hD : va_D A [(m0, .inr (2, [.int (nI wd), .int (nI hg), .int (nI cap), .ref aP, .ref ax, .ref ay, .int (nI n), .ref afx, .ref afy, .ref atx, .ref aty, .int (nI F), .int (nI u1.1), .int (sd 0), .int (sd 1), .int (sd 2), .int (sd 3)])), (afx, .inl (cI, 60, .inl fx)), (afy, .inl (cI, 60, .inl fy)), (atx, .inl (cI, 60, .inl u1.2.1)), (aty, .inl (cI, 60, .inl u1.2.2))] := hD.sub [2, 0, 1, 3, 4] (by decide) rfl
                have hu1 : u1.1 ≤ 1000 := by rw [hw1, adP_1]; omega
                refine lv_iload hx hb dX2_pass_122 (lv_at hl 1 rfl) ?_
                refine lv_if_eq (tgt := 143) hx hb dX2_pass_124 (by decide) (fun c124 => ?_) (fun c124 => ?_)
                · skip
                  refine lv_iinc (v := (nI (k + 1))) (lv' := [(2, .int (nI (k + 1))), (5, .int (bI (gM q sd fx fy (prN F k)))), (4, .int (bI (gM q sd fx fy k))), (3, .int (nI (prN F k))), (0, .ref m0), (1, .int (nI q))]) hx hb dX2_pass_143 hl (k := 5) rfl (nI_1 _) (by decide) rfl (fun ls hl => ?_)
                  have e : u1 = (mpV cap tx ty q sd fx fy F (k + 1)) := by rw [mpV, mpL, out_10 hgg (bI_eq0.mp c124), mpU_snoc]; rw [hw1]; rfl
                  refine lv_goto (tgt := 7) hx hb dX2_pass_146 (by decide) ?_
                  rw [e] at hP hD
                  exact ih (k + 1) (by omega) (by omega) H locs hP hD hS ls (lv_sub hl [4, 5, 0] rfl)
                · skip
                  refine lv_aload_n hx hb dX2_pass_127 rfl (lv_at hl 3 rfl) ?_
                  refine lv_aload_n hx hb dX2_pass_128 rfl (lv_at hl 3 rfl) ?_
                  refine va_get (D := D) (ci := 2) (v := .ref afx) (C := RX2) (T := TX2) (N := 17) hx hb hts nX2_pass_X2 hown hK.1 hP 0 rfl rfl 7 (by decide) (hts (.fieldLink RX2 19 "PolygonFrameModel" "fromX" "[I") (by decide +kernel)) (fun _ h9 => h9) rfl dX2_pass_129 ?_
                  refine lv_iload_n hx hb dX2_pass_132 rfl (lv_at hl 5 rfl) ?_
                  refine q_iald (k := k) hx hb hK.1 hP 1 0 rfl rfl (by omega) (by omega) dX2_pass_133 ?_
                  refine lv_aload_n hx hb dX2_pass_134 rfl (lv_at hl 3 rfl) ?_
                  refine va_get (D := D) (ci := 2) (v := .ref afy) (C := RX2) (T := TX2) (N := 17) hx hb hts nX2_pass_X2 hown hK.1 hP 0 rfl rfl 8 (by decide) (hts (.fieldLink RX2 22 "PolygonFrameModel" "fromY" "[I") (by decide +kernel)) (fun _ h9 => h9) rfl dX2_pass_135 ?_
                  refine lv_iload_n hx hb dX2_pass_138 rfl (lv_at hl 5 rfl) ?_
                  refine q_iald (k := k) hx hb hK.1 hP 2 0 rfl rfl (by omega) (by omega) dX2_pass_139 ?_
                  refine wr_v (wr := [(afx, .inl (cI, 60, .inl fx)), (afy, .inl (cI, 60, .inl fy))]) hP hD hS hA [0, 3, 4] [1, 2] rfl rfl (by decide) (by decide) (va_runV (As := [.int (fx k), .int (fy k)]) ⟨hx, hb, hml, hown, hts⟩ (kX2_add l D cI cZ H.size m0 aP ax ay afx afy atx aty wd hg cap n (nI F) (sd 0) (sd 1) (sd 2) (sd 3) u1 (fx k) (fy k) hu1 hc) (cwV 2 hts gX2_pass_X2_add rfl rfl rfl (by decide +kernel) ⟨Nat.le_of_ble_eq_true rfl, Nat.le_of_ble_eq_true rfl⟩) (wr_preV (ci := 2) (q0 := 0) (hP.sub [0, 3, 4] rfl) hK (hD.sub [0, 3, 4] (by decide) rfl) rfl rfl) rfl rfl hl.1 rfl (lv_room (Nat.le_of_ble_eq_true rfl)) dX2_pass_140 ⟨Nat.zero_le _, Nat.zero_le _⟩) (fun u2 H locs hw2 hP hD hS => ?_)
                  replace hP : va_P D vwCl [(m0, .inr (2, [.int (nI wd), .int (nI hg), .int (nI cap), .ref aP, .ref ax, .ref ay, .int (nI n), .ref afx, .ref afy, .ref atx, .ref aty, .int (nI F), .int (nI u2.1), .int (sd 0), .int (sd 1), .int (sd 2), .int (sd 3)])), (afx, .inl (cI, 60, .inl fx)), (afy, .inl (cI, 60, .inl fy)), (atx, .inl (cI, 60, .inl u2.2.1)), (aty, .inl (cI, 60, .inl u2.2.2))] H := hP.sub [2, 0, 1, 3, 4] rfl
                  replace hD : va_D A [(m0, .inr (2, [.int (nI wd), .int (nI hg), .int (nI cap), .ref aP, .ref ax, .ref ay, .int (nI n), .ref afx, .ref afy, .ref atx, .ref aty, .int (nI F), .int (nI u2.1), .int (sd 0), .int (sd 1), .int (sd 2), .int (sd 3)])), (afx, .inl (cI, 60, .inl fx)), (afy, .inl (cI, 60, .inl fy)), (atx, .inl (cI, 60, .inl u2.2.1)), (aty, .inl (cI, 60, .inl u2.2.2))] := hD.sub [2, 0, 1, 3, 4] (by decide) rfl
                  refine lv_iinc (v := (nI (k + 1))) (lv' := [(2, .int (nI (k + 1))), (5, .int (bI (gM q sd fx fy (prN F k)))), (4, .int (bI (gM q sd fx fy k))), (3, .int (nI (prN F k))), (0, .ref m0), (1, .int (nI q))]) hx hb dX2_pass_143 hl (k := 5) rfl (nI_1 _) (by decide) rfl (fun ls hl => ?_)
                  have e : u2 = (mpV cap tx ty q sd fx fy F (k + 1)) := by rw [mpV, mpL, out_11 hgg (bI_ne c124), mpU_snoc, mpU_snoc]; rw [hw2, hw1]; rfl
                  refine lv_goto (tgt := 7) hx hb dX2_pass_146 (by decide) ?_
                  rw [e] at hP hD
                  exact ih (k + 1) (by omega) (by omega) H locs hP hD hS ls (lv_sub hl [4, 5, 0] rfl)
            · skip
              refine lv_iconst (v := 1) hx hb dX2_pass_79 (by decide) ?_
              refine lv_goto (tgt := 84) hx hb dX2_pass_80 (by decide) ?_
              refine q_eq (show 1 = bI (gM q sd fx fy (prN F k)) from bI_tt (decide_eq_true c76)) ?_
              refine lv_istore (lv' := [(5, .int (bI (gM q sd fx fy (prN F k)))), (4, .int (bI (gM q sd fx fy k))), (3, .int (nI (prN F k))), (0, .ref m0), (1, .int (nI q)), (2, .int (nI k))]) hx hb dX2_pass_84 hl (by decide) rfl (fun ls hl => ?_)
              refine lv_iload hx hb dX2_pass_86 (lv_at hl 1 rfl) ?_
              refine lv_iload hx hb dX2_pass_88 (lv_at hl 0 rfl) ?_
              refine lv_icmp_eq (tgt := 122) hx hb dX2_pass_90 (by decide) (fun c90 => ?_) (fun c90 => ?_)
              · skip
                refine lv_iload hx hb dX2_pass_122 (lv_at hl 1 rfl) ?_
                refine lv_if_eq (tgt := 143) hx hb dX2_pass_124 (by decide) (fun c124 => ?_) (fun c124 => ?_)
                · skip
                  refine lv_iinc (v := (nI (k + 1))) (lv' := [(2, .int (nI (k + 1))), (5, .int (bI (gM q sd fx fy (prN F k)))), (4, .int (bI (gM q sd fx fy k))), (3, .int (nI (prN F k))), (0, .ref m0), (1, .int (nI q))]) hx hb dX2_pass_143 hl (k := 5) rfl (nI_1 _) (by decide) rfl (fun ls hl => ?_)
                  have e : (mpV cap tx ty q sd fx fy F k) = (mpV cap tx ty q sd fx fy F (k + 1)) := by rw [mpV, mpV, mpL, mpL, out_00 (bI_eq.mp c90) (bI_eq0.mp c124)]
                  refine lv_goto (tgt := 7) hx hb dX2_pass_146 (by decide) ?_
                  rw [e] at hP hD
                  exact ih (k + 1) (by omega) (by omega) H locs hP hD hS ls (lv_sub hl [4, 5, 0] rfl)
                · skip
                  refine lv_aload_n hx hb dX2_pass_127 rfl (lv_at hl 3 rfl) ?_
                  refine lv_aload_n hx hb dX2_pass_128 rfl (lv_at hl 3 rfl) ?_
                  refine va_get (D := D) (ci := 2) (v := .ref afx) (C := RX2) (T := TX2) (N := 17) hx hb hts nX2_pass_X2 hown hK.1 hP 0 rfl rfl 7 (by decide) (hts (.fieldLink RX2 19 "PolygonFrameModel" "fromX" "[I") (by decide +kernel)) (fun _ h9 => h9) rfl dX2_pass_129 ?_
                  refine lv_iload_n hx hb dX2_pass_132 rfl (lv_at hl 5 rfl) ?_
                  refine q_iald (k := k) hx hb hK.1 hP 1 0 rfl rfl (by omega) (by omega) dX2_pass_133 ?_
                  refine lv_aload_n hx hb dX2_pass_134 rfl (lv_at hl 3 rfl) ?_
                  refine va_get (D := D) (ci := 2) (v := .ref afy) (C := RX2) (T := TX2) (N := 17) hx hb hts nX2_pass_X2 hown hK.1 hP 0 rfl rfl 8 (by decide) (hts (.fieldLink RX2 22 "PolygonFrameModel" "fromY" "[I") (by decide +kernel)) (fun _ h9 => h9) rfl dX2_pass_135 ?_
                  refine lv_iload_n hx hb dX2_pass_138 rfl (lv_at hl 5 rfl) ?_
                  refine q_iald (k := k) hx hb hK.1 hP 2 0 rfl rfl (by omega) (by omega) dX2_pass_139 ?_
                  refine wr_v (wr := [(afx, .inl (cI, 60, .inl fx)), (afy, .inl (cI, 60, .inl fy))]) hP hD hS hA [0, 3, 4] [1, 2] rfl rfl (by decide) (by decide) (va_runV (As := [.int (fx k), .int (fy k)]) ⟨hx, hb, hml, hown, hts⟩ (kX2_add l D cI cZ H.size m0 aP ax ay afx afy atx aty wd hg cap n (nI F) (sd 0) (sd 1) (sd 2) (sd 3) (mpV cap tx ty q sd fx fy F k) (fx k) (fy k) (by omega) hc) (cwV 2 hts gX2_pass_X2_add rfl rfl rfl (by decide +kernel) ⟨Nat.le_of_ble_eq_true rfl, Nat.le_of_ble_eq_true rfl⟩) (wr_preV (ci := 2) (q0 := 0) (hP.sub [0, 3, 4] rfl) hK (hD.sub [0, 3, 4] (by decide) rfl) rfl rfl) rfl rfl hl.1 rfl (lv_room (Nat.le_of_ble_eq_true rfl)) dX2_pass_140 ⟨Nat.zero_le _, Nat.zero_le _⟩) (fun u2 H locs hw2 hP hD hS => ?_)
                  replace hP : va_P D vwCl [(m0, .inr (2, [.int (nI wd), .int (nI hg), .int (nI cap), .ref aP, .ref ax, .ref ay, .int (nI n), .ref afx, .ref afy, .ref atx, .ref aty, .int (nI F), .int (nI u2.1), .int (sd 0), .int (sd 1), .int (sd 2), .int (sd 3)])), (afx, .inl (cI, 60, .inl fx)), (afy, .inl (cI, 60, .inl fy)), (atx, .inl (cI, 60, .inl u2.2.1)), (aty, .inl (cI, 60, .inl u2.2.2))] H := hP.sub [2, 0, 1, 3, 4] rfl
                  replace hD : va_D A [(m0, .inr (2, [.int (nI wd), .int (nI hg), .int (nI cap), .ref aP, .ref ax, .ref ay, .int (nI n), .ref afx, .ref afy, .ref atx, .ref aty, .int (nI F), .int (nI u2.1), .int (sd 0), .int (sd 1), .int (sd 2), .int (sd 3)])), (afx, .inl (cI, 60, .inl fx)), (afy, .inl (cI, 60, .inl fy)), (atx, .inl (cI, 60, .inl u2.2.1)), (aty, .inl (cI, 60, .inl u2.2.2))] := hD.sub [2, 0, 1, 3, 4] (by decide) rfl
                  refine lv_iinc (v := (nI (k + 1))) (lv' := [(2, .int (nI (k + 1))), (5, .int (bI (gM q sd fx fy (prN F k)))), (4, .int (bI (gM q sd fx fy k))), (3, .int (nI (prN F k))), (0, .ref m0), (1, .int (nI q))]) hx hb dX2_pass_143 hl (k := 5) rfl (nI_1 _) (by decide) rfl (fun ls hl => ?_)
                  have e : u2 = (mpV cap tx ty q sd fx fy F (k + 1)) := by rw [mpV, mpL, out_01 (bI_eq.mp c90) (bI_ne c124), mpU_snoc]; rw [hw2]; rfl
                  refine lv_goto (tgt := 7) hx hb dX2_pass_146 (by decide) ?_
                  rw [e] at hP hD
                  exact ih (k + 1) (by omega) (by omega) H locs hP hD hS ls (lv_sub hl [4, 5, 0] rfl)
              · skip
                refine lv_aload_n hx hb dX2_pass_93 rfl (lv_at hl 3 rfl) ?_
                refine lv_iload_n hx hb dX2_pass_94 rfl (lv_at hl 4 rfl) ?_
                refine lv_aload_n hx hb dX2_pass_95 rfl (lv_at hl 3 rfl) ?_
                refine va_get (D := D) (ci := 2) (v := .ref afx) (C := RX2) (T := TX2) (N := 17) hx hb hts nX2_pass_X2 hown hK.1 hP 0 rfl rfl 7 (by decide) (hts (.fieldLink RX2 19 "PolygonFrameModel" "fromX" "[I") (by decide +kernel)) (fun _ h9 => h9) rfl dX2_pass_96 ?_
                refine lv_iload_n hx hb dX2_pass_99 rfl (lv_at hl 2 rfl) ?_
                refine q_iald (k := (prN F k)) hx hb hK.1 hP 1 0 rfl rfl (Nat.lt_of_lt_of_le hp hF) (by decide) dX2_pass_100 ?_
                refine lv_aload_n hx hb dX2_pass_101 rfl (lv_at hl 3 rfl) ?_
                refine va_get (D := D) (ci := 2) (v := .ref afy) (C := RX2) (T := TX2) (N := 17) hx hb hts nX2_pass_X2 hown hK.1 hP 0 rfl rfl 8 (by decide) (hts (.fieldLink RX2 22 "PolygonFrameModel" "fromY" "[I") (by decide +kernel)) (fun _ h9 => h9) rfl dX2_pass_102 ?_
                refine lv_iload_n hx hb dX2_pass_105 rfl (lv_at hl 2 rfl) ?_
                refine q_iald (k := (prN F k)) hx hb hK.1 hP 2 0 rfl rfl (Nat.lt_of_lt_of_le hp hF) (by decide) dX2_pass_106 ?_
                refine lv_aload_n hx hb dX2_pass_107 rfl (lv_at hl 3 rfl) ?_
                refine va_get (D := D) (ci := 2) (v := .ref afx) (C := RX2) (T := TX2) (N := 17) hx hb hts nX2_pass_X2 hown hK.1 hP 0 rfl rfl 7 (by decide) (hts (.fieldLink RX2 19 "PolygonFrameModel" "fromX" "[I") (by decide +kernel)) (fun _ h9 => h9) rfl dX2_pass_108 ?_
                refine lv_iload_n hx hb dX2_pass_111 rfl (lv_at hl 5 rfl) ?_
                refine q_iald (k := k) hx hb hK.1 hP 1 0 rfl rfl (by omega) (by omega) dX2_pass_112 ?_
                refine lv_aload_n hx hb dX2_pass_113 rfl (lv_at hl 3 rfl) ?_
                refine va_get (D := D) (ci := 2) (v := .ref afy) (C := RX2) (T := TX2) (N := 17) hx hb hts nX2_pass_X2 hown hK.1 hP 0 rfl rfl 8 (by decide) (hts (.fieldLink RX2 22 "PolygonFrameModel" "fromY" "[I") (by decide +kernel)) (fun _ h9 => h9) rfl dX2_pass_114 ?_
                refine lv_iload_n hx hb dX2_pass_117 rfl (lv_at hl 5 rfl) ?_
                refine q_iald (k := k) hx hb hK.1 hP 2 0 rfl rfl (by omega) (by omega) dX2_pass_118 ?_
                have hgg : ¬ gM q sd fx fy k = gM q sd fx fy (prN F k) := fun h => c90 (by rw [h])
                refine wr_v (wr := [(afx, .inl (cI, 60, .inl fx)), (afy, .inl (cI, 60, .inl fy))]) hP hD hS hA [0, 3, 4] [1, 2] rfl rfl (by decide) (by decide) (va_runV (As := [.int (nI q), .int (fx (prN F k)), .int (fy (prN F k)), .int (fx k), .int (fy k)]) ⟨hx, hb, hml, hown, hts⟩ (kX2_cut l D cI cZ H.size m0 aP ax ay afx afy atx aty wd hg cap n (nI F) sd (mpV cap tx ty q sd fx fy F k) q (fx (prN F k)) (fy (prN F k)) (fx k) (fy k) hq (gM_nx hgg).1 (gM_nx hgg).2 (by omega) hc) (cwV 5 hts gX2_pass_X2_cut rfl rfl rfl (by decide +kernel) ⟨Nat.le_of_ble_eq_true rfl, Nat.le_of_ble_eq_true rfl⟩) (wr_preV (ci := 2) (q0 := 0) (hP.sub [0, 3, 4] rfl) hK (hD.sub [0, 3, 4] (by decide) rfl) rfl rfl) rfl rfl hl.1 rfl (lv_room (Nat.le_of_ble_eq_true rfl)) dX2_pass_119 ⟨Nat.zero_le _, Nat.zero_le _⟩) (fun u1 H locs hw1 hP hD hS => ?_)
                replace hP : va_P D vwCl [(m0, .inr (2, [.int (nI wd), .int (nI hg), .int (nI cap), .ref aP, .ref ax, .ref ay, .int (nI n), .ref afx, .ref afy, .ref atx, .ref aty, .int (nI F), .int (nI u1.1), .int (sd 0), .int (sd 1), .int (sd 2), .int (sd 3)])), (afx, .inl (cI, 60, .inl fx)), (afy, .inl (cI, 60, .inl fy)), (atx, .inl (cI, 60, .inl u1.2.1)), (aty, .inl (cI, 60, .inl u1.2.2))] H := hP.sub [2, 0, 1, 3, 4] rfl
                replace hD : va_D A [(m0, .inr (2, [.int (nI wd), .int (nI hg), .int (nI cap), .ref aP, .ref ax, .ref ay, .int (nI n), .ref afx, .ref afy, .ref atx, .ref aty, .int (nI F), .int (nI u1.1), .int (sd 0), .int (sd 1), .int (sd 2), .int (sd 3)])), (afx, .inl (cI, 60, .inl fx)), (afy, .inl (cI, 60, .inl fy)), (atx, .inl (cI, 60, .inl u1.2.1)), (aty, .inl (cI, 60, .inl u1.2.2))] := hD.sub [2, 0, 1, 3, 4] (by decide) rfl
                have hu1 : u1.1 ≤ 1000 := by rw [hw1, adP_1]; omega
                refine lv_iload hx hb dX2_pass_122 (lv_at hl 1 rfl) ?_
                refine lv_if_eq (tgt := 143) hx hb dX2_pass_124 (by decide) (fun c124 => ?_) (fun c124 => ?_)
                · skip
                  refine lv_iinc (v := (nI (k + 1))) (lv' := [(2, .int (nI (k + 1))), (5, .int (bI (gM q sd fx fy (prN F k)))), (4, .int (bI (gM q sd fx fy k))), (3, .int (nI (prN F k))), (0, .ref m0), (1, .int (nI q))]) hx hb dX2_pass_143 hl (k := 5) rfl (nI_1 _) (by decide) rfl (fun ls hl => ?_)
                  have e : u1 = (mpV cap tx ty q sd fx fy F (k + 1)) := by rw [mpV, mpL, out_10 hgg (bI_eq0.mp c124), mpU_snoc]; rw [hw1]; rfl
                  refine lv_goto (tgt := 7) hx hb dX2_pass_146 (by decide) ?_
                  rw [e] at hP hD
                  exact ih (k + 1) (by omega) (by omega) H locs hP hD hS ls (lv_sub hl [4, 5, 0] rfl)
                · skip
                  refine lv_aload_n hx hb dX2_pass_127 rfl (lv_at hl 3 rfl) ?_
                  refine lv_aload_n hx hb dX2_pass_128 rfl (lv_at hl 3 rfl) ?_
                  refine va_get (D := D) (ci := 2) (v := .ref afx) (C := RX2) (T := TX2) (N := 17) hx hb hts nX2_pass_X2 hown hK.1 hP 0 rfl rfl 7 (by decide) (hts (.fieldLink RX2 19 "PolygonFrameModel" "fromX" "[I") (by decide +kernel)) (fun _ h9 => h9) rfl dX2_pass_129 ?_
                  refine lv_iload_n hx hb dX2_pass_132 rfl (lv_at hl 5 rfl) ?_
                  refine q_iald (k := k) hx hb hK.1 hP 1 0 rfl rfl (by omega) (by omega) dX2_pass_133 ?_
                  refine lv_aload_n hx hb dX2_pass_134 rfl (lv_at hl 3 rfl) ?_
                  refine va_get (D := D) (ci := 2) (v := .ref afy) (C := RX2) (T := TX2) (N := 17) hx hb hts nX2_pass_X2 hown hK.1 hP 0 rfl rfl 8 (by decide) (hts (.fieldLink RX2 22 "PolygonFrameModel" "fromY" "[I") (by decide +kernel)) (fun _ h9 => h9) rfl dX2_pass_135 ?_
                  refine lv_iload_n hx hb dX2_pass_138 rfl (lv_at hl 5 rfl) ?_
                  refine q_iald (k := k) hx hb hK.1 hP 2 0 rfl rfl (by omega) (by omega) dX2_pass_139 ?_
                  refine wr_v (wr := [(afx, .inl (cI, 60, .inl fx)), (afy, .inl (cI, 60, .inl fy))]) hP hD hS hA [0, 3, 4] [1, 2] rfl rfl (by decide) (by decide) (va_runV (As := [.int (fx k), .int (fy k)]) ⟨hx, hb, hml, hown, hts⟩ (kX2_add l D cI cZ H.size m0 aP ax ay afx afy atx aty wd hg cap n (nI F) (sd 0) (sd 1) (sd 2) (sd 3) u1 (fx k) (fy k) hu1 hc) (cwV 2 hts gX2_pass_X2_add rfl rfl rfl (by decide +kernel) ⟨Nat.le_of_ble_eq_true rfl, Nat.le_of_ble_eq_true rfl⟩) (wr_preV (ci := 2) (q0 := 0) (hP.sub [0, 3, 4] rfl) hK (hD.sub [0, 3, 4] (by decide) rfl) rfl rfl) rfl rfl hl.1 rfl (lv_room (Nat.le_of_ble_eq_true rfl)) dX2_pass_140 ⟨Nat.zero_le _, Nat.zero_le _⟩) (fun u2 H locs hw2 hP hD hS => ?_)
                  replace hP : va_P D vwCl [(m0, .inr (2, [.int (nI wd), .int (nI hg), .int (nI cap), .ref aP, .ref ax, .ref ay, .int (nI n), .ref afx, .ref afy, .ref atx, .ref aty, .int (nI F), .int (nI u2.1), .int (sd 0), .int (sd 1), .int (sd 2), .int (sd 3)])), (afx, .inl (cI, 60, .inl fx)), (afy, .inl (cI, 60, .inl fy)), (atx, .inl (cI, 60, .inl u2.2.1)), (aty, .inl (cI, 60, .inl u2.2.2))] H := hP.sub [2, 0, 1, 3, 4] rfl
                  replace hD : va_D A [(m0, .inr (2, [.int (nI wd), .int (nI hg), .int (nI cap), .ref aP, .ref ax, .ref ay, .int (nI n), .ref afx, .ref afy, .ref atx, .ref aty, .int (nI F), .int (nI u2.1), .int (sd 0), .int (sd 1), .int (sd 2), .int (sd 3)])), (afx, .inl (cI, 60, .inl fx)), (afy, .inl (cI, 60, .inl fy)), (atx, .inl (cI, 60, .inl u2.2.1)), (aty, .inl (cI, 60, .inl u2.2.2))] := hD.sub [2, 0, 1, 3, 4] (by decide) rfl
                  refine lv_iinc (v := (nI (k + 1))) (lv' := [(2, .int (nI (k + 1))), (5, .int (bI (gM q sd fx fy (prN F k)))), (4, .int (bI (gM q sd fx fy k))), (3, .int (nI (prN F k))), (0, .ref m0), (1, .int (nI q))]) hx hb dX2_pass_143 hl (k := 5) rfl (nI_1 _) (by decide) rfl (fun ls hl => ?_)
                  have e : u2 = (mpV cap tx ty q sd fx fy F (k + 1)) := by rw [mpV, mpL, out_11 hgg (bI_ne c124), mpU_snoc, mpU_snoc]; rw [hw2, hw1]; rfl
                  refine lv_goto (tgt := 7) hx hb dX2_pass_146 (by decide) ?_
                  rw [e] at hP hD
                  exact ih (k + 1) (by omega) (by omega) H locs hP hD hS ls (lv_sub hl [4, 5, 0] rfl)
          · skip
            refine lv_iconst (v := 1) hx hb dX2_pass_52 (by decide) ?_
            refine lv_goto (tgt := 57) hx hb dX2_pass_53 (by decide) ?_
            refine q_eq (show 1 = bI (gM q sd fx fy k) from bI_tt (decide_eq_true c49)) ?_
            refine lv_istore (lv' := [(4, .int (bI (gM q sd fx fy k))), (3, .int (nI (prN F k))), (0, .ref m0), (1, .int (nI q)), (2, .int (nI k))]) hx hb dX2_pass_57 hl (by decide) rfl (fun ls hl => ?_)
            refine lv_aload_n hx hb dX2_pass_59 rfl (lv_at hl 2 rfl) ?_
            refine lv_iload_n hx hb dX2_pass_60 rfl (lv_at hl 3 rfl) ?_
            refine lv_aload_n hx hb dX2_pass_61 rfl (lv_at hl 2 rfl) ?_
            refine va_get (D := D) (ci := 2) (v := .ref afx) (C := RX2) (T := TX2) (N := 17) hx hb hts nX2_pass_X2 hown hK.1 hP 0 rfl rfl 7 (by decide) (hts (.fieldLink RX2 19 "PolygonFrameModel" "fromX" "[I") (by decide +kernel)) (fun _ h9 => h9) rfl dX2_pass_62 ?_
            refine lv_iload_n hx hb dX2_pass_65 rfl (lv_at hl 1 rfl) ?_
            refine q_iald (k := (prN F k)) hx hb hK.1 hP 1 0 rfl rfl (Nat.lt_of_lt_of_le hp hF) (by decide) dX2_pass_66 ?_
            refine lv_aload_n hx hb dX2_pass_67 rfl (lv_at hl 2 rfl) ?_
            refine va_get (D := D) (ci := 2) (v := .ref afy) (C := RX2) (T := TX2) (N := 17) hx hb hts nX2_pass_X2 hown hK.1 hP 0 rfl rfl 8 (by decide) (hts (.fieldLink RX2 22 "PolygonFrameModel" "fromY" "[I") (by decide +kernel)) (fun _ h9 => h9) rfl dX2_pass_68 ?_
            refine lv_iload_n hx hb dX2_pass_71 rfl (lv_at hl 1 rfl) ?_
            refine q_iald (k := (prN F k)) hx hb hK.1 hP 2 0 rfl rfl (Nat.lt_of_lt_of_le hp hF) (by decide) dX2_pass_72 ?_
            refine rd_i (va_runV (As := [.int (nI q), .int (fx (prN F k)), .int (fy (prN F k))]) ⟨hx, hb, hml, hown, hts⟩ (kX2_depth l D cI cZ m0 aP ax ay afx afy atx aty wd hg cap n (nI F) (nI (mpV cap tx ty q sd fx fy F k).1) (sd 0) (sd 1) (sd 2) (sd 3) q (fx (prN F k)) (fy (prN F k)) hq) (cwV 3 hts gX2_pass_X2_depth rfl rfl rfl (by decide +kernel) ⟨Nat.le_of_ble_eq_true rfl, Nat.le_of_ble_eq_true rfl⟩) (rd_preV (ci := 2) (q0 := 0) (hP.sub [0] rfl) hK rfl rfl) rfl rfl hl.1 rfl (lv_room (Nat.le_of_ble_eq_true rfl)) dX2_pass_73 ⟨Nat.zero_le _, Nat.zero_le _⟩) ?_
            refine lv_if_lt (tgt := 83) hx hb dX2_pass_76 (by decide) (fun c76 => ?_) (fun c76 => ?_)
            · skip
              refine lv_iconst (v := 0) hx hb dX2_pass_83 (by decide) ?_
              refine q_eq (show 0 = bI (gM q sd fx fy (prN F k)) from bI_ff (decide_eq_false (fun h => h c76))) ?_
              refine lv_istore (lv' := [(5, .int (bI (gM q sd fx fy (prN F k)))), (4, .int (bI (gM q sd fx fy k))), (3, .int (nI (prN F k))), (0, .ref m0), (1, .int (nI q)), (2, .int (nI k))]) hx hb dX2_pass_84 hl (by decide) rfl (fun ls hl => ?_)
              refine lv_iload hx hb dX2_pass_86 (lv_at hl 1 rfl) ?_
              refine lv_iload hx hb dX2_pass_88 (lv_at hl 0 rfl) ?_
              refine lv_icmp_eq (tgt := 122) hx hb dX2_pass_90 (by decide) (fun c90 => ?_) (fun c90 => ?_)
              · skip
                refine lv_iload hx hb dX2_pass_122 (lv_at hl 1 rfl) ?_
                refine lv_if_eq (tgt := 143) hx hb dX2_pass_124 (by decide) (fun c124 => ?_) (fun c124 => ?_)
                · skip
                  refine lv_iinc (v := (nI (k + 1))) (lv' := [(2, .int (nI (k + 1))), (5, .int (bI (gM q sd fx fy (prN F k)))), (4, .int (bI (gM q sd fx fy k))), (3, .int (nI (prN F k))), (0, .ref m0), (1, .int (nI q))]) hx hb dX2_pass_143 hl (k := 5) rfl (nI_1 _) (by decide) rfl (fun ls hl => ?_)
                  have e : (mpV cap tx ty q sd fx fy F k) = (mpV cap tx ty q sd fx fy F (k + 1)) := by rw [mpV, mpV, mpL, mpL, out_00 (bI_eq.mp c90) (bI_eq0.mp c124)]
                  refine lv_goto (tgt := 7) hx hb dX2_pass_146 (by decide) ?_
                  rw [e] at hP hD
                  exact ih (k + 1) (by omega) (by omega) H locs hP hD hS ls (lv_sub hl [4, 5, 0] rfl)
                · skip
                  refine lv_aload_n hx hb dX2_pass_127 rfl (lv_at hl 3 rfl) ?_
                  refine lv_aload_n hx hb dX2_pass_128 rfl (lv_at hl 3 rfl) ?_
                  refine va_get (D := D) (ci := 2) (v := .ref afx) (C := RX2) (T := TX2) (N := 17) hx hb hts nX2_pass_X2 hown hK.1 hP 0 rfl rfl 7 (by decide) (hts (.fieldLink RX2 19 "PolygonFrameModel" "fromX" "[I") (by decide +kernel)) (fun _ h9 => h9) rfl dX2_pass_129 ?_
                  refine lv_iload_n hx hb dX2_pass_132 rfl (lv_at hl 5 rfl) ?_
                  refine q_iald (k := k) hx hb hK.1 hP 1 0 rfl rfl (by omega) (by omega) dX2_pass_133 ?_
                  refine lv_aload_n hx hb dX2_pass_134 rfl (lv_at hl 3 rfl) ?_
                  refine va_get (D := D) (ci := 2) (v := .ref afy) (C := RX2) (T := TX2) (N := 17) hx hb hts nX2_pass_X2 hown hK.1 hP 0 rfl rfl 8 (by decide) (hts (.fieldLink RX2 22 "PolygonFrameModel" "fromY" "[I") (by decide +kernel)) (fun _ h9 => h9) rfl dX2_pass_135 ?_
                  refine lv_iload_n hx hb dX2_pass_138 rfl (lv_at hl 5 rfl) ?_
                  refine q_iald (k := k) hx hb hK.1 hP 2 0 rfl rfl (by omega) (by omega) dX2_pass_139 ?_
                  refine wr_v (wr := [(afx, .inl (cI, 60, .inl fx)), (afy, .inl (cI, 60, .inl fy))]) hP hD hS hA [0, 3, 4] [1, 2] rfl rfl (by decide) (by decide) (va_runV (As := [.int (fx k), .int (fy k)]) ⟨hx, hb, hml, hown, hts⟩ (kX2_add l D cI cZ H.size m0 aP ax ay afx afy atx aty wd hg cap n (nI F) (sd 0) (sd 1) (sd 2) (sd 3) (mpV cap tx ty q sd fx fy F k) (fx k) (fy k) (by omega) hc) (cwV 2 hts gX2_pass_X2_add rfl rfl rfl (by decide +kernel) ⟨Nat.le_of_ble_eq_true rfl, Nat.le_of_ble_eq_true rfl⟩) (wr_preV (ci := 2) (q0 := 0) (hP.sub [0, 3, 4] rfl) hK (hD.sub [0, 3, 4] (by decide) rfl) rfl rfl) rfl rfl hl.1 rfl (lv_room (Nat.le_of_ble_eq_true rfl)) dX2_pass_140 ⟨Nat.zero_le _, Nat.zero_le _⟩) (fun u2 H locs hw2 hP hD hS => ?_)
                  replace hP : va_P D vwCl [(m0, .inr (2, [.int (nI wd), .int (nI hg), .int (nI cap), .ref aP, .ref ax, .ref ay, .int (nI n), .ref afx, .ref afy, .ref atx, .ref aty, .int (nI F), .int (nI u2.1), .int (sd 0), .int (sd 1), .int (sd 2), .int (sd 3)])), (afx, .inl (cI, 60, .inl fx)), (afy, .inl (cI, 60, .inl fy)), (atx, .inl (cI, 60, .inl u2.2.1)), (aty, .inl (cI, 60, .inl u2.2.2))] H := hP.sub [2, 0, 1, 3, 4] rfl
                  replace hD : va_D A [(m0, .inr (2, [.int (nI wd), .int (nI hg), .int (nI cap), .ref aP, .ref ax, .ref ay, .int (nI n), .ref afx, .ref afy, .ref atx, .ref aty, .int (nI F), .int (nI u2.1), .int (sd 0), .int (sd 1), .int (sd 2), .int (sd 3)])), (afx, .inl (cI, 60, .inl fx)), (afy, .inl (cI, 60, .inl fy)), (atx, .inl (cI, 60, .inl u2.2.1)), (aty, .inl (cI, 60, .inl u2.2.2))] := hD.sub [2, 0, 1, 3, 4] (by decide) rfl
                  refine lv_iinc (v := (nI (k + 1))) (lv' := [(2, .int (nI (k + 1))), (5, .int (bI (gM q sd fx fy (prN F k)))), (4, .int (bI (gM q sd fx fy k))), (3, .int (nI (prN F k))), (0, .ref m0), (1, .int (nI q))]) hx hb dX2_pass_143 hl (k := 5) rfl (nI_1 _) (by decide) rfl (fun ls hl => ?_)
                  have e : u2 = (mpV cap tx ty q sd fx fy F (k + 1)) := by rw [mpV, mpL, out_01 (bI_eq.mp c90) (bI_ne c124), mpU_snoc]; rw [hw2]; rfl
                  refine lv_goto (tgt := 7) hx hb dX2_pass_146 (by decide) ?_
                  rw [e] at hP hD
                  exact ih (k + 1) (by omega) (by omega) H locs hP hD hS ls (lv_sub hl [4, 5, 0] rfl)
              · skip
                refine lv_aload_n hx hb dX2_pass_93 rfl (lv_at hl 3 rfl) ?_
                refine lv_iload_n hx hb dX2_pass_94 rfl (lv_at hl 4 rfl) ?_
                refine lv_aload_n hx hb dX2_pass_95 rfl (lv_at hl 3 rfl) ?_
                refine va_get (D := D) (ci := 2) (v := .ref afx) (C := RX2) (T := TX2) (N := 17) hx hb hts nX2_pass_X2 hown hK.1 hP 0 rfl rfl 7 (by decide) (hts (.fieldLink RX2 19 "PolygonFrameModel" "fromX" "[I") (by decide +kernel)) (fun _ h9 => h9) rfl dX2_pass_96 ?_
                refine lv_iload_n hx hb dX2_pass_99 rfl (lv_at hl 2 rfl) ?_
                refine q_iald (k := (prN F k)) hx hb hK.1 hP 1 0 rfl rfl (Nat.lt_of_lt_of_le hp hF) (by decide) dX2_pass_100 ?_
                refine lv_aload_n hx hb dX2_pass_101 rfl (lv_at hl 3 rfl) ?_
                refine va_get (D := D) (ci := 2) (v := .ref afy) (C := RX2) (T := TX2) (N := 17) hx hb hts nX2_pass_X2 hown hK.1 hP 0 rfl rfl 8 (by decide) (hts (.fieldLink RX2 22 "PolygonFrameModel" "fromY" "[I") (by decide +kernel)) (fun _ h9 => h9) rfl dX2_pass_102 ?_
                refine lv_iload_n hx hb dX2_pass_105 rfl (lv_at hl 2 rfl) ?_
                refine q_iald (k := (prN F k)) hx hb hK.1 hP 2 0 rfl rfl (Nat.lt_of_lt_of_le hp hF) (by decide) dX2_pass_106 ?_
                refine lv_aload_n hx hb dX2_pass_107 rfl (lv_at hl 3 rfl) ?_
                refine va_get (D := D) (ci := 2) (v := .ref afx) (C := RX2) (T := TX2) (N := 17) hx hb hts nX2_pass_X2 hown hK.1 hP 0 rfl rfl 7 (by decide) (hts (.fieldLink RX2 19 "PolygonFrameModel" "fromX" "[I") (by decide +kernel)) (fun _ h9 => h9) rfl dX2_pass_108 ?_
                refine lv_iload_n hx hb dX2_pass_111 rfl (lv_at hl 5 rfl) ?_
                refine q_iald (k := k) hx hb hK.1 hP 1 0 rfl rfl (by omega) (by omega) dX2_pass_112 ?_
                refine lv_aload_n hx hb dX2_pass_113 rfl (lv_at hl 3 rfl) ?_
                refine va_get (D := D) (ci := 2) (v := .ref afy) (C := RX2) (T := TX2) (N := 17) hx hb hts nX2_pass_X2 hown hK.1 hP 0 rfl rfl 8 (by decide) (hts (.fieldLink RX2 22 "PolygonFrameModel" "fromY" "[I") (by decide +kernel)) (fun _ h9 => h9) rfl dX2_pass_114 ?_
                refine lv_iload_n hx hb dX2_pass_117 rfl (lv_at hl 5 rfl) ?_
                refine q_iald (k := k) hx hb hK.1 hP 2 0 rfl rfl (by omega) (by omega) dX2_pass_118 ?_
                have hgg : ¬ gM q sd fx fy k = gM q sd fx fy (prN F k) := fun h => c90 (by rw [h])
                refine wr_v (wr := [(afx, .inl (cI, 60, .inl fx)), (afy, .inl (cI, 60, .inl fy))]) hP hD hS hA [0, 3, 4] [1, 2] rfl rfl (by decide) (by decide) (va_runV (As := [.int (nI q), .int (fx (prN F k)), .int (fy (prN F k)), .int (fx k), .int (fy k)]) ⟨hx, hb, hml, hown, hts⟩ (kX2_cut l D cI cZ H.size m0 aP ax ay afx afy atx aty wd hg cap n (nI F) sd (mpV cap tx ty q sd fx fy F k) q (fx (prN F k)) (fy (prN F k)) (fx k) (fy k) hq (gM_nx hgg).1 (gM_nx hgg).2 (by omega) hc) (cwV 5 hts gX2_pass_X2_cut rfl rfl rfl (by decide +kernel) ⟨Nat.le_of_ble_eq_true rfl, Nat.le_of_ble_eq_true rfl⟩) (wr_preV (ci := 2) (q0 := 0) (hP.sub [0, 3, 4] rfl) hK (hD.sub [0, 3, 4] (by decide) rfl) rfl rfl) rfl rfl hl.1 rfl (lv_room (Nat.le_of_ble_eq_true rfl)) dX2_pass_119 ⟨Nat.zero_le _, Nat.zero_le _⟩) (fun u1 H locs hw1 hP hD hS => ?_)
                replace hP : va_P D vwCl [(m0, .inr (2, [.int (nI wd), .int (nI hg), .int (nI cap), .ref aP, .ref ax, .ref ay, .int (nI n), .ref afx, .ref afy, .ref atx, .ref aty, .int (nI F), .int (nI u1.1), .int (sd 0), .int (sd 1), .int (sd 2), .int (sd 3)])), (afx, .inl (cI, 60, .inl fx)), (afy, .inl (cI, 60, .inl fy)), (atx, .inl (cI, 60, .inl u1.2.1)), (aty, .inl (cI, 60, .inl u1.2.2))] H := hP.sub [2, 0, 1, 3, 4] rfl
                replace hD : va_D A [(m0, .inr (2, [.int (nI wd), .int (nI hg), .int (nI cap), .ref aP, .ref ax, .ref ay, .int (nI n), .ref afx, .ref afy, .ref atx, .ref aty, .int (nI F), .int (nI u1.1), .int (sd 0), .int (sd 1), .int (sd 2), .int (sd 3)])), (afx, .inl (cI, 60, .inl fx)), (afy, .inl (cI, 60, .inl fy)), (atx, .inl (cI, 60, .inl u1.2.1)), (aty, .inl (cI, 60, .inl u1.2.2))] := hD.sub [2, 0, 1, 3, 4] (by decide) rfl
                have hu1 : u1.1 ≤ 1000 := by rw [hw1, adP_1]; omega
                refine lv_iload hx hb dX2_pass_122 (lv_at hl 1 rfl) ?_
                refine lv_if_eq (tgt := 143) hx hb dX2_pass_124 (by decide) (fun c124 => ?_) (fun c124 => ?_)
                · skip
                  refine lv_iinc (v := (nI (k + 1))) (lv' := [(2, .int (nI (k + 1))), (5, .int (bI (gM q sd fx fy (prN F k)))), (4, .int (bI (gM q sd fx fy k))), (3, .int (nI (prN F k))), (0, .ref m0), (1, .int (nI q))]) hx hb dX2_pass_143 hl (k := 5) rfl (nI_1 _) (by decide) rfl (fun ls hl => ?_)
                  have e : u1 = (mpV cap tx ty q sd fx fy F (k + 1)) := by rw [mpV, mpL, out_10 hgg (bI_eq0.mp c124), mpU_snoc]; rw [hw1]; rfl
                  refine lv_goto (tgt := 7) hx hb dX2_pass_146 (by decide) ?_
                  rw [e] at hP hD
                  exact ih (k + 1) (by omega) (by omega) H locs hP hD hS ls (lv_sub hl [4, 5, 0] rfl)
                · skip
                  refine lv_aload_n hx hb dX2_pass_127 rfl (lv_at hl 3 rfl) ?_
                  refine lv_aload_n hx hb dX2_pass_128 rfl (lv_at hl 3 rfl) ?_
                  refine va_get (D := D) (ci := 2) (v := .ref afx) (C := RX2) (T := TX2) (N := 17) hx hb hts nX2_pass_X2 hown hK.1 hP 0 rfl rfl 7 (by decide) (hts (.fieldLink RX2 19 "PolygonFrameModel" "fromX" "[I") (by decide +kernel)) (fun _ h9 => h9) rfl dX2_pass_129 ?_
                  refine lv_iload_n hx hb dX2_pass_132 rfl (lv_at hl 5 rfl) ?_
                  refine q_iald (k := k) hx hb hK.1 hP 1 0 rfl rfl (by omega) (by omega) dX2_pass_133 ?_
                  refine lv_aload_n hx hb dX2_pass_134 rfl (lv_at hl 3 rfl) ?_
                  refine va_get (D := D) (ci := 2) (v := .ref afy) (C := RX2) (T := TX2) (N := 17) hx hb hts nX2_pass_X2 hown hK.1 hP 0 rfl rfl 8 (by decide) (hts (.fieldLink RX2 22 "PolygonFrameModel" "fromY" "[I") (by decide +kernel)) (fun _ h9 => h9) rfl dX2_pass_135 ?_
                  refine lv_iload_n hx hb dX2_pass_138 rfl (lv_at hl 5 rfl) ?_
                  refine q_iald (k := k) hx hb hK.1 hP 2 0 rfl rfl (by omega) (by omega) dX2_pass_139 ?_
                  refine wr_v (wr := [(afx, .inl (cI, 60, .inl fx)), (afy, .inl (cI, 60, .inl fy))]) hP hD hS hA [0, 3, 4] [1, 2] rfl rfl (by decide) (by decide) (va_runV (As := [.int (fx k), .int (fy k)]) ⟨hx, hb, hml, hown, hts⟩ (kX2_add l D cI cZ H.size m0 aP ax ay afx afy atx aty wd hg cap n (nI F) (sd 0) (sd 1) (sd 2) (sd 3) u1 (fx k) (fy k) hu1 hc) (cwV 2 hts gX2_pass_X2_add rfl rfl rfl (by decide +kernel) ⟨Nat.le_of_ble_eq_true rfl, Nat.le_of_ble_eq_true rfl⟩) (wr_preV (ci := 2) (q0 := 0) (hP.sub [0, 3, 4] rfl) hK (hD.sub [0, 3, 4] (by decide) rfl) rfl rfl) rfl rfl hl.1 rfl (lv_room (Nat.le_of_ble_eq_true rfl)) dX2_pass_140 ⟨Nat.zero_le _, Nat.zero_le _⟩) (fun u2 H locs hw2 hP hD hS => ?_)
                  replace hP : va_P D vwCl [(m0, .inr (2, [.int (nI wd), .int (nI hg), .int (nI cap), .ref aP, .ref ax, .ref ay, .int (nI n), .ref afx, .ref afy, .ref atx, .ref aty, .int (nI F), .int (nI u2.1), .int (sd 0), .int (sd 1), .int (sd 2), .int (sd 3)])), (afx, .inl (cI, 60, .inl fx)), (afy, .inl (cI, 60, .inl fy)), (atx, .inl (cI, 60, .inl u2.2.1)), (aty, .inl (cI, 60, .inl u2.2.2))] H := hP.sub [2, 0, 1, 3, 4] rfl
                  replace hD : va_D A [(m0, .inr (2, [.int (nI wd), .int (nI hg), .int (nI cap), .ref aP, .ref ax, .ref ay, .int (nI n), .ref afx, .ref afy, .ref atx, .ref aty, .int (nI F), .int (nI u2.1), .int (sd 0), .int (sd 1), .int (sd 2), .int (sd 3)])), (afx, .inl (cI, 60, .inl fx)), (afy, .inl (cI, 60, .inl fy)), (atx, .inl (cI, 60, .inl u2.2.1)), (aty, .inl (cI, 60, .inl u2.2.2))] := hD.sub [2, 0, 1, 3, 4] (by decide) rfl
                  refine lv_iinc (v := (nI (k + 1))) (lv' := [(2, .int (nI (k + 1))), (5, .int (bI (gM q sd fx fy (prN F k)))), (4, .int (bI (gM q sd fx fy k))), (3, .int (nI (prN F k))), (0, .ref m0), (1, .int (nI q))]) hx hb dX2_pass_143 hl (k := 5) rfl (nI_1 _) (by decide) rfl (fun ls hl => ?_)
                  have e : u2 = (mpV cap tx ty q sd fx fy F (k + 1)) := by rw [mpV, mpL, out_11 hgg (bI_ne c124), mpU_snoc, mpU_snoc]; rw [hw2, hw1]; rfl
                  refine lv_goto (tgt := 7) hx hb dX2_pass_146 (by decide) ?_
                  rw [e] at hP hD
                  exact ih (k + 1) (by omega) (by omega) H locs hP hD hS ls (lv_sub hl [4, 5, 0] rfl)
            · skip
              refine lv_iconst (v := 1) hx hb dX2_pass_79 (by decide) ?_
              refine lv_goto (tgt := 84) hx hb dX2_pass_80 (by decide) ?_
              refine q_eq (show 1 = bI (gM q sd fx fy (prN F k)) from bI_tt (decide_eq_true c76)) ?_
              refine lv_istore (lv' := [(5, .int (bI (gM q sd fx fy (prN F k)))), (4, .int (bI (gM q sd fx fy k))), (3, .int (nI (prN F k))), (0, .ref m0), (1, .int (nI q)), (2, .int (nI k))]) hx hb dX2_pass_84 hl (by decide) rfl (fun ls hl => ?_)
              refine lv_iload hx hb dX2_pass_86 (lv_at hl 1 rfl) ?_
              refine lv_iload hx hb dX2_pass_88 (lv_at hl 0 rfl) ?_
              refine lv_icmp_eq (tgt := 122) hx hb dX2_pass_90 (by decide) (fun c90 => ?_) (fun c90 => ?_)
              · skip
                refine lv_iload hx hb dX2_pass_122 (lv_at hl 1 rfl) ?_
                refine lv_if_eq (tgt := 143) hx hb dX2_pass_124 (by decide) (fun c124 => ?_) (fun c124 => ?_)
                · skip
                  refine lv_iinc (v := (nI (k + 1))) (lv' := [(2, .int (nI (k + 1))), (5, .int (bI (gM q sd fx fy (prN F k)))), (4, .int (bI (gM q sd fx fy k))), (3, .int (nI (prN F k))), (0, .ref m0), (1, .int (nI q))]) hx hb dX2_pass_143 hl (k := 5) rfl (nI_1 _) (by decide) rfl (fun ls hl => ?_)
                  have e : (mpV cap tx ty q sd fx fy F k) = (mpV cap tx ty q sd fx fy F (k + 1)) := by rw [mpV, mpV, mpL, mpL, out_00 (bI_eq.mp c90) (bI_eq0.mp c124)]
                  refine lv_goto (tgt := 7) hx hb dX2_pass_146 (by decide) ?_
                  rw [e] at hP hD
                  exact ih (k + 1) (by omega) (by omega) H locs hP hD hS ls (lv_sub hl [4, 5, 0] rfl)
                · skip
                  refine lv_aload_n hx hb dX2_pass_127 rfl (lv_at hl 3 rfl) ?_
                  refine lv_aload_n hx hb dX2_pass_128 rfl (lv_at hl 3 rfl) ?_
                  refine va_get (D := D) (ci := 2) (v := .ref afx) (C := RX2) (T := TX2) (N := 17) hx hb hts nX2_pass_X2 hown hK.1 hP 0 rfl rfl 7 (by decide) (hts (.fieldLink RX2 19 "PolygonFrameModel" "fromX" "[I") (by decide +kernel)) (fun _ h9 => h9) rfl dX2_pass_129 ?_
                  refine lv_iload_n hx hb dX2_pass_132 rfl (lv_at hl 5 rfl) ?_
                  refine q_iald (k := k) hx hb hK.1 hP 1 0 rfl rfl (by omega) (by omega) dX2_pass_133 ?_
                  refine lv_aload_n hx hb dX2_pass_134 rfl (lv_at hl 3 rfl) ?_
                  refine va_get (D := D) (ci := 2) (v := .ref afy) (C := RX2) (T := TX2) (N := 17) hx hb hts nX2_pass_X2 hown hK.1 hP 0 rfl rfl 8 (by decide) (hts (.fieldLink RX2 22 "PolygonFrameModel" "fromY" "[I") (by decide +kernel)) (fun _ h9 => h9) rfl dX2_pass_135 ?_
                  refine lv_iload_n hx hb dX2_pass_138 rfl (lv_at hl 5 rfl) ?_
                  refine q_iald (k := k) hx hb hK.1 hP 2 0 rfl rfl (by omega) (by omega) dX2_pass_139 ?_
                  refine wr_v (wr := [(afx, .inl (cI, 60, .inl fx)), (afy, .inl (cI, 60, .inl fy))]) hP hD hS hA [0, 3, 4] [1, 2] rfl rfl (by decide) (by decide) (va_runV (As := [.int (fx k), .int (fy k)]) ⟨hx, hb, hml, hown, hts⟩ (kX2_add l D cI cZ H.size m0 aP ax ay afx afy atx aty wd hg cap n (nI F) (sd 0) (sd 1) (sd 2) (sd 3) (mpV cap tx ty q sd fx fy F k) (fx k) (fy k) (by omega) hc) (cwV 2 hts gX2_pass_X2_add rfl rfl rfl (by decide +kernel) ⟨Nat.le_of_ble_eq_true rfl, Nat.le_of_ble_eq_true rfl⟩) (wr_preV (ci := 2) (q0 := 0) (hP.sub [0, 3, 4] rfl) hK (hD.sub [0, 3, 4] (by decide) rfl) rfl rfl) rfl rfl hl.1 rfl (lv_room (Nat.le_of_ble_eq_true rfl)) dX2_pass_140 ⟨Nat.zero_le _, Nat.zero_le _⟩) (fun u2 H locs hw2 hP hD hS => ?_)
                  replace hP : va_P D vwCl [(m0, .inr (2, [.int (nI wd), .int (nI hg), .int (nI cap), .ref aP, .ref ax, .ref ay, .int (nI n), .ref afx, .ref afy, .ref atx, .ref aty, .int (nI F), .int (nI u2.1), .int (sd 0), .int (sd 1), .int (sd 2), .int (sd 3)])), (afx, .inl (cI, 60, .inl fx)), (afy, .inl (cI, 60, .inl fy)), (atx, .inl (cI, 60, .inl u2.2.1)), (aty, .inl (cI, 60, .inl u2.2.2))] H := hP.sub [2, 0, 1, 3, 4] rfl
                  replace hD : va_D A [(m0, .inr (2, [.int (nI wd), .int (nI hg), .int (nI cap), .ref aP, .ref ax, .ref ay, .int (nI n), .ref afx, .ref afy, .ref atx, .ref aty, .int (nI F), .int (nI u2.1), .int (sd 0), .int (sd 1), .int (sd 2), .int (sd 3)])), (afx, .inl (cI, 60, .inl fx)), (afy, .inl (cI, 60, .inl fy)), (atx, .inl (cI, 60, .inl u2.2.1)), (aty, .inl (cI, 60, .inl u2.2.2))] := hD.sub [2, 0, 1, 3, 4] (by decide) rfl
                  refine lv_iinc (v := (nI (k + 1))) (lv' := [(2, .int (nI (k + 1))), (5, .int (bI (gM q sd fx fy (prN F k)))), (4, .int (bI (gM q sd fx fy k))), (3, .int (nI (prN F k))), (0, .ref m0), (1, .int (nI q))]) hx hb dX2_pass_143 hl (k := 5) rfl (nI_1 _) (by decide) rfl (fun ls hl => ?_)
                  have e : u2 = (mpV cap tx ty q sd fx fy F (k + 1)) := by rw [mpV, mpL, out_01 (bI_eq.mp c90) (bI_ne c124), mpU_snoc]; rw [hw2]; rfl
                  refine lv_goto (tgt := 7) hx hb dX2_pass_146 (by decide) ?_
                  rw [e] at hP hD
                  exact ih (k + 1) (by omega) (by omega) H locs hP hD hS ls (lv_sub hl [4, 5, 0] rfl)
              · skip
                refine lv_aload_n hx hb dX2_pass_93 rfl (lv_at hl 3 rfl) ?_
                refine lv_iload_n hx hb dX2_pass_94 rfl (lv_at hl 4 rfl) ?_
                refine lv_aload_n hx hb dX2_pass_95 rfl (lv_at hl 3 rfl) ?_
                refine va_get (D := D) (ci := 2) (v := .ref afx) (C := RX2) (T := TX2) (N := 17) hx hb hts nX2_pass_X2 hown hK.1 hP 0 rfl rfl 7 (by decide) (hts (.fieldLink RX2 19 "PolygonFrameModel" "fromX" "[I") (by decide +kernel)) (fun _ h9 => h9) rfl dX2_pass_96 ?_
                refine lv_iload_n hx hb dX2_pass_99 rfl (lv_at hl 2 rfl) ?_
                refine q_iald (k := (prN F k)) hx hb hK.1 hP 1 0 rfl rfl (Nat.lt_of_lt_of_le hp hF) (by decide) dX2_pass_100 ?_
                refine lv_aload_n hx hb dX2_pass_101 rfl (lv_at hl 3 rfl) ?_
                refine va_get (D := D) (ci := 2) (v := .ref afy) (C := RX2) (T := TX2) (N := 17) hx hb hts nX2_pass_X2 hown hK.1 hP 0 rfl rfl 8 (by decide) (hts (.fieldLink RX2 22 "PolygonFrameModel" "fromY" "[I") (by decide +kernel)) (fun _ h9 => h9) rfl dX2_pass_102 ?_
                refine lv_iload_n hx hb dX2_pass_105 rfl (lv_at hl 2 rfl) ?_
                refine q_iald (k := (prN F k)) hx hb hK.1 hP 2 0 rfl rfl (Nat.lt_of_lt_of_le hp hF) (by decide) dX2_pass_106 ?_
                refine lv_aload_n hx hb dX2_pass_107 rfl (lv_at hl 3 rfl) ?_
                refine va_get (D := D) (ci := 2) (v := .ref afx) (C := RX2) (T := TX2) (N := 17) hx hb hts nX2_pass_X2 hown hK.1 hP 0 rfl rfl 7 (by decide) (hts (.fieldLink RX2 19 "PolygonFrameModel" "fromX" "[I") (by decide +kernel)) (fun _ h9 => h9) rfl dX2_pass_108 ?_
                refine lv_iload_n hx hb dX2_pass_111 rfl (lv_at hl 5 rfl) ?_
                refine q_iald (k := k) hx hb hK.1 hP 1 0 rfl rfl (by omega) (by omega) dX2_pass_112 ?_
                refine lv_aload_n hx hb dX2_pass_113 rfl (lv_at hl 3 rfl) ?_
                refine va_get (D := D) (ci := 2) (v := .ref afy) (C := RX2) (T := TX2) (N := 17) hx hb hts nX2_pass_X2 hown hK.1 hP 0 rfl rfl 8 (by decide) (hts (.fieldLink RX2 22 "PolygonFrameModel" "fromY" "[I") (by decide +kernel)) (fun _ h9 => h9) rfl dX2_pass_114 ?_
                refine lv_iload_n hx hb dX2_pass_117 rfl (lv_at hl 5 rfl) ?_
                refine q_iald (k := k) hx hb hK.1 hP 2 0 rfl rfl (by omega) (by omega) dX2_pass_118 ?_
                have hgg : ¬ gM q sd fx fy k = gM q sd fx fy (prN F k) := fun h => c90 (by rw [h])
                refine wr_v (wr := [(afx, .inl (cI, 60, .inl fx)), (afy, .inl (cI, 60, .inl fy))]) hP hD hS hA [0, 3, 4] [1, 2] rfl rfl (by decide) (by decide) (va_runV (As := [.int (nI q), .int (fx (prN F k)), .int (fy (prN F k)), .int (fx k), .int (fy k)]) ⟨hx, hb, hml, hown, hts⟩ (kX2_cut l D cI cZ H.size m0 aP ax ay afx afy atx aty wd hg cap n (nI F) sd (mpV cap tx ty q sd fx fy F k) q (fx (prN F k)) (fy (prN F k)) (fx k) (fy k) hq (gM_nx hgg).1 (gM_nx hgg).2 (by omega) hc) (cwV 5 hts gX2_pass_X2_cut rfl rfl rfl (by decide +kernel) ⟨Nat.le_of_ble_eq_true rfl, Nat.le_of_ble_eq_true rfl⟩) (wr_preV (ci := 2) (q0 := 0) (hP.sub [0, 3, 4] rfl) hK (hD.sub [0, 3, 4] (by decide) rfl) rfl rfl) rfl rfl hl.1 rfl (lv_room (Nat.le_of_ble_eq_true rfl)) dX2_pass_119 ⟨Nat.zero_le _, Nat.zero_le _⟩) (fun u1 H locs hw1 hP hD hS => ?_)
                replace hP : va_P D vwCl [(m0, .inr (2, [.int (nI wd), .int (nI hg), .int (nI cap), .ref aP, .ref ax, .ref ay, .int (nI n), .ref afx, .ref afy, .ref atx, .ref aty, .int (nI F), .int (nI u1.1), .int (sd 0), .int (sd 1), .int (sd 2), .int (sd 3)])), (afx, .inl (cI, 60, .inl fx)), (afy, .inl (cI, 60, .inl fy)), (atx, .inl (cI, 60, .inl u1.2.1)), (aty, .inl (cI, 60, .inl u1.2.2))] H := hP.sub [2, 0, 1, 3, 4] rfl
                replace hD : va_D A [(m0, .inr (2, [.int (nI wd), .int (nI hg), .int (nI cap), .ref aP, .ref ax, .ref ay, .int (nI n), .ref afx, .ref afy, .ref atx, .ref aty, .int (nI F), .int (nI u1.1), .int (sd 0), .int (sd 1), .int (sd 2), .int (sd 3)])), (afx, .inl (cI, 60, .inl fx)), (afy, .inl (cI, 60, .inl fy)), (atx, .inl (cI, 60, .inl u1.2.1)), (aty, .inl (cI, 60, .inl u1.2.2))] := hD.sub [2, 0, 1, 3, 4] (by decide) rfl
                have hu1 : u1.1 ≤ 1000 := by rw [hw1, adP_1]; omega
                refine lv_iload hx hb dX2_pass_122 (lv_at hl 1 rfl) ?_
                refine lv_if_eq (tgt := 143) hx hb dX2_pass_124 (by decide) (fun c124 => ?_) (fun c124 => ?_)
                · skip
                  refine lv_iinc (v := (nI (k + 1))) (lv' := [(2, .int (nI (k + 1))), (5, .int (bI (gM q sd fx fy (prN F k)))), (4, .int (bI (gM q sd fx fy k))), (3, .int (nI (prN F k))), (0, .ref m0), (1, .int (nI q))]) hx hb dX2_pass_143 hl (k := 5) rfl (nI_1 _) (by decide) rfl (fun ls hl => ?_)
                  have e : u1 = (mpV cap tx ty q sd fx fy F (k + 1)) := by rw [mpV, mpL, out_10 hgg (bI_eq0.mp c124), mpU_snoc]; rw [hw1]; rfl
                  refine lv_goto (tgt := 7) hx hb dX2_pass_146 (by decide) ?_
                  rw [e] at hP hD
                  exact ih (k + 1) (by omega) (by omega) H locs hP hD hS ls (lv_sub hl [4, 5, 0] rfl)
                · skip
                  refine lv_aload_n hx hb dX2_pass_127 rfl (lv_at hl 3 rfl) ?_
                  refine lv_aload_n hx hb dX2_pass_128 rfl (lv_at hl 3 rfl) ?_
                  refine va_get (D := D) (ci := 2) (v := .ref afx) (C := RX2) (T := TX2) (N := 17) hx hb hts nX2_pass_X2 hown hK.1 hP 0 rfl rfl 7 (by decide) (hts (.fieldLink RX2 19 "PolygonFrameModel" "fromX" "[I") (by decide +kernel)) (fun _ h9 => h9) rfl dX2_pass_129 ?_
                  refine lv_iload_n hx hb dX2_pass_132 rfl (lv_at hl 5 rfl) ?_
                  refine q_iald (k := k) hx hb hK.1 hP 1 0 rfl rfl (by omega) (by omega) dX2_pass_133 ?_
                  refine lv_aload_n hx hb dX2_pass_134 rfl (lv_at hl 3 rfl) ?_
                  refine va_get (D := D) (ci := 2) (v := .ref afy) (C := RX2) (T := TX2) (N := 17) hx hb hts nX2_pass_X2 hown hK.1 hP 0 rfl rfl 8 (by decide) (hts (.fieldLink RX2 22 "PolygonFrameModel" "fromY" "[I") (by decide +kernel)) (fun _ h9 => h9) rfl dX2_pass_135 ?_
                  refine lv_iload_n hx hb dX2_pass_138 rfl (lv_at hl 5 rfl) ?_
                  refine q_iald (k := k) hx hb hK.1 hP 2 0 rfl rfl (by omega) (by omega) dX2_pass_139 ?_
                  refine wr_v (wr := [(afx, .inl (cI, 60, .inl fx)), (afy, .inl (cI, 60, .inl fy))]) hP hD hS hA [0, 3, 4] [1, 2] rfl rfl (by decide) (by decide) (va_runV (As := [.int (fx k), .int (fy k)]) ⟨hx, hb, hml, hown, hts⟩ (kX2_add l D cI cZ H.size m0 aP ax ay afx afy atx aty wd hg cap n (nI F) (sd 0) (sd 1) (sd 2) (sd 3) u1 (fx k) (fy k) hu1 hc) (cwV 2 hts gX2_pass_X2_add rfl rfl rfl (by decide +kernel) ⟨Nat.le_of_ble_eq_true rfl, Nat.le_of_ble_eq_true rfl⟩) (wr_preV (ci := 2) (q0 := 0) (hP.sub [0, 3, 4] rfl) hK (hD.sub [0, 3, 4] (by decide) rfl) rfl rfl) rfl rfl hl.1 rfl (lv_room (Nat.le_of_ble_eq_true rfl)) dX2_pass_140 ⟨Nat.zero_le _, Nat.zero_le _⟩) (fun u2 H locs hw2 hP hD hS => ?_)
                  replace hP : va_P D vwCl [(m0, .inr (2, [.int (nI wd), .int (nI hg), .int (nI cap), .ref aP, .ref ax, .ref ay, .int (nI n), .ref afx, .ref afy, .ref atx, .ref aty, .int (nI F), .int (nI u2.1), .int (sd 0), .int (sd 1), .int (sd 2), .int (sd 3)])), (afx, .inl (cI, 60, .inl fx)), (afy, .inl (cI, 60, .inl fy)), (atx, .inl (cI, 60, .inl u2.2.1)), (aty, .inl (cI, 60, .inl u2.2.2))] H := hP.sub [2, 0, 1, 3, 4] rfl
                  replace hD : va_D A [(m0, .inr (2, [.int (nI wd), .int (nI hg), .int (nI cap), .ref aP, .ref ax, .ref ay, .int (nI n), .ref afx, .ref afy, .ref atx, .ref aty, .int (nI F), .int (nI u2.1), .int (sd 0), .int (sd 1), .int (sd 2), .int (sd 3)])), (afx, .inl (cI, 60, .inl fx)), (afy, .inl (cI, 60, .inl fy)), (atx, .inl (cI, 60, .inl u2.2.1)), (aty, .inl (cI, 60, .inl u2.2.2))] := hD.sub [2, 0, 1, 3, 4] (by decide) rfl
                  refine lv_iinc (v := (nI (k + 1))) (lv' := [(2, .int (nI (k + 1))), (5, .int (bI (gM q sd fx fy (prN F k)))), (4, .int (bI (gM q sd fx fy k))), (3, .int (nI (prN F k))), (0, .ref m0), (1, .int (nI q))]) hx hb dX2_pass_143 hl (k := 5) rfl (nI_1 _) (by decide) rfl (fun ls hl => ?_)
                  have e : u2 = (mpV cap tx ty q sd fx fy F (k + 1)) := by rw [mpV, mpL, out_11 hgg (bI_ne c124), mpU_snoc, mpU_snoc]; rw [hw2, hw1]; rfl
                  refine lv_goto (tgt := 7) hx hb dX2_pass_146 (by decide) ?_
                  rw [e] at hP hD
                  exact ih (k + 1) (by omega) (by omega) H locs hP hD hS ls (lv_sub hl [4, 5, 0] rfl)
  refine lv_aload_n hx hb dX2_pass_0 rfl (lv_at hl 0 rfl) ?_
  refine lv_iconst (v := 0) hx hb dX2_pass_1 (by decide) ?_
  refine va_put (D := D) (ci := 2) (v := .int 0) (ty := .int) (C := RX2) (T := TX2) (N := 17) hx hb hts nX2_pass_X2 tyX2 tyX2_ok nmX2 hown hK.1 hP hD hS 0 rfl rfl 12 (by decide) (hts (.fieldLink RX2 64 "PolygonFrameModel" "to" "I") (by decide +kernel)) (fun _ h9 => h9) rfl (tyX2_ok 12 (by decide)) rfl rfl (Nat.le_of_ble_eq_true rfl) dX2_pass_2 (fun H locs hP hD hS => ?_)
  have hP : va_P D vwCl [(m0, .inr (2, [.int (nI wd), .int (nI hg), .int (nI cap), .ref aP, .ref ax, .ref ay, .int (nI n), .ref afx, .ref afy, .ref atx, .ref aty, .int (nI F), .int 0, .int (sd 0), .int (sd 1), .int (sd 2), .int (sd 3)])), (afx, .inl (cI, 60, .inl fx)), (afy, .inl (cI, 60, .inl fy)), (atx, .inl (cI, 60, .inl tx)), (aty, .inl (cI, 60, .inl ty))] H := hP
  have hD : va_D A [(m0, .inr (2, [.int (nI wd), .int (nI hg), .int (nI cap), .ref aP, .ref ax, .ref ay, .int (nI n), .ref afx, .ref afy, .ref atx, .ref aty, .int (nI F), .int 0, .int (sd 0), .int (sd 1), .int (sd 2), .int (sd 3)])), (afx, .inl (cI, 60, .inl fx)), (afy, .inl (cI, 60, .inl fy)), (atx, .inl (cI, 60, .inl tx)), (aty, .inl (cI, 60, .inl ty))] := hD
  refine lv_iconst (v := 0) hx hb dX2_pass_5 (by decide) ?_
  refine lv_istore_n (lv' := [(2, .int 0), (0, .ref m0), (1, .int (nI q))]) hx hb dX2_pass_6 rfl hl (by decide) rfl (fun ls hl => ?_)
  exact LOOP (F + 1) 0 (Nat.zero_le _) (by omega) H locs hP hD hS ls (lv_sub hl [1, 2, 0] rfl)
end
section
/-! THE CLASS'S PASS, by x and by y. -/
def psV (cap : Nat) (tx ty : Nat → Int32) (q : Nat) (s : Int32) (fx fy : Nat → Int32) (n k : Nat) : Nat × (Nat → Int32) × (Nat → Int32) := mpU cap tx ty (psL q s fx fy n k)
theorem psV_1 {cap : Nat} {tx ty : Nat → Int32} {q : Nat} {s : Int32} {fx fy : Nat → Int32} {n k : Nat} : (psV cap tx ty q s fx fy n k).1 = (psL q s fx fy n k).length := mpU_1 _ _ _ _
section PS
variable {q : Nat} {s : Int32} {fx fy : Nat → Int32} {n k : Nat}
theorem ps_cut (h : ¬ gV q s fx fy k = gV q s fx fy (prN n k)) (hk : k < n) : (psL q s fx fy n k).length < (psL q s fx fy n n).length := Nat.lt_of_lt_of_le (out_cutlt h) (out_mono hk)
theorem ps_good1 (h : ¬ gV q s fx fy k = gV q s fx fy (prN n k)) (h2 : gV q s fx fy k = true) (hk : k < n) : (psL q s fx fy n k).length + 1 < (psL q s fx fy n n).length := Nat.lt_of_lt_of_le (out_goodlt h h2) (out_mono hk)
theorem ps_good0 (h2 : gV q s fx fy k = true) (hk : k < n) : (psL q s fx fy n k).length < (psL q s fx fy n n).length := Nat.lt_of_lt_of_le (out_goodlt0 h2) (out_mono hk)
end PS
theorem nX1_pass_X1 : ∀ w ∈ wsX10, w ∈ wsX1_pass := fun w h => List.mem_cons_of_mem _ (List.mem_append_left _ (List.mem_append_right _ h))
theorem nX1_pass_X0 : ∀ w ∈ wsX00, w ∈ wsX1_pass := fun w h => List.mem_cons_of_mem _ (List.mem_append_right _ h)
set_option maxHeartbeats 4000000 in
set_option maxRecDepth 100000 in
theorem kX1_passX (l : Launch) (D : va_G) (cI cZ : ClassId) (sz : Nat) (p0 aC aT aS rP rO rE wd hg : Nat) (rF afx afy rT atx aty n cap : Nat) (tc : Int32) (sd fx fy tx ty : Nat → Int32) (q : Nat) (hq : q < 4) (hq2 : q < 2) (hn : n ≤ cap) (hc : cap ≤ 60) : Met l yX1_pass wsX1_pass ({ frames := 2, cells := 0, slots := 0, locals := 80 }) (va_Pc [.ref p0, .ref rF, .ref rT, .int (nI q)] (wrP D cI cZ sz [(p0, .inr (1, [.int (nI wd), .int (nI hg), .ref aC, .ref aT, .ref aS, .ref rP, .ref rO, .ref rE])), (aS, .inl (cI, 4, .inl sd)), (rF, .inr (0, [.ref afx, .ref afy, .int (nI n)])), (afx, .inl (cI, cap, .inl fx)), (afy, .inl (cI, cap, .inl fy)), (rT, .inr (0, [.ref atx, .ref aty, .int tc])), (atx, .inl (cI, cap, .inl tx)), (aty, .inl (cI, cap, .inl ty))])) (va_Qi (S := Nat × (Nat → Int32) × (Nat → Int32)) (fun r u => (r = 1 ∧ (psL q (sd q) fx fy n n).length ≤ cap ∧ u = (psV cap tx ty q (sd q) fx fy n n)) ∨ (r = 0 ∧ cap < (psL q (sd q) fx fy n n).length)) (wrB D [(p0, .inr (1, [.int (nI wd), .int (nI hg), .ref aC, .ref aT, .ref aS, .ref rP, .ref rO, .ref rE])), (aS, .inl (cI, 4, .inl sd)), (rF, .inr (0, [.ref afx, .ref afy, .int (nI n)])), (afx, .inl (cI, cap, .inl fx)), (afy, .inl (cI, cap, .inl fy)), (rT, .inr (0, [.ref atx, .ref aty, .int tc])), (atx, .inl (cI, cap, .inl tx)), (aty, .inl (cI, cap, .inl ty))] sz (fun z => [(p0, .inr (1, [.int (nI wd), .int (nI hg), .ref aC, .ref aT, .ref aS, .ref rP, .ref rO, .ref rE])), (aS, .inl (cI, 4, .inl sd)), (rF, .inr (0, [.ref afx, .ref afy, .int (nI n)])), (afx, .inl (cI, cap, .inl fx)), (afy, .inl (cI, cap, .inl fy)), (rT, .inr (0, [.ref atx, .ref aty, .int (nI z.1)])), (atx, .inl (cI, cap, .inl z.2.1)), (aty, .inl (cI, cap, .inl z.2.2))])) (va_A [(p0, .inr (1, [.int (nI wd), .int (nI hg), .ref aC, .ref aT, .ref aS, .ref rP, .ref rO, .ref rE])), (aS, .inl (cI, 4, .inl sd)), (rF, .inr (0, [.ref afx, .ref afy, .int (nI n)])), (afx, .inl (cI, cap, .inl fx)), (afy, .inl (cI, cap, .inl fy)), (rT, .inr (0, [.ref atx, .ref aty, .int tc])), (atx, .inl (cI, cap, .inl tx)), (aty, .inl (cI, cap, .inl ty))] sz)) 0 0 (va_A [(p0, .inr (1, [.int (nI wd), .int (nI hg), .ref aC, .ref aT, .ref aS, .ref rP, .ref rO, .ref rE])), (aS, .inl (cI, 4, .inl sd)), (rF, .inr (0, [.ref afx, .ref afy, .int (nI n)])), (afx, .inl (cI, cap, .inl fx)), (afy, .inl (cI, cap, .inl fy)), (rT, .inr (0, [.ref atx, .ref aty, .int tc])), (atx, .inl (cI, cap, .inl tx)), (aty, .inl (cI, cap, .inl ty))] sz) := by
  refine Met.ofW (cc := cX1_pass) (maxL := 12) (ret := (some .boolean)) (by decide) rfl ?_
  intro p e s m args below meth c s₁ B hml hv
  obtain ⟨rfl, hsz, hP, hK, hD0⟩ := hv
  have hx := B.exec
  have hb := B.bytes
  have hr := B.returns
  have hts := atoms_spec (ws := wsX1_pass) B.pre
  have hown : s.vm.findClass RX1 = some m.cls := findClass_of_methodNamed B.named
  have hlocks := B.notSynchronized
  subst hsz
  have hD := hD0.self (sz := s.heap.size)
  generalize hAe : va_A [(p0, .inr (1, [.int (nI wd), .int (nI hg), .ref aC, .ref aT, .ref aS, .ref rP, .ref rO, .ref rE])), (aS, .inl (cI, 4, .inl sd)), (rF, .inr (0, [.ref afx, .ref afy, .int (nI n)])), (afx, .inl (cI, cap, .inl fx)), (afy, .inl (cI, cap, .inl fy)), (rT, .inr (0, [.ref atx, .ref aty, .int tc])), (atx, .inl (cI, cap, .inl tx)), (aty, .inl (cI, cap, .inl ty))] s.heap.size = A at hD ⊢
  have hA : ∀ q : Nat, s.heap.size ≤ q → A q := fun q h => by rw [← hAe]; exact Or.inr h
  have hS : va_S A s.heap s.heap [] := va_S.rf
  have hP : va_P D vwCl [(p0, .inr (1, [.int (nI wd), .int (nI hg), .ref aC, .ref aT, .ref aS, .ref rP, .ref rO, .ref rE])), (aS, .inl (cI, 4, .inl sd)), (rF, .inr (0, [.ref afx, .ref afy, .int (nI n)])), (afx, .inl (cI, cap, .inl fx)), (afy, .inl (cI, cap, .inl fy)), (rT, .inr (0, [.ref atx, .ref aty, .int tc])), (atx, .inl (cI, cap, .inl tx)), (aty, .inl (cI, cap, .inl ty))] s.heap := hP
  have hl := lv_entry ([.ref p0, .ref rF, .ref rT, .int (nI q)]) (n := 12) (Nat.le_of_ble_eq_true rfl)
  rw [lg_entry_eq]
  generalize (lg_sl ([.ref p0, .ref rF, .ref rT, .int (nI q)]) ++ List.replicate (12 - (lg_sl ([.ref p0, .ref rF, .ref rT, .int (nI q)])).length) Slot.unset).toArray = ls at hl ⊢
  have hl : lv_has ls 12 [(0, .ref p0), (1, .ref rF), (2, .ref rT), (3, .int (nI q))] := hl
  have LOOP : ∀ (j k : Nat), k ≤ n → n < k + j → ∀ (b8 : Int32), (k < n → b8 = nI (prN n k)) → (psL q (sd q) fx fy n k).length ≤ cap → ∀ (H : Heap) (locs : List Loc), va_P D vwCl [(p0, .inr (1, [.int (nI wd), .int (nI hg), .ref aC, .ref aT, .ref aS, .ref rP, .ref rO, .ref rE])), (aS, .inl (cI, 4, .inl sd)), (rF, .inr (0, [.ref afx, .ref afy, .int (nI n)])), (afx, .inl (cI, cap, .inl fx)), (afy, .inl (cI, cap, .inl fy)), (rT, .inr (0, [.ref atx, .ref aty, .int (nI (psV cap tx ty q (sd q) fx fy n k).1)])), (atx, .inl (cI, cap, .inl ((psV cap tx ty q (sd q) fx fy n k).2.1))), (aty, .inl (cI, cap, .inl ((psV cap tx ty q (sd q) fx fy n k).2.2)))] H → va_D A [(p0, .inr (1, [.int (nI wd), .int (nI hg), .ref aC, .ref aT, .ref aS, .ref rP, .ref rO, .ref rE])), (aS, .inl (cI, 4, .inl sd)), (rF, .inr (0, [.ref afx, .ref afy, .int (nI n)])), (afx, .inl (cI, cap, .inl fx)), (afy, .inl (cI, cap, .inl fy)), (rT, .inr (0, [.ref atx, .ref aty, .int (nI (psV cap tx ty q (sd q) fx fy n k).1)])), (atx, .inl (cI, cap, .inl ((psV cap tx ty q (sd q) fx fy n k).2.1))), (aty, .inl (cI, cap, .inl ((psV cap tx ty q (sd q) fx fy n k).2.2)))] → va_S A s.heap H locs → ∀ ls : Array Slot, lv_has ls 12 [(0, .ref p0), (1, .ref rF), (2, .ref rT), (3, .int (nI q)), (4, .int 1), (5, .ref afx), (6, .ref afy), (7, .int (sd q)), (8, .int b8), (9, .int (nI k))] → W p l e ({ frames := 2, cells := 0, slots := 0, locals := 80 } : Room) s m #[.ref p0, .ref rF, .ref rT, .int (nI q)] below meth c H locs 0 0 (MQ below (va_Qi (S := Nat × (Nat → Int32) × (Nat → Int32)) (fun r u => (r = 1 ∧ (psL q (sd q) fx fy n n).length ≤ cap ∧ u = (psV cap tx ty q (sd q) fx fy n n)) ∨ (r = 0 ∧ cap < (psL q (sd q) fx fy n n).length)) (wrB D [(p0, .inr (1, [.int (nI wd), .int (nI hg), .ref aC, .ref aT, .ref aS, .ref rP, .ref rO, .ref rE])), (aS, .inl (cI, 4, .inl sd)), (rF, .inr (0, [.ref afx, .ref afy, .int (nI n)])), (afx, .inl (cI, cap, .inl fx)), (afy, .inl (cI, cap, .inl fy)), (rT, .inr (0, [.ref atx, .ref aty, .int tc])), (atx, .inl (cI, cap, .inl tx)), (aty, .inl (cI, cap, .inl ty))] s.heap.size (fun z => [(p0, .inr (1, [.int (nI wd), .int (nI hg), .ref aC, .ref aT, .ref aS, .ref rP, .ref rO, .ref rE])), (aS, .inl (cI, 4, .inl sd)), (rF, .inr (0, [.ref afx, .ref afy, .int (nI n)])), (afx, .inl (cI, cap, .inl fx)), (afy, .inl (cI, cap, .inl fy)), (rT, .inr (0, [.ref atx, .ref aty, .int (nI z.1)])), (atx, .inl (cI, cap, .inl z.2.1)), (aty, .inl (cI, cap, .inl z.2.2))])) A) #[.ref p0, .ref rF, .ref rT, .int (nI q)] s 0 0 A) (F0 m 60 ls []) := by
    intro j
    induction j with
    | zero => intro k h1 h2; omega
    | succ j ih =>
      intro k hk hkj b8 hb8 hlen H locs hP hD hS ls hl
      have hv : (psV cap tx ty q (sd q) fx fy n k).1 ≤ cap := by rw [psV_1]; exact hlen
      refine lv_iload hx hb dX1_pass_60 (lv_at hl 9 rfl) ?_
      refine lv_aload_n hx hb dX1_pass_62 rfl (lv_at hl 1 rfl) ?_
      refine va_getN (D := D) (ci := 0) (v := .int (nI n)) (C := RX0) (T := TX0) (N := 3) hx hb hts nX1_pass_X0 hown hK.1 hP 2 rfl rfl 2 (by decide) (hK.2.count _) (fun _ h9 => h9) rfl dX1_pass_63 ?_
      refine lv_icmp_ge (tgt := 194) hx hb dX1_pass_66 (by decide) (fun c66 => ?_) (fun c66 => ?_)
      · skip
        refine lv_iconst (v := 1) hx hb dX1_pass_194 (by decide) ?_
        have hkn : k = n := Nat.le_antisymm hk ((nI_leI (by omega) (by omega)).mp c66)
        rw [hkn] at hP hD hlen
        exact W.zret (v := 1) hx hb hr rfl (fun t ht hW => ⟨⟨1, (psV cap tx ty q (sd q) fx fy n n), rfl, Or.inl ⟨rfl, hlen, rfl⟩, by rw [ht]; exact hP, by rw [hAe]; exact hD⟩, hS.F ht⟩) hS.2.2 dX1_pass_195
      · skip
        have hk2 : k < n := Nat.lt_of_not_le (fun h => c66 (nI_le h (by omega)))
        have hp := prN_lt hk2
        have e8 := hb8 hk2
        subst e8
        refine lv_aload_n hx hb dX1_pass_69 rfl (lv_at hl 0 rfl) ?_
        refine lv_aload hx hb dX1_pass_70 (lv_at hl 5 rfl) ?_
        refine lv_iload hx hb dX1_pass_72 (lv_at hl 9 rfl) ?_
        refine q_iald (k := k) hx hb hK.1 hP 3 0 rfl rfl (by omega) (by omega) dX1_pass_74 ?_
        refine lv_iload_n hx hb dX1_pass_75 rfl (lv_at hl 3 rfl) ?_
        refine rd_i (va_runV (As := [.int (fx k), .int (nI q)]) ⟨hx, hb, hml, hown, hts⟩ (kX1_isGood l D cI cZ p0 aC aT aS rP rO rE (nI wd) (nI hg) sd (fx k) q hq) (cwV 2 hts gX1_pass_X1_isGood rfl rfl rfl (by decide +kernel) ⟨Nat.le_of_ble_eq_true rfl, Nat.le_of_ble_eq_true rfl⟩) (rd_preV (ci := 1) (q0 := 0) (hP.sub [0, 1] rfl) hK rfl rfl) rfl rfl hl.1 rfl (lv_room (Nat.le_of_ble_eq_true rfl)) dX1_pass_76 ⟨Nat.zero_le _, Nat.zero_le _⟩) ?_
        refine q_eq (show bI (gdB q (fx k) (sd q)) = bI (gV q (sd q) fx fy k) by rw [gV, if_pos hq2]) ?_
        refine lv_istore (lv' := [(10, .int (bI (gV q (sd q) fx fy k))), (0, .ref p0), (1, .ref rF), (2, .ref rT), (3, .int (nI q)), (4, .int 1), (5, .ref afx), (6, .ref afy), (7, .int (sd q)), (8, .int (nI (prN n k))), (9, .int (nI k))]) hx hb dX1_pass_79 hl (by decide) rfl (fun ls hl => ?_)
        refine lv_iload hx hb dX1_pass_81 (lv_at hl 0 rfl) ?_
        refine lv_aload_n hx hb dX1_pass_83 rfl (lv_at hl 1 rfl) ?_
        refine lv_aload hx hb dX1_pass_84 (lv_at hl 6 rfl) ?_
        refine lv_iload hx hb dX1_pass_86 (lv_at hl 9 rfl) ?_
        refine q_iald (k := (prN n k)) hx hb hK.1 hP 3 0 rfl rfl (Nat.lt_of_lt_of_le hp hn) (by omega) dX1_pass_88 ?_
        refine lv_iload_n hx hb dX1_pass_89 rfl (lv_at hl 4 rfl) ?_
        refine rd_i (va_runV (As := [.int (fx (prN n k)), .int (nI q)]) ⟨hx, hb, hml, hown, hts⟩ (kX1_isGood l D cI cZ p0 aC aT aS rP rO rE (nI wd) (nI hg) sd (fx (prN n k)) q hq) (cwV 2 hts gX1_pass_X1_isGood rfl rfl rfl (by decide +kernel) ⟨Nat.le_of_ble_eq_true rfl, Nat.le_of_ble_eq_true rfl⟩) (rd_preV (ci := 1) (q0 := 0) (hP.sub [0, 1] rfl) hK rfl rfl) rfl rfl hl.1 rfl (lv_room (Nat.le_of_ble_eq_true rfl)) dX1_pass_90 ⟨Nat.zero_le _, Nat.zero_le _⟩) ?_
        refine q_eq (show bI (gdB q (fx (prN n k)) (sd q)) = bI (gV q (sd q) fx fy (prN n k)) by rw [gV, if_pos hq2]) ?_
        refine lv_icmp_eq (tgt := 156) hx hb dX1_pass_93 (by decide) (fun c93 => ?_) (fun c93 => ?_)
        · skip
          refine lv_iload hx hb dX1_pass_156 (lv_at hl 0 rfl) ?_
          refine lv_if_eq (tgt := 184) hx hb dX1_pass_158 (by decide) (fun c158 => ?_) (fun c158 => ?_)
          · skip
            refine lv_iload hx hb dX1_pass_184 (lv_at hl 10 rfl) ?_
            refine lv_istore (lv' := [(8, .int (nI k)), (10, .int (bI (gV q (sd q) fx fy k))), (0, .ref p0), (1, .ref rF), (2, .ref rT), (3, .int (nI q)), (4, .int 1), (5, .ref afx), (6, .ref afy), (7, .int (sd q)), (9, .int (nI k))]) hx hb dX1_pass_186 hl (by decide) rfl (fun ls hl => ?_)
            refine lv_iinc (v := (nI (k + 1))) (lv' := [(9, .int (nI (k + 1))), (8, .int (nI k)), (10, .int (bI (gV q (sd q) fx fy k))), (0, .ref p0), (1, .ref rF), (2, .ref rT), (3, .int (nI q)), (4, .int 1), (5, .ref afx), (6, .ref afy), (7, .int (sd q))]) hx hb dX1_pass_188 hl (k := 10) rfl (nI_1 _) (by decide) rfl (fun ls hl => ?_)
            have e : (psV cap tx ty q (sd q) fx fy n k) = (psV cap tx ty q (sd q) fx fy n (k + 1)) := by rw [psV, psV, psL, psL, out_00 (bI_eq.mp c93) (bI_eq0.mp c158)]
            have hlen2 : (psL q (sd q) fx fy n (k + 1)).length ≤ cap := by rw [← psV_1 (cap := cap) (tx := tx) (ty := ty), ← e]; exact hv
            refine lv_goto (tgt := 60) hx hb dX1_pass_191 (by decide) ?_
            rw [e] at hP hD
            exact ih (k + 1) (by omega) (by omega) (nI k) (fun _ => by rw [prN, if_neg (Nat.succ_ne_zero k)]; rfl) hlen2 H locs hP hD hS ls (lv_sub hl [3, 4, 5, 6, 7, 8, 9, 10, 1, 0] rfl)
          · skip
            refine lv_aload_n hx hb dX1_pass_161 rfl (lv_at hl 3 rfl) ?_
            refine lv_aload_n hx hb dX1_pass_162 rfl (lv_at hl 2 rfl) ?_
            refine va_getN (D := D) (ci := 0) (v := .ref afx) (C := RX0) (T := TX0) (N := 3) hx hb hts nX1_pass_X0 hown hK.1 hP 2 rfl rfl 0 (by decide) (hK.2.xs _) (fun _ h9 => h9) rfl dX1_pass_163 ?_
            refine lv_iload hx hb dX1_pass_166 (lv_at hl 10 rfl) ?_
            refine q_iald (k := k) hx hb hK.1 hP 3 0 rfl rfl (by omega) (by omega) dX1_pass_168 ?_
            refine lv_aload_n hx hb dX1_pass_169 rfl (lv_at hl 2 rfl) ?_
            refine va_getN (D := D) (ci := 0) (v := .ref afy) (C := RX0) (T := TX0) (N := 3) hx hb hts nX1_pass_X0 hown hK.1 hP 2 rfl rfl 1 (by decide) (hK.2.ys _) (fun _ h9 => h9) rfl dX1_pass_170 ?_
            refine lv_iload hx hb dX1_pass_173 (lv_at hl 10 rfl) ?_
            refine q_iald (k := k) hx hb hK.1 hP 4 0 rfl rfl (by omega) (by omega) dX1_pass_175 ?_
            refine wr_i (wr := [(p0, .inr (1, [.int (nI wd), .int (nI hg), .ref aC, .ref aT, .ref aS, .ref rP, .ref rO, .ref rE])), (aS, .inl (cI, 4, .inl sd)), (rF, .inr (0, [.ref afx, .ref afy, .int (nI n)])), (afx, .inl (cI, cap, .inl fx)), (afy, .inl (cI, cap, .inl fy))]) hP hD hS hA [5, 6, 7] [0, 1, 2, 3, 4] rfl rfl (by decide) (by decide) (va_runVN (C := RX0) (As := [.int (fx k), .int (fy k)]) ⟨hx, hb, hml, hown, hts⟩ (kX0_append l D cI cZ H.size rT atx aty (psV cap tx ty q (sd q) fx fy n k).1 cap (psV cap tx ty q (sd q) fx fy n k).2.1 (psV cap tx ty q (sd q) fx fy n k).2.2 (fx k) (fy k) hv hc) ⟨va_cnB 2 hts gX1_pass_X0_append_n59 rfl rfl rfl hK.2.2.2.2.2.1 (hts (.initialized RX0) (by decide +kernel)) (by decide +kernel) ⟨Nat.le_of_ble_eq_true rfl, Nat.le_of_ble_eq_true rfl⟩, hts (.instanceMethod yX0_append) (by decide +kernel), hts (.selects RX0 yX0_append yX0_append) (by decide +kernel)⟩ (wr_preV (ci := 0) (q0 := 0) (hP.sub [5, 6, 7] rfl) hK (hD.sub [5, 6, 7] (by decide) rfl) rfl rfl) rfl rfl hl.1 rfl (lv_room (Nat.le_of_ble_eq_true rfl)) dX1_pass_176 ⟨Nat.zero_le _, Nat.zero_le _⟩) (fun r2 u2 H locs hw2 hP hD hS => ?_)
            rcases hw2 with ⟨hw2, rfl, hu2⟩ | ⟨hw2, rfl, hu2⟩
            · skip
              replace hP : va_P D vwCl [(p0, .inr (1, [.int (nI wd), .int (nI hg), .ref aC, .ref aT, .ref aS, .ref rP, .ref rO, .ref rE])), (aS, .inl (cI, 4, .inl sd)), (rF, .inr (0, [.ref afx, .ref afy, .int (nI n)])), (afx, .inl (cI, cap, .inl fx)), (afy, .inl (cI, cap, .inl fy)), (rT, .inr (0, [.ref atx, .ref aty, .int (nI u2.1)])), (atx, .inl (cI, cap, .inl u2.2.1)), (aty, .inl (cI, cap, .inl u2.2.2))] H := hP.sub [0, 1, 2, 3, 4, 5, 6, 7] rfl
              replace hD : va_D A [(p0, .inr (1, [.int (nI wd), .int (nI hg), .ref aC, .ref aT, .ref aS, .ref rP, .ref rO, .ref rE])), (aS, .inl (cI, 4, .inl sd)), (rF, .inr (0, [.ref afx, .ref afy, .int (nI n)])), (afx, .inl (cI, cap, .inl fx)), (afy, .inl (cI, cap, .inl fy)), (rT, .inr (0, [.ref atx, .ref aty, .int (nI u2.1)])), (atx, .inl (cI, cap, .inl u2.2.1)), (aty, .inl (cI, cap, .inl u2.2.2))] := hD.sub [0, 1, 2, 3, 4, 5, 6, 7] (by decide) rfl
              refine lv_if_ne (tgt := 184) hx hb dX1_pass_179 (by decide) (fun c179 => ?_) (fun c179 => absurd c179 (by decide))
              refine lv_iload hx hb dX1_pass_184 (lv_at hl 10 rfl) ?_
              refine lv_istore (lv' := [(8, .int (nI k)), (10, .int (bI (gV q (sd q) fx fy k))), (0, .ref p0), (1, .ref rF), (2, .ref rT), (3, .int (nI q)), (4, .int 1), (5, .ref afx), (6, .ref afy), (7, .int (sd q)), (9, .int (nI k))]) hx hb dX1_pass_186 hl (by decide) rfl (fun ls hl => ?_)
              refine lv_iinc (v := (nI (k + 1))) (lv' := [(9, .int (nI (k + 1))), (8, .int (nI k)), (10, .int (bI (gV q (sd q) fx fy k))), (0, .ref p0), (1, .ref rF), (2, .ref rT), (3, .int (nI q)), (4, .int 1), (5, .ref afx), (6, .ref afy), (7, .int (sd q))]) hx hb dX1_pass_188 hl (k := 10) rfl (nI_1 _) (by decide) rfl (fun ls hl => ?_)
              have e : u2 = (psV cap tx ty q (sd q) fx fy n (k + 1)) := by rw [psV, psL, out_01 (bI_eq.mp c93) (bI_ne c158), mpU_snoc, hu2]; unfold psV psL at hw2; rw [adP, if_pos hw2]; rfl
              have hlen2 : (psL q (sd q) fx fy n (k + 1)).length ≤ cap := by rw [← psV_1 (cap := cap) (tx := tx) (ty := ty), ← e, hu2]; exact hw2
              refine lv_goto (tgt := 60) hx hb dX1_pass_191 (by decide) ?_
              rw [e] at hP hD
              exact ih (k + 1) (by omega) (by omega) (nI k) (fun _ => by rw [prN, if_neg (Nat.succ_ne_zero k)]; rfl) hlen2 H locs hP hD hS ls (lv_sub hl [3, 4, 5, 6, 7, 8, 9, 10, 1, 0] rfl)
            · skip
              replace hP : va_P D vwCl [(p0, .inr (1, [.int (nI wd), .int (nI hg), .ref aC, .ref aT, .ref aS, .ref rP, .ref rO, .ref rE])), (aS, .inl (cI, 4, .inl sd)), (rF, .inr (0, [.ref afx, .ref afy, .int (nI n)])), (afx, .inl (cI, cap, .inl fx)), (afy, .inl (cI, cap, .inl fy)), (rT, .inr (0, [.ref atx, .ref aty, .int (nI u2.1)])), (atx, .inl (cI, cap, .inl u2.2.1)), (aty, .inl (cI, cap, .inl u2.2.2))] H := hP.sub [0, 1, 2, 3, 4, 5, 6, 7] rfl
              replace hD : va_D A [(p0, .inr (1, [.int (nI wd), .int (nI hg), .ref aC, .ref aT, .ref aS, .ref rP, .ref rO, .ref rE])), (aS, .inl (cI, 4, .inl sd)), (rF, .inr (0, [.ref afx, .ref afy, .int (nI n)])), (afx, .inl (cI, cap, .inl fx)), (afy, .inl (cI, cap, .inl fy)), (rT, .inr (0, [.ref atx, .ref aty, .int (nI u2.1)])), (atx, .inl (cI, cap, .inl u2.2.1)), (aty, .inl (cI, cap, .inl u2.2.2))] := hD.sub [0, 1, 2, 3, 4, 5, 6, 7] (by decide) rfl
              refine lv_if_ne (tgt := 184) hx hb dX1_pass_179 (by decide) (fun c179 => absurd (by decide) c179) (fun c179 => ?_)
              refine lv_iconst (v := 0) hx hb dX1_pass_182 (by decide) ?_
              exact W.zret (v := 0) hx hb hr rfl (fun t ht hW => ⟨⟨0, u2, rfl, Or.inr ⟨rfl, by have a := ps_good0 (bI_ne c158) hk2; rw [psV_1] at hw2; omega⟩, by rw [ht]; exact hP, by rw [hAe]; exact hD⟩, hS.F ht⟩) hS.2.2 dX1_pass_183
        · skip
          refine lv_aload hx hb dX1_pass_96 (lv_at hl 6 rfl) ?_
          refine lv_iload hx hb dX1_pass_98 (lv_at hl 9 rfl) ?_
          refine q_iald (k := (prN n k)) hx hb hK.1 hP 3 0 rfl rfl (Nat.lt_of_lt_of_le hp hn) (by omega) dX1_pass_100 ?_
          refine lv_aload hx hb dX1_pass_101 (lv_at hl 7 rfl) ?_
          refine lv_iload hx hb dX1_pass_103 (lv_at hl 9 rfl) ?_
          refine q_iald (k := (prN n k)) hx hb hK.1 hP 4 0 rfl rfl (Nat.lt_of_lt_of_le hp hn) (by omega) dX1_pass_105 ?_
          refine lv_aload hx hb dX1_pass_106 (lv_at hl 6 rfl) ?_
          refine lv_iload hx hb dX1_pass_108 (lv_at hl 10 rfl) ?_
          refine q_iald (k := k) hx hb hK.1 hP 3 0 rfl rfl (by omega) (by omega) dX1_pass_110 ?_
          refine lv_aload hx hb dX1_pass_111 (lv_at hl 7 rfl) ?_
          refine lv_iload hx hb dX1_pass_113 (lv_at hl 10 rfl) ?_
          refine q_iald (k := k) hx hb hK.1 hP 4 0 rfl rfl (by omega) (by omega) dX1_pass_115 ?_
          refine lv_iload hx hb dX1_pass_116 (lv_at hl 8 rfl) ?_
          have hgg : ¬ (gV q (sd q) fx fy k) = (gV q (sd q) fx fy (prN n k)) := fun h => c93 (by rw [h])
          have hgd : ¬ fx k - fx (prN n k) = 0 := gd_ne (q := q) (s := sd q) (fun h => hgg (by rw [gV, gV, if_pos hq2, if_pos hq2]; exact h))
          refine rd_i (va_runS (As := [.int (fx (prN n k)), .int (fy (prN n k)), .int (fx k), .int (fy k), .int (sd q)]) ⟨hx, hb, hml, hown, hts⟩ (kX1_cutAcross l D cI cZ (fx (prN n k)) (fy (prN n k)) (fx k) (fy k) (sd q) hgd) (va_cwS 5 hts gX1_pass_X1_cutAcross rfl rfl rfl (by decide +kernel) ⟨Nat.le_of_ble_eq_true rfl, Nat.le_of_ble_eq_true rfl⟩) rd_pre0 rfl rfl hl.1 rfl (lv_room (Nat.le_of_ble_eq_true rfl)) dX1_pass_118 ⟨Nat.zero_le _, Nat.zero_le _⟩) ?_
          refine lv_istore (lv' := [(11, .int (caI (fx (prN n k)) (fy (prN n k)) (fx k) (fy k) (sd q))), (10, .int (bI (gV q (sd q) fx fy k))), (0, .ref p0), (1, .ref rF), (2, .ref rT), (3, .int (nI q)), (4, .int 1), (5, .ref afx), (6, .ref afy), (7, .int (sd q)), (8, .int (nI (prN n k))), (9, .int (nI k))]) hx hb dX1_pass_121 hl (by decide) rfl (fun ls hl => ?_)
          refine lv_aload_n hx hb dX1_pass_123 rfl (lv_at hl 4 rfl) ?_
          refine lv_iload hx hb dX1_pass_124 (lv_at hl 6 rfl) ?_
          refine lv_if_eq (tgt := 134) hx hb dX1_pass_126 (by decide) (fun c126 => absurd c126 (by decide)) (fun c126 => ?_)
          refine lv_iload hx hb dX1_pass_129 (lv_at hl 9 rfl) ?_
          refine lv_goto (tgt := 136) hx hb dX1_pass_131 (by decide) ?_
          refine lv_iload hx hb dX1_pass_136 (lv_at hl 6 rfl) ?_
          refine lv_if_eq (tgt := 146) hx hb dX1_pass_138 (by decide) (fun c138 => absurd c138 (by decide)) (fun c138 => ?_)
          refine lv_iload hx hb dX1_pass_141 (lv_at hl 0 rfl) ?_
          refine lv_goto (tgt := 148) hx hb dX1_pass_143 (by decide) ?_
          refine wr_i (wr := [(p0, .inr (1, [.int (nI wd), .int (nI hg), .ref aC, .ref aT, .ref aS, .ref rP, .ref rO, .ref rE])), (aS, .inl (cI, 4, .inl sd)), (rF, .inr (0, [.ref afx, .ref afy, .int (nI n)])), (afx, .inl (cI, cap, .inl fx)), (afy, .inl (cI, cap, .inl fy))]) hP hD hS hA [5, 6, 7] [0, 1, 2, 3, 4] rfl rfl (by decide) (by decide) (va_runVN (C := RX0) (As := [.int (sd q), .int (caI (fx (prN n k)) (fy (prN n k)) (fx k) (fy k) (sd q))]) ⟨hx, hb, hml, hown, hts⟩ (kX0_append l D cI cZ H.size rT atx aty (psV cap tx ty q (sd q) fx fy n k).1 cap (psV cap tx ty q (sd q) fx fy n k).2.1 (psV cap tx ty q (sd q) fx fy n k).2.2 (sd q) (caI (fx (prN n k)) (fy (prN n k)) (fx k) (fy k) (sd q)) hv hc) ⟨va_cnB 2 hts gX1_pass_X0_append_n59 rfl rfl rfl hK.2.2.2.2.2.1 (hts (.initialized RX0) (by decide +kernel)) (by decide +kernel) ⟨Nat.le_of_ble_eq_true rfl, Nat.le_of_ble_eq_true rfl⟩, hts (.instanceMethod yX0_append) (by decide +kernel), hts (.selects RX0 yX0_append yX0_append) (by decide +kernel)⟩ (wr_preV (ci := 0) (q0 := 0) (hP.sub [5, 6, 7] rfl) hK (hD.sub [5, 6, 7] (by decide) rfl) rfl rfl) rfl rfl hl.1 rfl (lv_room (Nat.le_of_ble_eq_true rfl)) dX1_pass_148 ⟨Nat.zero_le _, Nat.zero_le _⟩) (fun r1 u1 H locs hw1 hP hD hS => ?_)
          rcases hw1 with ⟨hw1, rfl, hu1⟩ | ⟨hw1, rfl, hu1⟩
          · skip
            replace hP : va_P D vwCl [(p0, .inr (1, [.int (nI wd), .int (nI hg), .ref aC, .ref aT, .ref aS, .ref rP, .ref rO, .ref rE])), (aS, .inl (cI, 4, .inl sd)), (rF, .inr (0, [.ref afx, .ref afy, .int (nI n)])), (afx, .inl (cI, cap, .inl fx)), (afy, .inl (cI, cap, .inl fy)), (rT, .inr (0, [.ref atx, .ref aty, .int (nI u1.1)])), (atx, .inl (cI, cap, .inl u1.2.1)), (aty, .inl (cI, cap, .inl u1.2.2))] H := hP.sub [0, 1, 2, 3, 4, 5, 6, 7] rfl
            replace hD : va_D A [(p0, .inr (1, [.int (nI wd), .int (nI hg), .ref aC, .ref aT, .ref aS, .ref rP, .ref rO, .ref rE])), (aS, .inl (cI, 4, .inl sd)), (rF, .inr (0, [.ref afx, .ref afy, .int (nI n)])), (afx, .inl (cI, cap, .inl fx)), (afy, .inl (cI, cap, .inl fy)), (rT, .inr (0, [.ref atx, .ref aty, .int (nI u1.1)])), (atx, .inl (cI, cap, .inl u1.2.1)), (aty, .inl (cI, cap, .inl u1.2.2))] := hD.sub [0, 1, 2, 3, 4, 5, 6, 7] (by decide) rfl
            refine lv_if_ne (tgt := 156) hx hb dX1_pass_151 (by decide) (fun c151 => ?_) (fun c151 => absurd c151 (by decide))
            refine lv_iload hx hb dX1_pass_156 (lv_at hl 1 rfl) ?_
            refine lv_if_eq (tgt := 184) hx hb dX1_pass_158 (by decide) (fun c158 => ?_) (fun c158 => ?_)
            · skip
              refine lv_iload hx hb dX1_pass_184 (lv_at hl 11 rfl) ?_
              refine lv_istore (lv' := [(8, .int (nI k)), (11, .int (caI (fx (prN n k)) (fy (prN n k)) (fx k) (fy k) (sd q))), (10, .int (bI (gV q (sd q) fx fy k))), (0, .ref p0), (1, .ref rF), (2, .ref rT), (3, .int (nI q)), (4, .int 1), (5, .ref afx), (6, .ref afy), (7, .int (sd q)), (9, .int (nI k))]) hx hb dX1_pass_186 hl (by decide) rfl (fun ls hl => ?_)
              refine lv_iinc (v := (nI (k + 1))) (lv' := [(9, .int (nI (k + 1))), (8, .int (nI k)), (11, .int (caI (fx (prN n k)) (fy (prN n k)) (fx k) (fy k) (sd q))), (10, .int (bI (gV q (sd q) fx fy k))), (0, .ref p0), (1, .ref rF), (2, .ref rT), (3, .int (nI q)), (4, .int 1), (5, .ref afx), (6, .ref afy), (7, .int (sd q))]) hx hb dX1_pass_188 hl (k := 11) rfl (nI_1 _) (by decide) rfl (fun ls hl => ?_)
              have e : u1 = (psV cap tx ty q (sd q) fx fy n (k + 1)) := by rw [psV, psL, out_10 hgg (bI_eq0.mp c158), mpU_snoc, ctV, if_pos hq2, hu1]; unfold psV psL at hw1; rw [adP, if_pos hw1]; rfl
              have hlen2 : (psL q (sd q) fx fy n (k + 1)).length ≤ cap := by rw [← psV_1 (cap := cap) (tx := tx) (ty := ty), ← e, hu1]; exact hw1
              refine lv_goto (tgt := 60) hx hb dX1_pass_191 (by decide) ?_
              rw [e] at hP hD
              exact ih (k + 1) (by omega) (by omega) (nI k) (fun _ => by rw [prN, if_neg (Nat.succ_ne_zero k)]; rfl) hlen2 H locs hP hD hS ls (lv_sub hl [4, 5, 6, 7, 8, 9, 10, 11, 1, 0] rfl)
            · skip
              refine lv_aload_n hx hb dX1_pass_161 rfl (lv_at hl 4 rfl) ?_
              refine lv_aload_n hx hb dX1_pass_162 rfl (lv_at hl 3 rfl) ?_
              refine va_getN (D := D) (ci := 0) (v := .ref afx) (C := RX0) (T := TX0) (N := 3) hx hb hts nX1_pass_X0 hown hK.1 hP 2 rfl rfl 0 (by decide) (hK.2.xs _) (fun _ h9 => h9) rfl dX1_pass_163 ?_
              refine lv_iload hx hb dX1_pass_166 (lv_at hl 11 rfl) ?_
              refine q_iald (k := k) hx hb hK.1 hP 3 0 rfl rfl (by omega) (by omega) dX1_pass_168 ?_
              refine lv_aload_n hx hb dX1_pass_169 rfl (lv_at hl 3 rfl) ?_
              refine va_getN (D := D) (ci := 0) (v := .ref afy) (C := RX0) (T := TX0) (N := 3) hx hb hts nX1_pass_X0 hown hK.1 hP 2 rfl rfl 1 (by decide) (hK.2.ys _) (fun _ h9 => h9) rfl dX1_pass_170 ?_
              refine lv_iload hx hb dX1_pass_173 (lv_at hl 11 rfl) ?_
              refine q_iald (k := k) hx hb hK.1 hP 4 0 rfl rfl (by omega) (by omega) dX1_pass_175 ?_
              refine wr_i (wr := [(p0, .inr (1, [.int (nI wd), .int (nI hg), .ref aC, .ref aT, .ref aS, .ref rP, .ref rO, .ref rE])), (aS, .inl (cI, 4, .inl sd)), (rF, .inr (0, [.ref afx, .ref afy, .int (nI n)])), (afx, .inl (cI, cap, .inl fx)), (afy, .inl (cI, cap, .inl fy))]) hP hD hS hA [5, 6, 7] [0, 1, 2, 3, 4] rfl rfl (by decide) (by decide) (va_runVN (C := RX0) (As := [.int (fx k), .int (fy k)]) ⟨hx, hb, hml, hown, hts⟩ (kX0_append l D cI cZ H.size rT atx aty u1.1 cap u1.2.1 u1.2.2 (fx k) (fy k) (by rw [hu1]; exact hw1) hc) ⟨va_cnB 2 hts gX1_pass_X0_append_n59 rfl rfl rfl hK.2.2.2.2.2.1 (hts (.initialized RX0) (by decide +kernel)) (by decide +kernel) ⟨Nat.le_of_ble_eq_true rfl, Nat.le_of_ble_eq_true rfl⟩, hts (.instanceMethod yX0_append) (by decide +kernel), hts (.selects RX0 yX0_append yX0_append) (by decide +kernel)⟩ (wr_preV (ci := 0) (q0 := 0) (hP.sub [5, 6, 7] rfl) hK (hD.sub [5, 6, 7] (by decide) rfl) rfl rfl) rfl rfl hl.1 rfl (lv_room (Nat.le_of_ble_eq_true rfl)) dX1_pass_176 ⟨Nat.zero_le _, Nat.zero_le _⟩) (fun r2 u2 H locs hw2 hP hD hS => ?_)
              rcases hw2 with ⟨hw2, rfl, hu2⟩ | ⟨hw2, rfl, hu2⟩
              · skip
                replace hP : va_P D vwCl [(p0, .inr (1, [.int (nI wd), .int (nI hg), .ref aC, .ref aT, .ref aS, .ref rP, .ref rO, .ref rE])), (aS, .inl (cI, 4, .inl sd)), (rF, .inr (0, [.ref afx, .ref afy, .int (nI n)])), (afx, .inl (cI, cap, .inl fx)), (afy, .inl (cI, cap, .inl fy)), (rT, .inr (0, [.ref atx, .ref aty, .int (nI u2.1)])), (atx, .inl (cI, cap, .inl u2.2.1)), (aty, .inl (cI, cap, .inl u2.2.2))] H := hP.sub [0, 1, 2, 3, 4, 5, 6, 7] rfl
                replace hD : va_D A [(p0, .inr (1, [.int (nI wd), .int (nI hg), .ref aC, .ref aT, .ref aS, .ref rP, .ref rO, .ref rE])), (aS, .inl (cI, 4, .inl sd)), (rF, .inr (0, [.ref afx, .ref afy, .int (nI n)])), (afx, .inl (cI, cap, .inl fx)), (afy, .inl (cI, cap, .inl fy)), (rT, .inr (0, [.ref atx, .ref aty, .int (nI u2.1)])), (atx, .inl (cI, cap, .inl u2.2.1)), (aty, .inl (cI, cap, .inl u2.2.2))] := hD.sub [0, 1, 2, 3, 4, 5, 6, 7] (by decide) rfl
                refine lv_if_ne (tgt := 184) hx hb dX1_pass_179 (by decide) (fun c179 => ?_) (fun c179 => absurd c179 (by decide))
                refine lv_iload hx hb dX1_pass_184 (lv_at hl 11 rfl) ?_
                refine lv_istore (lv' := [(8, .int (nI k)), (11, .int (caI (fx (prN n k)) (fy (prN n k)) (fx k) (fy k) (sd q))), (10, .int (bI (gV q (sd q) fx fy k))), (0, .ref p0), (1, .ref rF), (2, .ref rT), (3, .int (nI q)), (4, .int 1), (5, .ref afx), (6, .ref afy), (7, .int (sd q)), (9, .int (nI k))]) hx hb dX1_pass_186 hl (by decide) rfl (fun ls hl => ?_)
                refine lv_iinc (v := (nI (k + 1))) (lv' := [(9, .int (nI (k + 1))), (8, .int (nI k)), (11, .int (caI (fx (prN n k)) (fy (prN n k)) (fx k) (fy k) (sd q))), (10, .int (bI (gV q (sd q) fx fy k))), (0, .ref p0), (1, .ref rF), (2, .ref rT), (3, .int (nI q)), (4, .int 1), (5, .ref afx), (6, .ref afy), (7, .int (sd q))]) hx hb dX1_pass_188 hl (k := 11) rfl (nI_1 _) (by decide) rfl (fun ls hl => ?_)
                have e2 : u2 = adP cap u1 (fx k) (fy k) := by rw [hu2, adP, if_pos hw2]
                have e1 : u1 = adP cap (psV cap tx ty q (sd q) fx fy n k) (sd q) (caI (fx (prN n k)) (fy (prN n k)) (fx k) (fy k) (sd q)) := by rw [hu1, adP, if_pos hw1]
                have e : u2 = (psV cap tx ty q (sd q) fx fy n (k + 1)) := by rw [psV, psL, out_11 hgg (bI_ne c158), mpU_snoc, mpU_snoc, e2, e1, ctV, if_pos hq2]; rfl
                have hlen2 : (psL q (sd q) fx fy n (k + 1)).length ≤ cap := by rw [← psV_1 (cap := cap) (tx := tx) (ty := ty), ← e, hu2]; exact hw2
                refine lv_goto (tgt := 60) hx hb dX1_pass_191 (by decide) ?_
                rw [e] at hP hD
                exact ih (k + 1) (by omega) (by omega) (nI k) (fun _ => by rw [prN, if_neg (Nat.succ_ne_zero k)]; rfl) hlen2 H locs hP hD hS ls (lv_sub hl [4, 5, 6, 7, 8, 9, 10, 11, 1, 0] rfl)
              · skip
                replace hP : va_P D vwCl [(p0, .inr (1, [.int (nI wd), .int (nI hg), .ref aC, .ref aT, .ref aS, .ref rP, .ref rO, .ref rE])), (aS, .inl (cI, 4, .inl sd)), (rF, .inr (0, [.ref afx, .ref afy, .int (nI n)])), (afx, .inl (cI, cap, .inl fx)), (afy, .inl (cI, cap, .inl fy)), (rT, .inr (0, [.ref atx, .ref aty, .int (nI u2.1)])), (atx, .inl (cI, cap, .inl u2.2.1)), (aty, .inl (cI, cap, .inl u2.2.2))] H := hP.sub [0, 1, 2, 3, 4, 5, 6, 7] rfl
                replace hD : va_D A [(p0, .inr (1, [.int (nI wd), .int (nI hg), .ref aC, .ref aT, .ref aS, .ref rP, .ref rO, .ref rE])), (aS, .inl (cI, 4, .inl sd)), (rF, .inr (0, [.ref afx, .ref afy, .int (nI n)])), (afx, .inl (cI, cap, .inl fx)), (afy, .inl (cI, cap, .inl fy)), (rT, .inr (0, [.ref atx, .ref aty, .int (nI u2.1)])), (atx, .inl (cI, cap, .inl u2.2.1)), (aty, .inl (cI, cap, .inl u2.2.2))] := hD.sub [0, 1, 2, 3, 4, 5, 6, 7] (by decide) rfl
                refine lv_if_ne (tgt := 184) hx hb dX1_pass_179 (by decide) (fun c179 => absurd (by decide) c179) (fun c179 => ?_)
                refine lv_iconst (v := 0) hx hb dX1_pass_182 (by decide) ?_
                exact W.zret (v := 0) hx hb hr rfl (fun t ht hW => ⟨⟨0, u2, rfl, Or.inr ⟨rfl, by have a := ps_good1 hgg (bI_ne c158) hk2; rw [hu1] at hw2; have b : cap ≤ (psV cap tx ty q (sd q) fx fy n k).1 + 1 := hw2; rw [psV_1] at b; omega⟩, by rw [ht]; exact hP, by rw [hAe]; exact hD⟩, hS.F ht⟩) hS.2.2 dX1_pass_183
          · skip
            replace hP : va_P D vwCl [(p0, .inr (1, [.int (nI wd), .int (nI hg), .ref aC, .ref aT, .ref aS, .ref rP, .ref rO, .ref rE])), (aS, .inl (cI, 4, .inl sd)), (rF, .inr (0, [.ref afx, .ref afy, .int (nI n)])), (afx, .inl (cI, cap, .inl fx)), (afy, .inl (cI, cap, .inl fy)), (rT, .inr (0, [.ref atx, .ref aty, .int (nI u1.1)])), (atx, .inl (cI, cap, .inl u1.2.1)), (aty, .inl (cI, cap, .inl u1.2.2))] H := hP.sub [0, 1, 2, 3, 4, 5, 6, 7] rfl
            replace hD : va_D A [(p0, .inr (1, [.int (nI wd), .int (nI hg), .ref aC, .ref aT, .ref aS, .ref rP, .ref rO, .ref rE])), (aS, .inl (cI, 4, .inl sd)), (rF, .inr (0, [.ref afx, .ref afy, .int (nI n)])), (afx, .inl (cI, cap, .inl fx)), (afy, .inl (cI, cap, .inl fy)), (rT, .inr (0, [.ref atx, .ref aty, .int (nI u1.1)])), (atx, .inl (cI, cap, .inl u1.2.1)), (aty, .inl (cI, cap, .inl u1.2.2))] := hD.sub [0, 1, 2, 3, 4, 5, 6, 7] (by decide) rfl
            refine lv_if_ne (tgt := 156) hx hb dX1_pass_151 (by decide) (fun c151 => absurd (by decide) c151) (fun c151 => ?_)
            refine lv_iconst (v := 0) hx hb dX1_pass_154 (by decide) ?_
            exact W.zret (v := 0) hx hb hr rfl (fun t ht hW => ⟨⟨0, u1, rfl, Or.inr ⟨rfl, by have a := ps_cut hgg hk2; rw [psV_1] at hw1; omega⟩, by rw [ht]; exact hP, by rw [hAe]; exact hD⟩, hS.F ht⟩) hS.2.2 dX1_pass_155
  refine lv_iload_n hx hb dX1_pass_0 rfl (lv_at hl 3 rfl) ?_
  refine lv_iconst (v := 2) hx hb dX1_pass_1 (by decide) ?_
  refine lv_icmp_ge (tgt := 9) hx hb dX1_pass_2 (by decide) (fun c2 => absurd c2 (fun h => absurd ((nI_leI (a := 2) (by omega) (by omega)).mp h) (by omega))) (fun c2 => ?_)
  refine lv_iconst (v := 1) hx hb dX1_pass_5 (by decide) ?_
  refine lv_goto (tgt := 10) hx hb dX1_pass_6 (by decide) ?_
  refine lv_istore (lv' := [(4, .int 1), (0, .ref p0), (1, .ref rF), (2, .ref rT), (3, .int (nI q))]) hx hb dX1_pass_10 hl (by decide) rfl (fun ls hl => ?_)
  refine lv_aload_n hx hb dX1_pass_12 rfl (lv_at hl 2 rfl) ?_
  refine lv_iload hx hb dX1_pass_13 (lv_at hl 0 rfl) ?_
  refine q_eq (show (1 : Int32) = bI true from rfl) ?_
  refine rd_r (x := afx) (va_runVN (C := RX0) (As := [.int (bI true)]) ⟨hx, hb, hml, hown, hts⟩ (kX0_axis l D cI cZ rF afx afy n cap fx fy true) ⟨va_cnB 1 hts gX1_pass_X0_axis_n100 rfl rfl rfl hK.2.2.2.2.2.2.2.2.2 (hts (.initialized RX0) (by decide +kernel)) (by decide +kernel) ⟨Nat.le_of_ble_eq_true rfl, Nat.le_of_ble_eq_true rfl⟩, hts (.instanceMethod yX0_axis) (by decide +kernel), hts (.selects RX0 yX0_axis yX0_axis) (by decide +kernel)⟩ (rd_preV (ci := 0) (q0 := 0) (hP.sub [2, 3, 4] rfl) hK rfl rfl) rfl rfl hl.1 rfl (lv_room (Nat.le_of_ble_eq_true rfl)) dX1_pass_15 ⟨Nat.zero_le _, Nat.zero_le _⟩) ?_
  refine lv_astore (lv' := [(5, .ref afx), (4, .int 1), (0, .ref p0), (1, .ref rF), (2, .ref rT), (3, .int (nI q))]) hx hb dX1_pass_18 hl (by decide) rfl (fun ls hl => ?_)
  refine lv_aload_n hx hb dX1_pass_20 rfl (lv_at hl 3 rfl) ?_
  refine lv_iload hx hb dX1_pass_21 (lv_at hl 1 rfl) ?_
  refine lv_if_ne (tgt := 30) hx hb dX1_pass_23 (by decide) (fun c23 => ?_) (fun c23 => absurd c23 (by decide))
  refine lv_iconst (v := 0) hx hb dX1_pass_30 (by decide) ?_
  refine q_eq (show (0 : Int32) = bI false from rfl) ?_
  refine rd_r (x := afy) (va_runVN (C := RX0) (As := [.int (bI false)]) ⟨hx, hb, hml, hown, hts⟩ (kX0_axis l D cI cZ rF afx afy n cap fx fy false) ⟨va_cnB 1 hts gX1_pass_X0_axis_n100 rfl rfl rfl hK.2.2.2.2.2.2.2.2.2 (hts (.initialized RX0) (by decide +kernel)) (by decide +kernel) ⟨Nat.le_of_ble_eq_true rfl, Nat.le_of_ble_eq_true rfl⟩, hts (.instanceMethod yX0_axis) (by decide +kernel), hts (.selects RX0 yX0_axis yX0_axis) (by decide +kernel)⟩ (rd_preV (ci := 0) (q0 := 0) (hP.sub [2, 3, 4] rfl) hK rfl rfl) rfl rfl hl.1 rfl (lv_room (Nat.le_of_ble_eq_true rfl)) dX1_pass_31 ⟨Nat.zero_le _, Nat.zero_le _⟩) ?_
  refine lv_astore (lv' := [(6, .ref afy), (5, .ref afx), (4, .int 1), (0, .ref p0), (1, .ref rF), (2, .ref rT), (3, .int (nI q))]) hx hb dX1_pass_34 hl (by decide) rfl (fun ls hl => ?_)
  refine lv_aload_n hx hb dX1_pass_36 rfl (lv_at hl 3 rfl) ?_
  refine va_get (D := D) (ci := 1) (v := .ref aS) (C := RX1) (T := TX1) (N := 8) hx hb hts nX1_pass_X1 hown hK.1 hP 0 rfl rfl 4 (by decide) (hts (.fieldLink RX1 28 "PolygonFrame" "sides" "[I") (by decide +kernel)) (fun _ h9 => h9) rfl dX1_pass_37 ?_
  refine lv_iload_n hx hb dX1_pass_40 rfl (lv_at hl 6 rfl) ?_
  refine q_iald (k := q) hx hb hK.1 hP 1 0 rfl rfl (by omega) (by omega) dX1_pass_41 ?_
  refine lv_istore (lv' := [(7, .int (sd q)), (6, .ref afy), (5, .ref afx), (4, .int 1), (0, .ref p0), (1, .ref rF), (2, .ref rT), (3, .int (nI q))]) hx hb dX1_pass_42 hl (by decide) rfl (fun ls hl => ?_)
  refine lv_aload_n hx hb dX1_pass_44 rfl (lv_at hl 6 rfl) ?_
  refine lv_iconst (v := 0) hx hb dX1_pass_45 (by decide) ?_
  refine va_putN (D := D) (ci := 0) (v := .int 0) (ty := .int) (C := RX0) (T := TX0) (N := 3) hx hb hts nX1_pass_X0 tyX0 tyX0_ok nmX0 hown hK.1 hP hD hS 5 rfl rfl 2 (by decide) (hK.2.count _) (fun _ h9 => h9) rfl (tyX0_ok 2 (by decide)) rfl rfl (Nat.le_of_ble_eq_true rfl) dX1_pass_46 (fun H locs hP hD hS => ?_)
  have hP : va_P D vwCl [(p0, .inr (1, [.int (nI wd), .int (nI hg), .ref aC, .ref aT, .ref aS, .ref rP, .ref rO, .ref rE])), (aS, .inl (cI, 4, .inl sd)), (rF, .inr (0, [.ref afx, .ref afy, .int (nI n)])), (afx, .inl (cI, cap, .inl fx)), (afy, .inl (cI, cap, .inl fy)), (rT, .inr (0, [.ref atx, .ref aty, .int 0])), (atx, .inl (cI, cap, .inl tx)), (aty, .inl (cI, cap, .inl ty))] H := hP
  have hD : va_D A [(p0, .inr (1, [.int (nI wd), .int (nI hg), .ref aC, .ref aT, .ref aS, .ref rP, .ref rO, .ref rE])), (aS, .inl (cI, 4, .inl sd)), (rF, .inr (0, [.ref afx, .ref afy, .int (nI n)])), (afx, .inl (cI, cap, .inl fx)), (afy, .inl (cI, cap, .inl fy)), (rT, .inr (0, [.ref atx, .ref aty, .int 0])), (atx, .inl (cI, cap, .inl tx)), (aty, .inl (cI, cap, .inl ty))] := hD
  refine lv_aload_n hx hb dX1_pass_49 rfl (lv_at hl 5 rfl) ?_
  refine va_getN (D := D) (ci := 0) (v := .int (nI n)) (C := RX0) (T := TX0) (N := 3) hx hb hts nX1_pass_X0 hown hK.1 hP 2 rfl rfl 2 (by decide) (hK.2.count _) (fun _ h9 => h9) rfl dX1_pass_50 ?_
  refine lv_iconst (v := 1) hx hb dX1_pass_53 (by decide) ?_
  refine lv_isub hx hb dX1_pass_54 ?_
  refine lv_istore (lv' := [(8, .int ((nI n) - 1)), (7, .int (sd q)), (6, .ref afy), (5, .ref afx), (4, .int 1), (0, .ref p0), (1, .ref rF), (2, .ref rT), (3, .int (nI q))]) hx hb dX1_pass_55 hl (by decide) rfl (fun ls hl => ?_)
  refine lv_iconst (v := 0) hx hb dX1_pass_57 (by decide) ?_
  refine lv_istore (lv' := [(9, .int 0), (8, .int ((nI n) - 1)), (7, .int (sd q)), (6, .ref afy), (5, .ref afx), (4, .int 1), (0, .ref p0), (1, .ref rF), (2, .ref rT), (3, .int (nI q))]) hx hb dX1_pass_58 hl (by decide) rfl (fun ls hl => ?_)
  exact LOOP (n + 1) 0 (Nat.zero_le _) (by omega) (nI n - 1) (fun h => by rw [prN, if_pos rfl, ← pk_sub (a := n) (b := 1) (by omega)]; rfl) (Nat.zero_le _) H locs hP hD hS ls (lv_sub hl [6, 7, 8, 9, 5, 4, 3, 2, 1, 0] rfl)
set_option maxHeartbeats 4000000 in
set_option maxRecDepth 100000 in
theorem kX1_passY (l : Launch) (D : va_G) (cI cZ : ClassId) (sz : Nat) (p0 aC aT aS rP rO rE wd hg : Nat) (rF afx afy rT atx aty n cap : Nat) (tc : Int32) (sd fx fy tx ty : Nat → Int32) (q : Nat) (hq : q < 4) (hq2 : ¬ q < 2) (hn : n ≤ cap) (hc : cap ≤ 60) : Met l yX1_pass wsX1_pass ({ frames := 2, cells := 0, slots := 0, locals := 80 }) (va_Pc [.ref p0, .ref rF, .ref rT, .int (nI q)] (wrP D cI cZ sz [(p0, .inr (1, [.int (nI wd), .int (nI hg), .ref aC, .ref aT, .ref aS, .ref rP, .ref rO, .ref rE])), (aS, .inl (cI, 4, .inl sd)), (rF, .inr (0, [.ref afx, .ref afy, .int (nI n)])), (afx, .inl (cI, cap, .inl fx)), (afy, .inl (cI, cap, .inl fy)), (rT, .inr (0, [.ref atx, .ref aty, .int tc])), (atx, .inl (cI, cap, .inl tx)), (aty, .inl (cI, cap, .inl ty))])) (va_Qi (S := Nat × (Nat → Int32) × (Nat → Int32)) (fun r u => (r = 1 ∧ (psL q (sd q) fx fy n n).length ≤ cap ∧ u = (psV cap tx ty q (sd q) fx fy n n)) ∨ (r = 0 ∧ cap < (psL q (sd q) fx fy n n).length)) (wrB D [(p0, .inr (1, [.int (nI wd), .int (nI hg), .ref aC, .ref aT, .ref aS, .ref rP, .ref rO, .ref rE])), (aS, .inl (cI, 4, .inl sd)), (rF, .inr (0, [.ref afx, .ref afy, .int (nI n)])), (afx, .inl (cI, cap, .inl fx)), (afy, .inl (cI, cap, .inl fy)), (rT, .inr (0, [.ref atx, .ref aty, .int tc])), (atx, .inl (cI, cap, .inl tx)), (aty, .inl (cI, cap, .inl ty))] sz (fun z => [(p0, .inr (1, [.int (nI wd), .int (nI hg), .ref aC, .ref aT, .ref aS, .ref rP, .ref rO, .ref rE])), (aS, .inl (cI, 4, .inl sd)), (rF, .inr (0, [.ref afx, .ref afy, .int (nI n)])), (afx, .inl (cI, cap, .inl fx)), (afy, .inl (cI, cap, .inl fy)), (rT, .inr (0, [.ref atx, .ref aty, .int (nI z.1)])), (atx, .inl (cI, cap, .inl z.2.1)), (aty, .inl (cI, cap, .inl z.2.2))])) (va_A [(p0, .inr (1, [.int (nI wd), .int (nI hg), .ref aC, .ref aT, .ref aS, .ref rP, .ref rO, .ref rE])), (aS, .inl (cI, 4, .inl sd)), (rF, .inr (0, [.ref afx, .ref afy, .int (nI n)])), (afx, .inl (cI, cap, .inl fx)), (afy, .inl (cI, cap, .inl fy)), (rT, .inr (0, [.ref atx, .ref aty, .int tc])), (atx, .inl (cI, cap, .inl tx)), (aty, .inl (cI, cap, .inl ty))] sz)) 0 0 (va_A [(p0, .inr (1, [.int (nI wd), .int (nI hg), .ref aC, .ref aT, .ref aS, .ref rP, .ref rO, .ref rE])), (aS, .inl (cI, 4, .inl sd)), (rF, .inr (0, [.ref afx, .ref afy, .int (nI n)])), (afx, .inl (cI, cap, .inl fx)), (afy, .inl (cI, cap, .inl fy)), (rT, .inr (0, [.ref atx, .ref aty, .int tc])), (atx, .inl (cI, cap, .inl tx)), (aty, .inl (cI, cap, .inl ty))] sz) := by
  refine Met.ofW (cc := cX1_pass) (maxL := 12) (ret := (some .boolean)) (by decide) rfl ?_
  intro p e s m args below meth c s₁ B hml hv
  obtain ⟨rfl, hsz, hP, hK, hD0⟩ := hv
  have hx := B.exec
  have hb := B.bytes
  have hr := B.returns
  have hts := atoms_spec (ws := wsX1_pass) B.pre
  have hown : s.vm.findClass RX1 = some m.cls := findClass_of_methodNamed B.named
  have hlocks := B.notSynchronized
  subst hsz
  have hD := hD0.self (sz := s.heap.size)
  generalize hAe : va_A [(p0, .inr (1, [.int (nI wd), .int (nI hg), .ref aC, .ref aT, .ref aS, .ref rP, .ref rO, .ref rE])), (aS, .inl (cI, 4, .inl sd)), (rF, .inr (0, [.ref afx, .ref afy, .int (nI n)])), (afx, .inl (cI, cap, .inl fx)), (afy, .inl (cI, cap, .inl fy)), (rT, .inr (0, [.ref atx, .ref aty, .int tc])), (atx, .inl (cI, cap, .inl tx)), (aty, .inl (cI, cap, .inl ty))] s.heap.size = A at hD ⊢
  have hA : ∀ q : Nat, s.heap.size ≤ q → A q := fun q h => by rw [← hAe]; exact Or.inr h
  have hS : va_S A s.heap s.heap [] := va_S.rf
  have hP : va_P D vwCl [(p0, .inr (1, [.int (nI wd), .int (nI hg), .ref aC, .ref aT, .ref aS, .ref rP, .ref rO, .ref rE])), (aS, .inl (cI, 4, .inl sd)), (rF, .inr (0, [.ref afx, .ref afy, .int (nI n)])), (afx, .inl (cI, cap, .inl fx)), (afy, .inl (cI, cap, .inl fy)), (rT, .inr (0, [.ref atx, .ref aty, .int tc])), (atx, .inl (cI, cap, .inl tx)), (aty, .inl (cI, cap, .inl ty))] s.heap := hP
  have hl := lv_entry ([.ref p0, .ref rF, .ref rT, .int (nI q)]) (n := 12) (Nat.le_of_ble_eq_true rfl)
  rw [lg_entry_eq]
  generalize (lg_sl ([.ref p0, .ref rF, .ref rT, .int (nI q)]) ++ List.replicate (12 - (lg_sl ([.ref p0, .ref rF, .ref rT, .int (nI q)])).length) Slot.unset).toArray = ls at hl ⊢
  have hl : lv_has ls 12 [(0, .ref p0), (1, .ref rF), (2, .ref rT), (3, .int (nI q))] := hl
  have LOOP : ∀ (j k : Nat), k ≤ n → n < k + j → ∀ (b8 : Int32), (k < n → b8 = nI (prN n k)) → (psL q (sd q) fx fy n k).length ≤ cap → ∀ (H : Heap) (locs : List Loc), va_P D vwCl [(p0, .inr (1, [.int (nI wd), .int (nI hg), .ref aC, .ref aT, .ref aS, .ref rP, .ref rO, .ref rE])), (aS, .inl (cI, 4, .inl sd)), (rF, .inr (0, [.ref afx, .ref afy, .int (nI n)])), (afx, .inl (cI, cap, .inl fx)), (afy, .inl (cI, cap, .inl fy)), (rT, .inr (0, [.ref atx, .ref aty, .int (nI (psV cap tx ty q (sd q) fx fy n k).1)])), (atx, .inl (cI, cap, .inl ((psV cap tx ty q (sd q) fx fy n k).2.1))), (aty, .inl (cI, cap, .inl ((psV cap tx ty q (sd q) fx fy n k).2.2)))] H → va_D A [(p0, .inr (1, [.int (nI wd), .int (nI hg), .ref aC, .ref aT, .ref aS, .ref rP, .ref rO, .ref rE])), (aS, .inl (cI, 4, .inl sd)), (rF, .inr (0, [.ref afx, .ref afy, .int (nI n)])), (afx, .inl (cI, cap, .inl fx)), (afy, .inl (cI, cap, .inl fy)), (rT, .inr (0, [.ref atx, .ref aty, .int (nI (psV cap tx ty q (sd q) fx fy n k).1)])), (atx, .inl (cI, cap, .inl ((psV cap tx ty q (sd q) fx fy n k).2.1))), (aty, .inl (cI, cap, .inl ((psV cap tx ty q (sd q) fx fy n k).2.2)))] → va_S A s.heap H locs → ∀ ls : Array Slot, lv_has ls 12 [(0, .ref p0), (1, .ref rF), (2, .ref rT), (3, .int (nI q)), (4, .int 0), (5, .ref afy), (6, .ref afx), (7, .int (sd q)), (8, .int b8), (9, .int (nI k))] → W p l e ({ frames := 2, cells := 0, slots := 0, locals := 80 } : Room) s m #[.ref p0, .ref rF, .ref rT, .int (nI q)] below meth c H locs 0 0 (MQ below (va_Qi (S := Nat × (Nat → Int32) × (Nat → Int32)) (fun r u => (r = 1 ∧ (psL q (sd q) fx fy n n).length ≤ cap ∧ u = (psV cap tx ty q (sd q) fx fy n n)) ∨ (r = 0 ∧ cap < (psL q (sd q) fx fy n n).length)) (wrB D [(p0, .inr (1, [.int (nI wd), .int (nI hg), .ref aC, .ref aT, .ref aS, .ref rP, .ref rO, .ref rE])), (aS, .inl (cI, 4, .inl sd)), (rF, .inr (0, [.ref afx, .ref afy, .int (nI n)])), (afx, .inl (cI, cap, .inl fx)), (afy, .inl (cI, cap, .inl fy)), (rT, .inr (0, [.ref atx, .ref aty, .int tc])), (atx, .inl (cI, cap, .inl tx)), (aty, .inl (cI, cap, .inl ty))] s.heap.size (fun z => [(p0, .inr (1, [.int (nI wd), .int (nI hg), .ref aC, .ref aT, .ref aS, .ref rP, .ref rO, .ref rE])), (aS, .inl (cI, 4, .inl sd)), (rF, .inr (0, [.ref afx, .ref afy, .int (nI n)])), (afx, .inl (cI, cap, .inl fx)), (afy, .inl (cI, cap, .inl fy)), (rT, .inr (0, [.ref atx, .ref aty, .int (nI z.1)])), (atx, .inl (cI, cap, .inl z.2.1)), (aty, .inl (cI, cap, .inl z.2.2))])) A) #[.ref p0, .ref rF, .ref rT, .int (nI q)] s 0 0 A) (F0 m 60 ls []) := by
    intro j
    induction j with
    | zero => intro k h1 h2; omega
    | succ j ih =>
      intro k hk hkj b8 hb8 hlen H locs hP hD hS ls hl
      have hv : (psV cap tx ty q (sd q) fx fy n k).1 ≤ cap := by rw [psV_1]; exact hlen
      refine lv_iload hx hb dX1_pass_60 (lv_at hl 9 rfl) ?_
      refine lv_aload_n hx hb dX1_pass_62 rfl (lv_at hl 1 rfl) ?_
      refine va_getN (D := D) (ci := 0) (v := .int (nI n)) (C := RX0) (T := TX0) (N := 3) hx hb hts nX1_pass_X0 hown hK.1 hP 2 rfl rfl 2 (by decide) (hK.2.count _) (fun _ h9 => h9) rfl dX1_pass_63 ?_
      refine lv_icmp_ge (tgt := 194) hx hb dX1_pass_66 (by decide) (fun c66 => ?_) (fun c66 => ?_)
      · skip
        refine lv_iconst (v := 1) hx hb dX1_pass_194 (by decide) ?_
        have hkn : k = n := Nat.le_antisymm hk ((nI_leI (by omega) (by omega)).mp c66)
        rw [hkn] at hP hD hlen
        exact W.zret (v := 1) hx hb hr rfl (fun t ht hW => ⟨⟨1, (psV cap tx ty q (sd q) fx fy n n), rfl, Or.inl ⟨rfl, hlen, rfl⟩, by rw [ht]; exact hP, by rw [hAe]; exact hD⟩, hS.F ht⟩) hS.2.2 dX1_pass_195
      · skip
        have hk2 : k < n := Nat.lt_of_not_le (fun h => c66 (nI_le h (by omega)))
        have hp := prN_lt hk2
        have e8 := hb8 hk2
        subst e8
        refine lv_aload_n hx hb dX1_pass_69 rfl (lv_at hl 0 rfl) ?_
        refine lv_aload hx hb dX1_pass_70 (lv_at hl 5 rfl) ?_
        refine lv_iload hx hb dX1_pass_72 (lv_at hl 9 rfl) ?_
        refine q_iald (k := k) hx hb hK.1 hP 4 0 rfl rfl (by omega) (by omega) dX1_pass_74 ?_
        refine lv_iload_n hx hb dX1_pass_75 rfl (lv_at hl 3 rfl) ?_
        refine rd_i (va_runV (As := [.int (fy k), .int (nI q)]) ⟨hx, hb, hml, hown, hts⟩ (kX1_isGood l D cI cZ p0 aC aT aS rP rO rE (nI wd) (nI hg) sd (fy k) q hq) (cwV 2 hts gX1_pass_X1_isGood rfl rfl rfl (by decide +kernel) ⟨Nat.le_of_ble_eq_true rfl, Nat.le_of_ble_eq_true rfl⟩) (rd_preV (ci := 1) (q0 := 0) (hP.sub [0, 1] rfl) hK rfl rfl) rfl rfl hl.1 rfl (lv_room (Nat.le_of_ble_eq_true rfl)) dX1_pass_76 ⟨Nat.zero_le _, Nat.zero_le _⟩) ?_
        refine q_eq (show bI (gdB q (fy k) (sd q)) = bI (gV q (sd q) fx fy k) by rw [gV, if_neg hq2]) ?_
        refine lv_istore (lv' := [(10, .int (bI (gV q (sd q) fx fy k))), (0, .ref p0), (1, .ref rF), (2, .ref rT), (3, .int (nI q)), (4, .int 0), (5, .ref afy), (6, .ref afx), (7, .int (sd q)), (8, .int (nI (prN n k))), (9, .int (nI k))]) hx hb dX1_pass_79 hl (by decide) rfl (fun ls hl => ?_)
        refine lv_iload hx hb dX1_pass_81 (lv_at hl 0 rfl) ?_
        refine lv_aload_n hx hb dX1_pass_83 rfl (lv_at hl 1 rfl) ?_
        refine lv_aload hx hb dX1_pass_84 (lv_at hl 6 rfl) ?_
        refine lv_iload hx hb dX1_pass_86 (lv_at hl 9 rfl) ?_
        refine q_iald (k := (prN n k)) hx hb hK.1 hP 4 0 rfl rfl (Nat.lt_of_lt_of_le hp hn) (by omega) dX1_pass_88 ?_
        refine lv_iload_n hx hb dX1_pass_89 rfl (lv_at hl 4 rfl) ?_
        refine rd_i (va_runV (As := [.int (fy (prN n k)), .int (nI q)]) ⟨hx, hb, hml, hown, hts⟩ (kX1_isGood l D cI cZ p0 aC aT aS rP rO rE (nI wd) (nI hg) sd (fy (prN n k)) q hq) (cwV 2 hts gX1_pass_X1_isGood rfl rfl rfl (by decide +kernel) ⟨Nat.le_of_ble_eq_true rfl, Nat.le_of_ble_eq_true rfl⟩) (rd_preV (ci := 1) (q0 := 0) (hP.sub [0, 1] rfl) hK rfl rfl) rfl rfl hl.1 rfl (lv_room (Nat.le_of_ble_eq_true rfl)) dX1_pass_90 ⟨Nat.zero_le _, Nat.zero_le _⟩) ?_
        refine q_eq (show bI (gdB q (fy (prN n k)) (sd q)) = bI (gV q (sd q) fx fy (prN n k)) by rw [gV, if_neg hq2]) ?_
        refine lv_icmp_eq (tgt := 156) hx hb dX1_pass_93 (by decide) (fun c93 => ?_) (fun c93 => ?_)
        · skip
          refine lv_iload hx hb dX1_pass_156 (lv_at hl 0 rfl) ?_
          refine lv_if_eq (tgt := 184) hx hb dX1_pass_158 (by decide) (fun c158 => ?_) (fun c158 => ?_)
          · skip
            refine lv_iload hx hb dX1_pass_184 (lv_at hl 10 rfl) ?_
            refine lv_istore (lv' := [(8, .int (nI k)), (10, .int (bI (gV q (sd q) fx fy k))), (0, .ref p0), (1, .ref rF), (2, .ref rT), (3, .int (nI q)), (4, .int 0), (5, .ref afy), (6, .ref afx), (7, .int (sd q)), (9, .int (nI k))]) hx hb dX1_pass_186 hl (by decide) rfl (fun ls hl => ?_)
            refine lv_iinc (v := (nI (k + 1))) (lv' := [(9, .int (nI (k + 1))), (8, .int (nI k)), (10, .int (bI (gV q (sd q) fx fy k))), (0, .ref p0), (1, .ref rF), (2, .ref rT), (3, .int (nI q)), (4, .int 0), (5, .ref afy), (6, .ref afx), (7, .int (sd q))]) hx hb dX1_pass_188 hl (k := 10) rfl (nI_1 _) (by decide) rfl (fun ls hl => ?_)
            have e : (psV cap tx ty q (sd q) fx fy n k) = (psV cap tx ty q (sd q) fx fy n (k + 1)) := by rw [psV, psV, psL, psL, out_00 (bI_eq.mp c93) (bI_eq0.mp c158)]
            have hlen2 : (psL q (sd q) fx fy n (k + 1)).length ≤ cap := by rw [← psV_1 (cap := cap) (tx := tx) (ty := ty), ← e]; exact hv
            refine lv_goto (tgt := 60) hx hb dX1_pass_191 (by decide) ?_
            rw [e] at hP hD
            exact ih (k + 1) (by omega) (by omega) (nI k) (fun _ => by rw [prN, if_neg (Nat.succ_ne_zero k)]; rfl) hlen2 H locs hP hD hS ls (lv_sub hl [3, 4, 5, 6, 7, 8, 9, 10, 1, 0] rfl)
          · skip
            refine lv_aload_n hx hb dX1_pass_161 rfl (lv_at hl 3 rfl) ?_
            refine lv_aload_n hx hb dX1_pass_162 rfl (lv_at hl 2 rfl) ?_
            refine va_getN (D := D) (ci := 0) (v := .ref afx) (C := RX0) (T := TX0) (N := 3) hx hb hts nX1_pass_X0 hown hK.1 hP 2 rfl rfl 0 (by decide) (hK.2.xs _) (fun _ h9 => h9) rfl dX1_pass_163 ?_
            refine lv_iload hx hb dX1_pass_166 (lv_at hl 10 rfl) ?_
            refine q_iald (k := k) hx hb hK.1 hP 3 0 rfl rfl (by omega) (by omega) dX1_pass_168 ?_
            refine lv_aload_n hx hb dX1_pass_169 rfl (lv_at hl 2 rfl) ?_
            refine va_getN (D := D) (ci := 0) (v := .ref afy) (C := RX0) (T := TX0) (N := 3) hx hb hts nX1_pass_X0 hown hK.1 hP 2 rfl rfl 1 (by decide) (hK.2.ys _) (fun _ h9 => h9) rfl dX1_pass_170 ?_
            refine lv_iload hx hb dX1_pass_173 (lv_at hl 10 rfl) ?_
            refine q_iald (k := k) hx hb hK.1 hP 4 0 rfl rfl (by omega) (by omega) dX1_pass_175 ?_
            refine wr_i (wr := [(p0, .inr (1, [.int (nI wd), .int (nI hg), .ref aC, .ref aT, .ref aS, .ref rP, .ref rO, .ref rE])), (aS, .inl (cI, 4, .inl sd)), (rF, .inr (0, [.ref afx, .ref afy, .int (nI n)])), (afx, .inl (cI, cap, .inl fx)), (afy, .inl (cI, cap, .inl fy))]) hP hD hS hA [5, 6, 7] [0, 1, 2, 3, 4] rfl rfl (by decide) (by decide) (va_runVN (C := RX0) (As := [.int (fx k), .int (fy k)]) ⟨hx, hb, hml, hown, hts⟩ (kX0_append l D cI cZ H.size rT atx aty (psV cap tx ty q (sd q) fx fy n k).1 cap (psV cap tx ty q (sd q) fx fy n k).2.1 (psV cap tx ty q (sd q) fx fy n k).2.2 (fx k) (fy k) hv hc) ⟨va_cnB 2 hts gX1_pass_X0_append_n59 rfl rfl rfl hK.2.2.2.2.2.1 (hts (.initialized RX0) (by decide +kernel)) (by decide +kernel) ⟨Nat.le_of_ble_eq_true rfl, Nat.le_of_ble_eq_true rfl⟩, hts (.instanceMethod yX0_append) (by decide +kernel), hts (.selects RX0 yX0_append yX0_append) (by decide +kernel)⟩ (wr_preV (ci := 0) (q0 := 0) (hP.sub [5, 6, 7] rfl) hK (hD.sub [5, 6, 7] (by decide) rfl) rfl rfl) rfl rfl hl.1 rfl (lv_room (Nat.le_of_ble_eq_true rfl)) dX1_pass_176 ⟨Nat.zero_le _, Nat.zero_le _⟩) (fun r2 u2 H locs hw2 hP hD hS => ?_)
            rcases hw2 with ⟨hw2, rfl, hu2⟩ | ⟨hw2, rfl, hu2⟩
            · skip
              replace hP : va_P D vwCl [(p0, .inr (1, [.int (nI wd), .int (nI hg), .ref aC, .ref aT, .ref aS, .ref rP, .ref rO, .ref rE])), (aS, .inl (cI, 4, .inl sd)), (rF, .inr (0, [.ref afx, .ref afy, .int (nI n)])), (afx, .inl (cI, cap, .inl fx)), (afy, .inl (cI, cap, .inl fy)), (rT, .inr (0, [.ref atx, .ref aty, .int (nI u2.1)])), (atx, .inl (cI, cap, .inl u2.2.1)), (aty, .inl (cI, cap, .inl u2.2.2))] H := hP.sub [0, 1, 2, 3, 4, 5, 6, 7] rfl
              replace hD : va_D A [(p0, .inr (1, [.int (nI wd), .int (nI hg), .ref aC, .ref aT, .ref aS, .ref rP, .ref rO, .ref rE])), (aS, .inl (cI, 4, .inl sd)), (rF, .inr (0, [.ref afx, .ref afy, .int (nI n)])), (afx, .inl (cI, cap, .inl fx)), (afy, .inl (cI, cap, .inl fy)), (rT, .inr (0, [.ref atx, .ref aty, .int (nI u2.1)])), (atx, .inl (cI, cap, .inl u2.2.1)), (aty, .inl (cI, cap, .inl u2.2.2))] := hD.sub [0, 1, 2, 3, 4, 5, 6, 7] (by decide) rfl
              refine lv_if_ne (tgt := 184) hx hb dX1_pass_179 (by decide) (fun c179 => ?_) (fun c179 => absurd c179 (by decide))
              refine lv_iload hx hb dX1_pass_184 (lv_at hl 10 rfl) ?_
              refine lv_istore (lv' := [(8, .int (nI k)), (10, .int (bI (gV q (sd q) fx fy k))), (0, .ref p0), (1, .ref rF), (2, .ref rT), (3, .int (nI q)), (4, .int 0), (5, .ref afy), (6, .ref afx), (7, .int (sd q)), (9, .int (nI k))]) hx hb dX1_pass_186 hl (by decide) rfl (fun ls hl => ?_)
              refine lv_iinc (v := (nI (k + 1))) (lv' := [(9, .int (nI (k + 1))), (8, .int (nI k)), (10, .int (bI (gV q (sd q) fx fy k))), (0, .ref p0), (1, .ref rF), (2, .ref rT), (3, .int (nI q)), (4, .int 0), (5, .ref afy), (6, .ref afx), (7, .int (sd q))]) hx hb dX1_pass_188 hl (k := 10) rfl (nI_1 _) (by decide) rfl (fun ls hl => ?_)
              have e : u2 = (psV cap tx ty q (sd q) fx fy n (k + 1)) := by rw [psV, psL, out_01 (bI_eq.mp c93) (bI_ne c158), mpU_snoc, hu2]; unfold psV psL at hw2; rw [adP, if_pos hw2]; rfl
              have hlen2 : (psL q (sd q) fx fy n (k + 1)).length ≤ cap := by rw [← psV_1 (cap := cap) (tx := tx) (ty := ty), ← e, hu2]; exact hw2
              refine lv_goto (tgt := 60) hx hb dX1_pass_191 (by decide) ?_
              rw [e] at hP hD
              exact ih (k + 1) (by omega) (by omega) (nI k) (fun _ => by rw [prN, if_neg (Nat.succ_ne_zero k)]; rfl) hlen2 H locs hP hD hS ls (lv_sub hl [3, 4, 5, 6, 7, 8, 9, 10, 1, 0] rfl)
            · skip
              replace hP : va_P D vwCl [(p0, .inr (1, [.int (nI wd), .int (nI hg), .ref aC, .ref aT, .ref aS, .ref rP, .ref rO, .ref rE])), (aS, .inl (cI, 4, .inl sd)), (rF, .inr (0, [.ref afx, .ref afy, .int (nI n)])), (afx, .inl (cI, cap, .inl fx)), (afy, .inl (cI, cap, .inl fy)), (rT, .inr (0, [.ref atx, .ref aty, .int (nI u2.1)])), (atx, .inl (cI, cap, .inl u2.2.1)), (aty, .inl (cI, cap, .inl u2.2.2))] H := hP.sub [0, 1, 2, 3, 4, 5, 6, 7] rfl
              replace hD : va_D A [(p0, .inr (1, [.int (nI wd), .int (nI hg), .ref aC, .ref aT, .ref aS, .ref rP, .ref rO, .ref rE])), (aS, .inl (cI, 4, .inl sd)), (rF, .inr (0, [.ref afx, .ref afy, .int (nI n)])), (afx, .inl (cI, cap, .inl fx)), (afy, .inl (cI, cap, .inl fy)), (rT, .inr (0, [.ref atx, .ref aty, .int (nI u2.1)])), (atx, .inl (cI, cap, .inl u2.2.1)), (aty, .inl (cI, cap, .inl u2.2.2))] := hD.sub [0, 1, 2, 3, 4, 5, 6, 7] (by decide) rfl
              refine lv_if_ne (tgt := 184) hx hb dX1_pass_179 (by decide) (fun c179 => absurd (by decide) c179) (fun c179 => ?_)
              refine lv_iconst (v := 0) hx hb dX1_pass_182 (by decide) ?_
              exact W.zret (v := 0) hx hb hr rfl (fun t ht hW => ⟨⟨0, u2, rfl, Or.inr ⟨rfl, by have a := ps_good0 (bI_ne c158) hk2; rw [psV_1] at hw2; omega⟩, by rw [ht]; exact hP, by rw [hAe]; exact hD⟩, hS.F ht⟩) hS.2.2 dX1_pass_183
        · skip
          refine lv_aload hx hb dX1_pass_96 (lv_at hl 6 rfl) ?_
          refine lv_iload hx hb dX1_pass_98 (lv_at hl 9 rfl) ?_
          refine q_iald (k := (prN n k)) hx hb hK.1 hP 4 0 rfl rfl (Nat.lt_of_lt_of_le hp hn) (by omega) dX1_pass_100 ?_
          refine lv_aload hx hb dX1_pass_101 (lv_at hl 7 rfl) ?_
          refine lv_iload hx hb dX1_pass_103 (lv_at hl 9 rfl) ?_
          refine q_iald (k := (prN n k)) hx hb hK.1 hP 3 0 rfl rfl (Nat.lt_of_lt_of_le hp hn) (by omega) dX1_pass_105 ?_
          refine lv_aload hx hb dX1_pass_106 (lv_at hl 6 rfl) ?_
          refine lv_iload hx hb dX1_pass_108 (lv_at hl 10 rfl) ?_
          refine q_iald (k := k) hx hb hK.1 hP 4 0 rfl rfl (by omega) (by omega) dX1_pass_110 ?_
          refine lv_aload hx hb dX1_pass_111 (lv_at hl 7 rfl) ?_
          refine lv_iload hx hb dX1_pass_113 (lv_at hl 10 rfl) ?_
          refine q_iald (k := k) hx hb hK.1 hP 3 0 rfl rfl (by omega) (by omega) dX1_pass_115 ?_
          refine lv_iload hx hb dX1_pass_116 (lv_at hl 8 rfl) ?_
          have hgg : ¬ (gV q (sd q) fx fy k) = (gV q (sd q) fx fy (prN n k)) := fun h => c93 (by rw [h])
          have hgd : ¬ fy k - fy (prN n k) = 0 := gd_ne (q := q) (s := sd q) (fun h => hgg (by rw [gV, gV, if_neg hq2, if_neg hq2]; exact h))
          refine rd_i (va_runS (As := [.int (fy (prN n k)), .int (fx (prN n k)), .int (fy k), .int (fx k), .int (sd q)]) ⟨hx, hb, hml, hown, hts⟩ (kX1_cutAcross l D cI cZ (fy (prN n k)) (fx (prN n k)) (fy k) (fx k) (sd q) hgd) (va_cwS 5 hts gX1_pass_X1_cutAcross rfl rfl rfl (by decide +kernel) ⟨Nat.le_of_ble_eq_true rfl, Nat.le_of_ble_eq_true rfl⟩) rd_pre0 rfl rfl hl.1 rfl (lv_room (Nat.le_of_ble_eq_true rfl)) dX1_pass_118 ⟨Nat.zero_le _, Nat.zero_le _⟩) ?_
          refine lv_istore (lv' := [(11, .int (caI (fy (prN n k)) (fx (prN n k)) (fy k) (fx k) (sd q))), (10, .int (bI (gV q (sd q) fx fy k))), (0, .ref p0), (1, .ref rF), (2, .ref rT), (3, .int (nI q)), (4, .int 0), (5, .ref afy), (6, .ref afx), (7, .int (sd q)), (8, .int (nI (prN n k))), (9, .int (nI k))]) hx hb dX1_pass_121 hl (by decide) rfl (fun ls hl => ?_)
          refine lv_aload_n hx hb dX1_pass_123 rfl (lv_at hl 4 rfl) ?_
          refine lv_iload hx hb dX1_pass_124 (lv_at hl 6 rfl) ?_
          refine lv_if_eq (tgt := 134) hx hb dX1_pass_126 (by decide) (fun c126 => ?_) (fun c126 => absurd (by decide) c126)
          refine lv_iload hx hb dX1_pass_134 (lv_at hl 0 rfl) ?_
          refine lv_iload hx hb dX1_pass_136 (lv_at hl 6 rfl) ?_
          refine lv_if_eq (tgt := 146) hx hb dX1_pass_138 (by decide) (fun c138 => ?_) (fun c138 => absurd (by decide) c138)
          refine lv_iload hx hb dX1_pass_146 (lv_at hl 9 rfl) ?_
          refine wr_i (wr := [(p0, .inr (1, [.int (nI wd), .int (nI hg), .ref aC, .ref aT, .ref aS, .ref rP, .ref rO, .ref rE])), (aS, .inl (cI, 4, .inl sd)), (rF, .inr (0, [.ref afx, .ref afy, .int (nI n)])), (afx, .inl (cI, cap, .inl fx)), (afy, .inl (cI, cap, .inl fy))]) hP hD hS hA [5, 6, 7] [0, 1, 2, 3, 4] rfl rfl (by decide) (by decide) (va_runVN (C := RX0) (As := [.int (caI (fy (prN n k)) (fx (prN n k)) (fy k) (fx k) (sd q)), .int (sd q)]) ⟨hx, hb, hml, hown, hts⟩ (kX0_append l D cI cZ H.size rT atx aty (psV cap tx ty q (sd q) fx fy n k).1 cap (psV cap tx ty q (sd q) fx fy n k).2.1 (psV cap tx ty q (sd q) fx fy n k).2.2 (caI (fy (prN n k)) (fx (prN n k)) (fy k) (fx k) (sd q)) (sd q) hv hc) ⟨va_cnB 2 hts gX1_pass_X0_append_n59 rfl rfl rfl hK.2.2.2.2.2.1 (hts (.initialized RX0) (by decide +kernel)) (by decide +kernel) ⟨Nat.le_of_ble_eq_true rfl, Nat.le_of_ble_eq_true rfl⟩, hts (.instanceMethod yX0_append) (by decide +kernel), hts (.selects RX0 yX0_append yX0_append) (by decide +kernel)⟩ (wr_preV (ci := 0) (q0 := 0) (hP.sub [5, 6, 7] rfl) hK (hD.sub [5, 6, 7] (by decide) rfl) rfl rfl) rfl rfl hl.1 rfl (lv_room (Nat.le_of_ble_eq_true rfl)) dX1_pass_148 ⟨Nat.zero_le _, Nat.zero_le _⟩) (fun r1 u1 H locs hw1 hP hD hS => ?_)
          rcases hw1 with ⟨hw1, rfl, hu1⟩ | ⟨hw1, rfl, hu1⟩
          · skip
            replace hP : va_P D vwCl [(p0, .inr (1, [.int (nI wd), .int (nI hg), .ref aC, .ref aT, .ref aS, .ref rP, .ref rO, .ref rE])), (aS, .inl (cI, 4, .inl sd)), (rF, .inr (0, [.ref afx, .ref afy, .int (nI n)])), (afx, .inl (cI, cap, .inl fx)), (afy, .inl (cI, cap, .inl fy)), (rT, .inr (0, [.ref atx, .ref aty, .int (nI u1.1)])), (atx, .inl (cI, cap, .inl u1.2.1)), (aty, .inl (cI, cap, .inl u1.2.2))] H := hP.sub [0, 1, 2, 3, 4, 5, 6, 7] rfl
            replace hD : va_D A [(p0, .inr (1, [.int (nI wd), .int (nI hg), .ref aC, .ref aT, .ref aS, .ref rP, .ref rO, .ref rE])), (aS, .inl (cI, 4, .inl sd)), (rF, .inr (0, [.ref afx, .ref afy, .int (nI n)])), (afx, .inl (cI, cap, .inl fx)), (afy, .inl (cI, cap, .inl fy)), (rT, .inr (0, [.ref atx, .ref aty, .int (nI u1.1)])), (atx, .inl (cI, cap, .inl u1.2.1)), (aty, .inl (cI, cap, .inl u1.2.2))] := hD.sub [0, 1, 2, 3, 4, 5, 6, 7] (by decide) rfl
            refine lv_if_ne (tgt := 156) hx hb dX1_pass_151 (by decide) (fun c151 => ?_) (fun c151 => absurd c151 (by decide))
            refine lv_iload hx hb dX1_pass_156 (lv_at hl 1 rfl) ?_
            refine lv_if_eq (tgt := 184) hx hb dX1_pass_158 (by decide) (fun c158 => ?_) (fun c158 => ?_)
            · skip
              refine lv_iload hx hb dX1_pass_184 (lv_at hl 11 rfl) ?_
              refine lv_istore (lv' := [(8, .int (nI k)), (11, .int (caI (fy (prN n k)) (fx (prN n k)) (fy k) (fx k) (sd q))), (10, .int (bI (gV q (sd q) fx fy k))), (0, .ref p0), (1, .ref rF), (2, .ref rT), (3, .int (nI q)), (4, .int 0), (5, .ref afy), (6, .ref afx), (7, .int (sd q)), (9, .int (nI k))]) hx hb dX1_pass_186 hl (by decide) rfl (fun ls hl => ?_)
              refine lv_iinc (v := (nI (k + 1))) (lv' := [(9, .int (nI (k + 1))), (8, .int (nI k)), (11, .int (caI (fy (prN n k)) (fx (prN n k)) (fy k) (fx k) (sd q))), (10, .int (bI (gV q (sd q) fx fy k))), (0, .ref p0), (1, .ref rF), (2, .ref rT), (3, .int (nI q)), (4, .int 0), (5, .ref afy), (6, .ref afx), (7, .int (sd q))]) hx hb dX1_pass_188 hl (k := 11) rfl (nI_1 _) (by decide) rfl (fun ls hl => ?_)
              have e : u1 = (psV cap tx ty q (sd q) fx fy n (k + 1)) := by rw [psV, psL, out_10 hgg (bI_eq0.mp c158), mpU_snoc, ctV, if_neg hq2, hu1]; unfold psV psL at hw1; rw [adP, if_pos hw1]; rfl
              have hlen2 : (psL q (sd q) fx fy n (k + 1)).length ≤ cap := by rw [← psV_1 (cap := cap) (tx := tx) (ty := ty), ← e, hu1]; exact hw1
              refine lv_goto (tgt := 60) hx hb dX1_pass_191 (by decide) ?_
              rw [e] at hP hD
              exact ih (k + 1) (by omega) (by omega) (nI k) (fun _ => by rw [prN, if_neg (Nat.succ_ne_zero k)]; rfl) hlen2 H locs hP hD hS ls (lv_sub hl [4, 5, 6, 7, 8, 9, 10, 11, 1, 0] rfl)
            · skip
              refine lv_aload_n hx hb dX1_pass_161 rfl (lv_at hl 4 rfl) ?_
              refine lv_aload_n hx hb dX1_pass_162 rfl (lv_at hl 3 rfl) ?_
              refine va_getN (D := D) (ci := 0) (v := .ref afx) (C := RX0) (T := TX0) (N := 3) hx hb hts nX1_pass_X0 hown hK.1 hP 2 rfl rfl 0 (by decide) (hK.2.xs _) (fun _ h9 => h9) rfl dX1_pass_163 ?_
              refine lv_iload hx hb dX1_pass_166 (lv_at hl 11 rfl) ?_
              refine q_iald (k := k) hx hb hK.1 hP 3 0 rfl rfl (by omega) (by omega) dX1_pass_168 ?_
              refine lv_aload_n hx hb dX1_pass_169 rfl (lv_at hl 3 rfl) ?_
              refine va_getN (D := D) (ci := 0) (v := .ref afy) (C := RX0) (T := TX0) (N := 3) hx hb hts nX1_pass_X0 hown hK.1 hP 2 rfl rfl 1 (by decide) (hK.2.ys _) (fun _ h9 => h9) rfl dX1_pass_170 ?_
              refine lv_iload hx hb dX1_pass_173 (lv_at hl 11 rfl) ?_
              refine q_iald (k := k) hx hb hK.1 hP 4 0 rfl rfl (by omega) (by omega) dX1_pass_175 ?_
              refine wr_i (wr := [(p0, .inr (1, [.int (nI wd), .int (nI hg), .ref aC, .ref aT, .ref aS, .ref rP, .ref rO, .ref rE])), (aS, .inl (cI, 4, .inl sd)), (rF, .inr (0, [.ref afx, .ref afy, .int (nI n)])), (afx, .inl (cI, cap, .inl fx)), (afy, .inl (cI, cap, .inl fy))]) hP hD hS hA [5, 6, 7] [0, 1, 2, 3, 4] rfl rfl (by decide) (by decide) (va_runVN (C := RX0) (As := [.int (fx k), .int (fy k)]) ⟨hx, hb, hml, hown, hts⟩ (kX0_append l D cI cZ H.size rT atx aty u1.1 cap u1.2.1 u1.2.2 (fx k) (fy k) (by rw [hu1]; exact hw1) hc) ⟨va_cnB 2 hts gX1_pass_X0_append_n59 rfl rfl rfl hK.2.2.2.2.2.1 (hts (.initialized RX0) (by decide +kernel)) (by decide +kernel) ⟨Nat.le_of_ble_eq_true rfl, Nat.le_of_ble_eq_true rfl⟩, hts (.instanceMethod yX0_append) (by decide +kernel), hts (.selects RX0 yX0_append yX0_append) (by decide +kernel)⟩ (wr_preV (ci := 0) (q0 := 0) (hP.sub [5, 6, 7] rfl) hK (hD.sub [5, 6, 7] (by decide) rfl) rfl rfl) rfl rfl hl.1 rfl (lv_room (Nat.le_of_ble_eq_true rfl)) dX1_pass_176 ⟨Nat.zero_le _, Nat.zero_le _⟩) (fun r2 u2 H locs hw2 hP hD hS => ?_)
              rcases hw2 with ⟨hw2, rfl, hu2⟩ | ⟨hw2, rfl, hu2⟩
              · skip
                replace hP : va_P D vwCl [(p0, .inr (1, [.int (nI wd), .int (nI hg), .ref aC, .ref aT, .ref aS, .ref rP, .ref rO, .ref rE])), (aS, .inl (cI, 4, .inl sd)), (rF, .inr (0, [.ref afx, .ref afy, .int (nI n)])), (afx, .inl (cI, cap, .inl fx)), (afy, .inl (cI, cap, .inl fy)), (rT, .inr (0, [.ref atx, .ref aty, .int (nI u2.1)])), (atx, .inl (cI, cap, .inl u2.2.1)), (aty, .inl (cI, cap, .inl u2.2.2))] H := hP.sub [0, 1, 2, 3, 4, 5, 6, 7] rfl
                replace hD : va_D A [(p0, .inr (1, [.int (nI wd), .int (nI hg), .ref aC, .ref aT, .ref aS, .ref rP, .ref rO, .ref rE])), (aS, .inl (cI, 4, .inl sd)), (rF, .inr (0, [.ref afx, .ref afy, .int (nI n)])), (afx, .inl (cI, cap, .inl fx)), (afy, .inl (cI, cap, .inl fy)), (rT, .inr (0, [.ref atx, .ref aty, .int (nI u2.1)])), (atx, .inl (cI, cap, .inl u2.2.1)), (aty, .inl (cI, cap, .inl u2.2.2))] := hD.sub [0, 1, 2, 3, 4, 5, 6, 7] (by decide) rfl
                refine lv_if_ne (tgt := 184) hx hb dX1_pass_179 (by decide) (fun c179 => ?_) (fun c179 => absurd c179 (by decide))
                refine lv_iload hx hb dX1_pass_184 (lv_at hl 11 rfl) ?_
                refine lv_istore (lv' := [(8, .int (nI k)), (11, .int (caI (fy (prN n k)) (fx (prN n k)) (fy k) (fx k) (sd q))), (10, .int (bI (gV q (sd q) fx fy k))), (0, .ref p0), (1, .ref rF), (2, .ref rT), (3, .int (nI q)), (4, .int 0), (5, .ref afy), (6, .ref afx), (7, .int (sd q)), (9, .int (nI k))]) hx hb dX1_pass_186 hl (by decide) rfl (fun ls hl => ?_)
                refine lv_iinc (v := (nI (k + 1))) (lv' := [(9, .int (nI (k + 1))), (8, .int (nI k)), (11, .int (caI (fy (prN n k)) (fx (prN n k)) (fy k) (fx k) (sd q))), (10, .int (bI (gV q (sd q) fx fy k))), (0, .ref p0), (1, .ref rF), (2, .ref rT), (3, .int (nI q)), (4, .int 0), (5, .ref afy), (6, .ref afx), (7, .int (sd q))]) hx hb dX1_pass_188 hl (k := 11) rfl (nI_1 _) (by decide) rfl (fun ls hl => ?_)
                have e2 : u2 = adP cap u1 (fx k) (fy k) := by rw [hu2, adP, if_pos hw2]
                have e1 : u1 = adP cap (psV cap tx ty q (sd q) fx fy n k) (caI (fy (prN n k)) (fx (prN n k)) (fy k) (fx k) (sd q)) (sd q) := by rw [hu1, adP, if_pos hw1]
                have e : u2 = (psV cap tx ty q (sd q) fx fy n (k + 1)) := by rw [psV, psL, out_11 hgg (bI_ne c158), mpU_snoc, mpU_snoc, e2, e1, ctV, if_neg hq2]; rfl
                have hlen2 : (psL q (sd q) fx fy n (k + 1)).length ≤ cap := by rw [← psV_1 (cap := cap) (tx := tx) (ty := ty), ← e, hu2]; exact hw2
                refine lv_goto (tgt := 60) hx hb dX1_pass_191 (by decide) ?_
                rw [e] at hP hD
                exact ih (k + 1) (by omega) (by omega) (nI k) (fun _ => by rw [prN, if_neg (Nat.succ_ne_zero k)]; rfl) hlen2 H locs hP hD hS ls (lv_sub hl [4, 5, 6, 7, 8, 9, 10, 11, 1, 0] rfl)
              · skip
                replace hP : va_P D vwCl [(p0, .inr (1, [.int (nI wd), .int (nI hg), .ref aC, .ref aT, .ref aS, .ref rP, .ref rO, .ref rE])), (aS, .inl (cI, 4, .inl sd)), (rF, .inr (0, [.ref afx, .ref afy, .int (nI n)])), (afx, .inl (cI, cap, .inl fx)), (afy, .inl (cI, cap, .inl fy)), (rT, .inr (0, [.ref atx, .ref aty, .int (nI u2.1)])), (atx, .inl (cI, cap, .inl u2.2.1)), (aty, .inl (cI, cap, .inl u2.2.2))] H := hP.sub [0, 1, 2, 3, 4, 5, 6, 7] rfl
                replace hD : va_D A [(p0, .inr (1, [.int (nI wd), .int (nI hg), .ref aC, .ref aT, .ref aS, .ref rP, .ref rO, .ref rE])), (aS, .inl (cI, 4, .inl sd)), (rF, .inr (0, [.ref afx, .ref afy, .int (nI n)])), (afx, .inl (cI, cap, .inl fx)), (afy, .inl (cI, cap, .inl fy)), (rT, .inr (0, [.ref atx, .ref aty, .int (nI u2.1)])), (atx, .inl (cI, cap, .inl u2.2.1)), (aty, .inl (cI, cap, .inl u2.2.2))] := hD.sub [0, 1, 2, 3, 4, 5, 6, 7] (by decide) rfl
                refine lv_if_ne (tgt := 184) hx hb dX1_pass_179 (by decide) (fun c179 => absurd (by decide) c179) (fun c179 => ?_)
                refine lv_iconst (v := 0) hx hb dX1_pass_182 (by decide) ?_
                exact W.zret (v := 0) hx hb hr rfl (fun t ht hW => ⟨⟨0, u2, rfl, Or.inr ⟨rfl, by have a := ps_good1 hgg (bI_ne c158) hk2; rw [hu1] at hw2; have b : cap ≤ (psV cap tx ty q (sd q) fx fy n k).1 + 1 := hw2; rw [psV_1] at b; omega⟩, by rw [ht]; exact hP, by rw [hAe]; exact hD⟩, hS.F ht⟩) hS.2.2 dX1_pass_183
          · skip
            replace hP : va_P D vwCl [(p0, .inr (1, [.int (nI wd), .int (nI hg), .ref aC, .ref aT, .ref aS, .ref rP, .ref rO, .ref rE])), (aS, .inl (cI, 4, .inl sd)), (rF, .inr (0, [.ref afx, .ref afy, .int (nI n)])), (afx, .inl (cI, cap, .inl fx)), (afy, .inl (cI, cap, .inl fy)), (rT, .inr (0, [.ref atx, .ref aty, .int (nI u1.1)])), (atx, .inl (cI, cap, .inl u1.2.1)), (aty, .inl (cI, cap, .inl u1.2.2))] H := hP.sub [0, 1, 2, 3, 4, 5, 6, 7] rfl
            replace hD : va_D A [(p0, .inr (1, [.int (nI wd), .int (nI hg), .ref aC, .ref aT, .ref aS, .ref rP, .ref rO, .ref rE])), (aS, .inl (cI, 4, .inl sd)), (rF, .inr (0, [.ref afx, .ref afy, .int (nI n)])), (afx, .inl (cI, cap, .inl fx)), (afy, .inl (cI, cap, .inl fy)), (rT, .inr (0, [.ref atx, .ref aty, .int (nI u1.1)])), (atx, .inl (cI, cap, .inl u1.2.1)), (aty, .inl (cI, cap, .inl u1.2.2))] := hD.sub [0, 1, 2, 3, 4, 5, 6, 7] (by decide) rfl
            refine lv_if_ne (tgt := 156) hx hb dX1_pass_151 (by decide) (fun c151 => absurd (by decide) c151) (fun c151 => ?_)
            refine lv_iconst (v := 0) hx hb dX1_pass_154 (by decide) ?_
            exact W.zret (v := 0) hx hb hr rfl (fun t ht hW => ⟨⟨0, u1, rfl, Or.inr ⟨rfl, by have a := ps_cut hgg hk2; rw [psV_1] at hw1; omega⟩, by rw [ht]; exact hP, by rw [hAe]; exact hD⟩, hS.F ht⟩) hS.2.2 dX1_pass_155
  refine lv_iload_n hx hb dX1_pass_0 rfl (lv_at hl 3 rfl) ?_
  refine lv_iconst (v := 2) hx hb dX1_pass_1 (by decide) ?_
  refine lv_icmp_ge (tgt := 9) hx hb dX1_pass_2 (by decide) (fun c2 => ?_) (fun c2 => absurd (nI_le (a := 2) (Nat.le_of_not_lt hq2) (by omega)) c2)
  refine lv_iconst (v := 0) hx hb dX1_pass_9 (by decide) ?_
  refine lv_istore (lv' := [(4, .int 0), (0, .ref p0), (1, .ref rF), (2, .ref rT), (3, .int (nI q))]) hx hb dX1_pass_10 hl (by decide) rfl (fun ls hl => ?_)
  refine lv_aload_n hx hb dX1_pass_12 rfl (lv_at hl 2 rfl) ?_
  refine lv_iload hx hb dX1_pass_13 (lv_at hl 0 rfl) ?_
  refine q_eq (show (0 : Int32) = bI false from rfl) ?_
  refine rd_r (x := afy) (va_runVN (C := RX0) (As := [.int (bI false)]) ⟨hx, hb, hml, hown, hts⟩ (kX0_axis l D cI cZ rF afx afy n cap fx fy false) ⟨va_cnB 1 hts gX1_pass_X0_axis_n100 rfl rfl rfl hK.2.2.2.2.2.2.2.2.2 (hts (.initialized RX0) (by decide +kernel)) (by decide +kernel) ⟨Nat.le_of_ble_eq_true rfl, Nat.le_of_ble_eq_true rfl⟩, hts (.instanceMethod yX0_axis) (by decide +kernel), hts (.selects RX0 yX0_axis yX0_axis) (by decide +kernel)⟩ (rd_preV (ci := 0) (q0 := 0) (hP.sub [2, 3, 4] rfl) hK rfl rfl) rfl rfl hl.1 rfl (lv_room (Nat.le_of_ble_eq_true rfl)) dX1_pass_15 ⟨Nat.zero_le _, Nat.zero_le _⟩) ?_
  refine lv_astore (lv' := [(5, .ref afy), (4, .int 0), (0, .ref p0), (1, .ref rF), (2, .ref rT), (3, .int (nI q))]) hx hb dX1_pass_18 hl (by decide) rfl (fun ls hl => ?_)
  refine lv_aload_n hx hb dX1_pass_20 rfl (lv_at hl 3 rfl) ?_
  refine lv_iload hx hb dX1_pass_21 (lv_at hl 1 rfl) ?_
  refine lv_if_ne (tgt := 30) hx hb dX1_pass_23 (by decide) (fun c23 => absurd (by decide) c23) (fun c23 => ?_)
  refine lv_iconst (v := 1) hx hb dX1_pass_26 (by decide) ?_
  refine lv_goto (tgt := 31) hx hb dX1_pass_27 (by decide) ?_
  refine q_eq (show (1 : Int32) = bI true from rfl) ?_
  refine rd_r (x := afx) (va_runVN (C := RX0) (As := [.int (bI true)]) ⟨hx, hb, hml, hown, hts⟩ (kX0_axis l D cI cZ rF afx afy n cap fx fy true) ⟨va_cnB 1 hts gX1_pass_X0_axis_n100 rfl rfl rfl hK.2.2.2.2.2.2.2.2.2 (hts (.initialized RX0) (by decide +kernel)) (by decide +kernel) ⟨Nat.le_of_ble_eq_true rfl, Nat.le_of_ble_eq_true rfl⟩, hts (.instanceMethod yX0_axis) (by decide +kernel), hts (.selects RX0 yX0_axis yX0_axis) (by decide +kernel)⟩ (rd_preV (ci := 0) (q0 := 0) (hP.sub [2, 3, 4] rfl) hK rfl rfl) rfl rfl hl.1 rfl (lv_room (Nat.le_of_ble_eq_true rfl)) dX1_pass_31 ⟨Nat.zero_le _, Nat.zero_le _⟩) ?_
  refine lv_astore (lv' := [(6, .ref afx), (5, .ref afy), (4, .int 0), (0, .ref p0), (1, .ref rF), (2, .ref rT), (3, .int (nI q))]) hx hb dX1_pass_34 hl (by decide) rfl (fun ls hl => ?_)
  refine lv_aload_n hx hb dX1_pass_36 rfl (lv_at hl 3 rfl) ?_
  refine va_get (D := D) (ci := 1) (v := .ref aS) (C := RX1) (T := TX1) (N := 8) hx hb hts nX1_pass_X1 hown hK.1 hP 0 rfl rfl 4 (by decide) (hts (.fieldLink RX1 28 "PolygonFrame" "sides" "[I") (by decide +kernel)) (fun _ h9 => h9) rfl dX1_pass_37 ?_
  refine lv_iload_n hx hb dX1_pass_40 rfl (lv_at hl 6 rfl) ?_
  refine q_iald (k := q) hx hb hK.1 hP 1 0 rfl rfl (by omega) (by omega) dX1_pass_41 ?_
  refine lv_istore (lv' := [(7, .int (sd q)), (6, .ref afx), (5, .ref afy), (4, .int 0), (0, .ref p0), (1, .ref rF), (2, .ref rT), (3, .int (nI q))]) hx hb dX1_pass_42 hl (by decide) rfl (fun ls hl => ?_)
  refine lv_aload_n hx hb dX1_pass_44 rfl (lv_at hl 6 rfl) ?_
  refine lv_iconst (v := 0) hx hb dX1_pass_45 (by decide) ?_
  refine va_putN (D := D) (ci := 0) (v := .int 0) (ty := .int) (C := RX0) (T := TX0) (N := 3) hx hb hts nX1_pass_X0 tyX0 tyX0_ok nmX0 hown hK.1 hP hD hS 5 rfl rfl 2 (by decide) (hK.2.count _) (fun _ h9 => h9) rfl (tyX0_ok 2 (by decide)) rfl rfl (Nat.le_of_ble_eq_true rfl) dX1_pass_46 (fun H locs hP hD hS => ?_)
  have hP : va_P D vwCl [(p0, .inr (1, [.int (nI wd), .int (nI hg), .ref aC, .ref aT, .ref aS, .ref rP, .ref rO, .ref rE])), (aS, .inl (cI, 4, .inl sd)), (rF, .inr (0, [.ref afx, .ref afy, .int (nI n)])), (afx, .inl (cI, cap, .inl fx)), (afy, .inl (cI, cap, .inl fy)), (rT, .inr (0, [.ref atx, .ref aty, .int 0])), (atx, .inl (cI, cap, .inl tx)), (aty, .inl (cI, cap, .inl ty))] H := hP
  have hD : va_D A [(p0, .inr (1, [.int (nI wd), .int (nI hg), .ref aC, .ref aT, .ref aS, .ref rP, .ref rO, .ref rE])), (aS, .inl (cI, 4, .inl sd)), (rF, .inr (0, [.ref afx, .ref afy, .int (nI n)])), (afx, .inl (cI, cap, .inl fx)), (afy, .inl (cI, cap, .inl fy)), (rT, .inr (0, [.ref atx, .ref aty, .int 0])), (atx, .inl (cI, cap, .inl tx)), (aty, .inl (cI, cap, .inl ty))] := hD
  refine lv_aload_n hx hb dX1_pass_49 rfl (lv_at hl 5 rfl) ?_
  refine va_getN (D := D) (ci := 0) (v := .int (nI n)) (C := RX0) (T := TX0) (N := 3) hx hb hts nX1_pass_X0 hown hK.1 hP 2 rfl rfl 2 (by decide) (hK.2.count _) (fun _ h9 => h9) rfl dX1_pass_50 ?_
  refine lv_iconst (v := 1) hx hb dX1_pass_53 (by decide) ?_
  refine lv_isub hx hb dX1_pass_54 ?_
  refine lv_istore (lv' := [(8, .int ((nI n) - 1)), (7, .int (sd q)), (6, .ref afx), (5, .ref afy), (4, .int 0), (0, .ref p0), (1, .ref rF), (2, .ref rT), (3, .int (nI q))]) hx hb dX1_pass_55 hl (by decide) rfl (fun ls hl => ?_)
  refine lv_iconst (v := 0) hx hb dX1_pass_57 (by decide) ?_
  refine lv_istore (lv' := [(9, .int 0), (8, .int ((nI n) - 1)), (7, .int (sd q)), (6, .ref afx), (5, .ref afy), (4, .int 0), (0, .ref p0), (1, .ref rF), (2, .ref rT), (3, .int (nI q))]) hx hb dX1_pass_58 hl (by decide) rfl (fun ls hl => ?_)
  exact LOOP (n + 1) 0 (Nat.zero_le _) (by omega) (nI n - 1) (fun h => by rw [prN, if_pos rfl, ← pk_sub (a := n) (b := 1) (by omega)]; rfl) (Nat.zero_le _) H locs hP hD hS ls (lv_sub hl [6, 7, 8, 9, 5, 4, 3, 2, 1, 0] rfl)
end
section
/-! THE CLASS'S CLIP: four passes, ring to ring. -/
theorem ps_list {cap : Nat} {tx ty : Nat → Int32} {q : Nat} {sd fx fy : Nat → Int32} {n : Nat} {L M : List (Int32 × Int32)} {u : Nat × (Nat → Int32) × (Nat → Int32)} (hM : clpL cap sd L q = some M) (hn : n = M.length) (ho : hoL fx fy M) (hl : (psL q (sd q) fx fy n n).length ≤ cap) (hu : u = psV cap tx ty q (sd q) fx fy n n) :
    ∃ M' : List (Int32 × Int32), clpL cap sd L (q + 1) = some M' ∧ u.1 = M'.length ∧ hoL u.2.1 u.2.2 M' ∧ M'.length ≤ cap := by
  have e : psL q (sd q) fx fy n n = pasL q (sd q) M := by rw [hn]; exact psL_pas ho
  rw [e] at hl
  refine ⟨pasL q (sd q) M, clp_s hM hl, ?_, ?_, hl⟩
  · rw [hu, psV_1, e]
  · rw [hu, psV, e]; exact mpU_ho hl
theorem ps_none {cap q : Nat} {sd fx fy : Nat → Int32} {n : Nat} {L M : List (Int32 × Int32)} (hq : q < 4) (hM : clpL cap sd L q = some M) (hn : n = M.length) (ho : hoL fx fy M) (h : cap < (psL q (sd q) fx fy n n).length) : clpL cap sd L 4 = none := by
  have e : psL q (sd q) fx fy n n = pasL q (sd q) M := by rw [hn]; exact psL_pas ho
  rw [e] at h
  exact clp_none hq hM (by omega)
theorem nX1_clip_X1 : ∀ w ∈ wsX10, w ∈ wsX1_clip := fun w h => List.mem_cons_of_mem _ (List.mem_append_left _ (List.mem_append_right _ h))
theorem nX1_clip_X0 : ∀ w ∈ wsX00, w ∈ wsX1_clip := fun w h => List.mem_cons_of_mem _ (List.mem_append_right _ h)
set_option maxHeartbeats 4000000 in
set_option maxRecDepth 100000 in
theorem kX1_clip (l : Launch) (D : va_G) (cI cZ : ClassId) (sz : Nat) (p0 aC aT aS rP rO rE wd hg : Nat) (apx apy aox aoy aex aey n cap : Nat) (co ce : Int32) (sd xs ys ox oy ex ey : Nat → Int32) (L : List (Int32 × Int32)) (hL : n = L.length) (ho : hoL xs ys L) (hn : n ≤ cap) (hc : cap ≤ 60) : Met l yX1_clip wsX1_clip ({ frames := 3, cells := 0, slots := 0, locals := 120 }) (va_Pc [.ref p0] (wrP D cI cZ sz [(p0, .inr (1, [.int (nI wd), .int (nI hg), .ref aC, .ref aT, .ref aS, .ref rP, .ref rO, .ref rE])), (aS, .inl (cI, 4, .inl sd)), (rP, .inr (0, [.ref apx, .ref apy, .int (nI n)])), (apx, .inl (cI, cap, .inl xs)), (apy, .inl (cI, cap, .inl ys)), (rO, .inr (0, [.ref aox, .ref aoy, .int co])), (aox, .inl (cI, cap, .inl ox)), (aoy, .inl (cI, cap, .inl oy)), (rE, .inr (0, [.ref aex, .ref aey, .int ce])), (aex, .inl (cI, cap, .inl ex)), (aey, .inl (cI, cap, .inl ey))])) (va_Qi (S := (Nat × Nat × Nat) × (Nat × Nat × Nat) × (Nat × (Nat → Int32) × (Nat → Int32)) × (Int32 × (Nat → Int32) × (Nat → Int32)) × (Int32 × (Nat → Int32) × (Nat → Int32))) (fun r z => (∃ M : List (Int32 × Int32), clpL cap sd L 4 = some M ∧ r = nI M.length ∧ z.2.2.1.1 = M.length ∧ hoL z.2.2.1.2.1 z.2.2.1.2.2 M ∧ M.length ≤ cap) ∨ (clpL cap sd L 4 = none ∧ r = (-1) ∧ z.2.2.1 = (n, xs, ys))) (wrB D [(p0, .inr (1, [.int (nI wd), .int (nI hg), .ref aC, .ref aT, .ref aS, .ref rP, .ref rO, .ref rE])), (aS, .inl (cI, 4, .inl sd)), (rP, .inr (0, [.ref apx, .ref apy, .int (nI n)])), (apx, .inl (cI, cap, .inl xs)), (apy, .inl (cI, cap, .inl ys)), (rO, .inr (0, [.ref aox, .ref aoy, .int co])), (aox, .inl (cI, cap, .inl ox)), (aoy, .inl (cI, cap, .inl oy)), (rE, .inr (0, [.ref aex, .ref aey, .int ce])), (aex, .inl (cI, cap, .inl ex)), (aey, .inl (cI, cap, .inl ey))] sz (fun z => [(p0, .inr (1, [.int (nI wd), .int (nI hg), .ref aC, .ref aT, .ref aS, .ref z.1.1, .ref rO, .ref z.2.1.1])), (aS, .inl (cI, 4, .inl sd)), (z.1.1, .inr (0, [.ref z.1.2.1, .ref z.1.2.2, .int (nI z.2.2.1.1)])), (z.1.2.1, .inl (cI, cap, .inl z.2.2.1.2.1)), (z.1.2.2, .inl (cI, cap, .inl z.2.2.1.2.2)), (rO, .inr (0, [.ref aox, .ref aoy, .int z.2.2.2.1.1])), (aox, .inl (cI, cap, .inl z.2.2.2.1.2.1)), (aoy, .inl (cI, cap, .inl z.2.2.2.1.2.2)), (z.2.1.1, .inr (0, [.ref z.2.1.2.1, .ref z.2.1.2.2, .int z.2.2.2.2.1])), (z.2.1.2.1, .inl (cI, cap, .inl z.2.2.2.2.2.1)), (z.2.1.2.2, .inl (cI, cap, .inl z.2.2.2.2.2.2))])) (va_A [(p0, .inr (1, [.int (nI wd), .int (nI hg), .ref aC, .ref aT, .ref aS, .ref rP, .ref rO, .ref rE])), (aS, .inl (cI, 4, .inl sd)), (rP, .inr (0, [.ref apx, .ref apy, .int (nI n)])), (apx, .inl (cI, cap, .inl xs)), (apy, .inl (cI, cap, .inl ys)), (rO, .inr (0, [.ref aox, .ref aoy, .int co])), (aox, .inl (cI, cap, .inl ox)), (aoy, .inl (cI, cap, .inl oy)), (rE, .inr (0, [.ref aex, .ref aey, .int ce])), (aex, .inl (cI, cap, .inl ex)), (aey, .inl (cI, cap, .inl ey))] sz)) 0 0 (va_A [(p0, .inr (1, [.int (nI wd), .int (nI hg), .ref aC, .ref aT, .ref aS, .ref rP, .ref rO, .ref rE])), (aS, .inl (cI, 4, .inl sd)), (rP, .inr (0, [.ref apx, .ref apy, .int (nI n)])), (apx, .inl (cI, cap, .inl xs)), (apy, .inl (cI, cap, .inl ys)), (rO, .inr (0, [.ref aox, .ref aoy, .int co])), (aox, .inl (cI, cap, .inl ox)), (aoy, .inl (cI, cap, .inl oy)), (rE, .inr (0, [.ref aex, .ref aey, .int ce])), (aex, .inl (cI, cap, .inl ex)), (aey, .inl (cI, cap, .inl ey))] sz) := by
  refine Met.ofW (cc := cX1_clip) (maxL := 4) (ret := (some .int)) (by decide) rfl ?_
  intro p e s m args below meth c s₁ B hml hv
  obtain ⟨rfl, hsz, hP, hK, hD0⟩ := hv
  have hx := B.exec
  have hb := B.bytes
  have hr := B.returns
  have hts := atoms_spec (ws := wsX1_clip) B.pre
  have hown : s.vm.findClass RX1 = some m.cls := findClass_of_methodNamed B.named
  have hlocks := B.notSynchronized
  subst hsz
  have hD := hD0.self (sz := s.heap.size)
  generalize hAe : va_A [(p0, .inr (1, [.int (nI wd), .int (nI hg), .ref aC, .ref aT, .ref aS, .ref rP, .ref rO, .ref rE])), (aS, .inl (cI, 4, .inl sd)), (rP, .inr (0, [.ref apx, .ref apy, .int (nI n)])), (apx, .inl (cI, cap, .inl xs)), (apy, .inl (cI, cap, .inl ys)), (rO, .inr (0, [.ref aox, .ref aoy, .int co])), (aox, .inl (cI, cap, .inl ox)), (aoy, .inl (cI, cap, .inl oy)), (rE, .inr (0, [.ref aex, .ref aey, .int ce])), (aex, .inl (cI, cap, .inl ex)), (aey, .inl (cI, cap, .inl ey))] s.heap.size = A at hD ⊢
  have hA : ∀ q : Nat, s.heap.size ≤ q → A q := fun q h => by rw [← hAe]; exact Or.inr h
  have hS : va_S A s.heap s.heap [] := va_S.rf
  have hP : va_P D vwCl [(p0, .inr (1, [.int (nI wd), .int (nI hg), .ref aC, .ref aT, .ref aS, .ref rP, .ref rO, .ref rE])), (aS, .inl (cI, 4, .inl sd)), (rP, .inr (0, [.ref apx, .ref apy, .int (nI n)])), (apx, .inl (cI, cap, .inl xs)), (apy, .inl (cI, cap, .inl ys)), (rO, .inr (0, [.ref aox, .ref aoy, .int co])), (aox, .inl (cI, cap, .inl ox)), (aoy, .inl (cI, cap, .inl oy)), (rE, .inr (0, [.ref aex, .ref aey, .int ce])), (aex, .inl (cI, cap, .inl ex)), (aey, .inl (cI, cap, .inl ey))] s.heap := hP
  have hl := lv_entry ([.ref p0]) (n := 4) (Nat.le_of_ble_eq_true rfl)
  rw [lg_entry_eq]
  generalize (lg_sl ([.ref p0]) ++ List.replicate (4 - (lg_sl ([.ref p0])).length) Slot.unset).toArray = ls at hl ⊢
  have hl : lv_has ls 4 [(0, .ref p0)] := hl
  have hM0 : clpL cap sd L 0 = some L := rfl
  refine lv_aload_n hx hb dX1_clip_0 rfl (lv_at hl 0 rfl) ?_
  refine va_get (D := D) (ci := 1) (v := .ref rP) (C := RX1) (T := TX1) (N := 8) hx hb hts nX1_clip_X1 hown hK.1 hP 0 rfl rfl 5 (by decide) (hts (.fieldLink RX1 36 "PolygonFrame" "polygon" "LPolygonFrame$Ring;") (by decide +kernel)) (fun _ h9 => h9) rfl dX1_clip_1 ?_
  refine lv_astore_n (lv' := [(1, .ref rP), (0, .ref p0)]) hx hb dX1_clip_4 rfl hl (by decide) rfl (fun ls hl => ?_)
  refine lv_iconst (v := 0) hx hb dX1_clip_5 (by decide) ?_
  refine lv_istore_n (lv' := [(2, .int 0), (1, .ref rP), (0, .ref p0)]) hx hb dX1_clip_6 rfl hl (by decide) rfl (fun ls hl => ?_)
  refine lv_iload_n hx hb dX1_clip_7 rfl (lv_at hl 0 rfl) ?_
  refine lv_aload_n hx hb dX1_clip_8 rfl (lv_at hl 2 rfl) ?_
  refine va_get (D := D) (ci := 1) (v := .ref aS) (C := RX1) (T := TX1) (N := 8) hx hb hts nX1_clip_X1 hown hK.1 hP 0 rfl rfl 4 (by decide) (hts (.fieldLink RX1 28 "PolygonFrame" "sides" "[I") (by decide +kernel)) (fun _ h9 => h9) rfl dX1_clip_9 ?_
  refine va_alen (v := 4) hx hb hK.1 hP 1 0 rfl rfl rfl dX1_clip_12 ?_
  refine lv_icmp_ge (tgt := 54) hx hb dX1_clip_13 (by decide) (fun c13 => absurd c13 (by decide)) (fun c13 => ?_)
  refine lv_iload_n hx hb dX1_clip_16 rfl (lv_at hl 0 rfl) ?_
  refine lv_iconst (v := 2) hx hb dX1_clip_17 (by decide) ?_
  refine lv_irem hx hb dX1_clip_18 (by decide) ?_
  refine q_eq (show (0 - 0 / 2 * 2 : Int32) = 0 by decide) ?_
  refine lv_if_ne (tgt := 29) hx hb dX1_clip_19 (by decide) (fun c19 => absurd (by decide) c19) (fun c19 => ?_)
  refine lv_aload_n hx hb dX1_clip_22 rfl (lv_at hl 2 rfl) ?_
  refine va_get (D := D) (ci := 1) (v := .ref rO) (C := RX1) (T := TX1) (N := 8) hx hb hts nX1_clip_X1 hown hK.1 hP 0 rfl rfl 6 (by decide) (hts (.fieldLink RX1 40 "PolygonFrame" "oddPasses" "LPolygonFrame$Ring;") (by decide +kernel)) (fun _ h9 => h9) rfl dX1_clip_23 ?_
  refine lv_goto (tgt := 33) hx hb dX1_clip_26 (by decide) ?_
  refine lv_astore_n (lv' := [(3, .ref rO), (2, .int 0), (1, .ref rP), (0, .ref p0)]) hx hb dX1_clip_33 rfl hl (by decide) rfl (fun ls hl => ?_)
  refine lv_aload_n hx hb dX1_clip_34 rfl (lv_at hl 3 rfl) ?_
  refine lv_aload_n hx hb dX1_clip_35 rfl (lv_at hl 2 rfl) ?_
  refine lv_aload_n hx hb dX1_clip_36 rfl (lv_at hl 0 rfl) ?_
  refine lv_iload_n hx hb dX1_clip_37 rfl (lv_at hl 1 rfl) ?_
  refine q_eq (show (0 : Int32) = nI 0 from rfl) ?_
  refine wr_i (wr := [(rE, .inr (0, [.ref aex, .ref aey, .int ce])), (aex, .inl (cI, cap, .inl ex)), (aey, .inl (cI, cap, .inl ey))]) hP hD hS hA [0, 1, 2, 3, 4, 5, 6, 7] [8, 9, 10] rfl rfl (by decide) (by decide) (va_runV (As := [.ref rP, .ref rO, .int (nI 0)]) ⟨hx, hb, hml, hown, hts⟩ (kX1_passX l D cI cZ s.heap.size p0 aC aT aS rP rO rE wd hg rP apx apy rO aox aoy n cap co sd xs ys ox oy 0 (by decide) (by decide) hn hc) (cwV 3 hts gX1_clip_X1_pass rfl rfl rfl (by decide +kernel) ⟨Nat.le_of_ble_eq_true rfl, Nat.le_of_ble_eq_true rfl⟩) (wr_preV (ci := 1) (q0 := 0) (hP.sub [0, 1, 2, 3, 4, 5, 6, 7] rfl) hK (hD.sub [0, 1, 2, 3, 4, 5, 6, 7] (by decide) rfl) rfl rfl) rfl rfl hl.1 rfl (lv_room (Nat.le_of_ble_eq_true rfl)) dX1_clip_38 ⟨Nat.zero_le _, Nat.zero_le _⟩) (fun r1 u1 H locs hw1 hP hD hS => ?_)
  rcases hw1 with ⟨rfl, hk1, hu1⟩ | ⟨rfl, hk1⟩
  · skip
    replace hP : va_P D vwCl [(p0, .inr (1, [.int (nI wd), .int (nI hg), .ref aC, .ref aT, .ref aS, .ref rP, .ref rO, .ref rE])), (aS, .inl (cI, 4, .inl sd)), (rP, .inr (0, [.ref apx, .ref apy, .int (nI n)])), (apx, .inl (cI, cap, .inl xs)), (apy, .inl (cI, cap, .inl ys)), (rO, .inr (0, [.ref aox, .ref aoy, .int (nI u1.1)])), (aox, .inl (cI, cap, .inl u1.2.1)), (aoy, .inl (cI, cap, .inl u1.2.2)), (rE, .inr (0, [.ref aex, .ref aey, .int ce])), (aex, .inl (cI, cap, .inl ex)), (aey, .inl (cI, cap, .inl ey))] H := hP.sub [3, 4, 5, 6, 7, 8, 9, 10, 0, 1, 2] rfl
    replace hD : va_D A [(p0, .inr (1, [.int (nI wd), .int (nI hg), .ref aC, .ref aT, .ref aS, .ref rP, .ref rO, .ref rE])), (aS, .inl (cI, 4, .inl sd)), (rP, .inr (0, [.ref apx, .ref apy, .int (nI n)])), (apx, .inl (cI, cap, .inl xs)), (apy, .inl (cI, cap, .inl ys)), (rO, .inr (0, [.ref aox, .ref aoy, .int (nI u1.1)])), (aox, .inl (cI, cap, .inl u1.2.1)), (aoy, .inl (cI, cap, .inl u1.2.2)), (rE, .inr (0, [.ref aex, .ref aey, .int ce])), (aex, .inl (cI, cap, .inl ex)), (aey, .inl (cI, cap, .inl ey))] := hD.sub [3, 4, 5, 6, 7, 8, 9, 10, 0, 1, 2] (by decide) rfl
    obtain ⟨M1, hM1, hn1, ho1, hl1⟩ := ps_list (q := 0) hM0 hL ho hk1 hu1
    refine lv_if_ne (tgt := 46) hx hb dX1_clip_41 (by decide) (fun c41 => ?_) (fun c41 => absurd c41 (by decide))
    refine lv_aload_n hx hb dX1_clip_46 rfl (lv_at hl 0 rfl) ?_
    refine lv_astore_n (lv' := [(1, .ref rO), (3, .ref rO), (2, .int 0), (0, .ref p0)]) hx hb dX1_clip_47 rfl hl (by decide) rfl (fun ls hl => ?_)
    refine lv_iinc (v := 1) (lv' := [(2, .int 1), (1, .ref rO), (3, .ref rO), (0, .ref p0)]) hx hb dX1_clip_48 hl (k := 2) rfl (by decide) (by decide) rfl (fun ls hl => ?_)
    refine lv_goto (tgt := 7) hx hb dX1_clip_51 (by decide) ?_
    refine lv_iload_n hx hb dX1_clip_7 rfl (lv_at hl 0 rfl) ?_
    refine lv_aload_n hx hb dX1_clip_8 rfl (lv_at hl 3 rfl) ?_
    refine va_get (D := D) (ci := 1) (v := .ref aS) (C := RX1) (T := TX1) (N := 8) hx hb hts nX1_clip_X1 hown hK.1 hP 0 rfl rfl 4 (by decide) (hts (.fieldLink RX1 28 "PolygonFrame" "sides" "[I") (by decide +kernel)) (fun _ h9 => h9) rfl dX1_clip_9 ?_
    refine va_alen (v := 4) hx hb hK.1 hP 1 0 rfl rfl rfl dX1_clip_12 ?_
    refine lv_icmp_ge (tgt := 54) hx hb dX1_clip_13 (by decide) (fun c13 => absurd c13 (by decide)) (fun c13 => ?_)
    refine lv_iload_n hx hb dX1_clip_16 rfl (lv_at hl 0 rfl) ?_
    refine lv_iconst (v := 2) hx hb dX1_clip_17 (by decide) ?_
    refine lv_irem hx hb dX1_clip_18 (by decide) ?_
    refine q_eq (show (1 - 1 / 2 * 2 : Int32) = 1 by decide) ?_
    refine lv_if_ne (tgt := 29) hx hb dX1_clip_19 (by decide) (fun c19 => ?_) (fun c19 => absurd c19 (by decide))
    refine lv_aload_n hx hb dX1_clip_29 rfl (lv_at hl 3 rfl) ?_
    refine va_get (D := D) (ci := 1) (v := .ref rE) (C := RX1) (T := TX1) (N := 8) hx hb hts nX1_clip_X1 hown hK.1 hP 0 rfl rfl 7 (by decide) (hts (.fieldLink RX1 43 "PolygonFrame" "evenPasses" "LPolygonFrame$Ring;") (by decide +kernel)) (fun _ h9 => h9) rfl dX1_clip_30 ?_
    refine lv_astore_n (lv' := [(3, .ref rE), (2, .int 1), (1, .ref rO), (0, .ref p0)]) hx hb dX1_clip_33 rfl hl (by decide) rfl (fun ls hl => ?_)
    refine lv_aload_n hx hb dX1_clip_34 rfl (lv_at hl 3 rfl) ?_
    refine lv_aload_n hx hb dX1_clip_35 rfl (lv_at hl 2 rfl) ?_
    refine lv_aload_n hx hb dX1_clip_36 rfl (lv_at hl 0 rfl) ?_
    refine lv_iload_n hx hb dX1_clip_37 rfl (lv_at hl 1 rfl) ?_
    refine q_eq (show (1 : Int32) = nI 1 from rfl) ?_
    refine wr_i (wr := [(rP, .inr (0, [.ref apx, .ref apy, .int (nI n)])), (apx, .inl (cI, cap, .inl xs)), (apy, .inl (cI, cap, .inl ys))]) hP hD hS hA [0, 1, 5, 6, 7, 8, 9, 10] [2, 3, 4] rfl rfl (by decide) (by decide) (va_runV (As := [.ref rO, .ref rE, .int (nI 1)]) ⟨hx, hb, hml, hown, hts⟩ (kX1_passX l D cI cZ H.size p0 aC aT aS rP rO rE wd hg rO aox aoy rE aex aey u1.1 cap ce sd u1.2.1 u1.2.2 ex ey 1 (by decide) (by decide) (by rw [hn1]; exact hl1) hc) (cwV 3 hts gX1_clip_X1_pass rfl rfl rfl (by decide +kernel) ⟨Nat.le_of_ble_eq_true rfl, Nat.le_of_ble_eq_true rfl⟩) (wr_preV (ci := 1) (q0 := 0) (hP.sub [0, 1, 5, 6, 7, 8, 9, 10] rfl) hK (hD.sub [0, 1, 5, 6, 7, 8, 9, 10] (by decide) rfl) rfl rfl) rfl rfl hl.1 rfl (lv_room (Nat.le_of_ble_eq_true rfl)) dX1_clip_38 ⟨Nat.zero_le _, Nat.zero_le _⟩) (fun r2 u2 H locs hw2 hP hD hS => ?_)
    rcases hw2 with ⟨rfl, hk2, hu2⟩ | ⟨rfl, hk2⟩
    · skip
      replace hP : va_P D vwCl [(p0, .inr (1, [.int (nI wd), .int (nI hg), .ref aC, .ref aT, .ref aS, .ref rP, .ref rO, .ref rE])), (aS, .inl (cI, 4, .inl sd)), (rP, .inr (0, [.ref apx, .ref apy, .int (nI n)])), (apx, .inl (cI, cap, .inl xs)), (apy, .inl (cI, cap, .inl ys)), (rO, .inr (0, [.ref aox, .ref aoy, .int (nI u1.1)])), (aox, .inl (cI, cap, .inl u1.2.1)), (aoy, .inl (cI, cap, .inl u1.2.2)), (rE, .inr (0, [.ref aex, .ref aey, .int (nI u2.1)])), (aex, .inl (cI, cap, .inl u2.2.1)), (aey, .inl (cI, cap, .inl u2.2.2))] H := hP.sub [3, 4, 0, 1, 2, 5, 6, 7, 8, 9, 10] rfl
      replace hD : va_D A [(p0, .inr (1, [.int (nI wd), .int (nI hg), .ref aC, .ref aT, .ref aS, .ref rP, .ref rO, .ref rE])), (aS, .inl (cI, 4, .inl sd)), (rP, .inr (0, [.ref apx, .ref apy, .int (nI n)])), (apx, .inl (cI, cap, .inl xs)), (apy, .inl (cI, cap, .inl ys)), (rO, .inr (0, [.ref aox, .ref aoy, .int (nI u1.1)])), (aox, .inl (cI, cap, .inl u1.2.1)), (aoy, .inl (cI, cap, .inl u1.2.2)), (rE, .inr (0, [.ref aex, .ref aey, .int (nI u2.1)])), (aex, .inl (cI, cap, .inl u2.2.1)), (aey, .inl (cI, cap, .inl u2.2.2))] := hD.sub [3, 4, 0, 1, 2, 5, 6, 7, 8, 9, 10] (by decide) rfl
      obtain ⟨M2, hM2, hn2, ho2, hl2⟩ := ps_list (q := 1) hM1 hn1 ho1 hk2 hu2
      refine lv_if_ne (tgt := 46) hx hb dX1_clip_41 (by decide) (fun c41 => ?_) (fun c41 => absurd c41 (by decide))
      refine lv_aload_n hx hb dX1_clip_46 rfl (lv_at hl 0 rfl) ?_
      refine lv_astore_n (lv' := [(1, .ref rE), (3, .ref rE), (2, .int 1), (0, .ref p0)]) hx hb dX1_clip_47 rfl hl (by decide) rfl (fun ls hl => ?_)
      refine lv_iinc (v := 2) (lv' := [(2, .int 2), (1, .ref rE), (3, .ref rE), (0, .ref p0)]) hx hb dX1_clip_48 hl (k := 2) rfl (by decide) (by decide) rfl (fun ls hl => ?_)
      refine lv_goto (tgt := 7) hx hb dX1_clip_51 (by decide) ?_
      refine lv_iload_n hx hb dX1_clip_7 rfl (lv_at hl 0 rfl) ?_
      refine lv_aload_n hx hb dX1_clip_8 rfl (lv_at hl 3 rfl) ?_
      refine va_get (D := D) (ci := 1) (v := .ref aS) (C := RX1) (T := TX1) (N := 8) hx hb hts nX1_clip_X1 hown hK.1 hP 0 rfl rfl 4 (by decide) (hts (.fieldLink RX1 28 "PolygonFrame" "sides" "[I") (by decide +kernel)) (fun _ h9 => h9) rfl dX1_clip_9 ?_
      refine va_alen (v := 4) hx hb hK.1 hP 1 0 rfl rfl rfl dX1_clip_12 ?_
      refine lv_icmp_ge (tgt := 54) hx hb dX1_clip_13 (by decide) (fun c13 => absurd c13 (by decide)) (fun c13 => ?_)
      refine lv_iload_n hx hb dX1_clip_16 rfl (lv_at hl 0 rfl) ?_
      refine lv_iconst (v := 2) hx hb dX1_clip_17 (by decide) ?_
      refine lv_irem hx hb dX1_clip_18 (by decide) ?_
      refine q_eq (show (2 - 2 / 2 * 2 : Int32) = 0 by decide) ?_
      refine lv_if_ne (tgt := 29) hx hb dX1_clip_19 (by decide) (fun c19 => absurd (by decide) c19) (fun c19 => ?_)
      refine lv_aload_n hx hb dX1_clip_22 rfl (lv_at hl 3 rfl) ?_
      refine va_get (D := D) (ci := 1) (v := .ref rO) (C := RX1) (T := TX1) (N := 8) hx hb hts nX1_clip_X1 hown hK.1 hP 0 rfl rfl 6 (by decide) (hts (.fieldLink RX1 40 "PolygonFrame" "oddPasses" "LPolygonFrame$Ring;") (by decide +kernel)) (fun _ h9 => h9) rfl dX1_clip_23 ?_
      refine lv_goto (tgt := 33) hx hb dX1_clip_26 (by decide) ?_
      refine lv_astore_n (lv' := [(3, .ref rO), (2, .int 2), (1, .ref rE), (0, .ref p0)]) hx hb dX1_clip_33 rfl hl (by decide) rfl (fun ls hl => ?_)
      refine lv_aload_n hx hb dX1_clip_34 rfl (lv_at hl 3 rfl) ?_
      refine lv_aload_n hx hb dX1_clip_35 rfl (lv_at hl 2 rfl) ?_
      refine lv_aload_n hx hb dX1_clip_36 rfl (lv_at hl 0 rfl) ?_
      refine lv_iload_n hx hb dX1_clip_37 rfl (lv_at hl 1 rfl) ?_
      refine q_eq (show (2 : Int32) = nI 2 from rfl) ?_
      refine wr_i (wr := [(rP, .inr (0, [.ref apx, .ref apy, .int (nI n)])), (apx, .inl (cI, cap, .inl xs)), (apy, .inl (cI, cap, .inl ys))]) hP hD hS hA [0, 1, 8, 9, 10, 5, 6, 7] [2, 3, 4] rfl rfl (by decide) (by decide) (va_runV (As := [.ref rE, .ref rO, .int (nI 2)]) ⟨hx, hb, hml, hown, hts⟩ (kX1_passY l D cI cZ H.size p0 aC aT aS rP rO rE wd hg rE aex aey rO aox aoy u2.1 cap (nI u1.1) sd u2.2.1 u2.2.2 u1.2.1 u1.2.2 2 (by decide) (by decide) (by rw [hn2]; exact hl2) hc) (cwV 3 hts gX1_clip_X1_pass rfl rfl rfl (by decide +kernel) ⟨Nat.le_of_ble_eq_true rfl, Nat.le_of_ble_eq_true rfl⟩) (wr_preV (ci := 1) (q0 := 0) (hP.sub [0, 1, 8, 9, 10, 5, 6, 7] rfl) hK (hD.sub [0, 1, 8, 9, 10, 5, 6, 7] (by decide) rfl) rfl rfl) rfl rfl hl.1 rfl (lv_room (Nat.le_of_ble_eq_true rfl)) dX1_clip_38 ⟨Nat.zero_le _, Nat.zero_le _⟩) (fun r3 u3 H locs hw3 hP hD hS => ?_)
      rcases hw3 with ⟨rfl, hk3, hu3⟩ | ⟨rfl, hk3⟩
      · skip
        replace hP : va_P D vwCl [(p0, .inr (1, [.int (nI wd), .int (nI hg), .ref aC, .ref aT, .ref aS, .ref rP, .ref rO, .ref rE])), (aS, .inl (cI, 4, .inl sd)), (rP, .inr (0, [.ref apx, .ref apy, .int (nI n)])), (apx, .inl (cI, cap, .inl xs)), (apy, .inl (cI, cap, .inl ys)), (rO, .inr (0, [.ref aox, .ref aoy, .int (nI u3.1)])), (aox, .inl (cI, cap, .inl u3.2.1)), (aoy, .inl (cI, cap, .inl u3.2.2)), (rE, .inr (0, [.ref aex, .ref aey, .int (nI u2.1)])), (aex, .inl (cI, cap, .inl u2.2.1)), (aey, .inl (cI, cap, .inl u2.2.2))] H := hP.sub [3, 4, 0, 1, 2, 8, 9, 10, 5, 6, 7] rfl
        replace hD : va_D A [(p0, .inr (1, [.int (nI wd), .int (nI hg), .ref aC, .ref aT, .ref aS, .ref rP, .ref rO, .ref rE])), (aS, .inl (cI, 4, .inl sd)), (rP, .inr (0, [.ref apx, .ref apy, .int (nI n)])), (apx, .inl (cI, cap, .inl xs)), (apy, .inl (cI, cap, .inl ys)), (rO, .inr (0, [.ref aox, .ref aoy, .int (nI u3.1)])), (aox, .inl (cI, cap, .inl u3.2.1)), (aoy, .inl (cI, cap, .inl u3.2.2)), (rE, .inr (0, [.ref aex, .ref aey, .int (nI u2.1)])), (aex, .inl (cI, cap, .inl u2.2.1)), (aey, .inl (cI, cap, .inl u2.2.2))] := hD.sub [3, 4, 0, 1, 2, 8, 9, 10, 5, 6, 7] (by decide) rfl
        obtain ⟨M3, hM3, hn3, ho3, hl3⟩ := ps_list (q := 2) hM2 hn2 ho2 hk3 hu3
        refine lv_if_ne (tgt := 46) hx hb dX1_clip_41 (by decide) (fun c41 => ?_) (fun c41 => absurd c41 (by decide))
        refine lv_aload_n hx hb dX1_clip_46 rfl (lv_at hl 0 rfl) ?_
        refine lv_astore_n (lv' := [(1, .ref rO), (3, .ref rO), (2, .int 2), (0, .ref p0)]) hx hb dX1_clip_47 rfl hl (by decide) rfl (fun ls hl => ?_)
        refine lv_iinc (v := 3) (lv' := [(2, .int 3), (1, .ref rO), (3, .ref rO), (0, .ref p0)]) hx hb dX1_clip_48 hl (k := 2) rfl (by decide) (by decide) rfl (fun ls hl => ?_)
        refine lv_goto (tgt := 7) hx hb dX1_clip_51 (by decide) ?_
        refine lv_iload_n hx hb dX1_clip_7 rfl (lv_at hl 0 rfl) ?_
        refine lv_aload_n hx hb dX1_clip_8 rfl (lv_at hl 3 rfl) ?_
        refine va_get (D := D) (ci := 1) (v := .ref aS) (C := RX1) (T := TX1) (N := 8) hx hb hts nX1_clip_X1 hown hK.1 hP 0 rfl rfl 4 (by decide) (hts (.fieldLink RX1 28 "PolygonFrame" "sides" "[I") (by decide +kernel)) (fun _ h9 => h9) rfl dX1_clip_9 ?_
        refine va_alen (v := 4) hx hb hK.1 hP 1 0 rfl rfl rfl dX1_clip_12 ?_
        refine lv_icmp_ge (tgt := 54) hx hb dX1_clip_13 (by decide) (fun c13 => absurd c13 (by decide)) (fun c13 => ?_)
        refine lv_iload_n hx hb dX1_clip_16 rfl (lv_at hl 0 rfl) ?_
        refine lv_iconst (v := 2) hx hb dX1_clip_17 (by decide) ?_
        refine lv_irem hx hb dX1_clip_18 (by decide) ?_
        refine q_eq (show (3 - 3 / 2 * 2 : Int32) = 1 by decide) ?_
        refine lv_if_ne (tgt := 29) hx hb dX1_clip_19 (by decide) (fun c19 => ?_) (fun c19 => absurd c19 (by decide))
        refine lv_aload_n hx hb dX1_clip_29 rfl (lv_at hl 3 rfl) ?_
        refine va_get (D := D) (ci := 1) (v := .ref rE) (C := RX1) (T := TX1) (N := 8) hx hb hts nX1_clip_X1 hown hK.1 hP 0 rfl rfl 7 (by decide) (hts (.fieldLink RX1 43 "PolygonFrame" "evenPasses" "LPolygonFrame$Ring;") (by decide +kernel)) (fun _ h9 => h9) rfl dX1_clip_30 ?_
        refine lv_astore_n (lv' := [(3, .ref rE), (2, .int 3), (1, .ref rO), (0, .ref p0)]) hx hb dX1_clip_33 rfl hl (by decide) rfl (fun ls hl => ?_)
        refine lv_aload_n hx hb dX1_clip_34 rfl (lv_at hl 3 rfl) ?_
        refine lv_aload_n hx hb dX1_clip_35 rfl (lv_at hl 2 rfl) ?_
        refine lv_aload_n hx hb dX1_clip_36 rfl (lv_at hl 0 rfl) ?_
        refine lv_iload_n hx hb dX1_clip_37 rfl (lv_at hl 1 rfl) ?_
        refine q_eq (show (3 : Int32) = nI 3 from rfl) ?_
        refine wr_i (wr := [(rP, .inr (0, [.ref apx, .ref apy, .int (nI n)])), (apx, .inl (cI, cap, .inl xs)), (apy, .inl (cI, cap, .inl ys))]) hP hD hS hA [0, 1, 5, 6, 7, 8, 9, 10] [2, 3, 4] rfl rfl (by decide) (by decide) (va_runV (As := [.ref rO, .ref rE, .int (nI 3)]) ⟨hx, hb, hml, hown, hts⟩ (kX1_passY l D cI cZ H.size p0 aC aT aS rP rO rE wd hg rO aox aoy rE aex aey u3.1 cap (nI u2.1) sd u3.2.1 u3.2.2 u2.2.1 u2.2.2 3 (by decide) (by decide) (by rw [hn3]; exact hl3) hc) (cwV 3 hts gX1_clip_X1_pass rfl rfl rfl (by decide +kernel) ⟨Nat.le_of_ble_eq_true rfl, Nat.le_of_ble_eq_true rfl⟩) (wr_preV (ci := 1) (q0 := 0) (hP.sub [0, 1, 5, 6, 7, 8, 9, 10] rfl) hK (hD.sub [0, 1, 5, 6, 7, 8, 9, 10] (by decide) rfl) rfl rfl) rfl rfl hl.1 rfl (lv_room (Nat.le_of_ble_eq_true rfl)) dX1_clip_38 ⟨Nat.zero_le _, Nat.zero_le _⟩) (fun r4 u4 H locs hw4 hP hD hS => ?_)
        rcases hw4 with ⟨rfl, hk4, hu4⟩ | ⟨rfl, hk4⟩
        · skip
          replace hP : va_P D vwCl [(p0, .inr (1, [.int (nI wd), .int (nI hg), .ref aC, .ref aT, .ref aS, .ref rP, .ref rO, .ref rE])), (aS, .inl (cI, 4, .inl sd)), (rP, .inr (0, [.ref apx, .ref apy, .int (nI n)])), (apx, .inl (cI, cap, .inl xs)), (apy, .inl (cI, cap, .inl ys)), (rO, .inr (0, [.ref aox, .ref aoy, .int (nI u3.1)])), (aox, .inl (cI, cap, .inl u3.2.1)), (aoy, .inl (cI, cap, .inl u3.2.2)), (rE, .inr (0, [.ref aex, .ref aey, .int (nI u4.1)])), (aex, .inl (cI, cap, .inl u4.2.1)), (aey, .inl (cI, cap, .inl u4.2.2))] H := hP.sub [3, 4, 0, 1, 2, 5, 6, 7, 8, 9, 10] rfl
          replace hD : va_D A [(p0, .inr (1, [.int (nI wd), .int (nI hg), .ref aC, .ref aT, .ref aS, .ref rP, .ref rO, .ref rE])), (aS, .inl (cI, 4, .inl sd)), (rP, .inr (0, [.ref apx, .ref apy, .int (nI n)])), (apx, .inl (cI, cap, .inl xs)), (apy, .inl (cI, cap, .inl ys)), (rO, .inr (0, [.ref aox, .ref aoy, .int (nI u3.1)])), (aox, .inl (cI, cap, .inl u3.2.1)), (aoy, .inl (cI, cap, .inl u3.2.2)), (rE, .inr (0, [.ref aex, .ref aey, .int (nI u4.1)])), (aex, .inl (cI, cap, .inl u4.2.1)), (aey, .inl (cI, cap, .inl u4.2.2))] := hD.sub [3, 4, 0, 1, 2, 5, 6, 7, 8, 9, 10] (by decide) rfl
          obtain ⟨M4, hM4, hn4, ho4, hl4⟩ := ps_list (q := 3) hM3 hn3 ho3 hk4 hu4
          refine lv_if_ne (tgt := 46) hx hb dX1_clip_41 (by decide) (fun c41 => ?_) (fun c41 => absurd c41 (by decide))
          refine lv_aload_n hx hb dX1_clip_46 rfl (lv_at hl 0 rfl) ?_
          refine lv_astore_n (lv' := [(1, .ref rE), (3, .ref rE), (2, .int 3), (0, .ref p0)]) hx hb dX1_clip_47 rfl hl (by decide) rfl (fun ls hl => ?_)
          refine lv_iinc (v := 4) (lv' := [(2, .int 4), (1, .ref rE), (3, .ref rE), (0, .ref p0)]) hx hb dX1_clip_48 hl (k := 2) rfl (by decide) (by decide) rfl (fun ls hl => ?_)
          refine lv_goto (tgt := 7) hx hb dX1_clip_51 (by decide) ?_
          refine lv_iload_n hx hb dX1_clip_7 rfl (lv_at hl 0 rfl) ?_
          refine lv_aload_n hx hb dX1_clip_8 rfl (lv_at hl 3 rfl) ?_
          refine va_get (D := D) (ci := 1) (v := .ref aS) (C := RX1) (T := TX1) (N := 8) hx hb hts nX1_clip_X1 hown hK.1 hP 0 rfl rfl 4 (by decide) (hts (.fieldLink RX1 28 "PolygonFrame" "sides" "[I") (by decide +kernel)) (fun _ h9 => h9) rfl dX1_clip_9 ?_
          refine va_alen (v := 4) hx hb hK.1 hP 1 0 rfl rfl rfl dX1_clip_12 ?_
          refine lv_icmp_ge (tgt := 54) hx hb dX1_clip_13 (by decide) (fun c13 => ?_) (fun c13 => absurd (by decide) c13)
          refine lv_aload_n hx hb dX1_clip_54 rfl (lv_at hl 3 rfl) ?_
          refine lv_aload_n hx hb dX1_clip_55 rfl (lv_at hl 3 rfl) ?_
          refine va_get (D := D) (ci := 1) (v := .ref rP) (C := RX1) (T := TX1) (N := 8) hx hb hts nX1_clip_X1 hown hK.1 hP 0 rfl rfl 5 (by decide) (hts (.fieldLink RX1 36 "PolygonFrame" "polygon" "LPolygonFrame$Ring;") (by decide +kernel)) (fun _ h9 => h9) rfl dX1_clip_56 ?_
          refine va_put (D := D) (ci := 1) (v := .ref rP) (ty := .object "PolygonFrame$Ring") (C := RX1) (T := TX1) (N := 8) hx hb hts nX1_clip_X1 tyX1 tyX1_ok nmX1 hown hK.1 hP hD hS 0 rfl rfl 7 (by decide) (hts (.fieldLink RX1 43 "PolygonFrame" "evenPasses" "LPolygonFrame$Ring;") (by decide +kernel)) (fun _ h9 => h9) rfl (tyX1_ok 7 (by decide)) rfl rfl (Nat.le_of_ble_eq_true rfl) dX1_clip_59 (fun H locs hP hD hS => ?_)
          have hP : va_P D vwCl [(p0, .inr (1, [.int (nI wd), .int (nI hg), .ref aC, .ref aT, .ref aS, .ref rP, .ref rO, .ref rP])), (aS, .inl (cI, 4, .inl sd)), (rP, .inr (0, [.ref apx, .ref apy, .int (nI n)])), (apx, .inl (cI, cap, .inl xs)), (apy, .inl (cI, cap, .inl ys)), (rO, .inr (0, [.ref aox, .ref aoy, .int (nI u3.1)])), (aox, .inl (cI, cap, .inl u3.2.1)), (aoy, .inl (cI, cap, .inl u3.2.2)), (rE, .inr (0, [.ref aex, .ref aey, .int (nI u4.1)])), (aex, .inl (cI, cap, .inl u4.2.1)), (aey, .inl (cI, cap, .inl u4.2.2))] H := hP
          have hD : va_D A [(p0, .inr (1, [.int (nI wd), .int (nI hg), .ref aC, .ref aT, .ref aS, .ref rP, .ref rO, .ref rP])), (aS, .inl (cI, 4, .inl sd)), (rP, .inr (0, [.ref apx, .ref apy, .int (nI n)])), (apx, .inl (cI, cap, .inl xs)), (apy, .inl (cI, cap, .inl ys)), (rO, .inr (0, [.ref aox, .ref aoy, .int (nI u3.1)])), (aox, .inl (cI, cap, .inl u3.2.1)), (aoy, .inl (cI, cap, .inl u3.2.2)), (rE, .inr (0, [.ref aex, .ref aey, .int (nI u4.1)])), (aex, .inl (cI, cap, .inl u4.2.1)), (aey, .inl (cI, cap, .inl u4.2.2))] := hD
          refine lv_aload_n hx hb dX1_clip_62 rfl (lv_at hl 3 rfl) ?_
          refine lv_aload_n hx hb dX1_clip_63 rfl (lv_at hl 1 rfl) ?_
          refine va_put (D := D) (ci := 1) (v := .ref rE) (ty := .object "PolygonFrame$Ring") (C := RX1) (T := TX1) (N := 8) hx hb hts nX1_clip_X1 tyX1 tyX1_ok nmX1 hown hK.1 hP hD hS 0 rfl rfl 5 (by decide) (hts (.fieldLink RX1 36 "PolygonFrame" "polygon" "LPolygonFrame$Ring;") (by decide +kernel)) (fun _ h9 => h9) rfl (tyX1_ok 5 (by decide)) rfl rfl (Nat.le_of_ble_eq_true rfl) dX1_clip_64 (fun H locs hP hD hS => ?_)
          have hP : va_P D vwCl [(p0, .inr (1, [.int (nI wd), .int (nI hg), .ref aC, .ref aT, .ref aS, .ref rE, .ref rO, .ref rP])), (aS, .inl (cI, 4, .inl sd)), (rP, .inr (0, [.ref apx, .ref apy, .int (nI n)])), (apx, .inl (cI, cap, .inl xs)), (apy, .inl (cI, cap, .inl ys)), (rO, .inr (0, [.ref aox, .ref aoy, .int (nI u3.1)])), (aox, .inl (cI, cap, .inl u3.2.1)), (aoy, .inl (cI, cap, .inl u3.2.2)), (rE, .inr (0, [.ref aex, .ref aey, .int (nI u4.1)])), (aex, .inl (cI, cap, .inl u4.2.1)), (aey, .inl (cI, cap, .inl u4.2.2))] H := hP
          have hD : va_D A [(p0, .inr (1, [.int (nI wd), .int (nI hg), .ref aC, .ref aT, .ref aS, .ref rE, .ref rO, .ref rP])), (aS, .inl (cI, 4, .inl sd)), (rP, .inr (0, [.ref apx, .ref apy, .int (nI n)])), (apx, .inl (cI, cap, .inl xs)), (apy, .inl (cI, cap, .inl ys)), (rO, .inr (0, [.ref aox, .ref aoy, .int (nI u3.1)])), (aox, .inl (cI, cap, .inl u3.2.1)), (aoy, .inl (cI, cap, .inl u3.2.2)), (rE, .inr (0, [.ref aex, .ref aey, .int (nI u4.1)])), (aex, .inl (cI, cap, .inl u4.2.1)), (aey, .inl (cI, cap, .inl u4.2.2))] := hD
          refine lv_aload_n hx hb dX1_clip_67 rfl (lv_at hl 3 rfl) ?_
          refine va_get (D := D) (ci := 1) (v := .ref rE) (C := RX1) (T := TX1) (N := 8) hx hb hts nX1_clip_X1 hown hK.1 hP 0 rfl rfl 5 (by decide) (hts (.fieldLink RX1 36 "PolygonFrame" "polygon" "LPolygonFrame$Ring;") (by decide +kernel)) (fun _ h9 => h9) rfl dX1_clip_68 ?_
          refine va_getN (D := D) (ci := 0) (v := .int (nI u4.1)) (C := RX0) (T := TX0) (N := 3) hx hb hts nX1_clip_X0 hown hK.1 hP 8 rfl rfl 2 (by decide) (hK.2.count _) (fun _ h9 => h9) rfl dX1_clip_71 ?_
          have hP9 := hP.sub (ws' := [(p0, .inr (1, [.int (nI wd), .int (nI hg), .ref aC, .ref aT, .ref aS, .ref rE, .ref rO, .ref rP])), (aS, .inl (cI, 4, .inl sd)), (rE, .inr (0, [.ref aex, .ref aey, .int (nI u4.1)])), (aex, .inl (cI, cap, .inl u4.2.1)), (aey, .inl (cI, cap, .inl u4.2.2)), (rO, .inr (0, [.ref aox, .ref aoy, .int (nI u3.1)])), (aox, .inl (cI, cap, .inl u3.2.1)), (aoy, .inl (cI, cap, .inl u3.2.2)), (rP, .inr (0, [.ref apx, .ref apy, .int (nI n)])), (apx, .inl (cI, cap, .inl xs)), (apy, .inl (cI, cap, .inl ys))]) [0, 1, 8, 9, 10, 5, 6, 7, 2, 3, 4] rfl
          have hD9 := hD.sub (ws' := [(p0, .inr (1, [.int (nI wd), .int (nI hg), .ref aC, .ref aT, .ref aS, .ref rE, .ref rO, .ref rP])), (aS, .inl (cI, 4, .inl sd)), (rE, .inr (0, [.ref aex, .ref aey, .int (nI u4.1)])), (aex, .inl (cI, cap, .inl u4.2.1)), (aey, .inl (cI, cap, .inl u4.2.2)), (rO, .inr (0, [.ref aox, .ref aoy, .int (nI u3.1)])), (aox, .inl (cI, cap, .inl u3.2.1)), (aoy, .inl (cI, cap, .inl u3.2.2)), (rP, .inr (0, [.ref apx, .ref apy, .int (nI n)])), (apx, .inl (cI, cap, .inl xs)), (apy, .inl (cI, cap, .inl ys))]) [0, 1, 8, 9, 10, 5, 6, 7, 2, 3, 4] (by decide) rfl
          exact W.iret (v := (nI u4.1)) hx hb hr (fun t ht hW => ⟨⟨(nI u4.1), ((rE, aex, aey), (rP, apx, apy), u4, ((nI u3.1), u3.2.1, u3.2.2), ((nI n), xs, ys)), rfl, Or.inl ⟨M4, hM4, congrArg nI hn4, hn4, ho4, hl4⟩, by rw [ht]; exact hP9, by rw [hAe]; exact hD9⟩, hS.F ht⟩) hS.2.2 dX1_clip_74
        · skip
          replace hP : va_P D vwCl [(p0, .inr (1, [.int (nI wd), .int (nI hg), .ref aC, .ref aT, .ref aS, .ref rP, .ref rO, .ref rE])), (aS, .inl (cI, 4, .inl sd)), (rP, .inr (0, [.ref apx, .ref apy, .int (nI n)])), (apx, .inl (cI, cap, .inl xs)), (apy, .inl (cI, cap, .inl ys)), (rO, .inr (0, [.ref aox, .ref aoy, .int (nI u3.1)])), (aox, .inl (cI, cap, .inl u3.2.1)), (aoy, .inl (cI, cap, .inl u3.2.2)), (rE, .inr (0, [.ref aex, .ref aey, .int (nI u4.1)])), (aex, .inl (cI, cap, .inl u4.2.1)), (aey, .inl (cI, cap, .inl u4.2.2))] H := hP.sub [3, 4, 0, 1, 2, 5, 6, 7, 8, 9, 10] rfl
          replace hD : va_D A [(p0, .inr (1, [.int (nI wd), .int (nI hg), .ref aC, .ref aT, .ref aS, .ref rP, .ref rO, .ref rE])), (aS, .inl (cI, 4, .inl sd)), (rP, .inr (0, [.ref apx, .ref apy, .int (nI n)])), (apx, .inl (cI, cap, .inl xs)), (apy, .inl (cI, cap, .inl ys)), (rO, .inr (0, [.ref aox, .ref aoy, .int (nI u3.1)])), (aox, .inl (cI, cap, .inl u3.2.1)), (aoy, .inl (cI, cap, .inl u3.2.2)), (rE, .inr (0, [.ref aex, .ref aey, .int (nI u4.1)])), (aex, .inl (cI, cap, .inl u4.2.1)), (aey, .inl (cI, cap, .inl u4.2.2))] := hD.sub [3, 4, 0, 1, 2, 5, 6, 7, 8, 9, 10] (by decide) rfl
          have hno := ps_none (q := 3) (by decide) hM3 hn3 ho3 hk4
          refine lv_if_ne (tgt := 46) hx hb dX1_clip_41 (by decide) (fun c41 => absurd (by decide) c41) (fun c41 => ?_)
          refine lv_iconst (v := (-1)) hx hb dX1_clip_44 (by decide) ?_
          exact W.iret (v := (-1)) hx hb hr (fun t ht hW => ⟨⟨(-1), ((rP, apx, apy), (rE, aex, aey), (n, xs, ys), ((nI u3.1), u3.2.1, u3.2.2), ((nI u4.1), u4.2.1, u4.2.2)), rfl, Or.inr ⟨hno, rfl, rfl⟩, by rw [ht]; exact hP, by rw [hAe]; exact hD⟩, hS.F ht⟩) hS.2.2 dX1_clip_45
      · skip
        replace hP : va_P D vwCl [(p0, .inr (1, [.int (nI wd), .int (nI hg), .ref aC, .ref aT, .ref aS, .ref rP, .ref rO, .ref rE])), (aS, .inl (cI, 4, .inl sd)), (rP, .inr (0, [.ref apx, .ref apy, .int (nI n)])), (apx, .inl (cI, cap, .inl xs)), (apy, .inl (cI, cap, .inl ys)), (rO, .inr (0, [.ref aox, .ref aoy, .int (nI u3.1)])), (aox, .inl (cI, cap, .inl u3.2.1)), (aoy, .inl (cI, cap, .inl u3.2.2)), (rE, .inr (0, [.ref aex, .ref aey, .int (nI u2.1)])), (aex, .inl (cI, cap, .inl u2.2.1)), (aey, .inl (cI, cap, .inl u2.2.2))] H := hP.sub [3, 4, 0, 1, 2, 8, 9, 10, 5, 6, 7] rfl
        replace hD : va_D A [(p0, .inr (1, [.int (nI wd), .int (nI hg), .ref aC, .ref aT, .ref aS, .ref rP, .ref rO, .ref rE])), (aS, .inl (cI, 4, .inl sd)), (rP, .inr (0, [.ref apx, .ref apy, .int (nI n)])), (apx, .inl (cI, cap, .inl xs)), (apy, .inl (cI, cap, .inl ys)), (rO, .inr (0, [.ref aox, .ref aoy, .int (nI u3.1)])), (aox, .inl (cI, cap, .inl u3.2.1)), (aoy, .inl (cI, cap, .inl u3.2.2)), (rE, .inr (0, [.ref aex, .ref aey, .int (nI u2.1)])), (aex, .inl (cI, cap, .inl u2.2.1)), (aey, .inl (cI, cap, .inl u2.2.2))] := hD.sub [3, 4, 0, 1, 2, 8, 9, 10, 5, 6, 7] (by decide) rfl
        have hno := ps_none (q := 2) (by decide) hM2 hn2 ho2 hk3
        refine lv_if_ne (tgt := 46) hx hb dX1_clip_41 (by decide) (fun c41 => absurd (by decide) c41) (fun c41 => ?_)
        refine lv_iconst (v := (-1)) hx hb dX1_clip_44 (by decide) ?_
        exact W.iret (v := (-1)) hx hb hr (fun t ht hW => ⟨⟨(-1), ((rP, apx, apy), (rE, aex, aey), (n, xs, ys), ((nI u3.1), u3.2.1, u3.2.2), ((nI u2.1), u2.2.1, u2.2.2)), rfl, Or.inr ⟨hno, rfl, rfl⟩, by rw [ht]; exact hP, by rw [hAe]; exact hD⟩, hS.F ht⟩) hS.2.2 dX1_clip_45
    · skip
      replace hP : va_P D vwCl [(p0, .inr (1, [.int (nI wd), .int (nI hg), .ref aC, .ref aT, .ref aS, .ref rP, .ref rO, .ref rE])), (aS, .inl (cI, 4, .inl sd)), (rP, .inr (0, [.ref apx, .ref apy, .int (nI n)])), (apx, .inl (cI, cap, .inl xs)), (apy, .inl (cI, cap, .inl ys)), (rO, .inr (0, [.ref aox, .ref aoy, .int (nI u1.1)])), (aox, .inl (cI, cap, .inl u1.2.1)), (aoy, .inl (cI, cap, .inl u1.2.2)), (rE, .inr (0, [.ref aex, .ref aey, .int (nI u2.1)])), (aex, .inl (cI, cap, .inl u2.2.1)), (aey, .inl (cI, cap, .inl u2.2.2))] H := hP.sub [3, 4, 0, 1, 2, 5, 6, 7, 8, 9, 10] rfl
      replace hD : va_D A [(p0, .inr (1, [.int (nI wd), .int (nI hg), .ref aC, .ref aT, .ref aS, .ref rP, .ref rO, .ref rE])), (aS, .inl (cI, 4, .inl sd)), (rP, .inr (0, [.ref apx, .ref apy, .int (nI n)])), (apx, .inl (cI, cap, .inl xs)), (apy, .inl (cI, cap, .inl ys)), (rO, .inr (0, [.ref aox, .ref aoy, .int (nI u1.1)])), (aox, .inl (cI, cap, .inl u1.2.1)), (aoy, .inl (cI, cap, .inl u1.2.2)), (rE, .inr (0, [.ref aex, .ref aey, .int (nI u2.1)])), (aex, .inl (cI, cap, .inl u2.2.1)), (aey, .inl (cI, cap, .inl u2.2.2))] := hD.sub [3, 4, 0, 1, 2, 5, 6, 7, 8, 9, 10] (by decide) rfl
      have hno := ps_none (q := 1) (by decide) hM1 hn1 ho1 hk2
      refine lv_if_ne (tgt := 46) hx hb dX1_clip_41 (by decide) (fun c41 => absurd (by decide) c41) (fun c41 => ?_)
      refine lv_iconst (v := (-1)) hx hb dX1_clip_44 (by decide) ?_
      exact W.iret (v := (-1)) hx hb hr (fun t ht hW => ⟨⟨(-1), ((rP, apx, apy), (rE, aex, aey), (n, xs, ys), ((nI u1.1), u1.2.1, u1.2.2), ((nI u2.1), u2.2.1, u2.2.2)), rfl, Or.inr ⟨hno, rfl, rfl⟩, by rw [ht]; exact hP, by rw [hAe]; exact hD⟩, hS.F ht⟩) hS.2.2 dX1_clip_45
  · skip
    replace hP : va_P D vwCl [(p0, .inr (1, [.int (nI wd), .int (nI hg), .ref aC, .ref aT, .ref aS, .ref rP, .ref rO, .ref rE])), (aS, .inl (cI, 4, .inl sd)), (rP, .inr (0, [.ref apx, .ref apy, .int (nI n)])), (apx, .inl (cI, cap, .inl xs)), (apy, .inl (cI, cap, .inl ys)), (rO, .inr (0, [.ref aox, .ref aoy, .int (nI u1.1)])), (aox, .inl (cI, cap, .inl u1.2.1)), (aoy, .inl (cI, cap, .inl u1.2.2)), (rE, .inr (0, [.ref aex, .ref aey, .int ce])), (aex, .inl (cI, cap, .inl ex)), (aey, .inl (cI, cap, .inl ey))] H := hP.sub [3, 4, 5, 6, 7, 8, 9, 10, 0, 1, 2] rfl
    replace hD : va_D A [(p0, .inr (1, [.int (nI wd), .int (nI hg), .ref aC, .ref aT, .ref aS, .ref rP, .ref rO, .ref rE])), (aS, .inl (cI, 4, .inl sd)), (rP, .inr (0, [.ref apx, .ref apy, .int (nI n)])), (apx, .inl (cI, cap, .inl xs)), (apy, .inl (cI, cap, .inl ys)), (rO, .inr (0, [.ref aox, .ref aoy, .int (nI u1.1)])), (aox, .inl (cI, cap, .inl u1.2.1)), (aoy, .inl (cI, cap, .inl u1.2.2)), (rE, .inr (0, [.ref aex, .ref aey, .int ce])), (aex, .inl (cI, cap, .inl ex)), (aey, .inl (cI, cap, .inl ey))] := hD.sub [3, 4, 5, 6, 7, 8, 9, 10, 0, 1, 2] (by decide) rfl
    have hno := ps_none (q := 0) (by decide) hM0 hL ho hk1
    refine lv_if_ne (tgt := 46) hx hb dX1_clip_41 (by decide) (fun c41 => absurd (by decide) c41) (fun c41 => ?_)
    refine lv_iconst (v := (-1)) hx hb dX1_clip_44 (by decide) ?_
    exact W.iret (v := (-1)) hx hb hr (fun t ht hW => ⟨⟨(-1), ((rP, apx, apy), (rE, aex, aey), (n, xs, ys), ((nI u1.1), u1.2.1, u1.2.2), (ce, ex, ey)), rfl, Or.inr ⟨hno, rfl, rfl⟩, by rw [ht]; exact hP, by rw [hAe]; exact hD⟩, hS.F ht⟩) hS.2.2 dX1_clip_45
end
section
/-! COORDINATES: a pass keeps them; there the reference's good vertices are the class's. -/
def cO (x : Int32) : Prop := -16384 ≤ x.toInt ∧ x.toInt ≤ 16384
theorem coB_iff {x : Int32} : coB x = true ↔ cO x := by
  unfold coB cO
  rw [decide_eq_true_iff, Int32.not_lt, Int32.not_lt, Int32.le_iff_toInt_le, Int32.le_iff_toInt_le]
  exact Iff.rfl
def coL (L : List (Int32 × Int32)) : Prop := ∀ v ∈ L, cO v.1 ∧ cO v.2
theorem fl_rangeP {E t Y q : Int} (hY : 0 < Y) (h0 : 0 ≤ t) (h1 : t ≤ Y) (h2 : q * Y ≤ E * t) (h3 : E * t < q * Y + Y) : (0 ≤ E → 0 ≤ q ∧ q ≤ E) ∧ (E < 0 → E ≤ q ∧ q ≤ 0) := by
  have h3' : E * t < (q + 1) * Y := by rw [Int.add_mul, Int.one_mul]; exact h3
  refine ⟨fun hE => ⟨?_, ?_⟩, fun hE => ⟨?_, ?_⟩⟩
  · have : 0 ≤ E * t := Int.mul_nonneg hE h0
    have h4 : 0 * Y < (q + 1) * Y := by rw [Int.zero_mul]; omega
    have := Int.lt_of_mul_lt_mul_right h4 (Int.le_of_lt hY)
    omega
  · have h5 : E * t ≤ E * Y := Int.mul_le_mul_of_nonneg_left h1 hE
    exact Int.le_of_mul_le_mul_right (Int.le_trans h2 h5) hY
  · have h5 : E * Y ≤ E * t := Int.mul_le_mul_of_nonpos_left (by omega) h1
    have h6 : E * Y < (q + 1) * Y := Int.lt_of_le_of_lt h5 h3'
    have := Int.lt_of_mul_lt_mul_right h6 (Int.le_of_lt hY)
    omega
  · have h5 : E * t ≤ 0 := Int.mul_nonpos_of_nonpos_of_nonneg (Int.le_of_lt hE) h0
    have h6 : q * Y ≤ 0 * Y := by rw [Int.zero_mul]; omega
    exact Int.le_of_mul_le_mul_right h6 hY
theorem fl_range {E t Y q : Int} (h : fl_is (E * t) Y q) (ht : (0 ≤ t ∧ t ≤ Y) ∨ (Y ≤ t ∧ t ≤ 0)) : (0 ≤ E → 0 ≤ q ∧ q ≤ E) ∧ (E < 0 → E ≤ q ∧ q ≤ 0) := by
  rcases h with ⟨hY, h2, h3⟩ | ⟨hY, h2, h3⟩
  · exact fl_rangeP hY (by omega) (by omega) h2 h3
  · refine fl_rangeP (E := E) (t := -t) (Y := -Y) (q := q) (by omega) (by omega) (by omega) ?_ ?_
    · rw [Int.mul_neg, Int.mul_neg]; omega
    · rw [Int.mul_neg, Int.mul_neg]; omega
/-- differences of coordinates, and their products, fit -/
theorem co_sub {a b : Int32} (ha : cO a) (hb : cO b) : (a - b).toInt = a.toInt - b.toInt := by
  unfold cO at ha hb; exact fl_sub (by omega) (by omega)
theorem mul_bound {x y : Int} (hx : -32768 ≤ x ∧ x ≤ 32768) (hy : -32768 ≤ y ∧ y ≤ 32768) : -1073741824 ≤ x * y ∧ x * y ≤ 1073741824 := by
  have h : (x * y).natAbs ≤ 32768 * 32768 := by
    rw [Int.natAbs_mul]; exact Nat.mul_le_mul (by omega) (by omega)
  omega
theorem co_mul {a b c d : Int32} (ha : cO a) (hb : cO b) (hc : cO c) (hd : cO d) : ((a - b) * (c - d)).toInt = (a.toInt - b.toInt) * (c.toInt - d.toInt) ∧ -1073741824 ≤ (a.toInt - b.toInt) * (c.toInt - d.toInt) ∧ (a.toInt - b.toInt) * (c.toInt - d.toInt) ≤ 1073741824 := by
  have h1 := co_sub ha hb
  have h2 := co_sub hc hd
  unfold cO at ha hb hc hd
  have h3 := mul_bound (x := a.toInt - b.toInt) (y := c.toInt - d.toInt) (by omega) (by omega)
  refine ⟨?_, h3⟩
  rw [fl_mul, h1, h2]
  · rw [h1, h2]; omega
  · rw [h1, h2]; omega
theorem ne0 {a b : Int32} (ha : cO a) (hb : cO b) (h : ¬ a - b = 0) : a.toInt - b.toInt ≠ 0 := by
  intro h2
  apply h
  apply Int32.toInt_inj.mp
  rw [co_sub ha hb, h2]; rfl
theorem ca_co {a b c d s : Int32} (ha : cO a) (hb : cO b) (hc : cO c) (hd : cO d) (hs : cO s) (h : (a ≤ s ∧ s ≤ c) ∨ (c ≤ s ∧ s ≤ a)) (hne : ¬ c - a = 0) : cO (caI a b c d s) := by
  obtain ⟨m1, m2, m3⟩ := co_mul hd hb hs ha
  have y1 := co_sub hc ha
  have hf := fl_ok (x := (d - b) * (s - a)) (y := c - a) hne (by rw [m1]; omega)
  rw [m1, y1] at hf
  simp only [Int32.le_iff_toInt_le] at h
  obtain ⟨r1, r2⟩ := fl_range hf (by omega)
  unfold caI
  unfold cO at *
  generalize hq : (fl_i ((d - b) * (s - a)) (c - a)).toInt = q at *
  have hqr : (b.toInt ≤ b.toInt + q ∧ b.toInt + q ≤ d.toInt) ∨ (d.toInt ≤ b.toInt + q ∧ b.toInt + q ≤ b.toInt) := by
    by_cases hE : 0 ≤ d.toInt - b.toInt
    · have := r1 hE; left; omega
    · have := r2 (by omega); right; omega
  rw [fl_add (by rw [hq]; omega) (by rw [hq]; omega), hq]
  omega
theorem gd_bt {q : Nat} {v v' s : Int32} (h : ¬ gdB q v s = gdB q v' s) : (v' ≤ s ∧ s ≤ v) ∨ (v ≤ s ∧ s ≤ v') := by
  unfold gdB at h
  by_cases hq : q % 2 = 0
  · rw [if_pos hq, if_pos hq] at h
    by_cases h1 : v < s
    · by_cases h2 : v' < s
      · exact absurd (by simp [h1, h2]) h
      · exact Or.inr ⟨Int32.le_of_lt h1, Int32.not_lt.mp h2⟩
    · by_cases h2 : v' < s
      · exact Or.inl ⟨Int32.le_of_lt h2, Int32.not_lt.mp h1⟩
      · exact absurd (by simp [h1, h2]) h
  · rw [if_neg hq, if_neg hq] at h
    by_cases h1 : s < v
    · by_cases h2 : s < v'
      · exact absurd (by simp [h1, h2]) h
      · exact Or.inl ⟨Int32.not_lt.mp h2, Int32.le_of_lt h1⟩
    · by_cases h2 : s < v'
      · exact Or.inr ⟨Int32.not_lt.mp h1, Int32.le_of_lt h2⟩
      · exact absurd (by simp [h1, h2]) h
theorem ct_co {q : Nat} {s : Int32} {fx fy : Nat → Int32} {P k : Nat} (hP : cO (fx P) ∧ cO (fy P)) (hk : cO (fx k) ∧ cO (fy k)) (hs : cO s) (h : ¬ gV q s fx fy k = gV q s fx fy P) : cO (ctV q s fx fy P k).1 ∧ cO (ctV q s fx fy P k).2 := by
  unfold gV at h
  unfold ctV
  by_cases hq : q < 2
  · rw [if_pos hq, if_pos hq] at h
    rw [if_pos hq]
    refine ⟨hs, ca_co hP.1 hP.2 hk.1 hk.2 hs ?_ (gd_ne h)⟩
    rcases gd_bt h with h2 | h2
    · exact Or.inl h2
    · exact Or.inr h2
  · rw [if_neg hq, if_neg hq] at h
    rw [if_neg hq]
    refine ⟨ca_co hP.2 hP.1 hk.2 hk.1 hs ?_ (gd_ne h), hs⟩
    rcases gd_bt h with h2 | h2
    · exact Or.inl h2
    · exact Or.inr h2
theorem ps_co {q : Nat} {s : Int32} {fx fy : Nat → Int32} {n : Nat} (hf : ∀ i, i < n → cO (fx i) ∧ cO (fy i)) (hs : cO s) : ∀ k, k ≤ n → coL (psL q s fx fy n k) := by
  intro k
  induction k with
  | zero => intro _ v hv; exact absurd hv List.not_mem_nil
  | succ k ih =>
    intro hk v hv
    unfold psL at hv
    rw [outL, List.mem_append] at hv
    rcases hv with hv | hv
    · exact ih (by omega) v hv
    · rw [stL, List.mem_append] at hv
      rcases hv with hv | hv
      · by_cases h : gV q s fx fy k = gV q s fx fy (prN n k)
        · rw [if_pos h] at hv; exact absurd hv List.not_mem_nil
        · rw [if_neg h, List.mem_singleton] at hv
          rw [hv]; exact ct_co (hf _ (prN_lt (by omega))) (hf k (by omega)) hs h
      · by_cases h : gV q s fx fy k = true
        · rw [if_pos h, List.mem_singleton] at hv
          rw [hv]; exact hf k (by omega)
        · rw [if_neg h] at hv; exact absurd hv List.not_mem_nil
theorem lX_co {L : List (Int32 × Int32)} (h : coL L) {i : Nat} (hi : i < L.length) : cO (lX L i) ∧ cO (lY L i) := by
  unfold lX lY
  rw [List.getD_eq_getElem?_getD, List.getElem?_eq_getElem hi]
  exact h _ (List.getElem_mem hi)
theorem pas_co {q : Nat} {s : Int32} {L : List (Int32 × Int32)} (h : coL L) (hs : cO s) : coL (pasL q s L) := ps_co (fun _ hi => lX_co h hi) hs _ (Nat.le_refl _)
theorem clp_co {cap : Nat} {sd : Nat → Int32} {L : List (Int32 × Int32)} (h : coL L) (hs : ∀ k, k < 4 → cO (sd k)) : ∀ k, k ≤ 4 → ∀ M, clpL cap sd L k = some M → coL M := by
  intro k
  induction k with
  | zero => intro _ M hM; cases hM; exact h
  | succ k ih =>
    intro hk M hM
    rw [clpL] at hM
    split at hM
    · cases hM
    · rename_i N hN
      split at hM
      · cases hM; exact pas_co (ih (by omega) N hN) (hs k (by omega))
      · cases hM
theorem clp_len {cap : Nat} {sd : Nat → Int32} {L : List (Int32 × Int32)} (h : L.length ≤ cap) : ∀ k M, clpL cap sd L k = some M → M.length ≤ cap := by
  intro k
  induction k with
  | zero => intro M hM; cases hM; exact h
  | succ k ih =>
    intro M hM
    rw [clpL] at hM
    split at hM
    · cases hM
    · split at hM
      · cases hM; assumption
      · cases hM
/-- where all are coordinates, the reference's good vertices are the class's -/
theorem gM_gV {q : Nat} {sd fx fy : Nat → Int32} {i : Nat} (hq : q < 4) (hi : cO (fx i) ∧ cO (fy i)) (hs : ∀ k, k < 4 → cO (sd k)) : gM q sd fx fy i = gV q (sd q) fx fy i := by
  have key : ∀ a b : Int32, cO a → cO b → ((a - b < 0) ↔ a < b) := fun a b ha hb => by
    rw [Int32.lt_iff_toInt_lt, Int32.lt_iff_toInt_lt, co_sub ha hb, show (0 : Int32).toInt = 0 from rfl]; omega
  have h0 := hs 0 (by decide)
  have h1 := hs 1 (by decide)
  have h2 := hs 2 (by decide)
  have h3 := hs 3 (by decide)
  unfold gM gV gdB dpI
  rcases (show q = 0 ∨ q = 1 ∨ q = 2 ∨ q = 3 by omega) with rfl | rfl | rfl | rfl
  · show decide (¬ fx i - sd 0 < 0) = decide (¬ fx i < sd 0)
    exact decide_eq_decide.mpr (not_congr (key _ _ hi.1 h0))
  · show decide (¬ sd 1 - fx i < 0) = decide (¬ sd 1 < fx i)
    exact decide_eq_decide.mpr (not_congr (key _ _ h1 hi.1))
  · show decide (¬ fy i - sd 2 < 0) = decide (¬ fy i < sd 2)
    exact decide_eq_decide.mpr (not_congr (key _ _ hi.2 h2))
  · show decide (¬ sd 3 - fy i < 0) = decide (¬ sd 3 < fy i)
    exact decide_eq_decide.mpr (not_congr (key _ _ h3 hi.2))
theorem mpL_pas {q : Nat} {sd fx fy : Nat → Int32} {M : List (Int32 × Int32)} (hq : q < 4) (ho : hoL fx fy M) (hc : coL M) (hs : ∀ k, k < 4 → cO (sd k)) : mpL q sd fx fy M.length M.length = pasL q (sd q) M := by
  rw [← psL_pas ho]
  unfold mpL psL
  refine out_congr (fun i hi => gM_gV hq ?_ hs) (fun _ _ _ _ _ => rfl) (fun _ _ => rfl) _ (Nat.le_refl _)
  rw [(hoL_x ho hi).1, (hoL_x ho hi).2]; exact lX_co hc hi
/-- the first k of f, the rest of g -/
def cpN (f g : Nat → Int32) (k : Nat) : Nat → Int32 := fun i => if i < k then f i else g i
theorem cpN_0 (f g : Nat → Int32) : cpN f g 0 = g := rfl
theorem cpN_s (f g : Nat → Int32) (k : Nat) : upd (cpN f g k) k (f k) = cpN f g (k + 1) := by
  funext i
  unfold upd cpN
  by_cases h : i = k
  · subst h; simp
  · by_cases h2 : i < k
    · rw [if_neg h, if_pos h2, if_pos (by omega)]
    · rw [if_neg h, if_neg h2, if_neg (by omega)]
theorem cpN_ho {fx fy gx gy : Nat → Int32} {M : List (Int32 × Int32)} (h : hoL fx fy M) {n : Nat} (hn : n = M.length) : hoL (cpN fx gx n) (cpN fy gy n) M := by
  intro i hi
  rw [h i hi]; unfold cpN; rw [if_pos (by omega), if_pos (by omega)]
end
section
/-! THE REFERENCE'S CLIP. -/
theorem nX2_clip_X2 : ∀ w ∈ wsX20, w ∈ wsX2_clip := fun w h => List.mem_cons_of_mem _ (List.mem_append_right _ h)
set_option maxHeartbeats 4000000 in
set_option maxRecDepth 100000 in
theorem kX2_clip (l : Launch) (D : va_G) (cI cZ : ClassId) (sz : Nat) (m0 aP ax ay afx afy atx aty wd hg cap n : Nat) (fr tt : Int32) (sd xs ys fx fy tx ty : Nat → Int32) (L : List (Int32 × Int32)) (hL : n = L.length) (ho : hoL xs ys L) (hco : coL L) (hsd : ∀ k, k < 4 → cO (sd k)) (hn : n ≤ cap) (hc : cap ≤ 60) : Met l yX2_clip wsX2_clip ({ frames := 3, cells := 0, slots := 0, locals := 120 }) (va_Pc [.ref m0] (wrP D cI cZ sz [(m0, .inr (2, [.int (nI wd), .int (nI hg), .int (nI cap), .ref aP, .ref ax, .ref ay, .int (nI n), .ref afx, .ref afy, .ref atx, .ref aty, .int fr, .int tt, .int (sd 0), .int (sd 1), .int (sd 2), .int (sd 3)])), (ax, .inl (cI, 60, .inl xs)), (ay, .inl (cI, 60, .inl ys)), (afx, .inl (cI, 60, .inl fx)), (afy, .inl (cI, 60, .inl fy)), (atx, .inl (cI, 60, .inl tx)), (aty, .inl (cI, 60, .inl ty))])) (va_Qi (S := (Nat × (Nat → Int32) × (Nat → Int32)) × (Int32 × Int32) × ((Nat → Int32) × (Nat → Int32)) × ((Nat → Int32) × (Nat → Int32))) (fun r z => (∃ M : List (Int32 × Int32), clpL cap sd L 4 = some M ∧ r = nI M.length ∧ z.1.1 = M.length ∧ hoL z.1.2.1 z.1.2.2 M ∧ M.length ≤ cap) ∨ (clpL cap sd L 4 = none ∧ r = (-1) ∧ z.1 = (n, xs, ys))) (wrB D [(m0, .inr (2, [.int (nI wd), .int (nI hg), .int (nI cap), .ref aP, .ref ax, .ref ay, .int (nI n), .ref afx, .ref afy, .ref atx, .ref aty, .int fr, .int tt, .int (sd 0), .int (sd 1), .int (sd 2), .int (sd 3)])), (ax, .inl (cI, 60, .inl xs)), (ay, .inl (cI, 60, .inl ys)), (afx, .inl (cI, 60, .inl fx)), (afy, .inl (cI, 60, .inl fy)), (atx, .inl (cI, 60, .inl tx)), (aty, .inl (cI, 60, .inl ty))] sz (fun z => [(m0, .inr (2, [.int (nI wd), .int (nI hg), .int (nI cap), .ref aP, .ref ax, .ref ay, .int (nI z.1.1), .ref afx, .ref afy, .ref atx, .ref aty, .int z.2.1.1, .int z.2.1.2, .int (sd 0), .int (sd 1), .int (sd 2), .int (sd 3)])), (ax, .inl (cI, 60, .inl z.1.2.1)), (ay, .inl (cI, 60, .inl z.1.2.2)), (afx, .inl (cI, 60, .inl z.2.2.1.1)), (afy, .inl (cI, 60, .inl z.2.2.1.2)), (atx, .inl (cI, 60, .inl z.2.2.2.1)), (aty, .inl (cI, 60, .inl z.2.2.2.2))])) (va_A [(m0, .inr (2, [.int (nI wd), .int (nI hg), .int (nI cap), .ref aP, .ref ax, .ref ay, .int (nI n), .ref afx, .ref afy, .ref atx, .ref aty, .int fr, .int tt, .int (sd 0), .int (sd 1), .int (sd 2), .int (sd 3)])), (ax, .inl (cI, 60, .inl xs)), (ay, .inl (cI, 60, .inl ys)), (afx, .inl (cI, 60, .inl fx)), (afy, .inl (cI, 60, .inl fy)), (atx, .inl (cI, 60, .inl tx)), (aty, .inl (cI, 60, .inl ty))] sz)) 0 0 (va_A [(m0, .inr (2, [.int (nI wd), .int (nI hg), .int (nI cap), .ref aP, .ref ax, .ref ay, .int (nI n), .ref afx, .ref afy, .ref atx, .ref aty, .int fr, .int tt, .int (sd 0), .int (sd 1), .int (sd 2), .int (sd 3)])), (ax, .inl (cI, 60, .inl xs)), (ay, .inl (cI, 60, .inl ys)), (afx, .inl (cI, 60, .inl fx)), (afy, .inl (cI, 60, .inl fy)), (atx, .inl (cI, 60, .inl tx)), (aty, .inl (cI, 60, .inl ty))] sz) := by
  refine Met.ofW (cc := cX2_clip) (maxL := 3) (ret := (some .int)) (by decide) rfl ?_
  intro p e s m args below meth c s₁ B hml hv
  obtain ⟨rfl, hsz, hP, hK, hD0⟩ := hv
  have hx := B.exec
  have hb := B.bytes
  have hr := B.returns
  have hts := atoms_spec (ws := wsX2_clip) B.pre
  have hown : s.vm.findClass RX2 = some m.cls := findClass_of_methodNamed B.named
  have hlocks := B.notSynchronized
  subst hsz
  have hD := hD0.self (sz := s.heap.size)
  generalize hAe : va_A [(m0, .inr (2, [.int (nI wd), .int (nI hg), .int (nI cap), .ref aP, .ref ax, .ref ay, .int (nI n), .ref afx, .ref afy, .ref atx, .ref aty, .int fr, .int tt, .int (sd 0), .int (sd 1), .int (sd 2), .int (sd 3)])), (ax, .inl (cI, 60, .inl xs)), (ay, .inl (cI, 60, .inl ys)), (afx, .inl (cI, 60, .inl fx)), (afy, .inl (cI, 60, .inl fy)), (atx, .inl (cI, 60, .inl tx)), (aty, .inl (cI, 60, .inl ty))] s.heap.size = A at hD ⊢
  have hA : ∀ q : Nat, s.heap.size ≤ q → A q := fun q h => by rw [← hAe]; exact Or.inr h
  have hS : va_S A s.heap s.heap [] := va_S.rf
  have hP : va_P D vwCl [(m0, .inr (2, [.int (nI wd), .int (nI hg), .int (nI cap), .ref aP, .ref ax, .ref ay, .int (nI n), .ref afx, .ref afy, .ref atx, .ref aty, .int fr, .int tt, .int (sd 0), .int (sd 1), .int (sd 2), .int (sd 3)])), (ax, .inl (cI, 60, .inl xs)), (ay, .inl (cI, 60, .inl ys)), (afx, .inl (cI, 60, .inl fx)), (afy, .inl (cI, 60, .inl fy)), (atx, .inl (cI, 60, .inl tx)), (aty, .inl (cI, 60, .inl ty))] s.heap := hP
  have hl := lv_entry ([.ref m0]) (n := 3) (Nat.le_of_ble_eq_true rfl)
  rw [lg_entry_eq]
  generalize (lg_sl ([.ref m0]) ++ List.replicate (3 - (lg_sl ([.ref m0])).length) Slot.unset).toArray = ls at hl ⊢
  have hl : lv_has ls 3 [(0, .ref m0)] := hl
  have L4 : ∀ (M : List (Int32 × Int32)) (ex ey dx dy : Nat → Int32) (te : Int32), clpL cap sd L 4 = some M → hoL ex ey M → M.length ≤ cap → ∀ (j k : Nat), k ≤ M.length → M.length < k + j → ∀ (H : Heap) (locs : List Loc), va_P D vwCl [(m0, .inr (2, [.int (nI wd), .int (nI hg), .int (nI cap), .ref aP, .ref ax, .ref ay, .int (nI M.length), .ref afx, .ref afy, .ref atx, .ref aty, .int (nI M.length), .int te, .int (sd 0), .int (sd 1), .int (sd 2), .int (sd 3)])), (ax, .inl (cI, 60, .inl (cpN ex xs k))), (ay, .inl (cI, 60, .inl (cpN ey ys k))), (afx, .inl (cI, 60, .inl ex)), (afy, .inl (cI, 60, .inl ey)), (atx, .inl (cI, 60, .inl dx)), (aty, .inl (cI, 60, .inl dy))] H → va_D A [(m0, .inr (2, [.int (nI wd), .int (nI hg), .int (nI cap), .ref aP, .ref ax, .ref ay, .int (nI M.length), .ref afx, .ref afy, .ref atx, .ref aty, .int (nI M.length), .int te, .int (sd 0), .int (sd 1), .int (sd 2), .int (sd 3)])), (ax, .inl (cI, 60, .inl (cpN ex xs k))), (ay, .inl (cI, 60, .inl (cpN ey ys k))), (afx, .inl (cI, 60, .inl ex)), (afy, .inl (cI, 60, .inl ey)), (atx, .inl (cI, 60, .inl dx)), (aty, .inl (cI, 60, .inl dy))] → va_S A s.heap H locs → ∀ ls : Array Slot, lv_has ls 3 [(0, .ref m0), (1, .int (nI k))] → W p l e ({ frames := 3, cells := 0, slots := 0, locals := 120 } : Room) s m #[.ref m0] below meth c H locs 0 0 (MQ below (va_Qi (S := (Nat × (Nat → Int32) × (Nat → Int32)) × (Int32 × Int32) × ((Nat → Int32) × (Nat → Int32)) × ((Nat → Int32) × (Nat → Int32))) (fun r z => (∃ M : List (Int32 × Int32), clpL cap sd L 4 = some M ∧ r = nI M.length ∧ z.1.1 = M.length ∧ hoL z.1.2.1 z.1.2.2 M ∧ M.length ≤ cap) ∨ (clpL cap sd L 4 = none ∧ r = (-1) ∧ z.1 = (n, xs, ys))) (wrB D [(m0, .inr (2, [.int (nI wd), .int (nI hg), .int (nI cap), .ref aP, .ref ax, .ref ay, .int (nI n), .ref afx, .ref afy, .ref atx, .ref aty, .int fr, .int tt, .int (sd 0), .int (sd 1), .int (sd 2), .int (sd 3)])), (ax, .inl (cI, 60, .inl xs)), (ay, .inl (cI, 60, .inl ys)), (afx, .inl (cI, 60, .inl fx)), (afy, .inl (cI, 60, .inl fy)), (atx, .inl (cI, 60, .inl tx)), (aty, .inl (cI, 60, .inl ty))] s.heap.size (fun z => [(m0, .inr (2, [.int (nI wd), .int (nI hg), .int (nI cap), .ref aP, .ref ax, .ref ay, .int (nI z.1.1), .ref afx, .ref afy, .ref atx, .ref aty, .int z.2.1.1, .int z.2.1.2, .int (sd 0), .int (sd 1), .int (sd 2), .int (sd 3)])), (ax, .inl (cI, 60, .inl z.1.2.1)), (ay, .inl (cI, 60, .inl z.1.2.2)), (afx, .inl (cI, 60, .inl z.2.2.1.1)), (afy, .inl (cI, 60, .inl z.2.2.1.2)), (atx, .inl (cI, 60, .inl z.2.2.2.1)), (aty, .inl (cI, 60, .inl z.2.2.2.2))])) A) #[.ref m0] s 0 0 A) (F0 m 137 ls []) := by
    intro M ex ey dx dy te hM hoM hl4 j
    induction j with
    | zero => intro k h1 h2; omega
    | succ j ih =>
      intro k hk hkj H locs hP hD hS ls hl
      refine lv_iload_n hx hb dX2_clip_137 rfl (lv_at hl 1 rfl) ?_
      refine lv_aload_n hx hb dX2_clip_138 rfl (lv_at hl 0 rfl) ?_
      refine va_get (D := D) (ci := 2) (v := .int (nI M.length)) (C := RX2) (T := TX2) (N := 17) hx hb hts nX2_clip_X2 hown hK.1 hP 0 rfl rfl 6 (by decide) (hts (.fieldLink RX2 57 "PolygonFrameModel" "size" "I") (by decide +kernel)) (fun _ h9 => h9) rfl dX2_clip_139 ?_
      refine lv_icmp_ge (tgt := 175) hx hb dX2_clip_142 (by decide) (fun c142 => ?_) (fun c142 => ?_)
      · skip
        refine lv_aload_n hx hb dX2_clip_175 rfl (lv_at hl 0 rfl) ?_
        refine va_get (D := D) (ci := 2) (v := .int (nI M.length)) (C := RX2) (T := TX2) (N := 17) hx hb hts nX2_clip_X2 hown hK.1 hP 0 rfl rfl 6 (by decide) (hts (.fieldLink RX2 57 "PolygonFrameModel" "size" "I") (by decide +kernel)) (fun _ h9 => h9) rfl dX2_clip_176 ?_
        have hkn : k = M.length := Nat.le_antisymm hk ((nI_leI (by omega) (by omega)).mp c142)
        rw [hkn] at hP hD
        exact W.iret (v := (nI M.length)) hx hb hr (fun t ht hW => ⟨⟨(nI M.length), ((M.length, cpN ex xs M.length, cpN ey ys M.length), (nI M.length, te), (ex, ey), (dx, dy)), rfl, Or.inl ⟨M, hM, rfl, rfl, cpN_ho hoM rfl, hl4⟩, by rw [ht]; exact hP, by rw [hAe]; exact hD⟩, hS.F ht⟩) hS.2.2 dX2_clip_179
      · skip
        have hk2 : k < M.length := Nat.lt_of_not_le (fun h => c142 (nI_le h (by omega)))
        refine lv_aload_n hx hb dX2_clip_145 rfl (lv_at hl 0 rfl) ?_
        refine va_get (D := D) (ci := 2) (v := .ref ax) (C := RX2) (T := TX2) (N := 17) hx hb hts nX2_clip_X2 hown hK.1 hP 0 rfl rfl 4 (by decide) (hts (.fieldLink RX2 13 "PolygonFrameModel" "xs" "[I") (by decide +kernel)) (fun _ h9 => h9) rfl dX2_clip_146 ?_
        refine lv_iload_n hx hb dX2_clip_149 rfl (lv_at hl 1 rfl) ?_
        refine lv_aload_n hx hb dX2_clip_150 rfl (lv_at hl 0 rfl) ?_
        refine va_get (D := D) (ci := 2) (v := .ref afx) (C := RX2) (T := TX2) (N := 17) hx hb hts nX2_clip_X2 hown hK.1 hP 0 rfl rfl 7 (by decide) (hts (.fieldLink RX2 19 "PolygonFrameModel" "fromX" "[I") (by decide +kernel)) (fun _ h9 => h9) rfl dX2_clip_151 ?_
        refine lv_iload_n hx hb dX2_clip_154 rfl (lv_at hl 1 rfl) ?_
        refine q_iald (k := k) hx hb hK.1 hP 3 0 rfl rfl (by omega) (by omega) dX2_clip_155 ?_
        refine q_iast (k := k) hx hb hK.1 hP hD hS 1 0 rfl rfl (by omega) (by omega) dX2_clip_156 (fun H locs hP hD hS => ?_)
        have hP : va_P D vwCl [(m0, .inr (2, [.int (nI wd), .int (nI hg), .int (nI cap), .ref aP, .ref ax, .ref ay, .int (nI M.length), .ref afx, .ref afy, .ref atx, .ref aty, .int (nI M.length), .int te, .int (sd 0), .int (sd 1), .int (sd 2), .int (sd 3)])), (ax, .inl (cI, 60, .inl (upd (cpN ex xs k) k (ex k)))), (ay, .inl (cI, 60, .inl (cpN ey ys k))), (afx, .inl (cI, 60, .inl ex)), (afy, .inl (cI, 60, .inl ey)), (atx, .inl (cI, 60, .inl dx)), (aty, .inl (cI, 60, .inl dy))] H := hP
        have hD : va_D A [(m0, .inr (2, [.int (nI wd), .int (nI hg), .int (nI cap), .ref aP, .ref ax, .ref ay, .int (nI M.length), .ref afx, .ref afy, .ref atx, .ref aty, .int (nI M.length), .int te, .int (sd 0), .int (sd 1), .int (sd 2), .int (sd 3)])), (ax, .inl (cI, 60, .inl (upd (cpN ex xs k) k (ex k)))), (ay, .inl (cI, 60, .inl (cpN ey ys k))), (afx, .inl (cI, 60, .inl ex)), (afy, .inl (cI, 60, .inl ey)), (atx, .inl (cI, 60, .inl dx)), (aty, .inl (cI, 60, .inl dy))] := hD
        refine lv_aload_n hx hb dX2_clip_157 rfl (lv_at hl 0 rfl) ?_
        refine va_get (D := D) (ci := 2) (v := .ref ay) (C := RX2) (T := TX2) (N := 17) hx hb hts nX2_clip_X2 hown hK.1 hP 0 rfl rfl 5 (by decide) (hts (.fieldLink RX2 16 "PolygonFrameModel" "ys" "[I") (by decide +kernel)) (fun _ h9 => h9) rfl dX2_clip_158 ?_
        refine lv_iload_n hx hb dX2_clip_161 rfl (lv_at hl 1 rfl) ?_
        refine lv_aload_n hx hb dX2_clip_162 rfl (lv_at hl 0 rfl) ?_
        refine va_get (D := D) (ci := 2) (v := .ref afy) (C := RX2) (T := TX2) (N := 17) hx hb hts nX2_clip_X2 hown hK.1 hP 0 rfl rfl 8 (by decide) (hts (.fieldLink RX2 22 "PolygonFrameModel" "fromY" "[I") (by decide +kernel)) (fun _ h9 => h9) rfl dX2_clip_163 ?_
        refine lv_iload_n hx hb dX2_clip_166 rfl (lv_at hl 1 rfl) ?_
        refine q_iald (k := k) hx hb hK.1 hP 4 0 rfl rfl (by omega) (by omega) dX2_clip_167 ?_
        refine q_iast (k := k) hx hb hK.1 hP hD hS 2 0 rfl rfl (by omega) (by omega) dX2_clip_168 (fun H locs hP hD hS => ?_)
        have hP : va_P D vwCl [(m0, .inr (2, [.int (nI wd), .int (nI hg), .int (nI cap), .ref aP, .ref ax, .ref ay, .int (nI M.length), .ref afx, .ref afy, .ref atx, .ref aty, .int (nI M.length), .int te, .int (sd 0), .int (sd 1), .int (sd 2), .int (sd 3)])), (ax, .inl (cI, 60, .inl (upd (cpN ex xs k) k (ex k)))), (ay, .inl (cI, 60, .inl (upd (cpN ey ys k) k (ey k)))), (afx, .inl (cI, 60, .inl ex)), (afy, .inl (cI, 60, .inl ey)), (atx, .inl (cI, 60, .inl dx)), (aty, .inl (cI, 60, .inl dy))] H := hP
        have hD : va_D A [(m0, .inr (2, [.int (nI wd), .int (nI hg), .int (nI cap), .ref aP, .ref ax, .ref ay, .int (nI M.length), .ref afx, .ref afy, .ref atx, .ref aty, .int (nI M.length), .int te, .int (sd 0), .int (sd 1), .int (sd 2), .int (sd 3)])), (ax, .inl (cI, 60, .inl (upd (cpN ex xs k) k (ex k)))), (ay, .inl (cI, 60, .inl (upd (cpN ey ys k) k (ey k)))), (afx, .inl (cI, 60, .inl ex)), (afy, .inl (cI, 60, .inl ey)), (atx, .inl (cI, 60, .inl dx)), (aty, .inl (cI, 60, .inl dy))] := hD
        refine lv_iinc (v := (nI (k + 1))) (lv' := [(1, .int (nI (k + 1))), (0, .ref m0)]) hx hb dX2_clip_169 hl (k := 1) rfl (nI_1 _) (by decide) rfl (fun ls hl => ?_)
        refine lv_goto (tgt := 137) hx hb dX2_clip_172 (by decide) ?_
        rw [cpN_s, cpN_s] at hP hD
        exact ih (k + 1) (by omega) (by omega) H locs hP hD hS ls (lv_sub hl [1, 0] rfl)
  have L2 : ∀ (j q : Nat), q ≤ 4 → 4 < q + j → ∀ (M : List (Int32 × Int32)) (ex ey dx dy : Nat → Int32) (te : Int32), clpL cap sd L q = some M → hoL ex ey M → M.length ≤ cap → ∀ (H : Heap) (locs : List Loc), va_P D vwCl [(m0, .inr (2, [.int (nI wd), .int (nI hg), .int (nI cap), .ref aP, .ref ax, .ref ay, .int (nI n), .ref afx, .ref afy, .ref atx, .ref aty, .int (nI M.length), .int te, .int (sd 0), .int (sd 1), .int (sd 2), .int (sd 3)])), (ax, .inl (cI, 60, .inl xs)), (ay, .inl (cI, 60, .inl ys)), (afx, .inl (cI, 60, .inl ex)), (afy, .inl (cI, 60, .inl ey)), (atx, .inl (cI, 60, .inl dx)), (aty, .inl (cI, 60, .inl dy))] H → va_D A [(m0, .inr (2, [.int (nI wd), .int (nI hg), .int (nI cap), .ref aP, .ref ax, .ref ay, .int (nI n), .ref afx, .ref afy, .ref atx, .ref aty, .int (nI M.length), .int te, .int (sd 0), .int (sd 1), .int (sd 2), .int (sd 3)])), (ax, .inl (cI, 60, .inl xs)), (ay, .inl (cI, 60, .inl ys)), (afx, .inl (cI, 60, .inl ex)), (afy, .inl (cI, 60, .inl ey)), (atx, .inl (cI, 60, .inl dx)), (aty, .inl (cI, 60, .inl dy))] → va_S A s.heap H locs → ∀ ls : Array Slot, lv_has ls 3 [(0, .ref m0), (1, .int (nI q))] → W p l e ({ frames := 3, cells := 0, slots := 0, locals := 120 } : Room) s m #[.ref m0] below meth c H locs 0 0 (MQ below (va_Qi (S := (Nat × (Nat → Int32) × (Nat → Int32)) × (Int32 × Int32) × ((Nat → Int32) × (Nat → Int32)) × ((Nat → Int32) × (Nat → Int32))) (fun r z => (∃ M : List (Int32 × Int32), clpL cap sd L 4 = some M ∧ r = nI M.length ∧ z.1.1 = M.length ∧ hoL z.1.2.1 z.1.2.2 M ∧ M.length ≤ cap) ∨ (clpL cap sd L 4 = none ∧ r = (-1) ∧ z.1 = (n, xs, ys))) (wrB D [(m0, .inr (2, [.int (nI wd), .int (nI hg), .int (nI cap), .ref aP, .ref ax, .ref ay, .int (nI n), .ref afx, .ref afy, .ref atx, .ref aty, .int fr, .int tt, .int (sd 0), .int (sd 1), .int (sd 2), .int (sd 3)])), (ax, .inl (cI, 60, .inl xs)), (ay, .inl (cI, 60, .inl ys)), (afx, .inl (cI, 60, .inl fx)), (afy, .inl (cI, 60, .inl fy)), (atx, .inl (cI, 60, .inl tx)), (aty, .inl (cI, 60, .inl ty))] s.heap.size (fun z => [(m0, .inr (2, [.int (nI wd), .int (nI hg), .int (nI cap), .ref aP, .ref ax, .ref ay, .int (nI z.1.1), .ref afx, .ref afy, .ref atx, .ref aty, .int z.2.1.1, .int z.2.1.2, .int (sd 0), .int (sd 1), .int (sd 2), .int (sd 3)])), (ax, .inl (cI, 60, .inl z.1.2.1)), (ay, .inl (cI, 60, .inl z.1.2.2)), (afx, .inl (cI, 60, .inl z.2.2.1.1)), (afy, .inl (cI, 60, .inl z.2.2.1.2)), (atx, .inl (cI, 60, .inl z.2.2.2.1)), (aty, .inl (cI, 60, .inl z.2.2.2.2))])) A) #[.ref m0] s 0 0 A) (F0 m 50 ls []) := by
    intro j
    induction j with
    | zero => intro q h1 h2; omega
    | succ j ih =>
      intro q hq4 hqj M ex ey dx dy te hM hoM hlM H locs hP hD hS ls hl
      have hcM := clp_co (cap := cap) (sd := sd) hco hsd q hq4 M hM
      refine lv_iload_n hx hb dX2_clip_50 rfl (lv_at hl 1 rfl) ?_
      refine lv_iconst (v := 4) hx hb dX2_clip_51 (by decide) ?_
      refine lv_icmp_ge (tgt := 127) hx hb dX2_clip_52 (by decide) (fun c52 => ?_) (fun c52 => ?_)
      · skip
        refine lv_aload_n hx hb dX2_clip_127 rfl (lv_at hl 0 rfl) ?_
        refine lv_aload_n hx hb dX2_clip_128 rfl (lv_at hl 0 rfl) ?_
        refine va_get (D := D) (ci := 2) (v := .int (nI M.length)) (C := RX2) (T := TX2) (N := 17) hx hb hts nX2_clip_X2 hown hK.1 hP 0 rfl rfl 11 (by decide) (hts (.fieldLink RX2 75 "PolygonFrameModel" "from" "I") (by decide +kernel)) (fun _ h9 => h9) rfl dX2_clip_129 ?_
        refine va_put (D := D) (ci := 2) (v := .int (nI M.length)) (ty := .int) (C := RX2) (T := TX2) (N := 17) hx hb hts nX2_clip_X2 tyX2 tyX2_ok nmX2 hown hK.1 hP hD hS 0 rfl rfl 6 (by decide) (hts (.fieldLink RX2 57 "PolygonFrameModel" "size" "I") (by decide +kernel)) (fun _ h9 => h9) rfl (tyX2_ok 6 (by decide)) rfl rfl (Nat.le_of_ble_eq_true rfl) dX2_clip_132 (fun H locs hP hD hS => ?_)
        have hP : va_P D vwCl [(m0, .inr (2, [.int (nI wd), .int (nI hg), .int (nI cap), .ref aP, .ref ax, .ref ay, .int (nI M.length), .ref afx, .ref afy, .ref atx, .ref aty, .int (nI M.length), .int te, .int (sd 0), .int (sd 1), .int (sd 2), .int (sd 3)])), (ax, .inl (cI, 60, .inl xs)), (ay, .inl (cI, 60, .inl ys)), (afx, .inl (cI, 60, .inl ex)), (afy, .inl (cI, 60, .inl ey)), (atx, .inl (cI, 60, .inl dx)), (aty, .inl (cI, 60, .inl dy))] H := hP
        have hD : va_D A [(m0, .inr (2, [.int (nI wd), .int (nI hg), .int (nI cap), .ref aP, .ref ax, .ref ay, .int (nI M.length), .ref afx, .ref afy, .ref atx, .ref aty, .int (nI M.length), .int te, .int (sd 0), .int (sd 1), .int (sd 2), .int (sd 3)])), (ax, .inl (cI, 60, .inl xs)), (ay, .inl (cI, 60, .inl ys)), (afx, .inl (cI, 60, .inl ex)), (afy, .inl (cI, 60, .inl ey)), (atx, .inl (cI, 60, .inl dx)), (aty, .inl (cI, 60, .inl dy))] := hD
        refine lv_iconst (v := 0) hx hb dX2_clip_135 (by decide) ?_
        refine lv_istore_n (lv' := [(1, .int 0), (0, .ref m0)]) hx hb dX2_clip_136 rfl hl (by decide) rfl (fun ls hl => ?_)
        have hq : q = 4 := Nat.le_antisymm hq4 ((nI_leI (a := 4) (by omega) (by omega)).mp c52)
        rw [hq] at hM
        exact L4 M ex ey dx dy te hM hoM hlM (M.length + 1) 0 (Nat.zero_le _) (by omega) H locs hP hD hS ls (lv_sub hl [1, 0] rfl)
      · skip
        refine lv_aload_n hx hb dX2_clip_55 rfl (lv_at hl 0 rfl) ?_
        refine lv_iload_n hx hb dX2_clip_56 rfl (lv_at hl 1 rfl) ?_
        have hq : q < 4 := Nat.lt_of_not_le (fun h => c52 (nI_le (a := 4) h (by omega)))
        refine wr_v (wr := [(ax, .inl (cI, 60, .inl xs)), (ay, .inl (cI, 60, .inl ys))]) hP hD hS hA [0, 3, 4, 5, 6] [1, 2] rfl rfl (by decide) (by decide) (va_runV (As := [.int (nI q)]) ⟨hx, hb, hml, hown, hts⟩ (kX2_pass l D cI cZ H.size m0 aP ax ay afx afy atx aty wd hg cap n M.length te sd ex ey dx dy q hq (by omega) hc) (cwV 1 hts gX2_clip_X2_pass rfl rfl rfl (by decide +kernel) ⟨Nat.le_of_ble_eq_true rfl, Nat.le_of_ble_eq_true rfl⟩) (wr_preV (ci := 2) (q0 := 0) (hP.sub [0, 3, 4, 5, 6] rfl) hK (hD.sub [0, 3, 4, 5, 6] (by decide) rfl) rfl rfl) rfl rfl hl.1 rfl (lv_room (Nat.le_of_ble_eq_true rfl)) dX2_clip_57 ⟨Nat.zero_le _, Nat.zero_le _⟩) (fun u1 H locs hw1 hP hD hS => ?_)
        replace hP : va_P D vwCl [(m0, .inr (2, [.int (nI wd), .int (nI hg), .int (nI cap), .ref aP, .ref ax, .ref ay, .int (nI n), .ref afx, .ref afy, .ref atx, .ref aty, .int (nI M.length), .int (nI u1.1), .int (sd 0), .int (sd 1), .int (sd 2), .int (sd 3)])), (ax, .inl (cI, 60, .inl xs)), (ay, .inl (cI, 60, .inl ys)), (afx, .inl (cI, 60, .inl ex)), (afy, .inl (cI, 60, .inl ey)), (atx, .inl (cI, 60, .inl u1.2.1)), (aty, .inl (cI, 60, .inl u1.2.2))] H := hP.sub [2, 0, 1, 3, 4, 5, 6] rfl
        replace hD : va_D A [(m0, .inr (2, [.int (nI wd), .int (nI hg), .int (nI cap), .ref aP, .ref ax, .ref ay, .int (nI n), .ref afx, .ref afy, .ref atx, .ref aty, .int (nI M.length), .int (nI u1.1), .int (sd 0), .int (sd 1), .int (sd 2), .int (sd 3)])), (ax, .inl (cI, 60, .inl xs)), (ay, .inl (cI, 60, .inl ys)), (afx, .inl (cI, 60, .inl ex)), (afy, .inl (cI, 60, .inl ey)), (atx, .inl (cI, 60, .inl u1.2.1)), (aty, .inl (cI, 60, .inl u1.2.2))] := hD.sub [2, 0, 1, 3, 4, 5, 6] (by decide) rfl
        have e0 := mpL_pas hq hoM hcM hsd
        have e1 : u1.1 = (pasL q (sd q) M).length := by rw [hw1, mpV_1, e0]
        have hu : u1.1 ≤ 120 := by rw [hw1]; exact mpV_le (by omega)
        refine lv_aload_n hx hb dX2_clip_60 rfl (lv_at hl 0 rfl) ?_
        refine va_get (D := D) (ci := 2) (v := .int (nI u1.1)) (C := RX2) (T := TX2) (N := 17) hx hb hts nX2_clip_X2 hown hK.1 hP 0 rfl rfl 12 (by decide) (hts (.fieldLink RX2 64 "PolygonFrameModel" "to" "I") (by decide +kernel)) (fun _ h9 => h9) rfl dX2_clip_61 ?_
        refine lv_aload_n hx hb dX2_clip_64 rfl (lv_at hl 0 rfl) ?_
        refine va_get (D := D) (ci := 2) (v := .int (nI cap)) (C := RX2) (T := TX2) (N := 17) hx hb hts nX2_clip_X2 hown hK.1 hP 0 rfl rfl 2 (by decide) (hts (.fieldLink RX2 54 "PolygonFrameModel" "most" "I") (by decide +kernel)) (fun _ h9 => h9) rfl dX2_clip_65 ?_
        refine lv_icmp_le (tgt := 73) hx hb dX2_clip_68 (by decide) (fun c68 => ?_) (fun c68 => ?_)
        · skip
          refine lv_aload_n hx hb dX2_clip_73 rfl (lv_at hl 0 rfl) ?_
          refine lv_aload_n hx hb dX2_clip_74 rfl (lv_at hl 0 rfl) ?_
          refine va_get (D := D) (ci := 2) (v := .int (nI u1.1)) (C := RX2) (T := TX2) (N := 17) hx hb hts nX2_clip_X2 hown hK.1 hP 0 rfl rfl 12 (by decide) (hts (.fieldLink RX2 64 "PolygonFrameModel" "to" "I") (by decide +kernel)) (fun _ h9 => h9) rfl dX2_clip_75 ?_
          refine va_put (D := D) (ci := 2) (v := .int (nI u1.1)) (ty := .int) (C := RX2) (T := TX2) (N := 17) hx hb hts nX2_clip_X2 tyX2 tyX2_ok nmX2 hown hK.1 hP hD hS 0 rfl rfl 11 (by decide) (hts (.fieldLink RX2 75 "PolygonFrameModel" "from" "I") (by decide +kernel)) (fun _ h9 => h9) rfl (tyX2_ok 11 (by decide)) rfl rfl (Nat.le_of_ble_eq_true rfl) dX2_clip_78 (fun H locs hP hD hS => ?_)
          have hP : va_P D vwCl [(m0, .inr (2, [.int (nI wd), .int (nI hg), .int (nI cap), .ref aP, .ref ax, .ref ay, .int (nI n), .ref afx, .ref afy, .ref atx, .ref aty, .int (nI u1.1), .int (nI u1.1), .int (sd 0), .int (sd 1), .int (sd 2), .int (sd 3)])), (ax, .inl (cI, 60, .inl xs)), (ay, .inl (cI, 60, .inl ys)), (afx, .inl (cI, 60, .inl ex)), (afy, .inl (cI, 60, .inl ey)), (atx, .inl (cI, 60, .inl u1.2.1)), (aty, .inl (cI, 60, .inl u1.2.2))] H := hP
          have hD : va_D A [(m0, .inr (2, [.int (nI wd), .int (nI hg), .int (nI cap), .ref aP, .ref ax, .ref ay, .int (nI n), .ref afx, .ref afy, .ref atx, .ref aty, .int (nI u1.1), .int (nI u1.1), .int (sd 0), .int (sd 1), .int (sd 2), .int (sd 3)])), (ax, .inl (cI, 60, .inl xs)), (ay, .inl (cI, 60, .inl ys)), (afx, .inl (cI, 60, .inl ex)), (afy, .inl (cI, 60, .inl ey)), (atx, .inl (cI, 60, .inl u1.2.1)), (aty, .inl (cI, 60, .inl u1.2.2))] := hD
          refine lv_iconst (v := 0) hx hb dX2_clip_81 (by decide) ?_
          refine lv_istore_n (lv' := [(2, .int 0), (0, .ref m0), (1, .int (nI q))]) hx hb dX2_clip_82 rfl hl (by decide) rfl (fun ls hl => ?_)
          have hle : u1.1 ≤ cap := (nI_leI (by omega) (by omega)).mp c68
          have hle2 : (pasL q (sd q) M).length ≤ cap := by rw [← e1]; exact hle
          have ho1 : hoL u1.2.1 u1.2.2 (pasL q (sd q) M) := by rw [hw1, mpV, e0]; exact mpU_ho hle2
          have L3 : ∀ (j3 k : Nat), k ≤ u1.1 → u1.1 < k + j3 → ∀ (H : Heap) (locs : List Loc), va_P D vwCl [(m0, .inr (2, [.int (nI wd), .int (nI hg), .int (nI cap), .ref aP, .ref ax, .ref ay, .int (nI n), .ref afx, .ref afy, .ref atx, .ref aty, .int (nI u1.1), .int (nI u1.1), .int (sd 0), .int (sd 1), .int (sd 2), .int (sd 3)])), (ax, .inl (cI, 60, .inl xs)), (ay, .inl (cI, 60, .inl ys)), (afx, .inl (cI, 60, .inl (cpN u1.2.1 ex k))), (afy, .inl (cI, 60, .inl (cpN u1.2.2 ey k))), (atx, .inl (cI, 60, .inl u1.2.1)), (aty, .inl (cI, 60, .inl u1.2.2))] H → va_D A [(m0, .inr (2, [.int (nI wd), .int (nI hg), .int (nI cap), .ref aP, .ref ax, .ref ay, .int (nI n), .ref afx, .ref afy, .ref atx, .ref aty, .int (nI u1.1), .int (nI u1.1), .int (sd 0), .int (sd 1), .int (sd 2), .int (sd 3)])), (ax, .inl (cI, 60, .inl xs)), (ay, .inl (cI, 60, .inl ys)), (afx, .inl (cI, 60, .inl (cpN u1.2.1 ex k))), (afy, .inl (cI, 60, .inl (cpN u1.2.2 ey k))), (atx, .inl (cI, 60, .inl u1.2.1)), (aty, .inl (cI, 60, .inl u1.2.2))] → va_S A s.heap H locs → ∀ ls : Array Slot, lv_has ls 3 [(0, .ref m0), (1, .int (nI q)), (2, .int (nI k))] → W p l e ({ frames := 3, cells := 0, slots := 0, locals := 120 } : Room) s m #[.ref m0] below meth c H locs 0 0 (MQ below (va_Qi (S := (Nat × (Nat → Int32) × (Nat → Int32)) × (Int32 × Int32) × ((Nat → Int32) × (Nat → Int32)) × ((Nat → Int32) × (Nat → Int32))) (fun r z => (∃ M : List (Int32 × Int32), clpL cap sd L 4 = some M ∧ r = nI M.length ∧ z.1.1 = M.length ∧ hoL z.1.2.1 z.1.2.2 M ∧ M.length ≤ cap) ∨ (clpL cap sd L 4 = none ∧ r = (-1) ∧ z.1 = (n, xs, ys))) (wrB D [(m0, .inr (2, [.int (nI wd), .int (nI hg), .int (nI cap), .ref aP, .ref ax, .ref ay, .int (nI n), .ref afx, .ref afy, .ref atx, .ref aty, .int fr, .int tt, .int (sd 0), .int (sd 1), .int (sd 2), .int (sd 3)])), (ax, .inl (cI, 60, .inl xs)), (ay, .inl (cI, 60, .inl ys)), (afx, .inl (cI, 60, .inl fx)), (afy, .inl (cI, 60, .inl fy)), (atx, .inl (cI, 60, .inl tx)), (aty, .inl (cI, 60, .inl ty))] s.heap.size (fun z => [(m0, .inr (2, [.int (nI wd), .int (nI hg), .int (nI cap), .ref aP, .ref ax, .ref ay, .int (nI z.1.1), .ref afx, .ref afy, .ref atx, .ref aty, .int z.2.1.1, .int z.2.1.2, .int (sd 0), .int (sd 1), .int (sd 2), .int (sd 3)])), (ax, .inl (cI, 60, .inl z.1.2.1)), (ay, .inl (cI, 60, .inl z.1.2.2)), (afx, .inl (cI, 60, .inl z.2.2.1.1)), (afy, .inl (cI, 60, .inl z.2.2.1.2)), (atx, .inl (cI, 60, .inl z.2.2.2.1)), (aty, .inl (cI, 60, .inl z.2.2.2.2))])) A) #[.ref m0] s 0 0 A) (F0 m 83 ls []) := by
            intro j3
            induction j3 with
            | zero => intro k h1 h2; omega
            | succ j3 ih3 =>
              intro k hk hkj H locs hP hD hS ls hl
              refine lv_iload_n hx hb dX2_clip_83 rfl (lv_at hl 2 rfl) ?_
              refine lv_aload_n hx hb dX2_clip_84 rfl (lv_at hl 0 rfl) ?_
              refine va_get (D := D) (ci := 2) (v := .int (nI u1.1)) (C := RX2) (T := TX2) (N := 17) hx hb hts nX2_clip_X2 hown hK.1 hP 0 rfl rfl 12 (by decide) (hts (.fieldLink RX2 64 "PolygonFrameModel" "to" "I") (by decide +kernel)) (fun _ h9 => h9) rfl dX2_clip_85 ?_
              refine lv_icmp_ge (tgt := 121) hx hb dX2_clip_88 (by decide) (fun c88 => ?_) (fun c88 => ?_)
              · skip
                refine lv_iinc (v := (nI (q + 1))) (lv' := [(1, .int (nI (q + 1))), (0, .ref m0), (2, .int (nI k))]) hx hb dX2_clip_121 hl (k := 1) rfl (nI_1 _) (by decide) rfl (fun ls hl => ?_)
                refine lv_goto (tgt := 50) hx hb dX2_clip_124 (by decide) ?_
                have hkn : k = u1.1 := Nat.le_antisymm hk ((nI_leI (by omega) (by omega)).mp c88)
                rw [hkn, e1] at hP hD
                exact ih (q + 1) hq (by omega) (pasL q (sd q) M) _ _ _ _ _ (clp_s hM hle2) (cpN_ho ho1 rfl) hle2 H locs hP hD hS ls (lv_sub hl [1, 0] rfl)
              · skip
                have hk2 : k < u1.1 := Nat.lt_of_not_le (fun h => c88 (nI_le h (by omega)))
                refine lv_aload_n hx hb dX2_clip_91 rfl (lv_at hl 0 rfl) ?_
                refine va_get (D := D) (ci := 2) (v := .ref afx) (C := RX2) (T := TX2) (N := 17) hx hb hts nX2_clip_X2 hown hK.1 hP 0 rfl rfl 7 (by decide) (hts (.fieldLink RX2 19 "PolygonFrameModel" "fromX" "[I") (by decide +kernel)) (fun _ h9 => h9) rfl dX2_clip_92 ?_
                refine lv_iload_n hx hb dX2_clip_95 rfl (lv_at hl 2 rfl) ?_
                refine lv_aload_n hx hb dX2_clip_96 rfl (lv_at hl 0 rfl) ?_
                refine va_get (D := D) (ci := 2) (v := .ref atx) (C := RX2) (T := TX2) (N := 17) hx hb hts nX2_clip_X2 hown hK.1 hP 0 rfl rfl 9 (by decide) (hts (.fieldLink RX2 25 "PolygonFrameModel" "toX" "[I") (by decide +kernel)) (fun _ h9 => h9) rfl dX2_clip_97 ?_
                refine lv_iload_n hx hb dX2_clip_100 rfl (lv_at hl 2 rfl) ?_
                refine q_iald (k := k) hx hb hK.1 hP 5 0 rfl rfl (by omega) (by omega) dX2_clip_101 ?_
                refine q_iast (k := k) hx hb hK.1 hP hD hS 3 0 rfl rfl (by omega) (by omega) dX2_clip_102 (fun H locs hP hD hS => ?_)
                have hP : va_P D vwCl [(m0, .inr (2, [.int (nI wd), .int (nI hg), .int (nI cap), .ref aP, .ref ax, .ref ay, .int (nI n), .ref afx, .ref afy, .ref atx, .ref aty, .int (nI u1.1), .int (nI u1.1), .int (sd 0), .int (sd 1), .int (sd 2), .int (sd 3)])), (ax, .inl (cI, 60, .inl xs)), (ay, .inl (cI, 60, .inl ys)), (afx, .inl (cI, 60, .inl (upd (cpN u1.2.1 ex k) k (u1.2.1 k)))), (afy, .inl (cI, 60, .inl (cpN u1.2.2 ey k))), (atx, .inl (cI, 60, .inl u1.2.1)), (aty, .inl (cI, 60, .inl u1.2.2))] H := hP
                have hD : va_D A [(m0, .inr (2, [.int (nI wd), .int (nI hg), .int (nI cap), .ref aP, .ref ax, .ref ay, .int (nI n), .ref afx, .ref afy, .ref atx, .ref aty, .int (nI u1.1), .int (nI u1.1), .int (sd 0), .int (sd 1), .int (sd 2), .int (sd 3)])), (ax, .inl (cI, 60, .inl xs)), (ay, .inl (cI, 60, .inl ys)), (afx, .inl (cI, 60, .inl (upd (cpN u1.2.1 ex k) k (u1.2.1 k)))), (afy, .inl (cI, 60, .inl (cpN u1.2.2 ey k))), (atx, .inl (cI, 60, .inl u1.2.1)), (aty, .inl (cI, 60, .inl u1.2.2))] := hD
                refine lv_aload_n hx hb dX2_clip_103 rfl (lv_at hl 0 rfl) ?_
                refine va_get (D := D) (ci := 2) (v := .ref afy) (C := RX2) (T := TX2) (N := 17) hx hb hts nX2_clip_X2 hown hK.1 hP 0 rfl rfl 8 (by decide) (hts (.fieldLink RX2 22 "PolygonFrameModel" "fromY" "[I") (by decide +kernel)) (fun _ h9 => h9) rfl dX2_clip_104 ?_
                refine lv_iload_n hx hb dX2_clip_107 rfl (lv_at hl 2 rfl) ?_
                refine lv_aload_n hx hb dX2_clip_108 rfl (lv_at hl 0 rfl) ?_
                refine va_get (D := D) (ci := 2) (v := .ref aty) (C := RX2) (T := TX2) (N := 17) hx hb hts nX2_clip_X2 hown hK.1 hP 0 rfl rfl 10 (by decide) (hts (.fieldLink RX2 28 "PolygonFrameModel" "toY" "[I") (by decide +kernel)) (fun _ h9 => h9) rfl dX2_clip_109 ?_
                refine lv_iload_n hx hb dX2_clip_112 rfl (lv_at hl 2 rfl) ?_
                refine q_iald (k := k) hx hb hK.1 hP 6 0 rfl rfl (by omega) (by omega) dX2_clip_113 ?_
                refine q_iast (k := k) hx hb hK.1 hP hD hS 4 0 rfl rfl (by omega) (by omega) dX2_clip_114 (fun H locs hP hD hS => ?_)
                have hP : va_P D vwCl [(m0, .inr (2, [.int (nI wd), .int (nI hg), .int (nI cap), .ref aP, .ref ax, .ref ay, .int (nI n), .ref afx, .ref afy, .ref atx, .ref aty, .int (nI u1.1), .int (nI u1.1), .int (sd 0), .int (sd 1), .int (sd 2), .int (sd 3)])), (ax, .inl (cI, 60, .inl xs)), (ay, .inl (cI, 60, .inl ys)), (afx, .inl (cI, 60, .inl (upd (cpN u1.2.1 ex k) k (u1.2.1 k)))), (afy, .inl (cI, 60, .inl (upd (cpN u1.2.2 ey k) k (u1.2.2 k)))), (atx, .inl (cI, 60, .inl u1.2.1)), (aty, .inl (cI, 60, .inl u1.2.2))] H := hP
                have hD : va_D A [(m0, .inr (2, [.int (nI wd), .int (nI hg), .int (nI cap), .ref aP, .ref ax, .ref ay, .int (nI n), .ref afx, .ref afy, .ref atx, .ref aty, .int (nI u1.1), .int (nI u1.1), .int (sd 0), .int (sd 1), .int (sd 2), .int (sd 3)])), (ax, .inl (cI, 60, .inl xs)), (ay, .inl (cI, 60, .inl ys)), (afx, .inl (cI, 60, .inl (upd (cpN u1.2.1 ex k) k (u1.2.1 k)))), (afy, .inl (cI, 60, .inl (upd (cpN u1.2.2 ey k) k (u1.2.2 k)))), (atx, .inl (cI, 60, .inl u1.2.1)), (aty, .inl (cI, 60, .inl u1.2.2))] := hD
                refine lv_iinc (v := (nI (k + 1))) (lv' := [(2, .int (nI (k + 1))), (0, .ref m0), (1, .int (nI q))]) hx hb dX2_clip_115 hl (k := 2) rfl (nI_1 _) (by decide) rfl (fun ls hl => ?_)
                refine lv_goto (tgt := 83) hx hb dX2_clip_118 (by decide) ?_
                rw [cpN_s, cpN_s] at hP hD
                exact ih3 (k + 1) (by omega) (by omega) H locs hP hD hS ls (lv_sub hl [1, 2, 0] rfl)
          exact L3 (u1.1 + 1) 0 (Nat.zero_le _) (by omega) H locs hP hD hS ls (lv_sub hl [1, 2, 0] rfl)
        · skip
          refine lv_iconst (v := (-1)) hx hb dX2_clip_71 (by decide) ?_
          exact W.iret (v := (-1)) hx hb hr (fun t ht hW => ⟨⟨(-1), ((n, xs, ys), (nI M.length, nI u1.1), (ex, ey), (u1.2.1, u1.2.2)), rfl, Or.inr ⟨clp_none hq hM (fun h => c68 (nI_le (by rw [e1]; exact h) (by omega))), rfl, rfl⟩, by rw [ht]; exact hP, by rw [hAe]; exact hD⟩, hS.F ht⟩) hS.2.2 dX2_clip_72
  have L1 : ∀ (j k : Nat), k ≤ n → n < k + j → ∀ (H : Heap) (locs : List Loc), va_P D vwCl [(m0, .inr (2, [.int (nI wd), .int (nI hg), .int (nI cap), .ref aP, .ref ax, .ref ay, .int (nI n), .ref afx, .ref afy, .ref atx, .ref aty, .int (nI n), .int tt, .int (sd 0), .int (sd 1), .int (sd 2), .int (sd 3)])), (ax, .inl (cI, 60, .inl xs)), (ay, .inl (cI, 60, .inl ys)), (afx, .inl (cI, 60, .inl (cpN xs fx k))), (afy, .inl (cI, 60, .inl (cpN ys fy k))), (atx, .inl (cI, 60, .inl tx)), (aty, .inl (cI, 60, .inl ty))] H → va_D A [(m0, .inr (2, [.int (nI wd), .int (nI hg), .int (nI cap), .ref aP, .ref ax, .ref ay, .int (nI n), .ref afx, .ref afy, .ref atx, .ref aty, .int (nI n), .int tt, .int (sd 0), .int (sd 1), .int (sd 2), .int (sd 3)])), (ax, .inl (cI, 60, .inl xs)), (ay, .inl (cI, 60, .inl ys)), (afx, .inl (cI, 60, .inl (cpN xs fx k))), (afy, .inl (cI, 60, .inl (cpN ys fy k))), (atx, .inl (cI, 60, .inl tx)), (aty, .inl (cI, 60, .inl ty))] → va_S A s.heap H locs → ∀ ls : Array Slot, lv_has ls 3 [(0, .ref m0), (1, .int (nI k))] → W p l e ({ frames := 3, cells := 0, slots := 0, locals := 120 } : Room) s m #[.ref m0] below meth c H locs 0 0 (MQ below (va_Qi (S := (Nat × (Nat → Int32) × (Nat → Int32)) × (Int32 × Int32) × ((Nat → Int32) × (Nat → Int32)) × ((Nat → Int32) × (Nat → Int32))) (fun r z => (∃ M : List (Int32 × Int32), clpL cap sd L 4 = some M ∧ r = nI M.length ∧ z.1.1 = M.length ∧ hoL z.1.2.1 z.1.2.2 M ∧ M.length ≤ cap) ∨ (clpL cap sd L 4 = none ∧ r = (-1) ∧ z.1 = (n, xs, ys))) (wrB D [(m0, .inr (2, [.int (nI wd), .int (nI hg), .int (nI cap), .ref aP, .ref ax, .ref ay, .int (nI n), .ref afx, .ref afy, .ref atx, .ref aty, .int fr, .int tt, .int (sd 0), .int (sd 1), .int (sd 2), .int (sd 3)])), (ax, .inl (cI, 60, .inl xs)), (ay, .inl (cI, 60, .inl ys)), (afx, .inl (cI, 60, .inl fx)), (afy, .inl (cI, 60, .inl fy)), (atx, .inl (cI, 60, .inl tx)), (aty, .inl (cI, 60, .inl ty))] s.heap.size (fun z => [(m0, .inr (2, [.int (nI wd), .int (nI hg), .int (nI cap), .ref aP, .ref ax, .ref ay, .int (nI z.1.1), .ref afx, .ref afy, .ref atx, .ref aty, .int z.2.1.1, .int z.2.1.2, .int (sd 0), .int (sd 1), .int (sd 2), .int (sd 3)])), (ax, .inl (cI, 60, .inl z.1.2.1)), (ay, .inl (cI, 60, .inl z.1.2.2)), (afx, .inl (cI, 60, .inl z.2.2.1.1)), (afy, .inl (cI, 60, .inl z.2.2.1.2)), (atx, .inl (cI, 60, .inl z.2.2.2.1)), (aty, .inl (cI, 60, .inl z.2.2.2.2))])) A) #[.ref m0] s 0 0 A) (F0 m 10 ls []) := by
    intro j
    induction j with
    | zero => intro k h1 h2; omega
    | succ j ih =>
      intro k hk hkj H locs hP hD hS ls hl
      refine lv_iload_n hx hb dX2_clip_10 rfl (lv_at hl 1 rfl) ?_
      refine lv_aload_n hx hb dX2_clip_11 rfl (lv_at hl 0 rfl) ?_
      refine va_get (D := D) (ci := 2) (v := .int (nI n)) (C := RX2) (T := TX2) (N := 17) hx hb hts nX2_clip_X2 hown hK.1 hP 0 rfl rfl 6 (by decide) (hts (.fieldLink RX2 57 "PolygonFrameModel" "size" "I") (by decide +kernel)) (fun _ h9 => h9) rfl dX2_clip_12 ?_
      refine lv_icmp_ge (tgt := 48) hx hb dX2_clip_15 (by decide) (fun c15 => ?_) (fun c15 => ?_)
      · skip
        refine lv_iconst (v := 0) hx hb dX2_clip_48 (by decide) ?_
        refine lv_istore_n (lv' := [(1, .int 0), (0, .ref m0)]) hx hb dX2_clip_49 rfl hl (by decide) rfl (fun ls hl => ?_)
        have hkn : k = n := Nat.le_antisymm hk ((nI_leI (by omega) (by omega)).mp c15)
        rw [hkn] at hP hD
        have hP9 : va_P D vwCl [(m0, .inr (2, [.int (nI wd), .int (nI hg), .int (nI cap), .ref aP, .ref ax, .ref ay, .int (nI n), .ref afx, .ref afy, .ref atx, .ref aty, .int (nI L.length), .int tt, .int (sd 0), .int (sd 1), .int (sd 2), .int (sd 3)])), (ax, .inl (cI, 60, .inl xs)), (ay, .inl (cI, 60, .inl ys)), (afx, .inl (cI, 60, .inl (cpN xs fx n))), (afy, .inl (cI, 60, .inl (cpN ys fy n))), (atx, .inl (cI, 60, .inl tx)), (aty, .inl (cI, 60, .inl ty))] H := by rw [← hL]; exact hP
        have hD9 : va_D A [(m0, .inr (2, [.int (nI wd), .int (nI hg), .int (nI cap), .ref aP, .ref ax, .ref ay, .int (nI n), .ref afx, .ref afy, .ref atx, .ref aty, .int (nI L.length), .int tt, .int (sd 0), .int (sd 1), .int (sd 2), .int (sd 3)])), (ax, .inl (cI, 60, .inl xs)), (ay, .inl (cI, 60, .inl ys)), (afx, .inl (cI, 60, .inl (cpN xs fx n))), (afy, .inl (cI, 60, .inl (cpN ys fy n))), (atx, .inl (cI, 60, .inl tx)), (aty, .inl (cI, 60, .inl ty))] := by rw [← hL]; exact hD
        exact L2 5 0 (by decide) (by decide) L _ _ _ _ _ rfl (cpN_ho ho hL) (by rw [← hL]; exact hn) H locs hP9 hD9 hS ls (lv_sub hl [1, 0] rfl)
      · skip
        have hk2 : k < n := Nat.lt_of_not_le (fun h => c15 (nI_le h (by omega)))
        refine lv_aload_n hx hb dX2_clip_18 rfl (lv_at hl 0 rfl) ?_
        refine va_get (D := D) (ci := 2) (v := .ref afx) (C := RX2) (T := TX2) (N := 17) hx hb hts nX2_clip_X2 hown hK.1 hP 0 rfl rfl 7 (by decide) (hts (.fieldLink RX2 19 "PolygonFrameModel" "fromX" "[I") (by decide +kernel)) (fun _ h9 => h9) rfl dX2_clip_19 ?_
        refine lv_iload_n hx hb dX2_clip_22 rfl (lv_at hl 1 rfl) ?_
        refine lv_aload_n hx hb dX2_clip_23 rfl (lv_at hl 0 rfl) ?_
        refine va_get (D := D) (ci := 2) (v := .ref ax) (C := RX2) (T := TX2) (N := 17) hx hb hts nX2_clip_X2 hown hK.1 hP 0 rfl rfl 4 (by decide) (hts (.fieldLink RX2 13 "PolygonFrameModel" "xs" "[I") (by decide +kernel)) (fun _ h9 => h9) rfl dX2_clip_24 ?_
        refine lv_iload_n hx hb dX2_clip_27 rfl (lv_at hl 1 rfl) ?_
        refine q_iald (k := k) hx hb hK.1 hP 1 0 rfl rfl (by omega) (by omega) dX2_clip_28 ?_
        refine q_iast (k := k) hx hb hK.1 hP hD hS 3 0 rfl rfl (by omega) (by omega) dX2_clip_29 (fun H locs hP hD hS => ?_)
        have hP : va_P D vwCl [(m0, .inr (2, [.int (nI wd), .int (nI hg), .int (nI cap), .ref aP, .ref ax, .ref ay, .int (nI n), .ref afx, .ref afy, .ref atx, .ref aty, .int (nI n), .int tt, .int (sd 0), .int (sd 1), .int (sd 2), .int (sd 3)])), (ax, .inl (cI, 60, .inl xs)), (ay, .inl (cI, 60, .inl ys)), (afx, .inl (cI, 60, .inl (upd (cpN xs fx k) k (xs k)))), (afy, .inl (cI, 60, .inl (cpN ys fy k))), (atx, .inl (cI, 60, .inl tx)), (aty, .inl (cI, 60, .inl ty))] H := hP
        have hD : va_D A [(m0, .inr (2, [.int (nI wd), .int (nI hg), .int (nI cap), .ref aP, .ref ax, .ref ay, .int (nI n), .ref afx, .ref afy, .ref atx, .ref aty, .int (nI n), .int tt, .int (sd 0), .int (sd 1), .int (sd 2), .int (sd 3)])), (ax, .inl (cI, 60, .inl xs)), (ay, .inl (cI, 60, .inl ys)), (afx, .inl (cI, 60, .inl (upd (cpN xs fx k) k (xs k)))), (afy, .inl (cI, 60, .inl (cpN ys fy k))), (atx, .inl (cI, 60, .inl tx)), (aty, .inl (cI, 60, .inl ty))] := hD
        refine lv_aload_n hx hb dX2_clip_30 rfl (lv_at hl 0 rfl) ?_
        refine va_get (D := D) (ci := 2) (v := .ref afy) (C := RX2) (T := TX2) (N := 17) hx hb hts nX2_clip_X2 hown hK.1 hP 0 rfl rfl 8 (by decide) (hts (.fieldLink RX2 22 "PolygonFrameModel" "fromY" "[I") (by decide +kernel)) (fun _ h9 => h9) rfl dX2_clip_31 ?_
        refine lv_iload_n hx hb dX2_clip_34 rfl (lv_at hl 1 rfl) ?_
        refine lv_aload_n hx hb dX2_clip_35 rfl (lv_at hl 0 rfl) ?_
        refine va_get (D := D) (ci := 2) (v := .ref ay) (C := RX2) (T := TX2) (N := 17) hx hb hts nX2_clip_X2 hown hK.1 hP 0 rfl rfl 5 (by decide) (hts (.fieldLink RX2 16 "PolygonFrameModel" "ys" "[I") (by decide +kernel)) (fun _ h9 => h9) rfl dX2_clip_36 ?_
        refine lv_iload_n hx hb dX2_clip_39 rfl (lv_at hl 1 rfl) ?_
        refine q_iald (k := k) hx hb hK.1 hP 2 0 rfl rfl (by omega) (by omega) dX2_clip_40 ?_
        refine q_iast (k := k) hx hb hK.1 hP hD hS 4 0 rfl rfl (by omega) (by omega) dX2_clip_41 (fun H locs hP hD hS => ?_)
        have hP : va_P D vwCl [(m0, .inr (2, [.int (nI wd), .int (nI hg), .int (nI cap), .ref aP, .ref ax, .ref ay, .int (nI n), .ref afx, .ref afy, .ref atx, .ref aty, .int (nI n), .int tt, .int (sd 0), .int (sd 1), .int (sd 2), .int (sd 3)])), (ax, .inl (cI, 60, .inl xs)), (ay, .inl (cI, 60, .inl ys)), (afx, .inl (cI, 60, .inl (upd (cpN xs fx k) k (xs k)))), (afy, .inl (cI, 60, .inl (upd (cpN ys fy k) k (ys k)))), (atx, .inl (cI, 60, .inl tx)), (aty, .inl (cI, 60, .inl ty))] H := hP
        have hD : va_D A [(m0, .inr (2, [.int (nI wd), .int (nI hg), .int (nI cap), .ref aP, .ref ax, .ref ay, .int (nI n), .ref afx, .ref afy, .ref atx, .ref aty, .int (nI n), .int tt, .int (sd 0), .int (sd 1), .int (sd 2), .int (sd 3)])), (ax, .inl (cI, 60, .inl xs)), (ay, .inl (cI, 60, .inl ys)), (afx, .inl (cI, 60, .inl (upd (cpN xs fx k) k (xs k)))), (afy, .inl (cI, 60, .inl (upd (cpN ys fy k) k (ys k)))), (atx, .inl (cI, 60, .inl tx)), (aty, .inl (cI, 60, .inl ty))] := hD
        refine lv_iinc (v := (nI (k + 1))) (lv' := [(1, .int (nI (k + 1))), (0, .ref m0)]) hx hb dX2_clip_42 hl (k := 1) rfl (nI_1 _) (by decide) rfl (fun ls hl => ?_)
        refine lv_goto (tgt := 10) hx hb dX2_clip_45 (by decide) ?_
        rw [cpN_s, cpN_s] at hP hD
        exact ih (k + 1) (by omega) (by omega) H locs hP hD hS ls (lv_sub hl [1, 0] rfl)
  refine lv_aload_n hx hb dX2_clip_0 rfl (lv_at hl 0 rfl) ?_
  refine lv_aload_n hx hb dX2_clip_1 rfl (lv_at hl 0 rfl) ?_
  refine va_get (D := D) (ci := 2) (v := .int (nI n)) (C := RX2) (T := TX2) (N := 17) hx hb hts nX2_clip_X2 hown hK.1 hP 0 rfl rfl 6 (by decide) (hts (.fieldLink RX2 57 "PolygonFrameModel" "size" "I") (by decide +kernel)) (fun _ h9 => h9) rfl dX2_clip_2 ?_
  refine va_put (D := D) (ci := 2) (v := .int (nI n)) (ty := .int) (C := RX2) (T := TX2) (N := 17) hx hb hts nX2_clip_X2 tyX2 tyX2_ok nmX2 hown hK.1 hP hD hS 0 rfl rfl 11 (by decide) (hts (.fieldLink RX2 75 "PolygonFrameModel" "from" "I") (by decide +kernel)) (fun _ h9 => h9) rfl (tyX2_ok 11 (by decide)) rfl rfl (Nat.le_of_ble_eq_true rfl) dX2_clip_5 (fun H locs hP hD hS => ?_)
  have hP : va_P D vwCl [(m0, .inr (2, [.int (nI wd), .int (nI hg), .int (nI cap), .ref aP, .ref ax, .ref ay, .int (nI n), .ref afx, .ref afy, .ref atx, .ref aty, .int (nI n), .int tt, .int (sd 0), .int (sd 1), .int (sd 2), .int (sd 3)])), (ax, .inl (cI, 60, .inl xs)), (ay, .inl (cI, 60, .inl ys)), (afx, .inl (cI, 60, .inl fx)), (afy, .inl (cI, 60, .inl fy)), (atx, .inl (cI, 60, .inl tx)), (aty, .inl (cI, 60, .inl ty))] H := hP
  have hD : va_D A [(m0, .inr (2, [.int (nI wd), .int (nI hg), .int (nI cap), .ref aP, .ref ax, .ref ay, .int (nI n), .ref afx, .ref afy, .ref atx, .ref aty, .int (nI n), .int tt, .int (sd 0), .int (sd 1), .int (sd 2), .int (sd 3)])), (ax, .inl (cI, 60, .inl xs)), (ay, .inl (cI, 60, .inl ys)), (afx, .inl (cI, 60, .inl fx)), (afy, .inl (cI, 60, .inl fy)), (atx, .inl (cI, 60, .inl tx)), (aty, .inl (cI, 60, .inl ty))] := hD
  refine lv_iconst (v := 0) hx hb dX2_clip_8 (by decide) ?_
  refine lv_istore_n (lv' := [(1, .int 0), (0, .ref m0)]) hx hb dX2_clip_9 rfl hl (by decide) rfl (fun ls hl => ?_)
  exact L1 (n + 1) 0 (Nat.zero_le _) (by omega) H locs hP hD hS ls (lv_sub hl [1, 0] rfl)
end
section
/-! FILLING: parities of places, counts, the frame's pixels. -/
/-- the place that a crossing is marked at -/
def clN (w : Nat) (v : Int32) : Nat := (neI v 0 (nI w)).toNatClampNeg
theorem clN_ok {w : Nat} (hw : w ≤ 24) (v : Int32) : neI v 0 (nI w) = nI (clN w v) ∧ clN w v ≤ w := by
  have hm : ∃ j : Nat, j ≤ w ∧ neI v 0 (nI w) = nI j := by
    unfold neI
    by_cases h1 : v < nI w
    · rw [if_pos h1]
      by_cases h2 : (0 : Int32) < v
      · rw [if_pos h2]
        rcases pk_ix v (n := w) (by omega) with h3 | h3 | ⟨j, h3, h4⟩
        · exact absurd (Int32.lt_trans h3 h2) Int32.lt_irrefl
        · exact absurd (Int32.lt_of_lt_of_le h1 h3) Int32.lt_irrefl
        · exact ⟨j, by omega, h4⟩
      · rw [if_neg h2]; exact ⟨0, Nat.zero_le _, rfl⟩
    · rw [if_neg h1]
      by_cases h2 : (0 : Int32) < nI w
      · rw [if_pos h2]; exact ⟨w, Nat.le_refl _, rfl⟩
      · rw [if_neg h2]; exact ⟨0, Nat.zero_le _, rfl⟩
  obtain ⟨j, hj, e⟩ := hm
  have e2 : clN w v = j := by unfold clN; rw [e]; exact nI_clamp (by omega)
  rw [e2]; exact ⟨e, hj⟩
/-- which places are marked after k edges -/
def tuB (xs ys : Nat → Int32) (n w : Nat) (y : Int32) : Nat → Nat → Bool
  | 0 => fun _ => false
  | k + 1 => if emB ys n k y = true then (fun i => if i = clN w (cuI xs ys n k y) then !(tuB xs ys n w y k i) else tuB xs ys n w y k i) else tuB xs ys n w y k
theorem tu_f {xs ys : Nat → Int32} {n w k : Nat} {y : Int32} (h : emB ys n k y = false) : tuB xs ys n w y (k + 1) = tuB xs ys n w y k := by
  rw [tuB, if_neg (by rw [h]; decide)]
theorem tu_t {xs ys : Nat → Int32} {n w k : Nat} {y : Int32} (h : emB ys n k y = true) : tuB xs ys n w y (k + 1) = fun i => if i = clN w (cuI xs ys n k y) then !(tuB xs ys n w y k i) else tuB xs ys n w y k i := by
  rw [tuB, if_pos h]
/-- the odd ones among the last d marks -/
def sfD (T : Nat → Bool) (w : Nat) : Nat → Bool
  | 0 => false
  | d + 1 => T (w - d) != sfD T w d
theorem sf_0 (w d : Nat) : sfD (fun _ => false) w d = false := by
  induction d with
  | zero => rfl
  | succ d ih => rw [sfD, ih]; rfl
theorem sf_tog {T : Nat → Bool} {w c : Nat} (hc : c ≤ w) : ∀ d, d ≤ w → sfD (fun i => if i = c then !(T i) else T i) w d = (if w < c + d then !(sfD T w d) else sfD T w d) := by
  intro d
  induction d with
  | zero => intro _; rw [if_neg (by omega)]; rfl
  | succ d ih =>
    intro hd
    rw [sfD, sfD, ih (by omega)]
    by_cases h1 : w - d = c
    · rw [if_pos h1, if_neg (by omega), if_pos (by omega)]
      cases T (w - d) <;> cases sfD T w d <;> rfl
    · rw [if_neg h1]
      by_cases h2 : w < c + d
      · rw [if_pos h2, if_pos (by omega)]
        cases T (w - d) <;> cases sfD T w d <;> rfl
      · rw [if_neg h2, if_neg (by omega)]
/-- a pixel's row of marks is what is inside -/
theorem sf_in {xs ys : Nat → Int32} {n w x : Nat} {y : Int32} (hw : w ≤ 24) (hx : x < w) : ∀ k, sfD (tuB xs ys n w y k) w (w - x) = oddB (crB xs ys n (nI x) y) k := by
  intro k
  induction k with
  | zero => exact sf_0 _ _
  | succ k ih =>
    by_cases h : emB ys n k y = true
    · obtain ⟨e, hle⟩ := clN_ok hw (cuI xs ys n k y)
      rw [tu_t h, sf_tog hle (w - x) (by omega), ih, oddB, crB, h]
      have key : (w < clN w (cuI xs ys n k y) + (w - x)) ↔ ¬ cuI xs ys n k y ≤ nI x := by
        have hq : ¬ cuI xs ys n k y ≤ nI x ↔ nI x < neI (cuI xs ys n k y) 0 (nI w) := by
          generalize cuI xs ys n k y = v
          have h0 : (0 : Int32) ≤ nI x := nI_pos' (by omega)
          have hxw : nI x < nI w := nI_lt hx (by omega)
          have h0w : (0 : Int32) < nI w := by
            have := nI_lt (a := 0) (b := w) (by omega) (by omega); exact this
          simp only [Int32.le_iff_toInt_le, Int32.lt_iff_toInt_lt, show (0 : Int32).toInt = 0 from rfl] at h0 hxw h0w ⊢
          unfold neI
          by_cases h1 : v < nI w
          · rw [if_pos h1]
            by_cases h2 : (0 : Int32) < v
            · rw [if_pos h2]; omega
            · rw [if_neg h2]
              simp only [Int32.lt_iff_toInt_lt, show (0 : Int32).toInt = 0 from rfl] at h2 ⊢
              omega
          · rw [if_neg h1]
            simp only [Int32.lt_iff_toInt_lt] at h1
            rw [if_pos (by rw [Int32.lt_iff_toInt_lt]; exact h0w)]
            omega
        rw [hq, e, nI_ltI (by omega) (by omega)]; omega
      by_cases h5 : cuI xs ys n k y ≤ nI x
      · rw [if_neg (fun q => key.mp q h5), decide_eq_false (fun q => q h5)]
        cases oddB (crB xs ys n (nI x) y) k <;> rfl
      · rw [if_pos (key.mpr h5), decide_eq_true h5]
        cases oddB (crB xs ys n (nI x) y) k <;> rfl
    · have h6 : emB ys n k y = false := by cases h7 : emB ys n k y; rfl; exact absurd h7 h
      rw [tu_f h6, ih, odd_f (cr_f h6)]
/-- how many of the first n -/
def cnB (f : Nat → Bool) : Nat → Nat
  | 0 => 0
  | k + 1 => cnB f k + (if f k = true then 1 else 0)
theorem cn_le (f : Nat → Bool) (k : Nat) : cnB f k ≤ k := by
  induction k with
  | zero => exact Nat.le_refl _
  | succ k ih => rw [cnB]; split <;> omega
theorem cn_mono {f : Nat → Bool} {k m : Nat} (h : k ≤ m) : cnB f k ≤ cnB f m := by
  induction m with
  | zero => rw [Nat.le_zero.mp h]; exact Nat.le_refl _
  | succ m ih =>
    by_cases he : k = m + 1
    · rw [he]; exact Nat.le_refl _
    · rw [cnB]; have := ih (by omega); omega
theorem cn_t {f : Nat → Bool} {k : Nat} (h : f k = true) : cnB f (k + 1) = cnB f k + 1 := by rw [cnB, if_pos h]
theorem cn_f {f : Nat → Bool} {k : Nat} (h : f k = false) : cnB f (k + 1) = cnB f k := by rw [cnB, if_neg (by rw [h]; decide)]; rfl
theorem cn_congr {f g : Nat → Bool} : ∀ k, (∀ i, i < k → f i = g i) → cnB f k = cnB g k := by
  intro k
  induction k with
  | zero => intro _; rfl
  | succ k ih => intro h; rw [cnB, cnB, ih (fun i hi => h i (by omega)), h k (by omega)]
def suN (f : Nat → Nat) : Nat → Nat
  | 0 => 0
  | k + 1 => suN f k + f k
theorem su_congr {f g : Nat → Nat} : ∀ k, (∀ i, i < k → f i = g i) → suN f k = suN g k := by
  intro k
  induction k with
  | zero => intro _; rfl
  | succ k ih => intro h; rw [suN, suN, ih (fun i hi => h i (by omega)), h k (by omega)]
theorem su_le {f : Nat → Nat} {b : Nat} (h : ∀ i, f i ≤ b) : ∀ k, suN f k ≤ k * b := by
  intro k
  induction k with
  | zero => exact Nat.zero_le _
  | succ k ih => rw [suN, Nat.add_mul, Nat.one_mul]; have := h k; omega
/-- places in the frame are apart -/
theorem at_inj {w i j a b : Nat} (hi : i < w) (ha : a < w) (h : j * w + i = b * w + a) : j = b ∧ i = a := by
  have h1 : (j * w + i) / w = j := by
    rw [Nat.mul_comm, Nat.mul_add_div (by omega), Nat.div_eq_of_lt hi]; omega
  have h2 : (b * w + a) / w = b := by
    rw [Nat.mul_comm, Nat.mul_add_div (by omega), Nat.div_eq_of_lt ha]; omega
  have h3 : j = b := by rw [← h1, ← h2, h]
  subst h3
  exact ⟨rfl, by omega⟩
end
section
/-! THE CLASS'S FILL: marks, a line, the frame. -/
theorem tu_upd {xs ys : Nat → Int32} {n w k : Nat} {y : Int32} {f : Nat → Int32} {v : Int32} (h : emB ys n k y = true) (hf : ∀ i, i ≤ w → f i = bI (tuB xs ys n w y k i)) (hv : v = bI (!(tuB xs ys n w y k (clN w (cuI xs ys n k y))))) : ∀ i, i ≤ w → upd f (clN w (cuI xs ys n k y)) v i = bI (tuB xs ys n w y (k + 1) i) := by
  intro i hi
  rw [tu_t h]
  by_cases he : i = clN w (cuI xs ys n k y)
  · rw [he, pk_us, hv]
    show _ = bI (if clN w (cuI xs ys n k y) = clN w (cuI xs ys n k y) then _ else _)
    rw [if_pos rfl]
  · rw [pk_un he, hf i hi]
    show _ = bI (if i = clN w (cuI xs ys n k y) then _ else _)
    rw [if_neg he]
theorem sf_s {T : Nat → Bool} {w k : Nat} (hk : k < w) : sfD T w (w - k) = (T (k + 1) != sfD T w (w - (k + 1))) := by
  rw [show w - k = (w - (k + 1)) + 1 by omega, sfD, show w - (w - (k + 1)) = k + 1 by omega]
theorem px_set {cl col : Nat → Int32} {w h j k : Nat} {v : Int32} {R : Nat → Bool} (hk : k < w) (hR : R k = true) (hcl : ∀ x y, x < w → y < h → cl (y * w + x) = if y = j ∧ k + 1 ≤ x ∧ R x = true then v else col (y * w + x)) :
    ∀ x y, x < w → y < h → upd cl (j * w + k) v (y * w + x) = if y = j ∧ k ≤ x ∧ R x = true then v else col (y * w + x) := by
  intro x y hx hy
  by_cases he : y * w + x = j * w + k
  · obtain ⟨h1, h2⟩ := at_inj hx hk he
    rw [he, pk_us, if_pos ⟨h1, by omega, by rw [h2]; exact hR⟩]
  · rw [pk_un he, hcl x y hx hy]
    by_cases hc : y = j ∧ k + 1 ≤ x ∧ R x = true
    · rw [if_pos hc, if_pos ⟨hc.1, by omega, hc.2.2⟩]
    · rw [if_neg hc, if_neg]
      intro h2
      apply hc
      refine ⟨h2.1, ?_, h2.2.2⟩
      have : x ≠ k := fun e => he (by rw [e, h2.1])
      omega
theorem px_skip {cl col : Nat → Int32} {w h j k : Nat} {v : Int32} {R : Nat → Bool} (hR : R k = false) (hcl : ∀ x y, x < w → y < h → cl (y * w + x) = if y = j ∧ k + 1 ≤ x ∧ R x = true then v else col (y * w + x)) :
    ∀ x y, x < w → y < h → cl (y * w + x) = if y = j ∧ k ≤ x ∧ R x = true then v else col (y * w + x) := by
  intro x y hx hy
  rw [hcl x y hx hy]
  by_cases hc : y = j ∧ k + 1 ≤ x ∧ R x = true
  · rw [if_pos hc, if_pos ⟨hc.1, by omega, hc.2.2⟩]
  · rw [if_neg hc, if_neg]
    intro h2
    apply hc
    refine ⟨h2.1, ?_, h2.2.2⟩
    have : x ≠ k := fun e => by rw [e, hR] at h2; exact absurd h2.2.2 (by decide)
    omega
/-- is a pixel inside -/
def inC (xs ys : Nat → Int32) (n x y : Nat) : Bool := oddB (crB xs ys n (nI x) (nI y)) n
theorem px_row {cl col u : Nat → Int32} {w h j : Nat} {v : Int32} {R : Nat → Bool} {IN : Nat → Nat → Bool} (hRI : ∀ x, x < w → R x = IN x j) (hcl : ∀ x y, x < w → y < h → cl (y * w + x) = if y < j ∧ IN x y = true then v else col (y * w + x)) (hu : ∀ x y, x < w → y < h → u (y * w + x) = if y = j ∧ R x = true then v else cl (y * w + x)) :
    ∀ x y, x < w → y < h → u (y * w + x) = if y < j + 1 ∧ IN x y = true then v else col (y * w + x) := by
  intro x y hx hy
  rw [hu x y hx hy, hcl x y hx hy]
  by_cases hyj : y = j
  · subst hyj
    rw [hRI x hx]
    by_cases hi : IN x y = true
    · rw [if_pos ⟨rfl, hi⟩, if_pos ⟨by omega, hi⟩]
    · rw [if_neg (fun q => hi q.2), if_neg (fun q => hi q.2), if_neg (fun q => hi q.2)]
  · rw [if_neg (fun q => hyj q.1)]
    by_cases hc : y < j ∧ IN x y = true
    · rw [if_pos hc, if_pos ⟨by omega, hc.2⟩]
    · rw [if_neg hc, if_neg]
      intro q
      exact hc ⟨by omega, q.2⟩
theorem nX1_markTurns_X1 : ∀ w ∈ wsX10, w ∈ wsX1_markTurns := fun w h => List.mem_cons_of_mem _ (List.mem_append_left _ (List.mem_append_right _ h))
theorem nX1_markTurns_X0 : ∀ w ∈ wsX00, w ∈ wsX1_markTurns := fun w h => List.mem_cons_of_mem _ (List.mem_append_right _ h)
set_option maxHeartbeats 4000000 in
set_option maxRecDepth 100000 in
theorem kX1_markTurns (l : Launch) (D : va_G) (cI cZ : ClassId) (sz : Nat) (p0 aC aT aS r0 rO rE wd hg : Nat) (ax ay n cap : Nat) (xs ys : Nat → Int32) (tn : Nat → Int32) (y : Int32) (hn : n ≤ cap) (hc : cap ≤ 60) (hw : wd ≤ 24) : Met l yX1_markTurns wsX1_markTurns ({ frames := 2, cells := 0, slots := 0, locals := 80 }) (va_Pc [.ref p0, .int y] (wrP D cI cZ sz [(p0, .inr (1, [.int (nI wd), .int (nI hg), .ref aC, .ref aT, .ref aS, .ref r0, .ref rO, .ref rE])), (r0, .inr (0, [.ref ax, .ref ay, .int (nI n)])), (ax, .inl (cI, cap, .inl xs)), (ay, .inl (cI, cap, .inl ys)), (aT, .inl (cZ, (wd + 1), .inl tn))])) (va_Qv (S := Nat → Int32) (fun u => ∀ i, i ≤ wd → u i = bI (tuB xs ys n wd y n i)) (wrB D [(p0, .inr (1, [.int (nI wd), .int (nI hg), .ref aC, .ref aT, .ref aS, .ref r0, .ref rO, .ref rE])), (r0, .inr (0, [.ref ax, .ref ay, .int (nI n)])), (ax, .inl (cI, cap, .inl xs)), (ay, .inl (cI, cap, .inl ys)), (aT, .inl (cZ, (wd + 1), .inl tn))] sz (fun u => [(p0, .inr (1, [.int (nI wd), .int (nI hg), .ref aC, .ref aT, .ref aS, .ref r0, .ref rO, .ref rE])), (r0, .inr (0, [.ref ax, .ref ay, .int (nI n)])), (ax, .inl (cI, cap, .inl xs)), (ay, .inl (cI, cap, .inl ys)), (aT, .inl (cZ, (wd + 1), .inl u))])) (va_A [(p0, .inr (1, [.int (nI wd), .int (nI hg), .ref aC, .ref aT, .ref aS, .ref r0, .ref rO, .ref rE])), (r0, .inr (0, [.ref ax, .ref ay, .int (nI n)])), (ax, .inl (cI, cap, .inl xs)), (ay, .inl (cI, cap, .inl ys)), (aT, .inl (cZ, (wd + 1), .inl tn))] sz)) 0 0 (va_A [(p0, .inr (1, [.int (nI wd), .int (nI hg), .ref aC, .ref aT, .ref aS, .ref r0, .ref rO, .ref rE])), (r0, .inr (0, [.ref ax, .ref ay, .int (nI n)])), (ax, .inl (cI, cap, .inl xs)), (ay, .inl (cI, cap, .inl ys)), (aT, .inl (cZ, (wd + 1), .inl tn))] sz) := by
  refine Met.ofW (cc := cX1_markTurns) (maxL := 4) (ret := none) (by decide) rfl ?_
  intro p e s m args below meth c s₁ B hml hv
  obtain ⟨rfl, hsz, hP, hK, hD0⟩ := hv
  have hx := B.exec
  have hb := B.bytes
  have hr := B.returns
  have hts := atoms_spec (ws := wsX1_markTurns) B.pre
  have hown : s.vm.findClass RX1 = some m.cls := findClass_of_methodNamed B.named
  have hlocks := B.notSynchronized
  subst hsz
  have hD := hD0.self (sz := s.heap.size)
  generalize hAe : va_A [(p0, .inr (1, [.int (nI wd), .int (nI hg), .ref aC, .ref aT, .ref aS, .ref r0, .ref rO, .ref rE])), (r0, .inr (0, [.ref ax, .ref ay, .int (nI n)])), (ax, .inl (cI, cap, .inl xs)), (ay, .inl (cI, cap, .inl ys)), (aT, .inl (cZ, (wd + 1), .inl tn))] s.heap.size = A at hD ⊢
  have hA : ∀ q : Nat, s.heap.size ≤ q → A q := fun q h => by rw [← hAe]; exact Or.inr h
  have hS : va_S A s.heap s.heap [] := va_S.rf
  have hP : va_P D vwCl [(p0, .inr (1, [.int (nI wd), .int (nI hg), .ref aC, .ref aT, .ref aS, .ref r0, .ref rO, .ref rE])), (r0, .inr (0, [.ref ax, .ref ay, .int (nI n)])), (ax, .inl (cI, cap, .inl xs)), (ay, .inl (cI, cap, .inl ys)), (aT, .inl (cZ, (wd + 1), .inl tn))] s.heap := hP
  have hl := lv_entry ([.ref p0, .int y]) (n := 4) (Nat.le_of_ble_eq_true rfl)
  rw [lg_entry_eq]
  generalize (lg_sl ([.ref p0, .int y]) ++ List.replicate (4 - (lg_sl ([.ref p0, .int y])).length) Slot.unset).toArray = ls at hl ⊢
  have hl : lv_has ls 4 [(0, .ref p0), (1, .int y)] := hl
  have L2 : ∀ (j k : Nat), k ≤ n → n < k + j → ∀ f : Nat → Int32, (∀ i, i ≤ wd → f i = bI (tuB xs ys n wd y k i)) → ∀ (H : Heap) (locs : List Loc), va_P D vwCl [(p0, .inr (1, [.int (nI wd), .int (nI hg), .ref aC, .ref aT, .ref aS, .ref r0, .ref rO, .ref rE])), (r0, .inr (0, [.ref ax, .ref ay, .int (nI n)])), (ax, .inl (cI, cap, .inl xs)), (ay, .inl (cI, cap, .inl ys)), (aT, .inl (cZ, (wd + 1), .inl f))] H → va_D A [(p0, .inr (1, [.int (nI wd), .int (nI hg), .ref aC, .ref aT, .ref aS, .ref r0, .ref rO, .ref rE])), (r0, .inr (0, [.ref ax, .ref ay, .int (nI n)])), (ax, .inl (cI, cap, .inl xs)), (ay, .inl (cI, cap, .inl ys)), (aT, .inl (cZ, (wd + 1), .inl f))] → va_S A s.heap H locs → ∀ ls : Array Slot, lv_has ls 4 [(0, .ref p0), (1, .int y), (2, .int (nI k))] → W p l e ({ frames := 2, cells := 0, slots := 0, locals := 80 } : Room) s m #[.ref p0, .int y] below meth c H locs 0 0 (MQ below (va_Qv (S := Nat → Int32) (fun u => ∀ i, i ≤ wd → u i = bI (tuB xs ys n wd y n i)) (wrB D [(p0, .inr (1, [.int (nI wd), .int (nI hg), .ref aC, .ref aT, .ref aS, .ref r0, .ref rO, .ref rE])), (r0, .inr (0, [.ref ax, .ref ay, .int (nI n)])), (ax, .inl (cI, cap, .inl xs)), (ay, .inl (cI, cap, .inl ys)), (aT, .inl (cZ, (wd + 1), .inl tn))] s.heap.size (fun u => [(p0, .inr (1, [.int (nI wd), .int (nI hg), .ref aC, .ref aT, .ref aS, .ref r0, .ref rO, .ref rE])), (r0, .inr (0, [.ref ax, .ref ay, .int (nI n)])), (ax, .inl (cI, cap, .inl xs)), (ay, .inl (cI, cap, .inl ys)), (aT, .inl (cZ, (wd + 1), .inl u))])) A) #[.ref p0, .int y] s 0 0 A) (F0 m 25 ls []) := by
    intro j
    induction j with
    | zero => intro k h1 h2; omega
    | succ j ih =>
      intro k hk hkj f hf H locs hP hD hS ls hl
      refine lv_iload_n hx hb dX1_markTurns_25 rfl (lv_at hl 2 rfl) ?_
      refine lv_aload_n hx hb dX1_markTurns_26 rfl (lv_at hl 0 rfl) ?_
      refine va_get (D := D) (ci := 1) (v := .ref r0) (C := RX1) (T := TX1) (N := 8) hx hb hts nX1_markTurns_X1 hown hK.1 hP 0 rfl rfl 5 (by decide) (hts (.fieldLink RX1 36 "PolygonFrame" "polygon" "LPolygonFrame$Ring;") (by decide +kernel)) (fun _ h9 => h9) rfl dX1_markTurns_27 ?_
      refine va_getN (D := D) (ci := 0) (v := .int (nI n)) (C := RX0) (T := TX0) (N := 3) hx hb hts nX1_markTurns_X0 hown hK.1 hP 1 rfl rfl 2 (by decide) (hK.2.count _) (fun _ h9 => h9) rfl dX1_markTurns_30 ?_
      refine lv_icmp_ge (tgt := 92) hx hb dX1_markTurns_33 (by decide) (fun c33 => ?_) (fun c33 => ?_)
      · skip
        have hkn : k = n := Nat.le_antisymm hk ((nI_leI (by omega) (by omega)).mp c33)
        rw [hkn] at hf
        exact W.vret hx hb hr (fun t ht hW => ⟨⟨f, rfl, hf, by rw [ht]; exact hP, by rw [hAe]; exact hD⟩, hS.F ht⟩) hS.2.2 dX1_markTurns_92
      · skip
        have hk2 : k < n := Nat.lt_of_not_le (fun h => c33 (nI_le h (by omega)))
        refine lv_aload_n hx hb dX1_markTurns_36 rfl (lv_at hl 0 rfl) ?_
        refine va_get (D := D) (ci := 1) (v := .ref r0) (C := RX1) (T := TX1) (N := 8) hx hb hts nX1_markTurns_X1 hown hK.1 hP 0 rfl rfl 5 (by decide) (hts (.fieldLink RX1 36 "PolygonFrame" "polygon" "LPolygonFrame$Ring;") (by decide +kernel)) (fun _ h9 => h9) rfl dX1_markTurns_37 ?_
        refine lv_iload_n hx hb dX1_markTurns_40 rfl (lv_at hl 2 rfl) ?_
        refine lv_iload_n hx hb dX1_markTurns_41 rfl (lv_at hl 1 rfl) ?_
        refine rd_i (va_runVN (C := RX0) (As := [.int (nI k), .int y]) ⟨hx, hb, hml, hown, hts⟩ (kX0_edgeMeets l D cI cZ r0 ax ay n cap k xs ys y hk2 hn hc) ⟨va_cnB 2 hts gX1_markTurns_X0_edgeMeets_n86 rfl rfl rfl hK.2.2.2.2.2.2.2.1 (hts (.initialized RX0) (by decide +kernel)) (by decide +kernel) ⟨Nat.le_of_ble_eq_true rfl, Nat.le_of_ble_eq_true rfl⟩, hts (.instanceMethod yX0_edgeMeets) (by decide +kernel), hts (.selects RX0 yX0_edgeMeets yX0_edgeMeets) (by decide +kernel)⟩ (rd_preV (ci := 0) (q0 := 0) (hP.sub [1, 2, 3] rfl) hK rfl rfl) rfl rfl hl.1 rfl (lv_room (Nat.le_of_ble_eq_true rfl)) dX1_markTurns_42 ⟨Nat.zero_le _, Nat.zero_le _⟩) ?_
        refine lv_if_eq (tgt := 86) hx hb dX1_markTurns_45 (by decide) (fun c45 => ?_) (fun c45 => ?_)
        · skip
          refine lv_iinc (v := (nI (k + 1))) (lv' := [(2, .int (nI (k + 1))), (0, .ref p0), (1, .int y)]) hx hb dX1_markTurns_86 hl (k := 2) rfl (nI_1 _) (by decide) rfl (fun ls hl => ?_)
          refine lv_goto (tgt := 25) hx hb dX1_markTurns_89 (by decide) ?_
          exact ih (k + 1) (by omega) (by omega) f (by rw [tu_f (bI_eq0.mp c45)]; exact hf) H locs hP hD hS ls (lv_sub hl [1, 2, 0] rfl)
        · skip
          refine lv_aload_n hx hb dX1_markTurns_48 rfl (lv_at hl 0 rfl) ?_
          refine va_get (D := D) (ci := 1) (v := .ref r0) (C := RX1) (T := TX1) (N := 8) hx hb hts nX1_markTurns_X1 hown hK.1 hP 0 rfl rfl 5 (by decide) (hts (.fieldLink RX1 36 "PolygonFrame" "polygon" "LPolygonFrame$Ring;") (by decide +kernel)) (fun _ h9 => h9) rfl dX1_markTurns_49 ?_
          refine lv_iload_n hx hb dX1_markTurns_52 rfl (lv_at hl 2 rfl) ?_
          refine lv_iload_n hx hb dX1_markTurns_53 rfl (lv_at hl 1 rfl) ?_
          refine rd_i (va_runVN (C := RX0) (As := [.int (nI k), .int y]) ⟨hx, hb, hml, hown, hts⟩ (kX0_crossingUpwards l D cI cZ r0 ax ay n cap k xs ys y hk2 hn hc (em_ne (bI_ne c45))) ⟨va_cnB 2 hts gX1_markTurns_X0_crossingUpwards_n89 rfl rfl rfl hK.2.2.2.2.2.2.2.2.1 (hts (.initialized RX0) (by decide +kernel)) (by decide +kernel) ⟨Nat.le_of_ble_eq_true rfl, Nat.le_of_ble_eq_true rfl⟩, hts (.instanceMethod yX0_crossingUpwards) (by decide +kernel), hts (.selects RX0 yX0_crossingUpwards yX0_crossingUpwards) (by decide +kernel)⟩ (rd_preV (ci := 0) (q0 := 0) (hP.sub [1, 2, 3] rfl) hK rfl rfl) rfl rfl hl.1 rfl (lv_room (Nat.le_of_ble_eq_true rfl)) dX1_markTurns_54 ⟨Nat.zero_le _, Nat.zero_le _⟩) ?_
          refine lv_iconst (v := 0) hx hb dX1_markTurns_57 (by decide) ?_
          refine lv_aload_n hx hb dX1_markTurns_58 rfl (lv_at hl 0 rfl) ?_
          refine va_get (D := D) (ci := 1) (v := .int (nI wd)) (C := RX1) (T := TX1) (N := 8) hx hb hts nX1_markTurns_X1 hown hK.1 hP 0 rfl rfl 0 (by decide) (hts (.fieldLink RX1 13 "PolygonFrame" "width" "I") (by decide +kernel)) (fun _ h9 => h9) rfl dX1_markTurns_59 ?_
          refine rd_i (va_runS (As := [.int (cuI xs ys n k y), .int 0, .int (nI wd)]) ⟨hx, hb, hml, hown, hts⟩ (kX1_nearest l D cI cZ (cuI xs ys n k y) 0 (nI wd)) (va_cwS 3 hts gX1_markTurns_X1_nearest rfl rfl rfl (by decide +kernel) ⟨Nat.le_of_ble_eq_true rfl, Nat.le_of_ble_eq_true rfl⟩) rd_pre0 rfl rfl hl.1 rfl (lv_room (Nat.le_of_ble_eq_true rfl)) dX1_markTurns_62 ⟨Nat.zero_le _, Nat.zero_le _⟩) ?_
          obtain ⟨ecl, hcl⟩ := clN_ok hw (cuI xs ys n k y)
          refine q_eq ecl ?_
          refine lv_istore_n (lv' := [(3, .int (nI (clN wd (cuI xs ys n k y)))), (0, .ref p0), (1, .int y), (2, .int (nI k))]) hx hb dX1_markTurns_65 rfl hl (by decide) rfl (fun ls hl => ?_)
          refine lv_aload_n hx hb dX1_markTurns_66 rfl (lv_at hl 1 rfl) ?_
          refine va_get (D := D) (ci := 1) (v := .ref aT) (C := RX1) (T := TX1) (N := 8) hx hb hts nX1_markTurns_X1 hown hK.1 hP 0 rfl rfl 3 (by decide) (hts (.fieldLink RX1 24 "PolygonFrame" "turns" "[Z") (by decide +kernel)) (fun _ h9 => h9) rfl dX1_markTurns_67 ?_
          refine lv_iload_n hx hb dX1_markTurns_70 rfl (lv_at hl 0 rfl) ?_
          refine lv_aload_n hx hb dX1_markTurns_71 rfl (lv_at hl 1 rfl) ?_
          refine va_get (D := D) (ci := 1) (v := .ref aT) (C := RX1) (T := TX1) (N := 8) hx hb hts nX1_markTurns_X1 hown hK.1 hP 0 rfl rfl 3 (by decide) (hts (.fieldLink RX1 24 "PolygonFrame" "turns" "[Z") (by decide +kernel)) (fun _ h9 => h9) rfl dX1_markTurns_72 ?_
          refine lv_iload_n hx hb dX1_markTurns_75 rfl (lv_at hl 0 rfl) ?_
          refine q_zald (k := (clN wd (cuI xs ys n k y))) hx hb hK.1 hP 4 1 rfl rfl (by omega) (by omega) dX1_markTurns_76 ?_
          refine lv_if_ne (tgt := 84) hx hb dX1_markTurns_77 (by decide) (fun c77 => ?_) (fun c77 => ?_)
          · skip
            refine lv_iconst (v := 0) hx hb dX1_markTurns_84 (by decide) ?_
            refine q_zast (k := (clN wd (cuI xs ys n k y))) hx hb hK.1 hP hD hS 4 1 rfl rfl rfl (by omega) (by omega) dX1_markTurns_85 (fun H locs hP hD hS => ?_)
            have hP : va_P D vwCl [(p0, .inr (1, [.int (nI wd), .int (nI hg), .ref aC, .ref aT, .ref aS, .ref r0, .ref rO, .ref rE])), (r0, .inr (0, [.ref ax, .ref ay, .int (nI n)])), (ax, .inl (cI, cap, .inl xs)), (ay, .inl (cI, cap, .inl ys)), (aT, .inl (cZ, (wd + 1), .inl (upd f (clN wd (cuI xs ys n k y)) 0)))] H := hP
            have hD : va_D A [(p0, .inr (1, [.int (nI wd), .int (nI hg), .ref aC, .ref aT, .ref aS, .ref r0, .ref rO, .ref rE])), (r0, .inr (0, [.ref ax, .ref ay, .int (nI n)])), (ax, .inl (cI, cap, .inl xs)), (ay, .inl (cI, cap, .inl ys)), (aT, .inl (cZ, (wd + 1), .inl (upd f (clN wd (cuI xs ys n k y)) 0)))] := hD
            refine lv_iinc (v := (nI (k + 1))) (lv' := [(2, .int (nI (k + 1))), (3, .int (nI (clN wd (cuI xs ys n k y)))), (0, .ref p0), (1, .int y)]) hx hb dX1_markTurns_86 hl (k := 3) rfl (nI_1 _) (by decide) rfl (fun ls hl => ?_)
            refine lv_goto (tgt := 25) hx hb dX1_markTurns_89 (by decide) ?_
            exact ih (k + 1) (by omega) (by omega) _ (tu_upd (bI_ne c45) hf (by rw [bI_ne (b := tuB xs ys n wd y k (clN wd (cuI xs ys n k y))) (by rw [← hf _ hcl]; exact c77)]; rfl)) H locs hP hD hS ls (lv_sub hl [2, 3, 0] rfl)
          · skip
            refine lv_iconst (v := 1) hx hb dX1_markTurns_80 (by decide) ?_
            refine lv_goto (tgt := 85) hx hb dX1_markTurns_81 (by decide) ?_
            refine q_zast (k := (clN wd (cuI xs ys n k y))) hx hb hK.1 hP hD hS 4 1 rfl rfl rfl (by omega) (by omega) dX1_markTurns_85 (fun H locs hP hD hS => ?_)
            have hP : va_P D vwCl [(p0, .inr (1, [.int (nI wd), .int (nI hg), .ref aC, .ref aT, .ref aS, .ref r0, .ref rO, .ref rE])), (r0, .inr (0, [.ref ax, .ref ay, .int (nI n)])), (ax, .inl (cI, cap, .inl xs)), (ay, .inl (cI, cap, .inl ys)), (aT, .inl (cZ, (wd + 1), .inl (upd f (clN wd (cuI xs ys n k y)) 1)))] H := hP
            have hD : va_D A [(p0, .inr (1, [.int (nI wd), .int (nI hg), .ref aC, .ref aT, .ref aS, .ref r0, .ref rO, .ref rE])), (r0, .inr (0, [.ref ax, .ref ay, .int (nI n)])), (ax, .inl (cI, cap, .inl xs)), (ay, .inl (cI, cap, .inl ys)), (aT, .inl (cZ, (wd + 1), .inl (upd f (clN wd (cuI xs ys n k y)) 1)))] := hD
            refine lv_iinc (v := (nI (k + 1))) (lv' := [(2, .int (nI (k + 1))), (3, .int (nI (clN wd (cuI xs ys n k y)))), (0, .ref p0), (1, .int y)]) hx hb dX1_markTurns_86 hl (k := 3) rfl (nI_1 _) (by decide) rfl (fun ls hl => ?_)
            refine lv_goto (tgt := 25) hx hb dX1_markTurns_89 (by decide) ?_
            exact ih (k + 1) (by omega) (by omega) _ (tu_upd (bI_ne c45) hf (by rw [(bI_eq0 (b := tuB xs ys n wd y k (clN wd (cuI xs ys n k y)))).mp (by rw [← hf _ hcl]; exact c77)]; rfl)) H locs hP hD hS ls (lv_sub hl [2, 3, 0] rfl)
  have L1 : ∀ (j k : Nat), k ≤ wd + 1 → wd + 1 < k + j → ∀ (H : Heap) (locs : List Loc), va_P D vwCl [(p0, .inr (1, [.int (nI wd), .int (nI hg), .ref aC, .ref aT, .ref aS, .ref r0, .ref rO, .ref rE])), (r0, .inr (0, [.ref ax, .ref ay, .int (nI n)])), (ax, .inl (cI, cap, .inl xs)), (ay, .inl (cI, cap, .inl ys)), (aT, .inl (cZ, (wd + 1), .inl (flN tn 0 k)))] H → va_D A [(p0, .inr (1, [.int (nI wd), .int (nI hg), .ref aC, .ref aT, .ref aS, .ref r0, .ref rO, .ref rE])), (r0, .inr (0, [.ref ax, .ref ay, .int (nI n)])), (ax, .inl (cI, cap, .inl xs)), (ay, .inl (cI, cap, .inl ys)), (aT, .inl (cZ, (wd + 1), .inl (flN tn 0 k)))] → va_S A s.heap H locs → ∀ ls : Array Slot, lv_has ls 4 [(0, .ref p0), (1, .int y), (2, .int (nI k))] → W p l e ({ frames := 2, cells := 0, slots := 0, locals := 80 } : Room) s m #[.ref p0, .int y] below meth c H locs 0 0 (MQ below (va_Qv (S := Nat → Int32) (fun u => ∀ i, i ≤ wd → u i = bI (tuB xs ys n wd y n i)) (wrB D [(p0, .inr (1, [.int (nI wd), .int (nI hg), .ref aC, .ref aT, .ref aS, .ref r0, .ref rO, .ref rE])), (r0, .inr (0, [.ref ax, .ref ay, .int (nI n)])), (ax, .inl (cI, cap, .inl xs)), (ay, .inl (cI, cap, .inl ys)), (aT, .inl (cZ, (wd + 1), .inl tn))] s.heap.size (fun u => [(p0, .inr (1, [.int (nI wd), .int (nI hg), .ref aC, .ref aT, .ref aS, .ref r0, .ref rO, .ref rE])), (r0, .inr (0, [.ref ax, .ref ay, .int (nI n)])), (ax, .inl (cI, cap, .inl xs)), (ay, .inl (cI, cap, .inl ys)), (aT, .inl (cZ, (wd + 1), .inl u))])) A) #[.ref p0, .int y] s 0 0 A) (F0 m 2 ls []) := by
    intro j
    induction j with
    | zero => intro k h1 h2; omega
    | succ j ih =>
      intro k hk hkj H locs hP hD hS ls hl
      refine lv_iload_n hx hb dX1_markTurns_2 rfl (lv_at hl 2 rfl) ?_
      refine lv_aload_n hx hb dX1_markTurns_3 rfl (lv_at hl 0 rfl) ?_
      refine va_get (D := D) (ci := 1) (v := .int (nI wd)) (C := RX1) (T := TX1) (N := 8) hx hb hts nX1_markTurns_X1 hown hK.1 hP 0 rfl rfl 0 (by decide) (hts (.fieldLink RX1 13 "PolygonFrame" "width" "I") (by decide +kernel)) (fun _ h9 => h9) rfl dX1_markTurns_4 ?_
      refine lv_icmp_gt (tgt := 23) hx hb dX1_markTurns_7 (by decide) (fun c7 => ?_) (fun c7 => ?_)
      · skip
        refine lv_iconst (v := 0) hx hb dX1_markTurns_23 (by decide) ?_
        refine lv_istore_n (lv' := [(2, .int 0), (0, .ref p0), (1, .int y)]) hx hb dX1_markTurns_24 rfl hl (by decide) rfl (fun ls hl => ?_)
        have hkn : wd < k := (nI_ltI (by omega) (by omega)).mp c7
        exact L2 (n + 1) 0 (Nat.zero_le _) (by omega) _ (fun i hi => by unfold flN; rw [if_pos (by omega)]; rfl) H locs hP hD hS ls (lv_sub hl [1, 2, 0] rfl)
      · skip
        have hk2 : k < wd + 1 := Nat.lt_succ_of_le (Nat.le_of_not_lt (fun h => c7 (nI_lt h (by omega))))
        refine lv_aload_n hx hb dX1_markTurns_10 rfl (lv_at hl 0 rfl) ?_
        refine va_get (D := D) (ci := 1) (v := .ref aT) (C := RX1) (T := TX1) (N := 8) hx hb hts nX1_markTurns_X1 hown hK.1 hP 0 rfl rfl 3 (by decide) (hts (.fieldLink RX1 24 "PolygonFrame" "turns" "[Z") (by decide +kernel)) (fun _ h9 => h9) rfl dX1_markTurns_11 ?_
        refine lv_iload_n hx hb dX1_markTurns_14 rfl (lv_at hl 2 rfl) ?_
        refine lv_iconst (v := 0) hx hb dX1_markTurns_15 (by decide) ?_
        refine q_zast (k := k) hx hb hK.1 hP hD hS 4 1 rfl rfl rfl (by omega) (by omega) dX1_markTurns_16 (fun H locs hP hD hS => ?_)
        have hP : va_P D vwCl [(p0, .inr (1, [.int (nI wd), .int (nI hg), .ref aC, .ref aT, .ref aS, .ref r0, .ref rO, .ref rE])), (r0, .inr (0, [.ref ax, .ref ay, .int (nI n)])), (ax, .inl (cI, cap, .inl xs)), (ay, .inl (cI, cap, .inl ys)), (aT, .inl (cZ, (wd + 1), .inl (upd (flN tn 0 k) k 0)))] H := hP
        have hD : va_D A [(p0, .inr (1, [.int (nI wd), .int (nI hg), .ref aC, .ref aT, .ref aS, .ref r0, .ref rO, .ref rE])), (r0, .inr (0, [.ref ax, .ref ay, .int (nI n)])), (ax, .inl (cI, cap, .inl xs)), (ay, .inl (cI, cap, .inl ys)), (aT, .inl (cZ, (wd + 1), .inl (upd (flN tn 0 k) k 0)))] := hD
        refine lv_iinc (v := (nI (k + 1))) (lv' := [(2, .int (nI (k + 1))), (0, .ref p0), (1, .int y)]) hx hb dX1_markTurns_17 hl (k := 2) rfl (nI_1 _) (by decide) rfl (fun ls hl => ?_)
        refine lv_goto (tgt := 2) hx hb dX1_markTurns_20 (by decide) ?_
        rw [flN_s] at hP hD
        exact ih (k + 1) (by omega) (by omega) H locs hP hD hS ls (lv_sub hl [1, 2, 0] rfl)
  refine lv_iconst (v := 0) hx hb dX1_markTurns_0 (by decide) ?_
  refine lv_istore_n (lv' := [(2, .int 0), (0, .ref p0), (1, .int y)]) hx hb dX1_markTurns_1 rfl hl (by decide) rfl (fun ls hl => ?_)
  exact L1 (wd + 2) 0 (Nat.zero_le _) (by omega) s.heap [] hP hD hS ls (lv_sub hl [1, 2, 0] rfl)
theorem nX1_fillLine_X1 : ∀ w ∈ wsX10, w ∈ wsX1_fillLine := fun w h => List.mem_cons_of_mem _ (List.mem_append_right _ h)
set_option maxHeartbeats 4000000 in
set_option maxRecDepth 100000 in
theorem kX1_fillLine (l : Launch) (D : va_G) (cI cZ : ClassId) (sz : Nat) (p0 aC aT aS rP rO rE wd hg : Nat) (f col : Nat → Int32) (T : Nat → Bool) (j0 : Nat) (v : Int32) (hf : ∀ i, i ≤ wd → f i = bI (T i)) (hj : j0 < hg) (hw : wd ≤ 24) (hh : hg ≤ 24) : Met l yX1_fillLine wsX1_fillLine ({ frames := 0, cells := 0, slots := 0, locals := 0 }) (va_Pc [.ref p0, .int (nI j0), .int v] (wrP D cI cZ sz [(p0, .inr (1, [.int (nI wd), .int (nI hg), .ref aC, .ref aT, .ref aS, .ref rP, .ref rO, .ref rE])), (aT, .inl (cZ, (wd + 1), .inl f)), (aC, .inl (cI, (wd * hg), .inl col))])) (va_Qi (S := Nat → Int32) (fun r u => r = nI (cnB (fun x => sfD T wd (wd - x)) wd) ∧ ∀ x y, x < wd → y < hg → u (y * wd + x) = if y = j0 ∧ sfD T wd (wd - x) = true then v else col (y * wd + x)) (wrB D [(p0, .inr (1, [.int (nI wd), .int (nI hg), .ref aC, .ref aT, .ref aS, .ref rP, .ref rO, .ref rE])), (aT, .inl (cZ, (wd + 1), .inl f)), (aC, .inl (cI, (wd * hg), .inl col))] sz (fun u => [(p0, .inr (1, [.int (nI wd), .int (nI hg), .ref aC, .ref aT, .ref aS, .ref rP, .ref rO, .ref rE])), (aT, .inl (cZ, (wd + 1), .inl f)), (aC, .inl (cI, (wd * hg), .inl u))])) (va_A [(p0, .inr (1, [.int (nI wd), .int (nI hg), .ref aC, .ref aT, .ref aS, .ref rP, .ref rO, .ref rE])), (aT, .inl (cZ, (wd + 1), .inl f)), (aC, .inl (cI, (wd * hg), .inl col))] sz)) 0 0 (va_A [(p0, .inr (1, [.int (nI wd), .int (nI hg), .ref aC, .ref aT, .ref aS, .ref rP, .ref rO, .ref rE])), (aT, .inl (cZ, (wd + 1), .inl f)), (aC, .inl (cI, (wd * hg), .inl col))] sz) := by
  refine Met.ofW (cc := cX1_fillLine) (maxL := 6) (ret := (some .int)) (by decide) rfl ?_
  intro p e s m args below meth c s₁ B hml hv
  obtain ⟨rfl, hsz, hP, hK, hD0⟩ := hv
  have hx := B.exec
  have hb := B.bytes
  have hr := B.returns
  have hts := atoms_spec (ws := wsX1_fillLine) B.pre
  have hown : s.vm.findClass RX1 = some m.cls := findClass_of_methodNamed B.named
  have hlocks := B.notSynchronized
  subst hsz
  have hD := hD0.self (sz := s.heap.size)
  generalize hAe : va_A [(p0, .inr (1, [.int (nI wd), .int (nI hg), .ref aC, .ref aT, .ref aS, .ref rP, .ref rO, .ref rE])), (aT, .inl (cZ, (wd + 1), .inl f)), (aC, .inl (cI, (wd * hg), .inl col))] s.heap.size = A at hD ⊢
  have hA : ∀ q : Nat, s.heap.size ≤ q → A q := fun q h => by rw [← hAe]; exact Or.inr h
  have hS : va_S A s.heap s.heap [] := va_S.rf
  have hP : va_P D vwCl [(p0, .inr (1, [.int (nI wd), .int (nI hg), .ref aC, .ref aT, .ref aS, .ref rP, .ref rO, .ref rE])), (aT, .inl (cZ, (wd + 1), .inl f)), (aC, .inl (cI, (wd * hg), .inl col))] s.heap := hP
  have hl := lv_entry ([.ref p0, .int (nI j0), .int v]) (n := 6) (Nat.le_of_ble_eq_true rfl)
  rw [lg_entry_eq]
  generalize (lg_sl ([.ref p0, .int (nI j0), .int v]) ++ List.replicate (6 - (lg_sl ([.ref p0, .int (nI j0), .int v])).length) Slot.unset).toArray = ls at hl ⊢
  have hl : lv_has ls 6 [(0, .ref p0), (1, .int (nI j0)), (2, .int v)] := hl
  have LOOP : ∀ (k : Nat), k ≤ wd → ∀ b5 : Int32, b5 = nI k - 1 → ∀ cl : Nat → Int32, (∀ x y, x < wd → y < hg → cl (y * wd + x) = if y = j0 ∧ k ≤ x ∧ (fun x => sfD T wd (wd - x)) x = true then v else col (y * wd + x)) → ∀ (H : Heap) (locs : List Loc), va_P D vwCl [(p0, .inr (1, [.int (nI wd), .int (nI hg), .ref aC, .ref aT, .ref aS, .ref rP, .ref rO, .ref rE])), (aT, .inl (cZ, (wd + 1), .inl f)), (aC, .inl (cI, (wd * hg), .inl cl))] H → va_D A [(p0, .inr (1, [.int (nI wd), .int (nI hg), .ref aC, .ref aT, .ref aS, .ref rP, .ref rO, .ref rE])), (aT, .inl (cZ, (wd + 1), .inl f)), (aC, .inl (cI, (wd * hg), .inl cl))] → va_S A s.heap H locs → ∀ ls : Array Slot, lv_has ls 6 [(0, .ref p0), (1, .int (nI j0)), (2, .int v), (3, .int (nI (cnB (fun x => sfD T wd (wd - x)) wd - cnB (fun x => sfD T wd (wd - x)) k))), (4, .int (bI (sfD T wd (wd - k)))), (5, .int b5)] → W p l e ({ frames := 0, cells := 0, slots := 0, locals := 0 } : Room) s m #[.ref p0, .int (nI j0), .int v] below meth c H locs 0 0 (MQ below (va_Qi (S := Nat → Int32) (fun r u => r = nI (cnB (fun x => sfD T wd (wd - x)) wd) ∧ ∀ x y, x < wd → y < hg → u (y * wd + x) = if y = j0 ∧ sfD T wd (wd - x) = true then v else col (y * wd + x)) (wrB D [(p0, .inr (1, [.int (nI wd), .int (nI hg), .ref aC, .ref aT, .ref aS, .ref rP, .ref rO, .ref rE])), (aT, .inl (cZ, (wd + 1), .inl f)), (aC, .inl (cI, (wd * hg), .inl col))] s.heap.size (fun u => [(p0, .inr (1, [.int (nI wd), .int (nI hg), .ref aC, .ref aT, .ref aS, .ref rP, .ref rO, .ref rE])), (aT, .inl (cZ, (wd + 1), .inl f)), (aC, .inl (cI, (wd * hg), .inl u))])) A) #[.ref p0, .int (nI j0), .int v] s 0 0 A) (F0 m 13 ls []) := by
    intro k
    induction k with
    | zero =>
      intro hk b5 hb5 cl hcl H locs hP hD hS ls hl
      refine lv_iload hx hb dX1_fillLine_13 (lv_at hl 5 rfl) ?_
      refine lv_if_lt (tgt := 68) hx hb dX1_fillLine_15 (by decide) (fun c15 => ?_) (fun c15 => absurd (by rw [hb5]; decide) c15)
      refine lv_iload_n hx hb dX1_fillLine_68 rfl (lv_at hl 3 rfl) ?_
      exact W.iret (v := (nI (cnB (fun x => sfD T wd (wd - x)) wd - cnB (fun x => sfD T wd (wd - x)) 0))) hx hb hr (fun t ht hW => ⟨⟨(nI (cnB (fun x => sfD T wd (wd - x)) wd - cnB (fun x => sfD T wd (wd - x)) 0)), cl, rfl, ⟨rfl, fun x y hx hy => by rw [hcl x y hx hy]; simp⟩, by rw [ht]; exact hP, by rw [hAe]; exact hD⟩, hS.F ht⟩) hS.2.2 dX1_fillLine_69
    | succ k ih =>
      intro hk b5 hb5 cl hcl H locs hP hD hS ls hl
      have e5 : b5 = nI k := by rw [hb5]; exact nI_pred k
      subst e5
      have hij := at_lt (w := wd) (h := hg) (i := k) (j := j0) (by omega) hj
      have hwh : wd * hg ≤ 24 * 24 := Nat.mul_le_mul hw hh
      refine lv_iload hx hb dX1_fillLine_13 (lv_at hl 5 rfl) ?_
      refine lv_if_lt (tgt := 68) hx hb dX1_fillLine_15 (by decide) (fun c15 => absurd c15 (nI_pos (by omega))) (fun c15 => ?_)
      refine lv_iload hx hb dX1_fillLine_18 (lv_at hl 4 rfl) ?_
      refine lv_aload_n hx hb dX1_fillLine_20 rfl (lv_at hl 0 rfl) ?_
      refine va_get (D := D) (ci := 1) (v := .ref aT) (C := RX1) (T := TX1) (N := 8) hx hb hts nX1_fillLine_X1 hown hK.1 hP 0 rfl rfl 3 (by decide) (hts (.fieldLink RX1 24 "PolygonFrame" "turns" "[Z") (by decide +kernel)) (fun _ h9 => h9) rfl dX1_fillLine_21 ?_
      refine lv_iload hx hb dX1_fillLine_24 (lv_at hl 5 rfl) ?_
      refine lv_iconst (v := 1) hx hb dX1_fillLine_26 (by decide) ?_
      refine lv_iadd hx hb dX1_fillLine_27 ?_
      refine q_eq (nI_1 _) ?_
      refine q_zald (k := (k + 1)) hx hb hK.1 hP 1 1 rfl rfl (by omega) (by omega) dX1_fillLine_28 ?_
      refine q_eq (hf (k + 1) (by omega)) ?_
      refine lv_icmp_eq (tgt := 36) hx hb dX1_fillLine_29 (by decide) (fun c29 => ?_) (fun c29 => ?_)
      · skip
        refine lv_iconst (v := 0) hx hb dX1_fillLine_36 (by decide) ?_
        refine q_eq (show (0 : Int32) = bI (sfD T wd (wd - k)) from by rw [sf_s (by omega), bI_eq.mp c29]; cases T (k + 1) <;> rfl) ?_
        refine lv_istore (lv' := [(4, .int (bI (sfD T wd (wd - k)))), (0, .ref p0), (1, .int (nI j0)), (2, .int v), (3, .int (nI (cnB (fun x => sfD T wd (wd - x)) wd - cnB (fun x => sfD T wd (wd - x)) (k + 1)))), (5, .int (nI k))]) hx hb dX1_fillLine_37 hl (by decide) rfl (fun ls hl => ?_)
        refine lv_iload hx hb dX1_fillLine_39 (lv_at hl 0 rfl) ?_
        refine lv_if_eq (tgt := 62) hx hb dX1_fillLine_41 (by decide) (fun c41 => ?_) (fun c41 => ?_)
        · skip
          refine lv_iinc (v := ((nI k) + (-1))) (lv' := [(5, .int ((nI k) + (-1))), (4, .int (bI (sfD T wd (wd - k)))), (0, .ref p0), (1, .int (nI j0)), (2, .int v), (3, .int (nI (cnB (fun x => sfD T wd (wd - x)) wd - cnB (fun x => sfD T wd (wd - x)) (k + 1))))]) hx hb dX1_fillLine_62 hl (k := 5) rfl (rfl) (by decide) rfl (fun ls hl => ?_)
          refine lv_goto (tgt := 13) hx hb dX1_fillLine_65 (by decide) ?_
          have hR : (fun x => sfD T wd (wd - x)) k = false := bI_eq0.mp c41
          have ec : cnB (fun x => sfD T wd (wd - x)) wd - cnB (fun x => sfD T wd (wd - x)) (k + 1) = cnB (fun x => sfD T wd (wd - x)) wd - cnB (fun x => sfD T wd (wd - x)) k := by rw [cn_f (f := (fun x => sfD T wd (wd - x))) (k := k) hR]
          exact ih (by omega) ((nI k) + (-1)) (by rw [Int32.sub_eq_add_neg]) cl (px_skip (R := (fun x => sfD T wd (wd - x))) hR hcl) H locs hP hD hS ls (by rw [← ec]; exact lv_sub hl [2, 3, 4, 5, 1, 0] rfl)
        · skip
          refine lv_aload_n hx hb dX1_fillLine_44 rfl (lv_at hl 1 rfl) ?_
          refine va_get (D := D) (ci := 1) (v := .ref aC) (C := RX1) (T := TX1) (N := 8) hx hb hts nX1_fillLine_X1 hown hK.1 hP 0 rfl rfl 2 (by decide) (hts (.fieldLink RX1 20 "PolygonFrame" "colours" "[I") (by decide +kernel)) (fun _ h9 => h9) rfl dX1_fillLine_45 ?_
          refine lv_iload_n hx hb dX1_fillLine_48 rfl (lv_at hl 2 rfl) ?_
          refine lv_aload_n hx hb dX1_fillLine_49 rfl (lv_at hl 1 rfl) ?_
          refine va_get (D := D) (ci := 1) (v := .int (nI wd)) (C := RX1) (T := TX1) (N := 8) hx hb hts nX1_fillLine_X1 hown hK.1 hP 0 rfl rfl 0 (by decide) (hts (.fieldLink RX1 13 "PolygonFrame" "width" "I") (by decide +kernel)) (fun _ h9 => h9) rfl dX1_fillLine_50 ?_
          refine lv_imul hx hb dX1_fillLine_53 ?_
          refine lv_iload hx hb dX1_fillLine_54 (lv_at hl 5 rfl) ?_
          refine lv_iadd hx hb dX1_fillLine_56 ?_
          refine q_eq (show nI j0 * nI wd + nI k = nI (j0 * wd + k) by rw [pk_mul, nI_add]) ?_
          refine lv_iload_n hx hb dX1_fillLine_57 rfl (lv_at hl 3 rfl) ?_
          refine q_iast (k := (j0 * wd + k)) hx hb hK.1 hP hD hS 2 0 rfl rfl (by omega) (by omega) dX1_fillLine_58 (fun H locs hP hD hS => ?_)
          have hP : va_P D vwCl [(p0, .inr (1, [.int (nI wd), .int (nI hg), .ref aC, .ref aT, .ref aS, .ref rP, .ref rO, .ref rE])), (aT, .inl (cZ, (wd + 1), .inl f)), (aC, .inl (cI, (wd * hg), .inl (upd cl (j0 * wd + k) v)))] H := hP
          have hD : va_D A [(p0, .inr (1, [.int (nI wd), .int (nI hg), .ref aC, .ref aT, .ref aS, .ref rP, .ref rO, .ref rE])), (aT, .inl (cZ, (wd + 1), .inl f)), (aC, .inl (cI, (wd * hg), .inl (upd cl (j0 * wd + k) v)))] := hD
          refine lv_iinc (v := (nI ((cnB (fun x => sfD T wd (wd - x)) wd - cnB (fun x => sfD T wd (wd - x)) (k + 1)) + 1))) (lv' := [(3, .int (nI ((cnB (fun x => sfD T wd (wd - x)) wd - cnB (fun x => sfD T wd (wd - x)) (k + 1)) + 1))), (4, .int (bI (sfD T wd (wd - k)))), (0, .ref p0), (1, .int (nI j0)), (2, .int v), (5, .int (nI k))]) hx hb dX1_fillLine_59 hl (k := 4) rfl (nI_1 _) (by decide) rfl (fun ls hl => ?_)
          refine lv_iinc (v := ((nI k) + (-1))) (lv' := [(5, .int ((nI k) + (-1))), (3, .int (nI ((cnB (fun x => sfD T wd (wd - x)) wd - cnB (fun x => sfD T wd (wd - x)) (k + 1)) + 1))), (4, .int (bI (sfD T wd (wd - k)))), (0, .ref p0), (1, .int (nI j0)), (2, .int v)]) hx hb dX1_fillLine_62 hl (k := 5) rfl (rfl) (by decide) rfl (fun ls hl => ?_)
          refine lv_goto (tgt := 13) hx hb dX1_fillLine_65 (by decide) ?_
          have hR : (fun x => sfD T wd (wd - x)) k = true := bI_ne c41
          have hm := cn_mono (f := (fun x => sfD T wd (wd - x))) (k := k + 1) (m := wd) (by omega)
          have ec : cnB (fun x => sfD T wd (wd - x)) wd - cnB (fun x => sfD T wd (wd - x)) (k + 1) + 1 = cnB (fun x => sfD T wd (wd - x)) wd - cnB (fun x => sfD T wd (wd - x)) k := by rw [cn_t (f := (fun x => sfD T wd (wd - x))) (k := k) hR] at hm ⊢; omega
          exact ih (by omega) ((nI k) + (-1)) (by rw [Int32.sub_eq_add_neg]) _ (px_set (R := (fun x => sfD T wd (wd - x))) (by omega) hR hcl) H locs hP hD hS ls (by rw [← ec]; exact lv_sub hl [3, 4, 5, 1, 2, 0] rfl)
      · skip
        refine lv_iconst (v := 1) hx hb dX1_fillLine_32 (by decide) ?_
        refine lv_goto (tgt := 37) hx hb dX1_fillLine_33 (by decide) ?_
        refine q_eq (show (1 : Int32) = bI (sfD T wd (wd - k)) from by rw [sf_s (by omega)]; have h := fun q => c29 (bI_eq.mpr q); revert h; cases T (k + 1) <;> cases sfD T wd (wd - (k + 1)) <;> intro h <;> first | rfl | exact absurd rfl h) ?_
        refine lv_istore (lv' := [(4, .int (bI (sfD T wd (wd - k)))), (0, .ref p0), (1, .int (nI j0)), (2, .int v), (3, .int (nI (cnB (fun x => sfD T wd (wd - x)) wd - cnB (fun x => sfD T wd (wd - x)) (k + 1)))), (5, .int (nI k))]) hx hb dX1_fillLine_37 hl (by decide) rfl (fun ls hl => ?_)
        refine lv_iload hx hb dX1_fillLine_39 (lv_at hl 0 rfl) ?_
        refine lv_if_eq (tgt := 62) hx hb dX1_fillLine_41 (by decide) (fun c41 => ?_) (fun c41 => ?_)
        · skip
          refine lv_iinc (v := ((nI k) + (-1))) (lv' := [(5, .int ((nI k) + (-1))), (4, .int (bI (sfD T wd (wd - k)))), (0, .ref p0), (1, .int (nI j0)), (2, .int v), (3, .int (nI (cnB (fun x => sfD T wd (wd - x)) wd - cnB (fun x => sfD T wd (wd - x)) (k + 1))))]) hx hb dX1_fillLine_62 hl (k := 5) rfl (rfl) (by decide) rfl (fun ls hl => ?_)
          refine lv_goto (tgt := 13) hx hb dX1_fillLine_65 (by decide) ?_
          have hR : (fun x => sfD T wd (wd - x)) k = false := bI_eq0.mp c41
          have ec : cnB (fun x => sfD T wd (wd - x)) wd - cnB (fun x => sfD T wd (wd - x)) (k + 1) = cnB (fun x => sfD T wd (wd - x)) wd - cnB (fun x => sfD T wd (wd - x)) k := by rw [cn_f (f := (fun x => sfD T wd (wd - x))) (k := k) hR]
          exact ih (by omega) ((nI k) + (-1)) (by rw [Int32.sub_eq_add_neg]) cl (px_skip (R := (fun x => sfD T wd (wd - x))) hR hcl) H locs hP hD hS ls (by rw [← ec]; exact lv_sub hl [2, 3, 4, 5, 1, 0] rfl)
        · skip
          refine lv_aload_n hx hb dX1_fillLine_44 rfl (lv_at hl 1 rfl) ?_
          refine va_get (D := D) (ci := 1) (v := .ref aC) (C := RX1) (T := TX1) (N := 8) hx hb hts nX1_fillLine_X1 hown hK.1 hP 0 rfl rfl 2 (by decide) (hts (.fieldLink RX1 20 "PolygonFrame" "colours" "[I") (by decide +kernel)) (fun _ h9 => h9) rfl dX1_fillLine_45 ?_
          refine lv_iload_n hx hb dX1_fillLine_48 rfl (lv_at hl 2 rfl) ?_
          refine lv_aload_n hx hb dX1_fillLine_49 rfl (lv_at hl 1 rfl) ?_
          refine va_get (D := D) (ci := 1) (v := .int (nI wd)) (C := RX1) (T := TX1) (N := 8) hx hb hts nX1_fillLine_X1 hown hK.1 hP 0 rfl rfl 0 (by decide) (hts (.fieldLink RX1 13 "PolygonFrame" "width" "I") (by decide +kernel)) (fun _ h9 => h9) rfl dX1_fillLine_50 ?_
          refine lv_imul hx hb dX1_fillLine_53 ?_
          refine lv_iload hx hb dX1_fillLine_54 (lv_at hl 5 rfl) ?_
          refine lv_iadd hx hb dX1_fillLine_56 ?_
          refine q_eq (show nI j0 * nI wd + nI k = nI (j0 * wd + k) by rw [pk_mul, nI_add]) ?_
          refine lv_iload_n hx hb dX1_fillLine_57 rfl (lv_at hl 3 rfl) ?_
          refine q_iast (k := (j0 * wd + k)) hx hb hK.1 hP hD hS 2 0 rfl rfl (by omega) (by omega) dX1_fillLine_58 (fun H locs hP hD hS => ?_)
          have hP : va_P D vwCl [(p0, .inr (1, [.int (nI wd), .int (nI hg), .ref aC, .ref aT, .ref aS, .ref rP, .ref rO, .ref rE])), (aT, .inl (cZ, (wd + 1), .inl f)), (aC, .inl (cI, (wd * hg), .inl (upd cl (j0 * wd + k) v)))] H := hP
          have hD : va_D A [(p0, .inr (1, [.int (nI wd), .int (nI hg), .ref aC, .ref aT, .ref aS, .ref rP, .ref rO, .ref rE])), (aT, .inl (cZ, (wd + 1), .inl f)), (aC, .inl (cI, (wd * hg), .inl (upd cl (j0 * wd + k) v)))] := hD
          refine lv_iinc (v := (nI ((cnB (fun x => sfD T wd (wd - x)) wd - cnB (fun x => sfD T wd (wd - x)) (k + 1)) + 1))) (lv' := [(3, .int (nI ((cnB (fun x => sfD T wd (wd - x)) wd - cnB (fun x => sfD T wd (wd - x)) (k + 1)) + 1))), (4, .int (bI (sfD T wd (wd - k)))), (0, .ref p0), (1, .int (nI j0)), (2, .int v), (5, .int (nI k))]) hx hb dX1_fillLine_59 hl (k := 4) rfl (nI_1 _) (by decide) rfl (fun ls hl => ?_)
          refine lv_iinc (v := ((nI k) + (-1))) (lv' := [(5, .int ((nI k) + (-1))), (3, .int (nI ((cnB (fun x => sfD T wd (wd - x)) wd - cnB (fun x => sfD T wd (wd - x)) (k + 1)) + 1))), (4, .int (bI (sfD T wd (wd - k)))), (0, .ref p0), (1, .int (nI j0)), (2, .int v)]) hx hb dX1_fillLine_62 hl (k := 5) rfl (rfl) (by decide) rfl (fun ls hl => ?_)
          refine lv_goto (tgt := 13) hx hb dX1_fillLine_65 (by decide) ?_
          have hR : (fun x => sfD T wd (wd - x)) k = true := bI_ne c41
          have hm := cn_mono (f := (fun x => sfD T wd (wd - x))) (k := k + 1) (m := wd) (by omega)
          have ec : cnB (fun x => sfD T wd (wd - x)) wd - cnB (fun x => sfD T wd (wd - x)) (k + 1) + 1 = cnB (fun x => sfD T wd (wd - x)) wd - cnB (fun x => sfD T wd (wd - x)) k := by rw [cn_t (f := (fun x => sfD T wd (wd - x))) (k := k) hR] at hm ⊢; omega
          exact ih (by omega) ((nI k) + (-1)) (by rw [Int32.sub_eq_add_neg]) _ (px_set (R := (fun x => sfD T wd (wd - x))) (by omega) hR hcl) H locs hP hD hS ls (by rw [← ec]; exact lv_sub hl [3, 4, 5, 1, 2, 0] rfl)
  refine lv_iconst (v := 0) hx hb dX1_fillLine_0 (by decide) ?_
  refine lv_istore_n (lv' := [(3, .int 0), (0, .ref p0), (1, .int (nI j0)), (2, .int v)]) hx hb dX1_fillLine_1 rfl hl (by decide) rfl (fun ls hl => ?_)
  refine lv_iconst (v := 0) hx hb dX1_fillLine_2 (by decide) ?_
  refine lv_istore (lv' := [(4, .int 0), (3, .int 0), (0, .ref p0), (1, .int (nI j0)), (2, .int v)]) hx hb dX1_fillLine_3 hl (by decide) rfl (fun ls hl => ?_)
  refine lv_aload_n hx hb dX1_fillLine_5 rfl (lv_at hl 2 rfl) ?_
  refine va_get (D := D) (ci := 1) (v := .int (nI wd)) (C := RX1) (T := TX1) (N := 8) hx hb hts nX1_fillLine_X1 hown hK.1 hP 0 rfl rfl 0 (by decide) (hts (.fieldLink RX1 13 "PolygonFrame" "width" "I") (by decide +kernel)) (fun _ h9 => h9) rfl dX1_fillLine_6 ?_
  refine lv_iconst (v := 1) hx hb dX1_fillLine_9 (by decide) ?_
  refine lv_isub hx hb dX1_fillLine_10 ?_
  refine lv_istore (lv' := [(5, .int ((nI wd) - 1)), (4, .int 0), (3, .int 0), (0, .ref p0), (1, .int (nI j0)), (2, .int v)]) hx hb dX1_fillLine_11 hl (by decide) rfl (fun ls hl => ?_)
  exact LOOP wd (Nat.le_refl _) ((nI wd) - 1) rfl col (fun x y hx hy => by rw [if_neg (by omega)]) s.heap [] hP hD hS ls (by rw [Nat.sub_self, Nat.sub_self]; exact lv_sub hl [3, 4, 5, 2, 1, 0] rfl)
theorem nX1_fill_X1 : ∀ w ∈ wsX10, w ∈ wsX1_fill := fun w h => List.mem_cons_of_mem _ (List.mem_append_left _ (List.mem_append_right _ h))
theorem nX1_fill_X0 : ∀ w ∈ wsX00, w ∈ wsX1_fill := fun w h => List.mem_cons_of_mem _ (List.mem_append_right _ h)
set_option maxHeartbeats 4000000 in
set_option maxRecDepth 100000 in
theorem kX1_fill (l : Launch) (D : va_G) (cI cZ : ClassId) (sz : Nat) (p0 aC aT aS r0 rO rE wd hg : Nat) (ax ay n cap : Nat) (xs ys : Nat → Int32) (tn col : Nat → Int32) (v : Int32) (hn : n ≤ cap) (hc : cap ≤ 60) (hw : wd ≤ 24) (hh : hg ≤ 24) : Met l yX1_fill wsX1_fill ({ frames := 3, cells := 0, slots := 0, locals := 120 }) (va_Pc [.ref p0, .int v] (wrP D cI cZ sz [(p0, .inr (1, [.int (nI wd), .int (nI hg), .ref aC, .ref aT, .ref aS, .ref r0, .ref rO, .ref rE])), (r0, .inr (0, [.ref ax, .ref ay, .int (nI n)])), (ax, .inl (cI, cap, .inl xs)), (ay, .inl (cI, cap, .inl ys)), (aT, .inl (cZ, (wd + 1), .inl tn)), (aC, .inl (cI, (wd * hg), .inl col))])) (va_Qi (S := (Nat → Int32) × (Nat → Int32)) (fun r u => r = nI (suN (fun y => cnB (fun x => inC xs ys n x y) wd) hg) ∧ ∀ x y, x < wd → y < hg → u.2 (y * wd + x) = if inC xs ys n x y = true then v else col (y * wd + x)) (wrB D [(p0, .inr (1, [.int (nI wd), .int (nI hg), .ref aC, .ref aT, .ref aS, .ref r0, .ref rO, .ref rE])), (r0, .inr (0, [.ref ax, .ref ay, .int (nI n)])), (ax, .inl (cI, cap, .inl xs)), (ay, .inl (cI, cap, .inl ys)), (aT, .inl (cZ, (wd + 1), .inl tn)), (aC, .inl (cI, (wd * hg), .inl col))] sz (fun u => [(p0, .inr (1, [.int (nI wd), .int (nI hg), .ref aC, .ref aT, .ref aS, .ref r0, .ref rO, .ref rE])), (r0, .inr (0, [.ref ax, .ref ay, .int (nI n)])), (ax, .inl (cI, cap, .inl xs)), (ay, .inl (cI, cap, .inl ys)), (aT, .inl (cZ, (wd + 1), .inl u.1)), (aC, .inl (cI, (wd * hg), .inl u.2))])) (va_A [(p0, .inr (1, [.int (nI wd), .int (nI hg), .ref aC, .ref aT, .ref aS, .ref r0, .ref rO, .ref rE])), (r0, .inr (0, [.ref ax, .ref ay, .int (nI n)])), (ax, .inl (cI, cap, .inl xs)), (ay, .inl (cI, cap, .inl ys)), (aT, .inl (cZ, (wd + 1), .inl tn)), (aC, .inl (cI, (wd * hg), .inl col))] sz)) 0 0 (va_A [(p0, .inr (1, [.int (nI wd), .int (nI hg), .ref aC, .ref aT, .ref aS, .ref r0, .ref rO, .ref rE])), (r0, .inr (0, [.ref ax, .ref ay, .int (nI n)])), (ax, .inl (cI, cap, .inl xs)), (ay, .inl (cI, cap, .inl ys)), (aT, .inl (cZ, (wd + 1), .inl tn)), (aC, .inl (cI, (wd * hg), .inl col))] sz) := by
  refine Met.ofW (cc := cX1_fill) (maxL := 4) (ret := (some .int)) (by decide) rfl ?_
  intro p e s m args below meth c s₁ B hml hv
  obtain ⟨rfl, hsz, hP, hK, hD0⟩ := hv
  have hx := B.exec
  have hb := B.bytes
  have hr := B.returns
  have hts := atoms_spec (ws := wsX1_fill) B.pre
  have hown : s.vm.findClass RX1 = some m.cls := findClass_of_methodNamed B.named
  have hlocks := B.notSynchronized
  subst hsz
  have hD := hD0.self (sz := s.heap.size)
  generalize hAe : va_A [(p0, .inr (1, [.int (nI wd), .int (nI hg), .ref aC, .ref aT, .ref aS, .ref r0, .ref rO, .ref rE])), (r0, .inr (0, [.ref ax, .ref ay, .int (nI n)])), (ax, .inl (cI, cap, .inl xs)), (ay, .inl (cI, cap, .inl ys)), (aT, .inl (cZ, (wd + 1), .inl tn)), (aC, .inl (cI, (wd * hg), .inl col))] s.heap.size = A at hD ⊢
  have hA : ∀ q : Nat, s.heap.size ≤ q → A q := fun q h => by rw [← hAe]; exact Or.inr h
  have hS : va_S A s.heap s.heap [] := va_S.rf
  have hP : va_P D vwCl [(p0, .inr (1, [.int (nI wd), .int (nI hg), .ref aC, .ref aT, .ref aS, .ref r0, .ref rO, .ref rE])), (r0, .inr (0, [.ref ax, .ref ay, .int (nI n)])), (ax, .inl (cI, cap, .inl xs)), (ay, .inl (cI, cap, .inl ys)), (aT, .inl (cZ, (wd + 1), .inl tn)), (aC, .inl (cI, (wd * hg), .inl col))] s.heap := hP
  have hl := lv_entry ([.ref p0, .int v]) (n := 4) (Nat.le_of_ble_eq_true rfl)
  rw [lg_entry_eq]
  generalize (lg_sl ([.ref p0, .int v]) ++ List.replicate (4 - (lg_sl ([.ref p0, .int v])).length) Slot.unset).toArray = ls at hl ⊢
  have hl : lv_has ls 4 [(0, .ref p0), (1, .int v)] := hl
  have LOOP : ∀ (i j : Nat), j ≤ hg → hg < j + i → ∀ (f cl : Nat → Int32), (∀ x y, x < wd → y < hg → cl (y * wd + x) = if y < j ∧ inC xs ys n x y = true then v else col (y * wd + x)) → ∀ (H : Heap) (locs : List Loc), va_P D vwCl [(p0, .inr (1, [.int (nI wd), .int (nI hg), .ref aC, .ref aT, .ref aS, .ref r0, .ref rO, .ref rE])), (r0, .inr (0, [.ref ax, .ref ay, .int (nI n)])), (ax, .inl (cI, cap, .inl xs)), (ay, .inl (cI, cap, .inl ys)), (aT, .inl (cZ, (wd + 1), .inl f)), (aC, .inl (cI, (wd * hg), .inl cl))] H → va_D A [(p0, .inr (1, [.int (nI wd), .int (nI hg), .ref aC, .ref aT, .ref aS, .ref r0, .ref rO, .ref rE])), (r0, .inr (0, [.ref ax, .ref ay, .int (nI n)])), (ax, .inl (cI, cap, .inl xs)), (ay, .inl (cI, cap, .inl ys)), (aT, .inl (cZ, (wd + 1), .inl f)), (aC, .inl (cI, (wd * hg), .inl cl))] → va_S A s.heap H locs → ∀ ls : Array Slot, lv_has ls 4 [(0, .ref p0), (1, .int v), (2, .int (nI (suN (fun y => cnB (fun x => inC xs ys n x y) wd) j))), (3, .int (nI j))] → W p l e ({ frames := 3, cells := 0, slots := 0, locals := 120 } : Room) s m #[.ref p0, .int v] below meth c H locs 0 0 (MQ below (va_Qi (S := (Nat → Int32) × (Nat → Int32)) (fun r u => r = nI (suN (fun y => cnB (fun x => inC xs ys n x y) wd) hg) ∧ ∀ x y, x < wd → y < hg → u.2 (y * wd + x) = if inC xs ys n x y = true then v else col (y * wd + x)) (wrB D [(p0, .inr (1, [.int (nI wd), .int (nI hg), .ref aC, .ref aT, .ref aS, .ref r0, .ref rO, .ref rE])), (r0, .inr (0, [.ref ax, .ref ay, .int (nI n)])), (ax, .inl (cI, cap, .inl xs)), (ay, .inl (cI, cap, .inl ys)), (aT, .inl (cZ, (wd + 1), .inl tn)), (aC, .inl (cI, (wd * hg), .inl col))] s.heap.size (fun u => [(p0, .inr (1, [.int (nI wd), .int (nI hg), .ref aC, .ref aT, .ref aS, .ref r0, .ref rO, .ref rE])), (r0, .inr (0, [.ref ax, .ref ay, .int (nI n)])), (ax, .inl (cI, cap, .inl xs)), (ay, .inl (cI, cap, .inl ys)), (aT, .inl (cZ, (wd + 1), .inl u.1)), (aC, .inl (cI, (wd * hg), .inl u.2))])) A) #[.ref p0, .int v] s 0 0 A) (F0 m 4 ls []) := by
    intro i
    induction i with
    | zero => intro j h1 h2; omega
    | succ i ih =>
      intro j hj hji f cl hcl H locs hP hD hS ls hl
      refine lv_iload_n hx hb dX1_fill_4 rfl (lv_at hl 3 rfl) ?_
      refine lv_aload_n hx hb dX1_fill_5 rfl (lv_at hl 0 rfl) ?_
      refine va_get (D := D) (ci := 1) (v := .int (nI hg)) (C := RX1) (T := TX1) (N := 8) hx hb hts nX1_fill_X1 hown hK.1 hP 0 rfl rfl 1 (by decide) (hts (.fieldLink RX1 17 "PolygonFrame" "height" "I") (by decide +kernel)) (fun _ h9 => h9) rfl dX1_fill_6 ?_
      refine lv_icmp_ge (tgt := 32) hx hb dX1_fill_9 (by decide) (fun c9 => ?_) (fun c9 => ?_)
      · skip
        refine lv_iload_n hx hb dX1_fill_32 rfl (lv_at hl 2 rfl) ?_
        have hkn : j = hg := Nat.le_antisymm hj ((nI_leI (by omega) (by omega)).mp c9)
        exact W.iret (v := (nI (suN (fun y => cnB (fun x => inC xs ys n x y) wd) j))) hx hb hr (fun t ht hW => ⟨⟨(nI (suN (fun y => cnB (fun x => inC xs ys n x y) wd) j)), (f, cl), rfl, ⟨by rw [hkn], fun x y hx hy => by show cl (y * wd + x) = _; rw [hcl x y hx hy, hkn]; simp [hy]⟩, by rw [ht]; exact hP, by rw [hAe]; exact hD⟩, hS.F ht⟩) hS.2.2 dX1_fill_33
      · skip
        refine lv_aload_n hx hb dX1_fill_12 rfl (lv_at hl 0 rfl) ?_
        refine lv_iload_n hx hb dX1_fill_13 rfl (lv_at hl 3 rfl) ?_
        have hj2 : j < hg := Nat.lt_of_not_le (fun h => c9 (nI_le h (by omega)))
        refine wr_v (wr := [(aC, .inl (cI, (wd * hg), .inl cl))]) hP hD hS hA [0, 1, 2, 3, 4] [5] rfl rfl (by decide) (by decide) (va_runV (As := [.int (nI j)]) ⟨hx, hb, hml, hown, hts⟩ (kX1_markTurns l D cI cZ H.size p0 aC aT aS r0 rO rE wd hg ax ay n cap xs ys f (nI j) hn hc hw) (cwV 1 hts gX1_fill_X1_markTurns rfl rfl rfl (by decide +kernel) ⟨Nat.le_of_ble_eq_true rfl, Nat.le_of_ble_eq_true rfl⟩) (wr_preV (ci := 1) (q0 := 0) (hP.sub [0, 1, 2, 3, 4] rfl) hK (hD.sub [0, 1, 2, 3, 4] (by decide) rfl) rfl rfl) rfl rfl hl.1 rfl (lv_room (Nat.le_of_ble_eq_true rfl)) dX1_fill_14 ⟨Nat.zero_le _, Nat.zero_le _⟩) (fun u1 H locs hw1 hP hD hS => ?_)
        replace hP : va_P D vwCl [(p0, .inr (1, [.int (nI wd), .int (nI hg), .ref aC, .ref aT, .ref aS, .ref r0, .ref rO, .ref rE])), (r0, .inr (0, [.ref ax, .ref ay, .int (nI n)])), (ax, .inl (cI, cap, .inl xs)), (ay, .inl (cI, cap, .inl ys)), (aT, .inl (cZ, (wd + 1), .inl u1)), (aC, .inl (cI, (wd * hg), .inl cl))] H := hP.sub [1, 2, 3, 4, 5, 0] rfl
        replace hD : va_D A [(p0, .inr (1, [.int (nI wd), .int (nI hg), .ref aC, .ref aT, .ref aS, .ref r0, .ref rO, .ref rE])), (r0, .inr (0, [.ref ax, .ref ay, .int (nI n)])), (ax, .inl (cI, cap, .inl xs)), (ay, .inl (cI, cap, .inl ys)), (aT, .inl (cZ, (wd + 1), .inl u1)), (aC, .inl (cI, (wd * hg), .inl cl))] := hD.sub [1, 2, 3, 4, 5, 0] (by decide) rfl
        refine lv_iload_n hx hb dX1_fill_17 rfl (lv_at hl 2 rfl) ?_
        refine lv_aload_n hx hb dX1_fill_18 rfl (lv_at hl 0 rfl) ?_
        refine lv_iload_n hx hb dX1_fill_19 rfl (lv_at hl 3 rfl) ?_
        refine lv_iload_n hx hb dX1_fill_20 rfl (lv_at hl 1 rfl) ?_
        refine wr_i (wr := [(r0, .inr (0, [.ref ax, .ref ay, .int (nI n)])), (ax, .inl (cI, cap, .inl xs)), (ay, .inl (cI, cap, .inl ys))]) hP hD hS hA [0, 4, 5] [1, 2, 3] rfl rfl (by decide) (by decide) (va_runV (As := [.int (nI j), .int v]) ⟨hx, hb, hml, hown, hts⟩ (kX1_fillLine l D cI cZ H.size p0 aC aT aS r0 rO rE wd hg u1 cl (tuB xs ys n wd (nI j) n) j v hw1 hj2 hw hh) (cwV 2 hts gX1_fill_X1_fillLine rfl rfl rfl (by decide +kernel) ⟨Nat.le_of_ble_eq_true rfl, Nat.le_of_ble_eq_true rfl⟩) (wr_preV (ci := 1) (q0 := 0) (hP.sub [0, 4, 5] rfl) hK (hD.sub [0, 4, 5] (by decide) rfl) rfl rfl) rfl rfl hl.1 rfl (lv_room (Nat.le_of_ble_eq_true rfl)) dX1_fill_21 ⟨Nat.zero_le _, Nat.zero_le _⟩) (fun r2 u2 H locs hw2 hP hD hS => ?_)
        rcases hw2 with ⟨rfl, hu2⟩
        · skip
          replace hP : va_P D vwCl [(p0, .inr (1, [.int (nI wd), .int (nI hg), .ref aC, .ref aT, .ref aS, .ref r0, .ref rO, .ref rE])), (r0, .inr (0, [.ref ax, .ref ay, .int (nI n)])), (ax, .inl (cI, cap, .inl xs)), (ay, .inl (cI, cap, .inl ys)), (aT, .inl (cZ, (wd + 1), .inl u1)), (aC, .inl (cI, (wd * hg), .inl u2))] H := hP.sub [3, 0, 1, 2, 4, 5] rfl
          replace hD : va_D A [(p0, .inr (1, [.int (nI wd), .int (nI hg), .ref aC, .ref aT, .ref aS, .ref r0, .ref rO, .ref rE])), (r0, .inr (0, [.ref ax, .ref ay, .int (nI n)])), (ax, .inl (cI, cap, .inl xs)), (ay, .inl (cI, cap, .inl ys)), (aT, .inl (cZ, (wd + 1), .inl u1)), (aC, .inl (cI, (wd * hg), .inl u2))] := hD.sub [3, 0, 1, 2, 4, 5] (by decide) rfl
          refine lv_iadd hx hb dX1_fill_24 ?_
          refine q_eq (nI_add _ _) ?_
          refine lv_istore_n (lv' := [(2, .int (nI ((suN (fun y => cnB (fun x => inC xs ys n x y) wd) j) + cnB (fun x => sfD (tuB xs ys n wd (nI j) n) wd (wd - x)) wd))), (0, .ref p0), (1, .int v), (3, .int (nI j))]) hx hb dX1_fill_25 rfl hl (by decide) rfl (fun ls hl => ?_)
          refine lv_iinc (v := (nI (j + 1))) (lv' := [(3, .int (nI (j + 1))), (2, .int (nI ((suN (fun y => cnB (fun x => inC xs ys n x y) wd) j) + cnB (fun x => sfD (tuB xs ys n wd (nI j) n) wd (wd - x)) wd))), (0, .ref p0), (1, .int v)]) hx hb dX1_fill_26 hl (k := 3) rfl (nI_1 _) (by decide) rfl (fun ls hl => ?_)
          refine lv_goto (tgt := 4) hx hb dX1_fill_29 (by decide) ?_
          have hRI : ∀ x, x < wd → (fun x => sfD (tuB xs ys n wd (nI j) n) wd (wd - x)) x = inC xs ys n x j := fun x hx => sf_in hw hx n
          have ec : (suN (fun y => cnB (fun x => inC xs ys n x y) wd) j) + cnB (fun x => sfD (tuB xs ys n wd (nI j) n) wd (wd - x)) wd = (suN (fun y => cnB (fun x => inC xs ys n x y) wd) (j + 1)) := by rw [suN, cn_congr wd hRI]
          exact ih (j + 1) (by omega) (by omega) u1 u2 (px_row hRI hcl hu2) H locs hP hD hS ls (by rw [← ec]; exact lv_sub hl [2, 3, 1, 0] rfl)
  refine lv_iconst (v := 0) hx hb dX1_fill_0 (by decide) ?_
  refine lv_istore_n (lv' := [(2, .int 0), (0, .ref p0), (1, .int v)]) hx hb dX1_fill_1 rfl hl (by decide) rfl (fun ls hl => ?_)
  refine lv_iconst (v := 0) hx hb dX1_fill_2 (by decide) ?_
  refine lv_istore_n (lv' := [(3, .int 0), (2, .int 0), (0, .ref p0), (1, .int v)]) hx hb dX1_fill_3 rfl hl (by decide) rfl (fun ls hl => ?_)
  exact LOOP (hg + 1) 0 (Nat.zero_le _) (by omega) tn col (fun x y hx hy => by rw [if_neg (by omega)]) s.heap [] hP hD hS ls (lv_sub hl [2, 3, 1, 0] rfl)
end
section
/-! THE REFERENCE'S FILL. -/
def inQ (xs ys : Nat → Int32) (n x y : Nat) : Bool := oddB (crQ xs ys n (nI x) (nI y)) n
theorem pq_inj {w i j a b : Nat} (hw : w ≤ 24) (hi : i < w) (ha : a < w) (h : 24 * j + i = 24 * b + a) : j = b ∧ i = a := by omega
theorem pq_set {cl col : Nat → Int32} {w h j k : Nat} {v : Int32} {IN : Nat → Nat → Bool} (hw : w ≤ 24) (hk : k < w) (hR : IN k j = true) (hcl : ∀ x y, x < w → y < h → cl (24 * y + x) = if (y < j ∨ (y = j ∧ x < k)) ∧ IN x y = true then v else col (24 * y + x)) :
    ∀ x y, x < w → y < h → upd cl (24 * j + k) v (24 * y + x) = if (y < j ∨ (y = j ∧ x < k + 1)) ∧ IN x y = true then v else col (24 * y + x) := by
  intro x y hx hy
  by_cases he : 24 * y + x = 24 * j + k
  · obtain ⟨h1, h2⟩ := pq_inj hw hx hk he
    rw [he, pk_us, if_pos ⟨Or.inr ⟨h1, by omega⟩, by rw [h1, h2]; exact hR⟩]
  · rw [pk_un he, hcl x y hx hy]
    by_cases hc : (y < j ∨ (y = j ∧ x < k)) ∧ IN x y = true
    · rw [if_pos hc, if_pos ⟨by omega, hc.2⟩]
    · rw [if_neg hc, if_neg]
      intro h2
      apply hc
      refine ⟨?_, h2.2⟩
      have : ¬ (y = j ∧ x = k) := fun e => he (by rw [e.1, e.2])
      omega
theorem pq_skip {cl col : Nat → Int32} {w h j k : Nat} {v : Int32} {IN : Nat → Nat → Bool} (hR : IN k j = false) (hcl : ∀ x y, x < w → y < h → cl (24 * y + x) = if (y < j ∨ (y = j ∧ x < k)) ∧ IN x y = true then v else col (24 * y + x)) :
    ∀ x y, x < w → y < h → cl (24 * y + x) = if (y < j ∨ (y = j ∧ x < k + 1)) ∧ IN x y = true then v else col (24 * y + x) := by
  intro x y hx hy
  rw [hcl x y hx hy]
  by_cases hc : (y < j ∨ (y = j ∧ x < k)) ∧ IN x y = true
  · rw [if_pos hc, if_pos ⟨by omega, hc.2⟩]
  · rw [if_neg hc, if_neg]
    intro h2
    apply hc
    refine ⟨?_, h2.2⟩
    have : ¬ (y = j ∧ x = k) := fun e => by rw [e.1, e.2, hR] at h2; exact absurd h2.2 (by decide)
    omega
theorem pq_row {cl col : Nat → Int32} {w h j k : Nat} {v : Int32} {IN : Nat → Nat → Bool} (hk : k = w) (hcl : ∀ x y, x < w → y < h → cl (24 * y + x) = if (y < j ∨ (y = j ∧ x < k)) ∧ IN x y = true then v else col (24 * y + x)) :
    ∀ x y, x < w → y < h → cl (24 * y + x) = if y < j + 1 ∧ IN x y = true then v else col (24 * y + x) := by
  intro x y hx hy
  rw [hcl x y hx hy]
  by_cases hc : (y < j ∨ (y = j ∧ x < k)) ∧ IN x y = true
  · rw [if_pos hc, if_pos ⟨by omega, hc.2⟩]
  · rw [if_neg hc, if_neg]
    intro h2
    exact hc ⟨by omega, h2.2⟩
theorem nX2_fill_X2 : ∀ w ∈ wsX20, w ∈ wsX2_fill := fun w h => List.mem_cons_of_mem _ (List.mem_append_right _ h)
set_option maxHeartbeats 4000000 in
set_option maxRecDepth 100000 in
theorem kX2_fill (l : Launch) (D : va_G) (cI cZ : ClassId) (sz : Nat) (m0 aP ax ay afx afy atx aty wd hg cap n : Nat) (fr tt x0 x1 y0 y1 : Int32) (xs ys col : Nat → Int32) (v : Int32) (hn : n ≤ 60) (hw : wd ≤ 24) (hh : hg ≤ 24) : Met l yX2_fill wsX2_fill ({ frames := 2, cells := 0, slots := 0, locals := 80 }) (va_Pc [.ref m0, .int v] (wrP D cI cZ sz [(m0, .inr (2, [.int (nI wd), .int (nI hg), .int (nI cap), .ref aP, .ref ax, .ref ay, .int (nI n), .ref afx, .ref afy, .ref atx, .ref aty, .int fr, .int tt, .int x0, .int x1, .int y0, .int y1])), (ax, .inl (cI, 60, .inl xs)), (ay, .inl (cI, 60, .inl ys)), (aP, .inl (cI, 576, .inl col))])) (va_Qi (S := Nat → Int32) (fun r u => r = nI (suN (fun y => cnB (fun x => inQ xs ys n x y) wd) hg) ∧ ∀ x y, x < wd → y < hg → u (24 * y + x) = if inQ xs ys n x y = true then v else col (24 * y + x)) (wrB D [(m0, .inr (2, [.int (nI wd), .int (nI hg), .int (nI cap), .ref aP, .ref ax, .ref ay, .int (nI n), .ref afx, .ref afy, .ref atx, .ref aty, .int fr, .int tt, .int x0, .int x1, .int y0, .int y1])), (ax, .inl (cI, 60, .inl xs)), (ay, .inl (cI, 60, .inl ys)), (aP, .inl (cI, 576, .inl col))] sz (fun u => [(m0, .inr (2, [.int (nI wd), .int (nI hg), .int (nI cap), .ref aP, .ref ax, .ref ay, .int (nI n), .ref afx, .ref afy, .ref atx, .ref aty, .int fr, .int tt, .int x0, .int x1, .int y0, .int y1])), (ax, .inl (cI, 60, .inl xs)), (ay, .inl (cI, 60, .inl ys)), (aP, .inl (cI, 576, .inl u))])) (va_A [(m0, .inr (2, [.int (nI wd), .int (nI hg), .int (nI cap), .ref aP, .ref ax, .ref ay, .int (nI n), .ref afx, .ref afy, .ref atx, .ref aty, .int fr, .int tt, .int x0, .int x1, .int y0, .int y1])), (ax, .inl (cI, 60, .inl xs)), (ay, .inl (cI, 60, .inl ys)), (aP, .inl (cI, 576, .inl col))] sz)) 0 0 (va_A [(m0, .inr (2, [.int (nI wd), .int (nI hg), .int (nI cap), .ref aP, .ref ax, .ref ay, .int (nI n), .ref afx, .ref afy, .ref atx, .ref aty, .int fr, .int tt, .int x0, .int x1, .int y0, .int y1])), (ax, .inl (cI, 60, .inl xs)), (ay, .inl (cI, 60, .inl ys)), (aP, .inl (cI, 576, .inl col))] sz) := by
  refine Met.ofW (cc := cX2_fill) (maxL := 5) (ret := (some .int)) (by decide) rfl ?_
  intro p e s m args below meth c s₁ B hml hv
  obtain ⟨rfl, hsz, hP, hK, hD0⟩ := hv
  have hx := B.exec
  have hb := B.bytes
  have hr := B.returns
  have hts := atoms_spec (ws := wsX2_fill) B.pre
  have hown : s.vm.findClass RX2 = some m.cls := findClass_of_methodNamed B.named
  have hlocks := B.notSynchronized
  subst hsz
  have hD := hD0.self (sz := s.heap.size)
  generalize hAe : va_A [(m0, .inr (2, [.int (nI wd), .int (nI hg), .int (nI cap), .ref aP, .ref ax, .ref ay, .int (nI n), .ref afx, .ref afy, .ref atx, .ref aty, .int fr, .int tt, .int x0, .int x1, .int y0, .int y1])), (ax, .inl (cI, 60, .inl xs)), (ay, .inl (cI, 60, .inl ys)), (aP, .inl (cI, 576, .inl col))] s.heap.size = A at hD ⊢
  have hA : ∀ q : Nat, s.heap.size ≤ q → A q := fun q h => by rw [← hAe]; exact Or.inr h
  have hS : va_S A s.heap s.heap [] := va_S.rf
  have hP : va_P D vwCl [(m0, .inr (2, [.int (nI wd), .int (nI hg), .int (nI cap), .ref aP, .ref ax, .ref ay, .int (nI n), .ref afx, .ref afy, .ref atx, .ref aty, .int fr, .int tt, .int x0, .int x1, .int y0, .int y1])), (ax, .inl (cI, 60, .inl xs)), (ay, .inl (cI, 60, .inl ys)), (aP, .inl (cI, 576, .inl col))] s.heap := hP
  have hl := lv_entry ([.ref m0, .int v]) (n := 5) (Nat.le_of_ble_eq_true rfl)
  rw [lg_entry_eq]
  generalize (lg_sl ([.ref m0, .int v]) ++ List.replicate (5 - (lg_sl ([.ref m0, .int v])).length) Slot.unset).toArray = ls at hl ⊢
  have hl : lv_has ls 5 [(0, .ref m0), (1, .int v)] := hl
  have LOOP : ∀ (i j : Nat), j ≤ hg → hg < j + i → ∀ (cl : Nat → Int32), (∀ x y, x < wd → y < hg → cl (24 * y + x) = if y < j ∧ inQ xs ys n x y = true then v else col (24 * y + x)) → ∀ (H : Heap) (locs : List Loc), va_P D vwCl [(m0, .inr (2, [.int (nI wd), .int (nI hg), .int (nI cap), .ref aP, .ref ax, .ref ay, .int (nI n), .ref afx, .ref afy, .ref atx, .ref aty, .int fr, .int tt, .int x0, .int x1, .int y0, .int y1])), (ax, .inl (cI, 60, .inl xs)), (ay, .inl (cI, 60, .inl ys)), (aP, .inl (cI, 576, .inl cl))] H → va_D A [(m0, .inr (2, [.int (nI wd), .int (nI hg), .int (nI cap), .ref aP, .ref ax, .ref ay, .int (nI n), .ref afx, .ref afy, .ref atx, .ref aty, .int fr, .int tt, .int x0, .int x1, .int y0, .int y1])), (ax, .inl (cI, 60, .inl xs)), (ay, .inl (cI, 60, .inl ys)), (aP, .inl (cI, 576, .inl cl))] → va_S A s.heap H locs → ∀ ls : Array Slot, lv_has ls 5 [(0, .ref m0), (1, .int v), (2, .int (nI (suN (fun y => cnB (fun x => inQ xs ys n x y) wd) j))), (3, .int (nI j))] → W p l e ({ frames := 2, cells := 0, slots := 0, locals := 80 } : Room) s m #[.ref m0, .int v] below meth c H locs 0 0 (MQ below (va_Qi (S := Nat → Int32) (fun r u => r = nI (suN (fun y => cnB (fun x => inQ xs ys n x y) wd) hg) ∧ ∀ x y, x < wd → y < hg → u (24 * y + x) = if inQ xs ys n x y = true then v else col (24 * y + x)) (wrB D [(m0, .inr (2, [.int (nI wd), .int (nI hg), .int (nI cap), .ref aP, .ref ax, .ref ay, .int (nI n), .ref afx, .ref afy, .ref atx, .ref aty, .int fr, .int tt, .int x0, .int x1, .int y0, .int y1])), (ax, .inl (cI, 60, .inl xs)), (ay, .inl (cI, 60, .inl ys)), (aP, .inl (cI, 576, .inl col))] s.heap.size (fun u => [(m0, .inr (2, [.int (nI wd), .int (nI hg), .int (nI cap), .ref aP, .ref ax, .ref ay, .int (nI n), .ref afx, .ref afy, .ref atx, .ref aty, .int fr, .int tt, .int x0, .int x1, .int y0, .int y1])), (ax, .inl (cI, 60, .inl xs)), (ay, .inl (cI, 60, .inl ys)), (aP, .inl (cI, 576, .inl u))])) A) #[.ref m0, .int v] s 0 0 A) (F0 m 4 ls []) := by
    intro i
    induction i with
    | zero => intro j h1 h2; omega
    | succ i ih =>
      intro j hj hji cl hcl H locs hP hD hS ls hl
      refine lv_iload_n hx hb dX2_fill_4 rfl (lv_at hl 3 rfl) ?_
      refine lv_aload_n hx hb dX2_fill_5 rfl (lv_at hl 0 rfl) ?_
      refine va_get (D := D) (ci := 2) (v := .int (nI hg)) (C := RX2) (T := TX2) (N := 17) hx hb hts nX2_fill_X2 hown hK.1 hP 0 rfl rfl 1 (by decide) (hts (.fieldLink RX2 51 "PolygonFrameModel" "high" "I") (by decide +kernel)) (fun _ h9 => h9) rfl dX2_fill_6 ?_
      refine lv_icmp_ge (tgt := 62) hx hb dX2_fill_9 (by decide) (fun c9 => ?_) (fun c9 => ?_)
      · skip
        refine lv_iload_n hx hb dX2_fill_62 rfl (lv_at hl 2 rfl) ?_
        have hkn : j = hg := Nat.le_antisymm hj ((nI_leI (by omega) (by omega)).mp c9)
        exact W.iret (v := (nI (suN (fun y => cnB (fun x => inQ xs ys n x y) wd) j))) hx hb hr (fun t ht hW => ⟨⟨(nI (suN (fun y => cnB (fun x => inQ xs ys n x y) wd) j)), cl, rfl, ⟨by rw [hkn], fun x y hx hy => by rw [hcl x y hx hy, hkn]; simp [hy]⟩, by rw [ht]; exact hP, by rw [hAe]; exact hD⟩, hS.F ht⟩) hS.2.2 dX2_fill_63
      · skip
        refine lv_iconst (v := 0) hx hb dX2_fill_12 (by decide) ?_
        refine lv_istore (lv' := [(4, .int 0), (0, .ref m0), (1, .int v), (2, .int (nI (suN (fun y => cnB (fun x => inQ xs ys n x y) wd) j))), (3, .int (nI j))]) hx hb dX2_fill_13 hl (by decide) rfl (fun ls hl => ?_)
        have hj2 : j < hg := Nat.lt_of_not_le (fun h => c9 (nI_le h (by omega)))
        have L2 : ∀ (i2 k : Nat), k ≤ wd → wd < k + i2 → ∀ (cl : Nat → Int32), (∀ x y, x < wd → y < hg → cl (24 * y + x) = if (y < j ∨ (y = j ∧ x < k)) ∧ (inQ xs ys n) x y = true then v else col (24 * y + x)) → ∀ (H : Heap) (locs : List Loc), va_P D vwCl [(m0, .inr (2, [.int (nI wd), .int (nI hg), .int (nI cap), .ref aP, .ref ax, .ref ay, .int (nI n), .ref afx, .ref afy, .ref atx, .ref aty, .int fr, .int tt, .int x0, .int x1, .int y0, .int y1])), (ax, .inl (cI, 60, .inl xs)), (ay, .inl (cI, 60, .inl ys)), (aP, .inl (cI, 576, .inl cl))] H → va_D A [(m0, .inr (2, [.int (nI wd), .int (nI hg), .int (nI cap), .ref aP, .ref ax, .ref ay, .int (nI n), .ref afx, .ref afy, .ref atx, .ref aty, .int fr, .int tt, .int x0, .int x1, .int y0, .int y1])), (ax, .inl (cI, 60, .inl xs)), (ay, .inl (cI, 60, .inl ys)), (aP, .inl (cI, 576, .inl cl))] → va_S A s.heap H locs → ∀ ls : Array Slot, lv_has ls 5 [(0, .ref m0), (1, .int v), (2, .int (nI ((suN (fun y => cnB (fun x => inQ xs ys n x y) wd) j) + cnB (fun x => inQ xs ys n x j) k))), (3, .int (nI j)), (4, .int (nI k))] → W p l e ({ frames := 2, cells := 0, slots := 0, locals := 80 } : Room) s m #[.ref m0, .int v] below meth c H locs 0 0 (MQ below (va_Qi (S := Nat → Int32) (fun r u => r = nI (suN (fun y => cnB (fun x => inQ xs ys n x y) wd) hg) ∧ ∀ x y, x < wd → y < hg → u (24 * y + x) = if inQ xs ys n x y = true then v else col (24 * y + x)) (wrB D [(m0, .inr (2, [.int (nI wd), .int (nI hg), .int (nI cap), .ref aP, .ref ax, .ref ay, .int (nI n), .ref afx, .ref afy, .ref atx, .ref aty, .int fr, .int tt, .int x0, .int x1, .int y0, .int y1])), (ax, .inl (cI, 60, .inl xs)), (ay, .inl (cI, 60, .inl ys)), (aP, .inl (cI, 576, .inl col))] s.heap.size (fun u => [(m0, .inr (2, [.int (nI wd), .int (nI hg), .int (nI cap), .ref aP, .ref ax, .ref ay, .int (nI n), .ref afx, .ref afy, .ref atx, .ref aty, .int fr, .int tt, .int x0, .int x1, .int y0, .int y1])), (ax, .inl (cI, 60, .inl xs)), (ay, .inl (cI, 60, .inl ys)), (aP, .inl (cI, 576, .inl u))])) A) #[.ref m0, .int v] s 0 0 A) (F0 m 15 ls []) := by
          intro i2
          induction i2 with
          | zero => intro k h1 h2; omega
          | succ i2 ih2 =>
            intro k hk hki cl hcl H locs hP hD hS ls hl
            refine lv_iload hx hb dX2_fill_15 (lv_at hl 4 rfl) ?_
            refine lv_aload_n hx hb dX2_fill_17 rfl (lv_at hl 0 rfl) ?_
            refine va_get (D := D) (ci := 2) (v := .int (nI wd)) (C := RX2) (T := TX2) (N := 17) hx hb hts nX2_fill_X2 hown hK.1 hP 0 rfl rfl 0 (by decide) (hts (.fieldLink RX2 48 "PolygonFrameModel" "wide" "I") (by decide +kernel)) (fun _ h9 => h9) rfl dX2_fill_18 ?_
            refine lv_icmp_ge (tgt := 56) hx hb dX2_fill_21 (by decide) (fun c21 => ?_) (fun c21 => ?_)
            · skip
              refine lv_iinc (v := (nI (j + 1))) (lv' := [(3, .int (nI (j + 1))), (0, .ref m0), (1, .int v), (2, .int (nI ((suN (fun y => cnB (fun x => inQ xs ys n x y) wd) j) + cnB (fun x => inQ xs ys n x j) k))), (4, .int (nI k))]) hx hb dX2_fill_56 hl (k := 3) rfl (nI_1 _) (by decide) rfl (fun ls hl => ?_)
              refine lv_goto (tgt := 4) hx hb dX2_fill_59 (by decide) ?_
              have hkn : k = wd := Nat.le_antisymm hk ((nI_leI (by omega) (by omega)).mp c21)
              have ec : (suN (fun y => cnB (fun x => inQ xs ys n x y) wd) j) + cnB (fun x => inQ xs ys n x j) k = (suN (fun y => cnB (fun x => inQ xs ys n x y) wd) (j + 1)) := by rw [suN, hkn]
              exact ih (j + 1) (by omega) (by omega) cl (pq_row (IN := (inQ xs ys n)) hkn hcl) H locs hP hD hS ls (by rw [← ec]; exact lv_sub hl [1, 2, 3, 0] rfl)
            · skip
              refine lv_aload_n hx hb dX2_fill_24 rfl (lv_at hl 0 rfl) ?_
              refine lv_iload hx hb dX2_fill_25 (lv_at hl 4 rfl) ?_
              refine lv_iload_n hx hb dX2_fill_27 rfl (lv_at hl 3 rfl) ?_
              have hk2 : k < wd := Nat.lt_of_not_le (fun h => c21 (nI_le h (by omega)))
              refine rd_i (va_runV (As := [.int (nI k), .int (nI j)]) ⟨hx, hb, hml, hown, hts⟩ (kX2_inside l D cI cZ m0 aP ax ay afx afy atx aty wd hg cap n fr tt x0 x1 y0 y1 xs ys (nI k) (nI j) hn) (cwV 2 hts gX2_fill_X2_inside rfl rfl rfl (by decide +kernel) ⟨Nat.le_of_ble_eq_true rfl, Nat.le_of_ble_eq_true rfl⟩) (rd_preV (ci := 2) (q0 := 0) (hP.sub [0, 1, 2] rfl) hK rfl rfl) rfl rfl hl.1 rfl (lv_room (Nat.le_of_ble_eq_true rfl)) dX2_fill_28 ⟨Nat.zero_le _, Nat.zero_le _⟩) ?_
              refine lv_if_eq (tgt := 50) hx hb dX2_fill_31 (by decide) (fun c31 => ?_) (fun c31 => ?_)
              · skip
                refine lv_iinc (v := (nI (k + 1))) (lv' := [(4, .int (nI (k + 1))), (0, .ref m0), (1, .int v), (2, .int (nI ((suN (fun y => cnB (fun x => inQ xs ys n x y) wd) j) + cnB (fun x => inQ xs ys n x j) k))), (3, .int (nI j))]) hx hb dX2_fill_50 hl (k := 4) rfl (nI_1 _) (by decide) rfl (fun ls hl => ?_)
                refine lv_goto (tgt := 15) hx hb dX2_fill_53 (by decide) ?_
                have ec : (suN (fun y => cnB (fun x => inQ xs ys n x y) wd) j) + cnB (fun x => inQ xs ys n x j) k = (suN (fun y => cnB (fun x => inQ xs ys n x y) wd) j) + cnB (fun x => inQ xs ys n x j) (k + 1) := by rw [cn_f (f := fun x => inQ xs ys n x j) (k := k) (bI_eq0.mp c31)]
                exact ih2 (k + 1) (by omega) (by omega) cl (pq_skip (IN := (inQ xs ys n)) (bI_eq0.mp c31) hcl) H locs hP hD hS ls (by rw [← ec]; exact lv_sub hl [1, 2, 3, 4, 0] rfl)
              · skip
                refine lv_aload_n hx hb dX2_fill_34 rfl (lv_at hl 0 rfl) ?_
                refine va_get (D := D) (ci := 2) (v := .ref aP) (C := RX2) (T := TX2) (N := 17) hx hb hts nX2_fill_X2 hown hK.1 hP 0 rfl rfl 3 (by decide) (hts (.fieldLink RX2 7 "PolygonFrameModel" "pixels" "[I") (by decide +kernel)) (fun _ h9 => h9) rfl dX2_fill_35 ?_
                refine lv_bipush (v := 24) hx hb dX2_fill_38 (by decide) ?_
                refine lv_iload_n hx hb dX2_fill_40 rfl (lv_at hl 3 rfl) ?_
                refine lv_imul hx hb dX2_fill_41 ?_
                refine lv_iload hx hb dX2_fill_42 (lv_at hl 4 rfl) ?_
                refine lv_iadd hx hb dX2_fill_44 ?_
                refine q_eq (show 24 * nI j + nI k = nI (24 * j + k) by rw [← nI_add, ← pk_mul]; rfl) ?_
                refine lv_iload_n hx hb dX2_fill_45 rfl (lv_at hl 1 rfl) ?_
                refine q_iast (k := (24 * j + k)) hx hb hK.1 hP hD hS 3 0 rfl rfl (by omega) (by omega) dX2_fill_46 (fun H locs hP hD hS => ?_)
                have hP : va_P D vwCl [(m0, .inr (2, [.int (nI wd), .int (nI hg), .int (nI cap), .ref aP, .ref ax, .ref ay, .int (nI n), .ref afx, .ref afy, .ref atx, .ref aty, .int fr, .int tt, .int x0, .int x1, .int y0, .int y1])), (ax, .inl (cI, 60, .inl xs)), (ay, .inl (cI, 60, .inl ys)), (aP, .inl (cI, 576, .inl (upd cl (24 * j + k) v)))] H := hP
                have hD : va_D A [(m0, .inr (2, [.int (nI wd), .int (nI hg), .int (nI cap), .ref aP, .ref ax, .ref ay, .int (nI n), .ref afx, .ref afy, .ref atx, .ref aty, .int fr, .int tt, .int x0, .int x1, .int y0, .int y1])), (ax, .inl (cI, 60, .inl xs)), (ay, .inl (cI, 60, .inl ys)), (aP, .inl (cI, 576, .inl (upd cl (24 * j + k) v)))] := hD
                refine lv_iinc (v := (nI (((suN (fun y => cnB (fun x => inQ xs ys n x y) wd) j) + cnB (fun x => inQ xs ys n x j) k) + 1))) (lv' := [(2, .int (nI (((suN (fun y => cnB (fun x => inQ xs ys n x y) wd) j) + cnB (fun x => inQ xs ys n x j) k) + 1))), (0, .ref m0), (1, .int v), (3, .int (nI j)), (4, .int (nI k))]) hx hb dX2_fill_47 hl (k := 2) rfl (nI_1 _) (by decide) rfl (fun ls hl => ?_)
                refine lv_iinc (v := (nI (k + 1))) (lv' := [(4, .int (nI (k + 1))), (2, .int (nI (((suN (fun y => cnB (fun x => inQ xs ys n x y) wd) j) + cnB (fun x => inQ xs ys n x j) k) + 1))), (0, .ref m0), (1, .int v), (3, .int (nI j))]) hx hb dX2_fill_50 hl (k := 4) rfl (nI_1 _) (by decide) rfl (fun ls hl => ?_)
                refine lv_goto (tgt := 15) hx hb dX2_fill_53 (by decide) ?_
                have ec : (suN (fun y => cnB (fun x => inQ xs ys n x y) wd) j) + cnB (fun x => inQ xs ys n x j) k + 1 = (suN (fun y => cnB (fun x => inQ xs ys n x y) wd) j) + cnB (fun x => inQ xs ys n x j) (k + 1) := by rw [cn_t (f := fun x => inQ xs ys n x j) (k := k) (bI_ne c31)]; omega
                exact ih2 (k + 1) (by omega) (by omega) _ (pq_set (IN := (inQ xs ys n)) hw hk2 (bI_ne c31) hcl) H locs hP hD hS ls (by rw [← ec]; exact lv_sub hl [2, 3, 1, 4, 0] rfl)
        exact L2 (wd + 1) 0 (Nat.zero_le _) (by omega) cl (fun x y hx hy => by rw [hcl x y hx hy]; simp) H locs hP hD hS ls (lv_sub hl [1, 2, 3, 4, 0] rfl)
  refine lv_iconst (v := 0) hx hb dX2_fill_0 (by decide) ?_
  refine lv_istore_n (lv' := [(2, .int 0), (0, .ref m0), (1, .int v)]) hx hb dX2_fill_1 rfl hl (by decide) rfl (fun ls hl => ?_)
  refine lv_iconst (v := 0) hx hb dX2_fill_2 (by decide) ?_
  refine lv_istore_n (lv' := [(3, .int 0), (2, .int 0), (0, .ref m0), (1, .int v)]) hx hb dX2_fill_3 rfl hl (by decide) rfl (fun ls hl => ?_)
  exact LOOP (hg + 1) 0 (Nat.zero_le _) (by omega) col (fun x y hx hy => by rw [if_neg (by omega)]) s.heap [] hP hD hS ls (lv_sub hl [2, 3, 1, 0] rfl)
end
section
/-! CONSTRUCTORS. -/
/-- the nearest number of a range, as a natural one -/
def nN (lo hi : Nat) (v : Int32) : Nat := (neI v (nI lo) (nI hi)).toNatClampNeg
theorem nN_ok {lo hi : Nat} (h : lo ≤ hi) (hh : hi < 1000) (v : Int32) : neI v (nI lo) (nI hi) = nI (nN lo hi v) ∧ lo ≤ nN lo hi v ∧ nN lo hi v ≤ hi := by
  have hm : ∃ j : Nat, lo ≤ j ∧ j ≤ hi ∧ neI v (nI lo) (nI hi) = nI j := by
    unfold neI
    by_cases h1 : v < nI hi
    · rw [if_pos h1]
      by_cases h2 : nI lo < v
      · rw [if_pos h2]
        rcases pk_ix v (n := hi) (by omega) with h3 | h3 | ⟨j, h3, h4⟩
        · exact absurd (Int32.lt_trans h2 h3) (nI_pos (by omega))
        · exact absurd (Int32.lt_of_lt_of_le h1 h3) Int32.lt_irrefl
        · rw [h4] at h2
          exact ⟨j, Nat.le_of_lt ((nI_ltI (by omega) (by omega)).mp h2), by omega, h4⟩
      · rw [if_neg h2]; exact ⟨lo, Nat.le_refl _, h, rfl⟩
    · rw [if_neg h1]
      by_cases h2 : nI lo < nI hi
      · rw [if_pos h2]; exact ⟨hi, h, Nat.le_refl _, rfl⟩
      · rw [if_neg h2]; exact ⟨lo, Nat.le_refl _, h, rfl⟩
  obtain ⟨j, hj, hj2, e⟩ := hm
  have e2 : nN lo hi v = j := by unfold nN; rw [e]; exact nI_clamp (by omega)
  rw [e2]; exact ⟨e, hj, hj2⟩
theorem bw_ne {v lo hi : Int32} (h : lo < hi) : bwI v lo hi = neI v lo hi := by
  unfold bwI neI
  simp only [Int32.lt_iff_toInt_lt, Int32.le_iff_toInt_le] at *
  by_cases h1 : lo.toInt ≤ v.toInt
  · rw [if_pos h1]
    by_cases h2 : v.toInt ≤ hi.toInt
    · rw [if_pos h2]
      by_cases h3 : v.toInt < hi.toInt
      · simp only [if_pos h3]
        by_cases h4 : lo.toInt < v.toInt
        · rw [if_pos h4]
        · rw [if_neg h4]; exact Int32.toInt_inj.mp (by omega)
      · simp only [if_neg h3, if_pos h]
        exact Int32.toInt_inj.mp (by omega)
    · rw [if_neg h2, if_neg (show ¬ v.toInt < hi.toInt by omega), if_pos h]
  · rw [if_neg h1, if_pos (show v.toInt < hi.toInt by omega), if_neg (by omega)]
theorem nX0_init_X0 : ∀ w ∈ wsX00, w ∈ wsX0_init := fun w h => List.mem_cons_of_mem _ (List.mem_append_right _ h)
set_option maxHeartbeats 4000000 in
set_option maxRecDepth 100000 in
theorem kX0_init (l : Launch) (D : va_G) (cI cZ : ClassId) (sz : Nat) (r0 cap : Nat) (hc : cap ≤ 60) : Met l yX0_init wsX0_init ({ frames := 1, cells := 2, slots := 120, locals := 20 }) (va_Pc [.ref r0, .int (nI cap)] (wrP D cI cZ sz [(r0, .inr (0, [.null, .null, .int 0]))])) (va_Qv (S := Nat × Nat) (fun _ => True) (wrB D [(r0, .inr (0, [.null, .null, .int 0]))] sz (fun u => [(r0, .inr (0, [.ref u.1, .ref u.2, .int 0])), (u.1, .inl (cI, cap, .inl (fun _ => 0))), (u.2, .inl (cI, cap, .inl (fun _ => 0)))])) (va_A [(r0, .inr (0, [.null, .null, .int 0]))] sz)) 2 120 (va_A [(r0, .inr (0, [.null, .null, .int 0]))] sz) := by
  refine Met.ofW (cc := cX0_init) (maxL := 2) (ret := none) (by decide) rfl ?_
  intro p e s m args below meth c s₁ B hml hv
  obtain ⟨rfl, hsz, hP, hK, hD0⟩ := hv
  have hx := B.exec
  have hb := B.bytes
  have hr := B.returns
  have hts := atoms_spec (ws := wsX0_init) B.pre
  have hown : s.vm.findClass RX0 = some m.cls := findClass_of_methodNamed B.named
  have hlocks := B.notSynchronized
  have hin : meth.name = "<init>" := (name_of_methodNamed B.named B.method).1
  subst hsz
  have hD := hD0.self (sz := s.heap.size)
  generalize hAe : va_A [(r0, .inr (0, [.null, .null, .int 0]))] s.heap.size = A at hD ⊢
  have hA : ∀ q : Nat, s.heap.size ≤ q → A q := fun q h => by rw [← hAe]; exact Or.inr h
  have hS : va_S A s.heap s.heap [] := va_S.rf
  have hP : va_P D vwCl [(r0, .inr (0, [.null, .null, .int 0]))] s.heap := hP
  have hl := lv_entry ([.ref r0, .int (nI cap)]) (n := 2) (Nat.le_of_ble_eq_true rfl)
  rw [lg_entry_eq]
  generalize (lg_sl ([.ref r0, .int (nI cap)]) ++ List.replicate (2 - (lg_sl ([.ref r0, .int (nI cap)])).length) Slot.unset).toArray = ls at hl ⊢
  have hl : lv_has ls 2 [(0, .ref r0), (1, .int (nI cap))] := hl
  refine lv_aload_n hx hb dX0_init_0 rfl (lv_at hl 0 rfl) ?_
  refine W.objInit hx hb hown (hts (.methodLink RX0 1 objectInit) (by decide +kernel)) (hts (.instanceMethod objectInit) (by decide +kernel)) (hts _ (List.mem_cons_of_mem _ (List.mem_append_left _ (List.mem_of_getElem? (i := 2) rfl)))) rfl (by rw [hml]; exact hl.1) rfl dX0_init_1 (Nat.le_of_ble_eq_true rfl) (Nat.le_of_ble_eq_true rfl) ?_
  refine W.eq (g2 := F0 m 4 ls []) rfl ?_
  refine lv_aload_n hx hb dX0_init_4 rfl (lv_at hl 0 rfl) ?_
  refine lv_iload_n hx hb dX0_init_5 rfl (lv_at hl 1 rfl) ?_
  refine va_newa (atype := .int) (ty := .int) (N' := cap) (a0 := (cap, .inl (fun _ => 0))) hx hb (hts (.arrayClass .int) (by decide +kernel)) rfl hK.1 hP hD hS hA (fun _ => rfl) (nI_pos (by omega)) (nI_clamp (by omega)) (Nat.le_trans (Nat.mul_le_mul_right _ (show cap ≤ 60 by omega)) (by decide)) (Nat.le_of_ble_eq_true rfl) (show 0 + cap ≤ 120 by omega) dX0_init_6 (fun a1 cA H hK2 hP hD hS => ?_)
  rw [pK.int hK2] at hP hD
  have hP : va_P D vwCl [(r0, .inr (0, [.null, .null, .int 0])), (a1, .inl (cI, cap, .inl (fun _ => 0)))] H := hP
  have hD : va_D A [(r0, .inr (0, [.null, .null, .int 0])), (a1, .inl (cI, cap, .inl (fun _ => 0)))] := hD
  refine W.widen (k := 1) (n := 60) (by omega) (by omega) ?_
  refine va_putF (D := D) (ci := 0) (v := .ref a1) (ty := .array .int) (C := RX0) (T := TX0) (N := 3) hx hb hts nX0_init_X0 tyX0 tyX0_ok nmX0 hown hK.1 hP hD hS 0 rfl rfl 0 (by decide) (hts (.fieldLink RX0 7 "PolygonFrame$Ring" "xs" "[I") (by decide +kernel)) (fun _ h9 => h9) rfl hin rfl (tyX0_ok 0 (by decide)) rfl rfl (Nat.le_of_ble_eq_true rfl) dX0_init_8 (fun H locs hP hD hS => ?_)
  have hP : va_P D vwCl [(r0, .inr (0, [.ref a1, .null, .int 0])), (a1, .inl (cI, cap, .inl (fun _ => 0)))] H := hP
  have hD : va_D A [(r0, .inr (0, [.ref a1, .null, .int 0])), (a1, .inl (cI, cap, .inl (fun _ => 0)))] := hD
  refine lv_aload_n hx hb dX0_init_11 rfl (lv_at hl 0 rfl) ?_
  refine lv_iload_n hx hb dX0_init_12 rfl (lv_at hl 1 rfl) ?_
  refine va_newa (atype := .int) (ty := .int) (N' := cap) (a0 := (cap, .inl (fun _ => 0))) hx hb (hts (.arrayClass .int) (by decide +kernel)) rfl hK.1 hP hD hS hA (fun _ => rfl) (nI_pos (by omega)) (nI_clamp (by omega)) (Nat.le_trans (Nat.mul_le_mul_right _ (show cap ≤ 60 by omega)) (by decide)) (Nat.le_of_ble_eq_true rfl) (show 60 + cap ≤ 120 by omega) dX0_init_13 (fun a2 cA H hK2 hP hD hS => ?_)
  rw [pK.int hK2] at hP hD
  have hP : va_P D vwCl [(r0, .inr (0, [.ref a1, .null, .int 0])), (a1, .inl (cI, cap, .inl (fun _ => 0))), (a2, .inl (cI, cap, .inl (fun _ => 0)))] H := hP
  have hD : va_D A [(r0, .inr (0, [.ref a1, .null, .int 0])), (a1, .inl (cI, cap, .inl (fun _ => 0))), (a2, .inl (cI, cap, .inl (fun _ => 0)))] := hD
  refine W.widen (k := 2) (n := 120) (by omega) (by omega) ?_
  refine va_putF (D := D) (ci := 0) (v := .ref a2) (ty := .array .int) (C := RX0) (T := TX0) (N := 3) hx hb hts nX0_init_X0 tyX0 tyX0_ok nmX0 hown hK.1 hP hD hS 0 rfl rfl 1 (by decide) (hts (.fieldLink RX0 13 "PolygonFrame$Ring" "ys" "[I") (by decide +kernel)) (fun _ h9 => h9) rfl hin rfl (tyX0_ok 1 (by decide)) rfl rfl (Nat.le_of_ble_eq_true rfl) dX0_init_15 (fun H locs hP hD hS => ?_)
  have hP : va_P D vwCl [(r0, .inr (0, [.ref a1, .ref a2, .int 0])), (a1, .inl (cI, cap, .inl (fun _ => 0))), (a2, .inl (cI, cap, .inl (fun _ => 0)))] H := hP
  have hD : va_D A [(r0, .inr (0, [.ref a1, .ref a2, .int 0])), (a1, .inl (cI, cap, .inl (fun _ => 0))), (a2, .inl (cI, cap, .inl (fun _ => 0)))] := hD
  refine lv_aload_n hx hb dX0_init_18 rfl (lv_at hl 0 rfl) ?_
  refine lv_iconst (v := 0) hx hb dX0_init_19 (by decide) ?_
  refine va_put (D := D) (ci := 0) (v := .int 0) (ty := .int) (C := RX0) (T := TX0) (N := 3) hx hb hts nX0_init_X0 tyX0 tyX0_ok nmX0 hown hK.1 hP hD hS 0 rfl rfl 2 (by decide) (hts (.fieldLink RX0 16 "PolygonFrame$Ring" "count" "I") (by decide +kernel)) (fun _ h9 => h9) rfl (tyX0_ok 2 (by decide)) rfl rfl (Nat.le_of_ble_eq_true rfl) dX0_init_20 (fun H locs hP hD hS => ?_)
  have hP : va_P D vwCl [(r0, .inr (0, [.ref a1, .ref a2, .int 0])), (a1, .inl (cI, cap, .inl (fun _ => 0))), (a2, .inl (cI, cap, .inl (fun _ => 0)))] H := hP
  have hD : va_D A [(r0, .inr (0, [.ref a1, .ref a2, .int 0])), (a1, .inl (cI, cap, .inl (fun _ => 0))), (a2, .inl (cI, cap, .inl (fun _ => 0)))] := hD
  refine W.widen (k := 2) (n := 120) (by omega) (by omega) ?_
  exact W.vret hx hb hr (fun t ht hW => ⟨⟨(a1, a2), rfl, trivial, by rw [ht]; exact hP, by rw [hAe]; exact hD⟩, hS.F ht⟩) hS.2.2 dX0_init_23
theorem nX1_init_X1 : ∀ w ∈ wsX10, w ∈ wsX1_init := fun w h => List.mem_cons_of_mem _ (List.mem_append_left _ (List.mem_append_right _ h))
theorem nX1_init_X0 : ∀ w ∈ wsX00, w ∈ wsX1_init := fun w h => List.mem_cons_of_mem _ (List.mem_append_right _ h)
set_option maxHeartbeats 4000000 in
set_option maxRecDepth 100000 in
theorem kX1_init (l : Launch) (D : va_G) (cI cZ : ClassId) (sz : Nat) (p0 : Nat) (w0 h0 v0 : Int32)  : Met l yX1_init wsX1_init ({ frames := 2, cells := 12, slots := 1000, locals := 60 }) (va_Pc [.ref p0, .int w0, .int h0, .int v0] (wrP D cI cZ sz [(p0, .inr (1, [.int 0, .int 0, .null, .null, .null, .null, .null, .null]))])) (va_Qv (S := Nat × Nat × Nat × Nat × Nat × Nat × Nat × Nat × Nat × Nat × Nat × Nat) (fun _ => True) (wrB D [(p0, .inr (1, [.int 0, .int 0, .null, .null, .null, .null, .null, .null]))] sz (fun u => [(p0, .inr (1, [.int (nI (nN 1 24 w0)), .int (nI (nN 1 24 h0)), .ref u.1, .ref u.2.1, .ref u.2.2.1, .ref u.2.2.2.1, .ref u.2.2.2.2.2.2.1, .ref u.2.2.2.2.2.2.2.2.2.1])), (u.1, .inl (cI, ((nN 1 24 w0) * (nN 1 24 h0)), .inl (fun _ => 0))), (u.2.1, .inl (cZ, ((nN 1 24 w0) + 1), .inl (fun _ => 0))), (u.2.2.1, .inl (cI, 4, .inl (upd (upd (upd (upd (fun _ => 0) 0 (-16384)) 1 16384) 2 (-16384)) 3 16384))), (u.2.2.2.1, .inr (0, [.ref u.2.2.2.2.1, .ref u.2.2.2.2.2.1, .int 0])), (u.2.2.2.2.1, .inl (cI, (nN 3 60 v0), .inl (fun _ => 0))), (u.2.2.2.2.2.1, .inl (cI, (nN 3 60 v0), .inl (fun _ => 0))), (u.2.2.2.2.2.2.1, .inr (0, [.ref u.2.2.2.2.2.2.2.1, .ref u.2.2.2.2.2.2.2.2.1, .int 0])), (u.2.2.2.2.2.2.2.1, .inl (cI, (nN 3 60 v0), .inl (fun _ => 0))), (u.2.2.2.2.2.2.2.2.1, .inl (cI, (nN 3 60 v0), .inl (fun _ => 0))), (u.2.2.2.2.2.2.2.2.2.1, .inr (0, [.ref u.2.2.2.2.2.2.2.2.2.2.1, .ref u.2.2.2.2.2.2.2.2.2.2.2, .int 0])), (u.2.2.2.2.2.2.2.2.2.2.1, .inl (cI, (nN 3 60 v0), .inl (fun _ => 0))), (u.2.2.2.2.2.2.2.2.2.2.2, .inl (cI, (nN 3 60 v0), .inl (fun _ => 0)))])) (va_A [(p0, .inr (1, [.int 0, .int 0, .null, .null, .null, .null, .null, .null]))] sz)) 12 1000 (va_A [(p0, .inr (1, [.int 0, .int 0, .null, .null, .null, .null, .null, .null]))] sz) := by
  refine Met.ofW (cc := cX1_init) (maxL := 5) (ret := none) (by decide) rfl ?_
  intro p e s m args below meth c s₁ B hml hv
  obtain ⟨rfl, hsz, hP, hK, hD0⟩ := hv
  have hx := B.exec
  have hb := B.bytes
  have hr := B.returns
  have hts := atoms_spec (ws := wsX1_init) B.pre
  have hown : s.vm.findClass RX1 = some m.cls := findClass_of_methodNamed B.named
  have hlocks := B.notSynchronized
  have hin : meth.name = "<init>" := (name_of_methodNamed B.named B.method).1
  subst hsz
  have hD := hD0.self (sz := s.heap.size)
  generalize hAe : va_A [(p0, .inr (1, [.int 0, .int 0, .null, .null, .null, .null, .null, .null]))] s.heap.size = A at hD ⊢
  have hA : ∀ q : Nat, s.heap.size ≤ q → A q := fun q h => by rw [← hAe]; exact Or.inr h
  have hS : va_S A s.heap s.heap [] := va_S.rf
  have hP : va_P D vwCl [(p0, .inr (1, [.int 0, .int 0, .null, .null, .null, .null, .null, .null]))] s.heap := hP
  have hl := lv_entry ([.ref p0, .int w0, .int h0, .int v0]) (n := 5) (Nat.le_of_ble_eq_true rfl)
  rw [lg_entry_eq]
  generalize (lg_sl ([.ref p0, .int w0, .int h0, .int v0]) ++ List.replicate (5 - (lg_sl ([.ref p0, .int w0, .int h0, .int v0])).length) Slot.unset).toArray = ls at hl ⊢
  have hl : lv_has ls 5 [(0, .ref p0), (1, .int w0), (2, .int h0), (3, .int v0)] := hl
  obtain ⟨ew, hw1, hw2⟩ := nN_ok (lo := 1) (hi := 24) (by decide) (by decide) w0
  obtain ⟨eh, hh1, hh2⟩ := nN_ok (lo := 1) (hi := 24) (by decide) (by decide) h0
  obtain ⟨ev, hv1, hv2⟩ := nN_ok (lo := 3) (hi := 60) (by decide) (by decide) v0
  have hwh : (nN 1 24 w0) * (nN 1 24 h0) ≤ 24 * 24 := Nat.mul_le_mul hw2 hh2
  refine lv_aload_n hx hb dX1_init_0 rfl (lv_at hl 0 rfl) ?_
  refine W.objInit hx hb hown (hts (.methodLink RX1 1 objectInit) (by decide +kernel)) (hts (.instanceMethod objectInit) (by decide +kernel)) (hts _ (List.mem_cons_of_mem _ (List.mem_append_left _ (List.mem_append_left _ (List.mem_append_left _ (List.mem_of_getElem? (l := wsX1_init_r1) (i := 2) rfl)))))) rfl (by rw [hml]; exact hl.1) rfl dX1_init_1 (Nat.le_of_ble_eq_true rfl) (Nat.le_of_ble_eq_true rfl) ?_
  refine W.eq (g2 := F0 m 4 ls []) rfl ?_
  refine lv_aload_n hx hb dX1_init_4 rfl (lv_at hl 0 rfl) ?_
  refine lv_iload_n hx hb dX1_init_5 rfl (lv_at hl 1 rfl) ?_
  refine lv_iconst (v := 1) hx hb dX1_init_6 (by decide) ?_
  refine lv_bipush (v := 24) hx hb dX1_init_7 (by decide) ?_
  refine rd_i (va_runS (As := [.int w0, .int 1, .int 24]) ⟨hx, hb, hml, hown, hts⟩ (kX1_nearest l D cI cZ w0 1 24) (va_cwS 3 hts gX1_init_X1_nearest rfl rfl rfl (by decide +kernel) ⟨Nat.le_of_ble_eq_true rfl, Nat.le_of_ble_eq_true rfl⟩) rd_pre0 rfl rfl hl.1 rfl (lv_room (Nat.le_of_ble_eq_true rfl)) dX1_init_9 ⟨Nat.le_of_ble_eq_true rfl, Nat.le_of_ble_eq_true rfl⟩) ?_
  refine q_eq ew ?_
  refine va_putF (D := D) (ci := 1) (v := .int (nI (nN 1 24 w0))) (ty := .int) (C := RX1) (T := TX1) (N := 8) hx hb hts nX1_init_X1 tyX1 tyX1_ok nmX1 hown hK.1 hP hD hS 0 rfl rfl 0 (by decide) (hts (.fieldLink RX1 13 "PolygonFrame" "width" "I") (by decide +kernel)) (fun _ h9 => h9) rfl hin rfl (tyX1_ok 0 (by decide)) rfl rfl (Nat.le_of_ble_eq_true rfl) dX1_init_12 (fun H locs hP hD hS => ?_)
  have hP : va_P D vwCl [(p0, .inr (1, [.int (nI (nN 1 24 w0)), .int 0, .null, .null, .null, .null, .null, .null]))] H := hP
  have hD : va_D A [(p0, .inr (1, [.int (nI (nN 1 24 w0)), .int 0, .null, .null, .null, .null, .null, .null]))] := hD
  refine lv_aload_n hx hb dX1_init_15 rfl (lv_at hl 0 rfl) ?_
  refine lv_iload_n hx hb dX1_init_16 rfl (lv_at hl 2 rfl) ?_
  refine lv_iconst (v := 1) hx hb dX1_init_17 (by decide) ?_
  refine lv_bipush (v := 24) hx hb dX1_init_18 (by decide) ?_
  refine rd_i (va_runS (As := [.int h0, .int 1, .int 24]) ⟨hx, hb, hml, hown, hts⟩ (kX1_nearest l D cI cZ h0 1 24) (va_cwS 3 hts gX1_init_X1_nearest rfl rfl rfl (by decide +kernel) ⟨Nat.le_of_ble_eq_true rfl, Nat.le_of_ble_eq_true rfl⟩) rd_pre0 rfl rfl hl.1 rfl (lv_room (Nat.le_of_ble_eq_true rfl)) dX1_init_20 ⟨Nat.le_of_ble_eq_true rfl, Nat.le_of_ble_eq_true rfl⟩) ?_
  refine q_eq eh ?_
  refine va_putF (D := D) (ci := 1) (v := .int (nI (nN 1 24 h0))) (ty := .int) (C := RX1) (T := TX1) (N := 8) hx hb hts nX1_init_X1 tyX1 tyX1_ok nmX1 hown hK.1 hP hD hS 0 rfl rfl 1 (by decide) (hts (.fieldLink RX1 17 "PolygonFrame" "height" "I") (by decide +kernel)) (fun _ h9 => h9) rfl hin rfl (tyX1_ok 1 (by decide)) rfl rfl (Nat.le_of_ble_eq_true rfl) dX1_init_23 (fun H locs hP hD hS => ?_)
  have hP : va_P D vwCl [(p0, .inr (1, [.int (nI (nN 1 24 w0)), .int (nI (nN 1 24 h0)), .null, .null, .null, .null, .null, .null]))] H := hP
  have hD : va_D A [(p0, .inr (1, [.int (nI (nN 1 24 w0)), .int (nI (nN 1 24 h0)), .null, .null, .null, .null, .null, .null]))] := hD
  refine lv_aload_n hx hb dX1_init_26 rfl (lv_at hl 0 rfl) ?_
  refine lv_aload_n hx hb dX1_init_27 rfl (lv_at hl 0 rfl) ?_
  refine va_get (D := D) (ci := 1) (v := .int (nI (nN 1 24 w0))) (C := RX1) (T := TX1) (N := 8) hx hb hts nX1_init_X1 hown hK.1 hP 0 rfl rfl 0 (by decide) (hts (.fieldLink RX1 13 "PolygonFrame" "width" "I") (by decide +kernel)) (fun _ h9 => h9) rfl dX1_init_28 ?_
  refine lv_aload_n hx hb dX1_init_31 rfl (lv_at hl 0 rfl) ?_
  refine va_get (D := D) (ci := 1) (v := .int (nI (nN 1 24 h0))) (C := RX1) (T := TX1) (N := 8) hx hb hts nX1_init_X1 hown hK.1 hP 0 rfl rfl 1 (by decide) (hts (.fieldLink RX1 17 "PolygonFrame" "height" "I") (by decide +kernel)) (fun _ h9 => h9) rfl dX1_init_32 ?_
  refine lv_imul hx hb dX1_init_35 ?_
  refine q_eq (pk_mul _ _) ?_
  refine va_newa (atype := .int) (ty := .int) (N' := ((nN 1 24 w0) * (nN 1 24 h0))) (a0 := (((nN 1 24 w0) * (nN 1 24 h0)), .inl (fun _ => 0))) hx hb (hts (.arrayClass .int) (by decide +kernel)) rfl hK.1 hP hD hS hA (fun _ => rfl) (nI_pos (by omega)) (nI_clamp (by omega)) (Nat.le_trans (Nat.mul_le_mul_right _ (show ((nN 1 24 w0) * (nN 1 24 h0)) ≤ 576 by omega)) (by decide)) (Nat.le_of_ble_eq_true rfl) (show 0 + ((nN 1 24 w0) * (nN 1 24 h0)) ≤ 1000 by omega) dX1_init_36 (fun aC cA H hK2 hP hD hS => ?_)
  rw [pK.int hK2] at hP hD
  have hP : va_P D vwCl [(p0, .inr (1, [.int (nI (nN 1 24 w0)), .int (nI (nN 1 24 h0)), .null, .null, .null, .null, .null, .null])), (aC, .inl (cI, ((nN 1 24 w0) * (nN 1 24 h0)), .inl (fun _ => 0)))] H := hP
  have hD : va_D A [(p0, .inr (1, [.int (nI (nN 1 24 w0)), .int (nI (nN 1 24 h0)), .null, .null, .null, .null, .null, .null])), (aC, .inl (cI, ((nN 1 24 w0) * (nN 1 24 h0)), .inl (fun _ => 0)))] := hD
  refine W.widen (k := 1) (n := 576) (by omega) (by omega) ?_
  refine va_putF (D := D) (ci := 1) (v := .ref aC) (ty := .array .int) (C := RX1) (T := TX1) (N := 8) hx hb hts nX1_init_X1 tyX1 tyX1_ok nmX1 hown hK.1 hP hD hS 0 rfl rfl 2 (by decide) (hts (.fieldLink RX1 20 "PolygonFrame" "colours" "[I") (by decide +kernel)) (fun _ h9 => h9) rfl hin rfl (tyX1_ok 2 (by decide)) rfl rfl (Nat.le_of_ble_eq_true rfl) dX1_init_38 (fun H locs hP hD hS => ?_)
  have hP : va_P D vwCl [(p0, .inr (1, [.int (nI (nN 1 24 w0)), .int (nI (nN 1 24 h0)), .ref aC, .null, .null, .null, .null, .null])), (aC, .inl (cI, ((nN 1 24 w0) * (nN 1 24 h0)), .inl (fun _ => 0)))] H := hP
  have hD : va_D A [(p0, .inr (1, [.int (nI (nN 1 24 w0)), .int (nI (nN 1 24 h0)), .ref aC, .null, .null, .null, .null, .null])), (aC, .inl (cI, ((nN 1 24 w0) * (nN 1 24 h0)), .inl (fun _ => 0)))] := hD
  refine lv_aload_n hx hb dX1_init_41 rfl (lv_at hl 0 rfl) ?_
  refine lv_aload_n hx hb dX1_init_42 rfl (lv_at hl 0 rfl) ?_
  refine va_get (D := D) (ci := 1) (v := .int (nI (nN 1 24 w0))) (C := RX1) (T := TX1) (N := 8) hx hb hts nX1_init_X1 hown hK.1 hP 0 rfl rfl 0 (by decide) (hts (.fieldLink RX1 13 "PolygonFrame" "width" "I") (by decide +kernel)) (fun _ h9 => h9) rfl dX1_init_43 ?_
  refine lv_iconst (v := 1) hx hb dX1_init_46 (by decide) ?_
  refine lv_iadd hx hb dX1_init_47 ?_
  refine q_eq (nI_1 _) ?_
  refine va_newa (atype := .boolean) (ty := .boolean) (N' := ((nN 1 24 w0) + 1)) (a0 := (((nN 1 24 w0) + 1), .inl (fun _ => 0))) hx hb (hts (.arrayClass .boolean) (by decide +kernel)) rfl hK.1 hP hD hS hA (fun _ => rfl) (nI_pos (by omega)) (nI_clamp (by omega)) (Nat.le_trans (Nat.mul_le_mul_right _ (show ((nN 1 24 w0) + 1) ≤ 25 by omega)) (by decide)) (Nat.le_of_ble_eq_true rfl) (show 576 + ((nN 1 24 w0) + 1) ≤ 1000 by omega) dX1_init_48 (fun aT cA H hK2 hP hD hS => ?_)
  rw [pK.bool hK2] at hP hD
  have hP : va_P D vwCl [(p0, .inr (1, [.int (nI (nN 1 24 w0)), .int (nI (nN 1 24 h0)), .ref aC, .null, .null, .null, .null, .null])), (aC, .inl (cI, ((nN 1 24 w0) * (nN 1 24 h0)), .inl (fun _ => 0))), (aT, .inl (cZ, ((nN 1 24 w0) + 1), .inl (fun _ => 0)))] H := hP
  have hD : va_D A [(p0, .inr (1, [.int (nI (nN 1 24 w0)), .int (nI (nN 1 24 h0)), .ref aC, .null, .null, .null, .null, .null])), (aC, .inl (cI, ((nN 1 24 w0) * (nN 1 24 h0)), .inl (fun _ => 0))), (aT, .inl (cZ, ((nN 1 24 w0) + 1), .inl (fun _ => 0)))] := hD
  refine W.widen (k := 2) (n := 601) (by omega) (by omega) ?_
  refine va_putF (D := D) (ci := 1) (v := .ref aT) (ty := .array .boolean) (C := RX1) (T := TX1) (N := 8) hx hb hts nX1_init_X1 tyX1 tyX1_ok nmX1 hown hK.1 hP hD hS 0 rfl rfl 3 (by decide) (hts (.fieldLink RX1 24 "PolygonFrame" "turns" "[Z") (by decide +kernel)) (fun _ h9 => h9) rfl hin rfl (tyX1_ok 3 (by decide)) rfl rfl (Nat.le_of_ble_eq_true rfl) dX1_init_50 (fun H locs hP hD hS => ?_)
  have hP : va_P D vwCl [(p0, .inr (1, [.int (nI (nN 1 24 w0)), .int (nI (nN 1 24 h0)), .ref aC, .ref aT, .null, .null, .null, .null])), (aC, .inl (cI, ((nN 1 24 w0) * (nN 1 24 h0)), .inl (fun _ => 0))), (aT, .inl (cZ, ((nN 1 24 w0) + 1), .inl (fun _ => 0)))] H := hP
  have hD : va_D A [(p0, .inr (1, [.int (nI (nN 1 24 w0)), .int (nI (nN 1 24 h0)), .ref aC, .ref aT, .null, .null, .null, .null])), (aC, .inl (cI, ((nN 1 24 w0) * (nN 1 24 h0)), .inl (fun _ => 0))), (aT, .inl (cZ, ((nN 1 24 w0) + 1), .inl (fun _ => 0)))] := hD
  refine lv_aload_n hx hb dX1_init_53 rfl (lv_at hl 0 rfl) ?_
  refine lv_iconst (v := 4) hx hb dX1_init_54 (by decide) ?_
  refine va_newa (atype := .int) (ty := .int) (N' := 4) (a0 := (4, .inl (fun _ => 0))) hx hb (hts (.arrayClass .int) (by decide +kernel)) rfl hK.1 hP hD hS hA (fun _ => rfl) (by decide) rfl (by decide) (Nat.le_of_ble_eq_true rfl) (Nat.le_of_ble_eq_true rfl) dX1_init_55 (fun aS cA H hK2 hP hD hS => ?_)
  rw [pK.int hK2] at hP hD
  have hP : va_P D vwCl [(p0, .inr (1, [.int (nI (nN 1 24 w0)), .int (nI (nN 1 24 h0)), .ref aC, .ref aT, .null, .null, .null, .null])), (aC, .inl (cI, ((nN 1 24 w0) * (nN 1 24 h0)), .inl (fun _ => 0))), (aT, .inl (cZ, ((nN 1 24 w0) + 1), .inl (fun _ => 0))), (aS, .inl (cI, 4, .inl (fun _ => 0)))] H := hP
  have hD : va_D A [(p0, .inr (1, [.int (nI (nN 1 24 w0)), .int (nI (nN 1 24 h0)), .ref aC, .ref aT, .null, .null, .null, .null])), (aC, .inl (cI, ((nN 1 24 w0) * (nN 1 24 h0)), .inl (fun _ => 0))), (aT, .inl (cZ, ((nN 1 24 w0) + 1), .inl (fun _ => 0))), (aS, .inl (cI, 4, .inl (fun _ => 0)))] := hD
  refine W.widen (k := 3) (n := 605) (by omega) (by omega) ?_
  refine lv_dup hx hb dX1_init_57 rfl ?_
  refine lv_iconst (v := 0) hx hb dX1_init_58 (by decide) ?_
  refine lv_sipush (v := (-16384)) hx hb dX1_init_59 (by decide) ?_
  refine q_iast (k := 0) hx hb hK.1 hP hD hS 3 0 rfl rfl (by omega) (by omega) dX1_init_62 (fun H locs hP hD hS => ?_)
  have hP : va_P D vwCl [(p0, .inr (1, [.int (nI (nN 1 24 w0)), .int (nI (nN 1 24 h0)), .ref aC, .ref aT, .null, .null, .null, .null])), (aC, .inl (cI, ((nN 1 24 w0) * (nN 1 24 h0)), .inl (fun _ => 0))), (aT, .inl (cZ, ((nN 1 24 w0) + 1), .inl (fun _ => 0))), (aS, .inl (cI, 4, .inl (upd (fun _ => 0) 0 (-16384))))] H := hP
  have hD : va_D A [(p0, .inr (1, [.int (nI (nN 1 24 w0)), .int (nI (nN 1 24 h0)), .ref aC, .ref aT, .null, .null, .null, .null])), (aC, .inl (cI, ((nN 1 24 w0) * (nN 1 24 h0)), .inl (fun _ => 0))), (aT, .inl (cZ, ((nN 1 24 w0) + 1), .inl (fun _ => 0))), (aS, .inl (cI, 4, .inl (upd (fun _ => 0) 0 (-16384))))] := hD
  refine lv_dup hx hb dX1_init_63 rfl ?_
  refine lv_iconst (v := 1) hx hb dX1_init_64 (by decide) ?_
  refine lv_sipush (v := 16384) hx hb dX1_init_65 (by decide) ?_
  refine q_iast (k := 1) hx hb hK.1 hP hD hS 3 0 rfl rfl (by omega) (by omega) dX1_init_68 (fun H locs hP hD hS => ?_)
  have hP : va_P D vwCl [(p0, .inr (1, [.int (nI (nN 1 24 w0)), .int (nI (nN 1 24 h0)), .ref aC, .ref aT, .null, .null, .null, .null])), (aC, .inl (cI, ((nN 1 24 w0) * (nN 1 24 h0)), .inl (fun _ => 0))), (aT, .inl (cZ, ((nN 1 24 w0) + 1), .inl (fun _ => 0))), (aS, .inl (cI, 4, .inl (upd (upd (fun _ => 0) 0 (-16384)) 1 16384)))] H := hP
  have hD : va_D A [(p0, .inr (1, [.int (nI (nN 1 24 w0)), .int (nI (nN 1 24 h0)), .ref aC, .ref aT, .null, .null, .null, .null])), (aC, .inl (cI, ((nN 1 24 w0) * (nN 1 24 h0)), .inl (fun _ => 0))), (aT, .inl (cZ, ((nN 1 24 w0) + 1), .inl (fun _ => 0))), (aS, .inl (cI, 4, .inl (upd (upd (fun _ => 0) 0 (-16384)) 1 16384)))] := hD
  refine lv_dup hx hb dX1_init_69 rfl ?_
  refine lv_iconst (v := 2) hx hb dX1_init_70 (by decide) ?_
  refine lv_sipush (v := (-16384)) hx hb dX1_init_71 (by decide) ?_
  refine q_iast (k := 2) hx hb hK.1 hP hD hS 3 0 rfl rfl (by omega) (by omega) dX1_init_74 (fun H locs hP hD hS => ?_)
  have hP : va_P D vwCl [(p0, .inr (1, [.int (nI (nN 1 24 w0)), .int (nI (nN 1 24 h0)), .ref aC, .ref aT, .null, .null, .null, .null])), (aC, .inl (cI, ((nN 1 24 w0) * (nN 1 24 h0)), .inl (fun _ => 0))), (aT, .inl (cZ, ((nN 1 24 w0) + 1), .inl (fun _ => 0))), (aS, .inl (cI, 4, .inl (upd (upd (upd (fun _ => 0) 0 (-16384)) 1 16384) 2 (-16384))))] H := hP
  have hD : va_D A [(p0, .inr (1, [.int (nI (nN 1 24 w0)), .int (nI (nN 1 24 h0)), .ref aC, .ref aT, .null, .null, .null, .null])), (aC, .inl (cI, ((nN 1 24 w0) * (nN 1 24 h0)), .inl (fun _ => 0))), (aT, .inl (cZ, ((nN 1 24 w0) + 1), .inl (fun _ => 0))), (aS, .inl (cI, 4, .inl (upd (upd (upd (fun _ => 0) 0 (-16384)) 1 16384) 2 (-16384))))] := hD
  refine lv_dup hx hb dX1_init_75 rfl ?_
  refine lv_iconst (v := 3) hx hb dX1_init_76 (by decide) ?_
  refine lv_sipush (v := 16384) hx hb dX1_init_77 (by decide) ?_
  refine q_iast (k := 3) hx hb hK.1 hP hD hS 3 0 rfl rfl (by omega) (by omega) dX1_init_80 (fun H locs hP hD hS => ?_)
  have hP : va_P D vwCl [(p0, .inr (1, [.int (nI (nN 1 24 w0)), .int (nI (nN 1 24 h0)), .ref aC, .ref aT, .null, .null, .null, .null])), (aC, .inl (cI, ((nN 1 24 w0) * (nN 1 24 h0)), .inl (fun _ => 0))), (aT, .inl (cZ, ((nN 1 24 w0) + 1), .inl (fun _ => 0))), (aS, .inl (cI, 4, .inl (upd (upd (upd (upd (fun _ => 0) 0 (-16384)) 1 16384) 2 (-16384)) 3 16384)))] H := hP
  have hD : va_D A [(p0, .inr (1, [.int (nI (nN 1 24 w0)), .int (nI (nN 1 24 h0)), .ref aC, .ref aT, .null, .null, .null, .null])), (aC, .inl (cI, ((nN 1 24 w0) * (nN 1 24 h0)), .inl (fun _ => 0))), (aT, .inl (cZ, ((nN 1 24 w0) + 1), .inl (fun _ => 0))), (aS, .inl (cI, 4, .inl (upd (upd (upd (upd (fun _ => 0) 0 (-16384)) 1 16384) 2 (-16384)) 3 16384)))] := hD
  refine va_putF (D := D) (ci := 1) (v := .ref aS) (ty := .array .int) (C := RX1) (T := TX1) (N := 8) hx hb hts nX1_init_X1 tyX1 tyX1_ok nmX1 hown hK.1 hP hD hS 0 rfl rfl 4 (by decide) (hts (.fieldLink RX1 28 "PolygonFrame" "sides" "[I") (by decide +kernel)) (fun _ h9 => h9) rfl hin rfl (tyX1_ok 4 (by decide)) rfl rfl (Nat.le_of_ble_eq_true rfl) dX1_init_81 (fun H locs hP hD hS => ?_)
  have hP : va_P D vwCl [(p0, .inr (1, [.int (nI (nN 1 24 w0)), .int (nI (nN 1 24 h0)), .ref aC, .ref aT, .ref aS, .null, .null, .null])), (aC, .inl (cI, ((nN 1 24 w0) * (nN 1 24 h0)), .inl (fun _ => 0))), (aT, .inl (cZ, ((nN 1 24 w0) + 1), .inl (fun _ => 0))), (aS, .inl (cI, 4, .inl (upd (upd (upd (upd (fun _ => 0) 0 (-16384)) 1 16384) 2 (-16384)) 3 16384)))] H := hP
  have hD : va_D A [(p0, .inr (1, [.int (nI (nN 1 24 w0)), .int (nI (nN 1 24 h0)), .ref aC, .ref aT, .ref aS, .null, .null, .null])), (aC, .inl (cI, ((nN 1 24 w0) * (nN 1 24 h0)), .inl (fun _ => 0))), (aT, .inl (cZ, ((nN 1 24 w0) + 1), .inl (fun _ => 0))), (aS, .inl (cI, 4, .inl (upd (upd (upd (upd (fun _ => 0) 0 (-16384)) 1 16384) 2 (-16384)) 3 16384)))] := hD
  refine lv_iload_n hx hb dX1_init_84 rfl (lv_at hl 3 rfl) ?_
  refine lv_iconst (v := 3) hx hb dX1_init_85 (by decide) ?_
  refine lv_bipush (v := 60) hx hb dX1_init_86 (by decide) ?_
  refine rd_i (va_runS (As := [.int v0, .int 3, .int 60]) ⟨hx, hb, hml, hown, hts⟩ (kX1_nearest l D cI cZ v0 3 60) (va_cwS 3 hts gX1_init_X1_nearest rfl rfl rfl (by decide +kernel) ⟨Nat.le_of_ble_eq_true rfl, Nat.le_of_ble_eq_true rfl⟩) rd_pre0 rfl rfl hl.1 rfl (lv_room (Nat.le_of_ble_eq_true rfl)) dX1_init_88 ⟨Nat.le_of_ble_eq_true rfl, Nat.le_of_ble_eq_true rfl⟩) ?_
  refine q_eq ev ?_
  refine lv_istore (lv' := [(4, .int (nI (nN 3 60 v0))), (0, .ref p0), (1, .int w0), (2, .int h0), (3, .int v0)]) hx hb dX1_init_91 hl (by decide) rfl (fun ls hl => ?_)
  refine lv_aload_n hx hb dX1_init_93 rfl (lv_at hl 1 rfl) ?_
  refine va_new (ci := 0) (fs := [.null, .null, .int 0]) (C := RX0) (T := TX0) (N := 3) hx hb hts nX1_init_X0 tyX0 tyX0_ok hown (hts (.classLink RX1 31 RX0) (by decide +kernel)) (hts (.instantiable RX0 3) (by decide +kernel)) (hts (.initialized RX0) (by decide +kernel)) hK.1 hP hD hS hA rfl (fun j hj => by rcases (show j = 0 ∨ j = 1 ∨ j = 2 by omega) with rfl | rfl | rfl <;> rfl) (Nat.le_of_ble_eq_true rfl) (Nat.le_of_ble_eq_true rfl) dX1_init_94 (fun rP H hP hD hS => ?_)
  have hP : va_P D vwCl [(p0, .inr (1, [.int (nI (nN 1 24 w0)), .int (nI (nN 1 24 h0)), .ref aC, .ref aT, .ref aS, .null, .null, .null])), (aC, .inl (cI, ((nN 1 24 w0) * (nN 1 24 h0)), .inl (fun _ => 0))), (aT, .inl (cZ, ((nN 1 24 w0) + 1), .inl (fun _ => 0))), (aS, .inl (cI, 4, .inl (upd (upd (upd (upd (fun _ => 0) 0 (-16384)) 1 16384) 2 (-16384)) 3 16384))), (rP, .inr (0, [.null, .null, .int 0]))] H := hP
  have hD : va_D A [(p0, .inr (1, [.int (nI (nN 1 24 w0)), .int (nI (nN 1 24 h0)), .ref aC, .ref aT, .ref aS, .null, .null, .null])), (aC, .inl (cI, ((nN 1 24 w0) * (nN 1 24 h0)), .inl (fun _ => 0))), (aT, .inl (cZ, ((nN 1 24 w0) + 1), .inl (fun _ => 0))), (aS, .inl (cI, 4, .inl (upd (upd (upd (upd (fun _ => 0) 0 (-16384)) 1 16384) 2 (-16384)) 3 16384))), (rP, .inr (0, [.null, .null, .int 0]))] := hD
  refine W.widen (k := 4) (n := 608) (by omega) (by omega) ?_
  refine lv_dup hx hb dX1_init_97 rfl ?_
  refine lv_iload hx hb dX1_init_98 (lv_at hl 0 rfl) ?_
  refine wr_v (wr := [(p0, .inr (1, [.int (nI (nN 1 24 w0)), .int (nI (nN 1 24 h0)), .ref aC, .ref aT, .ref aS, .null, .null, .null])), (aC, .inl (cI, ((nN 1 24 w0) * (nN 1 24 h0)), .inl (fun _ => 0))), (aT, .inl (cZ, ((nN 1 24 w0) + 1), .inl (fun _ => 0))), (aS, .inl (cI, 4, .inl (upd (upd (upd (upd (fun _ => 0) 0 (-16384)) 1 16384) 2 (-16384)) 3 16384)))]) hP hD hS hA [4] [0, 1, 2, 3] rfl rfl (by decide) (by decide) (va_runIN (As := [.int (nI (nN 3 60 v0))]) ⟨hx, hb, hml, hown, hts⟩ (kX0_init l D cI cZ H.size rP (nN 3 60 v0) hv2) ⟨va_cnB 1 hts gX1_init_X0_init_n33 rfl rfl rfl hK.2.2.2.2.1 (hts (.initialized RX0) (by decide +kernel)) (by decide +kernel) ⟨Nat.le_of_ble_eq_true rfl, Nat.le_of_ble_eq_true rfl⟩, rfl, hts (.instanceMethod yX0_init) (by decide +kernel)⟩ (wr_pre (hP.sub [4] rfl) hK (hD.sub [4] (by decide) rfl)) rfl rfl hl.1 rfl (lv_room (Nat.le_of_ble_eq_true rfl)) dX1_init_100 ⟨Nat.le_of_ble_eq_true rfl, Nat.le_of_ble_eq_true rfl⟩) (fun u1 H locs hu1 hP hD hS => ?_)
  replace hP : va_P D vwCl [(p0, .inr (1, [.int (nI (nN 1 24 w0)), .int (nI (nN 1 24 h0)), .ref aC, .ref aT, .ref aS, .null, .null, .null])), (aC, .inl (cI, ((nN 1 24 w0) * (nN 1 24 h0)), .inl (fun _ => 0))), (aT, .inl (cZ, ((nN 1 24 w0) + 1), .inl (fun _ => 0))), (aS, .inl (cI, 4, .inl (upd (upd (upd (upd (fun _ => 0) 0 (-16384)) 1 16384) 2 (-16384)) 3 16384))), (rP, .inr (0, [.ref u1.1, .ref u1.2, .int 0])), (u1.1, .inl (cI, (nN 3 60 v0), .inl (fun _ => 0))), (u1.2, .inl (cI, (nN 3 60 v0), .inl (fun _ => 0)))] H := hP.sub [0, 1, 2, 3, 4, 5, 6] rfl
  replace hD : va_D A [(p0, .inr (1, [.int (nI (nN 1 24 w0)), .int (nI (nN 1 24 h0)), .ref aC, .ref aT, .ref aS, .null, .null, .null])), (aC, .inl (cI, ((nN 1 24 w0) * (nN 1 24 h0)), .inl (fun _ => 0))), (aT, .inl (cZ, ((nN 1 24 w0) + 1), .inl (fun _ => 0))), (aS, .inl (cI, 4, .inl (upd (upd (upd (upd (fun _ => 0) 0 (-16384)) 1 16384) 2 (-16384)) 3 16384))), (rP, .inr (0, [.ref u1.1, .ref u1.2, .int 0])), (u1.1, .inl (cI, (nN 3 60 v0), .inl (fun _ => 0))), (u1.2, .inl (cI, (nN 3 60 v0), .inl (fun _ => 0)))] := hD.sub [0, 1, 2, 3, 4, 5, 6] (by decide) rfl
  refine W.widen (k := 6) (n := 728) (by omega) (by omega) ?_
  refine va_put (D := D) (ci := 1) (v := .ref rP) (ty := .object "PolygonFrame$Ring") (C := RX1) (T := TX1) (N := 8) hx hb hts nX1_init_X1 tyX1 tyX1_ok nmX1 hown hK.1 hP hD hS 0 rfl rfl 5 (by decide) (hts (.fieldLink RX1 36 "PolygonFrame" "polygon" "LPolygonFrame$Ring;") (by decide +kernel)) (fun _ h9 => h9) rfl (tyX1_ok 5 (by decide)) rfl rfl (Nat.le_of_ble_eq_true rfl) dX1_init_103 (fun H locs hP hD hS => ?_)
  have hP : va_P D vwCl [(p0, .inr (1, [.int (nI (nN 1 24 w0)), .int (nI (nN 1 24 h0)), .ref aC, .ref aT, .ref aS, .ref rP, .null, .null])), (aC, .inl (cI, ((nN 1 24 w0) * (nN 1 24 h0)), .inl (fun _ => 0))), (aT, .inl (cZ, ((nN 1 24 w0) + 1), .inl (fun _ => 0))), (aS, .inl (cI, 4, .inl (upd (upd (upd (upd (fun _ => 0) 0 (-16384)) 1 16384) 2 (-16384)) 3 16384))), (rP, .inr (0, [.ref u1.1, .ref u1.2, .int 0])), (u1.1, .inl (cI, (nN 3 60 v0), .inl (fun _ => 0))), (u1.2, .inl (cI, (nN 3 60 v0), .inl (fun _ => 0)))] H := hP
  have hD : va_D A [(p0, .inr (1, [.int (nI (nN 1 24 w0)), .int (nI (nN 1 24 h0)), .ref aC, .ref aT, .ref aS, .ref rP, .null, .null])), (aC, .inl (cI, ((nN 1 24 w0) * (nN 1 24 h0)), .inl (fun _ => 0))), (aT, .inl (cZ, ((nN 1 24 w0) + 1), .inl (fun _ => 0))), (aS, .inl (cI, 4, .inl (upd (upd (upd (upd (fun _ => 0) 0 (-16384)) 1 16384) 2 (-16384)) 3 16384))), (rP, .inr (0, [.ref u1.1, .ref u1.2, .int 0])), (u1.1, .inl (cI, (nN 3 60 v0), .inl (fun _ => 0))), (u1.2, .inl (cI, (nN 3 60 v0), .inl (fun _ => 0)))] := hD
  refine lv_aload_n hx hb dX1_init_106 rfl (lv_at hl 1 rfl) ?_
  refine va_new (ci := 0) (fs := [.null, .null, .int 0]) (C := RX0) (T := TX0) (N := 3) hx hb hts nX1_init_X0 tyX0 tyX0_ok hown (hts (.classLink RX1 31 RX0) (by decide +kernel)) (hts (.instantiable RX0 3) (by decide +kernel)) (hts (.initialized RX0) (by decide +kernel)) hK.1 hP hD hS hA rfl (fun j hj => by rcases (show j = 0 ∨ j = 1 ∨ j = 2 by omega) with rfl | rfl | rfl <;> rfl) (Nat.le_of_ble_eq_true rfl) (Nat.le_of_ble_eq_true rfl) dX1_init_107 (fun rO H hP hD hS => ?_)
  have hP : va_P D vwCl [(p0, .inr (1, [.int (nI (nN 1 24 w0)), .int (nI (nN 1 24 h0)), .ref aC, .ref aT, .ref aS, .ref rP, .null, .null])), (aC, .inl (cI, ((nN 1 24 w0) * (nN 1 24 h0)), .inl (fun _ => 0))), (aT, .inl (cZ, ((nN 1 24 w0) + 1), .inl (fun _ => 0))), (aS, .inl (cI, 4, .inl (upd (upd (upd (upd (fun _ => 0) 0 (-16384)) 1 16384) 2 (-16384)) 3 16384))), (rP, .inr (0, [.ref u1.1, .ref u1.2, .int 0])), (u1.1, .inl (cI, (nN 3 60 v0), .inl (fun _ => 0))), (u1.2, .inl (cI, (nN 3 60 v0), .inl (fun _ => 0))), (rO, .inr (0, [.null, .null, .int 0]))] H := hP
  have hD : va_D A [(p0, .inr (1, [.int (nI (nN 1 24 w0)), .int (nI (nN 1 24 h0)), .ref aC, .ref aT, .ref aS, .ref rP, .null, .null])), (aC, .inl (cI, ((nN 1 24 w0) * (nN 1 24 h0)), .inl (fun _ => 0))), (aT, .inl (cZ, ((nN 1 24 w0) + 1), .inl (fun _ => 0))), (aS, .inl (cI, 4, .inl (upd (upd (upd (upd (fun _ => 0) 0 (-16384)) 1 16384) 2 (-16384)) 3 16384))), (rP, .inr (0, [.ref u1.1, .ref u1.2, .int 0])), (u1.1, .inl (cI, (nN 3 60 v0), .inl (fun _ => 0))), (u1.2, .inl (cI, (nN 3 60 v0), .inl (fun _ => 0))), (rO, .inr (0, [.null, .null, .int 0]))] := hD
  refine W.widen (k := 7) (n := 731) (by omega) (by omega) ?_
  refine lv_dup hx hb dX1_init_110 rfl ?_
  refine lv_iload hx hb dX1_init_111 (lv_at hl 0 rfl) ?_
  refine wr_v (wr := [(p0, .inr (1, [.int (nI (nN 1 24 w0)), .int (nI (nN 1 24 h0)), .ref aC, .ref aT, .ref aS, .ref rP, .null, .null])), (aC, .inl (cI, ((nN 1 24 w0) * (nN 1 24 h0)), .inl (fun _ => 0))), (aT, .inl (cZ, ((nN 1 24 w0) + 1), .inl (fun _ => 0))), (aS, .inl (cI, 4, .inl (upd (upd (upd (upd (fun _ => 0) 0 (-16384)) 1 16384) 2 (-16384)) 3 16384))), (rP, .inr (0, [.ref u1.1, .ref u1.2, .int 0])), (u1.1, .inl (cI, (nN 3 60 v0), .inl (fun _ => 0))), (u1.2, .inl (cI, (nN 3 60 v0), .inl (fun _ => 0)))]) hP hD hS hA [7] [0, 1, 2, 3, 4, 5, 6] rfl rfl (by decide) (by decide) (va_runIN (As := [.int (nI (nN 3 60 v0))]) ⟨hx, hb, hml, hown, hts⟩ (kX0_init l D cI cZ H.size rO (nN 3 60 v0) hv2) ⟨va_cnB 1 hts gX1_init_X0_init_n33 rfl rfl rfl hK.2.2.2.2.1 (hts (.initialized RX0) (by decide +kernel)) (by decide +kernel) ⟨Nat.le_of_ble_eq_true rfl, Nat.le_of_ble_eq_true rfl⟩, rfl, hts (.instanceMethod yX0_init) (by decide +kernel)⟩ (wr_pre (hP.sub [7] rfl) hK (hD.sub [7] (by decide) rfl)) rfl rfl hl.1 rfl (lv_room (Nat.le_of_ble_eq_true rfl)) dX1_init_113 ⟨Nat.le_of_ble_eq_true rfl, Nat.le_of_ble_eq_true rfl⟩) (fun u2 H locs hu2 hP hD hS => ?_)
  replace hP : va_P D vwCl [(p0, .inr (1, [.int (nI (nN 1 24 w0)), .int (nI (nN 1 24 h0)), .ref aC, .ref aT, .ref aS, .ref rP, .null, .null])), (aC, .inl (cI, ((nN 1 24 w0) * (nN 1 24 h0)), .inl (fun _ => 0))), (aT, .inl (cZ, ((nN 1 24 w0) + 1), .inl (fun _ => 0))), (aS, .inl (cI, 4, .inl (upd (upd (upd (upd (fun _ => 0) 0 (-16384)) 1 16384) 2 (-16384)) 3 16384))), (rP, .inr (0, [.ref u1.1, .ref u1.2, .int 0])), (u1.1, .inl (cI, (nN 3 60 v0), .inl (fun _ => 0))), (u1.2, .inl (cI, (nN 3 60 v0), .inl (fun _ => 0))), (rO, .inr (0, [.ref u2.1, .ref u2.2, .int 0])), (u2.1, .inl (cI, (nN 3 60 v0), .inl (fun _ => 0))), (u2.2, .inl (cI, (nN 3 60 v0), .inl (fun _ => 0)))] H := hP.sub [0, 1, 2, 3, 4, 5, 6, 7, 8, 9] rfl
  replace hD : va_D A [(p0, .inr (1, [.int (nI (nN 1 24 w0)), .int (nI (nN 1 24 h0)), .ref aC, .ref aT, .ref aS, .ref rP, .null, .null])), (aC, .inl (cI, ((nN 1 24 w0) * (nN 1 24 h0)), .inl (fun _ => 0))), (aT, .inl (cZ, ((nN 1 24 w0) + 1), .inl (fun _ => 0))), (aS, .inl (cI, 4, .inl (upd (upd (upd (upd (fun _ => 0) 0 (-16384)) 1 16384) 2 (-16384)) 3 16384))), (rP, .inr (0, [.ref u1.1, .ref u1.2, .int 0])), (u1.1, .inl (cI, (nN 3 60 v0), .inl (fun _ => 0))), (u1.2, .inl (cI, (nN 3 60 v0), .inl (fun _ => 0))), (rO, .inr (0, [.ref u2.1, .ref u2.2, .int 0])), (u2.1, .inl (cI, (nN 3 60 v0), .inl (fun _ => 0))), (u2.2, .inl (cI, (nN 3 60 v0), .inl (fun _ => 0)))] := hD.sub [0, 1, 2, 3, 4, 5, 6, 7, 8, 9] (by decide) rfl
  refine W.widen (k := 9) (n := 851) (by omega) (by omega) ?_
  refine va_putF (D := D) (ci := 1) (v := .ref rO) (ty := .object "PolygonFrame$Ring") (C := RX1) (T := TX1) (N := 8) hx hb hts nX1_init_X1 tyX1 tyX1_ok nmX1 hown hK.1 hP hD hS 0 rfl rfl 6 (by decide) (hts (.fieldLink RX1 40 "PolygonFrame" "oddPasses" "LPolygonFrame$Ring;") (by decide +kernel)) (fun _ h9 => h9) rfl hin rfl (tyX1_ok 6 (by decide)) rfl rfl (Nat.le_of_ble_eq_true rfl) dX1_init_116 (fun H locs hP hD hS => ?_)
  have hP : va_P D vwCl [(p0, .inr (1, [.int (nI (nN 1 24 w0)), .int (nI (nN 1 24 h0)), .ref aC, .ref aT, .ref aS, .ref rP, .ref rO, .null])), (aC, .inl (cI, ((nN 1 24 w0) * (nN 1 24 h0)), .inl (fun _ => 0))), (aT, .inl (cZ, ((nN 1 24 w0) + 1), .inl (fun _ => 0))), (aS, .inl (cI, 4, .inl (upd (upd (upd (upd (fun _ => 0) 0 (-16384)) 1 16384) 2 (-16384)) 3 16384))), (rP, .inr (0, [.ref u1.1, .ref u1.2, .int 0])), (u1.1, .inl (cI, (nN 3 60 v0), .inl (fun _ => 0))), (u1.2, .inl (cI, (nN 3 60 v0), .inl (fun _ => 0))), (rO, .inr (0, [.ref u2.1, .ref u2.2, .int 0])), (u2.1, .inl (cI, (nN 3 60 v0), .inl (fun _ => 0))), (u2.2, .inl (cI, (nN 3 60 v0), .inl (fun _ => 0)))] H := hP
  have hD : va_D A [(p0, .inr (1, [.int (nI (nN 1 24 w0)), .int (nI (nN 1 24 h0)), .ref aC, .ref aT, .ref aS, .ref rP, .ref rO, .null])), (aC, .inl (cI, ((nN 1 24 w0) * (nN 1 24 h0)), .inl (fun _ => 0))), (aT, .inl (cZ, ((nN 1 24 w0) + 1), .inl (fun _ => 0))), (aS, .inl (cI, 4, .inl (upd (upd (upd (upd (fun _ => 0) 0 (-16384)) 1 16384) 2 (-16384)) 3 16384))), (rP, .inr (0, [.ref u1.1, .ref u1.2, .int 0])), (u1.1, .inl (cI, (nN 3 60 v0), .inl (fun _ => 0))), (u1.2, .inl (cI, (nN 3 60 v0), .inl (fun _ => 0))), (rO, .inr (0, [.ref u2.1, .ref u2.2, .int 0])), (u2.1, .inl (cI, (nN 3 60 v0), .inl (fun _ => 0))), (u2.2, .inl (cI, (nN 3 60 v0), .inl (fun _ => 0)))] := hD
  refine lv_aload_n hx hb dX1_init_119 rfl (lv_at hl 1 rfl) ?_
  refine va_new (ci := 0) (fs := [.null, .null, .int 0]) (C := RX0) (T := TX0) (N := 3) hx hb hts nX1_init_X0 tyX0 tyX0_ok hown (hts (.classLink RX1 31 RX0) (by decide +kernel)) (hts (.instantiable RX0 3) (by decide +kernel)) (hts (.initialized RX0) (by decide +kernel)) hK.1 hP hD hS hA rfl (fun j hj => by rcases (show j = 0 ∨ j = 1 ∨ j = 2 by omega) with rfl | rfl | rfl <;> rfl) (Nat.le_of_ble_eq_true rfl) (Nat.le_of_ble_eq_true rfl) dX1_init_120 (fun rE H hP hD hS => ?_)
  have hP : va_P D vwCl [(p0, .inr (1, [.int (nI (nN 1 24 w0)), .int (nI (nN 1 24 h0)), .ref aC, .ref aT, .ref aS, .ref rP, .ref rO, .null])), (aC, .inl (cI, ((nN 1 24 w0) * (nN 1 24 h0)), .inl (fun _ => 0))), (aT, .inl (cZ, ((nN 1 24 w0) + 1), .inl (fun _ => 0))), (aS, .inl (cI, 4, .inl (upd (upd (upd (upd (fun _ => 0) 0 (-16384)) 1 16384) 2 (-16384)) 3 16384))), (rP, .inr (0, [.ref u1.1, .ref u1.2, .int 0])), (u1.1, .inl (cI, (nN 3 60 v0), .inl (fun _ => 0))), (u1.2, .inl (cI, (nN 3 60 v0), .inl (fun _ => 0))), (rO, .inr (0, [.ref u2.1, .ref u2.2, .int 0])), (u2.1, .inl (cI, (nN 3 60 v0), .inl (fun _ => 0))), (u2.2, .inl (cI, (nN 3 60 v0), .inl (fun _ => 0))), (rE, .inr (0, [.null, .null, .int 0]))] H := hP
  have hD : va_D A [(p0, .inr (1, [.int (nI (nN 1 24 w0)), .int (nI (nN 1 24 h0)), .ref aC, .ref aT, .ref aS, .ref rP, .ref rO, .null])), (aC, .inl (cI, ((nN 1 24 w0) * (nN 1 24 h0)), .inl (fun _ => 0))), (aT, .inl (cZ, ((nN 1 24 w0) + 1), .inl (fun _ => 0))), (aS, .inl (cI, 4, .inl (upd (upd (upd (upd (fun _ => 0) 0 (-16384)) 1 16384) 2 (-16384)) 3 16384))), (rP, .inr (0, [.ref u1.1, .ref u1.2, .int 0])), (u1.1, .inl (cI, (nN 3 60 v0), .inl (fun _ => 0))), (u1.2, .inl (cI, (nN 3 60 v0), .inl (fun _ => 0))), (rO, .inr (0, [.ref u2.1, .ref u2.2, .int 0])), (u2.1, .inl (cI, (nN 3 60 v0), .inl (fun _ => 0))), (u2.2, .inl (cI, (nN 3 60 v0), .inl (fun _ => 0))), (rE, .inr (0, [.null, .null, .int 0]))] := hD
  refine W.widen (k := 10) (n := 854) (by omega) (by omega) ?_
  refine lv_dup hx hb dX1_init_123 rfl ?_
  refine lv_iload hx hb dX1_init_124 (lv_at hl 0 rfl) ?_
  refine wr_v (wr := [(p0, .inr (1, [.int (nI (nN 1 24 w0)), .int (nI (nN 1 24 h0)), .ref aC, .ref aT, .ref aS, .ref rP, .ref rO, .null])), (aC, .inl (cI, ((nN 1 24 w0) * (nN 1 24 h0)), .inl (fun _ => 0))), (aT, .inl (cZ, ((nN 1 24 w0) + 1), .inl (fun _ => 0))), (aS, .inl (cI, 4, .inl (upd (upd (upd (upd (fun _ => 0) 0 (-16384)) 1 16384) 2 (-16384)) 3 16384))), (rP, .inr (0, [.ref u1.1, .ref u1.2, .int 0])), (u1.1, .inl (cI, (nN 3 60 v0), .inl (fun _ => 0))), (u1.2, .inl (cI, (nN 3 60 v0), .inl (fun _ => 0))), (rO, .inr (0, [.ref u2.1, .ref u2.2, .int 0])), (u2.1, .inl (cI, (nN 3 60 v0), .inl (fun _ => 0))), (u2.2, .inl (cI, (nN 3 60 v0), .inl (fun _ => 0)))]) hP hD hS hA [10] [0, 1, 2, 3, 4, 5, 6, 7, 8, 9] rfl rfl (by decide) (by decide) (va_runIN (As := [.int (nI (nN 3 60 v0))]) ⟨hx, hb, hml, hown, hts⟩ (kX0_init l D cI cZ H.size rE (nN 3 60 v0) hv2) ⟨va_cnB 1 hts gX1_init_X0_init_n33 rfl rfl rfl hK.2.2.2.2.1 (hts (.initialized RX0) (by decide +kernel)) (by decide +kernel) ⟨Nat.le_of_ble_eq_true rfl, Nat.le_of_ble_eq_true rfl⟩, rfl, hts (.instanceMethod yX0_init) (by decide +kernel)⟩ (wr_pre (hP.sub [10] rfl) hK (hD.sub [10] (by decide) rfl)) rfl rfl hl.1 rfl (lv_room (Nat.le_of_ble_eq_true rfl)) dX1_init_126 ⟨Nat.le_of_ble_eq_true rfl, Nat.le_of_ble_eq_true rfl⟩) (fun u3 H locs hu3 hP hD hS => ?_)
  replace hP : va_P D vwCl [(p0, .inr (1, [.int (nI (nN 1 24 w0)), .int (nI (nN 1 24 h0)), .ref aC, .ref aT, .ref aS, .ref rP, .ref rO, .null])), (aC, .inl (cI, ((nN 1 24 w0) * (nN 1 24 h0)), .inl (fun _ => 0))), (aT, .inl (cZ, ((nN 1 24 w0) + 1), .inl (fun _ => 0))), (aS, .inl (cI, 4, .inl (upd (upd (upd (upd (fun _ => 0) 0 (-16384)) 1 16384) 2 (-16384)) 3 16384))), (rP, .inr (0, [.ref u1.1, .ref u1.2, .int 0])), (u1.1, .inl (cI, (nN 3 60 v0), .inl (fun _ => 0))), (u1.2, .inl (cI, (nN 3 60 v0), .inl (fun _ => 0))), (rO, .inr (0, [.ref u2.1, .ref u2.2, .int 0])), (u2.1, .inl (cI, (nN 3 60 v0), .inl (fun _ => 0))), (u2.2, .inl (cI, (nN 3 60 v0), .inl (fun _ => 0))), (rE, .inr (0, [.ref u3.1, .ref u3.2, .int 0])), (u3.1, .inl (cI, (nN 3 60 v0), .inl (fun _ => 0))), (u3.2, .inl (cI, (nN 3 60 v0), .inl (fun _ => 0)))] H := hP.sub [0, 1, 2, 3, 4, 5, 6, 7, 8, 9, 10, 11, 12] rfl
  replace hD : va_D A [(p0, .inr (1, [.int (nI (nN 1 24 w0)), .int (nI (nN 1 24 h0)), .ref aC, .ref aT, .ref aS, .ref rP, .ref rO, .null])), (aC, .inl (cI, ((nN 1 24 w0) * (nN 1 24 h0)), .inl (fun _ => 0))), (aT, .inl (cZ, ((nN 1 24 w0) + 1), .inl (fun _ => 0))), (aS, .inl (cI, 4, .inl (upd (upd (upd (upd (fun _ => 0) 0 (-16384)) 1 16384) 2 (-16384)) 3 16384))), (rP, .inr (0, [.ref u1.1, .ref u1.2, .int 0])), (u1.1, .inl (cI, (nN 3 60 v0), .inl (fun _ => 0))), (u1.2, .inl (cI, (nN 3 60 v0), .inl (fun _ => 0))), (rO, .inr (0, [.ref u2.1, .ref u2.2, .int 0])), (u2.1, .inl (cI, (nN 3 60 v0), .inl (fun _ => 0))), (u2.2, .inl (cI, (nN 3 60 v0), .inl (fun _ => 0))), (rE, .inr (0, [.ref u3.1, .ref u3.2, .int 0])), (u3.1, .inl (cI, (nN 3 60 v0), .inl (fun _ => 0))), (u3.2, .inl (cI, (nN 3 60 v0), .inl (fun _ => 0)))] := hD.sub [0, 1, 2, 3, 4, 5, 6, 7, 8, 9, 10, 11, 12] (by decide) rfl
  refine W.widen (k := 12) (n := 974) (by omega) (by omega) ?_
  refine va_put (D := D) (ci := 1) (v := .ref rE) (ty := .object "PolygonFrame$Ring") (C := RX1) (T := TX1) (N := 8) hx hb hts nX1_init_X1 tyX1 tyX1_ok nmX1 hown hK.1 hP hD hS 0 rfl rfl 7 (by decide) (hts (.fieldLink RX1 43 "PolygonFrame" "evenPasses" "LPolygonFrame$Ring;") (by decide +kernel)) (fun _ h9 => h9) rfl (tyX1_ok 7 (by decide)) rfl rfl (Nat.le_of_ble_eq_true rfl) dX1_init_129 (fun H locs hP hD hS => ?_)
  have hP : va_P D vwCl [(p0, .inr (1, [.int (nI (nN 1 24 w0)), .int (nI (nN 1 24 h0)), .ref aC, .ref aT, .ref aS, .ref rP, .ref rO, .ref rE])), (aC, .inl (cI, ((nN 1 24 w0) * (nN 1 24 h0)), .inl (fun _ => 0))), (aT, .inl (cZ, ((nN 1 24 w0) + 1), .inl (fun _ => 0))), (aS, .inl (cI, 4, .inl (upd (upd (upd (upd (fun _ => 0) 0 (-16384)) 1 16384) 2 (-16384)) 3 16384))), (rP, .inr (0, [.ref u1.1, .ref u1.2, .int 0])), (u1.1, .inl (cI, (nN 3 60 v0), .inl (fun _ => 0))), (u1.2, .inl (cI, (nN 3 60 v0), .inl (fun _ => 0))), (rO, .inr (0, [.ref u2.1, .ref u2.2, .int 0])), (u2.1, .inl (cI, (nN 3 60 v0), .inl (fun _ => 0))), (u2.2, .inl (cI, (nN 3 60 v0), .inl (fun _ => 0))), (rE, .inr (0, [.ref u3.1, .ref u3.2, .int 0])), (u3.1, .inl (cI, (nN 3 60 v0), .inl (fun _ => 0))), (u3.2, .inl (cI, (nN 3 60 v0), .inl (fun _ => 0)))] H := hP
  have hD : va_D A [(p0, .inr (1, [.int (nI (nN 1 24 w0)), .int (nI (nN 1 24 h0)), .ref aC, .ref aT, .ref aS, .ref rP, .ref rO, .ref rE])), (aC, .inl (cI, ((nN 1 24 w0) * (nN 1 24 h0)), .inl (fun _ => 0))), (aT, .inl (cZ, ((nN 1 24 w0) + 1), .inl (fun _ => 0))), (aS, .inl (cI, 4, .inl (upd (upd (upd (upd (fun _ => 0) 0 (-16384)) 1 16384) 2 (-16384)) 3 16384))), (rP, .inr (0, [.ref u1.1, .ref u1.2, .int 0])), (u1.1, .inl (cI, (nN 3 60 v0), .inl (fun _ => 0))), (u1.2, .inl (cI, (nN 3 60 v0), .inl (fun _ => 0))), (rO, .inr (0, [.ref u2.1, .ref u2.2, .int 0])), (u2.1, .inl (cI, (nN 3 60 v0), .inl (fun _ => 0))), (u2.2, .inl (cI, (nN 3 60 v0), .inl (fun _ => 0))), (rE, .inr (0, [.ref u3.1, .ref u3.2, .int 0])), (u3.1, .inl (cI, (nN 3 60 v0), .inl (fun _ => 0))), (u3.2, .inl (cI, (nN 3 60 v0), .inl (fun _ => 0)))] := hD
  refine W.widen (k := 12) (n := 1000) (by omega) (by omega) ?_
  exact W.vret hx hb hr (fun t ht hW => ⟨⟨(aC, aT, aS, rP, u1.1, u1.2, rO, u2.1, u2.2, rE, u3.1, u3.2), rfl, trivial, by rw [ht]; exact hP, by rw [hAe]; exact hD⟩, hS.F ht⟩) hS.2.2 dX1_init_132
theorem nX2_init_X2 : ∀ w ∈ wsX20, w ∈ wsX2_init := fun w h => List.mem_cons_of_mem _ (List.mem_append_right _ h)
set_option maxHeartbeats 4000000 in
set_option maxRecDepth 100000 in
theorem kX2_init (l : Launch) (D : va_G) (cI cZ : ClassId) (sz : Nat) (m0 : Nat) (w0 h0 v0 : Int32)  : Met l yX2_init wsX2_init ({ frames := 1, cells := 7, slots := 1000, locals := 60 }) (va_Pc [.ref m0, .int w0, .int h0, .int v0] (wrP D cI cZ sz [(m0, .inr (2, [.int 0, .int 0, .int 0, .null, .null, .null, .int 0, .null, .null, .null, .null, .int 0, .int 0, .int 0, .int 0, .int 0, .int 0]))])) (va_Qv (S := Nat × Nat × Nat × Nat × Nat × Nat × Nat) (fun _ => True) (wrB D [(m0, .inr (2, [.int 0, .int 0, .int 0, .null, .null, .null, .int 0, .null, .null, .null, .null, .int 0, .int 0, .int 0, .int 0, .int 0, .int 0]))] sz (fun u => [(m0, .inr (2, [.int (nI (nN 1 24 w0)), .int (nI (nN 1 24 h0)), .int (nI (nN 3 60 v0)), .ref u.1, .ref u.2.1, .ref u.2.2.1, .int 0, .ref u.2.2.2.1, .ref u.2.2.2.2.1, .ref u.2.2.2.2.2.1, .ref u.2.2.2.2.2.2, .int 0, .int 0, .int (-16384), .int 16384, .int (-16384), .int 16384])), (u.1, .inl (cI, 576, .inl (fun _ => 0))), (u.2.1, .inl (cI, 60, .inl (fun _ => 0))), (u.2.2.1, .inl (cI, 60, .inl (fun _ => 0))), (u.2.2.2.1, .inl (cI, 60, .inl (fun _ => 0))), (u.2.2.2.2.1, .inl (cI, 60, .inl (fun _ => 0))), (u.2.2.2.2.2.1, .inl (cI, 60, .inl (fun _ => 0))), (u.2.2.2.2.2.2, .inl (cI, 60, .inl (fun _ => 0)))])) (va_A [(m0, .inr (2, [.int 0, .int 0, .int 0, .null, .null, .null, .int 0, .null, .null, .null, .null, .int 0, .int 0, .int 0, .int 0, .int 0, .int 0]))] sz)) 7 1000 (va_A [(m0, .inr (2, [.int 0, .int 0, .int 0, .null, .null, .null, .int 0, .null, .null, .null, .null, .int 0, .int 0, .int 0, .int 0, .int 0, .int 0]))] sz) := by
  refine Met.ofW (cc := cX2_init) (maxL := 4) (ret := none) (by decide) rfl ?_
  intro p e s m args below meth c s₁ B hml hv
  obtain ⟨rfl, hsz, hP, hK, hD0⟩ := hv
  have hx := B.exec
  have hb := B.bytes
  have hr := B.returns
  have hts := atoms_spec (ws := wsX2_init) B.pre
  have hown : s.vm.findClass RX2 = some m.cls := findClass_of_methodNamed B.named
  have hlocks := B.notSynchronized
  have hin : meth.name = "<init>" := (name_of_methodNamed B.named B.method).1
  subst hsz
  have hD := hD0.self (sz := s.heap.size)
  generalize hAe : va_A [(m0, .inr (2, [.int 0, .int 0, .int 0, .null, .null, .null, .int 0, .null, .null, .null, .null, .int 0, .int 0, .int 0, .int 0, .int 0, .int 0]))] s.heap.size = A at hD ⊢
  have hA : ∀ q : Nat, s.heap.size ≤ q → A q := fun q h => by rw [← hAe]; exact Or.inr h
  have hS : va_S A s.heap s.heap [] := va_S.rf
  have hP : va_P D vwCl [(m0, .inr (2, [.int 0, .int 0, .int 0, .null, .null, .null, .int 0, .null, .null, .null, .null, .int 0, .int 0, .int 0, .int 0, .int 0, .int 0]))] s.heap := hP
  have hl := lv_entry ([.ref m0, .int w0, .int h0, .int v0]) (n := 4) (Nat.le_of_ble_eq_true rfl)
  rw [lg_entry_eq]
  generalize (lg_sl ([.ref m0, .int w0, .int h0, .int v0]) ++ List.replicate (4 - (lg_sl ([.ref m0, .int w0, .int h0, .int v0])).length) Slot.unset).toArray = ls at hl ⊢
  have hl : lv_has ls 4 [(0, .ref m0), (1, .int w0), (2, .int h0), (3, .int v0)] := hl
  obtain ⟨ew, hw1, hw2⟩ := nN_ok (lo := 1) (hi := 24) (by decide) (by decide) w0
  obtain ⟨eh, hh1, hh2⟩ := nN_ok (lo := 1) (hi := 24) (by decide) (by decide) h0
  obtain ⟨ev, hv1, hv2⟩ := nN_ok (lo := 3) (hi := 60) (by decide) (by decide) v0
  refine lv_aload_n hx hb dX2_init_0 rfl (lv_at hl 0 rfl) ?_
  refine W.objInit hx hb hown (hts (.methodLink RX2 1 objectInit) (by decide +kernel)) (hts (.instanceMethod objectInit) (by decide +kernel)) (hts _ (List.mem_cons_of_mem _ (List.mem_append_left _ (List.mem_of_getElem? (i := 2) rfl)))) rfl (by rw [hml]; exact hl.1) rfl dX2_init_1 (Nat.le_of_ble_eq_true rfl) (Nat.le_of_ble_eq_true rfl) ?_
  refine W.eq (g2 := F0 m 4 ls []) rfl ?_
  refine lv_aload_n hx hb dX2_init_4 rfl (lv_at hl 0 rfl) ?_
  refine lv_sipush (v := 576) hx hb dX2_init_5 (by decide) ?_
  refine va_newa (atype := .int) (ty := .int) (N' := 576) (a0 := (576, .inl (fun _ => 0))) hx hb (hts (.arrayClass .int) (by decide +kernel)) rfl hK.1 hP hD hS hA (fun _ => rfl) (by decide) rfl (by decide) (Nat.le_of_ble_eq_true rfl) (Nat.le_of_ble_eq_true rfl) dX2_init_8 (fun aP cA H hK2 hP hD hS => ?_)
  rw [pK.int hK2] at hP hD
  have hP : va_P D vwCl [(m0, .inr (2, [.int 0, .int 0, .int 0, .null, .null, .null, .int 0, .null, .null, .null, .null, .int 0, .int 0, .int 0, .int 0, .int 0, .int 0])), (aP, .inl (cI, 576, .inl (fun _ => 0)))] H := hP
  have hD : va_D A [(m0, .inr (2, [.int 0, .int 0, .int 0, .null, .null, .null, .int 0, .null, .null, .null, .null, .int 0, .int 0, .int 0, .int 0, .int 0, .int 0])), (aP, .inl (cI, 576, .inl (fun _ => 0)))] := hD
  refine W.widen (k := 1) (n := 576) (by omega) (by omega) ?_
  refine va_putF (D := D) (ci := 2) (v := .ref aP) (ty := .array .int) (C := RX2) (T := TX2) (N := 17) hx hb hts nX2_init_X2 tyX2 tyX2_ok nmX2 hown hK.1 hP hD hS 0 rfl rfl 3 (by decide) (hts (.fieldLink RX2 7 "PolygonFrameModel" "pixels" "[I") (by decide +kernel)) (fun _ h9 => h9) rfl hin rfl (tyX2_ok 3 (by decide)) rfl rfl (Nat.le_of_ble_eq_true rfl) dX2_init_10 (fun H locs hP hD hS => ?_)
  have hP : va_P D vwCl [(m0, .inr (2, [.int 0, .int 0, .int 0, .ref aP, .null, .null, .int 0, .null, .null, .null, .null, .int 0, .int 0, .int 0, .int 0, .int 0, .int 0])), (aP, .inl (cI, 576, .inl (fun _ => 0)))] H := hP
  have hD : va_D A [(m0, .inr (2, [.int 0, .int 0, .int 0, .ref aP, .null, .null, .int 0, .null, .null, .null, .null, .int 0, .int 0, .int 0, .int 0, .int 0, .int 0])), (aP, .inl (cI, 576, .inl (fun _ => 0)))] := hD
  refine lv_aload_n hx hb dX2_init_13 rfl (lv_at hl 0 rfl) ?_
  refine lv_bipush (v := 60) hx hb dX2_init_14 (by decide) ?_
  refine va_newa (atype := .int) (ty := .int) (N' := 60) (a0 := (60, .inl (fun _ => 0))) hx hb (hts (.arrayClass .int) (by decide +kernel)) rfl hK.1 hP hD hS hA (fun _ => rfl) (by decide) rfl (by decide) (Nat.le_of_ble_eq_true rfl) (Nat.le_of_ble_eq_true rfl) dX2_init_16 (fun ax cA H hK2 hP hD hS => ?_)
  rw [pK.int hK2] at hP hD
  have hP : va_P D vwCl [(m0, .inr (2, [.int 0, .int 0, .int 0, .ref aP, .null, .null, .int 0, .null, .null, .null, .null, .int 0, .int 0, .int 0, .int 0, .int 0, .int 0])), (aP, .inl (cI, 576, .inl (fun _ => 0))), (ax, .inl (cI, 60, .inl (fun _ => 0)))] H := hP
  have hD : va_D A [(m0, .inr (2, [.int 0, .int 0, .int 0, .ref aP, .null, .null, .int 0, .null, .null, .null, .null, .int 0, .int 0, .int 0, .int 0, .int 0, .int 0])), (aP, .inl (cI, 576, .inl (fun _ => 0))), (ax, .inl (cI, 60, .inl (fun _ => 0)))] := hD
  refine W.widen (k := 2) (n := 636) (by omega) (by omega) ?_
  refine va_putF (D := D) (ci := 2) (v := .ref ax) (ty := .array .int) (C := RX2) (T := TX2) (N := 17) hx hb hts nX2_init_X2 tyX2 tyX2_ok nmX2 hown hK.1 hP hD hS 0 rfl rfl 4 (by decide) (hts (.fieldLink RX2 13 "PolygonFrameModel" "xs" "[I") (by decide +kernel)) (fun _ h9 => h9) rfl hin rfl (tyX2_ok 4 (by decide)) rfl rfl (Nat.le_of_ble_eq_true rfl) dX2_init_18 (fun H locs hP hD hS => ?_)
  have hP : va_P D vwCl [(m0, .inr (2, [.int 0, .int 0, .int 0, .ref aP, .ref ax, .null, .int 0, .null, .null, .null, .null, .int 0, .int 0, .int 0, .int 0, .int 0, .int 0])), (aP, .inl (cI, 576, .inl (fun _ => 0))), (ax, .inl (cI, 60, .inl (fun _ => 0)))] H := hP
  have hD : va_D A [(m0, .inr (2, [.int 0, .int 0, .int 0, .ref aP, .ref ax, .null, .int 0, .null, .null, .null, .null, .int 0, .int 0, .int 0, .int 0, .int 0, .int 0])), (aP, .inl (cI, 576, .inl (fun _ => 0))), (ax, .inl (cI, 60, .inl (fun _ => 0)))] := hD
  refine lv_aload_n hx hb dX2_init_21 rfl (lv_at hl 0 rfl) ?_
  refine lv_bipush (v := 60) hx hb dX2_init_22 (by decide) ?_
  refine va_newa (atype := .int) (ty := .int) (N' := 60) (a0 := (60, .inl (fun _ => 0))) hx hb (hts (.arrayClass .int) (by decide +kernel)) rfl hK.1 hP hD hS hA (fun _ => rfl) (by decide) rfl (by decide) (Nat.le_of_ble_eq_true rfl) (Nat.le_of_ble_eq_true rfl) dX2_init_24 (fun ay cA H hK2 hP hD hS => ?_)
  rw [pK.int hK2] at hP hD
  have hP : va_P D vwCl [(m0, .inr (2, [.int 0, .int 0, .int 0, .ref aP, .ref ax, .null, .int 0, .null, .null, .null, .null, .int 0, .int 0, .int 0, .int 0, .int 0, .int 0])), (aP, .inl (cI, 576, .inl (fun _ => 0))), (ax, .inl (cI, 60, .inl (fun _ => 0))), (ay, .inl (cI, 60, .inl (fun _ => 0)))] H := hP
  have hD : va_D A [(m0, .inr (2, [.int 0, .int 0, .int 0, .ref aP, .ref ax, .null, .int 0, .null, .null, .null, .null, .int 0, .int 0, .int 0, .int 0, .int 0, .int 0])), (aP, .inl (cI, 576, .inl (fun _ => 0))), (ax, .inl (cI, 60, .inl (fun _ => 0))), (ay, .inl (cI, 60, .inl (fun _ => 0)))] := hD
  refine W.widen (k := 3) (n := 696) (by omega) (by omega) ?_
  refine va_putF (D := D) (ci := 2) (v := .ref ay) (ty := .array .int) (C := RX2) (T := TX2) (N := 17) hx hb hts nX2_init_X2 tyX2 tyX2_ok nmX2 hown hK.1 hP hD hS 0 rfl rfl 5 (by decide) (hts (.fieldLink RX2 16 "PolygonFrameModel" "ys" "[I") (by decide +kernel)) (fun _ h9 => h9) rfl hin rfl (tyX2_ok 5 (by decide)) rfl rfl (Nat.le_of_ble_eq_true rfl) dX2_init_26 (fun H locs hP hD hS => ?_)
  have hP : va_P D vwCl [(m0, .inr (2, [.int 0, .int 0, .int 0, .ref aP, .ref ax, .ref ay, .int 0, .null, .null, .null, .null, .int 0, .int 0, .int 0, .int 0, .int 0, .int 0])), (aP, .inl (cI, 576, .inl (fun _ => 0))), (ax, .inl (cI, 60, .inl (fun _ => 0))), (ay, .inl (cI, 60, .inl (fun _ => 0)))] H := hP
  have hD : va_D A [(m0, .inr (2, [.int 0, .int 0, .int 0, .ref aP, .ref ax, .ref ay, .int 0, .null, .null, .null, .null, .int 0, .int 0, .int 0, .int 0, .int 0, .int 0])), (aP, .inl (cI, 576, .inl (fun _ => 0))), (ax, .inl (cI, 60, .inl (fun _ => 0))), (ay, .inl (cI, 60, .inl (fun _ => 0)))] := hD
  refine lv_aload_n hx hb dX2_init_29 rfl (lv_at hl 0 rfl) ?_
  refine lv_bipush (v := 60) hx hb dX2_init_30 (by decide) ?_
  refine va_newa (atype := .int) (ty := .int) (N' := 60) (a0 := (60, .inl (fun _ => 0))) hx hb (hts (.arrayClass .int) (by decide +kernel)) rfl hK.1 hP hD hS hA (fun _ => rfl) (by decide) rfl (by decide) (Nat.le_of_ble_eq_true rfl) (Nat.le_of_ble_eq_true rfl) dX2_init_32 (fun afx cA H hK2 hP hD hS => ?_)
  rw [pK.int hK2] at hP hD
  have hP : va_P D vwCl [(m0, .inr (2, [.int 0, .int 0, .int 0, .ref aP, .ref ax, .ref ay, .int 0, .null, .null, .null, .null, .int 0, .int 0, .int 0, .int 0, .int 0, .int 0])), (aP, .inl (cI, 576, .inl (fun _ => 0))), (ax, .inl (cI, 60, .inl (fun _ => 0))), (ay, .inl (cI, 60, .inl (fun _ => 0))), (afx, .inl (cI, 60, .inl (fun _ => 0)))] H := hP
  have hD : va_D A [(m0, .inr (2, [.int 0, .int 0, .int 0, .ref aP, .ref ax, .ref ay, .int 0, .null, .null, .null, .null, .int 0, .int 0, .int 0, .int 0, .int 0, .int 0])), (aP, .inl (cI, 576, .inl (fun _ => 0))), (ax, .inl (cI, 60, .inl (fun _ => 0))), (ay, .inl (cI, 60, .inl (fun _ => 0))), (afx, .inl (cI, 60, .inl (fun _ => 0)))] := hD
  refine W.widen (k := 4) (n := 756) (by omega) (by omega) ?_
  refine va_putF (D := D) (ci := 2) (v := .ref afx) (ty := .array .int) (C := RX2) (T := TX2) (N := 17) hx hb hts nX2_init_X2 tyX2 tyX2_ok nmX2 hown hK.1 hP hD hS 0 rfl rfl 7 (by decide) (hts (.fieldLink RX2 19 "PolygonFrameModel" "fromX" "[I") (by decide +kernel)) (fun _ h9 => h9) rfl hin rfl (tyX2_ok 7 (by decide)) rfl rfl (Nat.le_of_ble_eq_true rfl) dX2_init_34 (fun H locs hP hD hS => ?_)
  have hP : va_P D vwCl [(m0, .inr (2, [.int 0, .int 0, .int 0, .ref aP, .ref ax, .ref ay, .int 0, .ref afx, .null, .null, .null, .int 0, .int 0, .int 0, .int 0, .int 0, .int 0])), (aP, .inl (cI, 576, .inl (fun _ => 0))), (ax, .inl (cI, 60, .inl (fun _ => 0))), (ay, .inl (cI, 60, .inl (fun _ => 0))), (afx, .inl (cI, 60, .inl (fun _ => 0)))] H := hP
  have hD : va_D A [(m0, .inr (2, [.int 0, .int 0, .int 0, .ref aP, .ref ax, .ref ay, .int 0, .ref afx, .null, .null, .null, .int 0, .int 0, .int 0, .int 0, .int 0, .int 0])), (aP, .inl (cI, 576, .inl (fun _ => 0))), (ax, .inl (cI, 60, .inl (fun _ => 0))), (ay, .inl (cI, 60, .inl (fun _ => 0))), (afx, .inl (cI, 60, .inl (fun _ => 0)))] := hD
  refine lv_aload_n hx hb dX2_init_37 rfl (lv_at hl 0 rfl) ?_
  refine lv_bipush (v := 60) hx hb dX2_init_38 (by decide) ?_
  refine va_newa (atype := .int) (ty := .int) (N' := 60) (a0 := (60, .inl (fun _ => 0))) hx hb (hts (.arrayClass .int) (by decide +kernel)) rfl hK.1 hP hD hS hA (fun _ => rfl) (by decide) rfl (by decide) (Nat.le_of_ble_eq_true rfl) (Nat.le_of_ble_eq_true rfl) dX2_init_40 (fun afy cA H hK2 hP hD hS => ?_)
  rw [pK.int hK2] at hP hD
  have hP : va_P D vwCl [(m0, .inr (2, [.int 0, .int 0, .int 0, .ref aP, .ref ax, .ref ay, .int 0, .ref afx, .null, .null, .null, .int 0, .int 0, .int 0, .int 0, .int 0, .int 0])), (aP, .inl (cI, 576, .inl (fun _ => 0))), (ax, .inl (cI, 60, .inl (fun _ => 0))), (ay, .inl (cI, 60, .inl (fun _ => 0))), (afx, .inl (cI, 60, .inl (fun _ => 0))), (afy, .inl (cI, 60, .inl (fun _ => 0)))] H := hP
  have hD : va_D A [(m0, .inr (2, [.int 0, .int 0, .int 0, .ref aP, .ref ax, .ref ay, .int 0, .ref afx, .null, .null, .null, .int 0, .int 0, .int 0, .int 0, .int 0, .int 0])), (aP, .inl (cI, 576, .inl (fun _ => 0))), (ax, .inl (cI, 60, .inl (fun _ => 0))), (ay, .inl (cI, 60, .inl (fun _ => 0))), (afx, .inl (cI, 60, .inl (fun _ => 0))), (afy, .inl (cI, 60, .inl (fun _ => 0)))] := hD
  refine W.widen (k := 5) (n := 816) (by omega) (by omega) ?_
  refine va_putF (D := D) (ci := 2) (v := .ref afy) (ty := .array .int) (C := RX2) (T := TX2) (N := 17) hx hb hts nX2_init_X2 tyX2 tyX2_ok nmX2 hown hK.1 hP hD hS 0 rfl rfl 8 (by decide) (hts (.fieldLink RX2 22 "PolygonFrameModel" "fromY" "[I") (by decide +kernel)) (fun _ h9 => h9) rfl hin rfl (tyX2_ok 8 (by decide)) rfl rfl (Nat.le_of_ble_eq_true rfl) dX2_init_42 (fun H locs hP hD hS => ?_)
  have hP : va_P D vwCl [(m0, .inr (2, [.int 0, .int 0, .int 0, .ref aP, .ref ax, .ref ay, .int 0, .ref afx, .ref afy, .null, .null, .int 0, .int 0, .int 0, .int 0, .int 0, .int 0])), (aP, .inl (cI, 576, .inl (fun _ => 0))), (ax, .inl (cI, 60, .inl (fun _ => 0))), (ay, .inl (cI, 60, .inl (fun _ => 0))), (afx, .inl (cI, 60, .inl (fun _ => 0))), (afy, .inl (cI, 60, .inl (fun _ => 0)))] H := hP
  have hD : va_D A [(m0, .inr (2, [.int 0, .int 0, .int 0, .ref aP, .ref ax, .ref ay, .int 0, .ref afx, .ref afy, .null, .null, .int 0, .int 0, .int 0, .int 0, .int 0, .int 0])), (aP, .inl (cI, 576, .inl (fun _ => 0))), (ax, .inl (cI, 60, .inl (fun _ => 0))), (ay, .inl (cI, 60, .inl (fun _ => 0))), (afx, .inl (cI, 60, .inl (fun _ => 0))), (afy, .inl (cI, 60, .inl (fun _ => 0)))] := hD
  refine lv_aload_n hx hb dX2_init_45 rfl (lv_at hl 0 rfl) ?_
  refine lv_bipush (v := 60) hx hb dX2_init_46 (by decide) ?_
  refine va_newa (atype := .int) (ty := .int) (N' := 60) (a0 := (60, .inl (fun _ => 0))) hx hb (hts (.arrayClass .int) (by decide +kernel)) rfl hK.1 hP hD hS hA (fun _ => rfl) (by decide) rfl (by decide) (Nat.le_of_ble_eq_true rfl) (Nat.le_of_ble_eq_true rfl) dX2_init_48 (fun atx cA H hK2 hP hD hS => ?_)
  rw [pK.int hK2] at hP hD
  have hP : va_P D vwCl [(m0, .inr (2, [.int 0, .int 0, .int 0, .ref aP, .ref ax, .ref ay, .int 0, .ref afx, .ref afy, .null, .null, .int 0, .int 0, .int 0, .int 0, .int 0, .int 0])), (aP, .inl (cI, 576, .inl (fun _ => 0))), (ax, .inl (cI, 60, .inl (fun _ => 0))), (ay, .inl (cI, 60, .inl (fun _ => 0))), (afx, .inl (cI, 60, .inl (fun _ => 0))), (afy, .inl (cI, 60, .inl (fun _ => 0))), (atx, .inl (cI, 60, .inl (fun _ => 0)))] H := hP
  have hD : va_D A [(m0, .inr (2, [.int 0, .int 0, .int 0, .ref aP, .ref ax, .ref ay, .int 0, .ref afx, .ref afy, .null, .null, .int 0, .int 0, .int 0, .int 0, .int 0, .int 0])), (aP, .inl (cI, 576, .inl (fun _ => 0))), (ax, .inl (cI, 60, .inl (fun _ => 0))), (ay, .inl (cI, 60, .inl (fun _ => 0))), (afx, .inl (cI, 60, .inl (fun _ => 0))), (afy, .inl (cI, 60, .inl (fun _ => 0))), (atx, .inl (cI, 60, .inl (fun _ => 0)))] := hD
  refine W.widen (k := 6) (n := 876) (by omega) (by omega) ?_
  refine va_putF (D := D) (ci := 2) (v := .ref atx) (ty := .array .int) (C := RX2) (T := TX2) (N := 17) hx hb hts nX2_init_X2 tyX2 tyX2_ok nmX2 hown hK.1 hP hD hS 0 rfl rfl 9 (by decide) (hts (.fieldLink RX2 25 "PolygonFrameModel" "toX" "[I") (by decide +kernel)) (fun _ h9 => h9) rfl hin rfl (tyX2_ok 9 (by decide)) rfl rfl (Nat.le_of_ble_eq_true rfl) dX2_init_50 (fun H locs hP hD hS => ?_)
  have hP : va_P D vwCl [(m0, .inr (2, [.int 0, .int 0, .int 0, .ref aP, .ref ax, .ref ay, .int 0, .ref afx, .ref afy, .ref atx, .null, .int 0, .int 0, .int 0, .int 0, .int 0, .int 0])), (aP, .inl (cI, 576, .inl (fun _ => 0))), (ax, .inl (cI, 60, .inl (fun _ => 0))), (ay, .inl (cI, 60, .inl (fun _ => 0))), (afx, .inl (cI, 60, .inl (fun _ => 0))), (afy, .inl (cI, 60, .inl (fun _ => 0))), (atx, .inl (cI, 60, .inl (fun _ => 0)))] H := hP
  have hD : va_D A [(m0, .inr (2, [.int 0, .int 0, .int 0, .ref aP, .ref ax, .ref ay, .int 0, .ref afx, .ref afy, .ref atx, .null, .int 0, .int 0, .int 0, .int 0, .int 0, .int 0])), (aP, .inl (cI, 576, .inl (fun _ => 0))), (ax, .inl (cI, 60, .inl (fun _ => 0))), (ay, .inl (cI, 60, .inl (fun _ => 0))), (afx, .inl (cI, 60, .inl (fun _ => 0))), (afy, .inl (cI, 60, .inl (fun _ => 0))), (atx, .inl (cI, 60, .inl (fun _ => 0)))] := hD
  refine lv_aload_n hx hb dX2_init_53 rfl (lv_at hl 0 rfl) ?_
  refine lv_bipush (v := 60) hx hb dX2_init_54 (by decide) ?_
  refine va_newa (atype := .int) (ty := .int) (N' := 60) (a0 := (60, .inl (fun _ => 0))) hx hb (hts (.arrayClass .int) (by decide +kernel)) rfl hK.1 hP hD hS hA (fun _ => rfl) (by decide) rfl (by decide) (Nat.le_of_ble_eq_true rfl) (Nat.le_of_ble_eq_true rfl) dX2_init_56 (fun aty cA H hK2 hP hD hS => ?_)
  rw [pK.int hK2] at hP hD
  have hP : va_P D vwCl [(m0, .inr (2, [.int 0, .int 0, .int 0, .ref aP, .ref ax, .ref ay, .int 0, .ref afx, .ref afy, .ref atx, .null, .int 0, .int 0, .int 0, .int 0, .int 0, .int 0])), (aP, .inl (cI, 576, .inl (fun _ => 0))), (ax, .inl (cI, 60, .inl (fun _ => 0))), (ay, .inl (cI, 60, .inl (fun _ => 0))), (afx, .inl (cI, 60, .inl (fun _ => 0))), (afy, .inl (cI, 60, .inl (fun _ => 0))), (atx, .inl (cI, 60, .inl (fun _ => 0))), (aty, .inl (cI, 60, .inl (fun _ => 0)))] H := hP
  have hD : va_D A [(m0, .inr (2, [.int 0, .int 0, .int 0, .ref aP, .ref ax, .ref ay, .int 0, .ref afx, .ref afy, .ref atx, .null, .int 0, .int 0, .int 0, .int 0, .int 0, .int 0])), (aP, .inl (cI, 576, .inl (fun _ => 0))), (ax, .inl (cI, 60, .inl (fun _ => 0))), (ay, .inl (cI, 60, .inl (fun _ => 0))), (afx, .inl (cI, 60, .inl (fun _ => 0))), (afy, .inl (cI, 60, .inl (fun _ => 0))), (atx, .inl (cI, 60, .inl (fun _ => 0))), (aty, .inl (cI, 60, .inl (fun _ => 0)))] := hD
  refine W.widen (k := 7) (n := 936) (by omega) (by omega) ?_
  refine va_putF (D := D) (ci := 2) (v := .ref aty) (ty := .array .int) (C := RX2) (T := TX2) (N := 17) hx hb hts nX2_init_X2 tyX2 tyX2_ok nmX2 hown hK.1 hP hD hS 0 rfl rfl 10 (by decide) (hts (.fieldLink RX2 28 "PolygonFrameModel" "toY" "[I") (by decide +kernel)) (fun _ h9 => h9) rfl hin rfl (tyX2_ok 10 (by decide)) rfl rfl (Nat.le_of_ble_eq_true rfl) dX2_init_58 (fun H locs hP hD hS => ?_)
  have hP : va_P D vwCl [(m0, .inr (2, [.int 0, .int 0, .int 0, .ref aP, .ref ax, .ref ay, .int 0, .ref afx, .ref afy, .ref atx, .ref aty, .int 0, .int 0, .int 0, .int 0, .int 0, .int 0])), (aP, .inl (cI, 576, .inl (fun _ => 0))), (ax, .inl (cI, 60, .inl (fun _ => 0))), (ay, .inl (cI, 60, .inl (fun _ => 0))), (afx, .inl (cI, 60, .inl (fun _ => 0))), (afy, .inl (cI, 60, .inl (fun _ => 0))), (atx, .inl (cI, 60, .inl (fun _ => 0))), (aty, .inl (cI, 60, .inl (fun _ => 0)))] H := hP
  have hD : va_D A [(m0, .inr (2, [.int 0, .int 0, .int 0, .ref aP, .ref ax, .ref ay, .int 0, .ref afx, .ref afy, .ref atx, .ref aty, .int 0, .int 0, .int 0, .int 0, .int 0, .int 0])), (aP, .inl (cI, 576, .inl (fun _ => 0))), (ax, .inl (cI, 60, .inl (fun _ => 0))), (ay, .inl (cI, 60, .inl (fun _ => 0))), (afx, .inl (cI, 60, .inl (fun _ => 0))), (afy, .inl (cI, 60, .inl (fun _ => 0))), (atx, .inl (cI, 60, .inl (fun _ => 0))), (aty, .inl (cI, 60, .inl (fun _ => 0)))] := hD
  refine lv_aload_n hx hb dX2_init_61 rfl (lv_at hl 0 rfl) ?_
  refine lv_sipush (v := (-16384)) hx hb dX2_init_62 (by decide) ?_
  refine va_put (D := D) (ci := 2) (v := .int (-16384)) (ty := .int) (C := RX2) (T := TX2) (N := 17) hx hb hts nX2_init_X2 tyX2 tyX2_ok nmX2 hown hK.1 hP hD hS 0 rfl rfl 13 (by decide) (hts (.fieldLink RX2 31 "PolygonFrameModel" "left" "I") (by decide +kernel)) (fun _ h9 => h9) rfl (tyX2_ok 13 (by decide)) rfl rfl (Nat.le_of_ble_eq_true rfl) dX2_init_65 (fun H locs hP hD hS => ?_)
  have hP : va_P D vwCl [(m0, .inr (2, [.int 0, .int 0, .int 0, .ref aP, .ref ax, .ref ay, .int 0, .ref afx, .ref afy, .ref atx, .ref aty, .int 0, .int 0, .int (-16384), .int 0, .int 0, .int 0])), (aP, .inl (cI, 576, .inl (fun _ => 0))), (ax, .inl (cI, 60, .inl (fun _ => 0))), (ay, .inl (cI, 60, .inl (fun _ => 0))), (afx, .inl (cI, 60, .inl (fun _ => 0))), (afy, .inl (cI, 60, .inl (fun _ => 0))), (atx, .inl (cI, 60, .inl (fun _ => 0))), (aty, .inl (cI, 60, .inl (fun _ => 0)))] H := hP
  have hD : va_D A [(m0, .inr (2, [.int 0, .int 0, .int 0, .ref aP, .ref ax, .ref ay, .int 0, .ref afx, .ref afy, .ref atx, .ref aty, .int 0, .int 0, .int (-16384), .int 0, .int 0, .int 0])), (aP, .inl (cI, 576, .inl (fun _ => 0))), (ax, .inl (cI, 60, .inl (fun _ => 0))), (ay, .inl (cI, 60, .inl (fun _ => 0))), (afx, .inl (cI, 60, .inl (fun _ => 0))), (afy, .inl (cI, 60, .inl (fun _ => 0))), (atx, .inl (cI, 60, .inl (fun _ => 0))), (aty, .inl (cI, 60, .inl (fun _ => 0)))] := hD
  refine lv_aload_n hx hb dX2_init_68 rfl (lv_at hl 0 rfl) ?_
  refine lv_sipush (v := 16384) hx hb dX2_init_69 (by decide) ?_
  refine va_put (D := D) (ci := 2) (v := .int 16384) (ty := .int) (C := RX2) (T := TX2) (N := 17) hx hb hts nX2_init_X2 tyX2 tyX2_ok nmX2 hown hK.1 hP hD hS 0 rfl rfl 14 (by decide) (hts (.fieldLink RX2 35 "PolygonFrameModel" "right" "I") (by decide +kernel)) (fun _ h9 => h9) rfl (tyX2_ok 14 (by decide)) rfl rfl (Nat.le_of_ble_eq_true rfl) dX2_init_72 (fun H locs hP hD hS => ?_)
  have hP : va_P D vwCl [(m0, .inr (2, [.int 0, .int 0, .int 0, .ref aP, .ref ax, .ref ay, .int 0, .ref afx, .ref afy, .ref atx, .ref aty, .int 0, .int 0, .int (-16384), .int 16384, .int 0, .int 0])), (aP, .inl (cI, 576, .inl (fun _ => 0))), (ax, .inl (cI, 60, .inl (fun _ => 0))), (ay, .inl (cI, 60, .inl (fun _ => 0))), (afx, .inl (cI, 60, .inl (fun _ => 0))), (afy, .inl (cI, 60, .inl (fun _ => 0))), (atx, .inl (cI, 60, .inl (fun _ => 0))), (aty, .inl (cI, 60, .inl (fun _ => 0)))] H := hP
  have hD : va_D A [(m0, .inr (2, [.int 0, .int 0, .int 0, .ref aP, .ref ax, .ref ay, .int 0, .ref afx, .ref afy, .ref atx, .ref aty, .int 0, .int 0, .int (-16384), .int 16384, .int 0, .int 0])), (aP, .inl (cI, 576, .inl (fun _ => 0))), (ax, .inl (cI, 60, .inl (fun _ => 0))), (ay, .inl (cI, 60, .inl (fun _ => 0))), (afx, .inl (cI, 60, .inl (fun _ => 0))), (afy, .inl (cI, 60, .inl (fun _ => 0))), (atx, .inl (cI, 60, .inl (fun _ => 0))), (aty, .inl (cI, 60, .inl (fun _ => 0)))] := hD
  refine lv_aload_n hx hb dX2_init_75 rfl (lv_at hl 0 rfl) ?_
  refine lv_sipush (v := (-16384)) hx hb dX2_init_76 (by decide) ?_
  refine va_put (D := D) (ci := 2) (v := .int (-16384)) (ty := .int) (C := RX2) (T := TX2) (N := 17) hx hb hts nX2_init_X2 tyX2 tyX2_ok nmX2 hown hK.1 hP hD hS 0 rfl rfl 15 (by decide) (hts (.fieldLink RX2 38 "PolygonFrameModel" "low" "I") (by decide +kernel)) (fun _ h9 => h9) rfl (tyX2_ok 15 (by decide)) rfl rfl (Nat.le_of_ble_eq_true rfl) dX2_init_79 (fun H locs hP hD hS => ?_)
  have hP : va_P D vwCl [(m0, .inr (2, [.int 0, .int 0, .int 0, .ref aP, .ref ax, .ref ay, .int 0, .ref afx, .ref afy, .ref atx, .ref aty, .int 0, .int 0, .int (-16384), .int 16384, .int (-16384), .int 0])), (aP, .inl (cI, 576, .inl (fun _ => 0))), (ax, .inl (cI, 60, .inl (fun _ => 0))), (ay, .inl (cI, 60, .inl (fun _ => 0))), (afx, .inl (cI, 60, .inl (fun _ => 0))), (afy, .inl (cI, 60, .inl (fun _ => 0))), (atx, .inl (cI, 60, .inl (fun _ => 0))), (aty, .inl (cI, 60, .inl (fun _ => 0)))] H := hP
  have hD : va_D A [(m0, .inr (2, [.int 0, .int 0, .int 0, .ref aP, .ref ax, .ref ay, .int 0, .ref afx, .ref afy, .ref atx, .ref aty, .int 0, .int 0, .int (-16384), .int 16384, .int (-16384), .int 0])), (aP, .inl (cI, 576, .inl (fun _ => 0))), (ax, .inl (cI, 60, .inl (fun _ => 0))), (ay, .inl (cI, 60, .inl (fun _ => 0))), (afx, .inl (cI, 60, .inl (fun _ => 0))), (afy, .inl (cI, 60, .inl (fun _ => 0))), (atx, .inl (cI, 60, .inl (fun _ => 0))), (aty, .inl (cI, 60, .inl (fun _ => 0)))] := hD
  refine lv_aload_n hx hb dX2_init_82 rfl (lv_at hl 0 rfl) ?_
  refine lv_sipush (v := 16384) hx hb dX2_init_83 (by decide) ?_
  refine va_put (D := D) (ci := 2) (v := .int 16384) (ty := .int) (C := RX2) (T := TX2) (N := 17) hx hb hts nX2_init_X2 tyX2 tyX2_ok nmX2 hown hK.1 hP hD hS 0 rfl rfl 16 (by decide) (hts (.fieldLink RX2 41 "PolygonFrameModel" "top" "I") (by decide +kernel)) (fun _ h9 => h9) rfl (tyX2_ok 16 (by decide)) rfl rfl (Nat.le_of_ble_eq_true rfl) dX2_init_86 (fun H locs hP hD hS => ?_)
  have hP : va_P D vwCl [(m0, .inr (2, [.int 0, .int 0, .int 0, .ref aP, .ref ax, .ref ay, .int 0, .ref afx, .ref afy, .ref atx, .ref aty, .int 0, .int 0, .int (-16384), .int 16384, .int (-16384), .int 16384])), (aP, .inl (cI, 576, .inl (fun _ => 0))), (ax, .inl (cI, 60, .inl (fun _ => 0))), (ay, .inl (cI, 60, .inl (fun _ => 0))), (afx, .inl (cI, 60, .inl (fun _ => 0))), (afy, .inl (cI, 60, .inl (fun _ => 0))), (atx, .inl (cI, 60, .inl (fun _ => 0))), (aty, .inl (cI, 60, .inl (fun _ => 0)))] H := hP
  have hD : va_D A [(m0, .inr (2, [.int 0, .int 0, .int 0, .ref aP, .ref ax, .ref ay, .int 0, .ref afx, .ref afy, .ref atx, .ref aty, .int 0, .int 0, .int (-16384), .int 16384, .int (-16384), .int 16384])), (aP, .inl (cI, 576, .inl (fun _ => 0))), (ax, .inl (cI, 60, .inl (fun _ => 0))), (ay, .inl (cI, 60, .inl (fun _ => 0))), (afx, .inl (cI, 60, .inl (fun _ => 0))), (afy, .inl (cI, 60, .inl (fun _ => 0))), (atx, .inl (cI, 60, .inl (fun _ => 0))), (aty, .inl (cI, 60, .inl (fun _ => 0)))] := hD
  refine lv_aload_n hx hb dX2_init_89 rfl (lv_at hl 0 rfl) ?_
  refine lv_iload_n hx hb dX2_init_90 rfl (lv_at hl 1 rfl) ?_
  refine lv_iconst (v := 1) hx hb dX2_init_91 (by decide) ?_
  refine lv_bipush (v := 24) hx hb dX2_init_92 (by decide) ?_
  refine rd_i (va_runS (As := [.int w0, .int 1, .int 24]) ⟨hx, hb, hml, hown, hts⟩ (kX2_between l D cI cZ w0 1 24) (va_cwS 3 hts gX2_init_X2_between rfl rfl rfl (by decide +kernel) ⟨Nat.le_of_ble_eq_true rfl, Nat.le_of_ble_eq_true rfl⟩) rd_pre0 rfl rfl hl.1 rfl (lv_room (Nat.le_of_ble_eq_true rfl)) dX2_init_94 ⟨Nat.le_of_ble_eq_true rfl, Nat.le_of_ble_eq_true rfl⟩) ?_
  refine q_eq ((bw_ne (by decide)).trans ew) ?_
  refine va_putF (D := D) (ci := 2) (v := .int (nI (nN 1 24 w0))) (ty := .int) (C := RX2) (T := TX2) (N := 17) hx hb hts nX2_init_X2 tyX2 tyX2_ok nmX2 hown hK.1 hP hD hS 0 rfl rfl 0 (by decide) (hts (.fieldLink RX2 48 "PolygonFrameModel" "wide" "I") (by decide +kernel)) (fun _ h9 => h9) rfl hin rfl (tyX2_ok 0 (by decide)) rfl rfl (Nat.le_of_ble_eq_true rfl) dX2_init_97 (fun H locs hP hD hS => ?_)
  have hP : va_P D vwCl [(m0, .inr (2, [.int (nI (nN 1 24 w0)), .int 0, .int 0, .ref aP, .ref ax, .ref ay, .int 0, .ref afx, .ref afy, .ref atx, .ref aty, .int 0, .int 0, .int (-16384), .int 16384, .int (-16384), .int 16384])), (aP, .inl (cI, 576, .inl (fun _ => 0))), (ax, .inl (cI, 60, .inl (fun _ => 0))), (ay, .inl (cI, 60, .inl (fun _ => 0))), (afx, .inl (cI, 60, .inl (fun _ => 0))), (afy, .inl (cI, 60, .inl (fun _ => 0))), (atx, .inl (cI, 60, .inl (fun _ => 0))), (aty, .inl (cI, 60, .inl (fun _ => 0)))] H := hP
  have hD : va_D A [(m0, .inr (2, [.int (nI (nN 1 24 w0)), .int 0, .int 0, .ref aP, .ref ax, .ref ay, .int 0, .ref afx, .ref afy, .ref atx, .ref aty, .int 0, .int 0, .int (-16384), .int 16384, .int (-16384), .int 16384])), (aP, .inl (cI, 576, .inl (fun _ => 0))), (ax, .inl (cI, 60, .inl (fun _ => 0))), (ay, .inl (cI, 60, .inl (fun _ => 0))), (afx, .inl (cI, 60, .inl (fun _ => 0))), (afy, .inl (cI, 60, .inl (fun _ => 0))), (atx, .inl (cI, 60, .inl (fun _ => 0))), (aty, .inl (cI, 60, .inl (fun _ => 0)))] := hD
  refine lv_aload_n hx hb dX2_init_100 rfl (lv_at hl 0 rfl) ?_
  refine lv_iload_n hx hb dX2_init_101 rfl (lv_at hl 2 rfl) ?_
  refine lv_iconst (v := 1) hx hb dX2_init_102 (by decide) ?_
  refine lv_bipush (v := 24) hx hb dX2_init_103 (by decide) ?_
  refine rd_i (va_runS (As := [.int h0, .int 1, .int 24]) ⟨hx, hb, hml, hown, hts⟩ (kX2_between l D cI cZ h0 1 24) (va_cwS 3 hts gX2_init_X2_between rfl rfl rfl (by decide +kernel) ⟨Nat.le_of_ble_eq_true rfl, Nat.le_of_ble_eq_true rfl⟩) rd_pre0 rfl rfl hl.1 rfl (lv_room (Nat.le_of_ble_eq_true rfl)) dX2_init_105 ⟨Nat.le_of_ble_eq_true rfl, Nat.le_of_ble_eq_true rfl⟩) ?_
  refine q_eq ((bw_ne (by decide)).trans eh) ?_
  refine va_putF (D := D) (ci := 2) (v := .int (nI (nN 1 24 h0))) (ty := .int) (C := RX2) (T := TX2) (N := 17) hx hb hts nX2_init_X2 tyX2 tyX2_ok nmX2 hown hK.1 hP hD hS 0 rfl rfl 1 (by decide) (hts (.fieldLink RX2 51 "PolygonFrameModel" "high" "I") (by decide +kernel)) (fun _ h9 => h9) rfl hin rfl (tyX2_ok 1 (by decide)) rfl rfl (Nat.le_of_ble_eq_true rfl) dX2_init_108 (fun H locs hP hD hS => ?_)
  have hP : va_P D vwCl [(m0, .inr (2, [.int (nI (nN 1 24 w0)), .int (nI (nN 1 24 h0)), .int 0, .ref aP, .ref ax, .ref ay, .int 0, .ref afx, .ref afy, .ref atx, .ref aty, .int 0, .int 0, .int (-16384), .int 16384, .int (-16384), .int 16384])), (aP, .inl (cI, 576, .inl (fun _ => 0))), (ax, .inl (cI, 60, .inl (fun _ => 0))), (ay, .inl (cI, 60, .inl (fun _ => 0))), (afx, .inl (cI, 60, .inl (fun _ => 0))), (afy, .inl (cI, 60, .inl (fun _ => 0))), (atx, .inl (cI, 60, .inl (fun _ => 0))), (aty, .inl (cI, 60, .inl (fun _ => 0)))] H := hP
  have hD : va_D A [(m0, .inr (2, [.int (nI (nN 1 24 w0)), .int (nI (nN 1 24 h0)), .int 0, .ref aP, .ref ax, .ref ay, .int 0, .ref afx, .ref afy, .ref atx, .ref aty, .int 0, .int 0, .int (-16384), .int 16384, .int (-16384), .int 16384])), (aP, .inl (cI, 576, .inl (fun _ => 0))), (ax, .inl (cI, 60, .inl (fun _ => 0))), (ay, .inl (cI, 60, .inl (fun _ => 0))), (afx, .inl (cI, 60, .inl (fun _ => 0))), (afy, .inl (cI, 60, .inl (fun _ => 0))), (atx, .inl (cI, 60, .inl (fun _ => 0))), (aty, .inl (cI, 60, .inl (fun _ => 0)))] := hD
  refine lv_aload_n hx hb dX2_init_111 rfl (lv_at hl 0 rfl) ?_
  refine lv_iload_n hx hb dX2_init_112 rfl (lv_at hl 3 rfl) ?_
  refine lv_iconst (v := 3) hx hb dX2_init_113 (by decide) ?_
  refine lv_bipush (v := 60) hx hb dX2_init_114 (by decide) ?_
  refine rd_i (va_runS (As := [.int v0, .int 3, .int 60]) ⟨hx, hb, hml, hown, hts⟩ (kX2_between l D cI cZ v0 3 60) (va_cwS 3 hts gX2_init_X2_between rfl rfl rfl (by decide +kernel) ⟨Nat.le_of_ble_eq_true rfl, Nat.le_of_ble_eq_true rfl⟩) rd_pre0 rfl rfl hl.1 rfl (lv_room (Nat.le_of_ble_eq_true rfl)) dX2_init_116 ⟨Nat.le_of_ble_eq_true rfl, Nat.le_of_ble_eq_true rfl⟩) ?_
  refine q_eq ((bw_ne (by decide)).trans ev) ?_
  refine va_putF (D := D) (ci := 2) (v := .int (nI (nN 3 60 v0))) (ty := .int) (C := RX2) (T := TX2) (N := 17) hx hb hts nX2_init_X2 tyX2 tyX2_ok nmX2 hown hK.1 hP hD hS 0 rfl rfl 2 (by decide) (hts (.fieldLink RX2 54 "PolygonFrameModel" "most" "I") (by decide +kernel)) (fun _ h9 => h9) rfl hin rfl (tyX2_ok 2 (by decide)) rfl rfl (Nat.le_of_ble_eq_true rfl) dX2_init_119 (fun H locs hP hD hS => ?_)
  have hP : va_P D vwCl [(m0, .inr (2, [.int (nI (nN 1 24 w0)), .int (nI (nN 1 24 h0)), .int (nI (nN 3 60 v0)), .ref aP, .ref ax, .ref ay, .int 0, .ref afx, .ref afy, .ref atx, .ref aty, .int 0, .int 0, .int (-16384), .int 16384, .int (-16384), .int 16384])), (aP, .inl (cI, 576, .inl (fun _ => 0))), (ax, .inl (cI, 60, .inl (fun _ => 0))), (ay, .inl (cI, 60, .inl (fun _ => 0))), (afx, .inl (cI, 60, .inl (fun _ => 0))), (afy, .inl (cI, 60, .inl (fun _ => 0))), (atx, .inl (cI, 60, .inl (fun _ => 0))), (aty, .inl (cI, 60, .inl (fun _ => 0)))] H := hP
  have hD : va_D A [(m0, .inr (2, [.int (nI (nN 1 24 w0)), .int (nI (nN 1 24 h0)), .int (nI (nN 3 60 v0)), .ref aP, .ref ax, .ref ay, .int 0, .ref afx, .ref afy, .ref atx, .ref aty, .int 0, .int 0, .int (-16384), .int 16384, .int (-16384), .int 16384])), (aP, .inl (cI, 576, .inl (fun _ => 0))), (ax, .inl (cI, 60, .inl (fun _ => 0))), (ay, .inl (cI, 60, .inl (fun _ => 0))), (afx, .inl (cI, 60, .inl (fun _ => 0))), (afy, .inl (cI, 60, .inl (fun _ => 0))), (atx, .inl (cI, 60, .inl (fun _ => 0))), (aty, .inl (cI, 60, .inl (fun _ => 0)))] := hD
  refine W.widen (k := 7) (n := 1000) (by omega) (by omega) ?_
  exact W.vret hx hb hr (fun t ht hW => ⟨⟨(aP, ax, ay, afx, afy, atx, aty), rfl, trivial, by rw [ht]; exact hP, by rw [hAe]; exact hD⟩, hS.F ht⟩) hS.2.2 dX2_init_122
end
section
/-! THE SAME ANSWERS: crossings of the class and of the reference, by whole numbers. -/
theorem l_sub {x y : Int64} (h1 : -4611686018427387904 ≤ x.toInt - y.toInt) (h2 : x.toInt - y.toInt ≤ 4611686018427387904) : (x - y).toInt = x.toInt - y.toInt := by
  rw [Int64.toInt_sub]; exact Int.bmod_eq_of_le (by omega) (by omega)
theorem l_mul {x y : Int64} (h1 : -4611686018427387904 ≤ x.toInt * y.toInt) (h2 : x.toInt * y.toInt ≤ 4611686018427387904) : (x * y).toInt = x.toInt * y.toInt := by
  rw [Int64.toInt_mul]; exact Int.bmod_eq_of_le (by omega) (by omega)
theorem wide_bound {x y : Int} (hx : -4294967296 ≤ x ∧ x ≤ 4294967296) (hy : -32768 ≤ y ∧ y ≤ 32768) : -140737488355328 ≤ x * y ∧ x * y ≤ 140737488355328 := by
  have h : (x * y).natAbs ≤ 4294967296 * 32768 := by
    rw [Int.natAbs_mul]; exact Nat.mul_le_mul (by omega) (by omega)
  omega
/-- a quotient cut downwards is below a whole number just if the fraction is -/
theorem fl_lt {E F q m : Int} (h : fl_is E F q) : q < m ↔ (0 < F ∧ E < m * F) ∨ (F < 0 ∧ m * F < E) := by
  rcases h with ⟨hF, h1, h2⟩ | ⟨hF, h1, h2⟩
  · constructor
    · intro hq
      have : (q + 1) * F ≤ m * F := Int.mul_le_mul_of_nonneg_right (by omega) (Int.le_of_lt hF)
      rw [Int.add_mul, Int.one_mul] at this
      exact Or.inl ⟨hF, by omega⟩
    · rintro (⟨_, h3⟩ | ⟨h3, _⟩)
      · exact Int.lt_of_mul_lt_mul_right (Int.lt_of_le_of_lt h1 h3) (Int.le_of_lt hF)
      · omega
  · constructor
    · intro hq
      have : m * F ≤ (q + 1) * F := Int.mul_le_mul_of_nonpos_right (by omega) (Int.le_of_lt hF)
      rw [Int.add_mul, Int.one_mul] at this
      exact Or.inr ⟨hF, by omega⟩
    · rintro (⟨h3, _⟩ | ⟨_, h3⟩)
      · omega
      · rcases Int.lt_or_le q m with h4 | h4
        · exact h4
        · exfalso
          have : q * F ≤ m * F := Int.mul_le_mul_of_nonpos_right h4 (Int.le_of_lt hF)
          omega
theorem cross_id (A B C E X Y : Int) : (A - C) * (Y - E) - (X - C) * (B - E) = (A - C) * (Y - B) - (A - X) * (E - B) := by
  simp only [Int.sub_mul, Int.mul_sub]
  omega
theorem cross_id2 (A B C E X Y : Int) : (C - A) * (Y - B) - (X - A) * (E - B) = (A - X) * (E - B) - (A - C) * (Y - B) := by
  simp only [Int.sub_mul, Int.mul_sub]
  omega
/-- where the edge meets the line: the class's place is above x just if the reference's products say so -/
theorem cu_iff {a b c d x y : Int32} (ha : cO a) (hb : cO b) (hc : cO c) (hd : cO d) (hm : (y.toInt < b.toInt ∧ d.toInt ≤ y.toInt) ∨ (b.toInt ≤ y.toInt ∧ y.toInt < d.toInt)) :
    (¬ a - fl_i ((a - c) * (y - b)) (d - b) ≤ x) ↔ ((0 < d.toInt - b.toInt ∧ (a.toInt - c.toInt) * (y.toInt - b.toInt) < (a.toInt - x.toInt) * (d.toInt - b.toInt)) ∨ (d.toInt - b.toInt < 0 ∧ (a.toInt - x.toInt) * (d.toInt - b.toInt) < (a.toInt - c.toInt) * (y.toInt - b.toInt))) := by
  have hy : cO y := by unfold cO at *; omega
  obtain ⟨m1, m2, m3⟩ := co_mul ha hc hy hb
  have y1 := co_sub hd hb
  have hne : ¬ d - b = 0 := fun h => by
    have := congrArg Int32.toInt h
    rw [y1, show (0 : Int32).toInt = 0 from rfl] at this; omega
  have hf := fl_ok (x := (a - c) * (y - b)) (y := d - b) hne (by rw [m1]; omega)
  rw [m1, y1] at hf
  obtain ⟨r1, r2⟩ := fl_range hf (by omega)
  rw [← fl_lt hf]
  have hq : -32768 ≤ (fl_i ((a - c) * (y - b)) (d - b)).toInt ∧ (fl_i ((a - c) * (y - b)) (d - b)).toInt ≤ 32768 := by
    unfold cO at ha hc
    by_cases hE : 0 ≤ a.toInt - c.toInt
    · have := r1 hE; omega
    · have := r2 (by omega); omega
  have hs : (a - fl_i ((a - c) * (y - b)) (d - b)).toInt = a.toInt - (fl_i ((a - c) * (y - b)) (d - b)).toInt := by
    unfold cO at ha
    exact fl_sub (by omega) (by omega)
  rw [Int32.le_iff_toInt_le, hs]
  omega
theorem nx_eq {n k : Nat} (h : k < n) : nxM n k = nxN n k := by
  unfold nxM nxN
  by_cases h2 : k + 1 = n
  · rw [if_pos h2, if_neg (by omega)]
  · rw [if_neg h2, if_pos (by omega)]
theorem crM_eq {a b c d x y : Int32} (ha : cO a) (hb : cO b) (hc : cO c) (hd : cO d) :
    crM a.toInt64 b.toInt64 c.toInt64 d.toInt64 x.toInt64 y.toInt64 = ((decide (y < b) != decide (y < d)) && decide (¬ a - fl_i ((a - c) * (y - b)) (d - b) ≤ x)) := by
  have e1 : (0 < lg_cmp b.toInt64 y.toInt64) ↔ y < b := by rw [lg_cmp_gt, Int32.toInt64_lt]
  have e2 : (0 < lg_cmp d.toInt64 y.toInt64) ↔ y < d := by rw [lg_cmp_gt, Int32.toInt64_lt]
  unfold crM
  by_cases h1 : y < b
  · by_cases h2 : y < d
    · rw [if_pos (iff_of_true (e1.mpr h1) (e2.mpr h2)), decide_eq_true h1, decide_eq_true h2]; rfl
    · rw [if_neg (fun q => h2 (e2.mp (q.mp (e1.mpr h1)))), if_pos (e1.mpr h1), decide_eq_true h1, decide_eq_false h2]
      show _ = decide _
      rw [decide_eq_decide, lg_cmp_le]
      rw [Int32.lt_iff_toInt_lt] at h1 h2
      rw [cu_iff ha hb hc hd (by omega), Int64.le_iff_toInt_le]
      have hx1 := Int32.toInt_lt x
      have hx2 := Int32.le_toInt x
      unfold cO at ha hb hc hd
      have s1 : (a.toInt64 - c.toInt64).toInt = a.toInt - c.toInt := by rw [l_sub] <;> simp only [Int32.toInt_toInt64] <;> omega
      have s2 : (y.toInt64 - d.toInt64).toInt = y.toInt - d.toInt := by rw [l_sub] <;> simp only [Int32.toInt_toInt64] <;> omega
      have s3 : (x.toInt64 - c.toInt64).toInt = x.toInt - c.toInt := by rw [l_sub] <;> simp only [Int32.toInt_toInt64] <;> omega
      have s4 : (b.toInt64 - d.toInt64).toInt = b.toInt - d.toInt := by rw [l_sub] <;> simp only [Int32.toInt_toInt64] <;> omega
      have b1 := wide_bound (x := a.toInt - c.toInt) (y := y.toInt - d.toInt) (by omega) (by omega)
      have b2 := wide_bound (x := x.toInt - c.toInt) (y := b.toInt - d.toInt) (by omega) (by omega)
      have p1 : ((a.toInt64 - c.toInt64) * (y.toInt64 - d.toInt64)).toInt = (a.toInt - c.toInt) * (y.toInt - d.toInt) := by rw [l_mul] <;> rw [s1, s2] <;> omega
      have p2 : ((x.toInt64 - c.toInt64) * (b.toInt64 - d.toInt64)).toInt = (x.toInt - c.toInt) * (b.toInt - d.toInt) := by rw [l_mul] <;> rw [s3, s4] <;> omega
      rw [p1, p2]
      have hid := cross_id a.toInt b.toInt c.toInt d.toInt x.toInt y.toInt
      omega
  · by_cases h2 : y < d
    · rw [if_neg (fun q => h1 (e1.mp (q.mpr (e2.mpr h2)))), if_neg (fun q => h1 (e1.mp q)), decide_eq_false h1, decide_eq_true h2]
      show _ = decide _
      rw [decide_eq_decide, lg_cmp_le]
      rw [Int32.lt_iff_toInt_lt] at h1 h2
      rw [cu_iff ha hb hc hd (by omega), Int64.le_iff_toInt_le]
      have hx1 := Int32.toInt_lt x
      have hx2 := Int32.le_toInt x
      unfold cO at ha hb hc hd
      have s1 : (c.toInt64 - a.toInt64).toInt = c.toInt - a.toInt := by rw [l_sub] <;> simp only [Int32.toInt_toInt64] <;> omega
      have s2 : (y.toInt64 - b.toInt64).toInt = y.toInt - b.toInt := by rw [l_sub] <;> simp only [Int32.toInt_toInt64] <;> omega
      have s3 : (x.toInt64 - a.toInt64).toInt = x.toInt - a.toInt := by rw [l_sub] <;> simp only [Int32.toInt_toInt64] <;> omega
      have s4 : (d.toInt64 - b.toInt64).toInt = d.toInt - b.toInt := by rw [l_sub] <;> simp only [Int32.toInt_toInt64] <;> omega
      have b1 := wide_bound (x := c.toInt - a.toInt) (y := y.toInt - b.toInt) (by omega) (by omega)
      have b2 := wide_bound (x := x.toInt - a.toInt) (y := d.toInt - b.toInt) (by omega) (by omega)
      have p1 : ((c.toInt64 - a.toInt64) * (y.toInt64 - b.toInt64)).toInt = (c.toInt - a.toInt) * (y.toInt - b.toInt) := by rw [l_mul] <;> rw [s1, s2] <;> omega
      have p2 : ((x.toInt64 - a.toInt64) * (d.toInt64 - b.toInt64)).toInt = (x.toInt - a.toInt) * (d.toInt - b.toInt) := by rw [l_mul] <;> rw [s3, s4] <;> omega
      rw [p1, p2]
      have hid := cross_id2 a.toInt b.toInt c.toInt d.toInt x.toInt y.toInt
      omega
    · rw [if_pos (iff_of_false (fun q => h1 (e1.mp q)) (fun q => h2 (e2.mp q))), decide_eq_false h1, decide_eq_false h2]; rfl
/-- both sides' vertices: the crossings are the same -/
theorem cr_same {xs ys mx my : Nat → Int32} {L : List (Int32 × Int32)} (h1 : hoL xs ys L) (h2 : hoL mx my L) (hc : coL L) (x y : Int32) {k : Nat} (hk : k < L.length) : crB xs ys L.length x y k = crQ mx my L.length x y k := by
  have hj := nxN_lt hk
  unfold crQ crB emB cuI
  rw [nx_eq hk, (hoL_x h1 hk).1, (hoL_x h1 hk).2, (hoL_x h1 hj).1, (hoL_x h1 hj).2, (hoL_x h2 hk).1, (hoL_x h2 hk).2, (hoL_x h2 hj).1, (hoL_x h2 hj).2]
  exact (crM_eq (lX_co hc hk).1 (lX_co hc hk).2 (lX_co hc hj).1 (lX_co hc hj).2).symm
theorem odd_congr {f g : Nat → Bool} : ∀ k, (∀ i, i < k → f i = g i) → oddB f k = oddB g k := by
  intro k
  induction k with
  | zero => intro _; rfl
  | succ k ih => intro h; rw [oddB, oddB, ih (fun i hi => h i (by omega)), h k (by omega)]
theorem in_same {xs ys mx my : Nat → Int32} {L : List (Int32 × Int32)} {n : Nat} (hn : n = L.length) (h1 : hoL xs ys L) (h2 : hoL mx my L) (hc : coL L) (x y : Int32) : oddB (crB xs ys n x y) n = oddB (crQ mx my n x y) n := by
  subst hn
  exact odd_congr _ (fun i hi => cr_same h1 h2 hc x y hi)
theorem vx_same {xs ys mx my : Nat → Int32} {L : List (Int32 × Int32)} {n : Nat} (hn : n = L.length) (h60 : n ≤ 60) (h1 : hoL xs ys L) (h2 : hoL mx my L) (i : Int32) : vxI xs n i = vxI mx n i ∧ vxI ys n i = vxI my n i := by
  unfold vxI
  by_cases h : hsB i (nI n) = true
  · obtain ⟨j, hj, rfl⟩ := hs_ix h60 h
    rw [if_pos h, if_pos h, if_pos h, if_pos h, nI_clamp (by omega), (hoL_x h1 (by omega)).1, (hoL_x h1 (by omega)).2, (hoL_x h2 (by omega)).1, (hoL_x h2 (by omega)).2]
    exact ⟨rfl, rfl⟩
  · rw [if_neg h, if_neg h, if_neg h, if_neg h]; exact ⟨rfl, rfl⟩
theorem px_same {col px : Nat → Int32} {wd hg : Nat} (hw : wd ≤ 24) (hh : hg ≤ 24) (h : ∀ x y, x < wd → y < hg → col (y * wd + x) = px (24 * y + x)) (x y : Int32) : pxI col (nI wd) (nI hg) x y (fun i j => j * wd + i) = pxI px (nI wd) (nI hg) x y (fun i j => 24 * j + i) := by
  unfold pxI
  by_cases hc : ¬ x < 0 ∧ ¬ nI wd ≤ x ∧ ¬ y < 0 ∧ ¬ nI hg ≤ y
  · obtain ⟨i, hi, rfl⟩ := ge_ix (by omega) hc.1 hc.2.1
    obtain ⟨j, hj, rfl⟩ := ge_ix (by omega) hc.2.2.1 hc.2.2.2
    rw [if_pos hc, if_pos hc, nI_clamp (by omega), nI_clamp (by omega)]
    exact h i j hi hj
  · rw [if_neg hc, if_neg hc]
theorem rg_same (a0 b0 a1 b1 : Int32) : (rgB a0 a1 = true ∧ rgB b0 b1 = true) ↔ (coB a0 = true ∧ coB b0 = true ∧ coB a1 = true ∧ coB b1 = true ∧ a0 ≤ a1 ∧ b0 ≤ b1) := by
  unfold rgB
  rw [decide_eq_true_iff, decide_eq_true_iff, Int32.not_lt, Int32.not_lt]
  constructor
  · rintro ⟨⟨h1, h2, h3⟩, h4, h5, h6⟩; exact ⟨h1, h4, h2, h5, h3, h6⟩
  · rintro ⟨h1, h4, h2, h5, h3, h6⟩; exact ⟨⟨h1, h2, h3⟩, h4, h5, h6⟩
theorem ho_snoc {xs ys : Nat → Int32} {L : List (Int32 × Int32)} {n : Nat} (hn : n = L.length) (h : hoL xs ys L) (x y : Int32) : hoL (upd xs n x) (upd ys n y) (L ++ [(x, y)]) := by
  intro i hi
  rw [List.length_append, List.length_singleton] at hi
  by_cases he : i = n
  · rw [he, pk_us, pk_us, hn, List.getElem?_append_right (Nat.le_refl _), Nat.sub_self]; rfl
  · rw [pk_un he, pk_un he, List.getElem?_append_left (by omega)]
    exact h i (by omega)
/-- what the two sides have in common between the calls -/
def lwI (wd hg cap n : Nat) (L : List (Int32 × Int32)) (xs ys mx my sd col px : Nat → Int32) : Prop := n = L.length ∧ hoL xs ys L ∧ hoL mx my L ∧ coL L ∧ n ≤ cap ∧ (∀ k, k < 4 → cO (sd k)) ∧ ∀ x y, x < wd → y < hg → col (y * wd + x) = px (24 * y + x)
theorem law_c {L i : Nat} (hL : L ≤ 2563) (hi : i ≤ 3000) : (nI L - 5 < nI i) ↔ L < i + 5 := by
  have h5 : (nI L - 5).toInt = (L : Int) - 5 := pk_sub_toInt (a := L) (b := 5) (by omega) (by omega)
  rw [Int32.lt_iff_toInt_lt, h5, nI_toInt (by omega)]; omega
end
