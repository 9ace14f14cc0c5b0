/-! THE CLASS'S PASS, by x and by y. -/
def psV (cap : Nat) (tx ty : Nat → Int32) (q : Nat) (s : Int32) (fx fy : Nat → Int32) (n k : Nat) : Nat × (Nat → Int32) × (Nat → Int32) := mpU cap tx ty (psL q s fx fy n k)
theorem psV_1 {cap : Nat} {tx ty : Nat → Int32} {q : Nat} {s : Int32} {fx fy : Nat → Int32} {n k : Nat} : (psV cap tx ty q s fx fy n k).1 = (psL q s fx fy n k).length := mpU_1 _ _ _ _
section PS
variable {q : Nat} {s : Int32} {fx fy : Nat → Int32} {n k : Nat}
theorem ps_cut (h : ¬ gV q s fx fy k = gV q s fx fy (prN n k)) (hk : k < n) : (psL q s fx fy n k).length < (psL q s fx fy n n).length := Nat.lt_of_lt_of_le (out_cutlt h) (out_mono hk)
theorem ps_good1 (h : ¬ gV q s fx fy k = gV q s fx fy (prN n k)) (h2 : gV q s fx fy k = true) (hk : k < n) : (psL q s fx fy n k).length + 1 < (psL q s fx fy n n).length := Nat.lt_of_lt_of_le (out_goodlt h h2) (out_mono hk)
theorem ps_good0 (h2 : gV q s fx fy k = true) (hk : k < n) : (psL q s fx fy n k).length < (psL q s fx fy n n).length := Nat.lt_of_lt_of_le (out_goodlt0 h2) (out_mono hk)
end PS
theorem nX1_pass_X1 : ∀ w ∈ wsX10, w ∈ wsX1_pass := fun w h => List.mem_cons_of_mem _ (List.mem_append_left _ (List.mem_append_right _ h))
theorem nX1_pass_X0 : ∀ w ∈ wsX00, w ∈ wsX1_pass := fun w h => List.mem_cons_of_mem _ (List.mem_append_right _ h)
set_option maxHeartbeats 4000000 in
set_option maxRecDepth 100000 in
theorem kX1_passX (l : Launch) (D : va_G) (cI cZ : ClassId) (sz : Nat) (p0 aC aT aS rP rO rE wd hg : Nat) (rF afx afy rT atx aty n cap : Nat) (tc : Int32) (sd fx fy tx ty : Nat → Int32) (q : Nat) (hq : q < 4) (hq2 : q < 2) (hn : n ≤ cap) (hc : cap ≤ 60) : Met l yX1_pass wsX1_pass ({ frames := 2, cells := 0, slots := 0, locals := 80 }) (va_Pc [.ref p0, .ref rF, .ref rT, .int (nI q)] (wrP D cI cZ sz [(p0, .inr (1, [.int (nI wd), .int (nI hg), .ref aC, .ref aT, .ref aS, .ref rP, .ref rO, .ref rE])), (aS, .inl (cI, 4, .inl sd)), (rF, .inr (0, [.ref afx, .ref afy, .int (nI n)])), (afx, .inl (cI, cap, .inl fx)), (afy, .inl (cI, cap, .inl fy)), (rT, .inr (0, [.ref atx, .ref aty, .int tc])), (atx, .inl (cI, cap, .inl tx)), (aty, .inl (cI, cap, .inl ty))])) (va_Qi (S := Nat × (Nat → Int32) × (Nat → Int32)) (fun r u => (r = 1 ∧ (psL q (sd q) fx fy n n).length ≤ cap ∧ u = (psV cap tx ty q (sd q) fx fy n n)) ∨ (r = 0 ∧ cap < (psL q (sd q) fx fy n n).length)) (wrB D [(p0, .inr (1, [.int (nI wd), .int (nI hg), .ref aC, .ref aT, .ref aS, .ref rP, .ref rO, .ref rE])), (aS, .inl (cI, 4, .inl sd)), (rF, .inr (0, [.ref afx, .ref afy, .int (nI n)])), (afx, .inl (cI, cap, .inl fx)), (afy, .inl (cI, cap, .inl fy)), (rT, .inr (0, [.ref atx, .ref aty, .int tc])), (atx, .inl (cI, cap, .inl tx)), (aty, .inl (cI, cap, .inl ty))] sz (fun z => [(p0, .inr (1, [.int (nI wd), .int (nI hg), .ref aC, .ref aT, .ref aS, .ref rP, .ref rO, .ref rE])), (aS, .inl (cI, 4, .inl sd)), (rF, .inr (0, [.ref afx, .ref afy, .int (nI n)])), (afx, .inl (cI, cap, .inl fx)), (afy, .inl (cI, cap, .inl fy)), (rT, .inr (0, [.ref atx, .ref aty, .int (nI z.1)])), (atx, .inl (cI, cap, .inl z.2.1)), (aty, .inl (cI, cap, .inl z.2.2))])) (va_A [(p0, .inr (1, [.int (nI wd), .int (nI hg), .ref aC, .ref aT, .ref aS, .ref rP, .ref rO, .ref rE])), (aS, .inl (cI, 4, .inl sd)), (rF, .inr (0, [.ref afx, .ref afy, .int (nI n)])), (afx, .inl (cI, cap, .inl fx)), (afy, .inl (cI, cap, .inl fy)), (rT, .inr (0, [.ref atx, .ref aty, .int tc])), (atx, .inl (cI, cap, .inl tx)), (aty, .inl (cI, cap, .inl ty))] sz)) 0 0 (va_A [(p0, .inr (1, [.int (nI wd), .int (nI hg), .ref aC, .ref aT, .ref aS, .ref rP, .ref rO, .ref rE])), (aS, .inl (cI, 4, .inl sd)), (rF, .inr (0, [.ref afx, .ref afy, .int (nI n)])), (afx, .inl (cI, cap, .inl fx)), (afy, .inl (cI, cap, .inl fy)), (rT, .inr (0, [.ref atx, .ref aty, .int tc])), (atx, .inl (cI, cap, .inl tx)), (aty, .inl (cI, cap, .inl ty))] sz) := by
  refine Met.ofW (cc := cX1_pass) (maxL := 12) (ret := (some .boolean)) (by decide) rfl ?_
  intro p e s m args below meth c s₁ B hml hv
  obtain ⟨rfl, hsz, hP, hK, hD0⟩ := hv
  have hx := B.exec
  have hb := B.bytes
  have hr := B.returns
  have hts := atoms_spec (ws := wsX1_pass) B.pre
  have hown : s.vm.findClass RX1 = some m.cls := findClass_of_methodNamed B.named
  have hlocks := B.notSynchronized
  subst hsz
  have hD := hD0.self (sz := s.heap.size)
  generalize hAe : va_A [(p0, .inr (1, [.int (nI wd), .int (nI hg), .ref aC, .ref aT, .ref aS, .ref rP, .ref rO, .ref rE])), (aS, .inl (cI, 4, .inl sd)), (rF, .inr (0, [.ref afx, .ref afy, .int (nI n)])), (afx, .inl (cI, cap, .inl fx)), (afy, .inl (cI, cap, .inl fy)), (rT, .inr (0, [.ref atx, .ref aty, .int tc])), (atx, .inl (cI, cap, .inl tx)), (aty, .inl (cI, cap, .inl ty))] s.heap.size = A at hD ⊢
  have hA : ∀ q : Nat, s.heap.size ≤ q → A q := fun q h => by rw [← hAe]; exact Or.inr h
  have hS : va_S A s.heap s.heap [] := va_S.rf
  have hP : va_P D vwCl [(p0, .inr (1, [.int (nI wd), .int (nI hg), .ref aC, .ref aT, .ref aS, .ref rP, .ref rO, .ref rE])), (aS, .inl (cI, 4, .inl sd)), (rF, .inr (0, [.ref afx, .ref afy, .int (nI n)])), (afx, .inl (cI, cap, .inl fx)), (afy, .inl (cI, cap, .inl fy)), (rT, .inr (0, [.ref atx, .ref aty, .int tc])), (atx, .inl (cI, cap, .inl tx)), (aty, .inl (cI, cap, .inl ty))] s.heap := hP
  have hl := lv_entry ([.ref p0, .ref rF, .ref rT, .int (nI q)]) (n := 12) (Nat.le_of_ble_eq_true rfl)
  rw [lg_entry_eq]
  generalize (lg_sl ([.ref p0, .ref rF, .ref rT, .int (nI q)]) ++ List.replicate (12 - (lg_sl ([.ref p0, .ref rF, .ref rT, .int (nI q)])).length) Slot.unset).toArray = ls at hl ⊢
  have hl : lv_has ls 12 [(0, .ref p0), (1, .ref rF), (2, .ref rT), (3, .int (nI q))] := hl
  have LOOP : ∀ (j k : Nat), k ≤ n → n < k + j → ∀ (b8 : Int32), (k < n → b8 = nI (prN n k)) → (psL q (sd q) fx fy n k).length ≤ cap → ∀ (H : Heap) (locs : List Loc), va_P D vwCl [(p0, .inr (1, [.int (nI wd), .int (nI hg), .ref aC, .ref aT, .ref aS, .ref rP, .ref rO, .ref rE])), (aS, .inl (cI, 4, .inl sd)), (rF, .inr (0, [.ref afx, .ref afy, .int (nI n)])), (afx, .inl (cI, cap, .inl fx)), (afy, .inl (cI, cap, .inl fy)), (rT, .inr (0, [.ref atx, .ref aty, .int (nI (psV cap tx ty q (sd q) fx fy n k).1)])), (atx, .inl (cI, cap, .inl ((psV cap tx ty q (sd q) fx fy n k).2.1))), (aty, .inl (cI, cap, .inl ((psV cap tx ty q (sd q) fx fy n k).2.2)))] H → va_D A [(p0, .inr (1, [.int (nI wd), .int (nI hg), .ref aC, .ref aT, .ref aS, .ref rP, .ref rO, .ref rE])), (aS, .inl (cI, 4, .inl sd)), (rF, .inr (0, [.ref afx, .ref afy, .int (nI n)])), (afx, .inl (cI, cap, .inl fx)), (afy, .inl (cI, cap, .inl fy)), (rT, .inr (0, [.ref atx, .ref aty, .int (nI (psV cap tx ty q (sd q) fx fy n k).1)])), (atx, .inl (cI, cap, .inl ((psV cap tx ty q (sd q) fx fy n k).2.1))), (aty, .inl (cI, cap, .inl ((psV cap tx ty q (sd q) fx fy n k).2.2)))] → va_S A s.heap H locs → ∀ ls : Array Slot, lv_has ls 12 [(0, .ref p0), (1, .ref rF), (2, .ref rT), (3, .int (nI q)), (4, .int 1), (5, .ref afx), (6, .ref afy), (7, .int (sd q)), (8, .int b8), (9, .int (nI k))] → W p l e ({ frames := 2, cells := 0, slots := 0, locals := 80 } : Room) s m #[.ref p0, .ref rF, .ref rT, .int (nI q)] below meth c H locs 0 0 (MQ below (va_Qi (S := Nat × (Nat → Int32) × (Nat → Int32)) (fun r u => (r = 1 ∧ (psL q (sd q) fx fy n n).length ≤ cap ∧ u = (psV cap tx ty q (sd q) fx fy n n)) ∨ (r = 0 ∧ cap < (psL q (sd q) fx fy n n).length)) (wrB D [(p0, .inr (1, [.int (nI wd), .int (nI hg), .ref aC, .ref aT, .ref aS, .ref rP, .ref rO, .ref rE])), (aS, .inl (cI, 4, .inl sd)), (rF, .inr (0, [.ref afx, .ref afy, .int (nI n)])), (afx, .inl (cI, cap, .inl fx)), (afy, .inl (cI, cap, .inl fy)), (rT, .inr (0, [.ref atx, .ref aty, .int tc])), (atx, .inl (cI, cap, .inl tx)), (aty, .inl (cI, cap, .inl ty))] s.heap.size (fun z => [(p0, .inr (1, [.int (nI wd), .int (nI hg), .ref aC, .ref aT, .ref aS, .ref rP, .ref rO, .ref rE])), (aS, .inl (cI, 4, .inl sd)), (rF, .inr (0, [.ref afx, .ref afy, .int (nI n)])), (afx, .inl (cI, cap, .inl fx)), (afy, .inl (cI, cap, .inl fy)), (rT, .inr (0, [.ref atx, .ref aty, .int (nI z.1)])), (atx, .inl (cI, cap, .inl z.2.1)), (aty, .inl (cI, cap, .inl z.2.2))])) A) #[.ref p0, .ref rF, .ref rT, .int (nI q)] s 0 0 A) (F0 m 60 ls []) := by
    intro j
    induction j with
    | zero => intro k h1 h2; omega
    | succ j ih =>
      intro k hk hkj b8 hb8 hlen H locs hP hD hS ls hl
      have hv : (psV cap tx ty q (sd q) fx fy n k).1 ≤ cap := by rw [psV_1]; exact hlen
      refine lv_iload hx hb dX1_pass_60 (lv_at hl 9 rfl) ?_
      refine lv_aload_n hx hb dX1_pass_62 rfl (lv_at hl 1 rfl) ?_
      refine va_getN (D := D) (ci := 0) (v := .int (nI n)) (C := RX0) (T := TX0) (N := 3) hx hb hts nX1_pass_X0 hown hK.1 hP 2 rfl rfl 2 (by decide) (hK.2.count _) (fun _ h9 => h9) rfl dX1_pass_63 ?_
      refine lv_icmp_ge (tgt := 194) hx hb dX1_pass_66 (by decide) (fun c66 => ?_) (fun c66 => ?_)
      · skip
        refine lv_iconst (v := 1) hx hb dX1_pass_194 (by decide) ?_
        have hkn : k = n := Nat.le_antisymm hk ((nI_leI (by omega) (by omega)).mp c66)
        rw [hkn] at hP hD hlen
        exact W.zret (v := 1) hx hb hr rfl (fun t ht hW => ⟨⟨1, (psV cap tx ty q (sd q) fx fy n n), rfl, Or.inl ⟨rfl, hlen, rfl⟩, by rw [ht]; exact hP, by rw [hAe]; exact hD⟩, hS.F ht⟩) hS.2.2 dX1_pass_195
      · skip
        have hk2 : k < n := Nat.lt_of_not_le (fun h => c66 (nI_le h (by omega)))
        have hp := prN_lt hk2
        have e8 := hb8 hk2
        subst e8
        refine lv_aload_n hx hb dX1_pass_69 rfl (lv_at hl 0 rfl) ?_
        refine lv_aload hx hb dX1_pass_70 (lv_at hl 5 rfl) ?_
        refine lv_iload hx hb dX1_pass_72 (lv_at hl 9 rfl) ?_
        refine q_iald (k := k) hx hb hK.1 hP 3 0 rfl rfl (by omega) (by omega) dX1_pass_74 ?_
        refine lv_iload_n hx hb dX1_pass_75 rfl (lv_at hl 3 rfl) ?_
        refine rd_i (va_runV (As := [.int (fx k), .int (nI q)]) ⟨hx, hb, hml, hown, hts⟩ (kX1_isGood l D cI cZ p0 aC aT aS rP rO rE (nI wd) (nI hg) sd (fx k) q hq) (cwV 2 hts gX1_pass_X1_isGood rfl rfl rfl (by decide +kernel) ⟨Nat.le_of_ble_eq_true rfl, Nat.le_of_ble_eq_true rfl⟩) (rd_preV (ci := 1) (q0 := 0) (hP.sub [0, 1] rfl) hK rfl rfl) rfl rfl hl.1 rfl (lv_room (Nat.le_of_ble_eq_true rfl)) dX1_pass_76 ⟨Nat.zero_le _, Nat.zero_le _⟩) ?_
        refine q_eq (show bI (gdB q (fx k) (sd q)) = bI (gV q (sd q) fx fy k) by rw [gV, if_pos hq2]) ?_
        refine lv_istore (lv' := [(10, .int (bI (gV q (sd q) fx fy k))), (0, .ref p0), (1, .ref rF), (2, .ref rT), (3, .int (nI q)), (4, .int 1), (5, .ref afx), (6, .ref afy), (7, .int (sd q)), (8, .int (nI (prN n k))), (9, .int (nI k))]) hx hb dX1_pass_79 hl (by decide) rfl (fun ls hl => ?_)
        refine lv_iload hx hb dX1_pass_81 (lv_at hl 0 rfl) ?_
        refine lv_aload_n hx hb dX1_pass_83 rfl (lv_at hl 1 rfl) ?_
        refine lv_aload hx hb dX1_pass_84 (lv_at hl 6 rfl) ?_
        refine lv_iload hx hb dX1_pass_86 (lv_at hl 9 rfl) ?_
        refine q_iald (k := (prN n k)) hx hb hK.1 hP 3 0 rfl rfl (Nat.lt_of_lt_of_le hp hn) (by omega) dX1_pass_88 ?_
        refine lv_iload_n hx hb dX1_pass_89 rfl (lv_at hl 4 rfl) ?_
        refine rd_i (va_runV (As := [.int (fx (prN n k)), .int (nI q)]) ⟨hx, hb, hml, hown, hts⟩ (kX1_isGood l D cI cZ p0 aC aT aS rP rO rE (nI wd) (nI hg) sd (fx (prN n k)) q hq) (cwV 2 hts gX1_pass_X1_isGood rfl rfl rfl (by decide +kernel) ⟨Nat.le_of_ble_eq_true rfl, Nat.le_of_ble_eq_true rfl⟩) (rd_preV (ci := 1) (q0 := 0) (hP.sub [0, 1] rfl) hK rfl rfl) rfl rfl hl.1 rfl (lv_room (Nat.le_of_ble_eq_true rfl)) dX1_pass_90 ⟨Nat.zero_le _, Nat.zero_le _⟩) ?_
        refine q_eq (show bI (gdB q (fx (prN n k)) (sd q)) = bI (gV q (sd q) fx fy (prN n k)) by rw [gV, if_pos hq2]) ?_
        refine lv_icmp_eq (tgt := 156) hx hb dX1_pass_93 (by decide) (fun c93 => ?_) (fun c93 => ?_)
        · skip
          refine lv_iload hx hb dX1_pass_156 (lv_at hl 0 rfl) ?_
          refine lv_if_eq (tgt := 184) hx hb dX1_pass_158 (by decide) (fun c158 => ?_) (fun c158 => ?_)
          · skip
            refine lv_iload hx hb dX1_pass_184 (lv_at hl 10 rfl) ?_
            refine lv_istore (lv' := [(8, .int (nI k)), (10, .int (bI (gV q (sd q) fx fy k))), (0, .ref p0), (1, .ref rF), (2, .ref rT), (3, .int (nI q)), (4, .int 1), (5, .ref afx), (6, .ref afy), (7, .int (sd q)), (9, .int (nI k))]) hx hb dX1_pass_186 hl (by decide) rfl (fun ls hl => ?_)
            refine lv_iinc (v := (nI (k + 1))) (lv' := [(9, .int (nI (k + 1))), (8, .int (nI k)), (10, .int (bI (gV q (sd q) fx fy k))), (0, .ref p0), (1, .ref rF), (2, .ref rT), (3, .int (nI q)), (4, .int 1), (5, .ref afx), (6, .ref afy), (7, .int (sd q))]) hx hb dX1_pass_188 hl (k := 10) rfl (nI_1 _) (by decide) rfl (fun ls hl => ?_)
            have e : (psV cap tx ty q (sd q) fx fy n k) = (psV cap tx ty q (sd q) fx fy n (k + 1)) := by rw [psV, psV, psL, psL, out_00 (bI_eq.mp c93) (bI_eq0.mp c158)]
            have hlen2 : (psL q (sd q) fx fy n (k + 1)).length ≤ cap := by rw [← psV_1 (cap := cap) (tx := tx) (ty := ty), ← e]; exact hv
            refine lv_goto (tgt := 60) hx hb dX1_pass_191 (by decide) ?_
            rw [e] at hP hD
            exact ih (k + 1) (by omega) (by omega) (nI k) (fun _ => by rw [prN, if_neg (Nat.succ_ne_zero k)]; rfl) hlen2 H locs hP hD hS ls (lv_sub hl [3, 4, 5, 6, 7, 8, 9, 10, 1, 0] rfl)
          · skip
            refine lv_aload_n hx hb dX1_pass_161 rfl (lv_at hl 3 rfl) ?_
            refine lv_aload_n hx hb dX1_pass_162 rfl (lv_at hl 2 rfl) ?_
            refine va_getN (D := D) (ci := 0) (v := .ref afx) (C := RX0) (T := TX0) (N := 3) hx hb hts nX1_pass_X0 hown hK.1 hP 2 rfl rfl 0 (by decide) (hK.2.xs _) (fun _ h9 => h9) rfl dX1_pass_163 ?_
            refine lv_iload hx hb dX1_pass_166 (lv_at hl 10 rfl) ?_
            refine q_iald (k := k) hx hb hK.1 hP 3 0 rfl rfl (by omega) (by omega) dX1_pass_168 ?_
            refine lv_aload_n hx hb dX1_pass_169 rfl (lv_at hl 2 rfl) ?_
            refine va_getN (D := D) (ci := 0) (v := .ref afy) (C := RX0) (T := TX0) (N := 3) hx hb hts nX1_pass_X0 hown hK.1 hP 2 rfl rfl 1 (by decide) (hK.2.ys _) (fun _ h9 => h9) rfl dX1_pass_170 ?_
            refine lv_iload hx hb dX1_pass_173 (lv_at hl 10 rfl) ?_
            refine q_iald (k := k) hx hb hK.1 hP 4 0 rfl rfl (by omega) (by omega) dX1_pass_175 ?_
            refine wr_i (wr := [(p0, .inr (1, [.int (nI wd), .int (nI hg), .ref aC, .ref aT, .ref aS, .ref rP, .ref rO, .ref rE])), (aS, .inl (cI, 4, .inl sd)), (rF, .inr (0, [.ref afx, .ref afy, .int (nI n)])), (afx, .inl (cI, cap, .inl fx)), (afy, .inl (cI, cap, .inl fy))]) hP hD hS hA [5, 6, 7] [0, 1, 2, 3, 4] rfl rfl (by decide) (by decide) (va_runVN (C := RX0) (As := [.int (fx k), .int (fy k)]) ⟨hx, hb, hml, hown, hts⟩ (kX0_append l D cI cZ H.size rT atx aty (psV cap tx ty q (sd q) fx fy n k).1 cap (psV cap tx ty q (sd q) fx fy n k).2.1 (psV cap tx ty q (sd q) fx fy n k).2.2 (fx k) (fy k) hv hc) ⟨va_cnB 2 hts gX1_pass_X0_append_n59 rfl rfl rfl hK.2.2.2.2.2.1 (hts (.initialized RX0) (by decide +kernel)) (by decide +kernel) ⟨Nat.le_of_ble_eq_true rfl, Nat.le_of_ble_eq_true rfl⟩, hts (.instanceMethod yX0_append) (by decide +kernel), hts (.selects RX0 yX0_append yX0_append) (by decide +kernel)⟩ (wr_preV (ci := 0) (q0 := 0) (hP.sub [5, 6, 7] rfl) hK (hD.sub [5, 6, 7] (by decide) rfl) rfl rfl) rfl rfl hl.1 rfl (lv_room (Nat.le_of_ble_eq_true rfl)) dX1_pass_176 ⟨Nat.zero_le _, Nat.zero_le _⟩) (fun r2 u2 H locs hw2 hP hD hS => ?_)
            rcases hw2 with ⟨hw2, rfl, hu2⟩ | ⟨hw2, rfl, hu2⟩
            · skip
              replace hP : va_P D vwCl [(p0, .inr (1, [.int (nI wd), .int (nI hg), .ref aC, .ref aT, .ref aS, .ref rP, .ref rO, .ref rE])), (aS, .inl (cI, 4, .inl sd)), (rF, .inr (0, [.ref afx, .ref afy, .int (nI n)])), (afx, .inl (cI, cap, .inl fx)), (afy, .inl (cI, cap, .inl fy)), (rT, .inr (0, [.ref atx, .ref aty, .int (nI u2.1)])), (atx, .inl (cI, cap, .inl u2.2.1)), (aty, .inl (cI, cap, .inl u2.2.2))] H := hP.sub [0, 1, 2, 3, 4, 5, 6, 7] rfl
              replace hD : va_D A [(p0, .inr (1, [.int (nI wd), .int (nI hg), .ref aC, .ref aT, .ref aS, .ref rP, .ref rO, .ref rE])), (aS, .inl (cI, 4, .inl sd)), (rF, .inr (0, [.ref afx, .ref afy, .int (nI n)])), (afx, .inl (cI, cap, .inl fx)), (afy, .inl (cI, cap, .inl fy)), (rT, .inr (0, [.ref atx, .ref aty, .int (nI u2.1)])), (atx, .inl (cI, cap, .inl u2.2.1)), (aty, .inl (cI, cap, .inl u2.2.2))] := hD.sub [0, 1, 2, 3, 4, 5, 6, 7] (by decide) rfl
              refine lv_if_ne (tgt := 184) hx hb dX1_pass_179 (by decide) (fun c179 => ?_) (fun c179 => absurd c179 (by decide))
              refine lv_iload hx hb dX1_pass_184 (lv_at hl 10 rfl) ?_
              refine lv_istore (lv' := [(8, .int (nI k)), (10, .int (bI (gV q (sd q) fx fy k))), (0, .ref p0), (1, .ref rF), (2, .ref rT), (3, .int (nI q)), (4, .int 1), (5, .ref afx), (6, .ref afy), (7, .int (sd q)), (9, .int (nI k))]) hx hb dX1_pass_186 hl (by decide) rfl (fun ls hl => ?_)
              refine lv_iinc (v := (nI (k + 1))) (lv' := [(9, .int (nI (k + 1))), (8, .int (nI k)), (10, .int (bI (gV q (sd q) fx fy k))), (0, .ref p0), (1, .ref rF), (2, .ref rT), (3, .int (nI q)), (4, .int 1), (5, .ref afx), (6, .ref afy), (7, .int (sd q))]) hx hb dX1_pass_188 hl (k := 10) rfl (nI_1 _) (by decide) rfl (fun ls hl => ?_)
              have e : u2 = (psV cap tx ty q (sd q) fx fy n (k + 1)) := by rw [psV, psL, out_01 (bI_eq.mp c93) (bI_ne c158), mpU_snoc, hu2]; unfold psV psL at hw2; rw [adP, if_pos hw2]; rfl
              have hlen2 : (psL q (sd q) fx fy n (k + 1)).length ≤ cap := by rw [← psV_1 (cap := cap) (tx := tx) (ty := ty), ← e, hu2]; exact hw2
              refine lv_goto (tgt := 60) hx hb dX1_pass_191 (by decide) ?_
              rw [e] at hP hD
              exact ih (k + 1) (by omega) (by omega) (nI k) (fun _ => by rw [prN, if_neg (Nat.succ_ne_zero k)]; rfl) hlen2 H locs hP hD hS ls (lv_sub hl [3, 4, 5, 6, 7, 8, 9, 10, 1, 0] rfl)
            · skip
              replace hP : va_P D vwCl [(p0, .inr (1, [.int (nI wd), .int (nI hg), .ref aC, .ref aT, .ref aS, .ref rP, .ref rO, .ref rE])), (aS, .inl (cI, 4, .inl sd)), (rF, .inr (0, [.ref afx, .ref afy, .int (nI n)])), (afx, .inl (cI, cap, .inl fx)), (afy, .inl (cI, cap, .inl fy)), (rT, .inr (0, [.ref atx, .ref aty, .int (nI u2.1)])), (atx, .inl (cI, cap, .inl u2.2.1)), (aty, .inl (cI, cap, .inl u2.2.2))] H := hP.sub [0, 1, 2, 3, 4, 5, 6, 7] rfl
              replace hD : va_D A [(p0, .inr (1, [.int (nI wd), .int (nI hg), .ref aC, .ref aT, .ref aS, .ref rP, .ref rO, .ref rE])), (aS, .inl (cI, 4, .inl sd)), (rF, .inr (0, [.ref afx, .ref afy, .int (nI n)])), (afx, .inl (cI, cap, .inl fx)), (afy, .inl (cI, cap, .inl fy)), (rT, .inr (0, [.ref atx, .ref aty, .int (nI u2.1)])), (atx, .inl (cI, cap, .inl u2.2.1)), (aty, .inl (cI, cap, .inl u2.2.2))] := hD.sub [0, 1, 2, 3, 4, 5, 6, 7] (by decide) rfl
              refine lv_if_ne (tgt := 184) hx hb dX1_pass_179 (by decide) (fun c179 => absurd (by decide) c179) (fun c179 => ?_)
              refine lv_iconst (v := 0) hx hb dX1_pass_182 (by decide) ?_
              exact W.zret (v := 0) hx hb hr rfl (fun t ht hW => ⟨⟨0, u2, rfl, Or.inr ⟨rfl, by have a := ps_good0 (bI_ne c158) hk2; rw [psV_1] at hw2; omega⟩, by rw [ht]; exact hP, by rw [hAe]; exact hD⟩, hS.F ht⟩) hS.2.2 dX1_pass_183
        · skip
          refine lv_aload hx hb dX1_pass_96 (lv_at hl 6 rfl) ?_
          refine lv_iload hx hb dX1_pass_98 (lv_at hl 9 rfl) ?_
          refine q_iald (k := (prN n k)) hx hb hK.1 hP 3 0 rfl rfl (Nat.lt_of_lt_of_le hp hn) (by omega) dX1_pass_100 ?_
          refine lv_aload hx hb dX1_pass_101 (lv_at hl 7 rfl) ?_
          refine lv_iload hx hb dX1_pass_103 (lv_at hl 9 rfl) ?_
          refine q_iald (k := (prN n k)) hx hb hK.1 hP 4 0 rfl rfl (Nat.lt_of_lt_of_le hp hn) (by omega) dX1_pass_105 ?_
          refine lv_aload hx hb dX1_pass_106 (lv_at hl 6 rfl) ?_
          refine lv_iload hx hb dX1_pass_108 (lv_at hl 10 rfl) ?_
          refine q_iald (k := k) hx hb hK.1 hP 3 0 rfl rfl (by omega) (by omega) dX1_pass_110 ?_
          refine lv_aload hx hb dX1_pass_111 (lv_at hl 7 rfl) ?_
          refine lv_iload hx hb dX1_pass_113 (lv_at hl 10 rfl) ?_
          refine q_iald (k := k) hx hb hK.1 hP 4 0 rfl rfl (by omega) (by omega) dX1_pass_115 ?_
          refine lv_iload hx hb dX1_pass_116 (lv_at hl 8 rfl) ?_
          have hgg : ¬ (gV q (sd q) fx fy k) = (gV q (sd q) fx fy (prN n k)) := fun h => c93 (by rw [h])
          have hgd : ¬ fx k - fx (prN n k) = 0 := gd_ne (q := q) (s := sd q) (fun h => hgg (by rw [gV, gV, if_pos hq2, if_pos hq2]; exact h))
          refine rd_i (va_runS (As := [.int (fx (prN n k)), .int (fy (prN n k)), .int (fx k), .int (fy k), .int (sd q)]) ⟨hx, hb, hml, hown, hts⟩ (kX1_cutAcross l D cI cZ (fx (prN n k)) (fy (prN n k)) (fx k) (fy k) (sd q) hgd) (va_cwS 5 hts gX1_pass_X1_cutAcross rfl rfl rfl (by decide +kernel) ⟨Nat.le_of_ble_eq_true rfl, Nat.le_of_ble_eq_true rfl⟩) rd_pre0 rfl rfl hl.1 rfl (lv_room (Nat.le_of_ble_eq_true rfl)) dX1_pass_118 ⟨Nat.zero_le _, Nat.zero_le _⟩) ?_
          refine lv_istore (lv' := [(11, .int (caI (fx (prN n k)) (fy (prN n k)) (fx k) (fy k) (sd q))), (10, .int (bI (gV q (sd q) fx fy k))), (0, .ref p0), (1, .ref rF), (2, .ref rT), (3, .int (nI q)), (4, .int 1), (5, .ref afx), (6, .ref afy), (7, .int (sd q)), (8, .int (nI (prN n k))), (9, .int (nI k))]) hx hb dX1_pass_121 hl (by decide) rfl (fun ls hl => ?_)
          refine lv_aload_n hx hb dX1_pass_123 rfl (lv_at hl 4 rfl) ?_
          refine lv_iload hx hb dX1_pass_124 (lv_at hl 6 rfl) ?_
          refine lv_if_eq (tgt := 134) hx hb dX1_pass_126 (by decide) (fun c126 => absurd c126 (by decide)) (fun c126 => ?_)
          refine lv_iload hx hb dX1_pass_129 (lv_at hl 9 rfl) ?_
          refine lv_goto (tgt := 136) hx hb dX1_pass_131 (by decide) ?_
          refine lv_iload hx hb dX1_pass_136 (lv_at hl 6 rfl) ?_
          refine lv_if_eq (tgt := 146) hx hb dX1_pass_138 (by decide) (fun c138 => absurd c138 (by decide)) (fun c138 => ?_)
          refine lv_iload hx hb dX1_pass_141 (lv_at hl 0 rfl) ?_
          refine lv_goto (tgt := 148) hx hb dX1_pass_143 (by decide) ?_
          refine wr_i (wr := [(p0, .inr (1, [.int (nI wd), .int (nI hg), .ref aC, .ref aT, .ref aS, .ref rP, .ref rO, .ref rE])), (aS, .inl (cI, 4, .inl sd)), (rF, .inr (0, [.ref afx, .ref afy, .int (nI n)])), (afx, .inl (cI, cap, .inl fx)), (afy, .inl (cI, cap, .inl fy))]) hP hD hS hA [5, 6, 7] [0, 1, 2, 3, 4] rfl rfl (by decide) (by decide) (va_runVN (C := RX0) (As := [.int (sd q), .int (caI (fx (prN n k)) (fy (prN n k)) (fx k) (fy k) (sd q))]) ⟨hx, hb, hml, hown, hts⟩ (kX0_append l D cI cZ H.size rT atx aty (psV cap tx ty q (sd q) fx fy n k).1 cap (psV cap tx ty q (sd q) fx fy n k).2.1 (psV cap tx ty q (sd q) fx fy n k).2.2 (sd q) (caI (fx (prN n k)) (fy (prN n k)) (fx k) (fy k) (sd q)) hv hc) ⟨va_cnB 2 hts gX1_pass_X0_append_n59 rfl rfl rfl hK.2.2.2.2.2.1 (hts (.initialized RX0) (by decide +kernel)) (by decide +kernel) ⟨Nat.le_of_ble_eq_true rfl, Nat.le_of_ble_eq_true rfl⟩, hts (.instanceMethod yX0_append) (by decide +kernel), hts (.selects RX0 yX0_append yX0_append) (by decide +kernel)⟩ (wr_preV (ci := 0) (q0 := 0) (hP.sub [5, 6, 7] rfl) hK (hD.sub [5, 6, 7] (by decide) rfl) rfl rfl) rfl rfl hl.1 rfl (lv_room (Nat.le_of_ble_eq_true rfl)) dX1_pass_148 ⟨Nat.zero_le _, Nat.zero_le _⟩) (fun r1 u1 H locs hw1 hP hD hS => ?_)
          rcases hw1 with ⟨hw1, rfl, hu1⟩ | ⟨hw1, rfl, hu1⟩
          · skip
            replace hP : va_P D vwCl [(p0, .inr (1, [.int (nI wd), .int (nI hg), .ref aC, .ref aT, .ref aS, .ref rP, .ref rO, .ref rE])), (aS, .inl (cI, 4, .inl sd)), (rF, .inr (0, [.ref afx, .ref afy, .int (nI n)])), (afx, .inl (cI, cap, .inl fx)), (afy, .inl (cI, cap, .inl fy)), (rT, .inr (0, [.ref atx, .ref aty, .int (nI u1.1)])), (atx, .inl (cI, cap, .inl u1.2.1)), (aty, .inl (cI, cap, .inl u1.2.2))] H := hP.sub [0, 1, 2, 3, 4, 5, 6, 7] rfl
            replace hD : va_D A [(p0, .inr (1, [.int (nI wd), .int (nI hg), .ref aC, .ref aT, .ref aS, .ref rP, .ref rO, .ref rE])), (aS, .inl (cI, 4, .inl sd)), (rF, .inr (0, [.ref afx, .ref afy, .int (nI n)])), (afx, .inl (cI, cap, .inl fx)), (afy, .inl (cI, cap, .inl fy)), (rT, .inr (0, [.ref atx, .ref aty, .int (nI u1.1)])), (atx, .inl (cI, cap, .inl u1.2.1)), (aty, .inl (cI, cap, .inl u1.2.2))] := hD.sub [0, 1, 2, 3, 4, 5, 6, 7] (by decide) rfl
            refine lv_if_ne (tgt := 156) hx hb dX1_pass_151 (by decide) (fun c151 => ?_) (fun c151 => absurd c151 (by decide))
            refine lv_iload hx hb dX1_pass_156 (lv_at hl 1 rfl) ?_
            refine lv_if_eq (tgt := 184) hx hb dX1_pass_158 (by decide) (fun c158 => ?_) (fun c158 => ?_)
            · skip
              refine lv_iload hx hb dX1_pass_184 (lv_at hl 11 rfl) ?_
              refine lv_istore (lv' := [(8, .int (nI k)), (11, .int (caI (fx (prN n k)) (fy (prN n k)) (fx k) (fy k) (sd q))), (10, .int (bI (gV q (sd q) fx fy k))), (0, .ref p0), (1, .ref rF), (2, .ref rT), (3, .int (nI q)), (4, .int 1), (5, .ref afx), (6, .ref afy), (7, .int (sd q)), (9, .int (nI k))]) hx hb dX1_pass_186 hl (by decide) rfl (fun ls hl => ?_)
              refine lv_iinc (v := (nI (k + 1))) (lv' := [(9, .int (nI (k + 1))), (8, .int (nI k)), (11, .int (caI (fx (prN n k)) (fy (prN n k)) (fx k) (fy k) (sd q))), (10, .int (bI (gV q (sd q) fx fy k))), (0, .ref p0), (1, .ref rF), (2, .ref rT), (3, .int (nI q)), (4, .int 1), (5, .ref afx), (6, .ref afy), (7, .int (sd q))]) hx hb dX1_pass_188 hl (k := 11) rfl (nI_1 _) (by decide) rfl (fun ls hl => ?_)
              have e : u1 = (psV cap tx ty q (sd q) fx fy n (k + 1)) := by rw [psV, psL, out_10 hgg (bI_eq0.mp c158), mpU_snoc, ctV, if_pos hq2, hu1]; unfold psV psL at hw1; rw [adP, if_pos hw1]; rfl
              have hlen2 : (psL q (sd q) fx fy n (k + 1)).length ≤ cap := by rw [← psV_1 (cap := cap) (tx := tx) (ty := ty), ← e, hu1]; exact hw1
              refine lv_goto (tgt := 60) hx hb dX1_pass_191 (by decide) ?_
              rw [e] at hP hD
              exact ih (k + 1) (by omega) (by omega) (nI k) (fun _ => by rw [prN, if_neg (Nat.succ_ne_zero k)]; rfl) hlen2 H locs hP hD hS ls (lv_sub hl [4, 5, 6, 7, 8, 9, 10, 11, 1, 0] rfl)
            · skip
              refine lv_aload_n hx hb dX1_pass_161 rfl (lv_at hl 4 rfl) ?_
              refine lv_aload_n hx hb dX1_pass_162 rfl (lv_at hl 3 rfl) ?_
              refine va_getN (D := D) (ci := 0) (v := .ref afx) (C := RX0) (T := TX0) (N := 3) hx hb hts nX1_pass_X0 hown hK.1 hP 2 rfl rfl 0 (by decide) (hK.2.xs _) (fun _ h9 => h9) rfl dX1_pass_163 ?_
              refine lv_iload hx hb dX1_pass_166 (lv_at hl 11 rfl) ?_
              refine q_iald (k := k) hx hb hK.1 hP 3 0 rfl rfl (by omega) (by omega) dX1_pass_168 ?_
              refine lv_aload_n hx hb dX1_pass_169 rfl (lv_at hl 3 rfl) ?_
              refine va_getN (D := D) (ci := 0) (v := .ref afy) (C := RX0) (T := TX0) (N := 3) hx hb hts nX1_pass_X0 hown hK.1 hP 2 rfl rfl 1 (by decide) (hK.2.ys _) (fun _ h9 => h9) rfl dX1_pass_170 ?_
              refine lv_iload hx hb dX1_pass_173 (lv_at hl 11 rfl) ?_
              refine q_iald (k := k) hx hb hK.1 hP 4 0 rfl rfl (by omega) (by omega) dX1_pass_175 ?_
              refine wr_i (wr := [(p0, .inr (1, [.int (nI wd), .int (nI hg), .ref aC, .ref aT, .ref aS, .ref rP, .ref rO, .ref rE])), (aS, .inl (cI, 4, .inl sd)), (rF, .inr (0, [.ref afx, .ref afy, .int (nI n)])), (afx, .inl (cI, cap, .inl fx)), (afy, .inl (cI, cap, .inl fy))]) hP hD hS hA [5, 6, 7] [0, 1, 2, 3, 4] rfl rfl (by decide) (by decide) (va_runVN (C := RX0) (As := [.int (fx k), .int (fy k)]) ⟨hx, hb, hml, hown, hts⟩ (kX0_append l D cI cZ H.size rT atx aty u1.1 cap u1.2.1 u1.2.2 (fx k) (fy k) (by rw [hu1]; exact hw1) hc) ⟨va_cnB 2 hts gX1_pass_X0_append_n59 rfl rfl rfl hK.2.2.2.2.2.1 (hts (.initialized RX0) (by decide +kernel)) (by decide +kernel) ⟨Nat.le_of_ble_eq_true rfl, Nat.le_of_ble_eq_true rfl⟩, hts (.instanceMethod yX0_append) (by decide +kernel), hts (.selects RX0 yX0_append yX0_append) (by decide +kernel)⟩ (wr_preV (ci := 0) (q0 := 0) (hP.sub [5, 6, 7] rfl) hK (hD.sub [5, 6, 7] (by decide) rfl) rfl rfl) rfl rfl hl.1 rfl (lv_room (Nat.le_of_ble_eq_true rfl)) dX1_pass_176 ⟨Nat.zero_le _, Nat.zero_le _⟩) (fun r2 u2 H locs hw2 hP hD hS => ?_)
              rcases hw2 with ⟨hw2, rfl, hu2⟩ | ⟨hw2, rfl, hu2⟩
              · skip
                replace hP : va_P D vwCl [(p0, .inr (1, [.int (nI wd), .int (nI hg), .ref aC, .ref aT, .ref aS, .ref rP, .ref rO, .ref rE])), (aS, .inl (cI, 4, .inl sd)), (rF, .inr (0, [.ref afx, .ref afy, .int (nI n)])), (afx, .inl (cI, cap, .inl fx)), (afy, .inl (cI, cap, .inl fy)), (rT, .inr (0, [.ref atx, .ref aty, .int (nI u2.1)])), (atx, .inl (cI, cap, .inl u2.2.1)), (aty, .inl (cI, cap, .inl u2.2.2))] H := hP.sub [0, 1, 2, 3, 4, 5, 6, 7] rfl
                replace hD : va_D A [(p0, .inr (1, [.int (nI wd), .int (nI hg), .ref aC, .ref aT, .ref aS, .ref rP, .ref rO, .ref rE])), (aS, .inl (cI, 4, .inl sd)), (rF, .inr (0, [.ref afx, .ref afy, .int (nI n)])), (afx, .inl (cI, cap, .inl fx)), (afy, .inl (cI, cap, .inl fy)), (rT, .inr (0, [.ref atx, .ref aty, .int (nI u2.1)])), (atx, .inl (cI, cap, .inl u2.2.1)), (aty, .inl (cI, cap, .inl u2.2.2))] := hD.sub [0, 1, 2, 3, 4, 5, 6, 7] (by decide) rfl
                refine lv_if_ne (tgt := 184) hx hb dX1_pass_179 (by decide) (fun c179 => ?_) (fun c179 => absurd c179 (by decide))
                refine lv_iload hx hb dX1_pass_184 (lv_at hl 11 rfl) ?_
                refine lv_istore (lv' := [(8, .int (nI k)), (11, .int (caI (fx (prN n k)) (fy (prN n k)) (fx k) (fy k) (sd q))), (10, .int (bI (gV q (sd q) fx fy k))), (0, .ref p0), (1, .ref rF), (2, .ref rT), (3, .int (nI q)), (4, .int 1), (5, .ref afx), (6, .ref afy), (7, .int (sd q)), (9, .int (nI k))]) hx hb dX1_pass_186 hl (by decide) rfl (fun ls hl => ?_)
                refine lv_iinc (v := (nI (k + 1))) (lv' := [(9, .int (nI (k + 1))), (8, .int (nI k)), (11, .int (caI (fx (prN n k)) (fy (prN n k)) (fx k) (fy k) (sd q))), (10, .int (bI (gV q (sd q) fx fy k))), (0, .ref p0), (1, .ref rF), (2, .ref rT), (3, .int (nI q)), (4, .int 1), (5, .ref afx), (6, .ref afy), (7, .int (sd q))]) hx hb dX1_pass_188 hl (k := 11) rfl (nI_1 _) (by decide) rfl (fun ls hl => ?_)
                have e2 : u2 = adP cap u1 (fx k) (fy k) := by rw [hu2, adP, if_pos hw2]
                have e1 : u1 = adP cap (psV cap tx ty q (sd q) fx fy n k) (sd q) (caI (fx (prN n k)) (fy (prN n k)) (fx k) (fy k) (sd q)) := by rw [hu1, adP, if_pos hw1]
                have e : u2 = (psV cap tx ty q (sd q) fx fy n (k + 1)) := by rw [psV, psL, out_11 hgg (bI_ne c158), mpU_snoc, mpU_snoc, e2, e1, ctV, if_pos hq2]; rfl
                have hlen2 : (psL q (sd q) fx fy n (k + 1)).length ≤ cap := by rw [← psV_1 (cap := cap) (tx := tx) (ty := ty), ← e, hu2]; exact hw2
                refine lv_goto (tgt := 60) hx hb dX1_pass_191 (by decide) ?_
                rw [e] at hP hD
                exact ih (k + 1) (by omega) (by omega) (nI k) (fun _ => by rw [prN, if_neg (Nat.succ_ne_zero k)]; rfl) hlen2 H locs hP hD hS ls (lv_sub hl [4, 5, 6, 7, 8, 9, 10, 11, 1, 0] rfl)
              · skip
                replace hP : va_P D vwCl [(p0, .inr (1, [.int (nI wd), .int (nI hg), .ref aC, .ref aT, .ref aS, .ref rP, .ref rO, .ref rE])), (aS, .inl (cI, 4, .inl sd)), (rF, .inr (0, [.ref afx, .ref afy, .int (nI n)])), (afx, .inl (cI, cap, .inl fx)), (afy, .inl (cI, cap, .inl fy)), (rT, .inr (0, [.ref atx, .ref aty, .int (nI u2.1)])), (atx, .inl (cI, cap, .inl u2.2.1)), (aty, .inl (cI, cap, .inl u2.2.2))] H := hP.sub [0, 1, 2, 3, 4, 5, 6, 7] rfl
                replace hD : va_D A [(p0, .inr (1, [.int (nI wd), .int (nI hg), .ref aC, .ref aT, .ref aS, .ref rP, .ref rO, .ref rE])), (aS, .inl (cI, 4, .inl sd)), (rF, .inr (0, [.ref afx, .ref afy, .int (nI n)])), (afx, .inl (cI, cap, .inl fx)), (afy, .inl (cI, cap, .inl fy)), (rT, .inr (0, [.ref atx, .ref aty, .int (nI u2.1)])), (atx, .inl (cI, cap, .inl u2.2.1)), (aty, .inl (cI, cap, .inl u2.2.2))] := hD.sub [0, 1, 2, 3, 4, 5, 6, 7] (by decide) rfl
                refine lv_if_ne (tgt := 184) hx hb dX1_pass_179 (by decide) (fun c179 => absurd (by decide) c179) (fun c179 => ?_)
                refine lv_iconst (v := 0) hx hb dX1_pass_182 (by decide) ?_
                exact W.zret (v := 0) hx hb hr rfl (fun t ht hW => ⟨⟨0, u2, rfl, Or.inr ⟨rfl, by have a := ps_good1 hgg (bI_ne c158) hk2; rw [hu1] at hw2; have b : cap ≤ (psV cap tx ty q (sd q) fx fy n k).1 + 1 := hw2; rw [psV_1] at b; omega⟩, by rw [ht]; exact hP, by rw [hAe]; exact hD⟩, hS.F ht⟩) hS.2.2 dX1_pass_183
          · skip
            replace hP : va_P D vwCl [(p0, .inr (1, [.int (nI wd), .int (nI hg), .ref aC, .ref aT, .ref aS, .ref rP, .ref rO, .ref rE])), (aS, .inl (cI, 4, .inl sd)), (rF, .inr (0, [.ref afx, .ref afy, .int (nI n)])), (afx, .inl (cI, cap, .inl fx)), (afy, .inl (cI, cap, .inl fy)), (rT, .inr (0, [.ref atx, .ref aty, .int (nI u1.1)])), (atx, .inl (cI, cap, .inl u1.2.1)), (aty, .inl (cI, cap, .inl u1.2.2))] H := hP.sub [0, 1, 2, 3, 4, 5, 6, 7] rfl
            replace hD : va_D A [(p0, .inr (1, [.int (nI wd), .int (nI hg), .ref aC, .ref aT, .ref aS, .ref rP, .ref rO, .ref rE])), (aS, .inl (cI, 4, .inl sd)), (rF, .inr (0, [.ref afx, .ref afy, .int (nI n)])), (afx, .inl (cI, cap, .inl fx)), (afy, .inl (cI, cap, .inl fy)), (rT, .inr (0, [.ref atx, .ref aty, .int (nI u1.1)])), (atx, .inl (cI, cap, .inl u1.2.1)), (aty, .inl (cI, cap, .inl u1.2.2))] := hD.sub [0, 1, 2, 3, 4, 5, 6, 7] (by decide) rfl
            refine lv_if_ne (tgt := 156) hx hb dX1_pass_151 (by decide) (fun c151 => absurd (by decide) c151) (fun c151 => ?_)
            refine lv_iconst (v := 0) hx hb dX1_pass_154 (by decide) ?_
            exact W.zret (v := 0) hx hb hr rfl (fun t ht hW => ⟨⟨0, u1, rfl, Or.inr ⟨rfl, by have a := ps_cut hgg hk2; rw [psV_1] at hw1; omega⟩, by rw [ht]; exact hP, by rw [hAe]; exact hD⟩, hS.F ht⟩) hS.2.2 dX1_pass_155
  refine lv_iload_n hx hb dX1_pass_0 rfl (lv_at hl 3 rfl) ?_
  refine lv_iconst (v := 2) hx hb dX1_pass_1 (by decide) ?_
  refine lv_icmp_ge (tgt := 9) hx hb dX1_pass_2 (by decide) (fun c2 => absurd c2 (fun h => absurd ((nI_leI (a := 2) (by omega) (by omega)).mp h) (by omega))) (fun c2 => ?_)
  refine lv_iconst (v := 1) hx hb dX1_pass_5 (by decide) ?_
  refine lv_goto (tgt := 10) hx hb dX1_pass_6 (by decide) ?_
  refine lv_istore (lv' := [(4, .int 1), (0, .ref p0), (1, .ref rF), (2, .ref rT), (3, .int (nI q))]) hx hb dX1_pass_10 hl (by decide) rfl (fun ls hl => ?_)
  refine lv_aload_n hx hb dX1_pass_12 rfl (lv_at hl 2 rfl) ?_
  refine lv_iload hx hb dX1_pass_13 (lv_at hl 0 rfl) ?_
  refine q_eq (show (1 : Int32) = bI true from rfl) ?_
  refine rd_r (x := afx) (va_runVN (C := RX0) (As := [.int (bI true)]) ⟨hx, hb, hml, hown, hts⟩ (kX0_axis l D cI cZ rF afx afy n cap fx fy true) ⟨va_cnB 1 hts gX1_pass_X0_axis_n100 rfl rfl rfl hK.2.2.2.2.2.2.2.2.2 (hts (.initialized RX0) (by decide +kernel)) (by decide +kernel) ⟨Nat.le_of_ble_eq_true rfl, Nat.le_of_ble_eq_true rfl⟩, hts (.instanceMethod yX0_axis) (by decide +kernel), hts (.selects RX0 yX0_axis yX0_axis) (by decide +kernel)⟩ (rd_preV (ci := 0) (q0 := 0) (hP.sub [2, 3, 4] rfl) hK rfl rfl) rfl rfl hl.1 rfl (lv_room (Nat.le_of_ble_eq_true rfl)) dX1_pass_15 ⟨Nat.zero_le _, Nat.zero_le _⟩) ?_
  refine lv_astore (lv' := [(5, .ref afx), (4, .int 1), (0, .ref p0), (1, .ref rF), (2, .ref rT), (3, .int (nI q))]) hx hb dX1_pass_18 hl (by decide) rfl (fun ls hl => ?_)
  refine lv_aload_n hx hb dX1_pass_20 rfl (lv_at hl 3 rfl) ?_
  refine lv_iload hx hb dX1_pass_21 (lv_at hl 1 rfl) ?_
  refine lv_if_ne (tgt := 30) hx hb dX1_pass_23 (by decide) (fun c23 => ?_) (fun c23 => absurd c23 (by decide))
  refine lv_iconst (v := 0) hx hb dX1_pass_30 (by decide) ?_
  refine q_eq (show (0 : Int32) = bI false from rfl) ?_
  refine rd_r (x := afy) (va_runVN (C := RX0) (As := [.int (bI false)]) ⟨hx, hb, hml, hown, hts⟩ (kX0_axis l D cI cZ rF afx afy n cap fx fy false) ⟨va_cnB 1 hts gX1_pass_X0_axis_n100 rfl rfl rfl hK.2.2.2.2.2.2.2.2.2 (hts (.initialized RX0) (by decide +kernel)) (by decide +kernel) ⟨Nat.le_of_ble_eq_true rfl, Nat.le_of_ble_eq_true rfl⟩, hts (.instanceMethod yX0_axis) (by decide +kernel), hts (.selects RX0 yX0_axis yX0_axis) (by decide +kernel)⟩ (rd_preV (ci := 0) (q0 := 0) (hP.sub [2, 3, 4] rfl) hK rfl rfl) rfl rfl hl.1 rfl (lv_room (Nat.le_of_ble_eq_true rfl)) dX1_pass_31 ⟨Nat.zero_le _, Nat.zero_le _⟩) ?_
  refine lv_astore (lv' := [(6, .ref afy), (5, .ref afx), (4, .int 1), (0, .ref p0), (1, .ref rF), (2, .ref rT), (3, .int (nI q))]) hx hb dX1_pass_34 hl (by decide) rfl (fun ls hl => ?_)
  refine lv_aload_n hx hb dX1_pass_36 rfl (lv_at hl 3 rfl) ?_
  refine va_get (D := D) (ci := 1) (v := .ref aS) (C := RX1) (T := TX1) (N := 8) hx hb hts nX1_pass_X1 hown hK.1 hP 0 rfl rfl 4 (by decide) (hts (.fieldLink RX1 28 "PolygonFrame" "sides" "[I") (by decide +kernel)) (fun _ h9 => h9) rfl dX1_pass_37 ?_
  refine lv_iload_n hx hb dX1_pass_40 rfl (lv_at hl 6 rfl) ?_
  refine q_iald (k := q) hx hb hK.1 hP 1 0 rfl rfl (by omega) (by omega) dX1_pass_41 ?_
  refine lv_istore (lv' := [(7, .int (sd q)), (6, .ref afy), (5, .ref afx), (4, .int 1), (0, .ref p0), (1, .ref rF), (2, .ref rT), (3, .int (nI q))]) hx hb dX1_pass_42 hl (by decide) rfl (fun ls hl => ?_)
  refine lv_aload_n hx hb dX1_pass_44 rfl (lv_at hl 6 rfl) ?_
  refine lv_iconst (v := 0) hx hb dX1_pass_45 (by decide) ?_
  refine va_putN (D := D) (ci := 0) (v := .int 0) (ty := .int) (C := RX0) (T := TX0) (N := 3) hx hb hts nX1_pass_X0 tyX0 tyX0_ok nmX0 hown hK.1 hP hD hS 5 rfl rfl 2 (by decide) (hK.2.count _) (fun _ h9 => h9) rfl (tyX0_ok 2 (by decide)) rfl rfl (Nat.le_of_ble_eq_true rfl) dX1_pass_46 (fun H locs hP hD hS => ?_)
  have hP : va_P D vwCl [(p0, .inr (1, [.int (nI wd), .int (nI hg), .ref aC, .ref aT, .ref aS, .ref rP, .ref rO, .ref rE])), (aS, .inl (cI, 4, .inl sd)), (rF, .inr (0, [.ref afx, .ref afy, .int (nI n)])), (afx, .inl (cI, cap, .inl fx)), (afy, .inl (cI, cap, .inl fy)), (rT, .inr (0, [.ref atx, .ref aty, .int 0])), (atx, .inl (cI, cap, .inl tx)), (aty, .inl (cI, cap, .inl ty))] H := hP
  have hD : va_D A [(p0, .inr (1, [.int (nI wd), .int (nI hg), .ref aC, .ref aT, .ref aS, .ref rP, .ref rO, .ref rE])), (aS, .inl (cI, 4, .inl sd)), (rF, .inr (0, [.ref afx, .ref afy, .int (nI n)])), (afx, .inl (cI, cap, .inl fx)), (afy, .inl (cI, cap, .inl fy)), (rT, .inr (0, [.ref atx, .ref aty, .int 0])), (atx, .inl (cI, cap, .inl tx)), (aty, .inl (cI, cap, .inl ty))] := hD
  refine lv_aload_n hx hb dX1_pass_49 rfl (lv_at hl 5 rfl) ?_
  refine va_getN (D := D) (ci := 0) (v := .int (nI n)) (C := RX0) (T := TX0) (N := 3) hx hb hts nX1_pass_X0 hown hK.1 hP 2 rfl rfl 2 (by decide) (hK.2.count _) (fun _ h9 => h9) rfl dX1_pass_50 ?_
  refine lv_iconst (v := 1) hx hb dX1_pass_53 (by decide) ?_
  refine lv_isub hx hb dX1_pass_54 ?_
  refine lv_istore (lv' := [(8, .int ((nI n) - 1)), (7, .int (sd q)), (6, .ref afy), (5, .ref afx), (4, .int 1), (0, .ref p0), (1, .ref rF), (2, .ref rT), (3, .int (nI q))]) hx hb dX1_pass_55 hl (by decide) rfl (fun ls hl => ?_)
  refine lv_iconst (v := 0) hx hb dX1_pass_57 (by decide) ?_
  refine lv_istore (lv' := [(9, .int 0), (8, .int ((nI n) - 1)), (7, .int (sd q)), (6, .ref afy), (5, .ref afx), (4, .int 1), (0, .ref p0), (1, .ref rF), (2, .ref rT), (3, .int (nI q))]) hx hb dX1_pass_58 hl (by decide) rfl (fun ls hl => ?_)
  exact LOOP (n + 1) 0 (Nat.zero_le _) (by omega) (nI n - 1) (fun h => by rw [prN, if_pos rfl, ← pk_sub (a := n) (b := 1) (by omega)]; rfl) (Nat.zero_le _) H locs hP hD hS ls (lv_sub hl [6, 7, 8, 9, 5, 4, 3, 2, 1, 0] rfl)
set_option maxHeartbeats 4000000 in
set_option maxRecDepth 100000 in
theorem kX1_passY (l : Launch) (D : va_G) (cI cZ : ClassId) (sz : Nat) (p0 aC aT aS rP rO rE wd hg : Nat) (rF afx afy rT atx aty n cap : Nat) (tc : Int32) (sd fx fy tx ty : Nat → Int32) (q : Nat) (hq : q < 4) (hq2 : ¬ q < 2) (hn : n ≤ cap) (hc : cap ≤ 60) : Met l yX1_pass wsX1_pass ({ frames := 2, cells := 0, slots := 0, locals := 80 }) (va_Pc [.ref p0, .ref rF, .ref rT, .int (nI q)] (wrP D cI cZ sz [(p0, .inr (1, [.int (nI wd), .int (nI hg), .ref aC, .ref aT, .ref aS, .ref rP, .ref rO, .ref rE])), (aS, .inl (cI, 4, .inl sd)), (rF, .inr (0, [.ref afx, .ref afy, .int (nI n)])), (afx, .inl (cI, cap, .inl fx)), (afy, .inl (cI, cap, .inl fy)), (rT, .inr (0, [.ref atx, .ref aty, .int tc])), (atx, .inl (cI, cap, .inl tx)), (aty, .inl (cI, cap, .inl ty))])) (va_Qi (S := Nat × (Nat → Int32) × (Nat → Int32)) (fun r u => (r = 1 ∧ (psL q (sd q) fx fy n n).length ≤ cap ∧ u = (psV cap tx ty q (sd q) fx fy n n)) ∨ (r = 0 ∧ cap < (psL q (sd q) fx fy n n).length)) (wrB D [(p0, .inr (1, [.int (nI wd), .int (nI hg), .ref aC, .ref aT, .ref aS, .ref rP, .ref rO, .ref rE])), (aS, .inl (cI, 4, .inl sd)), (rF, .inr (0, [.ref afx, .ref afy, .int (nI n)])), (afx, .inl (cI, cap, .inl fx)), (afy, .inl (cI, cap, .inl fy)), (rT, .inr (0, [.ref atx, .ref aty, .int tc])), (atx, .inl (cI, cap, .inl tx)), (aty, .inl (cI, cap, .inl ty))] sz (fun z => [(p0, .inr (1, [.int (nI wd), .int (nI hg), .ref aC, .ref aT, .ref aS, .ref rP, .ref rO, .ref rE])), (aS, .inl (cI, 4, .inl sd)), (rF, .inr (0, [.ref afx, .ref afy, .int (nI n)])), (afx, .inl (cI, cap, .inl fx)), (afy, .inl (cI, cap, .inl fy)), (rT, .inr (0, [.ref atx, .ref aty, .int (nI z.1)])), (atx, .inl (cI, cap, .inl z.2.1)), (aty, .inl (cI, cap, .inl z.2.2))])) (va_A [(p0, .inr (1, [.int (nI wd), .int (nI hg), .ref aC, .ref aT, .ref aS, .ref rP, .ref rO, .ref rE])), (aS, .inl (cI, 4, .inl sd)), (rF, .inr (0, [.ref afx, .ref afy, .int (nI n)])), (afx, .inl (cI, cap, .inl fx)), (afy, .inl (cI, cap, .inl fy)), (rT, .inr (0, [.ref atx, .ref aty, .int tc])), (atx, .inl (cI, cap, .inl tx)), (aty, .inl (cI, cap, .inl ty))] sz)) 0 0 (va_A [(p0, .inr (1, [.int (nI wd), .int (nI hg), .ref aC, .ref aT, .ref aS, .ref rP, .ref rO, .ref rE])), (aS, .inl (cI, 4, .inl sd)), (rF, .inr (0, [.ref afx, .ref afy, .int (nI n)])), (afx, .inl (cI, cap, .inl fx)), (afy, .inl (cI, cap, .inl fy)), (rT, .inr (0, [.ref atx, .ref aty, .int tc])), (atx, .inl (cI, cap, .inl tx)), (aty, .inl (cI, cap, .inl ty))] sz) := by
  refine Met.ofW (cc := cX1_pass) (maxL := 12) (ret := (some .boolean)) (by decide) rfl ?_
  intro p e s m args below meth c s₁ B hml hv
  obtain ⟨rfl, hsz, hP, hK, hD0⟩ := hv
  have hx := B.exec
  have hb := B.bytes
  have hr := B.returns
  have hts := atoms_spec (ws := wsX1_pass) B.pre
  have hown : s.vm.findClass RX1 = some m.cls := findClass_of_methodNamed B.named
  have hlocks := B.notSynchronized
  subst hsz
  have hD := hD0.self (sz := s.heap.size)
  generalize hAe : va_A [(p0, .inr (1, [.int (nI wd), .int (nI hg), .ref aC, .ref aT, .ref aS, .ref rP, .ref rO, .ref rE])), (aS, .inl (cI, 4, .inl sd)), (rF, .inr (0, [.ref afx, .ref afy, .int (nI n)])), (afx, .inl (cI, cap, .inl fx)), (afy, .inl (cI, cap, .inl fy)), (rT, .inr (0, [.ref atx, .ref aty, .int tc])), (atx, .inl (cI, cap, .inl tx)), (aty, .inl (cI, cap, .inl ty))] s.heap.size = A at hD ⊢
  have hA : ∀ q : Nat, s.heap.size ≤ q → A q := fun q h => by rw [← hAe]; exact Or.inr h
  have hS : va_S A s.heap s.heap [] := va_S.rf
  have hP : va_P D vwCl [(p0, .inr (1, [.int (nI wd), .int (nI hg), .ref aC, .ref aT, .ref aS, .ref rP, .ref rO, .ref rE])), (aS, .inl (cI, 4, .inl sd)), (rF, .inr (0, [.ref afx, .ref afy, .int (nI n)])), (afx, .inl (cI, cap, .inl fx)), (afy, .inl (cI, cap, .inl fy)), (rT, .inr (0, [.ref atx, .ref aty, .int tc])), (atx, .inl (cI, cap, .inl tx)), (aty, .inl (cI, cap, .inl ty))] s.heap := hP
  have hl := lv_entry ([.ref p0, .ref rF, .ref rT, .int (nI q)]) (n := 12) (Nat.le_of_ble_eq_true rfl)
  rw [lg_entry_eq]
  generalize (lg_sl ([.ref p0, .ref rF, .ref rT, .int (nI q)]) ++ List.replicate (12 - (lg_sl ([.ref p0, .ref rF, .ref rT, .int (nI q)])).length) Slot.unset).toArray = ls at hl ⊢
  have hl : lv_has ls 12 [(0, .ref p0), (1, .ref rF), (2, .ref rT), (3, .int (nI q))] := hl
  have LOOP : ∀ (j k : Nat), k ≤ n → n < k + j → ∀ (b8 : Int32), (k < n → b8 = nI (prN n k)) → (psL q (sd q) fx fy n k).length ≤ cap → ∀ (H : Heap) (locs : List Loc), va_P D vwCl [(p0, .inr (1, [.int (nI wd), .int (nI hg), .ref aC, .ref aT, .ref aS, .ref rP, .ref rO, .ref rE])), (aS, .inl (cI, 4, .inl sd)), (rF, .inr (0, [.ref afx, .ref afy, .int (nI n)])), (afx, .inl (cI, cap, .inl fx)), (afy, .inl (cI, cap, .inl fy)), (rT, .inr (0, [.ref atx, .ref aty, .int (nI (psV cap tx ty q (sd q) fx fy n k).1)])), (atx, .inl (cI, cap, .inl ((psV cap tx ty q (sd q) fx fy n k).2.1))), (aty, .inl (cI, cap, .inl ((psV cap tx ty q (sd q) fx fy n k).2.2)))] H → va_D A [(p0, .inr (1, [.int (nI wd), .int (nI hg), .ref aC, .ref aT, .ref aS, .ref rP, .ref rO, .ref rE])), (aS, .inl (cI, 4, .inl sd)), (rF, .inr (0, [.ref afx, .ref afy, .int (nI n)])), (afx, .inl (cI, cap, .inl fx)), (afy, .inl (cI, cap, .inl fy)), (rT, .inr (0, [.ref atx, .ref aty, .int (nI (psV cap tx ty q (sd q) fx fy n k).1)])), (atx, .inl (cI, cap, .inl ((psV cap tx ty q (sd q) fx fy n k).2.1))), (aty, .inl (cI, cap, .inl ((psV cap tx ty q (sd q) fx fy n k).2.2)))] → va_S A s.heap H locs → ∀ ls : Array Slot, lv_has ls 12 [(0, .ref p0), (1, .ref rF), (2, .ref rT), (3, .int (nI q)), (4, .int 0), (5, .ref afy), (6, .ref afx), (7, .int (sd q)), (8, .int b8), (9, .int (nI k))] → W p l e ({ frames := 2, cells := 0, slots := 0, locals := 80 } : Room) s m #[.ref p0, .ref rF, .ref rT, .int (nI q)] below meth c H locs 0 0 (MQ below (va_Qi (S := Nat × (Nat → Int32) × (Nat → Int32)) (fun r u => (r = 1 ∧ (psL q (sd q) fx fy n n).length ≤ cap ∧ u = (psV cap tx ty q (sd q) fx fy n n)) ∨ (r = 0 ∧ cap < (psL q (sd q) fx fy n n).length)) (wrB D [(p0, .inr (1, [.int (nI wd), .int (nI hg), .ref aC, .ref aT, .ref aS, .ref rP, .ref rO, .ref rE])), (aS, .inl (cI, 4, .inl sd)), (rF, .inr (0, [.ref afx, .ref afy, .int (nI n)])), (afx, .inl (cI, cap, .inl fx)), (afy, .inl (cI, cap, .inl fy)), (rT, .inr (0, [.ref atx, .ref aty, .int tc])), (atx, .inl (cI, cap, .inl tx)), (aty, .inl (cI, cap, .inl ty))] s.heap.size (fun z => [(p0, .inr (1, [.int (nI wd), .int (nI hg), .ref aC, .ref aT, .ref aS, .ref rP, .ref rO, .ref rE])), (aS, .inl (cI, 4, .inl sd)), (rF, .inr (0, [.ref afx, .ref afy, .int (nI n)])), (afx, .inl (cI, cap, .inl fx)), (afy, .inl (cI, cap, .inl fy)), (rT, .inr (0, [.ref atx, .ref aty, .int (nI z.1)])), (atx, .inl (cI, cap, .inl z.2.1)), (aty, .inl (cI, cap, .inl z.2.2))])) A) #[.ref p0, .ref rF, .ref rT, .int (nI q)] s 0 0 A) (F0 m 60 ls []) := by
    intro j
    induction j with
    | zero => intro k h1 h2; omega
    | succ j ih =>
      intro k hk hkj b8 hb8 hlen H locs hP hD hS ls hl
      have hv : (psV cap tx ty q (sd q) fx fy n k).1 ≤ cap := by rw [psV_1]; exact hlen
      refine lv_iload hx hb dX1_pass_60 (lv_at hl 9 rfl) ?_
      refine lv_aload_n hx hb dX1_pass_62 rfl (lv_at hl 1 rfl) ?_
      refine va_getN (D := D) (ci := 0) (v := .int (nI n)) (C := RX0) (T := TX0) (N := 3) hx hb hts nX1_pass_X0 hown hK.1 hP 2 rfl rfl 2 (by decide) (hK.2.count _) (fun _ h9 => h9) rfl dX1_pass_63 ?_
      refine lv_icmp_ge (tgt := 194) hx hb dX1_pass_66 (by decide) (fun c66 => ?_) (fun c66 => ?_)
      · skip
        refine lv_iconst (v := 1) hx hb dX1_pass_194 (by decide) ?_
        have hkn : k = n := Nat.le_antisymm hk ((nI_leI (by omega) (by omega)).mp c66)
        rw [hkn] at hP hD hlen
        exact W.zret (v := 1) hx hb hr rfl (fun t ht hW => ⟨⟨1, (psV cap tx ty q (sd q) fx fy n n), rfl, Or.inl ⟨rfl, hlen, rfl⟩, by rw [ht]; exact hP, by rw [hAe]; exact hD⟩, hS.F ht⟩) hS.2.2 dX1_pass_195
      · skip
        have hk2 : k < n := Nat.lt_of_not_le (fun h => c66 (nI_le h (by omega)))
        have hp := prN_lt hk2
        have e8 := hb8 hk2
        subst e8
        refine lv_aload_n hx hb dX1_pass_69 rfl (lv_at hl 0 rfl) ?_
        refine lv_aload hx hb dX1_pass_70 (lv_at hl 5 rfl) ?_
        refine lv_iload hx hb dX1_pass_72 (lv_at hl 9 rfl) ?_
        refine q_iald (k := k) hx hb hK.1 hP 4 0 rfl rfl (by omega) (by omega) dX1_pass_74 ?_
        refine lv_iload_n hx hb dX1_pass_75 rfl (lv_at hl 3 rfl) ?_
        refine rd_i (va_runV (As := [.int (fy k), .int (nI q)]) ⟨hx, hb, hml, hown, hts⟩ (kX1_isGood l D cI cZ p0 aC aT aS rP rO rE (nI wd) (nI hg) sd (fy k) q hq) (cwV 2 hts gX1_pass_X1_isGood rfl rfl rfl (by decide +kernel) ⟨Nat.le_of_ble_eq_true rfl, Nat.le_of_ble_eq_true rfl⟩) (rd_preV (ci := 1) (q0 := 0) (hP.sub [0, 1] rfl) hK rfl rfl) rfl rfl hl.1 rfl (lv_room (Nat.le_of_ble_eq_true rfl)) dX1_pass_76 ⟨Nat.zero_le _, Nat.zero_le _⟩) ?_
        refine q_eq (show bI (gdB q (fy k) (sd q)) = bI (gV q (sd q) fx fy k) by rw [gV, if_neg hq2]) ?_
        refine lv_istore (lv' := [(10, .int (bI (gV q (sd q) fx fy k))), (0, .ref p0), (1, .ref rF), (2, .ref rT), (3, .int (nI q)), (4, .int 0), (5, .ref afy), (6, .ref afx), (7, .int (sd q)), (8, .int (nI (prN n k))), (9, .int (nI k))]) hx hb dX1_pass_79 hl (by decide) rfl (fun ls hl => ?_)
        refine lv_iload hx hb dX1_pass_81 (lv_at hl 0 rfl) ?_
        refine lv_aload_n hx hb dX1_pass_83 rfl (lv_at hl 1 rfl) ?_
        refine lv_aload hx hb dX1_pass_84 (lv_at hl 6 rfl) ?_
        refine lv_iload hx hb dX1_pass_86 (lv_at hl 9 rfl) ?_
        refine q_iald (k := (prN n k)) hx hb hK.1 hP 4 0 rfl rfl (Nat.lt_of_lt_of_le hp hn) (by omega) dX1_pass_88 ?_
        refine lv_iload_n hx hb dX1_pass_89 rfl (lv_at hl 4 rfl) ?_
        refine rd_i (va_runV (As := [.int (fy (prN n k)), .int (nI q)]) ⟨hx, hb, hml, hown, hts⟩ (kX1_isGood l D cI cZ p0 aC aT aS rP rO rE (nI wd) (nI hg) sd (fy (prN n k)) q hq) (cwV 2 hts gX1_pass_X1_isGood rfl rfl rfl (by decide +kernel) ⟨Nat.le_of_ble_eq_true rfl, Nat.le_of_ble_eq_true rfl⟩) (rd_preV (ci := 1) (q0 := 0) (hP.sub [0, 1] rfl) hK rfl rfl) rfl rfl hl.1 rfl (lv_room (Nat.le_of_ble_eq_true rfl)) dX1_pass_90 ⟨Nat.zero_le _, Nat.zero_le _⟩) ?_
        refine q_eq (show bI (gdB q (fy (prN n k)) (sd q)) = bI (gV q (sd q) fx fy (prN n k)) by rw [gV, if_neg hq2]) ?_
        refine lv_icmp_eq (tgt := 156) hx hb dX1_pass_93 (by decide) (fun c93 => ?_) (fun c93 => ?_)
        · skip
          refine lv_iload hx hb dX1_pass_156 (lv_at hl 0 rfl) ?_
          refine lv_if_eq (tgt := 184) hx hb dX1_pass_158 (by decide) (fun c158 => ?_) (fun c158 => ?_)
          · skip
            refine lv_iload hx hb dX1_pass_184 (lv_at hl 10 rfl) ?_
            refine lv_istore (lv' := [(8, .int (nI k)), (10, .int (bI (gV q (sd q) fx fy k))), (0, .ref p0), (1, .ref rF), (2, .ref rT), (3, .int (nI q)), (4, .int 0), (5, .ref afy), (6, .ref afx), (7, .int (sd q)), (9, .int (nI k))]) hx hb dX1_pass_186 hl (by decide) rfl (fun ls hl => ?_)
            refine lv_iinc (v := (nI (k + 1))) (lv' := [(9, .int (nI (k + 1))), (8, .int (nI k)), (10, .int (bI (gV q (sd q) fx fy k))), (0, .ref p0), (1, .ref rF), (2, .ref rT), (3, .int (nI q)), (4, .int 0), (5, .ref afy), (6, .ref afx), (7, .int (sd q))]) hx hb dX1_pass_188 hl (k := 10) rfl (nI_1 _) (by decide) rfl (fun ls hl => ?_)
            have e : (psV cap tx ty q (sd q) fx fy n k) = (psV cap tx ty q (sd q) fx fy n (k + 1)) := by rw [psV, psV, psL, psL, out_00 (bI_eq.mp c93) (bI_eq0.mp c158)]
            have hlen2 : (psL q (sd q) fx fy n (k + 1)).length ≤ cap := by rw [← psV_1 (cap := cap) (tx := tx) (ty := ty), ← e]; exact hv
            refine lv_goto (tgt := 60) hx hb dX1_pass_191 (by decide) ?_
            rw [e] at hP hD
            exact ih (k + 1) (by omega) (by omega) (nI k) (fun _ => by rw [prN, if_neg (Nat.succ_ne_zero k)]; rfl) hlen2 H locs hP hD hS ls (lv_sub hl [3, 4, 5, 6, 7, 8, 9, 10, 1, 0] rfl)
          · skip
            refine lv_aload_n hx hb dX1_pass_161 rfl (lv_at hl 3 rfl) ?_
            refine lv_aload_n hx hb dX1_pass_162 rfl (lv_at hl 2 rfl) ?_
            refine va_getN (D := D) (ci := 0) (v := .ref afx) (C := RX0) (T := TX0) (N := 3) hx hb hts nX1_pass_X0 hown hK.1 hP 2 rfl rfl 0 (by decide) (hK.2.xs _) (fun _ h9 => h9) rfl dX1_pass_163 ?_
            refine lv_iload hx hb dX1_pass_166 (lv_at hl 10 rfl) ?_
            refine q_iald (k := k) hx hb hK.1 hP 3 0 rfl rfl (by omega) (by omega) dX1_pass_168 ?_
            refine lv_aload_n hx hb dX1_pass_169 rfl (lv_at hl 2 rfl) ?_
            refine va_getN (D := D) (ci := 0) (v := .ref afy) (C := RX0) (T := TX0) (N := 3) hx hb hts nX1_pass_X0 hown hK.1 hP 2 rfl rfl 1 (by decide) (hK.2.ys _) (fun _ h9 => h9) rfl dX1_pass_170 ?_
            refine lv_iload hx hb dX1_pass_173 (lv_at hl 10 rfl) ?_
            refine q_iald (k := k) hx hb hK.1 hP 4 0 rfl rfl (by omega) (by omega) dX1_pass_175 ?_
            refine wr_i (wr := [(p0, .inr (1, [.int (nI wd), .int (nI hg), .ref aC, .ref aT, .ref aS, .ref rP, .ref rO, .ref rE])), (aS, .inl (cI, 4, .inl sd)), (rF, .inr (0, [.ref afx, .ref afy, .int (nI n)])), (afx, .inl (cI, cap, .inl fx)), (afy, .inl (cI, cap, .inl fy))]) hP hD hS hA [5, 6, 7] [0, 1, 2, 3, 4] rfl rfl (by decide) (by decide) (va_runVN (C := RX0) (As := [.int (fx k), .int (fy k)]) ⟨hx, hb, hml, hown, hts⟩ (kX0_append l D cI cZ H.size rT atx aty (psV cap tx ty q (sd q) fx fy n k).1 cap (psV cap tx ty q (sd q) fx fy n k).2.1 (psV cap tx ty q (sd q) fx fy n k).2.2 (fx k) (fy k) hv hc) ⟨va_cnB 2 hts gX1_pass_X0_append_n59 rfl rfl rfl hK.2.2.2.2.2.1 (hts (.initialized RX0) (by decide +kernel)) (by decide +kernel) ⟨Nat.le_of_ble_eq_true rfl, Nat.le_of_ble_eq_true rfl⟩, hts (.instanceMethod yX0_append) (by decide +kernel), hts (.selects RX0 yX0_append yX0_append) (by decide +kernel)⟩ (wr_preV (ci := 0) (q0 := 0) (hP.sub [5, 6, 7] rfl) hK (hD.sub [5, 6, 7] (by decide) rfl) rfl rfl) rfl rfl hl.1 rfl (lv_room (Nat.le_of_ble_eq_true rfl)) dX1_pass_176 ⟨Nat.zero_le _, Nat.zero_le _⟩) (fun r2 u2 H locs hw2 hP hD hS => ?_)
            rcases hw2 with ⟨hw2, rfl, hu2⟩ | ⟨hw2, rfl, hu2⟩
            · skip
              replace hP : va_P D vwCl [(p0, .inr (1, [.int (nI wd), .int (nI hg), .ref aC, .ref aT, .ref aS, .ref rP, .ref rO, .ref rE])), (aS, .inl (cI, 4, .inl sd)), (rF, .inr (0, [.ref afx, .ref afy, .int (nI n)])), (afx, .inl (cI, cap, .inl fx)), (afy, .inl (cI, cap, .inl fy)), (rT, .inr (0, [.ref atx, .ref aty, .int (nI u2.1)])), (atx, .inl (cI, cap, .inl u2.2.1)), (aty, .inl (cI, cap, .inl u2.2.2))] H := hP.sub [0, 1, 2, 3, 4, 5, 6, 7] rfl
              replace hD : va_D A [(p0, .inr (1, [.int (nI wd), .int (nI hg), .ref aC, .ref aT, .ref aS, .ref rP, .ref rO, .ref rE])), (aS, .inl (cI, 4, .inl sd)), (rF, .inr (0, [.ref afx, .ref afy, .int (nI n)])), (afx, .inl (cI, cap, .inl fx)), (afy, .inl (cI, cap, .inl fy)), (rT, .inr (0, [.ref atx, .ref aty, .int (nI u2.1)])), (atx, .inl (cI, cap, .inl u2.2.1)), (aty, .inl (cI, cap, .inl u2.2.2))] := hD.sub [0, 1, 2, 3, 4, 5, 6, 7] (by decide) rfl
              refine lv_if_ne (tgt := 184) hx hb dX1_pass_179 (by decide) (fun c179 => ?_) (fun c179 => absurd c179 (by decide))
              refine lv_iload hx hb dX1_pass_184 (lv_at hl 10 rfl) ?_
              refine lv_istore (lv' := [(8, .int (nI k)), (10, .int (bI (gV q (sd q) fx fy k))), (0, .ref p0), (1, .ref rF), (2, .ref rT), (3, .int (nI q)), (4, .int 0), (5, .ref afy), (6, .ref afx), (7, .int (sd q)), (9, .int (nI k))]) hx hb dX1_pass_186 hl (by decide) rfl (fun ls hl => ?_)
              refine lv_iinc (v := (nI (k + 1))) (lv' := [(9, .int (nI (k + 1))), (8, .int (nI k)), (10, .int (bI (gV q (sd q) fx fy k))), (0, .ref p0), (1, .ref rF), (2, .ref rT), (3, .int (nI q)), (4, .int 0), (5, .ref afy), (6, .ref afx), (7, .int (sd q))]) hx hb dX1_pass_188 hl (k := 10) rfl (nI_1 _) (by decide) rfl (fun ls hl => ?_)
              have e : u2 = (psV cap tx ty q (sd q) fx fy n (k + 1)) := by rw [psV, psL, out_01 (bI_eq.mp c93) (bI_ne c158), mpU_snoc, hu2]; unfold psV psL at hw2; rw [adP, if_pos hw2]; rfl
              have hlen2 : (psL q (sd q) fx fy n (k + 1)).length ≤ cap := by rw [← psV_1 (cap := cap) (tx := tx) (ty := ty), ← e, hu2]; exact hw2
              refine lv_goto (tgt := 60) hx hb dX1_pass_191 (by decide) ?_
              rw [e] at hP hD
              exact ih (k + 1) (by omega) (by omega) (nI k) (fun _ => by rw [prN, if_neg (Nat.succ_ne_zero k)]; rfl) hlen2 H locs hP hD hS ls (lv_sub hl [3, 4, 5, 6, 7, 8, 9, 10, 1, 0] rfl)
            · skip
              replace hP : va_P D vwCl [(p0, .inr (1, [.int (nI wd), .int (nI hg), .ref aC, .ref aT, .ref aS, .ref rP, .ref rO, .ref rE])), (aS, .inl (cI, 4, .inl sd)), (rF, .inr (0, [.ref afx, .ref afy, .int (nI n)])), (afx, .inl (cI, cap, .inl fx)), (afy, .inl (cI, cap, .inl fy)), (rT, .inr (0, [.ref atx, .ref aty, .int (nI u2.1)])), (atx, .inl (cI, cap, .inl u2.2.1)), (aty, .inl (cI, cap, .inl u2.2.2))] H := hP.sub [0, 1, 2, 3, 4, 5, 6, 7] rfl
              replace hD : va_D A [(p0, .inr (1, [.int (nI wd), .int (nI hg), .ref aC, .ref aT, .ref aS, .ref rP, .ref rO, .ref rE])), (aS, .inl (cI, 4, .inl sd)), (rF, .inr (0, [.ref afx, .ref afy, .int (nI n)])), (afx, .inl (cI, cap, .inl fx)), (afy, .inl (cI, cap, .inl fy)), (rT, .inr (0, [.ref atx, .ref aty, .int (nI u2.1)])), (atx, .inl (cI, cap, .inl u2.2.1)), (aty, .inl (cI, cap, .inl u2.2.2))] := hD.sub [0, 1, 2, 3, 4, 5, 6, 7] (by decide) rfl
              refine lv_if_ne (tgt := 184) hx hb dX1_pass_179 (by decide) (fun c179 => absurd (by decide) c179) (fun c179 => ?_)
              refine lv_iconst (v := 0) hx hb dX1_pass_182 (by decide) ?_
              exact W.zret (v := 0) hx hb hr rfl (fun t ht hW => ⟨⟨0, u2, rfl, Or.inr ⟨rfl, by have a := ps_good0 (bI_ne c158) hk2; rw [psV_1] at hw2; omega⟩, by rw [ht]; exact hP, by rw [hAe]; exact hD⟩, hS.F ht⟩) hS.2.2 dX1_pass_183
        · skip
          refine lv_aload hx hb dX1_pass_96 (lv_at hl 6 rfl) ?_
          refine lv_iload hx hb dX1_pass_98 (lv_at hl 9 rfl) ?_
          refine q_iald (k := (prN n k)) hx hb hK.1 hP 4 0 rfl rfl (Nat.lt_of_lt_of_le hp hn) (by omega) dX1_pass_100 ?_
          refine lv_aload hx hb dX1_pass_101 (lv_at hl 7 rfl) ?_
          refine lv_iload hx hb dX1_pass_103 (lv_at hl 9 rfl) ?_
          refine q_iald (k := (prN n k)) hx hb hK.1 hP 3 0 rfl rfl (Nat.lt_of_lt_of_le hp hn) (by omega) dX1_pass_105 ?_
          refine lv_aload hx hb dX1_pass_106 (lv_at hl 6 rfl) ?_
          refine lv_iload hx hb dX1_pass_108 (lv_at hl 10 rfl) ?_
          refine q_iald (k := k) hx hb hK.1 hP 4 0 rfl rfl (by omega) (by omega) dX1_pass_110 ?_
          refine lv_aload hx hb dX1_pass_111 (lv_at hl 7 rfl) ?_
          refine lv_iload hx hb dX1_pass_113 (lv_at hl 10 rfl) ?_
          refine q_iald (k := k) hx hb hK.1 hP 3 0 rfl rfl (by omega) (by omega) dX1_pass_115 ?_
          refine lv_iload hx hb dX1_pass_116 (lv_at hl 8 rfl) ?_
          have hgg : ¬ (gV q (sd q) fx fy k) = (gV q (sd q) fx fy (prN n k)) := fun h => c93 (by rw [h])
          have hgd : ¬ fy k - fy (prN n k) = 0 := gd_ne (q := q) (s := sd q) (fun h => hgg (by rw [gV, gV, if_neg hq2, if_neg hq2]; exact h))
          refine rd_i (va_runS (As := [.int (fy (prN n k)), .int (fx (prN n k)), .int (fy k), .int (fx k), .int (sd q)]) ⟨hx, hb, hml, hown, hts⟩ (kX1_cutAcross l D cI cZ (fy (prN n k)) (fx (prN n k)) (fy k) (fx k) (sd q) hgd) (va_cwS 5 hts gX1_pass_X1_cutAcross rfl rfl rfl (by decide +kernel) ⟨Nat.le_of_ble_eq_true rfl, Nat.le_of_ble_eq_true rfl⟩) rd_pre0 rfl rfl hl.1 rfl (lv_room (Nat.le_of_ble_eq_true rfl)) dX1_pass_118 ⟨Nat.zero_le _, Nat.zero_le _⟩) ?_
          refine lv_istore (lv' := [(11, .int (caI (fy (prN n k)) (fx (prN n k)) (fy k) (fx k) (sd q))), (10, .int (bI (gV q (sd q) fx fy k))), (0, .ref p0), (1, .ref rF), (2, .ref rT), (3, .int (nI q)), (4, .int 0), (5, .ref afy), (6, .ref afx), (7, .int (sd q)), (8, .int (nI (prN n k))), (9, .int (nI k))]) hx hb dX1_pass_121 hl (by decide) rfl (fun ls hl => ?_)
          refine lv_aload_n hx hb dX1_pass_123 rfl (lv_at hl 4 rfl) ?_
          refine lv_iload hx hb dX1_pass_124 (lv_at hl 6 rfl) ?_
          refine lv_if_eq (tgt := 134) hx hb dX1_pass_126 (by decide) (fun c126 => ?_) (fun c126 => absurd (by decide) c126)
          refine lv_iload hx hb dX1_pass_134 (lv_at hl 0 rfl) ?_
          refine lv_iload hx hb dX1_pass_136 (lv_at hl 6 rfl) ?_
          refine lv_if_eq (tgt := 146) hx hb dX1_pass_138 (by decide) (fun c138 => ?_) (fun c138 => absurd (by decide) c138)
          refine lv_iload hx hb dX1_pass_146 (lv_at hl 9 rfl) ?_
          refine wr_i (wr := [(p0, .inr (1, [.int (nI wd), .int (nI hg), .ref aC, .ref aT, .ref aS, .ref rP, .ref rO, .ref rE])), (aS, .inl (cI, 4, .inl sd)), (rF, .inr (0, [.ref afx, .ref afy, .int (nI n)])), (afx, .inl (cI, cap, .inl fx)), (afy, .inl (cI, cap, .inl fy))]) hP hD hS hA [5, 6, 7] [0, 1, 2, 3, 4] rfl rfl (by decide) (by decide) (va_runVN (C := RX0) (As := [.int (caI (fy (prN n k)) (fx (prN n k)) (fy k) (fx k) (sd q)), .int (sd q)]) ⟨hx, hb, hml, hown, hts⟩ (kX0_append l D cI cZ H.size rT atx aty (psV cap tx ty q (sd q) fx fy n k).1 cap (psV cap tx ty q (sd q) fx fy n k).2.1 (psV cap tx ty q (sd q) fx fy n k).2.2 (caI (fy (prN n k)) (fx (prN n k)) (fy k) (fx k) (sd q)) (sd q) hv hc) ⟨va_cnB 2 hts gX1_pass_X0_append_n59 rfl rfl rfl hK.2.2.2.2.2.1 (hts (.initialized RX0) (by decide +kernel)) (by decide +kernel) ⟨Nat.le_of_ble_eq_true rfl, Nat.le_of_ble_eq_true rfl⟩, hts (.instanceMethod yX0_append) (by decide +kernel), hts (.selects RX0 yX0_append yX0_append) (by decide +kernel)⟩ (wr_preV (ci := 0) (q0 := 0) (hP.sub [5, 6, 7] rfl) hK (hD.sub [5, 6, 7] (by decide) rfl) rfl rfl) rfl rfl hl.1 rfl (lv_room (Nat.le_of_ble_eq_true rfl)) dX1_pass_148 ⟨Nat.zero_le _, Nat.zero_le _⟩) (fun r1 u1 H locs hw1 hP hD hS => ?_)
          rcases hw1 with ⟨hw1, rfl, hu1⟩ | ⟨hw1, rfl, hu1⟩
          · skip
            replace hP : va_P D vwCl [(p0, .inr (1, [.int (nI wd), .int (nI hg), .ref aC, .ref aT, .ref aS, .ref rP, .ref rO, .ref rE])), (aS, .inl (cI, 4, .inl sd)), (rF, .inr (0, [.ref afx, .ref afy, .int (nI n)])), (afx, .inl (cI, cap, .inl fx)), (afy, .inl (cI, cap, .inl fy)), (rT, .inr (0, [.ref atx, .ref aty, .int (nI u1.1)])), (atx, .inl (cI, cap, .inl u1.2.1)), (aty, .inl (cI, cap, .inl u1.2.2))] H := hP.sub [0, 1, 2, 3, 4, 5, 6, 7] rfl
            replace hD : va_D A [(p0, .inr (1, [.int (nI wd), .int (nI hg), .ref aC, .ref aT, .ref aS, .ref rP, .ref rO, .ref rE])), (aS, .inl (cI, 4, .inl sd)), (rF, .inr (0, [.ref afx, .ref afy, .int (nI n)])), (afx, .inl (cI, cap, .inl fx)), (afy, .inl (cI, cap, .inl fy)), (rT, .inr (0, [.ref atx, .ref aty, .int (nI u1.1)])), (atx, .inl (cI, cap, .inl u1.2.1)), (aty, .inl (cI, cap, .inl u1.2.2))] := hD.sub [0, 1, 2, 3, 4, 5, 6, 7] (by decide) rfl
            refine lv_if_ne (tgt := 156) hx hb dX1_pass_151 (by decide) (fun c151 => ?_) (fun c151 => absurd c151 (by decide))
            refine lv_iload hx hb dX1_pass_156 (lv_at hl 1 rfl) ?_
            refine lv_if_eq (tgt := 184) hx hb dX1_pass_158 (by decide) (fun c158 => ?_) (fun c158 => ?_)
            · skip
              refine lv_iload hx hb dX1_pass_184 (lv_at hl 11 rfl) ?_
              refine lv_istore (lv' := [(8, .int (nI k)), (11, .int (caI (fy (prN n k)) (fx (prN n k)) (fy k) (fx k) (sd q))), (10, .int (bI (gV q (sd q) fx fy k))), (0, .ref p0), (1, .ref rF), (2, .ref rT), (3, .int (nI q)), (4, .int 0), (5, .ref afy), (6, .ref afx), (7, .int (sd q)), (9, .int (nI k))]) hx hb dX1_pass_186 hl (by decide) rfl (fun ls hl => ?_)
              refine lv_iinc (v := (nI (k + 1))) (lv' := [(9, .int (nI (k + 1))), (8, .int (nI k)), (11, .int (caI (fy (prN n k)) (fx (prN n k)) (fy k) (fx k) (sd q))), (10, .int (bI (gV q (sd q) fx fy k))), (0, .ref p0), (1, .ref rF), (2, .ref rT), (3, .int (nI q)), (4, .int 0), (5, .ref afy), (6, .ref afx), (7, .int (sd q))]) hx hb dX1_pass_188 hl (k := 11) rfl (nI_1 _) (by decide) rfl (fun ls hl => ?_)
              have e : u1 = (psV cap tx ty q (sd q) fx fy n (k + 1)) := by rw [psV, psL, out_10 hgg (bI_eq0.mp c158), mpU_snoc, ctV, if_neg hq2, hu1]; unfold psV psL at hw1; rw [adP, if_pos hw1]; rfl
              have hlen2 : (psL q (sd q) fx fy n (k + 1)).length ≤ cap := by rw [← psV_1 (cap := cap) (tx := tx) (ty := ty), ← e, hu1]; exact hw1
              refine lv_goto (tgt := 60) hx hb dX1_pass_191 (by decide) ?_
              rw [e] at hP hD
              exact ih (k + 1) (by omega) (by omega) (nI k) (fun _ => by rw [prN, if_neg (Nat.succ_ne_zero k)]; rfl) hlen2 H locs hP hD hS ls (lv_sub hl [4, 5, 6, 7, 8, 9, 10, 11, 1, 0] rfl)
            · skip
              refine lv_aload_n hx hb dX1_pass_161 rfl (lv_at hl 4 rfl) ?_
              refine lv_aload_n hx hb dX1_pass_162 rfl (lv_at hl 3 rfl) ?_
              refine va_getN (D := D) (ci := 0) (v := .ref afx) (C := RX0) (T := TX0) (N := 3) hx hb hts nX1_pass_X0 hown hK.1 hP 2 rfl rfl 0 (by decide) (hK.2.xs _) (fun _ h9 => h9) rfl dX1_pass_163 ?_
              refine lv_iload hx hb dX1_pass_166 (lv_at hl 11 rfl) ?_
              refine q_iald (k := k) hx hb hK.1 hP 3 0 rfl rfl (by omega) (by omega) dX1_pass_168 ?_
              refine lv_aload_n hx hb dX1_pass_169 rfl (lv_at hl 3 rfl) ?_
              refine va_getN (D := D) (ci := 0) (v := .ref afy) (C := RX0) (T := TX0) (N := 3) hx hb hts nX1_pass_X0 hown hK.1 hP 2 rfl rfl 1 (by decide) (hK.2.ys _) (fun _ h9 => h9) rfl dX1_pass_170 ?_
              refine lv_iload hx hb dX1_pass_173 (lv_at hl 11 rfl) ?_
              refine q_iald (k := k) hx hb hK.1 hP 4 0 rfl rfl (by omega) (by omega) dX1_pass_175 ?_
              refine wr_i (wr := [(p0, .inr (1, [.int (nI wd), .int (nI hg), .ref aC, .ref aT, .ref aS, .ref rP, .ref rO, .ref rE])), (aS, .inl (cI, 4, .inl sd)), (rF, .inr (0, [.ref afx, .ref afy, .int (nI n)])), (afx, .inl (cI, cap, .inl fx)), (afy, .inl (cI, cap, .inl fy))]) hP hD hS hA [5, 6, 7] [0, 1, 2, 3, 4] rfl rfl (by decide) (by decide) (va_runVN (C := RX0) (As := [.int (fx k), .int (fy k)]) ⟨hx, hb, hml, hown, hts⟩ (kX0_append l D cI cZ H.size rT atx aty u1.1 cap u1.2.1 u1.2.2 (fx k) (fy k) (by rw [hu1]; exact hw1) hc) ⟨va_cnB 2 hts gX1_pass_X0_append_n59 rfl rfl rfl hK.2.2.2.2.2.1 (hts (.initialized RX0) (by decide +kernel)) (by decide +kernel) ⟨Nat.le_of_ble_eq_true rfl, Nat.le_of_ble_eq_true rfl⟩, hts (.instanceMethod yX0_append) (by decide +kernel), hts (.selects RX0 yX0_append yX0_append) (by decide +kernel)⟩ (wr_preV (ci := 0) (q0 := 0) (hP.sub [5, 6, 7] rfl) hK (hD.sub [5, 6, 7] (by decide) rfl) rfl rfl) rfl rfl hl.1 rfl (lv_room (Nat.le_of_ble_eq_true rfl)) dX1_pass_176 ⟨Nat.zero_le _, Nat.zero_le _⟩) (fun r2 u2 H locs hw2 hP hD hS => ?_)
              rcases hw2 with ⟨hw2, rfl, hu2⟩ | ⟨hw2, rfl, hu2⟩
              · skip
                replace hP : va_P D vwCl [(p0, .inr (1, [.int (nI wd), .int (nI hg), .ref aC, .ref aT, .ref aS, .ref rP, .ref rO, .ref rE])), (aS, .inl (cI, 4, .inl sd)), (rF, .inr (0, [.ref afx, .ref afy, .int (nI n)])), (afx, .inl (cI, cap, .inl fx)), (afy, .inl (cI, cap, .inl fy)), (rT, .inr (0, [.ref atx, .ref aty, .int (nI u2.1)])), (atx, .inl (cI, cap, .inl u2.2.1)), (aty, .inl (cI, cap, .inl u2.2.2))] H := hP.sub [0, 1, 2, 3, 4, 5, 6, 7] rfl
                replace hD : va_D A [(p0, .inr (1, [.int (nI wd), .int (nI hg), .ref aC, .ref aT, .ref aS, .ref rP, .ref rO, .ref rE])), (aS, .inl (cI, 4, .inl sd)), (rF, .inr (0, [.ref afx, .ref afy, .int (nI n)])), (afx, .inl (cI, cap, .inl fx)), (afy, .inl (cI, cap, .inl fy)), (rT, .inr (0, [.ref atx, .ref aty, .int (nI u2.1)])), (atx, .inl (cI, cap, .inl u2.2.1)), (aty, .inl (cI, cap, .inl u2.2.2))] := hD.sub [0, 1, 2, 3, 4, 5, 6, 7] (by decide) rfl
                refine lv_if_ne (tgt := 184) hx hb dX1_pass_179 (by decide) (fun c179 => ?_) (fun c179 => absurd c179 (by decide))
                refine lv_iload hx hb dX1_pass_184 (lv_at hl 11 rfl) ?_
                refine lv_istore (lv' := [(8, .int (nI k)), (11, .int (caI (fy (prN n k)) (fx (prN n k)) (fy k) (fx k) (sd q))), (10, .int (bI (gV q (sd q) fx fy k))), (0, .ref p0), (1, .ref rF), (2, .ref rT), (3, .int (nI q)), (4, .int 0), (5, .ref afy), (6, .ref afx), (7, .int (sd q)), (9, .int (nI k))]) hx hb dX1_pass_186 hl (by decide) rfl (fun ls hl => ?_)
                refine lv_iinc (v := (nI (k + 1))) (lv' := [(9, .int (nI (k + 1))), (8, .int (nI k)), (11, .int (caI (fy (prN n k)) (fx (prN n k)) (fy k) (fx k) (sd q))), (10, .int (bI (gV q (sd q) fx fy k))), (0, .ref p0), (1, .ref rF), (2, .ref rT), (3, .int (nI q)), (4, .int 0), (5, .ref afy), (6, .ref afx), (7, .int (sd q))]) hx hb dX1_pass_188 hl (k := 11) rfl (nI_1 _) (by decide) rfl (fun ls hl => ?_)
                have e2 : u2 = adP cap u1 (fx k) (fy k) := by rw [hu2, adP, if_pos hw2]
                have e1 : u1 = adP cap (psV cap tx ty q (sd q) fx fy n k) (caI (fy (prN n k)) (fx (prN n k)) (fy k) (fx k) (sd q)) (sd q) := by rw [hu1, adP, if_pos hw1]
                have e : u2 = (psV cap tx ty q (sd q) fx fy n (k + 1)) := by rw [psV, psL, out_11 hgg (bI_ne c158), mpU_snoc, mpU_snoc, e2, e1, ctV, if_neg hq2]; rfl
                have hlen2 : (psL q (sd q) fx fy n (k + 1)).length ≤ cap := by rw [← psV_1 (cap := cap) (tx := tx) (ty := ty), ← e, hu2]; exact hw2
                refine lv_goto (tgt := 60) hx hb dX1_pass_191 (by decide) ?_
                rw [e] at hP hD
                exact ih (k + 1) (by omega) (by omega) (nI k) (fun _ => by rw [prN, if_neg (Nat.succ_ne_zero k)]; rfl) hlen2 H locs hP hD hS ls (lv_sub hl [4, 5, 6, 7, 8, 9, 10, 11, 1, 0] rfl)
              · skip
                replace hP : va_P D vwCl [(p0, .inr (1, [.int (nI wd), .int (nI hg), .ref aC, .ref aT, .ref aS, .ref rP, .ref rO, .ref rE])), (aS, .inl (cI, 4, .inl sd)), (rF, .inr (0, [.ref afx, .ref afy, .int (nI n)])), (afx, .inl (cI, cap, .inl fx)), (afy, .inl (cI, cap, .inl fy)), (rT, .inr (0, [.ref atx, .ref aty, .int (nI u2.1)])), (atx, .inl (cI, cap, .inl u2.2.1)), (aty, .inl (cI, cap, .inl u2.2.2))] H := hP.sub [0, 1, 2, 3, 4, 5, 6, 7] rfl
                replace hD : va_D A [(p0, .inr (1, [.int (nI wd), .int (nI hg), .ref aC, .ref aT, .ref aS, .ref rP, .ref rO, .ref rE])), (aS, .inl (cI, 4, .inl sd)), (rF, .inr (0, [.ref afx, .ref afy, .int (nI n)])), (afx, .inl (cI, cap, .inl fx)), (afy, .inl (cI, cap, .inl fy)), (rT, .inr (0, [.ref atx, .ref aty, .int (nI u2.1)])), (atx, .inl (cI, cap, .inl u2.2.1)), (aty, .inl (cI, cap, .inl u2.2.2))] := hD.sub [0, 1, 2, 3, 4, 5, 6, 7] (by decide) rfl
                refine lv_if_ne (tgt := 184) hx hb dX1_pass_179 (by decide) (fun c179 => absurd (by decide) c179) (fun c179 => ?_)
                refine lv_iconst (v := 0) hx hb dX1_pass_182 (by decide) ?_
                exact W.zret (v := 0) hx hb hr rfl (fun t ht hW => ⟨⟨0, u2, rfl, Or.inr ⟨rfl, by have a := ps_good1 hgg (bI_ne c158) hk2; rw [hu1] at hw2; have b : cap ≤ (psV cap tx ty q (sd q) fx fy n k).1 + 1 := hw2; rw [psV_1] at b; omega⟩, by rw [ht]; exact hP, by rw [hAe]; exact hD⟩, hS.F ht⟩) hS.2.2 dX1_pass_183
          · skip
            replace hP : va_P D vwCl [(p0, .inr (1, [.int (nI wd), .int (nI hg), .ref aC, .ref aT, .ref aS, .ref rP, .ref rO, .ref rE])), (aS, .inl (cI, 4, .inl sd)), (rF, .inr (0, [.ref afx, .ref afy, .int (nI n)])), (afx, .inl (cI, cap, .inl fx)), (afy, .inl (cI, cap, .inl fy)), (rT, .inr (0, [.ref atx, .ref aty, .int (nI u1.1)])), (atx, .inl (cI, cap, .inl u1.2.1)), (aty, .inl (cI, cap, .inl u1.2.2))] H := hP.sub [0, 1, 2, 3, 4, 5, 6, 7] rfl
            replace hD : va_D A [(p0, .inr (1, [.int (nI wd), .int (nI hg), .ref aC, .ref aT, .ref aS, .ref rP, .ref rO, .ref rE])), (aS, .inl (cI, 4, .inl sd)), (rF, .inr (0, [.ref afx, .ref afy, .int (nI n)])), (afx, .inl (cI, cap, .inl fx)), (afy, .inl (cI, cap, .inl fy)), (rT, .inr (0, [.ref atx, .ref aty, .int (nI u1.1)])), (atx, .inl (cI, cap, .inl u1.2.1)), (aty, .inl (cI, cap, .inl u1.2.2))] := hD.sub [0, 1, 2, 3, 4, 5, 6, 7] (by decide) rfl
            refine lv_if_ne (tgt := 156) hx hb dX1_pass_151 (by decide) (fun c151 => absurd (by decide) c151) (fun c151 => ?_)
            refine lv_iconst (v := 0) hx hb dX1_pass_154 (by decide) ?_
            exact W.zret (v := 0) hx hb hr rfl (fun t ht hW => ⟨⟨0, u1, rfl, Or.inr ⟨rfl, by have a := ps_cut hgg hk2; rw [psV_1] at hw1; omega⟩, by rw [ht]; exact hP, by rw [hAe]; exact hD⟩, hS.F ht⟩) hS.2.2 dX1_pass_155
  refine lv_iload_n hx hb dX1_pass_0 rfl (lv_at hl 3 rfl) ?_
  refine lv_iconst (v := 2) hx hb dX1_pass_1 (by decide) ?_
  refine lv_icmp_ge (tgt := 9) hx hb dX1_pass_2 (by decide) (fun c2 => ?_) (fun c2 => absurd (nI_le (a := 2) (Nat.le_of_not_lt hq2) (by omega)) c2)
  refine lv_iconst (v := 0) hx hb dX1_pass_9 (by decide) ?_
  refine lv_istore (lv' := [(4, .int 0), (0, .ref p0), (1, .ref rF), (2, .ref rT), (3, .int (nI q))]) hx hb dX1_pass_10 hl (by decide) rfl (fun ls hl => ?_)
  refine lv_aload_n hx hb dX1_pass_12 rfl (lv_at hl 2 rfl) ?_
  refine lv_iload hx hb dX1_pass_13 (lv_at hl 0 rfl) ?_
  refine q_eq (show (0 : Int32) = bI false from rfl) ?_
  refine rd_r (x := afy) (va_runVN (C := RX0) (As := [.int (bI false)]) ⟨hx, hb, hml, hown, hts⟩ (kX0_axis l D cI cZ rF afx afy n cap fx fy false) ⟨va_cnB 1 hts gX1_pass_X0_axis_n100 rfl rfl rfl hK.2.2.2.2.2.2.2.2.2 (hts (.initialized RX0) (by decide +kernel)) (by decide +kernel) ⟨Nat.le_of_ble_eq_true rfl, Nat.le_of_ble_eq_true rfl⟩, hts (.instanceMethod yX0_axis) (by decide +kernel), hts (.selects RX0 yX0_axis yX0_axis) (by decide +kernel)⟩ (rd_preV (ci := 0) (q0 := 0) (hP.sub [2, 3, 4] rfl) hK rfl rfl) rfl rfl hl.1 rfl (lv_room (Nat.le_of_ble_eq_true rfl)) dX1_pass_15 ⟨Nat.zero_le _, Nat.zero_le _⟩) ?_
  refine lv_astore (lv' := [(5, .ref afy), (4, .int 0), (0, .ref p0), (1, .ref rF), (2, .ref rT), (3, .int (nI q))]) hx hb dX1_pass_18 hl (by decide) rfl (fun ls hl => ?_)
  refine lv_aload_n hx hb dX1_pass_20 rfl (lv_at hl 3 rfl) ?_
  refine lv_iload hx hb dX1_pass_21 (lv_at hl 1 rfl) ?_
  refine lv_if_ne (tgt := 30) hx hb dX1_pass_23 (by decide) (fun c23 => absurd (by decide) c23) (fun c23 => ?_)
  refine lv_iconst (v := 1) hx hb dX1_pass_26 (by decide) ?_
  refine lv_goto (tgt := 31) hx hb dX1_pass_27 (by decide) ?_
  refine q_eq (show (1 : Int32) = bI true from rfl) ?_
  refine rd_r (x := afx) (va_runVN (C := RX0) (As := [.int (bI true)]) ⟨hx, hb, hml, hown, hts⟩ (kX0_axis l D cI cZ rF afx afy n cap fx fy true) ⟨va_cnB 1 hts gX1_pass_X0_axis_n100 rfl rfl rfl hK.2.2.2.2.2.2.2.2.2 (hts (.initialized RX0) (by decide +kernel)) (by decide +kernel) ⟨Nat.le_of_ble_eq_true rfl, Nat.le_of_ble_eq_true rfl⟩, hts (.instanceMethod yX0_axis) (by decide +kernel), hts (.selects RX0 yX0_axis yX0_axis) (by decide +kernel)⟩ (rd_preV (ci := 0) (q0 := 0) (hP.sub [2, 3, 4] rfl) hK rfl rfl) rfl rfl hl.1 rfl (lv_room (Nat.le_of_ble_eq_true rfl)) dX1_pass_31 ⟨Nat.zero_le _, Nat.zero_le _⟩) ?_
  refine lv_astore (lv' := [(6, .ref afx), (5, .ref afy), (4, .int 0), (0, .ref p0), (1, .ref rF), (2, .ref rT), (3, .int (nI q))]) hx hb dX1_pass_34 hl (by decide) rfl (fun ls hl => ?_)
  refine lv_aload_n hx hb dX1_pass_36 rfl (lv_at hl 3 rfl) ?_
  refine va_get (D := D) (ci := 1) (v := .ref aS) (C := RX1) (T := TX1) (N := 8) hx hb hts nX1_pass_X1 hown hK.1 hP 0 rfl rfl 4 (by decide) (hts (.fieldLink RX1 28 "PolygonFrame" "sides" "[I") (by decide +kernel)) (fun _ h9 => h9) rfl dX1_pass_37 ?_
  refine lv_iload_n hx hb dX1_pass_40 rfl (lv_at hl 6 rfl) ?_
  refine q_iald (k := q) hx hb hK.1 hP 1 0 rfl rfl (by omega) (by omega) dX1_pass_41 ?_
  refine lv_istore (lv' := [(7, .int (sd q)), (6, .ref afx), (5, .ref afy), (4, .int 0), (0, .ref p0), (1, .ref rF), (2, .ref rT), (3, .int (nI q))]) hx hb dX1_pass_42 hl (by decide) rfl (fun ls hl => ?_)
  refine lv_aload_n hx hb dX1_pass_44 rfl (lv_at hl 6 rfl) ?_
  refine lv_iconst (v := 0) hx hb dX1_pass_45 (by decide) ?_
  refine va_putN (D := D) (ci := 0) (v := .int 0) (ty := .int) (C := RX0) (T := TX0) (N := 3) hx hb hts nX1_pass_X0 tyX0 tyX0_ok nmX0 hown hK.1 hP hD hS 5 rfl rfl 2 (by decide) (hK.2.count _) (fun _ h9 => h9) rfl (tyX0_ok 2 (by decide)) rfl rfl (Nat.le_of_ble_eq_true rfl) dX1_pass_46 (fun H locs hP hD hS => ?_)
  have hP : va_P D vwCl [(p0, .inr (1, [.int (nI wd), .int (nI hg), .ref aC, .ref aT, .ref aS, .ref rP, .ref rO, .ref rE])), (aS, .inl (cI, 4, .inl sd)), (rF, .inr (0, [.ref afx, .ref afy, .int (nI n)])), (afx, .inl (cI, cap, .inl fx)), (afy, .inl (cI, cap, .inl fy)), (rT, .inr (0, [.ref atx, .ref aty, .int 0])), (atx, .inl (cI, cap, .inl tx)), (aty, .inl (cI, cap, .inl ty))] H := hP
  have hD : va_D A [(p0, .inr (1, [.int (nI wd), .int (nI hg), .ref aC, .ref aT, .ref aS, .ref rP, .ref rO, .ref rE])), (aS, .inl (cI, 4, .inl sd)), (rF, .inr (0, [.ref afx, .ref afy, .int (nI n)])), (afx, .inl (cI, cap, .inl fx)), (afy, .inl (cI, cap, .inl fy)), (rT, .inr (0, [.ref atx, .ref aty, .int 0])), (atx, .inl (cI, cap, .inl tx)), (aty, .inl (cI, cap, .inl ty))] := hD
  refine lv_aload_n hx hb dX1_pass_49 rfl (lv_at hl 5 rfl) ?_
  refine va_getN (D := D) (ci := 0) (v := .int (nI n)) (C := RX0) (T := TX0) (N := 3) hx hb hts nX1_pass_X0 hown hK.1 hP 2 rfl rfl 2 (by decide) (hK.2.count _) (fun _ h9 => h9) rfl dX1_pass_50 ?_
  refine lv_iconst (v := 1) hx hb dX1_pass_53 (by decide) ?_
  refine lv_isub hx hb dX1_pass_54 ?_
  refine lv_istore (lv' := [(8, .int ((nI n) - 1)), (7, .int (sd q)), (6, .ref afx), (5, .ref afy), (4, .int 0), (0, .ref p0), (1, .ref rF), (2, .ref rT), (3, .int (nI q))]) hx hb dX1_pass_55 hl (by decide) rfl (fun ls hl => ?_)
  refine lv_iconst (v := 0) hx hb dX1_pass_57 (by decide) ?_
  refine lv_istore (lv' := [(9, .int 0), (8, .int ((nI n) - 1)), (7, .int (sd q)), (6, .ref afx), (5, .ref afy), (4, .int 0), (0, .ref p0), (1, .ref rF), (2, .ref rT), (3, .int (nI q))]) hx hb dX1_pass_58 hl (by decide) rfl (fun ls hl => ?_)
  exact LOOP (n + 1) 0 (Nat.zero_le _) (by omega) (nI n - 1) (fun h => by rw [prN, if_pos rfl, ← pk_sub (a := n) (b := 1) (by omega)]; rfl) (Nat.zero_le _) H locs hP hD hS ls (lv_sub hl [6, 7, 8, 9, 5, 4, 3, 2, 1, 0] rfl)
