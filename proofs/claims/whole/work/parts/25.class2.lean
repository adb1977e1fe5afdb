/-! walks printed by wip/whole/gen.py -/
theorem zv_X7_itself : yX7_itself.cls = RX7 ∧ yX7_itself.cls ≠ "java/lang/invoke/MethodHandle" ∧ yX7_itself.cls ≠ "java/lang/invoke/VarHandle" ∧ (parseMethodDescriptor yX7_itself.desc).map (fun d => d.parameters.length) = some 1 := by decide +kernel
def f_X7_itself (c_this_now_figures : Nat → Int64)  (x1 : Int32) : Option Int32 := hk_b1 (f_X7_noFigure x1) fun r21 => if r21 = 0 then (hk_gd (hk_inb x1 8) (hk_b1 (f_X3_turnsOntoItself (c_this_now_figures x1.toNatClampNeg)) fun r27 => some r27)) else (some (-1 : Int32))
theorem zi_X7_itself_X7 : ∀ w ∈ u_ws RX7 TX7 5, w ∈ wsX7_itself := by decide +kernel
theorem zi_X7_itself_X5 : ∀ w ∈ u_ws RX5 TX5 4, w ∈ wsX7_itself := by decide +kernel
set_option maxHeartbeats 8000000 in
set_option maxRecDepth 100000 in
theorem c_X7_itself (l : Launch) (D : va_G) (cI cJ cZ cO : ClassId) (a_this a_this_text a_this_now a_this_slots a_this_cover a_this_formsSeen a_this_now_figures a_this_now_pieces a_this_now_mayMirror : Nat) (c_this_now_laid : Int32) (c_this_now_figures : Nat → Int64) (x1 : Int32) (rv : Int32) (hf : f_X7_itself c_this_now_figures x1 = some rv) : Met l yX7_itself wsX7_itself ({ frames := 5, cells := 0, slots := 0, locals := 120 }) (va_Pc [.ref a_this, .int x1] (hkR D cI cJ cZ cO [(a_this, .inr (3, [.ref a_this_text, .ref a_this_now, .ref a_this_slots, .ref a_this_cover, .ref a_this_formsSeen])), (a_this_now, .inr (1, [.ref a_this_now_figures, .ref a_this_now_pieces, .ref a_this_now_mayMirror, .int c_this_now_laid])), (a_this_now_figures, .inl (cJ, 8, .inr (.inl c_this_now_figures)))])) (vp_Si (fun r => r = rv)) 0 0 (fun _ => False) := by
  refine Met.ofW (cc := cX7_itself) (maxL := 2) (ret := (some .int)) (by decide) rfl ?_
  intro p e s m args below meth c s₁ B hml hv
  obtain ⟨rfl, hP, hK⟩ := hv
  have hx := B.exec
  have hb := B.bytes
  have hr := B.returns
  have hts := atoms_spec (ws := wsX7_itself) B.pre
  have hown : s.vm.findClass RX7 = some m.cls := findClass_of_methodNamed B.named
  have hlocks := B.notSynchronized
  have hN := hK.2
  have hl := lv_entry ([.ref a_this, .int x1]) (n := 2) (Nat.le_of_ble_eq_true rfl)
  rw [lg_entry_eq]
  generalize (lg_sl ([.ref a_this, .int x1]) ++ List.replicate (2 - (lg_sl ([.ref a_this, .int x1])).length) Slot.unset).toArray = ls at hl ⊢
  have hl : lv_has ls 2 [(0, .ref a_this), (1, .int x1)] := hl
  refine hk_Q (fun Q hQ => ?_)
  have h := hf
  unfold f_X7_itself at h
  refine lv_iload_n hx hb dX7_itself_0 rfl (lv_at hl 1 rfl) ?_
  obtain ⟨r21, hr22, h⟩ := hk_x1 h
  refine vp_callSi (W.runS (As := [.int x1]) (rest := []) ⟨hx, hb, hml, hown, hts⟩ (c_X7_noFigure l x1 _ hr22) (va_cwS 1 hts gX7_itself_X7_noFigure rfl rfl rfl zs_X7_noFigure ⟨Nat.le_of_ble_eq_true rfl, Nat.le_of_ble_eq_true rfl⟩) ⟨fun _ _ _ _ q => q, fun _ _ _ => ⟨rfl, trivial⟩⟩ rfl rfl hl.1 rfl (lv_room (Nat.le_of_ble_eq_true rfl)) dX7_itself_1 ⟨Nat.zero_le _, Nat.zero_le _⟩) (fun p24 e23 => ?_)
  rw [e23]
  refine lv_if_eq (tgt := 11) hx hb dX7_itself_4 (by decide) (fun c25 => ?_) (fun c25 => ?_)
  · replace h := hk_ip c25 h
    refine lv_aload_n hx hb dX7_itself_11 rfl (lv_at hl 0 rfl) ?_
    refine va_get (D := D) (ci := 3) (v := .ref a_this_now) (C := RX7) (T := TX7) (N := 5) hx hb hts zi_X7_itself_X7 hown hK.1 hP 0 rfl rfl 1 (by decide) (hts (.fieldLink RX7 19 "HalfAndHalfAgain" "now" "LHalfAndHalfAgain$Store;") (List.mem_of_getElem? (i := 1) rfl)) (fun _ h9 => h9) rfl dX7_itself_12 ?_
    refine va_get (D := D) (ci := 1) (v := .ref a_this_now_figures) (C := RX5) (T := TX5) (N := 4) hx hb hts zi_X7_itself_X5 hown hK.1 hP 1 rfl rfl 0 (by decide) (hts (.fieldLink RX7 62 "HalfAndHalfAgain$Store" "figures" "[J") (List.mem_of_getElem? (i := 2) rfl)) (fun _ h9 => h9) rfl dX7_itself_15 ?_
    refine lv_iload_n hx hb dX7_itself_18 rfl (lv_at hl 1 rfl) ?_
    obtain ⟨hi26, h⟩ := hk_ge h
    refine va_lald hx hb hK.1 hP 2 1 rfl rfl (hk_inb_of hi26) dX7_itself_19 ?_
    obtain ⟨r27, hr28, h⟩ := hk_x1 h
    refine vp_callSi (W.runS (As := [.long (c_this_now_figures x1.toNatClampNeg)]) (rest := []) ⟨hx, hb, hml, hown, hts⟩ (c_X3_turnsOntoItself l (c_this_now_figures x1.toNatClampNeg) _ hr28) (va_cwS 1 hts gX7_itself_X3_turnsOntoItself rfl rfl rfl zs_X3_turnsOntoItself ⟨Nat.le_of_ble_eq_true rfl, Nat.le_of_ble_eq_true rfl⟩) ⟨fun _ _ _ _ q => q, fun _ _ _ => ⟨rfl, trivial⟩⟩ rfl rfl hl.1 rfl (lv_room (Nat.le_of_ble_eq_true rfl)) dX7_itself_20 ⟨Nat.zero_le _, Nat.zero_le _⟩) (fun p30 e29 => ?_)
    rw [e29]
    subst hQ
    exact W.iret hx hb hr (fun t ht hW => ⟨_, rfl, Option.some.inj h, ht⟩) (fun _ h9 => by cases h9) dX7_itself_23
  replace h := hk_in c25 h
  refine lv_iconst (v := (-1 : Int32)) hx hb dX7_itself_7 (by decide) ?_
  refine lv_goto (tgt := 23) hx hb dX7_itself_8 (by decide) ?_
  subst hQ
  exact W.iret hx hb hr (fun t ht hW => ⟨_, rfl, Option.some.inj h, ht⟩) (fun _ h9 => by cases h9) dX7_itself_23
theorem zs_X7_combined : yX7_combined.cls ≠ "java/lang/invoke/MethodHandle" ∧ yX7_combined.cls ≠ "java/lang/invoke/VarHandle" ∧ (parseMethodDescriptor yX7_combined.desc).map (fun d => d.parameters.length) = some 3 := by decide +kernel
def f_X7_combined   (x0 : Int32) (x1 : Int64) (x3 : Int64) : Option Int64 := if x0 = (0 : Int32) then (some (x1 ||| x3)) else (if x0 = (1 : Int32) then (some (x1 &&& x3)) else (if x0 = (2 : Int32) then (some (x1 &&& (x3 ^^^ (-1 : Int64)))) else (some (x1 ^^^ x3))))
set_option maxHeartbeats 8000000 in
set_option maxRecDepth 100000 in
theorem c_X7_combined (l : Launch) (x0 : Int32) (x1 : Int64) (x3 : Int64) (rv : Int64) (hf : f_X7_combined x0 x1 x3 = some rv) : Met l yX7_combined wsX7_combined ({ frames := 0, cells := 0, slots := 0, locals := 0 }) (va_Pc [.int x0, .long x1, .long x3] (fun _ => True)) (vp_Sl (fun r => r = rv)) 0 0 (fun _ => False) := by
  refine Met.ofW (cc := cX7_combined) (maxL := 5) (ret := (some .long)) (by decide) rfl ?_
  intro p e s m args below meth c s₁ B hml hv
  obtain ⟨rfl, -⟩ := hv
  have hx := B.exec
  have hb := B.bytes
  have hr := B.returns
  have hts := atoms_spec (ws := wsX7_combined) B.pre
  have hown : s.vm.findClass RX7 = some m.cls := findClass_of_methodNamed B.named
  have hlocks := B.notSynchronized
  have hl := lv_entry ([.int x0, .long x1, .long x3]) (n := 5) (Nat.le_of_ble_eq_true rfl)
  rw [lg_entry_eq]
  generalize (lg_sl ([.int x0, .long x1, .long x3]) ++ List.replicate (5 - (lg_sl ([.int x0, .long x1, .long x3])).length) Slot.unset).toArray = ls at hl ⊢
  have hl : lv_has ls 5 [(0, .int x0), (1, .long x1), (3, .long x3)] := hl
  refine hk_Q (fun Q hQ => ?_)
  have h := hf
  unfold f_X7_combined at h
  refine lv_iload_n hx hb dX7_combined_0 rfl (lv_at hl 0 rfl) ?_
  by_cases c21 : x0 = (0 : Int32)
  · replace h := hk_ip c21 h
    refine lv_tableIn (off := 27) (tgt := 28) hx hb dX7_combined_1 (by rw [c21]; decide) (by rw [c21]; decide) (by rw [c21]; rfl) (by decide) ?_
    refine lv_lload_n hx hb dX7_combined_28 rfl (lv_at hl 1 rfl) ?_
    refine lv_lload_n hx hb dX7_combined_29 rfl (lv_at hl 2 rfl) ?_
    refine lv_lor hx hb dX7_combined_30 ?_
    subst hQ
    exact W.lret hx hb hr (fun t ht hW => ⟨_, rfl, Option.some.inj h, ht⟩) (fun _ h9 => by cases h9) dX7_combined_31
  replace h := hk_in c21 h
  by_cases c22 : x0 = (1 : Int32)
  · replace h := hk_ip c22 h
    refine lv_tableIn (off := 31) (tgt := 32) hx hb dX7_combined_1 (by rw [c22]; decide) (by rw [c22]; decide) (by rw [c22]; rfl) (by decide) ?_
    refine lv_lload_n hx hb dX7_combined_32 rfl (lv_at hl 1 rfl) ?_
    refine lv_lload_n hx hb dX7_combined_33 rfl (lv_at hl 2 rfl) ?_
    refine lv_land hx hb dX7_combined_34 ?_
    subst hQ
    exact W.lret hx hb hr (fun t ht hW => ⟨_, rfl, Option.some.inj h, ht⟩) (fun _ h9 => by cases h9) dX7_combined_35
  replace h := hk_in c22 h
  by_cases c23 : x0 = (2 : Int32)
  · replace h := hk_ip c23 h
    refine lv_tableIn (off := 35) (tgt := 36) hx hb dX7_combined_1 (by rw [c23]; decide) (by rw [c23]; decide) (by rw [c23]; rfl) (by decide) ?_
    refine lv_lload_n hx hb dX7_combined_36 rfl (lv_at hl 1 rfl) ?_
    refine lv_lload_n hx hb dX7_combined_37 rfl (lv_at hl 2 rfl) ?_
    refine lv_ldc2 (v := (-1 : Int64)) hx hb hown (hts (.constantLong RX7 75 (-1)) (List.mem_of_getElem? (i := 1) rfl)) dX7_combined_38 ?_
    refine lv_lxor hx hb dX7_combined_41 ?_
    refine lv_land hx hb dX7_combined_42 ?_
    subst hQ
    exact W.lret hx hb hr (fun t ht hW => ⟨_, rfl, Option.some.inj h, ht⟩) (fun _ h9 => by cases h9) dX7_combined_43
  replace h := hk_in c23 h
  refine lv_tableOut (tgt := 44) hx hb dX7_combined_1 (hk_out3 c21 c22 c23) (by decide) ?_
  refine lv_lload_n hx hb dX7_combined_44 rfl (lv_at hl 1 rfl) ?_
  refine lv_lload_n hx hb dX7_combined_45 rfl (lv_at hl 2 rfl) ?_
  refine lv_lxor hx hb dX7_combined_46 ?_
  subst hQ
  exact W.lret hx hb hr (fun t ht hW => ⟨_, rfl, Option.some.inj h, ht⟩) (fun _ h9 => by cases h9) dX7_combined_47
theorem zv_X7_both : yX7_both.cls = RX7 ∧ yX7_both.cls ≠ "java/lang/invoke/MethodHandle" ∧ yX7_both.cls ≠ "java/lang/invoke/VarHandle" ∧ (parseMethodDescriptor yX7_both.desc).map (fun d => d.parameters.length) = some 4 := by decide +kernel
def f_X7_both (c_this_now_figures : Nat → Int64)  (x1 : Int32) (x2 : Int32) (x3 : Int32) (x4 : Int32) : Option (Int32 × (Nat → Int64)) := hk_b1 (f_X7_noFigure x1) fun r21 => if r21 = 0 then (hk_b1 (f_X7_noFigure x3) fun r26 => if r26 = 0 then (hk_b1 (f_X7_noFigure x4) fun r31 => if r31 = 0 then (if x2 < 0 then (some ((-2 : Int32), c_this_now_figures)) else (if x2 ≤ (3 : Int32) then (hk_gd (hk_inb x3 8) (hk_gd (hk_inb x4 8) (hk_b1 (f_X7_combined x2 (c_this_now_figures x3.toNatClampNeg) (c_this_now_figures x4.toNatClampNeg)) fun r40 => hk_b2 (f_X7_become c_this_now_figures x1 r40) fun r44 u45 => some (r44, u45)))) else (some ((-2 : Int32), c_this_now_figures)))) else (some ((-1 : Int32), c_this_now_figures))) else (some ((-1 : Int32), c_this_now_figures))) else (some ((-1 : Int32), c_this_now_figures))
theorem zi_X7_both_X7 : ∀ w ∈ u_ws RX7 TX7 5, w ∈ wsX7_both := by decide +kernel
theorem zi_X7_both_X5 : ∀ w ∈ u_ws RX5 TX5 4, w ∈ wsX7_both := by decide +kernel
set_option maxHeartbeats 8000000 in
set_option maxRecDepth 100000 in
theorem c_X7_both (l : Launch) (D : va_G) (cI cJ cZ cO : ClassId) (a_this a_this_text a_this_now a_this_slots a_this_cover a_this_formsSeen a_this_now_figures a_this_now_pieces a_this_now_mayMirror : Nat) (sz : Nat) (c_this_now_laid : Int32) (c_this_now_figures : Nat → Int64) (x1 : Int32) (x2 : Int32) (x3 : Int32) (x4 : Int32) (rv : Int32) (u_this_now_figures : Nat → Int64) (hf : f_X7_both c_this_now_figures x1 x2 x3 x4 = some (rv, u_this_now_figures)) : Met l yX7_both wsX7_both ({ frames := 2, cells := 0, slots := 0, locals := 44 }) (va_Pc [.ref a_this, .int x1, .int x2, .int x3, .int x4] (hkM D cI cJ cZ cO [(a_this, .inr (3, [.ref a_this_text, .ref a_this_now, .ref a_this_slots, .ref a_this_cover, .ref a_this_formsSeen])), (a_this_now, .inr (1, [.ref a_this_now_figures, .ref a_this_now_pieces, .ref a_this_now_mayMirror, .int c_this_now_laid])), (a_this_now_figures, .inl (cJ, 8, .inr (.inl c_this_now_figures)))] sz)) (va_Qi (fun r (_ : Unit) => r = rv) (fun _ t => va_P D vwCl [(a_this, .inr (3, [.ref a_this_text, .ref a_this_now, .ref a_this_slots, .ref a_this_cover, .ref a_this_formsSeen])), (a_this_now, .inr (1, [.ref a_this_now_figures, .ref a_this_now_pieces, .ref a_this_now_mayMirror, .int c_this_now_laid])), (a_this_now_figures, .inl (cJ, 8, .inr (.inl u_this_now_figures)))] t.heap ∧ va_D (va_A [(a_this, .inr (3, [.ref a_this_text, .ref a_this_now, .ref a_this_slots, .ref a_this_cover, .ref a_this_formsSeen])), (a_this_now, .inr (1, [.ref a_this_now_figures, .ref a_this_now_pieces, .ref a_this_now_mayMirror, .int c_this_now_laid])), (a_this_now_figures, .inl (cJ, 8, .inr (.inl c_this_now_figures)))] sz) [(a_this, .inr (3, [.ref a_this_text, .ref a_this_now, .ref a_this_slots, .ref a_this_cover, .ref a_this_formsSeen])), (a_this_now, .inr (1, [.ref a_this_now_figures, .ref a_this_now_pieces, .ref a_this_now_mayMirror, .int c_this_now_laid])), (a_this_now_figures, .inl (cJ, 8, .inr (.inl u_this_now_figures)))]) (va_A [(a_this, .inr (3, [.ref a_this_text, .ref a_this_now, .ref a_this_slots, .ref a_this_cover, .ref a_this_formsSeen])), (a_this_now, .inr (1, [.ref a_this_now_figures, .ref a_this_now_pieces, .ref a_this_now_mayMirror, .int c_this_now_laid])), (a_this_now_figures, .inl (cJ, 8, .inr (.inl c_this_now_figures)))] sz)) 0 0 (va_A [(a_this, .inr (3, [.ref a_this_text, .ref a_this_now, .ref a_this_slots, .ref a_this_cover, .ref a_this_formsSeen])), (a_this_now, .inr (1, [.ref a_this_now_figures, .ref a_this_now_pieces, .ref a_this_now_mayMirror, .int c_this_now_laid])), (a_this_now_figures, .inl (cJ, 8, .inr (.inl c_this_now_figures)))] sz) := by
  refine Met.ofW (cc := cX7_both) (maxL := 5) (ret := (some .int)) (by decide) rfl ?_
  intro p e s m args below meth c s₁ B hml hv
  obtain ⟨rfl, hsz, hP, hK, hD0⟩ := hv
  have hx := B.exec
  have hb := B.bytes
  have hr := B.returns
  have hts := atoms_spec (ws := wsX7_both) B.pre
  have hown : s.vm.findClass RX7 = some m.cls := findClass_of_methodNamed B.named
  have hlocks := B.notSynchronized
  have hN := hK.2
  subst hsz
  have hD := hD0.self (sz := s.heap.size)
  generalize hAe : va_A [(a_this, .inr (3, [.ref a_this_text, .ref a_this_now, .ref a_this_slots, .ref a_this_cover, .ref a_this_formsSeen])), (a_this_now, .inr (1, [.ref a_this_now_figures, .ref a_this_now_pieces, .ref a_this_now_mayMirror, .int c_this_now_laid])), (a_this_now_figures, .inl (cJ, 8, .inr (.inl c_this_now_figures)))] s.heap.size = A at hD ⊢
  have hA : ∀ q : Nat, s.heap.size ≤ q → A q := fun q h => by rw [← hAe]; exact Or.inr h
  have hS : va_S A s.heap s.heap [] := va_S.rf
  have hl := lv_entry ([.ref a_this, .int x1, .int x2, .int x3, .int x4]) (n := 5) (Nat.le_of_ble_eq_true rfl)
  rw [lg_entry_eq]
  generalize (lg_sl ([.ref a_this, .int x1, .int x2, .int x3, .int x4]) ++ List.replicate (5 - (lg_sl ([.ref a_this, .int x1, .int x2, .int x3, .int x4])).length) Slot.unset).toArray = ls at hl ⊢
  have hl : lv_has ls 5 [(0, .ref a_this), (1, .int x1), (2, .int x2), (3, .int x3), (4, .int x4)] := hl
  refine hk_Q (fun Q hQ => ?_)
  have h := hf
  unfold f_X7_both at h
  refine lv_iload_n hx hb dX7_both_0 rfl (lv_at hl 1 rfl) ?_
  obtain ⟨r21, hr22, h⟩ := hk_x1 h
  refine vp_callSi (W.runS (As := [.int x1]) (rest := []) ⟨hx, hb, hml, hown, hts⟩ (c_X7_noFigure l x1 _ hr22) (va_cwS 1 hts gX7_both_X7_noFigure rfl rfl rfl zs_X7_noFigure ⟨Nat.le_of_ble_eq_true rfl, Nat.le_of_ble_eq_true rfl⟩) ⟨fun _ _ _ _ q => q, fun _ _ _ => ⟨rfl, trivial⟩⟩ rfl rfl hl.1 rfl (lv_room (Nat.le_of_ble_eq_true rfl)) dX7_both_1 ⟨Nat.zero_le _, Nat.zero_le _⟩) (fun p24 e23 => ?_)
  rw [e23]
  refine lv_if_ne (tgt := 22) hx hb dX7_both_4 (by decide) (fun c25 => ?_) (fun c25 => ?_)
  · replace h := hk_in c25 h
    refine lv_iconst (v := (-1 : Int32)) hx hb dX7_both_22 (by decide) ?_
    subst hQ
    have h := Option.some.inj h
    simp only [Prod.mk.injEq] at h
    obtain ⟨rfl, rfl⟩ := h
    exact W.iret hx hb hr (fun t ht hW => ⟨⟨_, (), rfl, rfl, by rw [ht]; exact hP, hD⟩, hS.F ht⟩) hS.2.2 dX7_both_23
  replace h := hk_ip c25 h
  refine lv_iload_n hx hb dX7_both_7 rfl (lv_at hl 3 rfl) ?_
  obtain ⟨r26, hr27, h⟩ := hk_x1 h
  refine vp_callSi (W.runS (As := [.int x3]) (rest := []) ⟨hx, hb, hml, hown, hts⟩ (c_X7_noFigure l x3 _ hr27) (va_cwS 1 hts gX7_both_X7_noFigure rfl rfl rfl zs_X7_noFigure ⟨Nat.le_of_ble_eq_true rfl, Nat.le_of_ble_eq_true rfl⟩) ⟨fun _ _ _ _ q => q, fun _ _ _ => ⟨rfl, trivial⟩⟩ rfl rfl hl.1 rfl (lv_room (Nat.le_of_ble_eq_true rfl)) dX7_both_8 ⟨Nat.zero_le _, Nat.zero_le _⟩) (fun p29 e28 => ?_)
  rw [e28]
  refine lv_if_ne (tgt := 22) hx hb dX7_both_11 (by decide) (fun c30 => ?_) (fun c30 => ?_)
  · replace h := hk_in c30 h
    refine lv_iconst (v := (-1 : Int32)) hx hb dX7_both_22 (by decide) ?_
    subst hQ
    have h := Option.some.inj h
    simp only [Prod.mk.injEq] at h
    obtain ⟨rfl, rfl⟩ := h
    exact W.iret hx hb hr (fun t ht hW => ⟨⟨_, (), rfl, rfl, by rw [ht]; exact hP, hD⟩, hS.F ht⟩) hS.2.2 dX7_both_23
  replace h := hk_ip c30 h
  refine lv_iload hx hb dX7_both_14 (lv_at hl 4 rfl) ?_
  obtain ⟨r31, hr32, h⟩ := hk_x1 h
  refine vp_callSi (W.runS (As := [.int x4]) (rest := []) ⟨hx, hb, hml, hown, hts⟩ (c_X7_noFigure l x4 _ hr32) (va_cwS 1 hts gX7_both_X7_noFigure rfl rfl rfl zs_X7_noFigure ⟨Nat.le_of_ble_eq_true rfl, Nat.le_of_ble_eq_true rfl⟩) ⟨fun _ _ _ _ q => q, fun _ _ _ => ⟨rfl, trivial⟩⟩ rfl rfl hl.1 rfl (lv_room (Nat.le_of_ble_eq_true rfl)) dX7_both_16 ⟨Nat.zero_le _, Nat.zero_le _⟩) (fun p34 e33 => ?_)
  rw [e33]
  refine lv_if_eq (tgt := 24) hx hb dX7_both_19 (by decide) (fun c35 => ?_) (fun c35 => ?_)
  · replace h := hk_ip c35 h
    refine lv_iload_n hx hb dX7_both_24 rfl (lv_at hl 2 rfl) ?_
    refine lv_if_lt (tgt := 33) hx hb dX7_both_25 (by decide) (fun c36 => ?_) (fun c36 => ?_)
    · replace h := hk_ip c36 h
      refine lv_bipush (v := (-2 : Int32)) hx hb dX7_both_33 (by decide) ?_
      subst hQ
      have h := Option.some.inj h
      simp only [Prod.mk.injEq] at h
      obtain ⟨rfl, rfl⟩ := h
      exact W.iret hx hb hr (fun t ht hW => ⟨⟨_, (), rfl, rfl, by rw [ht]; exact hP, hD⟩, hS.F ht⟩) hS.2.2 dX7_both_35
    replace h := hk_in c36 h
    refine lv_iload_n hx hb dX7_both_28 rfl (lv_at hl 2 rfl) ?_
    refine lv_iconst (v := (3 : Int32)) hx hb dX7_both_29 (by decide) ?_
    refine lv_icmp_le (tgt := 36) hx hb dX7_both_30 (by decide) (fun c37 => ?_) (fun c37 => ?_)
    · replace h := hk_ip c37 h
      refine lv_aload_n hx hb dX7_both_36 rfl (lv_at hl 0 rfl) ?_
      refine lv_iload_n hx hb dX7_both_37 rfl (lv_at hl 1 rfl) ?_
      refine lv_iload_n hx hb dX7_both_38 rfl (lv_at hl 2 rfl) ?_
      refine lv_aload_n hx hb dX7_both_39 rfl (lv_at hl 0 rfl) ?_
      refine va_get (D := D) (ci := 3) (v := .ref a_this_now) (C := RX7) (T := TX7) (N := 5) hx hb hts zi_X7_both_X7 hown hK.1 hP 0 rfl rfl 1 (by decide) (hts (.fieldLink RX7 19 "HalfAndHalfAgain" "now" "LHalfAndHalfAgain$Store;") (List.mem_of_getElem? (i := 1) rfl)) (fun _ h9 => h9) rfl dX7_both_40 ?_
      refine va_get (D := D) (ci := 1) (v := .ref a_this_now_figures) (C := RX5) (T := TX5) (N := 4) hx hb hts zi_X7_both_X5 hown hK.1 hP 1 rfl rfl 0 (by decide) (hts (.fieldLink RX7 62 "HalfAndHalfAgain$Store" "figures" "[J") (List.mem_of_getElem? (i := 2) rfl)) (fun _ h9 => h9) rfl dX7_both_43 ?_
      refine lv_iload_n hx hb dX7_both_46 rfl (lv_at hl 3 rfl) ?_
      obtain ⟨hi38, h⟩ := hk_ge h
      refine va_lald hx hb hK.1 hP 2 1 rfl rfl (hk_inb_of hi38) dX7_both_47 ?_
      refine lv_aload_n hx hb dX7_both_48 rfl (lv_at hl 0 rfl) ?_
      refine va_get (D := D) (ci := 3) (v := .ref a_this_now) (C := RX7) (T := TX7) (N := 5) hx hb hts zi_X7_both_X7 hown hK.1 hP 0 rfl rfl 1 (by decide) (hts (.fieldLink RX7 19 "HalfAndHalfAgain" "now" "LHalfAndHalfAgain$Store;") (List.mem_of_getElem? (i := 1) rfl)) (fun _ h9 => h9) rfl dX7_both_49 ?_
      refine va_get (D := D) (ci := 1) (v := .ref a_this_now_figures) (C := RX5) (T := TX5) (N := 4) hx hb hts zi_X7_both_X5 hown hK.1 hP 1 rfl rfl 0 (by decide) (hts (.fieldLink RX7 62 "HalfAndHalfAgain$Store" "figures" "[J") (List.mem_of_getElem? (i := 2) rfl)) (fun _ h9 => h9) rfl dX7_both_52 ?_
      refine lv_iload hx hb dX7_both_55 (lv_at hl 4 rfl) ?_
      obtain ⟨hi39, h⟩ := hk_ge h
      refine va_lald hx hb hK.1 hP 2 1 rfl rfl (hk_inb_of hi39) dX7_both_57 ?_
      obtain ⟨r40, hr41, h⟩ := hk_x1 h
      refine vp_callSl (W.runS (As := [.int x2, .long (c_this_now_figures x3.toNatClampNeg), .long (c_this_now_figures x4.toNatClampNeg)]) (rest := [.int x1, .ref a_this]) ⟨hx, hb, hml, hown, hts⟩ (c_X7_combined l x2 (c_this_now_figures x3.toNatClampNeg) (c_this_now_figures x4.toNatClampNeg) _ hr41) (va_cwS 3 hts gX7_both_X7_combined rfl rfl rfl zs_X7_combined ⟨Nat.le_of_ble_eq_true rfl, Nat.le_of_ble_eq_true rfl⟩) ⟨fun _ _ _ _ q => q, fun _ _ _ => ⟨rfl, trivial⟩⟩ rfl rfl hl.1 rfl (lv_room (Nat.le_of_ble_eq_true rfl)) dX7_both_58 ⟨Nat.zero_le _, Nat.zero_le _⟩) (fun p43 e42 => ?_)
      rw [e42]
      obtain ⟨r44, u45, hr46, h⟩ := hk_x2 h
      have hPc := hP.sub (ws' := [(a_this, .inr (3, [.ref a_this_text, .ref a_this_now, .ref a_this_slots, .ref a_this_cover, .ref a_this_formsSeen])), (a_this_now, .inr (1, [.ref a_this_now_figures, .ref a_this_now_pieces, .ref a_this_now_mayMirror, .int c_this_now_laid])), (a_this_now_figures, .inl (cJ, 8, .inr (.inl c_this_now_figures)))]) [0, 1, 2] rfl
      have hDc := hD.sub (ws' := [(a_this, .inr (3, [.ref a_this_text, .ref a_this_now, .ref a_this_slots, .ref a_this_cover, .ref a_this_formsSeen])), (a_this_now, .inr (1, [.ref a_this_now_figures, .ref a_this_now_pieces, .ref a_this_now_mayMirror, .int c_this_now_laid])), (a_this_now_figures, .inl (cJ, 8, .inr (.inl c_this_now_figures)))]) [0, 1, 2] (by decide) rfl
      have hFc := va_free (wc := [(a_this, .inr (3, [.ref a_this_text, .ref a_this_now, .ref a_this_slots, .ref a_this_cover, .ref a_this_formsSeen])), (a_this_now, .inr (1, [.ref a_this_now_figures, .ref a_this_now_pieces, .ref a_this_now_mayMirror, .int c_this_now_laid])), (a_this_now_figures, .inl (cJ, 8, .inr (.inl c_this_now_figures)))]) hD hS hA [0, 1, 2] rfl
      refine va_calli (va_runV (As := [.int x1, .long r40]) (rest := []) ⟨hx, hb, hml, hown, hts⟩ (c_X7_become l D cI cJ cZ cO a_this a_this_text a_this_now a_this_slots a_this_cover a_this_formsSeen a_this_now_figures a_this_now_pieces a_this_now_mayMirror s.heap.size c_this_now_laid c_this_now_figures x1 r40 _ _ hr46) (cwV 2 hts gX7_both_X7_become rfl rfl rfl zv_X7_become ⟨Nat.le_of_ble_eq_true rfl, Nat.le_of_ble_eq_true rfl⟩) (hk_preMV 3 rfl hPc hDc hK rfl) rfl rfl hl.1 rfl (lv_room (Nat.le_of_ble_eq_true rfl)) dX7_both_61 ⟨Nat.zero_le _, Nat.zero_le _⟩) hS (fun q _ h9 => hFc q h9) hFc (fun p47 u9 t9 H1 locs ht hvm hw hB hz1 hk1 hS => ?_)
      obtain ⟨hP1, hD1⟩ := hB
      rw [ht] at hP1
      rw [hw]
      obtain ⟨hP, hD⟩ := va_join (wr := []) (w1 := [(a_this, .inr (3, [.ref a_this_text, .ref a_this_now, .ref a_this_slots, .ref a_this_cover, .ref a_this_formsSeen])), (a_this_now, .inr (1, [.ref a_this_now_figures, .ref a_this_now_pieces, .ref a_this_now_mayMirror, .int c_this_now_laid])), (a_this_now_figures, .inl (cJ, 8, .inr (.inl u45)))]) hP hD [0, 1, 2] [] rfl rfl (by decide) (by decide) hk1 hFc hP1 hD1
      generalize H1 = H at hP hS ⊢
      have hP := hP.sub (ws' := [(a_this, .inr (3, [.ref a_this_text, .ref a_this_now, .ref a_this_slots, .ref a_this_cover, .ref a_this_formsSeen])), (a_this_now, .inr (1, [.ref a_this_now_figures, .ref a_this_now_pieces, .ref a_this_now_mayMirror, .int c_this_now_laid])), (a_this_now_figures, .inl (cJ, 8, .inr (.inl u45)))]) [0, 1, 2] rfl
      have hD := hD.sub (ws' := [(a_this, .inr (3, [.ref a_this_text, .ref a_this_now, .ref a_this_slots, .ref a_this_cover, .ref a_this_formsSeen])), (a_this_now, .inr (1, [.ref a_this_now_figures, .ref a_this_now_pieces, .ref a_this_now_mayMirror, .int c_this_now_laid])), (a_this_now_figures, .inl (cJ, 8, .inr (.inl u45)))]) [0, 1, 2] (by decide) rfl
      subst hQ
      have h := Option.some.inj h
      simp only [Prod.mk.injEq] at h
      obtain ⟨rfl, rfl⟩ := h
      exact W.iret hx hb hr (fun t ht hW => ⟨⟨_, (), rfl, rfl, by rw [ht]; exact hP, hD⟩, hS.F ht⟩) hS.2.2 dX7_both_64
    replace h := hk_in c37 h
    refine lv_bipush (v := (-2 : Int32)) hx hb dX7_both_33 (by decide) ?_
    subst hQ
    have h := Option.some.inj h
    simp only [Prod.mk.injEq] at h
    obtain ⟨rfl, rfl⟩ := h
    exact W.iret hx hb hr (fun t ht hW => ⟨⟨_, (), rfl, rfl, by rw [ht]; exact hP, hD⟩, hS.F ht⟩) hS.2.2 dX7_both_35
  replace h := hk_in c35 h
  refine lv_iconst (v := (-1 : Int32)) hx hb dX7_both_22 (by decide) ?_
  subst hQ
  have h := Option.some.inj h
  simp only [Prod.mk.injEq] at h
  obtain ⟨rfl, rfl⟩ := h
  exact W.iret hx hb hr (fun t ht hW => ⟨⟨_, (), rfl, rfl, by rw [ht]; exact hP, hD⟩, hS.F ht⟩) hS.2.2 dX7_both_23
theorem zv_X7_ahead : yX7_ahead.cls = RX7 ∧ yX7_ahead.cls ≠ "java/lang/invoke/MethodHandle" ∧ yX7_ahead.cls ≠ "java/lang/invoke/VarHandle" ∧ (parseMethodDescriptor yX7_ahead.desc).map (fun d => d.parameters.length) = some 3 := by decide +kernel
def f_X7_ahead (c_this_now_figures : Nat → Int64)  (x1 : Int32) (x2 : Int32) (x3 : Int32) : Option Int32 := hk_b1 (f_X7_noFigure x1) fun r21 => if r21 = 0 then (hk_b1 (f_X2_isNone x2 x3) fun r26 => if r26 = 0 then (hk_gd (hk_inb x1 8) (hk_b1 (f_X2_cellsAhead x2 x3) fun r32 => hk_b1 (f_J13_bitCount_95d88 ((c_this_now_figures x1.toNatClampNeg) &&& r32)) fun r36 => some r36)) else (some (-2 : Int32))) else (some (-1 : Int32))
theorem zi_X7_ahead_X7 : ∀ w ∈ u_ws RX7 TX7 5, w ∈ wsX7_ahead := by decide +kernel
theorem zi_X7_ahead_X5 : ∀ w ∈ u_ws RX5 TX5 4, w ∈ wsX7_ahead := by decide +kernel
set_option maxHeartbeats 8000000 in
set_option maxRecDepth 100000 in
theorem c_X7_ahead (l : Launch) (D : va_G) (cI cJ cZ cO : ClassId) (a_this a_this_text a_this_now a_this_slots a_this_cover a_this_formsSeen a_this_now_figures a_this_now_pieces a_this_now_mayMirror : Nat) (c_this_now_laid : Int32) (c_this_now_figures : Nat → Int64) (x1 : Int32) (x2 : Int32) (x3 : Int32) (rv : Int32) (hf : f_X7_ahead c_this_now_figures x1 x2 x3 = some rv) : Met l yX7_ahead wsX7_ahead ({ frames := 3, cells := 0, slots := 0, locals := 67 }) (va_Pc [.ref a_this, .int x1, .int x2, .int x3] (hkR D cI cJ cZ cO [(a_this, .inr (3, [.ref a_this_text, .ref a_this_now, .ref a_this_slots, .ref a_this_cover, .ref a_this_formsSeen])), (a_this_now, .inr (1, [.ref a_this_now_figures, .ref a_this_now_pieces, .ref a_this_now_mayMirror, .int c_this_now_laid])), (a_this_now_figures, .inl (cJ, 8, .inr (.inl c_this_now_figures)))])) (vp_Si (fun r => r = rv)) 0 0 (fun _ => False) := by
  refine Met.ofW (cc := cX7_ahead) (maxL := 4) (ret := (some .int)) (by decide) rfl ?_
  intro p e s m args below meth c s₁ B hml hv
  obtain ⟨rfl, hP, hK⟩ := hv
  have hx := B.exec
  have hb := B.bytes
  have hr := B.returns
  have hts := atoms_spec (ws := wsX7_ahead) B.pre
  have hown : s.vm.findClass RX7 = some m.cls := findClass_of_methodNamed B.named
  have hlocks := B.notSynchronized
  have hN := hK.2
  have hl := lv_entry ([.ref a_this, .int x1, .int x2, .int x3]) (n := 4) (Nat.le_of_ble_eq_true rfl)
  rw [lg_entry_eq]
  generalize (lg_sl ([.ref a_this, .int x1, .int x2, .int x3]) ++ List.replicate (4 - (lg_sl ([.ref a_this, .int x1, .int x2, .int x3])).length) Slot.unset).toArray = ls at hl ⊢
  have hl : lv_has ls 4 [(0, .ref a_this), (1, .int x1), (2, .int x2), (3, .int x3)] := hl
  refine hk_Q (fun Q hQ => ?_)
  have h := hf
  unfold f_X7_ahead at h
  refine lv_iload_n hx hb dX7_ahead_0 rfl (lv_at hl 1 rfl) ?_
  obtain ⟨r21, hr22, h⟩ := hk_x1 h
  refine vp_callSi (W.runS (As := [.int x1]) (rest := []) ⟨hx, hb, hml, hown, hts⟩ (c_X7_noFigure l x1 _ hr22) (va_cwS 1 hts gX7_ahead_X7_noFigure rfl rfl rfl zs_X7_noFigure ⟨Nat.le_of_ble_eq_true rfl, Nat.le_of_ble_eq_true rfl⟩) ⟨fun _ _ _ _ q => q, fun _ _ _ => ⟨rfl, trivial⟩⟩ rfl rfl hl.1 rfl (lv_room (Nat.le_of_ble_eq_true rfl)) dX7_ahead_1 ⟨Nat.zero_le _, Nat.zero_le _⟩) (fun p24 e23 => ?_)
  rw [e23]
  refine lv_if_eq (tgt := 9) hx hb dX7_ahead_4 (by decide) (fun c25 => ?_) (fun c25 => ?_)
  · replace h := hk_ip c25 h
    refine lv_iload_n hx hb dX7_ahead_9 rfl (lv_at hl 2 rfl) ?_
    refine lv_iload_n hx hb dX7_ahead_10 rfl (lv_at hl 3 rfl) ?_
    obtain ⟨r26, hr27, h⟩ := hk_x1 h
    refine vp_callSi (W.runS (As := [.int x2, .int x3]) (rest := []) ⟨hx, hb, hml, hown, hts⟩ (c_X2_isNone l x2 x3 _ hr27) (va_cwS 2 hts gX7_ahead_X2_isNone rfl rfl rfl zs_X2_isNone ⟨Nat.le_of_ble_eq_true rfl, Nat.le_of_ble_eq_true rfl⟩) ⟨fun _ _ _ _ q => q, fun _ _ _ => ⟨rfl, trivial⟩⟩ rfl rfl hl.1 rfl (lv_room (Nat.le_of_ble_eq_true rfl)) dX7_ahead_11 ⟨Nat.zero_le _, Nat.zero_le _⟩) (fun p29 e28 => ?_)
    rw [e28]
    refine lv_if_eq (tgt := 20) hx hb dX7_ahead_14 (by decide) (fun c30 => ?_) (fun c30 => ?_)
    · replace h := hk_ip c30 h
      refine lv_aload_n hx hb dX7_ahead_20 rfl (lv_at hl 0 rfl) ?_
      refine va_get (D := D) (ci := 3) (v := .ref a_this_now) (C := RX7) (T := TX7) (N := 5) hx hb hts zi_X7_ahead_X7 hown hK.1 hP 0 rfl rfl 1 (by decide) (hts (.fieldLink RX7 19 "HalfAndHalfAgain" "now" "LHalfAndHalfAgain$Store;") (List.mem_of_getElem? (i := 1) rfl)) (fun _ h9 => h9) rfl dX7_ahead_21 ?_
      refine va_get (D := D) (ci := 1) (v := .ref a_this_now_figures) (C := RX5) (T := TX5) (N := 4) hx hb hts zi_X7_ahead_X5 hown hK.1 hP 1 rfl rfl 0 (by decide) (hts (.fieldLink RX7 62 "HalfAndHalfAgain$Store" "figures" "[J") (List.mem_of_getElem? (i := 2) rfl)) (fun _ h9 => h9) rfl dX7_ahead_24 ?_
      refine lv_iload_n hx hb dX7_ahead_27 rfl (lv_at hl 1 rfl) ?_
      obtain ⟨hi31, h⟩ := hk_ge h
      refine va_lald hx hb hK.1 hP 2 1 rfl rfl (hk_inb_of hi31) dX7_ahead_28 ?_
      refine lv_iload_n hx hb dX7_ahead_29 rfl (lv_at hl 2 rfl) ?_
      refine lv_iload_n hx hb dX7_ahead_30 rfl (lv_at hl 3 rfl) ?_
      obtain ⟨r32, hr33, h⟩ := hk_x1 h
      refine vp_callSl (W.runS (As := [.int x2, .int x3]) (rest := [.long (c_this_now_figures x1.toNatClampNeg)]) ⟨hx, hb, hml, hown, hts⟩ (c_X2_cellsAhead l x2 x3 _ hr33) (va_cwS 2 hts gX7_ahead_X2_cellsAhead rfl rfl rfl zs_X2_cellsAhead ⟨Nat.le_of_ble_eq_true rfl, Nat.le_of_ble_eq_true rfl⟩) ⟨fun _ _ _ _ q => q, fun _ _ _ => ⟨rfl, trivial⟩⟩ rfl rfl hl.1 rfl (lv_room (Nat.le_of_ble_eq_true rfl)) dX7_ahead_31 ⟨Nat.zero_le _, Nat.zero_le _⟩) (fun p35 e34 => ?_)
      rw [e34]
      refine lv_land hx hb dX7_ahead_34 ?_
      obtain ⟨r36, hr37, h⟩ := hk_x1 h
      refine vp_callSi (W.runS (As := [.long ((c_this_now_figures x1.toNatClampNeg) &&& r32)]) (rest := []) ⟨hx, hb, hml, hown, hts⟩ (c_J13_bitCount_95d88 l ((c_this_now_figures x1.toNatClampNeg) &&& r32) _ hr37) (va_cwS 1 hts gX7_ahead_J13_bitCount_95d88 rfl rfl rfl zs_J13_bitCount_95d88 ⟨Nat.le_of_ble_eq_true rfl, Nat.le_of_ble_eq_true rfl⟩) ⟨fun _ _ _ _ q => q, fun _ _ _ => ⟨rfl, trivial⟩⟩ rfl rfl hl.1 rfl (lv_room (Nat.le_of_ble_eq_true rfl)) dX7_ahead_35 ⟨Nat.zero_le _, Nat.zero_le _⟩) (fun p39 e38 => ?_)
      rw [e38]
      subst hQ
      exact W.iret hx hb hr (fun t ht hW => ⟨_, rfl, Option.some.inj h, ht⟩) (fun _ h9 => by cases h9) dX7_ahead_38
    replace h := hk_in c30 h
    refine lv_bipush (v := (-2 : Int32)) hx hb dX7_ahead_17 (by decide) ?_
    subst hQ
    exact W.iret hx hb hr (fun t ht hW => ⟨_, rfl, Option.some.inj h, ht⟩) (fun _ h9 => by cases h9) dX7_ahead_19
  replace h := hk_in c25 h
  refine lv_iconst (v := (-1 : Int32)) hx hb dX7_ahead_7 (by decide) ?_
  subst hQ
  exact W.iret hx hb hr (fun t ht hW => ⟨_, rfl, Option.some.inj h, ht⟩) (fun _ h9 => by cases h9) dX7_ahead_8
theorem zv_X7_cut : yX7_cut.cls = RX7 ∧ yX7_cut.cls ≠ "java/lang/invoke/MethodHandle" ∧ yX7_cut.cls ≠ "java/lang/invoke/VarHandle" ∧ (parseMethodDescriptor yX7_cut.desc).map (fun d => d.parameters.length) = some 3 := by decide +kernel
def f_X7_cut (c_this_now_figures : Nat → Int64)  (x1 : Int32) (x2 : Int32) (x3 : Int32) : Option Int32 := hk_b1 (f_X7_noFigure x1) fun r21 => if r21 = 0 then (hk_b1 (f_X2_isNone x2 x3) fun r26 => if r26 = 0 then (hk_gd (hk_inb x1 8) (hk_let (c_this_now_figures x1.toNatClampNeg) fun x32 => hk_b1 (f_X2_cellsAhead x2 x3) fun r33 => hk_b1 (f_X0_countParts (x32 &&& r33)) fun r37 => hk_b1 (f_X0_countParts (x32 &&& (r33 ^^^ (-1 : Int64)))) fun r41 => some (r37 + r41))) else (some (-2 : Int32))) else (some (-1 : Int32))
theorem zi_X7_cut_X7 : ∀ w ∈ u_ws RX7 TX7 5, w ∈ wsX7_cut := by decide +kernel
theorem zi_X7_cut_X5 : ∀ w ∈ u_ws RX5 TX5 4, w ∈ wsX7_cut := by decide +kernel
set_option maxHeartbeats 8000000 in
set_option maxRecDepth 100000 in
theorem c_X7_cut (l : Launch) (D : va_G) (cI cJ cZ cO : ClassId) (a_this a_this_text a_this_now a_this_slots a_this_cover a_this_formsSeen a_this_now_figures a_this_now_pieces a_this_now_mayMirror : Nat) (c_this_now_laid : Int32) (c_this_now_figures : Nat → Int64) (x1 : Int32) (x2 : Int32) (x3 : Int32) (rv : Int32) (hf : f_X7_cut c_this_now_figures x1 x2 x3 = some rv) : Met l yX7_cut wsX7_cut ({ frames := 4, cells := 0, slots := 0, locals := 95 }) (va_Pc [.ref a_this, .int x1, .int x2, .int x3] (hkR D cI cJ cZ cO [(a_this, .inr (3, [.ref a_this_text, .ref a_this_now, .ref a_this_slots, .ref a_this_cover, .ref a_this_formsSeen])), (a_this_now, .inr (1, [.ref a_this_now_figures, .ref a_this_now_pieces, .ref a_this_now_mayMirror, .int c_this_now_laid])), (a_this_now_figures, .inl (cJ, 8, .inr (.inl c_this_now_figures)))])) (vp_Si (fun r => r = rv)) 0 0 (fun _ => False) := by
  refine Met.ofW (cc := cX7_cut) (maxL := 8) (ret := (some .int)) (by decide) rfl ?_
  intro p e s m args below meth c s₁ B hml hv
  obtain ⟨rfl, hP, hK⟩ := hv
  have hx := B.exec
  have hb := B.bytes
  have hr := B.returns
  have hts := atoms_spec (ws := wsX7_cut) B.pre
  have hown : s.vm.findClass RX7 = some m.cls := findClass_of_methodNamed B.named
  have hlocks := B.notSynchronized
  have hN := hK.2
  have hl := lv_entry ([.ref a_this, .int x1, .int x2, .int x3]) (n := 8) (Nat.le_of_ble_eq_true rfl)
  rw [lg_entry_eq]
  generalize (lg_sl ([.ref a_this, .int x1, .int x2, .int x3]) ++ List.replicate (8 - (lg_sl ([.ref a_this, .int x1, .int x2, .int x3])).length) Slot.unset).toArray = ls at hl ⊢
  have hl : lv_has ls 8 [(0, .ref a_this), (1, .int x1), (2, .int x2), (3, .int x3)] := hl
  refine hk_Q (fun Q hQ => ?_)
  have h := hf
  unfold f_X7_cut at h
  refine lv_iload_n hx hb dX7_cut_0 rfl (lv_at hl 1 rfl) ?_
  obtain ⟨r21, hr22, h⟩ := hk_x1 h
  refine vp_callSi (W.runS (As := [.int x1]) (rest := []) ⟨hx, hb, hml, hown, hts⟩ (c_X7_noFigure l x1 _ hr22) (va_cwS 1 hts gX7_cut_X7_noFigure rfl rfl rfl zs_X7_noFigure ⟨Nat.le_of_ble_eq_true rfl, Nat.le_of_ble_eq_true rfl⟩) ⟨fun _ _ _ _ q => q, fun _ _ _ => ⟨rfl, trivial⟩⟩ rfl rfl hl.1 rfl (lv_room (Nat.le_of_ble_eq_true rfl)) dX7_cut_1 ⟨Nat.zero_le _, Nat.zero_le _⟩) (fun p24 e23 => ?_)
  rw [e23]
  refine lv_if_eq (tgt := 9) hx hb dX7_cut_4 (by decide) (fun c25 => ?_) (fun c25 => ?_)
  · replace h := hk_ip c25 h
    refine lv_iload_n hx hb dX7_cut_9 rfl (lv_at hl 2 rfl) ?_
    refine lv_iload_n hx hb dX7_cut_10 rfl (lv_at hl 3 rfl) ?_
    obtain ⟨r26, hr27, h⟩ := hk_x1 h
    refine vp_callSi (W.runS (As := [.int x2, .int x3]) (rest := []) ⟨hx, hb, hml, hown, hts⟩ (c_X2_isNone l x2 x3 _ hr27) (va_cwS 2 hts gX7_cut_X2_isNone rfl rfl rfl zs_X2_isNone ⟨Nat.le_of_ble_eq_true rfl, Nat.le_of_ble_eq_true rfl⟩) ⟨fun _ _ _ _ q => q, fun _ _ _ => ⟨rfl, trivial⟩⟩ rfl rfl hl.1 rfl (lv_room (Nat.le_of_ble_eq_true rfl)) dX7_cut_11 ⟨Nat.zero_le _, Nat.zero_le _⟩) (fun p29 e28 => ?_)
    rw [e28]
    refine lv_if_eq (tgt := 20) hx hb dX7_cut_14 (by decide) (fun c30 => ?_) (fun c30 => ?_)
    · replace h := hk_ip c30 h
      refine lv_aload_n hx hb dX7_cut_20 rfl (lv_at hl 0 rfl) ?_
      refine va_get (D := D) (ci := 3) (v := .ref a_this_now) (C := RX7) (T := TX7) (N := 5) hx hb hts zi_X7_cut_X7 hown hK.1 hP 0 rfl rfl 1 (by decide) (hts (.fieldLink RX7 19 "HalfAndHalfAgain" "now" "LHalfAndHalfAgain$Store;") (List.mem_of_getElem? (i := 1) rfl)) (fun _ h9 => h9) rfl dX7_cut_21 ?_
      refine va_get (D := D) (ci := 1) (v := .ref a_this_now_figures) (C := RX5) (T := TX5) (N := 4) hx hb hts zi_X7_cut_X5 hown hK.1 hP 1 rfl rfl 0 (by decide) (hts (.fieldLink RX7 62 "HalfAndHalfAgain$Store" "figures" "[J") (List.mem_of_getElem? (i := 2) rfl)) (fun _ h9 => h9) rfl dX7_cut_24 ?_
      refine lv_iload_n hx hb dX7_cut_27 rfl (lv_at hl 1 rfl) ?_
      obtain ⟨hi31, h⟩ := hk_ge h
      refine va_lald hx hb hK.1 hP 2 1 rfl rfl (hk_inb_of hi31) dX7_cut_28 ?_
      obtain ⟨x32, ex32, h⟩ := hk_le h
      refine hk_tl ex32 ?_
      refine lv_lstore (lv' := [(4, .long x32), (0, .ref a_this), (1, .int x1), (2, .int x2), (3, .int x3)]) hx hb dX7_cut_29 hl (by decide) rfl (fun ls hl => ?_)
      refine lv_iload_n hx hb dX7_cut_31 rfl (lv_at hl 3 rfl) ?_
      refine lv_iload_n hx hb dX7_cut_32 rfl (lv_at hl 4 rfl) ?_
      obtain ⟨r33, hr34, h⟩ := hk_x1 h
      refine vp_callSl (W.runS (As := [.int x2, .int x3]) (rest := []) ⟨hx, hb, hml, hown, hts⟩ (c_X2_cellsAhead l x2 x3 _ hr34) (va_cwS 2 hts gX7_cut_X2_cellsAhead rfl rfl rfl zs_X2_cellsAhead ⟨Nat.le_of_ble_eq_true rfl, Nat.le_of_ble_eq_true rfl⟩) ⟨fun _ _ _ _ q => q, fun _ _ _ => ⟨rfl, trivial⟩⟩ rfl rfl hl.1 rfl (lv_room (Nat.le_of_ble_eq_true rfl)) dX7_cut_33 ⟨Nat.zero_le _, Nat.zero_le _⟩) (fun p36 e35 => ?_)
      rw [e35]
      refine lv_lstore (lv' := [(6, .long r33), (4, .long x32), (0, .ref a_this), (1, .int x1), (2, .int x2), (3, .int x3)]) hx hb dX7_cut_36 hl (by decide) rfl (fun ls hl => ?_)
      refine lv_lload hx hb dX7_cut_38 (lv_at hl 1 rfl) ?_
      refine lv_lload hx hb dX7_cut_40 (lv_at hl 0 rfl) ?_
      refine lv_land hx hb dX7_cut_42 ?_
      obtain ⟨r37, hr38, h⟩ := hk_x1 h
      refine vp_callSi (W.runS (As := [.long (x32 &&& r33)]) (rest := []) ⟨hx, hb, hml, hown, hts⟩ (c_X0_countParts l (x32 &&& r33) _ hr38) (va_cwS 1 hts gX7_cut_X0_countParts rfl rfl rfl zs_X0_countParts ⟨Nat.le_of_ble_eq_true rfl, Nat.le_of_ble_eq_true rfl⟩) ⟨fun _ _ _ _ q => q, fun _ _ _ => ⟨rfl, trivial⟩⟩ rfl rfl hl.1 rfl (lv_room (Nat.le_of_ble_eq_true rfl)) dX7_cut_43 ⟨Nat.zero_le _, Nat.zero_le _⟩) (fun p40 e39 => ?_)
      rw [e39]
      refine lv_lload hx hb dX7_cut_46 (lv_at hl 1 rfl) ?_
      refine lv_lload hx hb dX7_cut_48 (lv_at hl 0 rfl) ?_
      refine lv_ldc2 (v := (-1 : Int64)) hx hb hown (hts (.constantLong RX7 75 (-1)) (List.mem_of_getElem? (i := 3) rfl)) dX7_cut_50 ?_
      refine lv_lxor hx hb dX7_cut_53 ?_
      refine lv_land hx hb dX7_cut_54 ?_
      obtain ⟨r41, hr42, h⟩ := hk_x1 h
      refine vp_callSi (W.runS (As := [.long (x32 &&& (r33 ^^^ (-1 : Int64)))]) (rest := [.int r37]) ⟨hx, hb, hml, hown, hts⟩ (c_X0_countParts l (x32 &&& (r33 ^^^ (-1 : Int64))) _ hr42) (va_cwS 1 hts gX7_cut_X0_countParts rfl rfl rfl zs_X0_countParts ⟨Nat.le_of_ble_eq_true rfl, Nat.le_of_ble_eq_true rfl⟩) ⟨fun _ _ _ _ q => q, fun _ _ _ => ⟨rfl, trivial⟩⟩ rfl rfl hl.1 rfl (lv_room (Nat.le_of_ble_eq_true rfl)) dX7_cut_55 ⟨Nat.zero_le _, Nat.zero_le _⟩) (fun p44 e43 => ?_)
      rw [e43]
      refine lv_iadd hx hb dX7_cut_58 ?_
      subst hQ
      exact W.iret hx hb hr (fun t ht hW => ⟨_, rfl, Option.some.inj h, ht⟩) (fun _ h9 => by cases h9) dX7_cut_59
    replace h := hk_in c30 h
    refine lv_bipush (v := (-2 : Int32)) hx hb dX7_cut_17 (by decide) ?_
    subst hQ
    exact W.iret hx hb hr (fun t ht hW => ⟨_, rfl, Option.some.inj h, ht⟩) (fun _ h9 => by cases h9) dX7_cut_19
  replace h := hk_in c25 h
  refine lv_iconst (v := (-1 : Int32)) hx hb dX7_cut_7 (by decide) ?_
  subst hQ
  exact W.iret hx hb hr (fun t ht hW => ⟨_, rfl, Option.some.inj h, ht⟩) (fun _ h9 => by cases h9) dX7_cut_8
theorem zv_X7_halves : yX7_halves.cls = RX7 ∧ yX7_halves.cls ≠ "java/lang/invoke/MethodHandle" ∧ yX7_halves.cls ≠ "java/lang/invoke/VarHandle" ∧ (parseMethodDescriptor yX7_halves.desc).map (fun d => d.parameters.length) = some 1 := by decide +kernel
def f_X7_halves (c_this_now_figures : Nat → Int64)  (x1 : Int32) : Option Int32 := hk_b1 (f_X7_noFigure x1) fun r21 => if r21 = 0 then (hk_gd (hk_inb x1 8) (hk_b1 (f_X2_countHalving (c_this_now_figures x1.toNatClampNeg)) fun r27 => some r27)) else (some (-1 : Int32))
theorem zi_X7_halves_X7 : ∀ w ∈ u_ws RX7 TX7 5, w ∈ wsX7_halves := by decide +kernel
theorem zi_X7_halves_X5 : ∀ w ∈ u_ws RX5 TX5 4, w ∈ wsX7_halves := by decide +kernel
set_option maxHeartbeats 8000000 in
set_option maxRecDepth 100000 in
theorem c_X7_halves (l : Launch) (D : va_G) (cI cJ cZ cO : ClassId) (a_this a_this_text a_this_now a_this_slots a_this_cover a_this_formsSeen a_this_now_figures a_this_now_pieces a_this_now_mayMirror : Nat) (c_this_now_laid : Int32) (c_this_now_figures : Nat → Int64) (x1 : Int32) (rv : Int32) (hf : f_X7_halves c_this_now_figures x1 = some rv) : Met l yX7_halves wsX7_halves ({ frames := 4, cells := 0, slots := 0, locals := 93 }) (va_Pc [.ref a_this, .int x1] (hkR D cI cJ cZ cO [(a_this, .inr (3, [.ref a_this_text, .ref a_this_now, .ref a_this_slots, .ref a_this_cover, .ref a_this_formsSeen])), (a_this_now, .inr (1, [.ref a_this_now_figures, .ref a_this_now_pieces, .ref a_this_now_mayMirror, .int c_this_now_laid])), (a_this_now_figures, .inl (cJ, 8, .inr (.inl c_this_now_figures)))])) (vp_Si (fun r => r = rv)) 0 0 (fun _ => False) := by
  refine Met.ofW (cc := cX7_halves) (maxL := 2) (ret := (some .int)) (by decide) rfl ?_
  intro p e s m args below meth c s₁ B hml hv
  obtain ⟨rfl, hP, hK⟩ := hv
  have hx := B.exec
  have hb := B.bytes
  have hr := B.returns
  have hts := atoms_spec (ws := wsX7_halves) B.pre
  have hown : s.vm.findClass RX7 = some m.cls := findClass_of_methodNamed B.named
  have hlocks := B.notSynchronized
  have hN := hK.2
  have hl := lv_entry ([.ref a_this, .int x1]) (n := 2) (Nat.le_of_ble_eq_true rfl)
  rw [lg_entry_eq]
  generalize (lg_sl ([.ref a_this, .int x1]) ++ List.replicate (2 - (lg_sl ([.ref a_this, .int x1])).length) Slot.unset).toArray = ls at hl ⊢
  have hl : lv_has ls 2 [(0, .ref a_this), (1, .int x1)] := hl
  refine hk_Q (fun Q hQ => ?_)
  have h := hf
  unfold f_X7_halves at h
  refine lv_iload_n hx hb dX7_halves_0 rfl (lv_at hl 1 rfl) ?_
  obtain ⟨r21, hr22, h⟩ := hk_x1 h
  refine vp_callSi (W.runS (As := [.int x1]) (rest := []) ⟨hx, hb, hml, hown, hts⟩ (c_X7_noFigure l x1 _ hr22) (va_cwS 1 hts gX7_halves_X7_noFigure rfl rfl rfl zs_X7_noFigure ⟨Nat.le_of_ble_eq_true rfl, Nat.le_of_ble_eq_true rfl⟩) ⟨fun _ _ _ _ q => q, fun _ _ _ => ⟨rfl, trivial⟩⟩ rfl rfl hl.1 rfl (lv_room (Nat.le_of_ble_eq_true rfl)) dX7_halves_1 ⟨Nat.zero_le _, Nat.zero_le _⟩) (fun p24 e23 => ?_)
  rw [e23]
  refine lv_if_eq (tgt := 11) hx hb dX7_halves_4 (by decide) (fun c25 => ?_) (fun c25 => ?_)
  · replace h := hk_ip c25 h
    refine lv_aload_n hx hb dX7_halves_11 rfl (lv_at hl 0 rfl) ?_
    refine va_get (D := D) (ci := 3) (v := .ref a_this_now) (C := RX7) (T := TX7) (N := 5) hx hb hts zi_X7_halves_X7 hown hK.1 hP 0 rfl rfl 1 (by decide) (hts (.fieldLink RX7 19 "HalfAndHalfAgain" "now" "LHalfAndHalfAgain$Store;") (List.mem_of_getElem? (i := 1) rfl)) (fun _ h9 => h9) rfl dX7_halves_12 ?_
    refine va_get (D := D) (ci := 1) (v := .ref a_this_now_figures) (C := RX5) (T := TX5) (N := 4) hx hb hts zi_X7_halves_X5 hown hK.1 hP 1 rfl rfl 0 (by decide) (hts (.fieldLink RX7 62 "HalfAndHalfAgain$Store" "figures" "[J") (List.mem_of_getElem? (i := 2) rfl)) (fun _ h9 => h9) rfl dX7_halves_15 ?_
    refine lv_iload_n hx hb dX7_halves_18 rfl (lv_at hl 1 rfl) ?_
    obtain ⟨hi26, h⟩ := hk_ge h
    refine va_lald hx hb hK.1 hP 2 1 rfl rfl (hk_inb_of hi26) dX7_halves_19 ?_
    obtain ⟨r27, hr28, h⟩ := hk_x1 h
    refine vp_callSi (W.runS (As := [.long (c_this_now_figures x1.toNatClampNeg)]) (rest := []) ⟨hx, hb, hml, hown, hts⟩ (c_X2_countHalving l (c_this_now_figures x1.toNatClampNeg) _ hr28) (va_cwS 1 hts gX7_halves_X2_countHalving rfl rfl rfl zs_X2_countHalving ⟨Nat.le_of_ble_eq_true rfl, Nat.le_of_ble_eq_true rfl⟩) ⟨fun _ _ _ _ q => q, fun _ _ _ => ⟨rfl, trivial⟩⟩ rfl rfl hl.1 rfl (lv_room (Nat.le_of_ble_eq_true rfl)) dX7_halves_20 ⟨Nat.zero_le _, Nat.zero_le _⟩) (fun p30 e29 => ?_)
    rw [e29]
    subst hQ
    exact W.iret hx hb hr (fun t ht hW => ⟨_, rfl, Option.some.inj h, ht⟩) (fun _ h9 => by cases h9) dX7_halves_23
  replace h := hk_in c25 h
  refine lv_iconst (v := (-1 : Int32)) hx hb dX7_halves_7 (by decide) ?_
  refine lv_goto (tgt := 23) hx hb dX7_halves_8 (by decide) ?_
  subst hQ
  exact W.iret hx hb hr (fun t ht hW => ⟨_, rfl, Option.some.inj h, ht⟩) (fun _ h9 => by cases h9) dX7_halves_23
theorem zv_X7_split : yX7_split.cls = RX7 ∧ yX7_split.cls ≠ "java/lang/invoke/MethodHandle" ∧ yX7_split.cls ≠ "java/lang/invoke/VarHandle" ∧ (parseMethodDescriptor yX7_split.desc).map (fun d => d.parameters.length) = some 4 := by decide +kernel
def f_X7_split (c_this_now_figures : Nat → Int64)  (x1 : Int32) (x2 : Int32) (x3 : Int32) (x4 : Int32) : Option (Int32 × (Nat → Int64)) := hk_b1 (f_X7_noFigure x1) fun r21 => if r21 = 0 then (hk_b1 (f_X7_noFigure x4) fun r26 => if r26 = 0 then (hk_b1 (f_X2_isNone x2 x3) fun r31 => if r31 = 0 then (if x1 = x4 then (some ((-3 : Int32), c_this_now_figures)) else (hk_gd (hk_inb x1 8) (hk_let (c_this_now_figures x1.toNatClampNeg) fun x38 => hk_b1 (f_X2_cellsAhead x2 x3) fun r39 => hk_gd (hk_inb x1 8) (hk_b2 (f_X7_become (vp_updL c_this_now_figures x1.toNatClampNeg (x38 &&& r39)) x4 (x38 &&& (r39 ^^^ (-1 : Int64)))) fun r44 u45 => some (r44, u45))))) else (some ((-2 : Int32), c_this_now_figures))) else (some ((-1 : Int32), c_this_now_figures))) else (some ((-1 : Int32), c_this_now_figures))
theorem zi_X7_split_X7 : ∀ w ∈ u_ws RX7 TX7 5, w ∈ wsX7_split := by decide +kernel
theorem zi_X7_split_X5 : ∀ w ∈ u_ws RX5 TX5 4, w ∈ wsX7_split := by decide +kernel
set_option maxHeartbeats 8000000 in
set_option maxRecDepth 100000 in
theorem c_X7_split (l : Launch) (D : va_G) (cI cJ cZ cO : ClassId) (a_this a_this_text a_this_now a_this_slots a_this_cover a_this_formsSeen a_this_now_figures a_this_now_pieces a_this_now_mayMirror : Nat) (sz : Nat) (c_this_now_laid : Int32) (c_this_now_figures : Nat → Int64) (x1 : Int32) (x2 : Int32) (x3 : Int32) (x4 : Int32) (rv : Int32) (u_this_now_figures : Nat → Int64) (hf : f_X7_split c_this_now_figures x1 x2 x3 x4 = some (rv, u_this_now_figures)) : Met l yX7_split wsX7_split ({ frames := 3, cells := 0, slots := 0, locals := 67 }) (va_Pc [.ref a_this, .int x1, .int x2, .int x3, .int x4] (hkM D cI cJ cZ cO [(a_this, .inr (3, [.ref a_this_text, .ref a_this_now, .ref a_this_slots, .ref a_this_cover, .ref a_this_formsSeen])), (a_this_now, .inr (1, [.ref a_this_now_figures, .ref a_this_now_pieces, .ref a_this_now_mayMirror, .int c_this_now_laid])), (a_this_now_figures, .inl (cJ, 8, .inr (.inl c_this_now_figures)))] sz)) (va_Qi (fun r (_ : Unit) => r = rv) (fun _ t => va_P D vwCl [(a_this, .inr (3, [.ref a_this_text, .ref a_this_now, .ref a_this_slots, .ref a_this_cover, .ref a_this_formsSeen])), (a_this_now, .inr (1, [.ref a_this_now_figures, .ref a_this_now_pieces, .ref a_this_now_mayMirror, .int c_this_now_laid])), (a_this_now_figures, .inl (cJ, 8, .inr (.inl u_this_now_figures)))] t.heap ∧ va_D (va_A [(a_this, .inr (3, [.ref a_this_text, .ref a_this_now, .ref a_this_slots, .ref a_this_cover, .ref a_this_formsSeen])), (a_this_now, .inr (1, [.ref a_this_now_figures, .ref a_this_now_pieces, .ref a_this_now_mayMirror, .int c_this_now_laid])), (a_this_now_figures, .inl (cJ, 8, .inr (.inl c_this_now_figures)))] sz) [(a_this, .inr (3, [.ref a_this_text, .ref a_this_now, .ref a_this_slots, .ref a_this_cover, .ref a_this_formsSeen])), (a_this_now, .inr (1, [.ref a_this_now_figures, .ref a_this_now_pieces, .ref a_this_now_mayMirror, .int c_this_now_laid])), (a_this_now_figures, .inl (cJ, 8, .inr (.inl u_this_now_figures)))]) (va_A [(a_this, .inr (3, [.ref a_this_text, .ref a_this_now, .ref a_this_slots, .ref a_this_cover, .ref a_this_formsSeen])), (a_this_now, .inr (1, [.ref a_this_now_figures, .ref a_this_now_pieces, .ref a_this_now_mayMirror, .int c_this_now_laid])), (a_this_now_figures, .inl (cJ, 8, .inr (.inl c_this_now_figures)))] sz)) 0 0 (va_A [(a_this, .inr (3, [.ref a_this_text, .ref a_this_now, .ref a_this_slots, .ref a_this_cover, .ref a_this_formsSeen])), (a_this_now, .inr (1, [.ref a_this_now_figures, .ref a_this_now_pieces, .ref a_this_now_mayMirror, .int c_this_now_laid])), (a_this_now_figures, .inl (cJ, 8, .inr (.inl c_this_now_figures)))] sz) := by
  refine Met.ofW (cc := cX7_split) (maxL := 9) (ret := (some .int)) (by decide) rfl ?_
  intro p e s m args below meth c s₁ B hml hv
  obtain ⟨rfl, hsz, hP, hK, hD0⟩ := hv
  have hx := B.exec
  have hb := B.bytes
  have hr := B.returns
  have hts := atoms_spec (ws := wsX7_split) B.pre
  have hown : s.vm.findClass RX7 = some m.cls := findClass_of_methodNamed B.named
  have hlocks := B.notSynchronized
  have hN := hK.2
  subst hsz
  have hD := hD0.self (sz := s.heap.size)
  generalize hAe : va_A [(a_this, .inr (3, [.ref a_this_text, .ref a_this_now, .ref a_this_slots, .ref a_this_cover, .ref a_this_formsSeen])), (a_this_now, .inr (1, [.ref a_this_now_figures, .ref a_this_now_pieces, .ref a_this_now_mayMirror, .int c_this_now_laid])), (a_this_now_figures, .inl (cJ, 8, .inr (.inl c_this_now_figures)))] s.heap.size = A at hD ⊢
  have hA : ∀ q : Nat, s.heap.size ≤ q → A q := fun q h => by rw [← hAe]; exact Or.inr h
  have hS : va_S A s.heap s.heap [] := va_S.rf
  have hl := lv_entry ([.ref a_this, .int x1, .int x2, .int x3, .int x4]) (n := 9) (Nat.le_of_ble_eq_true rfl)
  rw [lg_entry_eq]
  generalize (lg_sl ([.ref a_this, .int x1, .int x2, .int x3, .int x4]) ++ List.replicate (9 - (lg_sl ([.ref a_this, .int x1, .int x2, .int x3, .int x4])).length) Slot.unset).toArray = ls at hl ⊢
  have hl : lv_has ls 9 [(0, .ref a_this), (1, .int x1), (2, .int x2), (3, .int x3), (4, .int x4)] := hl
  refine hk_Q (fun Q hQ => ?_)
  have h := hf
  unfold f_X7_split at h
  refine lv_iload_n hx hb dX7_split_0 rfl (lv_at hl 1 rfl) ?_
  obtain ⟨r21, hr22, h⟩ := hk_x1 h
  refine vp_callSi (W.runS (As := [.int x1]) (rest := []) ⟨hx, hb, hml, hown, hts⟩ (c_X7_noFigure l x1 _ hr22) (va_cwS 1 hts gX7_split_X7_noFigure rfl rfl rfl zs_X7_noFigure ⟨Nat.le_of_ble_eq_true rfl, Nat.le_of_ble_eq_true rfl⟩) ⟨fun _ _ _ _ q => q, fun _ _ _ => ⟨rfl, trivial⟩⟩ rfl rfl hl.1 rfl (lv_room (Nat.le_of_ble_eq_true rfl)) dX7_split_1 ⟨Nat.zero_le _, Nat.zero_le _⟩) (fun p24 e23 => ?_)
  rw [e23]
  refine lv_if_ne (tgt := 15) hx hb dX7_split_4 (by decide) (fun c25 => ?_) (fun c25 => ?_)
  · replace h := hk_in c25 h
    refine lv_iconst (v := (-1 : Int32)) hx hb dX7_split_15 (by decide) ?_
    subst hQ
    have h := Option.some.inj h
    simp only [Prod.mk.injEq] at h
    obtain ⟨rfl, rfl⟩ := h
    exact W.iret hx hb hr (fun t ht hW => ⟨⟨_, (), rfl, rfl, by rw [ht]; exact hP, hD⟩, hS.F ht⟩) hS.2.2 dX7_split_16
  replace h := hk_ip c25 h
  refine lv_iload hx hb dX7_split_7 (lv_at hl 4 rfl) ?_
  obtain ⟨r26, hr27, h⟩ := hk_x1 h
  refine vp_callSi (W.runS (As := [.int x4]) (rest := []) ⟨hx, hb, hml, hown, hts⟩ (c_X7_noFigure l x4 _ hr27) (va_cwS 1 hts gX7_split_X7_noFigure rfl rfl rfl zs_X7_noFigure ⟨Nat.le_of_ble_eq_true rfl, Nat.le_of_ble_eq_true rfl⟩) ⟨fun _ _ _ _ q => q, fun _ _ _ => ⟨rfl, trivial⟩⟩ rfl rfl hl.1 rfl (lv_room (Nat.le_of_ble_eq_true rfl)) dX7_split_9 ⟨Nat.zero_le _, Nat.zero_le _⟩) (fun p29 e28 => ?_)
  rw [e28]
  refine lv_if_eq (tgt := 17) hx hb dX7_split_12 (by decide) (fun c30 => ?_) (fun c30 => ?_)
  · replace h := hk_ip c30 h
    refine lv_iload_n hx hb dX7_split_17 rfl (lv_at hl 2 rfl) ?_
    refine lv_iload_n hx hb dX7_split_18 rfl (lv_at hl 3 rfl) ?_
    obtain ⟨r31, hr32, h⟩ := hk_x1 h
    refine vp_callSi (W.runS (As := [.int x2, .int x3]) (rest := []) ⟨hx, hb, hml, hown, hts⟩ (c_X2_isNone l x2 x3 _ hr32) (va_cwS 2 hts gX7_split_X2_isNone rfl rfl rfl zs_X2_isNone ⟨Nat.le_of_ble_eq_true rfl, Nat.le_of_ble_eq_true rfl⟩) ⟨fun _ _ _ _ q => q, fun _ _ _ => ⟨rfl, trivial⟩⟩ rfl rfl hl.1 rfl (lv_room (Nat.le_of_ble_eq_true rfl)) dX7_split_19 ⟨Nat.zero_le _, Nat.zero_le _⟩) (fun p34 e33 => ?_)
    rw [e33]
    refine lv_if_eq (tgt := 28) hx hb dX7_split_22 (by decide) (fun c35 => ?_) (fun c35 => ?_)
    · replace h := hk_ip c35 h
      refine lv_iload_n hx hb dX7_split_28 rfl (lv_at hl 1 rfl) ?_
      refine lv_iload hx hb dX7_split_29 (lv_at hl 4 rfl) ?_
      refine lv_icmp_ne (tgt := 37) hx hb dX7_split_31 (by decide) (fun c36 => ?_) (fun c36 => ?_)
      · replace h := hk_in c36 h
        refine lv_aload_n hx hb dX7_split_37 rfl (lv_at hl 0 rfl) ?_
        refine va_get (D := D) (ci := 3) (v := .ref a_this_now) (C := RX7) (T := TX7) (N := 5) hx hb hts zi_X7_split_X7 hown hK.1 hP 0 rfl rfl 1 (by decide) (hts (.fieldLink RX7 19 "HalfAndHalfAgain" "now" "LHalfAndHalfAgain$Store;") (List.mem_of_getElem? (i := 1) rfl)) (fun _ h9 => h9) rfl dX7_split_38 ?_
        refine va_get (D := D) (ci := 1) (v := .ref a_this_now_figures) (C := RX5) (T := TX5) (N := 4) hx hb hts zi_X7_split_X5 hown hK.1 hP 1 rfl rfl 0 (by decide) (hts (.fieldLink RX7 62 "HalfAndHalfAgain$Store" "figures" "[J") (List.mem_of_getElem? (i := 2) rfl)) (fun _ h9 => h9) rfl dX7_split_41 ?_
        refine lv_iload_n hx hb dX7_split_44 rfl (lv_at hl 1 rfl) ?_
        obtain ⟨hi37, h⟩ := hk_ge h
        refine va_lald hx hb hK.1 hP 2 1 rfl rfl (hk_inb_of hi37) dX7_split_45 ?_
        obtain ⟨x38, ex38, h⟩ := hk_le h
        refine hk_tl ex38 ?_
        refine lv_lstore (lv' := [(5, .long x38), (0, .ref a_this), (1, .int x1), (2, .int x2), (3, .int x3), (4, .int x4)]) hx hb dX7_split_46 hl (by decide) rfl (fun ls hl => ?_)
        refine lv_iload_n hx hb dX7_split_48 rfl (lv_at hl 3 rfl) ?_
        refine lv_iload_n hx hb dX7_split_49 rfl (lv_at hl 4 rfl) ?_
        obtain ⟨r39, hr40, h⟩ := hk_x1 h
        refine vp_callSl (W.runS (As := [.int x2, .int x3]) (rest := []) ⟨hx, hb, hml, hown, hts⟩ (c_X2_cellsAhead l x2 x3 _ hr40) (va_cwS 2 hts gX7_split_X2_cellsAhead rfl rfl rfl zs_X2_cellsAhead ⟨Nat.le_of_ble_eq_true rfl, Nat.le_of_ble_eq_true rfl⟩) ⟨fun _ _ _ _ q => q, fun _ _ _ => ⟨rfl, trivial⟩⟩ rfl rfl hl.1 rfl (lv_room (Nat.le_of_ble_eq_true rfl)) dX7_split_50 ⟨Nat.zero_le _, Nat.zero_le _⟩) (fun p42 e41 => ?_)
        rw [e41]
        refine lv_lstore (lv' := [(7, .long r39), (5, .long x38), (0, .ref a_this), (1, .int x1), (2, .int x2), (3, .int x3), (4, .int x4)]) hx hb dX7_split_53 hl (by decide) rfl (fun ls hl => ?_)
        refine lv_aload_n hx hb dX7_split_55 rfl (lv_at hl 2 rfl) ?_
        refine va_get (D := D) (ci := 3) (v := .ref a_this_now) (C := RX7) (T := TX7) (N := 5) hx hb hts zi_X7_split_X7 hown hK.1 hP 0 rfl rfl 1 (by decide) (hts (.fieldLink RX7 19 "HalfAndHalfAgain" "now" "LHalfAndHalfAgain$Store;") (List.mem_of_getElem? (i := 1) rfl)) (fun _ h9 => h9) rfl dX7_split_56 ?_
        refine va_get (D := D) (ci := 1) (v := .ref a_this_now_figures) (C := RX5) (T := TX5) (N := 4) hx hb hts zi_X7_split_X5 hown hK.1 hP 1 rfl rfl 0 (by decide) (hts (.fieldLink RX7 62 "HalfAndHalfAgain$Store" "figures" "[J") (List.mem_of_getElem? (i := 2) rfl)) (fun _ h9 => h9) rfl dX7_split_59 ?_
        refine lv_iload_n hx hb dX7_split_62 rfl (lv_at hl 3 rfl) ?_
        refine lv_lload hx hb dX7_split_63 (lv_at hl 1 rfl) ?_
        refine lv_lload hx hb dX7_split_65 (lv_at hl 0 rfl) ?_
        refine lv_land hx hb dX7_split_67 ?_
        obtain ⟨hi43, h⟩ := hk_ge h
        refine va_last hx hb hK.1 hP hD hS 2 1 rfl rfl (hk_inb_of hi43) dX7_split_68 (fun H locs hP hD hS => ?_)
        have hP : va_P D vwCl [(a_this, .inr (3, [.ref a_this_text, .ref a_this_now, .ref a_this_slots, .ref a_this_cover, .ref a_this_formsSeen])), (a_this_now, .inr (1, [.ref a_this_now_figures, .ref a_this_now_pieces, .ref a_this_now_mayMirror, .int c_this_now_laid])), (a_this_now_figures, .inl (cJ, 8, .inr (.inl (vp_updL c_this_now_figures x1.toNatClampNeg (x38 &&& r39)))))] H := hP
        have hD : va_D A [(a_this, .inr (3, [.ref a_this_text, .ref a_this_now, .ref a_this_slots, .ref a_this_cover, .ref a_this_formsSeen])), (a_this_now, .inr (1, [.ref a_this_now_figures, .ref a_this_now_pieces, .ref a_this_now_mayMirror, .int c_this_now_laid])), (a_this_now_figures, .inl (cJ, 8, .inr (.inl (vp_updL c_this_now_figures x1.toNatClampNeg (x38 &&& r39)))))] := hD
        refine lv_aload_n hx hb dX7_split_69 rfl (lv_at hl 2 rfl) ?_
        refine lv_iload hx hb dX7_split_70 (lv_at hl 6 rfl) ?_
        refine lv_lload hx hb dX7_split_72 (lv_at hl 1 rfl) ?_
        refine lv_lload hx hb dX7_split_74 (lv_at hl 0 rfl) ?_
        refine lv_ldc2 (v := (-1 : Int64)) hx hb hown (hts (.constantLong RX7 75 (-1)) (List.mem_of_getElem? (i := 3) rfl)) dX7_split_76 ?_
        refine lv_lxor hx hb dX7_split_79 ?_
        refine lv_land hx hb dX7_split_80 ?_
        obtain ⟨r44, u45, hr46, h⟩ := hk_x2 h
        have hPc := hP.sub (ws' := [(a_this, .inr (3, [.ref a_this_text, .ref a_this_now, .ref a_this_slots, .ref a_this_cover, .ref a_this_formsSeen])), (a_this_now, .inr (1, [.ref a_this_now_figures, .ref a_this_now_pieces, .ref a_this_now_mayMirror, .int c_this_now_laid])), (a_this_now_figures, .inl (cJ, 8, .inr (.inl (vp_updL c_this_now_figures x1.toNatClampNeg (x38 &&& r39)))))]) [0, 1, 2] rfl
        have hDc := hD.sub (ws' := [(a_this, .inr (3, [.ref a_this_text, .ref a_this_now, .ref a_this_slots, .ref a_this_cover, .ref a_this_formsSeen])), (a_this_now, .inr (1, [.ref a_this_now_figures, .ref a_this_now_pieces, .ref a_this_now_mayMirror, .int c_this_now_laid])), (a_this_now_figures, .inl (cJ, 8, .inr (.inl (vp_updL c_this_now_figures x1.toNatClampNeg (x38 &&& r39)))))]) [0, 1, 2] (by decide) rfl
        have hFc := va_free (wc := [(a_this, .inr (3, [.ref a_this_text, .ref a_this_now, .ref a_this_slots, .ref a_this_cover, .ref a_this_formsSeen])), (a_this_now, .inr (1, [.ref a_this_now_figures, .ref a_this_now_pieces, .ref a_this_now_mayMirror, .int c_this_now_laid])), (a_this_now_figures, .inl (cJ, 8, .inr (.inl (vp_updL c_this_now_figures x1.toNatClampNeg (x38 &&& r39)))))]) hD hS hA [0, 1, 2] rfl
        refine va_calli (va_runV (As := [.int x4, .long (x38 &&& (r39 ^^^ (-1 : Int64)))]) (rest := []) ⟨hx, hb, hml, hown, hts⟩ (c_X7_become l D cI cJ cZ cO a_this a_this_text a_this_now a_this_slots a_this_cover a_this_formsSeen a_this_now_figures a_this_now_pieces a_this_now_mayMirror H.size c_this_now_laid (vp_updL c_this_now_figures x1.toNatClampNeg (x38 &&& r39)) x4 (x38 &&& (r39 ^^^ (-1 : Int64))) _ _ hr46) (cwV 2 hts gX7_split_X7_become rfl rfl rfl zv_X7_become ⟨Nat.le_of_ble_eq_true rfl, Nat.le_of_ble_eq_true rfl⟩) (hk_preMV 3 rfl hPc hDc hK rfl) rfl rfl hl.1 rfl (lv_room (Nat.le_of_ble_eq_true rfl)) dX7_split_81 ⟨Nat.zero_le _, Nat.zero_le _⟩) hS (fun q _ h9 => hFc q h9) hFc (fun p47 u9 t9 H1 locs ht hvm hw hB hz1 hk1 hS => ?_)
        obtain ⟨hP1, hD1⟩ := hB
        rw [ht] at hP1
        rw [hw]
        obtain ⟨hP, hD⟩ := va_join (wr := []) (w1 := [(a_this, .inr (3, [.ref a_this_text, .ref a_this_now, .ref a_this_slots, .ref a_this_cover, .ref a_this_formsSeen])), (a_this_now, .inr (1, [.ref a_this_now_figures, .ref a_this_now_pieces, .ref a_this_now_mayMirror, .int c_this_now_laid])), (a_this_now_figures, .inl (cJ, 8, .inr (.inl u45)))]) hP hD [0, 1, 2] [] rfl rfl (by decide) (by decide) hk1 hFc hP1 hD1
        generalize H1 = H at hP hS ⊢
        have hP := hP.sub (ws' := [(a_this, .inr (3, [.ref a_this_text, .ref a_this_now, .ref a_this_slots, .ref a_this_cover, .ref a_this_formsSeen])), (a_this_now, .inr (1, [.ref a_this_now_figures, .ref a_this_now_pieces, .ref a_this_now_mayMirror, .int c_this_now_laid])), (a_this_now_figures, .inl (cJ, 8, .inr (.inl u45)))]) [0, 1, 2] rfl
        have hD := hD.sub (ws' := [(a_this, .inr (3, [.ref a_this_text, .ref a_this_now, .ref a_this_slots, .ref a_this_cover, .ref a_this_formsSeen])), (a_this_now, .inr (1, [.ref a_this_now_figures, .ref a_this_now_pieces, .ref a_this_now_mayMirror, .int c_this_now_laid])), (a_this_now_figures, .inl (cJ, 8, .inr (.inl u45)))]) [0, 1, 2] (by decide) rfl
        subst hQ
        have h := Option.some.inj h
        simp only [Prod.mk.injEq] at h
        obtain ⟨rfl, rfl⟩ := h
        exact W.iret hx hb hr (fun t ht hW => ⟨⟨_, (), rfl, rfl, by rw [ht]; exact hP, hD⟩, hS.F ht⟩) hS.2.2 dX7_split_84
      replace h := hk_ip c36 h
      refine lv_bipush (v := (-3 : Int32)) hx hb dX7_split_34 (by decide) ?_
      subst hQ
      have h := Option.some.inj h
      simp only [Prod.mk.injEq] at h
      obtain ⟨rfl, rfl⟩ := h
      exact W.iret hx hb hr (fun t ht hW => ⟨⟨_, (), rfl, rfl, by rw [ht]; exact hP, hD⟩, hS.F ht⟩) hS.2.2 dX7_split_36
    replace h := hk_in c35 h
    refine lv_bipush (v := (-2 : Int32)) hx hb dX7_split_25 (by decide) ?_
    subst hQ
    have h := Option.some.inj h
    simp only [Prod.mk.injEq] at h
    obtain ⟨rfl, rfl⟩ := h
    exact W.iret hx hb hr (fun t ht hW => ⟨⟨_, (), rfl, rfl, by rw [ht]; exact hP, hD⟩, hS.F ht⟩) hS.2.2 dX7_split_27
  replace h := hk_in c30 h
  refine lv_iconst (v := (-1 : Int32)) hx hb dX7_split_15 (by decide) ?_
  subst hQ
  have h := Option.some.inj h
  simp only [Prod.mk.injEq] at h
  obtain ⟨rfl, rfl⟩ := h
  exact W.iret hx hb hr (fun t ht hW => ⟨⟨_, (), rfl, rfl, by rw [ht]; exact hP, hD⟩, hS.F ht⟩) hS.2.2 dX7_split_16
theorem zv_X7_part : yX7_part.cls = RX7 ∧ yX7_part.cls ≠ "java/lang/invoke/MethodHandle" ∧ yX7_part.cls ≠ "java/lang/invoke/VarHandle" ∧ (parseMethodDescriptor yX7_part.desc).map (fun d => d.parameters.length) = some 3 := by decide +kernel
def f_X7_part (c_this_now_figures : Nat → Int64)  (x1 : Int32) (x2 : Int32) (x3 : Int32) : Option (Int32 × (Nat → Int64)) := hk_b1 (f_X7_noFigure x1) fun r21 => if r21 = 0 then (hk_b1 (f_X7_noFigure x2) fun r26 => if r26 = 0 then (hk_gd (hk_inb x2 8) (hk_b1 (f_X0_partAt (c_this_now_figures x2.toNatClampNeg) x3) fun r32 => if r32 = (0 : Int64) then (some ((-3 : Int32), c_this_now_figures)) else (hk_b2 (f_X7_become c_this_now_figures x1 r32) fun r37 u38 => some (r37, u38)))) else (some ((-1 : Int32), c_this_now_figures))) else (some ((-1 : Int32), c_this_now_figures))
theorem zi_X7_part_X7 : ∀ w ∈ u_ws RX7 TX7 5, w ∈ wsX7_part := by decide +kernel
theorem zi_X7_part_X5 : ∀ w ∈ u_ws RX5 TX5 4, w ∈ wsX7_part := by decide +kernel
set_option maxHeartbeats 8000000 in
set_option maxRecDepth 100000 in
theorem c_X7_part (l : Launch) (D : va_G) (cI cJ cZ cO : ClassId) (a_this a_this_text a_this_now a_this_slots a_this_cover a_this_formsSeen a_this_now_figures a_this_now_pieces a_this_now_mayMirror : Nat) (sz : Nat) (c_this_now_laid : Int32) (c_this_now_figures : Nat → Int64) (x1 : Int32) (x2 : Int32) (x3 : Int32) (rv : Int32) (u_this_now_figures : Nat → Int64) (hf : f_X7_part c_this_now_figures x1 x2 x3 = some (rv, u_this_now_figures)) : Met l yX7_part wsX7_part ({ frames := 4, cells := 0, slots := 0, locals := 97 }) (va_Pc [.ref a_this, .int x1, .int x2, .int x3] (hkM D cI cJ cZ cO [(a_this, .inr (3, [.ref a_this_text, .ref a_this_now, .ref a_this_slots, .ref a_this_cover, .ref a_this_formsSeen])), (a_this_now, .inr (1, [.ref a_this_now_figures, .ref a_this_now_pieces, .ref a_this_now_mayMirror, .int c_this_now_laid])), (a_this_now_figures, .inl (cJ, 8, .inr (.inl c_this_now_figures)))] sz)) (va_Qi (fun r (_ : Unit) => r = rv) (fun _ t => va_P D vwCl [(a_this, .inr (3, [.ref a_this_text, .ref a_this_now, .ref a_this_slots, .ref a_this_cover, .ref a_this_formsSeen])), (a_this_now, .inr (1, [.ref a_this_now_figures, .ref a_this_now_pieces, .ref a_this_now_mayMirror, .int c_this_now_laid])), (a_this_now_figures, .inl (cJ, 8, .inr (.inl u_this_now_figures)))] t.heap ∧ va_D (va_A [(a_this, .inr (3, [.ref a_this_text, .ref a_this_now, .ref a_this_slots, .ref a_this_cover, .ref a_this_formsSeen])), (a_this_now, .inr (1, [.ref a_this_now_figures, .ref a_this_now_pieces, .ref a_this_now_mayMirror, .int c_this_now_laid])), (a_this_now_figures, .inl (cJ, 8, .inr (.inl c_this_now_figures)))] sz) [(a_this, .inr (3, [.ref a_this_text, .ref a_this_now, .ref a_this_slots, .ref a_this_cover, .ref a_this_formsSeen])), (a_this_now, .inr (1, [.ref a_this_now_figures, .ref a_this_now_pieces, .ref a_this_now_mayMirror, .int c_this_now_laid])), (a_this_now_figures, .inl (cJ, 8, .inr (.inl u_this_now_figures)))]) (va_A [(a_this, .inr (3, [.ref a_this_text, .ref a_this_now, .ref a_this_slots, .ref a_this_cover, .ref a_this_formsSeen])), (a_this_now, .inr (1, [.ref a_this_now_figures, .ref a_this_now_pieces, .ref a_this_now_mayMirror, .int c_this_now_laid])), (a_this_now_figures, .inl (cJ, 8, .inr (.inl c_this_now_figures)))] sz)) 0 0 (va_A [(a_this, .inr (3, [.ref a_this_text, .ref a_this_now, .ref a_this_slots, .ref a_this_cover, .ref a_this_formsSeen])), (a_this_now, .inr (1, [.ref a_this_now_figures, .ref a_this_now_pieces, .ref a_this_now_mayMirror, .int c_this_now_laid])), (a_this_now_figures, .inl (cJ, 8, .inr (.inl c_this_now_figures)))] sz) := by
  refine Met.ofW (cc := cX7_part) (maxL := 6) (ret := (some .int)) (by decide) rfl ?_
  intro p e s m args below meth c s₁ B hml hv
  obtain ⟨rfl, hsz, hP, hK, hD0⟩ := hv
  have hx := B.exec
  have hb := B.bytes
  have hr := B.returns
  have hts := atoms_spec (ws := wsX7_part) B.pre
  have hown : s.vm.findClass RX7 = some m.cls := findClass_of_methodNamed B.named
  have hlocks := B.notSynchronized
  have hN := hK.2
  subst hsz
  have hD := hD0.self (sz := s.heap.size)
  generalize hAe : va_A [(a_this, .inr (3, [.ref a_this_text, .ref a_this_now, .ref a_this_slots, .ref a_this_cover, .ref a_this_formsSeen])), (a_this_now, .inr (1, [.ref a_this_now_figures, .ref a_this_now_pieces, .ref a_this_now_mayMirror, .int c_this_now_laid])), (a_this_now_figures, .inl (cJ, 8, .inr (.inl c_this_now_figures)))] s.heap.size = A at hD ⊢
  have hA : ∀ q : Nat, s.heap.size ≤ q → A q := fun q h => by rw [← hAe]; exact Or.inr h
  have hS : va_S A s.heap s.heap [] := va_S.rf
  have hl := lv_entry ([.ref a_this, .int x1, .int x2, .int x3]) (n := 6) (Nat.le_of_ble_eq_true rfl)
  rw [lg_entry_eq]
  generalize (lg_sl ([.ref a_this, .int x1, .int x2, .int x3]) ++ List.replicate (6 - (lg_sl ([.ref a_this, .int x1, .int x2, .int x3])).length) Slot.unset).toArray = ls at hl ⊢
  have hl : lv_has ls 6 [(0, .ref a_this), (1, .int x1), (2, .int x2), (3, .int x3)] := hl
  refine hk_Q (fun Q hQ => ?_)
  have h := hf
  unfold f_X7_part at h
  refine lv_iload_n hx hb dX7_part_0 rfl (lv_at hl 1 rfl) ?_
  obtain ⟨r21, hr22, h⟩ := hk_x1 h
  refine vp_callSi (W.runS (As := [.int x1]) (rest := []) ⟨hx, hb, hml, hown, hts⟩ (c_X7_noFigure l x1 _ hr22) (va_cwS 1 hts gX7_part_X7_noFigure rfl rfl rfl zs_X7_noFigure ⟨Nat.le_of_ble_eq_true rfl, Nat.le_of_ble_eq_true rfl⟩) ⟨fun _ _ _ _ q => q, fun _ _ _ => ⟨rfl, trivial⟩⟩ rfl rfl hl.1 rfl (lv_room (Nat.le_of_ble_eq_true rfl)) dX7_part_1 ⟨Nat.zero_le _, Nat.zero_le _⟩) (fun p24 e23 => ?_)
  rw [e23]
  refine lv_if_ne (tgt := 14) hx hb dX7_part_4 (by decide) (fun c25 => ?_) (fun c25 => ?_)
  · replace h := hk_in c25 h
    refine lv_iconst (v := (-1 : Int32)) hx hb dX7_part_14 (by decide) ?_
    subst hQ
    have h := Option.some.inj h
    simp only [Prod.mk.injEq] at h
    obtain ⟨rfl, rfl⟩ := h
    exact W.iret hx hb hr (fun t ht hW => ⟨⟨_, (), rfl, rfl, by rw [ht]; exact hP, hD⟩, hS.F ht⟩) hS.2.2 dX7_part_15
  replace h := hk_ip c25 h
  refine lv_iload_n hx hb dX7_part_7 rfl (lv_at hl 2 rfl) ?_
  obtain ⟨r26, hr27, h⟩ := hk_x1 h
  refine vp_callSi (W.runS (As := [.int x2]) (rest := []) ⟨hx, hb, hml, hown, hts⟩ (c_X7_noFigure l x2 _ hr27) (va_cwS 1 hts gX7_part_X7_noFigure rfl rfl rfl zs_X7_noFigure ⟨Nat.le_of_ble_eq_true rfl, Nat.le_of_ble_eq_true rfl⟩) ⟨fun _ _ _ _ q => q, fun _ _ _ => ⟨rfl, trivial⟩⟩ rfl rfl hl.1 rfl (lv_room (Nat.le_of_ble_eq_true rfl)) dX7_part_8 ⟨Nat.zero_le _, Nat.zero_le _⟩) (fun p29 e28 => ?_)
  rw [e28]
  refine lv_if_eq (tgt := 16) hx hb dX7_part_11 (by decide) (fun c30 => ?_) (fun c30 => ?_)
  · replace h := hk_ip c30 h
    refine lv_aload_n hx hb dX7_part_16 rfl (lv_at hl 0 rfl) ?_
    refine va_get (D := D) (ci := 3) (v := .ref a_this_now) (C := RX7) (T := TX7) (N := 5) hx hb hts zi_X7_part_X7 hown hK.1 hP 0 rfl rfl 1 (by decide) (hts (.fieldLink RX7 19 "HalfAndHalfAgain" "now" "LHalfAndHalfAgain$Store;") (List.mem_of_getElem? (i := 1) rfl)) (fun _ h9 => h9) rfl dX7_part_17 ?_
    refine va_get (D := D) (ci := 1) (v := .ref a_this_now_figures) (C := RX5) (T := TX5) (N := 4) hx hb hts zi_X7_part_X5 hown hK.1 hP 1 rfl rfl 0 (by decide) (hts (.fieldLink RX7 62 "HalfAndHalfAgain$Store" "figures" "[J") (List.mem_of_getElem? (i := 2) rfl)) (fun _ h9 => h9) rfl dX7_part_20 ?_
    refine lv_iload_n hx hb dX7_part_23 rfl (lv_at hl 2 rfl) ?_
    obtain ⟨hi31, h⟩ := hk_ge h
    refine va_lald hx hb hK.1 hP 2 1 rfl rfl (hk_inb_of hi31) dX7_part_24 ?_
    refine lv_iload_n hx hb dX7_part_25 rfl (lv_at hl 3 rfl) ?_
    obtain ⟨r32, hr33, h⟩ := hk_x1 h
    refine vp_callSl (W.runS (As := [.long (c_this_now_figures x2.toNatClampNeg), .int x3]) (rest := []) ⟨hx, hb, hml, hown, hts⟩ (c_X0_partAt l (c_this_now_figures x2.toNatClampNeg) x3 _ hr33) (va_cwS 2 hts gX7_part_X0_partAt rfl rfl rfl zs_X0_partAt ⟨Nat.le_of_ble_eq_true rfl, Nat.le_of_ble_eq_true rfl⟩) ⟨fun _ _ _ _ q => q, fun _ _ _ => ⟨rfl, trivial⟩⟩ rfl rfl hl.1 rfl (lv_room (Nat.le_of_ble_eq_true rfl)) dX7_part_26 ⟨Nat.zero_le _, Nat.zero_le _⟩) (fun p35 e34 => ?_)
    rw [e34]
    refine lv_lstore (lv' := [(4, .long r32), (0, .ref a_this), (1, .int x1), (2, .int x2), (3, .int x3)]) hx hb dX7_part_29 hl (by decide) rfl (fun ls hl => ?_)
    refine lv_lload hx hb dX7_part_31 (lv_at hl 0 rfl) ?_
    refine lv_lconst (v := (0 : Int64)) hx hb dX7_part_33 (by decide) ?_
    refine hk_lcmp_ne (tgt := 43) hx hb dX7_part_34 dX7_part_35 (by decide) (fun c36 => ?_) (fun c36 => ?_)
    · replace h := hk_in c36 h
      refine lv_aload_n hx hb dX7_part_43 rfl (lv_at hl 1 rfl) ?_
      refine lv_iload_n hx hb dX7_part_44 rfl (lv_at hl 2 rfl) ?_
      refine lv_lload hx hb dX7_part_45 (lv_at hl 0 rfl) ?_
      obtain ⟨r37, u38, hr39, h⟩ := hk_x2 h
      have hPc := hP.sub (ws' := [(a_this, .inr (3, [.ref a_this_text, .ref a_this_now, .ref a_this_slots, .ref a_this_cover, .ref a_this_formsSeen])), (a_this_now, .inr (1, [.ref a_this_now_figures, .ref a_this_now_pieces, .ref a_this_now_mayMirror, .int c_this_now_laid])), (a_this_now_figures, .inl (cJ, 8, .inr (.inl c_this_now_figures)))]) [0, 1, 2] rfl
      have hDc := hD.sub (ws' := [(a_this, .inr (3, [.ref a_this_text, .ref a_this_now, .ref a_this_slots, .ref a_this_cover, .ref a_this_formsSeen])), (a_this_now, .inr (1, [.ref a_this_now_figures, .ref a_this_now_pieces, .ref a_this_now_mayMirror, .int c_this_now_laid])), (a_this_now_figures, .inl (cJ, 8, .inr (.inl c_this_now_figures)))]) [0, 1, 2] (by decide) rfl
      have hFc := va_free (wc := [(a_this, .inr (3, [.ref a_this_text, .ref a_this_now, .ref a_this_slots, .ref a_this_cover, .ref a_this_formsSeen])), (a_this_now, .inr (1, [.ref a_this_now_figures, .ref a_this_now_pieces, .ref a_this_now_mayMirror, .int c_this_now_laid])), (a_this_now_figures, .inl (cJ, 8, .inr (.inl c_this_now_figures)))]) hD hS hA [0, 1, 2] rfl
      refine va_calli (va_runV (As := [.int x1, .long r32]) (rest := []) ⟨hx, hb, hml, hown, hts⟩ (c_X7_become l D cI cJ cZ cO a_this a_this_text a_this_now a_this_slots a_this_cover a_this_formsSeen a_this_now_figures a_this_now_pieces a_this_now_mayMirror s.heap.size c_this_now_laid c_this_now_figures x1 r32 _ _ hr39) (cwV 2 hts gX7_part_X7_become rfl rfl rfl zv_X7_become ⟨Nat.le_of_ble_eq_true rfl, Nat.le_of_ble_eq_true rfl⟩) (hk_preMV 3 rfl hPc hDc hK rfl) rfl rfl hl.1 rfl (lv_room (Nat.le_of_ble_eq_true rfl)) dX7_part_47 ⟨Nat.zero_le _, Nat.zero_le _⟩) hS (fun q _ h9 => hFc q h9) hFc (fun p40 u9 t9 H1 locs ht hvm hw hB hz1 hk1 hS => ?_)
      obtain ⟨hP1, hD1⟩ := hB
      rw [ht] at hP1
      rw [hw]
      obtain ⟨hP, hD⟩ := va_join (wr := []) (w1 := [(a_this, .inr (3, [.ref a_this_text, .ref a_this_now, .ref a_this_slots, .ref a_this_cover, .ref a_this_formsSeen])), (a_this_now, .inr (1, [.ref a_this_now_figures, .ref a_this_now_pieces, .ref a_this_now_mayMirror, .int c_this_now_laid])), (a_this_now_figures, .inl (cJ, 8, .inr (.inl u38)))]) hP hD [0, 1, 2] [] rfl rfl (by decide) (by decide) hk1 hFc hP1 hD1
      generalize H1 = H at hP hS ⊢
      have hP := hP.sub (ws' := [(a_this, .inr (3, [.ref a_this_text, .ref a_this_now, .ref a_this_slots, .ref a_this_cover, .ref a_this_formsSeen])), (a_this_now, .inr (1, [.ref a_this_now_figures, .ref a_this_now_pieces, .ref a_this_now_mayMirror, .int c_this_now_laid])), (a_this_now_figures, .inl (cJ, 8, .inr (.inl u38)))]) [0, 1, 2] rfl
      have hD := hD.sub (ws' := [(a_this, .inr (3, [.ref a_this_text, .ref a_this_now, .ref a_this_slots, .ref a_this_cover, .ref a_this_formsSeen])), (a_this_now, .inr (1, [.ref a_this_now_figures, .ref a_this_now_pieces, .ref a_this_now_mayMirror, .int c_this_now_laid])), (a_this_now_figures, .inl (cJ, 8, .inr (.inl u38)))]) [0, 1, 2] (by decide) rfl
      subst hQ
      have h := Option.some.inj h
      simp only [Prod.mk.injEq] at h
      obtain ⟨rfl, rfl⟩ := h
      exact W.iret hx hb hr (fun t ht hW => ⟨⟨_, (), rfl, rfl, by rw [ht]; exact hP, hD⟩, hS.F ht⟩) hS.2.2 dX7_part_50
    replace h := hk_ip c36 h
    refine lv_bipush (v := (-3 : Int32)) hx hb dX7_part_38 (by decide) ?_
    refine lv_goto (tgt := 50) hx hb dX7_part_40 (by decide) ?_
    subst hQ
    have h := Option.some.inj h
    simp only [Prod.mk.injEq] at h
    obtain ⟨rfl, rfl⟩ := h
    exact W.iret hx hb hr (fun t ht hW => ⟨⟨_, (), rfl, rfl, by rw [ht]; exact hP, hD⟩, hS.F ht⟩) hS.2.2 dX7_part_50
  replace h := hk_in c30 h
  refine lv_iconst (v := (-1 : Int32)) hx hb dX7_part_14 (by decide) ?_
  subst hQ
  have h := Option.some.inj h
  simp only [Prod.mk.injEq] at h
  obtain ⟨rfl, rfl⟩ := h
  exact W.iret hx hb hr (fun t ht hW => ⟨⟨_, (), rfl, rfl, by rw [ht]; exact hP, hD⟩, hS.F ht⟩) hS.2.2 dX7_part_15
theorem zv_X7_lay : yX7_lay.cls = RX7 ∧ yX7_lay.cls ≠ "java/lang/invoke/MethodHandle" ∧ yX7_lay.cls ≠ "java/lang/invoke/VarHandle" ∧ (parseMethodDescriptor yX7_lay.desc).map (fun d => d.parameters.length) = some 2 := by decide +kernel
def f_X7_lay (c_this_now_laid : Int32) (c_this_now_figures : Nat → Int64) (c_this_now_pieces : Nat → Int64) (c_this_now_mayMirror : Nat → Int32)  (x1 : Int32) (x2 : Int32) : Option (Int32 × Int32 × (Nat → Int64) × (Nat → Int32)) := hk_b1 (f_X7_noFigure x1) fun r21 => if r21 = 0 then (hk_gd (hk_inb x1 8) (if (c_this_now_figures x1.toNatClampNeg) = (0 : Int64) then (some ((-3 : Int32), c_this_now_laid, c_this_now_pieces, c_this_now_mayMirror)) else (if c_this_now_laid < (4 : Int32) then (hk_gd (hk_inb x1 8) (hk_gd (hk_inb c_this_now_laid 4) (hk_gd (hk_inb c_this_now_laid 4) (hk_let (c_this_now_laid + (1 : Int32)) fun x32 => some ((x32 - (1 : Int32)), x32, (vp_updL c_this_now_pieces c_this_now_laid.toNatClampNeg (c_this_now_figures x1.toNatClampNeg)), (upd c_this_now_mayMirror c_this_now_laid.toNatClampNeg (vp_nar .boolean x2))))))) else (some ((-4 : Int32), c_this_now_laid, c_this_now_pieces, c_this_now_mayMirror))))) else (some ((-1 : Int32), c_this_now_laid, c_this_now_pieces, c_this_now_mayMirror))
theorem zi_X7_lay_X7 : ∀ w ∈ u_ws RX7 TX7 5, w ∈ wsX7_lay := by decide +kernel
theorem zi_X7_lay_X5 : ∀ w ∈ u_ws RX5 TX5 4, w ∈ wsX7_lay := by decide +kernel
set_option maxHeartbeats 8000000 in
set_option maxRecDepth 100000 in
theorem c_X7_lay (l : Launch) (D : va_G) (cI cJ cZ cO : ClassId) (a_this a_this_text a_this_now a_this_slots a_this_cover a_this_formsSeen a_this_now_figures a_this_now_pieces a_this_now_mayMirror : Nat) (sz : Nat) (c_this_now_laid : Int32) (c_this_now_figures : Nat → Int64) (c_this_now_pieces : Nat → Int64) (c_this_now_mayMirror : Nat → Int32) (x1 : Int32) (x2 : Int32) (rv : Int32) (u_this_now_laid : Int32) (u_this_now_pieces : Nat → Int64) (u_this_now_mayMirror : Nat → Int32) (hf : f_X7_lay c_this_now_laid c_this_now_figures c_this_now_pieces c_this_now_mayMirror x1 x2 = some (rv, u_this_now_laid, u_this_now_pieces, u_this_now_mayMirror)) : Met l yX7_lay wsX7_lay ({ frames := 1, cells := 0, slots := 0, locals := 20 }) (va_Pc [.ref a_this, .int x1, .int x2] (hkM D cI cJ cZ cO [(a_this, .inr (3, [.ref a_this_text, .ref a_this_now, .ref a_this_slots, .ref a_this_cover, .ref a_this_formsSeen])), (a_this_now, .inr (1, [.ref a_this_now_figures, .ref a_this_now_pieces, .ref a_this_now_mayMirror, .int c_this_now_laid])), (a_this_now_figures, .inl (cJ, 8, .inr (.inl c_this_now_figures))), (a_this_now_pieces, .inl (cJ, 4, .inr (.inl c_this_now_pieces))), (a_this_now_mayMirror, .inl (cZ, 4, .inl c_this_now_mayMirror))] sz)) (va_Qi (fun r (_ : Unit) => r = rv) (fun _ t => va_P D vwCl [(a_this, .inr (3, [.ref a_this_text, .ref a_this_now, .ref a_this_slots, .ref a_this_cover, .ref a_this_formsSeen])), (a_this_now, .inr (1, [.ref a_this_now_figures, .ref a_this_now_pieces, .ref a_this_now_mayMirror, .int u_this_now_laid])), (a_this_now_figures, .inl (cJ, 8, .inr (.inl c_this_now_figures))), (a_this_now_pieces, .inl (cJ, 4, .inr (.inl u_this_now_pieces))), (a_this_now_mayMirror, .inl (cZ, 4, .inl u_this_now_mayMirror))] t.heap ∧ va_D (va_A [(a_this, .inr (3, [.ref a_this_text, .ref a_this_now, .ref a_this_slots, .ref a_this_cover, .ref a_this_formsSeen])), (a_this_now, .inr (1, [.ref a_this_now_figures, .ref a_this_now_pieces, .ref a_this_now_mayMirror, .int c_this_now_laid])), (a_this_now_figures, .inl (cJ, 8, .inr (.inl c_this_now_figures))), (a_this_now_pieces, .inl (cJ, 4, .inr (.inl c_this_now_pieces))), (a_this_now_mayMirror, .inl (cZ, 4, .inl c_this_now_mayMirror))] sz) [(a_this, .inr (3, [.ref a_this_text, .ref a_this_now, .ref a_this_slots, .ref a_this_cover, .ref a_this_formsSeen])), (a_this_now, .inr (1, [.ref a_this_now_figures, .ref a_this_now_pieces, .ref a_this_now_mayMirror, .int u_this_now_laid])), (a_this_now_figures, .inl (cJ, 8, .inr (.inl c_this_now_figures))), (a_this_now_pieces, .inl (cJ, 4, .inr (.inl u_this_now_pieces))), (a_this_now_mayMirror, .inl (cZ, 4, .inl u_this_now_mayMirror))]) (va_A [(a_this, .inr (3, [.ref a_this_text, .ref a_this_now, .ref a_this_slots, .ref a_this_cover, .ref a_this_formsSeen])), (a_this_now, .inr (1, [.ref a_this_now_figures, .ref a_this_now_pieces, .ref a_this_now_mayMirror, .int c_this_now_laid])), (a_this_now_figures, .inl (cJ, 8, .inr (.inl c_this_now_figures))), (a_this_now_pieces, .inl (cJ, 4, .inr (.inl c_this_now_pieces))), (a_this_now_mayMirror, .inl (cZ, 4, .inl c_this_now_mayMirror))] sz)) 0 0 (va_A [(a_this, .inr (3, [.ref a_this_text, .ref a_this_now, .ref a_this_slots, .ref a_this_cover, .ref a_this_formsSeen])), (a_this_now, .inr (1, [.ref a_this_now_figures, .ref a_this_now_pieces, .ref a_this_now_mayMirror, .int c_this_now_laid])), (a_this_now_figures, .inl (cJ, 8, .inr (.inl c_this_now_figures))), (a_this_now_pieces, .inl (cJ, 4, .inr (.inl c_this_now_pieces))), (a_this_now_mayMirror, .inl (cZ, 4, .inl c_this_now_mayMirror))] sz) := by
  refine Met.ofW (cc := cX7_lay) (maxL := 3) (ret := (some .int)) (by decide) rfl ?_
  intro p e s m args below meth c s₁ B hml hv
  obtain ⟨rfl, hsz, hP, hK, hD0⟩ := hv
  have hx := B.exec
  have hb := B.bytes
  have hr := B.returns
  have hts := atoms_spec (ws := wsX7_lay) B.pre
  have hown : s.vm.findClass RX7 = some m.cls := findClass_of_methodNamed B.named
  have hlocks := B.notSynchronized
  have hN := hK.2
  subst hsz
  have hD := hD0.self (sz := s.heap.size)
  generalize hAe : va_A [(a_this, .inr (3, [.ref a_this_text, .ref a_this_now, .ref a_this_slots, .ref a_this_cover, .ref a_this_formsSeen])), (a_this_now, .inr (1, [.ref a_this_now_figures, .ref a_this_now_pieces, .ref a_this_now_mayMirror, .int c_this_now_laid])), (a_this_now_figures, .inl (cJ, 8, .inr (.inl c_this_now_figures))), (a_this_now_pieces, .inl (cJ, 4, .inr (.inl c_this_now_pieces))), (a_this_now_mayMirror, .inl (cZ, 4, .inl c_this_now_mayMirror))] s.heap.size = A at hD ⊢
  have hA : ∀ q : Nat, s.heap.size ≤ q → A q := fun q h => by rw [← hAe]; exact Or.inr h
  have hS : va_S A s.heap s.heap [] := va_S.rf
  have hl := lv_entry ([.ref a_this, .int x1, .int x2]) (n := 3) (Nat.le_of_ble_eq_true rfl)
  rw [lg_entry_eq]
  generalize (lg_sl ([.ref a_this, .int x1, .int x2]) ++ List.replicate (3 - (lg_sl ([.ref a_this, .int x1, .int x2])).length) Slot.unset).toArray = ls at hl ⊢
  have hl : lv_has ls 3 [(0, .ref a_this), (1, .int x1), (2, .int x2)] := hl
  refine hk_Q (fun Q hQ => ?_)
  have h := hf
  unfold f_X7_lay at h
  refine lv_iload_n hx hb dX7_lay_0 rfl (lv_at hl 1 rfl) ?_
  obtain ⟨r21, hr22, h⟩ := hk_x1 h
  refine vp_callSi (W.runS (As := [.int x1]) (rest := []) ⟨hx, hb, hml, hown, hts⟩ (c_X7_noFigure l x1 _ hr22) (va_cwS 1 hts gX7_lay_X7_noFigure rfl rfl rfl zs_X7_noFigure ⟨Nat.le_of_ble_eq_true rfl, Nat.le_of_ble_eq_true rfl⟩) ⟨fun _ _ _ _ q => q, fun _ _ _ => ⟨rfl, trivial⟩⟩ rfl rfl hl.1 rfl (lv_room (Nat.le_of_ble_eq_true rfl)) dX7_lay_1 ⟨Nat.zero_le _, Nat.zero_le _⟩) (fun p24 e23 => ?_)
  rw [e23]
  refine lv_if_eq (tgt := 9) hx hb dX7_lay_4 (by decide) (fun c25 => ?_) (fun c25 => ?_)
  · replace h := hk_ip c25 h
    refine lv_aload_n hx hb dX7_lay_9 rfl (lv_at hl 0 rfl) ?_
    refine va_get (D := D) (ci := 3) (v := .ref a_this_now) (C := RX7) (T := TX7) (N := 5) hx hb hts zi_X7_lay_X7 hown hK.1 hP 0 rfl rfl 1 (by decide) (hts (.fieldLink RX7 19 "HalfAndHalfAgain" "now" "LHalfAndHalfAgain$Store;") (List.mem_of_getElem? (i := 1) rfl)) (fun _ h9 => h9) rfl dX7_lay_10 ?_
    refine va_get (D := D) (ci := 1) (v := .ref a_this_now_figures) (C := RX5) (T := TX5) (N := 4) hx hb hts zi_X7_lay_X5 hown hK.1 hP 1 rfl rfl 0 (by decide) (hts (.fieldLink RX7 62 "HalfAndHalfAgain$Store" "figures" "[J") (List.mem_of_getElem? (i := 2) rfl)) (fun _ h9 => h9) rfl dX7_lay_13 ?_
    refine lv_iload_n hx hb dX7_lay_16 rfl (lv_at hl 1 rfl) ?_
    obtain ⟨hi26, h⟩ := hk_ge h
    refine va_lald hx hb hK.1 hP 2 1 rfl rfl (hk_inb_of hi26) dX7_lay_17 ?_
    refine lv_lconst (v := (0 : Int64)) hx hb dX7_lay_18 (by decide) ?_
    refine hk_lcmp_ne (tgt := 26) hx hb dX7_lay_19 dX7_lay_20 (by decide) (fun c27 => ?_) (fun c27 => ?_)
    · replace h := hk_in c27 h
      refine lv_aload_n hx hb dX7_lay_26 rfl (lv_at hl 0 rfl) ?_
      refine va_get (D := D) (ci := 3) (v := .ref a_this_now) (C := RX7) (T := TX7) (N := 5) hx hb hts zi_X7_lay_X7 hown hK.1 hP 0 rfl rfl 1 (by decide) (hts (.fieldLink RX7 19 "HalfAndHalfAgain" "now" "LHalfAndHalfAgain$Store;") (List.mem_of_getElem? (i := 1) rfl)) (fun _ h9 => h9) rfl dX7_lay_27 ?_
      refine va_get (D := D) (ci := 1) (v := .int c_this_now_laid) (C := RX5) (T := TX5) (N := 4) hx hb hts zi_X7_lay_X5 hown hK.1 hP 1 rfl rfl 3 (by decide) (hts (.fieldLink RX7 148 "HalfAndHalfAgain$Store" "laid" "I") (List.mem_of_getElem? (i := 3) rfl)) (fun _ h9 => h9) rfl dX7_lay_30 ?_
      refine lv_iconst (v := (4 : Int32)) hx hb dX7_lay_33 (by decide) ?_
      refine lv_icmp_lt (tgt := 40) hx hb dX7_lay_34 (by decide) (fun c28 => ?_) (fun c28 => ?_)
      · replace h := hk_ip c28 h
        refine lv_aload_n hx hb dX7_lay_40 rfl (lv_at hl 0 rfl) ?_
        refine va_get (D := D) (ci := 3) (v := .ref a_this_now) (C := RX7) (T := TX7) (N := 5) hx hb hts zi_X7_lay_X7 hown hK.1 hP 0 rfl rfl 1 (by decide) (hts (.fieldLink RX7 19 "HalfAndHalfAgain" "now" "LHalfAndHalfAgain$Store;") (List.mem_of_getElem? (i := 1) rfl)) (fun _ h9 => h9) rfl dX7_lay_41 ?_
        refine va_get (D := D) (ci := 1) (v := .ref a_this_now_pieces) (C := RX5) (T := TX5) (N := 4) hx hb hts zi_X7_lay_X5 hown hK.1 hP 1 rfl rfl 1 (by decide) (hts (.fieldLink RX7 151 "HalfAndHalfAgain$Store" "pieces" "[J") (List.mem_of_getElem? (i := 4) rfl)) (fun _ h9 => h9) rfl dX7_lay_44 ?_
        refine lv_aload_n hx hb dX7_lay_47 rfl (lv_at hl 0 rfl) ?_
        refine va_get (D := D) (ci := 3) (v := .ref a_this_now) (C := RX7) (T := TX7) (N := 5) hx hb hts zi_X7_lay_X7 hown hK.1 hP 0 rfl rfl 1 (by decide) (hts (.fieldLink RX7 19 "HalfAndHalfAgain" "now" "LHalfAndHalfAgain$Store;") (List.mem_of_getElem? (i := 1) rfl)) (fun _ h9 => h9) rfl dX7_lay_48 ?_
        refine va_get (D := D) (ci := 1) (v := .int c_this_now_laid) (C := RX5) (T := TX5) (N := 4) hx hb hts zi_X7_lay_X5 hown hK.1 hP 1 rfl rfl 3 (by decide) (hts (.fieldLink RX7 148 "HalfAndHalfAgain$Store" "laid" "I") (List.mem_of_getElem? (i := 3) rfl)) (fun _ h9 => h9) rfl dX7_lay_51 ?_
        refine lv_aload_n hx hb dX7_lay_54 rfl (lv_at hl 0 rfl) ?_
        refine va_get (D := D) (ci := 3) (v := .ref a_this_now) (C := RX7) (T := TX7) (N := 5) hx hb hts zi_X7_lay_X7 hown hK.1 hP 0 rfl rfl 1 (by decide) (hts (.fieldLink RX7 19 "HalfAndHalfAgain" "now" "LHalfAndHalfAgain$Store;") (List.mem_of_getElem? (i := 1) rfl)) (fun _ h9 => h9) rfl dX7_lay_55 ?_
        refine va_get (D := D) (ci := 1) (v := .ref a_this_now_figures) (C := RX5) (T := TX5) (N := 4) hx hb hts zi_X7_lay_X5 hown hK.1 hP 1 rfl rfl 0 (by decide) (hts (.fieldLink RX7 62 "HalfAndHalfAgain$Store" "figures" "[J") (List.mem_of_getElem? (i := 2) rfl)) (fun _ h9 => h9) rfl dX7_lay_58 ?_
        refine lv_iload_n hx hb dX7_lay_61 rfl (lv_at hl 1 rfl) ?_
        obtain ⟨hi29, h⟩ := hk_ge h
        refine va_lald hx hb hK.1 hP 2 1 rfl rfl (hk_inb_of hi29) dX7_lay_62 ?_
        obtain ⟨hi30, h⟩ := hk_ge h
        refine va_last hx hb hK.1 hP hD hS 3 1 rfl rfl (hk_inb_of hi30) dX7_lay_63 (fun H locs hP hD hS => ?_)
        have hP : va_P D vwCl [(a_this, .inr (3, [.ref a_this_text, .ref a_this_now, .ref a_this_slots, .ref a_this_cover, .ref a_this_formsSeen])), (a_this_now, .inr (1, [.ref a_this_now_figures, .ref a_this_now_pieces, .ref a_this_now_mayMirror, .int c_this_now_laid])), (a_this_now_figures, .inl (cJ, 8, .inr (.inl c_this_now_figures))), (a_this_now_pieces, .inl (cJ, 4, .inr (.inl (vp_updL c_this_now_pieces c_this_now_laid.toNatClampNeg (c_this_now_figures x1.toNatClampNeg))))), (a_this_now_mayMirror, .inl (cZ, 4, .inl c_this_now_mayMirror))] H := hP
        have hD : va_D A [(a_this, .inr (3, [.ref a_this_text, .ref a_this_now, .ref a_this_slots, .ref a_this_cover, .ref a_this_formsSeen])), (a_this_now, .inr (1, [.ref a_this_now_figures, .ref a_this_now_pieces, .ref a_this_now_mayMirror, .int c_this_now_laid])), (a_this_now_figures, .inl (cJ, 8, .inr (.inl c_this_now_figures))), (a_this_now_pieces, .inl (cJ, 4, .inr (.inl (vp_updL c_this_now_pieces c_this_now_laid.toNatClampNeg (c_this_now_figures x1.toNatClampNeg))))), (a_this_now_mayMirror, .inl (cZ, 4, .inl c_this_now_mayMirror))] := hD
        refine lv_aload_n hx hb dX7_lay_64 rfl (lv_at hl 0 rfl) ?_
        refine va_get (D := D) (ci := 3) (v := .ref a_this_now) (C := RX7) (T := TX7) (N := 5) hx hb hts zi_X7_lay_X7 hown hK.1 hP 0 rfl rfl 1 (by decide) (hts (.fieldLink RX7 19 "HalfAndHalfAgain" "now" "LHalfAndHalfAgain$Store;") (List.mem_of_getElem? (i := 1) rfl)) (fun _ h9 => h9) rfl dX7_lay_65 ?_
        refine va_get (D := D) (ci := 1) (v := .ref a_this_now_mayMirror) (C := RX5) (T := TX5) (N := 4) hx hb hts zi_X7_lay_X5 hown hK.1 hP 1 rfl rfl 2 (by decide) (hts (.fieldLink RX7 154 "HalfAndHalfAgain$Store" "mayMirror" "[Z") (List.mem_of_getElem? (i := 5) rfl)) (fun _ h9 => h9) rfl dX7_lay_68 ?_
        refine lv_aload_n hx hb dX7_lay_71 rfl (lv_at hl 0 rfl) ?_
        refine va_get (D := D) (ci := 3) (v := .ref a_this_now) (C := RX7) (T := TX7) (N := 5) hx hb hts zi_X7_lay_X7 hown hK.1 hP 0 rfl rfl 1 (by decide) (hts (.fieldLink RX7 19 "HalfAndHalfAgain" "now" "LHalfAndHalfAgain$Store;") (List.mem_of_getElem? (i := 1) rfl)) (fun _ h9 => h9) rfl dX7_lay_72 ?_
        refine va_get (D := D) (ci := 1) (v := .int c_this_now_laid) (C := RX5) (T := TX5) (N := 4) hx hb hts zi_X7_lay_X5 hown hK.1 hP 1 rfl rfl 3 (by decide) (hts (.fieldLink RX7 148 "HalfAndHalfAgain$Store" "laid" "I") (List.mem_of_getElem? (i := 3) rfl)) (fun _ h9 => h9) rfl dX7_lay_75 ?_
        refine lv_iload_n hx hb dX7_lay_78 rfl (lv_at hl 2 rfl) ?_
        obtain ⟨hi31, h⟩ := hk_ge h
        refine va_zast hx hb hK.1 hP hD hS 4 2 rfl rfl (hk_inb_of hi31) dX7_lay_79 (fun H locs hP hD hS => ?_)
        have hP : va_P D vwCl [(a_this, .inr (3, [.ref a_this_text, .ref a_this_now, .ref a_this_slots, .ref a_this_cover, .ref a_this_formsSeen])), (a_this_now, .inr (1, [.ref a_this_now_figures, .ref a_this_now_pieces, .ref a_this_now_mayMirror, .int c_this_now_laid])), (a_this_now_figures, .inl (cJ, 8, .inr (.inl c_this_now_figures))), (a_this_now_pieces, .inl (cJ, 4, .inr (.inl (vp_updL c_this_now_pieces c_this_now_laid.toNatClampNeg (c_this_now_figures x1.toNatClampNeg))))), (a_this_now_mayMirror, .inl (cZ, 4, .inl (upd c_this_now_mayMirror c_this_now_laid.toNatClampNeg (vp_nar .boolean x2))))] H := hP
        have hD : va_D A [(a_this, .inr (3, [.ref a_this_text, .ref a_this_now, .ref a_this_slots, .ref a_this_cover, .ref a_this_formsSeen])), (a_this_now, .inr (1, [.ref a_this_now_figures, .ref a_this_now_pieces, .ref a_this_now_mayMirror, .int c_this_now_laid])), (a_this_now_figures, .inl (cJ, 8, .inr (.inl c_this_now_figures))), (a_this_now_pieces, .inl (cJ, 4, .inr (.inl (vp_updL c_this_now_pieces c_this_now_laid.toNatClampNeg (c_this_now_figures x1.toNatClampNeg))))), (a_this_now_mayMirror, .inl (cZ, 4, .inl (upd c_this_now_mayMirror c_this_now_laid.toNatClampNeg (vp_nar .boolean x2))))] := hD
        refine lv_aload_n hx hb dX7_lay_80 rfl (lv_at hl 0 rfl) ?_
        refine va_get (D := D) (ci := 3) (v := .ref a_this_now) (C := RX7) (T := TX7) (N := 5) hx hb hts zi_X7_lay_X7 hown hK.1 hP 0 rfl rfl 1 (by decide) (hts (.fieldLink RX7 19 "HalfAndHalfAgain" "now" "LHalfAndHalfAgain$Store;") (List.mem_of_getElem? (i := 1) rfl)) (fun _ h9 => h9) rfl dX7_lay_81 ?_
        refine lv_dup hx hb dX7_lay_84 rfl ?_
        refine va_get (D := D) (ci := 1) (v := .int c_this_now_laid) (C := RX5) (T := TX5) (N := 4) hx hb hts zi_X7_lay_X5 hown hK.1 hP 1 rfl rfl 3 (by decide) (hts (.fieldLink RX7 148 "HalfAndHalfAgain$Store" "laid" "I") (List.mem_of_getElem? (i := 3) rfl)) (fun _ h9 => h9) rfl dX7_lay_85 ?_
        refine lv_iconst (v := (1 : Int32)) hx hb dX7_lay_88 (by decide) ?_
        refine lv_iadd hx hb dX7_lay_89 ?_
        obtain ⟨x32, ex32, h⟩ := hk_le h
        refine hk_ti ex32 ?_
        refine va_put (D := D) (ci := 1) (v := .int x32) (ty := .int) (C := RX5) (T := TX5) (N := 4) hx hb hts zi_X7_lay_X5 tyX5 tyX5_ok nmX5 hown hK.1 hP hD hS 1 rfl rfl 3 (by decide) (hts (.fieldLink RX7 148 "HalfAndHalfAgain$Store" "laid" "I") (List.mem_of_getElem? (i := 3) rfl)) (fun _ h9 => h9) rfl (by decide +kernel) rfl rfl (Nat.le_of_ble_eq_true rfl) dX7_lay_90 (fun H locs hP hD hS => ?_)
        have hP : va_P D vwCl [(a_this, .inr (3, [.ref a_this_text, .ref a_this_now, .ref a_this_slots, .ref a_this_cover, .ref a_this_formsSeen])), (a_this_now, .inr (1, [.ref a_this_now_figures, .ref a_this_now_pieces, .ref a_this_now_mayMirror, .int x32])), (a_this_now_figures, .inl (cJ, 8, .inr (.inl c_this_now_figures))), (a_this_now_pieces, .inl (cJ, 4, .inr (.inl (vp_updL c_this_now_pieces c_this_now_laid.toNatClampNeg (c_this_now_figures x1.toNatClampNeg))))), (a_this_now_mayMirror, .inl (cZ, 4, .inl (upd c_this_now_mayMirror c_this_now_laid.toNatClampNeg (vp_nar .boolean x2))))] H := hP
        have hD : va_D A [(a_this, .inr (3, [.ref a_this_text, .ref a_this_now, .ref a_this_slots, .ref a_this_cover, .ref a_this_formsSeen])), (a_this_now, .inr (1, [.ref a_this_now_figures, .ref a_this_now_pieces, .ref a_this_now_mayMirror, .int x32])), (a_this_now_figures, .inl (cJ, 8, .inr (.inl c_this_now_figures))), (a_this_now_pieces, .inl (cJ, 4, .inr (.inl (vp_updL c_this_now_pieces c_this_now_laid.toNatClampNeg (c_this_now_figures x1.toNatClampNeg))))), (a_this_now_mayMirror, .inl (cZ, 4, .inl (upd c_this_now_mayMirror c_this_now_laid.toNatClampNeg (vp_nar .boolean x2))))] := hD
        refine lv_aload_n hx hb dX7_lay_93 rfl (lv_at hl 0 rfl) ?_
        refine va_get (D := D) (ci := 3) (v := .ref a_this_now) (C := RX7) (T := TX7) (N := 5) hx hb hts zi_X7_lay_X7 hown hK.1 hP 0 rfl rfl 1 (by decide) (hts (.fieldLink RX7 19 "HalfAndHalfAgain" "now" "LHalfAndHalfAgain$Store;") (List.mem_of_getElem? (i := 1) rfl)) (fun _ h9 => h9) rfl dX7_lay_94 ?_
        refine va_get (D := D) (ci := 1) (v := .int x32) (C := RX5) (T := TX5) (N := 4) hx hb hts zi_X7_lay_X5 hown hK.1 hP 1 rfl rfl 3 (by decide) (hts (.fieldLink RX7 148 "HalfAndHalfAgain$Store" "laid" "I") (List.mem_of_getElem? (i := 3) rfl)) (fun _ h9 => h9) rfl dX7_lay_97 ?_
        refine lv_iconst (v := (1 : Int32)) hx hb dX7_lay_100 (by decide) ?_
        refine lv_isub hx hb dX7_lay_101 ?_
        subst hQ
        have h := Option.some.inj h
        simp only [Prod.mk.injEq] at h
        obtain ⟨rfl, rfl, rfl, rfl⟩ := h
        exact W.iret hx hb hr (fun t ht hW => ⟨⟨_, (), rfl, rfl, by rw [ht]; exact hP, hD⟩, hS.F ht⟩) hS.2.2 dX7_lay_102
      replace h := hk_in c28 h
      refine lv_bipush (v := (-4 : Int32)) hx hb dX7_lay_37 (by decide) ?_
      subst hQ
      have h := Option.some.inj h
      simp only [Prod.mk.injEq] at h
      obtain ⟨rfl, rfl, rfl, rfl⟩ := h
      exact W.iret hx hb hr (fun t ht hW => ⟨⟨_, (), rfl, rfl, by rw [ht]; exact hP, hD⟩, hS.F ht⟩) hS.2.2 dX7_lay_39
    replace h := hk_ip c27 h
    refine lv_bipush (v := (-3 : Int32)) hx hb dX7_lay_23 (by decide) ?_
    subst hQ
    have h := Option.some.inj h
    simp only [Prod.mk.injEq] at h
    obtain ⟨rfl, rfl, rfl, rfl⟩ := h
    exact W.iret hx hb hr (fun t ht hW => ⟨⟨_, (), rfl, rfl, by rw [ht]; exact hP, hD⟩, hS.F ht⟩) hS.2.2 dX7_lay_25
  replace h := hk_in c25 h
  refine lv_iconst (v := (-1 : Int32)) hx hb dX7_lay_7 (by decide) ?_
  subst hQ
  have h := Option.some.inj h
  simp only [Prod.mk.injEq] at h
  obtain ⟨rfl, rfl, rfl, rfl⟩ := h
  exact W.iret hx hb hr (fun t ht hW => ⟨⟨_, (), rfl, rfl, by rw [ht]; exact hP, hD⟩, hS.F ht⟩) hS.2.2 dX7_lay_8
theorem zv_X7_lift : yX7_lift.cls = RX7 ∧ yX7_lift.cls ≠ "java/lang/invoke/MethodHandle" ∧ yX7_lift.cls ≠ "java/lang/invoke/VarHandle" ∧ (parseMethodDescriptor yX7_lift.desc).map (fun d => d.parameters.length) = some 0 := by decide +kernel
def f_X7_lift (c_this_now_laid : Int32)   : Option (Int32 × Int32) := if (1 : Int32) ≤ c_this_now_laid then (hk_let (c_this_now_laid - (1 : Int32)) fun x22 => some (x22, x22)) else (some ((-3 : Int32), c_this_now_laid))
theorem zi_X7_lift_X7 : ∀ w ∈ u_ws RX7 TX7 5, w ∈ wsX7_lift := by decide +kernel
theorem zi_X7_lift_X5 : ∀ w ∈ u_ws RX5 TX5 4, w ∈ wsX7_lift := by decide +kernel
set_option maxHeartbeats 8000000 in
set_option maxRecDepth 100000 in
theorem c_X7_lift (l : Launch) (D : va_G) (cI cJ cZ cO : ClassId) (a_this a_this_text a_this_now a_this_slots a_this_cover a_this_formsSeen a_this_now_figures a_this_now_pieces a_this_now_mayMirror : Nat) (sz : Nat) (c_this_now_laid : Int32) (rv : Int32) (u_this_now_laid : Int32) (hf : f_X7_lift c_this_now_laid = some (rv, u_this_now_laid)) : Met l yX7_lift wsX7_lift ({ frames := 0, cells := 0, slots := 0, locals := 0 }) (va_Pc [.ref a_this] (hkM D cI cJ cZ cO [(a_this, .inr (3, [.ref a_this_text, .ref a_this_now, .ref a_this_slots, .ref a_this_cover, .ref a_this_formsSeen])), (a_this_now, .inr (1, [.ref a_this_now_figures, .ref a_this_now_pieces, .ref a_this_now_mayMirror, .int c_this_now_laid]))] sz)) (va_Qi (fun r (_ : Unit) => r = rv) (fun _ t => va_P D vwCl [(a_this, .inr (3, [.ref a_this_text, .ref a_this_now, .ref a_this_slots, .ref a_this_cover, .ref a_this_formsSeen])), (a_this_now, .inr (1, [.ref a_this_now_figures, .ref a_this_now_pieces, .ref a_this_now_mayMirror, .int u_this_now_laid]))] t.heap ∧ va_D (va_A [(a_this, .inr (3, [.ref a_this_text, .ref a_this_now, .ref a_this_slots, .ref a_this_cover, .ref a_this_formsSeen])), (a_this_now, .inr (1, [.ref a_this_now_figures, .ref a_this_now_pieces, .ref a_this_now_mayMirror, .int c_this_now_laid]))] sz) [(a_this, .inr (3, [.ref a_this_text, .ref a_this_now, .ref a_this_slots, .ref a_this_cover, .ref a_this_formsSeen])), (a_this_now, .inr (1, [.ref a_this_now_figures, .ref a_this_now_pieces, .ref a_this_now_mayMirror, .int u_this_now_laid]))]) (va_A [(a_this, .inr (3, [.ref a_this_text, .ref a_this_now, .ref a_this_slots, .ref a_this_cover, .ref a_this_formsSeen])), (a_this_now, .inr (1, [.ref a_this_now_figures, .ref a_this_now_pieces, .ref a_this_now_mayMirror, .int c_this_now_laid]))] sz)) 0 0 (va_A [(a_this, .inr (3, [.ref a_this_text, .ref a_this_now, .ref a_this_slots, .ref a_this_cover, .ref a_this_formsSeen])), (a_this_now, .inr (1, [.ref a_this_now_figures, .ref a_this_now_pieces, .ref a_this_now_mayMirror, .int c_this_now_laid]))] sz) := by
  refine Met.ofW (cc := cX7_lift) (maxL := 1) (ret := (some .int)) (by decide) rfl ?_
  intro p e s m args below meth c s₁ B hml hv
  obtain ⟨rfl, hsz, hP, hK, hD0⟩ := hv
  have hx := B.exec
  have hb := B.bytes
  have hr := B.returns
  have hts := atoms_spec (ws := wsX7_lift) B.pre
  have hown : s.vm.findClass RX7 = some m.cls := findClass_of_methodNamed B.named
  have hlocks := B.notSynchronized
  have hN := hK.2
  subst hsz
  have hD := hD0.self (sz := s.heap.size)
  generalize hAe : va_A [(a_this, .inr (3, [.ref a_this_text, .ref a_this_now, .ref a_this_slots, .ref a_this_cover, .ref a_this_formsSeen])), (a_this_now, .inr (1, [.ref a_this_now_figures, .ref a_this_now_pieces, .ref a_this_now_mayMirror, .int c_this_now_laid]))] s.heap.size = A at hD ⊢
  have hA : ∀ q : Nat, s.heap.size ≤ q → A q := fun q h => by rw [← hAe]; exact Or.inr h
  have hS : va_S A s.heap s.heap [] := va_S.rf
  have hl := lv_entry ([.ref a_this]) (n := 1) (Nat.le_of_ble_eq_true rfl)
  rw [lg_entry_eq]
  generalize (lg_sl ([.ref a_this]) ++ List.replicate (1 - (lg_sl ([.ref a_this])).length) Slot.unset).toArray = ls at hl ⊢
  have hl : lv_has ls 1 [(0, .ref a_this)] := hl
  refine hk_Q (fun Q hQ => ?_)
  have h := hf
  unfold f_X7_lift at h
  refine lv_aload_n hx hb dX7_lift_0 rfl (lv_at hl 0 rfl) ?_
  refine va_get (D := D) (ci := 3) (v := .ref a_this_now) (C := RX7) (T := TX7) (N := 5) hx hb hts zi_X7_lift_X7 hown hK.1 hP 0 rfl rfl 1 (by decide) (hts (.fieldLink RX7 19 "HalfAndHalfAgain" "now" "LHalfAndHalfAgain$Store;") (List.mem_of_getElem? (i := 1) rfl)) (fun _ h9 => h9) rfl dX7_lift_1 ?_
  refine va_get (D := D) (ci := 1) (v := .int c_this_now_laid) (C := RX5) (T := TX5) (N := 4) hx hb hts zi_X7_lift_X5 hown hK.1 hP 1 rfl rfl 3 (by decide) (hts (.fieldLink RX7 148 "HalfAndHalfAgain$Store" "laid" "I") (List.mem_of_getElem? (i := 2) rfl)) (fun _ h9 => h9) rfl dX7_lift_4 ?_
  refine lv_iconst (v := (1 : Int32)) hx hb dX7_lift_7 (by decide) ?_
  refine lv_icmp_ge (tgt := 14) hx hb dX7_lift_8 (by decide) (fun c21 => ?_) (fun c21 => ?_)
  · replace h := hk_ip c21 h
    refine lv_aload_n hx hb dX7_lift_14 rfl (lv_at hl 0 rfl) ?_
    refine va_get (D := D) (ci := 3) (v := .ref a_this_now) (C := RX7) (T := TX7) (N := 5) hx hb hts zi_X7_lift_X7 hown hK.1 hP 0 rfl rfl 1 (by decide) (hts (.fieldLink RX7 19 "HalfAndHalfAgain" "now" "LHalfAndHalfAgain$Store;") (List.mem_of_getElem? (i := 1) rfl)) (fun _ h9 => h9) rfl dX7_lift_15 ?_
    refine lv_dup hx hb dX7_lift_18 rfl ?_
    refine va_get (D := D) (ci := 1) (v := .int c_this_now_laid) (C := RX5) (T := TX5) (N := 4) hx hb hts zi_X7_lift_X5 hown hK.1 hP 1 rfl rfl 3 (by decide) (hts (.fieldLink RX7 148 "HalfAndHalfAgain$Store" "laid" "I") (List.mem_of_getElem? (i := 2) rfl)) (fun _ h9 => h9) rfl dX7_lift_19 ?_
    refine lv_iconst (v := (1 : Int32)) hx hb dX7_lift_22 (by decide) ?_
    refine lv_isub hx hb dX7_lift_23 ?_
    obtain ⟨x22, ex22, h⟩ := hk_le h
    refine hk_ti ex22 ?_
    refine va_put (D := D) (ci := 1) (v := .int x22) (ty := .int) (C := RX5) (T := TX5) (N := 4) hx hb hts zi_X7_lift_X5 tyX5 tyX5_ok nmX5 hown hK.1 hP hD hS 1 rfl rfl 3 (by decide) (hts (.fieldLink RX7 148 "HalfAndHalfAgain$Store" "laid" "I") (List.mem_of_getElem? (i := 2) rfl)) (fun _ h9 => h9) rfl (by decide +kernel) rfl rfl (Nat.le_of_ble_eq_true rfl) dX7_lift_24 (fun H locs hP hD hS => ?_)
    have hP : va_P D vwCl [(a_this, .inr (3, [.ref a_this_text, .ref a_this_now, .ref a_this_slots, .ref a_this_cover, .ref a_this_formsSeen])), (a_this_now, .inr (1, [.ref a_this_now_figures, .ref a_this_now_pieces, .ref a_this_now_mayMirror, .int x22]))] H := hP
    have hD : va_D A [(a_this, .inr (3, [.ref a_this_text, .ref a_this_now, .ref a_this_slots, .ref a_this_cover, .ref a_this_formsSeen])), (a_this_now, .inr (1, [.ref a_this_now_figures, .ref a_this_now_pieces, .ref a_this_now_mayMirror, .int x22]))] := hD
    refine lv_aload_n hx hb dX7_lift_27 rfl (lv_at hl 0 rfl) ?_
    refine va_get (D := D) (ci := 3) (v := .ref a_this_now) (C := RX7) (T := TX7) (N := 5) hx hb hts zi_X7_lift_X7 hown hK.1 hP 0 rfl rfl 1 (by decide) (hts (.fieldLink RX7 19 "HalfAndHalfAgain" "now" "LHalfAndHalfAgain$Store;") (List.mem_of_getElem? (i := 1) rfl)) (fun _ h9 => h9) rfl dX7_lift_28 ?_
    refine va_get (D := D) (ci := 1) (v := .int x22) (C := RX5) (T := TX5) (N := 4) hx hb hts zi_X7_lift_X5 hown hK.1 hP 1 rfl rfl 3 (by decide) (hts (.fieldLink RX7 148 "HalfAndHalfAgain$Store" "laid" "I") (List.mem_of_getElem? (i := 2) rfl)) (fun _ h9 => h9) rfl dX7_lift_31 ?_
    subst hQ
    have h := Option.some.inj h
    simp only [Prod.mk.injEq] at h
    obtain ⟨rfl, rfl⟩ := h
    exact W.iret hx hb hr (fun t ht hW => ⟨⟨_, (), rfl, rfl, by rw [ht]; exact hP, hD⟩, hS.F ht⟩) hS.2.2 dX7_lift_34
  replace h := hk_in c21 h
  refine lv_bipush (v := (-3 : Int32)) hx hb dX7_lift_11 (by decide) ?_
  subst hQ
  have h := Option.some.inj h
  simp only [Prod.mk.injEq] at h
  obtain ⟨rfl, rfl⟩ := h
  exact W.iret hx hb hr (fun t ht hW => ⟨⟨_, (), rfl, rfl, by rw [ht]; exact hP, hD⟩, hS.F ht⟩) hS.2.2 dX7_lift_13
theorem zv_X7_noPiece : yX7_noPiece.cls = RX7 ∧ yX7_noPiece.cls ≠ "java/lang/invoke/MethodHandle" ∧ yX7_noPiece.cls ≠ "java/lang/invoke/VarHandle" ∧ (parseMethodDescriptor yX7_noPiece.desc).map (fun d => d.parameters.length) = some 1 := by decide +kernel
def f_X7_noPiece (c_this_now_laid : Int32)  (x1 : Int32) : Option Int32 := if x1 < 0 then (some (1 : Int32)) else (if c_this_now_laid ≤ x1 then (some (1 : Int32)) else (if x1 < (4 : Int32) then (some (0 : Int32)) else (some (1 : Int32))))
theorem zi_X7_noPiece_X7 : ∀ w ∈ u_ws RX7 TX7 5, w ∈ wsX7_noPiece := by decide +kernel
theorem zi_X7_noPiece_X5 : ∀ w ∈ u_ws RX5 TX5 4, w ∈ wsX7_noPiece := by decide +kernel
set_option maxHeartbeats 8000000 in
set_option maxRecDepth 100000 in
theorem c_X7_noPiece (l : Launch) (D : va_G) (cI cJ cZ cO : ClassId) (a_this a_this_text a_this_now a_this_slots a_this_cover a_this_formsSeen a_this_now_figures a_this_now_pieces a_this_now_mayMirror : Nat) (c_this_now_laid : Int32) (x1 : Int32) (rv : Int32) (hf : f_X7_noPiece c_this_now_laid x1 = some rv) : Met l yX7_noPiece wsX7_noPiece ({ frames := 0, cells := 0, slots := 0, locals := 0 }) (va_Pc [.ref a_this, .int x1] (hkR D cI cJ cZ cO [(a_this, .inr (3, [.ref a_this_text, .ref a_this_now, .ref a_this_slots, .ref a_this_cover, .ref a_this_formsSeen])), (a_this_now, .inr (1, [.ref a_this_now_figures, .ref a_this_now_pieces, .ref a_this_now_mayMirror, .int c_this_now_laid]))])) (vp_Si (fun r => r = rv)) 0 0 (fun _ => False) := by
  refine Met.ofW (cc := cX7_noPiece) (maxL := 2) (ret := (some .boolean)) (by decide) rfl ?_
  intro p e s m args below meth c s₁ B hml hv
  obtain ⟨rfl, hP, hK⟩ := hv
  have hx := B.exec
  have hb := B.bytes
  have hr := B.returns
  have hts := atoms_spec (ws := wsX7_noPiece) B.pre
  have hown : s.vm.findClass RX7 = some m.cls := findClass_of_methodNamed B.named
  have hlocks := B.notSynchronized
  have hN := hK.2
  have hl := lv_entry ([.ref a_this, .int x1]) (n := 2) (Nat.le_of_ble_eq_true rfl)
  rw [lg_entry_eq]
  generalize (lg_sl ([.ref a_this, .int x1]) ++ List.replicate (2 - (lg_sl ([.ref a_this, .int x1])).length) Slot.unset).toArray = ls at hl ⊢
  have hl : lv_has ls 2 [(0, .ref a_this), (1, .int x1)] := hl
  refine hk_Q (fun Q hQ => ?_)
  have h := hf
  unfold f_X7_noPiece at h
  refine lv_iload_n hx hb dX7_noPiece_0 rfl (lv_at hl 1 rfl) ?_
  refine lv_if_lt (tgt := 20) hx hb dX7_noPiece_1 (by decide) (fun c21 => ?_) (fun c21 => ?_)
  · replace h := hk_ip c21 h
    refine lv_iconst (v := (1 : Int32)) hx hb dX7_noPiece_20 (by decide) ?_
    refine lv_goto (tgt := 25) hx hb dX7_noPiece_21 (by decide) ?_
    subst hQ
    exact W.zret hx hb hr rfl (fun t ht hW => ⟨_, rfl, Option.some.inj h, ht⟩) (fun _ h9 => by cases h9) dX7_noPiece_25
  replace h := hk_in c21 h
  refine lv_iload_n hx hb dX7_noPiece_4 rfl (lv_at hl 1 rfl) ?_
  refine lv_aload_n hx hb dX7_noPiece_5 rfl (lv_at hl 0 rfl) ?_
  refine va_get (D := D) (ci := 3) (v := .ref a_this_now) (C := RX7) (T := TX7) (N := 5) hx hb hts zi_X7_noPiece_X7 hown hK.1 hP 0 rfl rfl 1 (by decide) (hts (.fieldLink RX7 19 "HalfAndHalfAgain" "now" "LHalfAndHalfAgain$Store;") (List.mem_of_getElem? (i := 1) rfl)) (fun _ h9 => h9) rfl dX7_noPiece_6 ?_
  refine va_get (D := D) (ci := 1) (v := .int c_this_now_laid) (C := RX5) (T := TX5) (N := 4) hx hb hts zi_X7_noPiece_X5 hown hK.1 hP 1 rfl rfl 3 (by decide) (hts (.fieldLink RX7 148 "HalfAndHalfAgain$Store" "laid" "I") (List.mem_of_getElem? (i := 2) rfl)) (fun _ h9 => h9) rfl dX7_noPiece_9 ?_
  refine lv_icmp_ge (tgt := 20) hx hb dX7_noPiece_12 (by decide) (fun c22 => ?_) (fun c22 => ?_)
  · replace h := hk_ip c22 h
    refine lv_iconst (v := (1 : Int32)) hx hb dX7_noPiece_20 (by decide) ?_
    refine lv_goto (tgt := 25) hx hb dX7_noPiece_21 (by decide) ?_
    subst hQ
    exact W.zret hx hb hr rfl (fun t ht hW => ⟨_, rfl, Option.some.inj h, ht⟩) (fun _ h9 => by cases h9) dX7_noPiece_25
  replace h := hk_in c22 h
  refine lv_iload_n hx hb dX7_noPiece_15 rfl (lv_at hl 1 rfl) ?_
  refine lv_iconst (v := (4 : Int32)) hx hb dX7_noPiece_16 (by decide) ?_
  refine lv_icmp_lt (tgt := 24) hx hb dX7_noPiece_17 (by decide) (fun c23 => ?_) (fun c23 => ?_)
  · replace h := hk_ip c23 h
    refine lv_iconst (v := (0 : Int32)) hx hb dX7_noPiece_24 (by decide) ?_
    subst hQ
    exact W.zret hx hb hr rfl (fun t ht hW => ⟨_, rfl, Option.some.inj h, ht⟩) (fun _ h9 => by cases h9) dX7_noPiece_25
  replace h := hk_in c23 h
  refine lv_iconst (v := (1 : Int32)) hx hb dX7_noPiece_20 (by decide) ?_
  refine lv_goto (tgt := 25) hx hb dX7_noPiece_21 (by decide) ?_
  subst hQ
  exact W.zret hx hb hr rfl (fun t ht hW => ⟨_, rfl, Option.some.inj h, ht⟩) (fun _ h9 => by cases h9) dX7_noPiece_25
theorem zv_X7_piece : yX7_piece.cls = RX7 ∧ yX7_piece.cls ≠ "java/lang/invoke/MethodHandle" ∧ yX7_piece.cls ≠ "java/lang/invoke/VarHandle" ∧ (parseMethodDescriptor yX7_piece.desc).map (fun d => d.parameters.length) = some 1 := by decide +kernel
def f_X7_piece (c_this_now_laid : Int32) (c_this_now_pieces : Nat → Int64)  (x1 : Int32) : Option Int64 := hk_b1 (f_X7_noPiece c_this_now_laid x1) fun r21 => if r21 = 0 then (hk_gd (hk_inb x1 4) (some (c_this_now_pieces x1.toNatClampNeg))) else (some (0 : Int64))
theorem zi_X7_piece_X7 : ∀ w ∈ u_ws RX7 TX7 5, w ∈ wsX7_piece := by decide +kernel
theorem zi_X7_piece_X5 : ∀ w ∈ u_ws RX5 TX5 4, w ∈ wsX7_piece := by decide +kernel
set_option maxHeartbeats 8000000 in
set_option maxRecDepth 100000 in
theorem c_X7_piece (l : Launch) (D : va_G) (cI cJ cZ cO : ClassId) (a_this a_this_text a_this_now a_this_slots a_this_cover a_this_formsSeen a_this_now_figures a_this_now_pieces a_this_now_mayMirror : Nat) (c_this_now_laid : Int32) (c_this_now_pieces : Nat → Int64) (x1 : Int32) (rv : Int64) (hf : f_X7_piece c_this_now_laid c_this_now_pieces x1 = some rv) : Met l yX7_piece wsX7_piece ({ frames := 1, cells := 0, slots := 0, locals := 21 }) (va_Pc [.ref a_this, .int x1] (hkR D cI cJ cZ cO [(a_this, .inr (3, [.ref a_this_text, .ref a_this_now, .ref a_this_slots, .ref a_this_cover, .ref a_this_formsSeen])), (a_this_now, .inr (1, [.ref a_this_now_figures, .ref a_this_now_pieces, .ref a_this_now_mayMirror, .int c_this_now_laid])), (a_this_now_pieces, .inl (cJ, 4, .inr (.inl c_this_now_pieces)))])) (vp_Sl (fun r => r = rv)) 0 0 (fun _ => False) := by
  refine Met.ofW (cc := cX7_piece) (maxL := 2) (ret := (some .long)) (by decide) rfl ?_
  intro p e s m args below meth c s₁ B hml hv
  obtain ⟨rfl, hP, hK⟩ := hv
  have hx := B.exec
  have hb := B.bytes
  have hr := B.returns
  have hts := atoms_spec (ws := wsX7_piece) B.pre
  have hown : s.vm.findClass RX7 = some m.cls := findClass_of_methodNamed B.named
  have hlocks := B.notSynchronized
  have hN := hK.2
  have hl := lv_entry ([.ref a_this, .int x1]) (n := 2) (Nat.le_of_ble_eq_true rfl)
  rw [lg_entry_eq]
  generalize (lg_sl ([.ref a_this, .int x1]) ++ List.replicate (2 - (lg_sl ([.ref a_this, .int x1])).length) Slot.unset).toArray = ls at hl ⊢
  have hl : lv_has ls 2 [(0, .ref a_this), (1, .int x1)] := hl
  refine hk_Q (fun Q hQ => ?_)
  have h := hf
  unfold f_X7_piece at h
  refine lv_aload_n hx hb dX7_piece_0 rfl (lv_at hl 0 rfl) ?_
  refine lv_iload_n hx hb dX7_piece_1 rfl (lv_at hl 1 rfl) ?_
  obtain ⟨r21, hr22, h⟩ := hk_x1 h
  refine vp_callSi (W.runV (As := [.int x1]) (rest := []) ⟨hx, hb, hml, hown, hts⟩ (c_X7_noPiece l D cI cJ cZ cO a_this a_this_text a_this_now a_this_slots a_this_cover a_this_formsSeen a_this_now_figures a_this_now_pieces a_this_now_mayMirror c_this_now_laid x1 _ hr22) (cwV 1 hts gX7_piece_X7_noPiece rfl rfl rfl zv_X7_noPiece ⟨Nat.le_of_ble_eq_true rfl, Nat.le_of_ble_eq_true rfl⟩) (hk_preRV 3 rfl (hP.sub (ws' := [(a_this, .inr (3, [.ref a_this_text, .ref a_this_now, .ref a_this_slots, .ref a_this_cover, .ref a_this_formsSeen])), (a_this_now, .inr (1, [.ref a_this_now_figures, .ref a_this_now_pieces, .ref a_this_now_mayMirror, .int c_this_now_laid]))]) [0, 1] rfl) hK rfl) rfl rfl hl.1 rfl (lv_room (Nat.le_of_ble_eq_true rfl)) dX7_piece_2 ⟨Nat.zero_le _, Nat.zero_le _⟩) (fun p24 e23 => ?_)
  rw [e23]
  refine lv_if_eq (tgt := 12) hx hb dX7_piece_5 (by decide) (fun c25 => ?_) (fun c25 => ?_)
  · replace h := hk_ip c25 h
    refine lv_aload_n hx hb dX7_piece_12 rfl (lv_at hl 0 rfl) ?_
    refine va_get (D := D) (ci := 3) (v := .ref a_this_now) (C := RX7) (T := TX7) (N := 5) hx hb hts zi_X7_piece_X7 hown hK.1 hP 0 rfl rfl 1 (by decide) (hts (.fieldLink RX7 19 "HalfAndHalfAgain" "now" "LHalfAndHalfAgain$Store;") (List.mem_of_getElem? (i := 1) rfl)) (fun _ h9 => h9) rfl dX7_piece_13 ?_
    refine va_get (D := D) (ci := 1) (v := .ref a_this_now_pieces) (C := RX5) (T := TX5) (N := 4) hx hb hts zi_X7_piece_X5 hown hK.1 hP 1 rfl rfl 1 (by decide) (hts (.fieldLink RX7 151 "HalfAndHalfAgain$Store" "pieces" "[J") (List.mem_of_getElem? (i := 2) rfl)) (fun _ h9 => h9) rfl dX7_piece_16 ?_
    refine lv_iload_n hx hb dX7_piece_19 rfl (lv_at hl 1 rfl) ?_
    obtain ⟨hi26, h⟩ := hk_ge h
    refine va_lald hx hb hK.1 hP 2 1 rfl rfl (hk_inb_of hi26) dX7_piece_20 ?_
    subst hQ
    exact W.lret hx hb hr (fun t ht hW => ⟨_, rfl, Option.some.inj h, ht⟩) (fun _ h9 => by cases h9) dX7_piece_21
  replace h := hk_in c25 h
  refine lv_lconst (v := (0 : Int64)) hx hb dX7_piece_8 (by decide) ?_
  refine lv_goto (tgt := 21) hx hb dX7_piece_9 (by decide) ?_
  subst hQ
  exact W.lret hx hb hr (fun t ht hW => ⟨_, rfl, Option.some.inj h, ht⟩) (fun _ h9 => by cases h9) dX7_piece_21
theorem zv_X7_places : yX7_places.cls = RX7 ∧ yX7_places.cls ≠ "java/lang/invoke/MethodHandle" ∧ yX7_places.cls ≠ "java/lang/invoke/VarHandle" ∧ (parseMethodDescriptor yX7_places.desc).map (fun d => d.parameters.length) = some 2 := by decide +kernel
def f_X7_places (c_this_now_laid : Int32) (c_this_now_figures : Nat → Int64) (c_this_cover_found : Nat → Int32) (c_this_now_mayMirror : Nat → Int32) (c_this_now_pieces : Nat → Int64) (c_this_cover_turnedSeen : Nat → Int64) (c_this_cover_spots : Nat → Int64)  (x1 : Int32) (x2 : Int32) : Option (Int32 × (Nat → Int32) × (Nat → Int64) × (Nat → Int64)) := hk_b1 (f_X7_noPiece c_this_now_laid x1) fun r21 => if r21 = 0 then (hk_b1 (f_X7_noFigure x2) fun r26 => if r26 = 0 then (hk_gd (hk_inb x2 8) (hk_b4 (f_X1_findSpots c_this_cover_found c_this_now_mayMirror c_this_now_pieces c_this_cover_turnedSeen c_this_cover_spots x1 (c_this_now_figures x2.toNatClampNeg)) fun r32 u33 u34 u35 => some (r32, u33, u34, u35))) else (some ((-1 : Int32), c_this_cover_found, c_this_cover_turnedSeen, c_this_cover_spots))) else (some ((-1 : Int32), c_this_cover_found, c_this_cover_turnedSeen, c_this_cover_spots))
theorem zi_X7_places_X7 : ∀ w ∈ u_ws RX7 TX7 5, w ∈ wsX7_places := by decide +kernel
theorem zi_X7_places_X5 : ∀ w ∈ u_ws RX5 TX5 4, w ∈ wsX7_places := by decide +kernel
set_option maxHeartbeats 8000000 in
set_option maxRecDepth 100000 in
theorem c_X7_places (l : Launch) (D : va_G) (cI cJ cZ cO : ClassId) (a_this a_this_text a_this_now a_this_slots a_this_cover a_this_formsSeen a_this_now_figures a_this_now_pieces a_this_now_mayMirror a_this_cover_spots a_this_cover_found a_this_cover_turnedSeen a_this_cover_chosen a_this_cover_best : Nat) (sz : Nat) (c_this_now_laid : Int32) (c_this_cover_pieces : Int32) (c_this_cover_ways : Int32) (c_this_now_figures : Nat → Int64) (c_this_cover_found : Nat → Int32) (c_this_now_mayMirror : Nat → Int32) (c_this_now_pieces : Nat → Int64) (c_this_cover_turnedSeen : Nat → Int64) (c_this_cover_spots : Nat → Int64) (x1 : Int32) (x2 : Int32) (rv : Int32) (u_this_cover_found : Nat → Int32) (u_this_cover_turnedSeen : Nat → Int64) (u_this_cover_spots : Nat → Int64) (hf : f_X7_places c_this_now_laid c_this_now_figures c_this_cover_found c_this_now_mayMirror c_this_now_pieces c_this_cover_turnedSeen c_this_cover_spots x1 x2 = some (rv, u_this_cover_found, u_this_cover_turnedSeen, u_this_cover_spots)) : Met l yX7_places wsX7_places ({ frames := 5, cells := 0, slots := 0, locals := 123 }) (va_Pc [.ref a_this, .int x1, .int x2] (hkM D cI cJ cZ cO [(a_this, .inr (3, [.ref a_this_text, .ref a_this_now, .ref a_this_slots, .ref a_this_cover, .ref a_this_formsSeen])), (a_this_now, .inr (1, [.ref a_this_now_figures, .ref a_this_now_pieces, .ref a_this_now_mayMirror, .int c_this_now_laid])), (a_this_cover, .inr (0, [.ref a_this_cover_spots, .ref a_this_cover_found, .ref a_this_cover_turnedSeen, .ref a_this_cover_chosen, .ref a_this_cover_best, .int c_this_cover_pieces, .int c_this_cover_ways])), (a_this_now_figures, .inl (cJ, 8, .inr (.inl c_this_now_figures))), (a_this_cover_found, .inl (cI, 4, .inl c_this_cover_found)), (a_this_now_mayMirror, .inl (cZ, 4, .inl c_this_now_mayMirror)), (a_this_now_pieces, .inl (cJ, 4, .inr (.inl c_this_now_pieces))), (a_this_cover_turnedSeen, .inl (cJ, 8, .inr (.inl c_this_cover_turnedSeen))), (a_this_cover_spots, .inl (cJ, 384, .inr (.inl c_this_cover_spots)))] sz)) (va_Qi (fun r (_ : Unit) => r = rv) (fun _ t => va_P D vwCl [(a_this, .inr (3, [.ref a_this_text, .ref a_this_now, .ref a_this_slots, .ref a_this_cover, .ref a_this_formsSeen])), (a_this_now, .inr (1, [.ref a_this_now_figures, .ref a_this_now_pieces, .ref a_this_now_mayMirror, .int c_this_now_laid])), (a_this_cover, .inr (0, [.ref a_this_cover_spots, .ref a_this_cover_found, .ref a_this_cover_turnedSeen, .ref a_this_cover_chosen, .ref a_this_cover_best, .int c_this_cover_pieces, .int c_this_cover_ways])), (a_this_now_figures, .inl (cJ, 8, .inr (.inl c_this_now_figures))), (a_this_cover_found, .inl (cI, 4, .inl u_this_cover_found)), (a_this_now_mayMirror, .inl (cZ, 4, .inl c_this_now_mayMirror)), (a_this_now_pieces, .inl (cJ, 4, .inr (.inl c_this_now_pieces))), (a_this_cover_turnedSeen, .inl (cJ, 8, .inr (.inl u_this_cover_turnedSeen))), (a_this_cover_spots, .inl (cJ, 384, .inr (.inl u_this_cover_spots)))] t.heap ∧ va_D (va_A [(a_this, .inr (3, [.ref a_this_text, .ref a_this_now, .ref a_this_slots, .ref a_this_cover, .ref a_this_formsSeen])), (a_this_now, .inr (1, [.ref a_this_now_figures, .ref a_this_now_pieces, .ref a_this_now_mayMirror, .int c_this_now_laid])), (a_this_cover, .inr (0, [.ref a_this_cover_spots, .ref a_this_cover_found, .ref a_this_cover_turnedSeen, .ref a_this_cover_chosen, .ref a_this_cover_best, .int c_this_cover_pieces, .int c_this_cover_ways])), (a_this_now_figures, .inl (cJ, 8, .inr (.inl c_this_now_figures))), (a_this_cover_found, .inl (cI, 4, .inl c_this_cover_found)), (a_this_now_mayMirror, .inl (cZ, 4, .inl c_this_now_mayMirror)), (a_this_now_pieces, .inl (cJ, 4, .inr (.inl c_this_now_pieces))), (a_this_cover_turnedSeen, .inl (cJ, 8, .inr (.inl c_this_cover_turnedSeen))), (a_this_cover_spots, .inl (cJ, 384, .inr (.inl c_this_cover_spots)))] sz) [(a_this, .inr (3, [.ref a_this_text, .ref a_this_now, .ref a_this_slots, .ref a_this_cover, .ref a_this_formsSeen])), (a_this_now, .inr (1, [.ref a_this_now_figures, .ref a_this_now_pieces, .ref a_this_now_mayMirror, .int c_this_now_laid])), (a_this_cover, .inr (0, [.ref a_this_cover_spots, .ref a_this_cover_found, .ref a_this_cover_turnedSeen, .ref a_this_cover_chosen, .ref a_this_cover_best, .int c_this_cover_pieces, .int c_this_cover_ways])), (a_this_now_figures, .inl (cJ, 8, .inr (.inl c_this_now_figures))), (a_this_cover_found, .inl (cI, 4, .inl u_this_cover_found)), (a_this_now_mayMirror, .inl (cZ, 4, .inl c_this_now_mayMirror)), (a_this_now_pieces, .inl (cJ, 4, .inr (.inl c_this_now_pieces))), (a_this_cover_turnedSeen, .inl (cJ, 8, .inr (.inl u_this_cover_turnedSeen))), (a_this_cover_spots, .inl (cJ, 384, .inr (.inl u_this_cover_spots)))]) (va_A [(a_this, .inr (3, [.ref a_this_text, .ref a_this_now, .ref a_this_slots, .ref a_this_cover, .ref a_this_formsSeen])), (a_this_now, .inr (1, [.ref a_this_now_figures, .ref a_this_now_pieces, .ref a_this_now_mayMirror, .int c_this_now_laid])), (a_this_cover, .inr (0, [.ref a_this_cover_spots, .ref a_this_cover_found, .ref a_this_cover_turnedSeen, .ref a_this_cover_chosen, .ref a_this_cover_best, .int c_this_cover_pieces, .int c_this_cover_ways])), (a_this_now_figures, .inl (cJ, 8, .inr (.inl c_this_now_figures))), (a_this_cover_found, .inl (cI, 4, .inl c_this_cover_found)), (a_this_now_mayMirror, .inl (cZ, 4, .inl c_this_now_mayMirror)), (a_this_now_pieces, .inl (cJ, 4, .inr (.inl c_this_now_pieces))), (a_this_cover_turnedSeen, .inl (cJ, 8, .inr (.inl c_this_cover_turnedSeen))), (a_this_cover_spots, .inl (cJ, 384, .inr (.inl c_this_cover_spots)))] sz)) 0 0 (va_A [(a_this, .inr (3, [.ref a_this_text, .ref a_this_now, .ref a_this_slots, .ref a_this_cover, .ref a_this_formsSeen])), (a_this_now, .inr (1, [.ref a_this_now_figures, .ref a_this_now_pieces, .ref a_this_now_mayMirror, .int c_this_now_laid])), (a_this_cover, .inr (0, [.ref a_this_cover_spots, .ref a_this_cover_found, .ref a_this_cover_turnedSeen, .ref a_this_cover_chosen, .ref a_this_cover_best, .int c_this_cover_pieces, .int c_this_cover_ways])), (a_this_now_figures, .inl (cJ, 8, .inr (.inl c_this_now_figures))), (a_this_cover_found, .inl (cI, 4, .inl c_this_cover_found)), (a_this_now_mayMirror, .inl (cZ, 4, .inl c_this_now_mayMirror)), (a_this_now_pieces, .inl (cJ, 4, .inr (.inl c_this_now_pieces))), (a_this_cover_turnedSeen, .inl (cJ, 8, .inr (.inl c_this_cover_turnedSeen))), (a_this_cover_spots, .inl (cJ, 384, .inr (.inl c_this_cover_spots)))] sz) := by
  refine Met.ofW (cc := cX7_places) (maxL := 3) (ret := (some .int)) (by decide) rfl ?_
  intro p e s m args below meth c s₁ B hml hv
  obtain ⟨rfl, hsz, hP, hK, hD0⟩ := hv
  have hx := B.exec
  have hb := B.bytes
  have hr := B.returns
  have hts := atoms_spec (ws := wsX7_places) B.pre
  have hown : s.vm.findClass RX7 = some m.cls := findClass_of_methodNamed B.named
  have hlocks := B.notSynchronized
  have hN := hK.2
  subst hsz
  have hD := hD0.self (sz := s.heap.size)
  generalize hAe : va_A [(a_this, .inr (3, [.ref a_this_text, .ref a_this_now, .ref a_this_slots, .ref a_this_cover, .ref a_this_formsSeen])), (a_this_now, .inr (1, [.ref a_this_now_figures, .ref a_this_now_pieces, .ref a_this_now_mayMirror, .int c_this_now_laid])), (a_this_cover, .inr (0, [.ref a_this_cover_spots, .ref a_this_cover_found, .ref a_this_cover_turnedSeen, .ref a_this_cover_chosen, .ref a_this_cover_best, .int c_this_cover_pieces, .int c_this_cover_ways])), (a_this_now_figures, .inl (cJ, 8, .inr (.inl c_this_now_figures))), (a_this_cover_found, .inl (cI, 4, .inl c_this_cover_found)), (a_this_now_mayMirror, .inl (cZ, 4, .inl c_this_now_mayMirror)), (a_this_now_pieces, .inl (cJ, 4, .inr (.inl c_this_now_pieces))), (a_this_cover_turnedSeen, .inl (cJ, 8, .inr (.inl c_this_cover_turnedSeen))), (a_this_cover_spots, .inl (cJ, 384, .inr (.inl c_this_cover_spots)))] s.heap.size = A at hD ⊢
  have hA : ∀ q : Nat, s.heap.size ≤ q → A q := fun q h => by rw [← hAe]; exact Or.inr h
  have hS : va_S A s.heap s.heap [] := va_S.rf
  have hl := lv_entry ([.ref a_this, .int x1, .int x2]) (n := 3) (Nat.le_of_ble_eq_true rfl)
  rw [lg_entry_eq]
  generalize (lg_sl ([.ref a_this, .int x1, .int x2]) ++ List.replicate (3 - (lg_sl ([.ref a_this, .int x1, .int x2])).length) Slot.unset).toArray = ls at hl ⊢
  have hl : lv_has ls 3 [(0, .ref a_this), (1, .int x1), (2, .int x2)] := hl
  refine hk_Q (fun Q hQ => ?_)
  have h := hf
  unfold f_X7_places at h
  refine lv_aload_n hx hb dX7_places_0 rfl (lv_at hl 0 rfl) ?_
  refine lv_iload_n hx hb dX7_places_1 rfl (lv_at hl 1 rfl) ?_
  obtain ⟨r21, hr22, h⟩ := hk_x1 h
  refine vp_callSi (W.runV (As := [.int x1]) (rest := []) ⟨hx, hb, hml, hown, hts⟩ (c_X7_noPiece l D cI cJ cZ cO a_this a_this_text a_this_now a_this_slots a_this_cover a_this_formsSeen a_this_now_figures a_this_now_pieces a_this_now_mayMirror c_this_now_laid x1 _ hr22) (cwV 1 hts gX7_places_X7_noPiece rfl rfl rfl zv_X7_noPiece ⟨Nat.le_of_ble_eq_true rfl, Nat.le_of_ble_eq_true rfl⟩) (hk_preRV 3 rfl (hP.sub (ws' := [(a_this, .inr (3, [.ref a_this_text, .ref a_this_now, .ref a_this_slots, .ref a_this_cover, .ref a_this_formsSeen])), (a_this_now, .inr (1, [.ref a_this_now_figures, .ref a_this_now_pieces, .ref a_this_now_mayMirror, .int c_this_now_laid]))]) [0, 1] rfl) hK rfl) rfl rfl hl.1 rfl (lv_room (Nat.le_of_ble_eq_true rfl)) dX7_places_2 ⟨Nat.zero_le _, Nat.zero_le _⟩) (fun p24 e23 => ?_)
  rw [e23]
  refine lv_if_ne (tgt := 15) hx hb dX7_places_5 (by decide) (fun c25 => ?_) (fun c25 => ?_)
  · replace h := hk_in c25 h
    refine lv_iconst (v := (-1 : Int32)) hx hb dX7_places_15 (by decide) ?_
    subst hQ
    have h := Option.some.inj h
    simp only [Prod.mk.injEq] at h
    obtain ⟨rfl, rfl, rfl, rfl⟩ := h
    exact W.iret hx hb hr (fun t ht hW => ⟨⟨_, (), rfl, rfl, by rw [ht]; exact hP, hD⟩, hS.F ht⟩) hS.2.2 dX7_places_16
  replace h := hk_ip c25 h
  refine lv_iload_n hx hb dX7_places_8 rfl (lv_at hl 2 rfl) ?_
  obtain ⟨r26, hr27, h⟩ := hk_x1 h
  refine vp_callSi (W.runS (As := [.int x2]) (rest := []) ⟨hx, hb, hml, hown, hts⟩ (c_X7_noFigure l x2 _ hr27) (va_cwS 1 hts gX7_places_X7_noFigure rfl rfl rfl zs_X7_noFigure ⟨Nat.le_of_ble_eq_true rfl, Nat.le_of_ble_eq_true rfl⟩) ⟨fun _ _ _ _ q => q, fun _ _ _ => ⟨rfl, trivial⟩⟩ rfl rfl hl.1 rfl (lv_room (Nat.le_of_ble_eq_true rfl)) dX7_places_9 ⟨Nat.zero_le _, Nat.zero_le _⟩) (fun p29 e28 => ?_)
  rw [e28]
  refine lv_if_eq (tgt := 17) hx hb dX7_places_12 (by decide) (fun c30 => ?_) (fun c30 => ?_)
  · replace h := hk_ip c30 h
    refine lv_aload_n hx hb dX7_places_17 rfl (lv_at hl 0 rfl) ?_
    refine va_get (D := D) (ci := 3) (v := .ref a_this_cover) (C := RX7) (T := TX7) (N := 5) hx hb hts zi_X7_places_X7 hown hK.1 hP 0 rfl rfl 3 (by decide) (hts (.fieldLink RX7 30 "HalfAndHalfAgain" "cover" "LHalfAndHalfAgain$Cover;") (List.mem_of_getElem? (i := 1) rfl)) (fun _ h9 => h9) rfl dX7_places_18 ?_
    refine lv_aload_n hx hb dX7_places_21 rfl (lv_at hl 0 rfl) ?_
    refine va_get (D := D) (ci := 3) (v := .ref a_this_now) (C := RX7) (T := TX7) (N := 5) hx hb hts zi_X7_places_X7 hown hK.1 hP 0 rfl rfl 1 (by decide) (hts (.fieldLink RX7 19 "HalfAndHalfAgain" "now" "LHalfAndHalfAgain$Store;") (List.mem_of_getElem? (i := 2) rfl)) (fun _ h9 => h9) rfl dX7_places_22 ?_
    refine lv_iload_n hx hb dX7_places_25 rfl (lv_at hl 1 rfl) ?_
    refine lv_aload_n hx hb dX7_places_26 rfl (lv_at hl 0 rfl) ?_
    refine va_get (D := D) (ci := 3) (v := .ref a_this_now) (C := RX7) (T := TX7) (N := 5) hx hb hts zi_X7_places_X7 hown hK.1 hP 0 rfl rfl 1 (by decide) (hts (.fieldLink RX7 19 "HalfAndHalfAgain" "now" "LHalfAndHalfAgain$Store;") (List.mem_of_getElem? (i := 2) rfl)) (fun _ h9 => h9) rfl dX7_places_27 ?_
    refine va_get (D := D) (ci := 1) (v := .ref a_this_now_figures) (C := RX5) (T := TX5) (N := 4) hx hb hts zi_X7_places_X5 hown hK.1 hP 1 rfl rfl 0 (by decide) (hts (.fieldLink RX7 62 "HalfAndHalfAgain$Store" "figures" "[J") (List.mem_of_getElem? (i := 3) rfl)) (fun _ h9 => h9) rfl dX7_places_30 ?_
    refine lv_iload_n hx hb dX7_places_33 rfl (lv_at hl 2 rfl) ?_
    obtain ⟨hi31, h⟩ := hk_ge h
    refine va_lald hx hb hK.1 hP 3 1 rfl rfl (hk_inb_of hi31) dX7_places_34 ?_
    obtain ⟨r32, u33, u34, u35, hr36, h⟩ := hk_x4 h
    have hPc := hP.sub (ws' := [(a_this_cover, .inr (0, [.ref a_this_cover_spots, .ref a_this_cover_found, .ref a_this_cover_turnedSeen, .ref a_this_cover_chosen, .ref a_this_cover_best, .int c_this_cover_pieces, .int c_this_cover_ways])), (a_this_now, .inr (1, [.ref a_this_now_figures, .ref a_this_now_pieces, .ref a_this_now_mayMirror, .int c_this_now_laid])), (a_this_cover_found, .inl (cI, 4, .inl c_this_cover_found)), (a_this_now_mayMirror, .inl (cZ, 4, .inl c_this_now_mayMirror)), (a_this_now_pieces, .inl (cJ, 4, .inr (.inl c_this_now_pieces))), (a_this_cover_turnedSeen, .inl (cJ, 8, .inr (.inl c_this_cover_turnedSeen))), (a_this_cover_spots, .inl (cJ, 384, .inr (.inl c_this_cover_spots)))]) [2, 1, 4, 5, 6, 7, 8] rfl
    have hDc := hD.sub (ws' := [(a_this_cover, .inr (0, [.ref a_this_cover_spots, .ref a_this_cover_found, .ref a_this_cover_turnedSeen, .ref a_this_cover_chosen, .ref a_this_cover_best, .int c_this_cover_pieces, .int c_this_cover_ways])), (a_this_now, .inr (1, [.ref a_this_now_figures, .ref a_this_now_pieces, .ref a_this_now_mayMirror, .int c_this_now_laid])), (a_this_cover_found, .inl (cI, 4, .inl c_this_cover_found)), (a_this_now_mayMirror, .inl (cZ, 4, .inl c_this_now_mayMirror)), (a_this_now_pieces, .inl (cJ, 4, .inr (.inl c_this_now_pieces))), (a_this_cover_turnedSeen, .inl (cJ, 8, .inr (.inl c_this_cover_turnedSeen))), (a_this_cover_spots, .inl (cJ, 384, .inr (.inl c_this_cover_spots)))]) [2, 1, 4, 5, 6, 7, 8] (by decide) rfl
    have hFc := va_free (wc := [(a_this_cover, .inr (0, [.ref a_this_cover_spots, .ref a_this_cover_found, .ref a_this_cover_turnedSeen, .ref a_this_cover_chosen, .ref a_this_cover_best, .int c_this_cover_pieces, .int c_this_cover_ways])), (a_this_now, .inr (1, [.ref a_this_now_figures, .ref a_this_now_pieces, .ref a_this_now_mayMirror, .int c_this_now_laid])), (a_this_cover_found, .inl (cI, 4, .inl c_this_cover_found)), (a_this_now_mayMirror, .inl (cZ, 4, .inl c_this_now_mayMirror)), (a_this_now_pieces, .inl (cJ, 4, .inr (.inl c_this_now_pieces))), (a_this_cover_turnedSeen, .inl (cJ, 8, .inr (.inl c_this_cover_turnedSeen))), (a_this_cover_spots, .inl (cJ, 384, .inr (.inl c_this_cover_spots)))]) hD hS hA [2, 1, 4, 5, 6, 7, 8] rfl
    refine va_calli (va_runV (As := [.ref a_this_now, .int x1, .long (c_this_now_figures x2.toNatClampNeg)]) (rest := []) ⟨hx, hb, hml, hown, hts⟩ (c_X1_findSpots l D cI cJ cZ cO a_this_cover a_this_cover_spots a_this_cover_found a_this_cover_turnedSeen a_this_cover_chosen a_this_cover_best a_this_now a_this_now_figures a_this_now_pieces a_this_now_mayMirror s.heap.size c_this_cover_pieces c_this_cover_ways c_this_now_laid c_this_cover_found c_this_now_mayMirror c_this_now_pieces c_this_cover_turnedSeen c_this_cover_spots x1 (c_this_now_figures x2.toNatClampNeg) _ _ _ _ hr36) (cwV 3 hts gX7_places_X1_findSpots rfl rfl rfl zv_X1_findSpots ⟨Nat.le_of_ble_eq_true rfl, Nat.le_of_ble_eq_true rfl⟩) (hk_preMV 0 rfl hPc hDc hK rfl) rfl rfl hl.1 rfl (lv_room (Nat.le_of_ble_eq_true rfl)) dX7_places_35 ⟨Nat.zero_le _, Nat.zero_le _⟩) hS (fun q _ h9 => hFc q h9) hFc (fun p37 u9 t9 H1 locs ht hvm hw hB hz1 hk1 hS => ?_)
    obtain ⟨hP1, hD1⟩ := hB
    rw [ht] at hP1
    rw [hw]
    obtain ⟨hP, hD⟩ := va_join (wr := [(a_this, .inr (3, [.ref a_this_text, .ref a_this_now, .ref a_this_slots, .ref a_this_cover, .ref a_this_formsSeen])), (a_this_now_figures, .inl (cJ, 8, .inr (.inl c_this_now_figures)))]) (w1 := [(a_this_cover, .inr (0, [.ref a_this_cover_spots, .ref a_this_cover_found, .ref a_this_cover_turnedSeen, .ref a_this_cover_chosen, .ref a_this_cover_best, .int c_this_cover_pieces, .int c_this_cover_ways])), (a_this_now, .inr (1, [.ref a_this_now_figures, .ref a_this_now_pieces, .ref a_this_now_mayMirror, .int c_this_now_laid])), (a_this_cover_found, .inl (cI, 4, .inl u33)), (a_this_now_mayMirror, .inl (cZ, 4, .inl c_this_now_mayMirror)), (a_this_now_pieces, .inl (cJ, 4, .inr (.inl c_this_now_pieces))), (a_this_cover_turnedSeen, .inl (cJ, 8, .inr (.inl u34))), (a_this_cover_spots, .inl (cJ, 384, .inr (.inl u35)))]) hP hD [2, 1, 4, 5, 6, 7, 8] [0, 3] rfl rfl (by decide) (by decide) hk1 hFc hP1 hD1
    generalize H1 = H at hP hS ⊢
    have hP := hP.sub (ws' := [(a_this, .inr (3, [.ref a_this_text, .ref a_this_now, .ref a_this_slots, .ref a_this_cover, .ref a_this_formsSeen])), (a_this_now, .inr (1, [.ref a_this_now_figures, .ref a_this_now_pieces, .ref a_this_now_mayMirror, .int c_this_now_laid])), (a_this_cover, .inr (0, [.ref a_this_cover_spots, .ref a_this_cover_found, .ref a_this_cover_turnedSeen, .ref a_this_cover_chosen, .ref a_this_cover_best, .int c_this_cover_pieces, .int c_this_cover_ways])), (a_this_now_figures, .inl (cJ, 8, .inr (.inl c_this_now_figures))), (a_this_cover_found, .inl (cI, 4, .inl u33)), (a_this_now_mayMirror, .inl (cZ, 4, .inl c_this_now_mayMirror)), (a_this_now_pieces, .inl (cJ, 4, .inr (.inl c_this_now_pieces))), (a_this_cover_turnedSeen, .inl (cJ, 8, .inr (.inl u34))), (a_this_cover_spots, .inl (cJ, 384, .inr (.inl u35)))]) [0, 3, 2, 1, 4, 5, 6, 7, 8] rfl
    have hD := hD.sub (ws' := [(a_this, .inr (3, [.ref a_this_text, .ref a_this_now, .ref a_this_slots, .ref a_this_cover, .ref a_this_formsSeen])), (a_this_now, .inr (1, [.ref a_this_now_figures, .ref a_this_now_pieces, .ref a_this_now_mayMirror, .int c_this_now_laid])), (a_this_cover, .inr (0, [.ref a_this_cover_spots, .ref a_this_cover_found, .ref a_this_cover_turnedSeen, .ref a_this_cover_chosen, .ref a_this_cover_best, .int c_this_cover_pieces, .int c_this_cover_ways])), (a_this_now_figures, .inl (cJ, 8, .inr (.inl c_this_now_figures))), (a_this_cover_found, .inl (cI, 4, .inl u33)), (a_this_now_mayMirror, .inl (cZ, 4, .inl c_this_now_mayMirror)), (a_this_now_pieces, .inl (cJ, 4, .inr (.inl c_this_now_pieces))), (a_this_cover_turnedSeen, .inl (cJ, 8, .inr (.inl u34))), (a_this_cover_spots, .inl (cJ, 384, .inr (.inl u35)))]) [0, 3, 2, 1, 4, 5, 6, 7, 8] (by decide) rfl
    subst hQ
    have h := Option.some.inj h
    simp only [Prod.mk.injEq] at h
    obtain ⟨rfl, rfl, rfl, rfl⟩ := h
    exact W.iret hx hb hr (fun t ht hW => ⟨⟨_, (), rfl, rfl, by rw [ht]; exact hP, hD⟩, hS.F ht⟩) hS.2.2 dX7_places_38
  replace h := hk_in c30 h
  refine lv_iconst (v := (-1 : Int32)) hx hb dX7_places_15 (by decide) ?_
  subst hQ
  have h := Option.some.inj h
  simp only [Prod.mk.injEq] at h
  obtain ⟨rfl, rfl, rfl, rfl⟩ := h
  exact W.iret hx hb hr (fun t ht hW => ⟨⟨_, (), rfl, rfl, by rw [ht]; exact hP, hD⟩, hS.F ht⟩) hS.2.2 dX7_places_16
theorem zv_X7_place : yX7_place.cls = RX7 ∧ yX7_place.cls ≠ "java/lang/invoke/MethodHandle" ∧ yX7_place.cls ≠ "java/lang/invoke/VarHandle" ∧ (parseMethodDescriptor yX7_place.desc).map (fun d => d.parameters.length) = some 2 := by decide +kernel
def f_X7_place (c_this_now_laid : Int32) (c_this_now_figures : Nat → Int64) (c_this_cover_found : Nat → Int32) (c_this_now_mayMirror : Nat → Int32) (c_this_now_pieces : Nat → Int64) (c_this_cover_turnedSeen : Nat → Int64) (c_this_cover_spots : Nat → Int64)  (x1 : Int32) (x2 : Int32) : Option (Int64 × (Nat → Int32) × (Nat → Int64) × (Nat → Int64)) := hk_b1 (f_X7_noPiece c_this_now_laid x1) fun r21 => if r21 = 0 then (hk_b1 (f_X7_noFigure x2) fun r26 => if r26 = 0 then (hk_gd (hk_inb x2 8) (hk_b4 (f_X1_findSpots c_this_cover_found c_this_now_mayMirror c_this_now_pieces c_this_cover_turnedSeen c_this_cover_spots x1 (c_this_now_figures x2.toNatClampNeg)) fun r32 u33 u34 u35 => hk_b1 (f_X1_leastSpot u33 u35 x1) fun r38 => some (r38, u33, u34, u35))) else (some ((0 : Int64), c_this_cover_found, c_this_cover_turnedSeen, c_this_cover_spots))) else (some ((0 : Int64), c_this_cover_found, c_this_cover_turnedSeen, c_this_cover_spots))
theorem zi_X7_place_X7 : ∀ w ∈ u_ws RX7 TX7 5, w ∈ wsX7_place := by decide +kernel
theorem zi_X7_place_X5 : ∀ w ∈ u_ws RX5 TX5 4, w ∈ wsX7_place := by decide +kernel
set_option maxHeartbeats 8000000 in
set_option maxRecDepth 100000 in
theorem c_X7_place (l : Launch) (D : va_G) (cI cJ cZ cO : ClassId) (a_this a_this_text a_this_now a_this_slots a_this_cover a_this_formsSeen a_this_now_figures a_this_now_pieces a_this_now_mayMirror a_this_cover_spots a_this_cover_found a_this_cover_turnedSeen a_this_cover_chosen a_this_cover_best : Nat) (sz : Nat) (c_this_now_laid : Int32) (c_this_cover_pieces : Int32) (c_this_cover_ways : Int32) (c_this_now_figures : Nat → Int64) (c_this_cover_found : Nat → Int32) (c_this_now_mayMirror : Nat → Int32) (c_this_now_pieces : Nat → Int64) (c_this_cover_turnedSeen : Nat → Int64) (c_this_cover_spots : Nat → Int64) (x1 : Int32) (x2 : Int32) (rv : Int64) (u_this_cover_found : Nat → Int32) (u_this_cover_turnedSeen : Nat → Int64) (u_this_cover_spots : Nat → Int64) (hf : f_X7_place c_this_now_laid c_this_now_figures c_this_cover_found c_this_now_mayMirror c_this_now_pieces c_this_cover_turnedSeen c_this_cover_spots x1 x2 = some (rv, u_this_cover_found, u_this_cover_turnedSeen, u_this_cover_spots)) : Met l yX7_place wsX7_place ({ frames := 5, cells := 0, slots := 0, locals := 123 }) (va_Pc [.ref a_this, .int x1, .int x2] (hkM D cI cJ cZ cO [(a_this, .inr (3, [.ref a_this_text, .ref a_this_now, .ref a_this_slots, .ref a_this_cover, .ref a_this_formsSeen])), (a_this_now, .inr (1, [.ref a_this_now_figures, .ref a_this_now_pieces, .ref a_this_now_mayMirror, .int c_this_now_laid])), (a_this_cover, .inr (0, [.ref a_this_cover_spots, .ref a_this_cover_found, .ref a_this_cover_turnedSeen, .ref a_this_cover_chosen, .ref a_this_cover_best, .int c_this_cover_pieces, .int c_this_cover_ways])), (a_this_now_figures, .inl (cJ, 8, .inr (.inl c_this_now_figures))), (a_this_cover_found, .inl (cI, 4, .inl c_this_cover_found)), (a_this_now_mayMirror, .inl (cZ, 4, .inl c_this_now_mayMirror)), (a_this_now_pieces, .inl (cJ, 4, .inr (.inl c_this_now_pieces))), (a_this_cover_turnedSeen, .inl (cJ, 8, .inr (.inl c_this_cover_turnedSeen))), (a_this_cover_spots, .inl (cJ, 384, .inr (.inl c_this_cover_spots)))] sz)) (va_Ql (fun r (_ : Unit) => r = rv) (fun _ t => va_P D vwCl [(a_this, .inr (3, [.ref a_this_text, .ref a_this_now, .ref a_this_slots, .ref a_this_cover, .ref a_this_formsSeen])), (a_this_now, .inr (1, [.ref a_this_now_figures, .ref a_this_now_pieces, .ref a_this_now_mayMirror, .int c_this_now_laid])), (a_this_cover, .inr (0, [.ref a_this_cover_spots, .ref a_this_cover_found, .ref a_this_cover_turnedSeen, .ref a_this_cover_chosen, .ref a_this_cover_best, .int c_this_cover_pieces, .int c_this_cover_ways])), (a_this_now_figures, .inl (cJ, 8, .inr (.inl c_this_now_figures))), (a_this_cover_found, .inl (cI, 4, .inl u_this_cover_found)), (a_this_now_mayMirror, .inl (cZ, 4, .inl c_this_now_mayMirror)), (a_this_now_pieces, .inl (cJ, 4, .inr (.inl c_this_now_pieces))), (a_this_cover_turnedSeen, .inl (cJ, 8, .inr (.inl u_this_cover_turnedSeen))), (a_this_cover_spots, .inl (cJ, 384, .inr (.inl u_this_cover_spots)))] t.heap ∧ va_D (va_A [(a_this, .inr (3, [.ref a_this_text, .ref a_this_now, .ref a_this_slots, .ref a_this_cover, .ref a_this_formsSeen])), (a_this_now, .inr (1, [.ref a_this_now_figures, .ref a_this_now_pieces, .ref a_this_now_mayMirror, .int c_this_now_laid])), (a_this_cover, .inr (0, [.ref a_this_cover_spots, .ref a_this_cover_found, .ref a_this_cover_turnedSeen, .ref a_this_cover_chosen, .ref a_this_cover_best, .int c_this_cover_pieces, .int c_this_cover_ways])), (a_this_now_figures, .inl (cJ, 8, .inr (.inl c_this_now_figures))), (a_this_cover_found, .inl (cI, 4, .inl c_this_cover_found)), (a_this_now_mayMirror, .inl (cZ, 4, .inl c_this_now_mayMirror)), (a_this_now_pieces, .inl (cJ, 4, .inr (.inl c_this_now_pieces))), (a_this_cover_turnedSeen, .inl (cJ, 8, .inr (.inl c_this_cover_turnedSeen))), (a_this_cover_spots, .inl (cJ, 384, .inr (.inl c_this_cover_spots)))] sz) [(a_this, .inr (3, [.ref a_this_text, .ref a_this_now, .ref a_this_slots, .ref a_this_cover, .ref a_this_formsSeen])), (a_this_now, .inr (1, [.ref a_this_now_figures, .ref a_this_now_pieces, .ref a_this_now_mayMirror, .int c_this_now_laid])), (a_this_cover, .inr (0, [.ref a_this_cover_spots, .ref a_this_cover_found, .ref a_this_cover_turnedSeen, .ref a_this_cover_chosen, .ref a_this_cover_best, .int c_this_cover_pieces, .int c_this_cover_ways])), (a_this_now_figures, .inl (cJ, 8, .inr (.inl c_this_now_figures))), (a_this_cover_found, .inl (cI, 4, .inl u_this_cover_found)), (a_this_now_mayMirror, .inl (cZ, 4, .inl c_this_now_mayMirror)), (a_this_now_pieces, .inl (cJ, 4, .inr (.inl c_this_now_pieces))), (a_this_cover_turnedSeen, .inl (cJ, 8, .inr (.inl u_this_cover_turnedSeen))), (a_this_cover_spots, .inl (cJ, 384, .inr (.inl u_this_cover_spots)))]) (va_A [(a_this, .inr (3, [.ref a_this_text, .ref a_this_now, .ref a_this_slots, .ref a_this_cover, .ref a_this_formsSeen])), (a_this_now, .inr (1, [.ref a_this_now_figures, .ref a_this_now_pieces, .ref a_this_now_mayMirror, .int c_this_now_laid])), (a_this_cover, .inr (0, [.ref a_this_cover_spots, .ref a_this_cover_found, .ref a_this_cover_turnedSeen, .ref a_this_cover_chosen, .ref a_this_cover_best, .int c_this_cover_pieces, .int c_this_cover_ways])), (a_this_now_figures, .inl (cJ, 8, .inr (.inl c_this_now_figures))), (a_this_cover_found, .inl (cI, 4, .inl c_this_cover_found)), (a_this_now_mayMirror, .inl (cZ, 4, .inl c_this_now_mayMirror)), (a_this_now_pieces, .inl (cJ, 4, .inr (.inl c_this_now_pieces))), (a_this_cover_turnedSeen, .inl (cJ, 8, .inr (.inl c_this_cover_turnedSeen))), (a_this_cover_spots, .inl (cJ, 384, .inr (.inl c_this_cover_spots)))] sz)) 0 0 (va_A [(a_this, .inr (3, [.ref a_this_text, .ref a_this_now, .ref a_this_slots, .ref a_this_cover, .ref a_this_formsSeen])), (a_this_now, .inr (1, [.ref a_this_now_figures, .ref a_this_now_pieces, .ref a_this_now_mayMirror, .int c_this_now_laid])), (a_this_cover, .inr (0, [.ref a_this_cover_spots, .ref a_this_cover_found, .ref a_this_cover_turnedSeen, .ref a_this_cover_chosen, .ref a_this_cover_best, .int c_this_cover_pieces, .int c_this_cover_ways])), (a_this_now_figures, .inl (cJ, 8, .inr (.inl c_this_now_figures))), (a_this_cover_found, .inl (cI, 4, .inl c_this_cover_found)), (a_this_now_mayMirror, .inl (cZ, 4, .inl c_this_now_mayMirror)), (a_this_now_pieces, .inl (cJ, 4, .inr (.inl c_this_now_pieces))), (a_this_cover_turnedSeen, .inl (cJ, 8, .inr (.inl c_this_cover_turnedSeen))), (a_this_cover_spots, .inl (cJ, 384, .inr (.inl c_this_cover_spots)))] sz) := by
  refine Met.ofW (cc := cX7_place) (maxL := 3) (ret := (some .long)) (by decide) rfl ?_
  intro p e s m args below meth c s₁ B hml hv
  obtain ⟨rfl, hsz, hP, hK, hD0⟩ := hv
  have hx := B.exec
  have hb := B.bytes
  have hr := B.returns
  have hts := atoms_spec (ws := wsX7_place) B.pre
  have hown : s.vm.findClass RX7 = some m.cls := findClass_of_methodNamed B.named
  have hlocks := B.notSynchronized
  have hN := hK.2
  subst hsz
  have hD := hD0.self (sz := s.heap.size)
  generalize hAe : va_A [(a_this, .inr (3, [.ref a_this_text, .ref a_this_now, .ref a_this_slots, .ref a_this_cover, .ref a_this_formsSeen])), (a_this_now, .inr (1, [.ref a_this_now_figures, .ref a_this_now_pieces, .ref a_this_now_mayMirror, .int c_this_now_laid])), (a_this_cover, .inr (0, [.ref a_this_cover_spots, .ref a_this_cover_found, .ref a_this_cover_turnedSeen, .ref a_this_cover_chosen, .ref a_this_cover_best, .int c_this_cover_pieces, .int c_this_cover_ways])), (a_this_now_figures, .inl (cJ, 8, .inr (.inl c_this_now_figures))), (a_this_cover_found, .inl (cI, 4, .inl c_this_cover_found)), (a_this_now_mayMirror, .inl (cZ, 4, .inl c_this_now_mayMirror)), (a_this_now_pieces, .inl (cJ, 4, .inr (.inl c_this_now_pieces))), (a_this_cover_turnedSeen, .inl (cJ, 8, .inr (.inl c_this_cover_turnedSeen))), (a_this_cover_spots, .inl (cJ, 384, .inr (.inl c_this_cover_spots)))] s.heap.size = A at hD ⊢
  have hA : ∀ q : Nat, s.heap.size ≤ q → A q := fun q h => by rw [← hAe]; exact Or.inr h
  have hS : va_S A s.heap s.heap [] := va_S.rf
  have hl := lv_entry ([.ref a_this, .int x1, .int x2]) (n := 3) (Nat.le_of_ble_eq_true rfl)
  rw [lg_entry_eq]
  generalize (lg_sl ([.ref a_this, .int x1, .int x2]) ++ List.replicate (3 - (lg_sl ([.ref a_this, .int x1, .int x2])).length) Slot.unset).toArray = ls at hl ⊢
  have hl : lv_has ls 3 [(0, .ref a_this), (1, .int x1), (2, .int x2)] := hl
  refine hk_Q (fun Q hQ => ?_)
  have h := hf
  unfold f_X7_place at h
  refine lv_aload_n hx hb dX7_place_0 rfl (lv_at hl 0 rfl) ?_
  refine lv_iload_n hx hb dX7_place_1 rfl (lv_at hl 1 rfl) ?_
  obtain ⟨r21, hr22, h⟩ := hk_x1 h
  refine vp_callSi (W.runV (As := [.int x1]) (rest := []) ⟨hx, hb, hml, hown, hts⟩ (c_X7_noPiece l D cI cJ cZ cO a_this a_this_text a_this_now a_this_slots a_this_cover a_this_formsSeen a_this_now_figures a_this_now_pieces a_this_now_mayMirror c_this_now_laid x1 _ hr22) (cwV 1 hts gX7_place_X7_noPiece rfl rfl rfl zv_X7_noPiece ⟨Nat.le_of_ble_eq_true rfl, Nat.le_of_ble_eq_true rfl⟩) (hk_preRV 3 rfl (hP.sub (ws' := [(a_this, .inr (3, [.ref a_this_text, .ref a_this_now, .ref a_this_slots, .ref a_this_cover, .ref a_this_formsSeen])), (a_this_now, .inr (1, [.ref a_this_now_figures, .ref a_this_now_pieces, .ref a_this_now_mayMirror, .int c_this_now_laid]))]) [0, 1] rfl) hK rfl) rfl rfl hl.1 rfl (lv_room (Nat.le_of_ble_eq_true rfl)) dX7_place_2 ⟨Nat.zero_le _, Nat.zero_le _⟩) (fun p24 e23 => ?_)
  rw [e23]
  refine lv_if_ne (tgt := 15) hx hb dX7_place_5 (by decide) (fun c25 => ?_) (fun c25 => ?_)
  · replace h := hk_in c25 h
    refine lv_lconst (v := (0 : Int64)) hx hb dX7_place_15 (by decide) ?_
    subst hQ
    have h := Option.some.inj h
    simp only [Prod.mk.injEq] at h
    obtain ⟨rfl, rfl, rfl, rfl⟩ := h
    exact W.lret hx hb hr (fun t ht hW => ⟨⟨_, (), rfl, rfl, by rw [ht]; exact hP, hD⟩, hS.F ht⟩) hS.2.2 dX7_place_16
  replace h := hk_ip c25 h
  refine lv_iload_n hx hb dX7_place_8 rfl (lv_at hl 2 rfl) ?_
  obtain ⟨r26, hr27, h⟩ := hk_x1 h
  refine vp_callSi (W.runS (As := [.int x2]) (rest := []) ⟨hx, hb, hml, hown, hts⟩ (c_X7_noFigure l x2 _ hr27) (va_cwS 1 hts gX7_place_X7_noFigure rfl rfl rfl zs_X7_noFigure ⟨Nat.le_of_ble_eq_true rfl, Nat.le_of_ble_eq_true rfl⟩) ⟨fun _ _ _ _ q => q, fun _ _ _ => ⟨rfl, trivial⟩⟩ rfl rfl hl.1 rfl (lv_room (Nat.le_of_ble_eq_true rfl)) dX7_place_9 ⟨Nat.zero_le _, Nat.zero_le _⟩) (fun p29 e28 => ?_)
  rw [e28]
  refine lv_if_eq (tgt := 17) hx hb dX7_place_12 (by decide) (fun c30 => ?_) (fun c30 => ?_)
  · replace h := hk_ip c30 h
    refine lv_aload_n hx hb dX7_place_17 rfl (lv_at hl 0 rfl) ?_
    refine va_get (D := D) (ci := 3) (v := .ref a_this_cover) (C := RX7) (T := TX7) (N := 5) hx hb hts zi_X7_place_X7 hown hK.1 hP 0 rfl rfl 3 (by decide) (hts (.fieldLink RX7 30 "HalfAndHalfAgain" "cover" "LHalfAndHalfAgain$Cover;") (List.mem_of_getElem? (i := 1) rfl)) (fun _ h9 => h9) rfl dX7_place_18 ?_
    refine lv_aload_n hx hb dX7_place_21 rfl (lv_at hl 0 rfl) ?_
    refine va_get (D := D) (ci := 3) (v := .ref a_this_now) (C := RX7) (T := TX7) (N := 5) hx hb hts zi_X7_place_X7 hown hK.1 hP 0 rfl rfl 1 (by decide) (hts (.fieldLink RX7 19 "HalfAndHalfAgain" "now" "LHalfAndHalfAgain$Store;") (List.mem_of_getElem? (i := 2) rfl)) (fun _ h9 => h9) rfl dX7_place_22 ?_
    refine lv_iload_n hx hb dX7_place_25 rfl (lv_at hl 1 rfl) ?_
    refine lv_aload_n hx hb dX7_place_26 rfl (lv_at hl 0 rfl) ?_
    refine va_get (D := D) (ci := 3) (v := .ref a_this_now) (C := RX7) (T := TX7) (N := 5) hx hb hts zi_X7_place_X7 hown hK.1 hP 0 rfl rfl 1 (by decide) (hts (.fieldLink RX7 19 "HalfAndHalfAgain" "now" "LHalfAndHalfAgain$Store;") (List.mem_of_getElem? (i := 2) rfl)) (fun _ h9 => h9) rfl dX7_place_27 ?_
    refine va_get (D := D) (ci := 1) (v := .ref a_this_now_figures) (C := RX5) (T := TX5) (N := 4) hx hb hts zi_X7_place_X5 hown hK.1 hP 1 rfl rfl 0 (by decide) (hts (.fieldLink RX7 62 "HalfAndHalfAgain$Store" "figures" "[J") (List.mem_of_getElem? (i := 3) rfl)) (fun _ h9 => h9) rfl dX7_place_30 ?_
    refine lv_iload_n hx hb dX7_place_33 rfl (lv_at hl 2 rfl) ?_
    obtain ⟨hi31, h⟩ := hk_ge h
    refine va_lald hx hb hK.1 hP 3 1 rfl rfl (hk_inb_of hi31) dX7_place_34 ?_
    obtain ⟨r32, u33, u34, u35, hr36, h⟩ := hk_x4 h
    have hPc := hP.sub (ws' := [(a_this_cover, .inr (0, [.ref a_this_cover_spots, .ref a_this_cover_found, .ref a_this_cover_turnedSeen, .ref a_this_cover_chosen, .ref a_this_cover_best, .int c_this_cover_pieces, .int c_this_cover_ways])), (a_this_now, .inr (1, [.ref a_this_now_figures, .ref a_this_now_pieces, .ref a_this_now_mayMirror, .int c_this_now_laid])), (a_this_cover_found, .inl (cI, 4, .inl c_this_cover_found)), (a_this_now_mayMirror, .inl (cZ, 4, .inl c_this_now_mayMirror)), (a_this_now_pieces, .inl (cJ, 4, .inr (.inl c_this_now_pieces))), (a_this_cover_turnedSeen, .inl (cJ, 8, .inr (.inl c_this_cover_turnedSeen))), (a_this_cover_spots, .inl (cJ, 384, .inr (.inl c_this_cover_spots)))]) [2, 1, 4, 5, 6, 7, 8] rfl
    have hDc := hD.sub (ws' := [(a_this_cover, .inr (0, [.ref a_this_cover_spots, .ref a_this_cover_found, .ref a_this_cover_turnedSeen, .ref a_this_cover_chosen, .ref a_this_cover_best, .int c_this_cover_pieces, .int c_this_cover_ways])), (a_this_now, .inr (1, [.ref a_this_now_figures, .ref a_this_now_pieces, .ref a_this_now_mayMirror, .int c_this_now_laid])), (a_this_cover_found, .inl (cI, 4, .inl c_this_cover_found)), (a_this_now_mayMirror, .inl (cZ, 4, .inl c_this_now_mayMirror)), (a_this_now_pieces, .inl (cJ, 4, .inr (.inl c_this_now_pieces))), (a_this_cover_turnedSeen, .inl (cJ, 8, .inr (.inl c_this_cover_turnedSeen))), (a_this_cover_spots, .inl (cJ, 384, .inr (.inl c_this_cover_spots)))]) [2, 1, 4, 5, 6, 7, 8] (by decide) rfl
    have hFc := va_free (wc := [(a_this_cover, .inr (0, [.ref a_this_cover_spots, .ref a_this_cover_found, .ref a_this_cover_turnedSeen, .ref a_this_cover_chosen, .ref a_this_cover_best, .int c_this_cover_pieces, .int c_this_cover_ways])), (a_this_now, .inr (1, [.ref a_this_now_figures, .ref a_this_now_pieces, .ref a_this_now_mayMirror, .int c_this_now_laid])), (a_this_cover_found, .inl (cI, 4, .inl c_this_cover_found)), (a_this_now_mayMirror, .inl (cZ, 4, .inl c_this_now_mayMirror)), (a_this_now_pieces, .inl (cJ, 4, .inr (.inl c_this_now_pieces))), (a_this_cover_turnedSeen, .inl (cJ, 8, .inr (.inl c_this_cover_turnedSeen))), (a_this_cover_spots, .inl (cJ, 384, .inr (.inl c_this_cover_spots)))]) hD hS hA [2, 1, 4, 5, 6, 7, 8] rfl
    refine va_calli (va_runV (As := [.ref a_this_now, .int x1, .long (c_this_now_figures x2.toNatClampNeg)]) (rest := []) ⟨hx, hb, hml, hown, hts⟩ (c_X1_findSpots l D cI cJ cZ cO a_this_cover a_this_cover_spots a_this_cover_found a_this_cover_turnedSeen a_this_cover_chosen a_this_cover_best a_this_now a_this_now_figures a_this_now_pieces a_this_now_mayMirror s.heap.size c_this_cover_pieces c_this_cover_ways c_this_now_laid c_this_cover_found c_this_now_mayMirror c_this_now_pieces c_this_cover_turnedSeen c_this_cover_spots x1 (c_this_now_figures x2.toNatClampNeg) _ _ _ _ hr36) (cwV 3 hts gX7_place_X1_findSpots rfl rfl rfl zv_X1_findSpots ⟨Nat.le_of_ble_eq_true rfl, Nat.le_of_ble_eq_true rfl⟩) (hk_preMV 0 rfl hPc hDc hK rfl) rfl rfl hl.1 rfl (lv_room (Nat.le_of_ble_eq_true rfl)) dX7_place_35 ⟨Nat.zero_le _, Nat.zero_le _⟩) hS (fun q _ h9 => hFc q h9) hFc (fun p37 u9 t9 H1 locs ht hvm hw hB hz1 hk1 hS => ?_)
    obtain ⟨hP1, hD1⟩ := hB
    rw [ht] at hP1
    rw [hw]
    obtain ⟨hP, hD⟩ := va_join (wr := [(a_this, .inr (3, [.ref a_this_text, .ref a_this_now, .ref a_this_slots, .ref a_this_cover, .ref a_this_formsSeen])), (a_this_now_figures, .inl (cJ, 8, .inr (.inl c_this_now_figures)))]) (w1 := [(a_this_cover, .inr (0, [.ref a_this_cover_spots, .ref a_this_cover_found, .ref a_this_cover_turnedSeen, .ref a_this_cover_chosen, .ref a_this_cover_best, .int c_this_cover_pieces, .int c_this_cover_ways])), (a_this_now, .inr (1, [.ref a_this_now_figures, .ref a_this_now_pieces, .ref a_this_now_mayMirror, .int c_this_now_laid])), (a_this_cover_found, .inl (cI, 4, .inl u33)), (a_this_now_mayMirror, .inl (cZ, 4, .inl c_this_now_mayMirror)), (a_this_now_pieces, .inl (cJ, 4, .inr (.inl c_this_now_pieces))), (a_this_cover_turnedSeen, .inl (cJ, 8, .inr (.inl u34))), (a_this_cover_spots, .inl (cJ, 384, .inr (.inl u35)))]) hP hD [2, 1, 4, 5, 6, 7, 8] [0, 3] rfl rfl (by decide) (by decide) hk1 hFc hP1 hD1
    generalize H1 = H at hP hS ⊢
    have hP := hP.sub (ws' := [(a_this, .inr (3, [.ref a_this_text, .ref a_this_now, .ref a_this_slots, .ref a_this_cover, .ref a_this_formsSeen])), (a_this_now, .inr (1, [.ref a_this_now_figures, .ref a_this_now_pieces, .ref a_this_now_mayMirror, .int c_this_now_laid])), (a_this_cover, .inr (0, [.ref a_this_cover_spots, .ref a_this_cover_found, .ref a_this_cover_turnedSeen, .ref a_this_cover_chosen, .ref a_this_cover_best, .int c_this_cover_pieces, .int c_this_cover_ways])), (a_this_now_figures, .inl (cJ, 8, .inr (.inl c_this_now_figures))), (a_this_cover_found, .inl (cI, 4, .inl u33)), (a_this_now_mayMirror, .inl (cZ, 4, .inl c_this_now_mayMirror)), (a_this_now_pieces, .inl (cJ, 4, .inr (.inl c_this_now_pieces))), (a_this_cover_turnedSeen, .inl (cJ, 8, .inr (.inl u34))), (a_this_cover_spots, .inl (cJ, 384, .inr (.inl u35)))]) [0, 3, 2, 1, 4, 5, 6, 7, 8] rfl
    have hD := hD.sub (ws' := [(a_this, .inr (3, [.ref a_this_text, .ref a_this_now, .ref a_this_slots, .ref a_this_cover, .ref a_this_formsSeen])), (a_this_now, .inr (1, [.ref a_this_now_figures, .ref a_this_now_pieces, .ref a_this_now_mayMirror, .int c_this_now_laid])), (a_this_cover, .inr (0, [.ref a_this_cover_spots, .ref a_this_cover_found, .ref a_this_cover_turnedSeen, .ref a_this_cover_chosen, .ref a_this_cover_best, .int c_this_cover_pieces, .int c_this_cover_ways])), (a_this_now_figures, .inl (cJ, 8, .inr (.inl c_this_now_figures))), (a_this_cover_found, .inl (cI, 4, .inl u33)), (a_this_now_mayMirror, .inl (cZ, 4, .inl c_this_now_mayMirror)), (a_this_now_pieces, .inl (cJ, 4, .inr (.inl c_this_now_pieces))), (a_this_cover_turnedSeen, .inl (cJ, 8, .inr (.inl u34))), (a_this_cover_spots, .inl (cJ, 384, .inr (.inl u35)))]) [0, 3, 2, 1, 4, 5, 6, 7, 8] (by decide) rfl
    refine lv_pop hx hb dX7_place_38 rfl ?_
    refine lv_aload_n hx hb dX7_place_39 rfl (lv_at hl 0 rfl) ?_
    refine va_get (D := D) (ci := 3) (v := .ref a_this_cover) (C := RX7) (T := TX7) (N := 5) hx hb hts zi_X7_place_X7 hown hK.1 hP 0 rfl rfl 3 (by decide) (hts (.fieldLink RX7 30 "HalfAndHalfAgain" "cover" "LHalfAndHalfAgain$Cover;") (List.mem_of_getElem? (i := 1) rfl)) (fun _ h9 => h9) rfl dX7_place_40 ?_
    refine lv_iload_n hx hb dX7_place_43 rfl (lv_at hl 1 rfl) ?_
    obtain ⟨r38, hr39, h⟩ := hk_x1 h
    refine vp_callSl (W.runV (As := [.int x1]) (rest := []) ⟨hx, hb, hml, hown, hts⟩ (c_X1_leastSpot l D cI cJ cZ cO a_this_cover a_this_cover_spots a_this_cover_found a_this_cover_turnedSeen a_this_cover_chosen a_this_cover_best c_this_cover_pieces c_this_cover_ways u33 u35 x1 _ hr39) (cwV 1 hts gX7_place_X1_leastSpot rfl rfl rfl zv_X1_leastSpot ⟨Nat.le_of_ble_eq_true rfl, Nat.le_of_ble_eq_true rfl⟩) (hk_preRV 0 rfl (hP.sub (ws' := [(a_this_cover, .inr (0, [.ref a_this_cover_spots, .ref a_this_cover_found, .ref a_this_cover_turnedSeen, .ref a_this_cover_chosen, .ref a_this_cover_best, .int c_this_cover_pieces, .int c_this_cover_ways])), (a_this_cover_found, .inl (cI, 4, .inl u33)), (a_this_cover_spots, .inl (cJ, 384, .inr (.inl u35)))]) [2, 4, 8] rfl) hK rfl) rfl rfl hl.1 rfl (lv_room (Nat.le_of_ble_eq_true rfl)) dX7_place_44 ⟨Nat.zero_le _, Nat.zero_le _⟩) (fun p41 e40 => ?_)
    rw [e40]
    subst hQ
    have h := Option.some.inj h
    simp only [Prod.mk.injEq] at h
    obtain ⟨rfl, rfl, rfl, rfl⟩ := h
    exact W.lret hx hb hr (fun t ht hW => ⟨⟨_, (), rfl, rfl, by rw [ht]; exact hP, hD⟩, hS.F ht⟩) hS.2.2 dX7_place_47
  replace h := hk_in c30 h
  refine lv_lconst (v := (0 : Int64)) hx hb dX7_place_15 (by decide) ?_
  subst hQ
  have h := Option.some.inj h
  simp only [Prod.mk.injEq] at h
  obtain ⟨rfl, rfl, rfl, rfl⟩ := h
  exact W.lret hx hb hr (fun t ht hW => ⟨⟨_, (), rfl, rfl, by rw [ht]; exact hP, hD⟩, hS.F ht⟩) hS.2.2 dX7_place_16
