/-! walks printed by wip/whole/gen.py: J13.* X0_.* -/
theorem zs_X0_square : yX0_square.cls ≠ "java/lang/invoke/MethodHandle" ∧ yX0_square.cls ≠ "java/lang/invoke/VarHandle" ∧ (parseMethodDescriptor yX0_square.desc).map (fun d => d.parameters.length) = some 2 := by decide +kernel
def f_X0_square   (x0 : Int64) (x2 : Int32) : Option Int32 := some ((((hk_ushr x0 ((4 : Int32) * x2))).toInt32) &&& (15 : Int32))
set_option maxHeartbeats 8000000 in
set_option maxRecDepth 100000 in
theorem c_X0_square (l : Launch) (x0 : Int64) (x2 : Int32) (rv : Int32) (hf : f_X0_square x0 x2 = some rv) : Met l yX0_square wsX0_square ({ frames := 0, cells := 0, slots := 0, locals := 0 }) (va_Pc [.long x0, .int x2] (fun _ => True)) (vp_Si (fun r => r = rv)) 0 0 (fun _ => False) := by
  refine Met.ofW (cc := cX0_square) (maxL := 3) (ret := (some .int)) (by decide) rfl ?_
  intro p e s m args below meth c s₁ B hml hv
  obtain ⟨rfl, -⟩ := hv
  have hx := B.exec
  have hb := B.bytes
  have hr := B.returns
  have hts := atoms_spec (ws := wsX0_square) B.pre
  have hown : s.vm.findClass RX0 = some m.cls := findClass_of_methodNamed B.named
  have hlocks := B.notSynchronized
  have hl := lv_entry ([.long x0, .int x2]) (n := 3) (Nat.le_of_ble_eq_true rfl)
  rw [lg_entry_eq]
  generalize (lg_sl ([.long x0, .int x2]) ++ List.replicate (3 - (lg_sl ([.long x0, .int x2])).length) Slot.unset).toArray = ls at hl ⊢
  have hl : lv_has ls 3 [(0, .long x0), (2, .int x2)] := hl
  refine hk_Q (fun Q hQ => ?_)
  have h := hf
  unfold f_X0_square at h
  refine lv_lload_n hx hb dX0_square_0 rfl (lv_at hl 0 rfl) ?_
  refine lv_iconst (v := (4 : Int32)) hx hb dX0_square_1 (by decide) ?_
  refine lv_iload_n hx hb dX0_square_2 rfl (lv_at hl 1 rfl) ?_
  refine lv_imul hx hb dX0_square_3 ?_
  refine lv_lushr (v := (hk_ushr x0 ((4 : Int32) * x2))) hx hb dX0_square_4 rfl ?_
  refine lv_l2i (v := (((hk_ushr x0 ((4 : Int32) * x2))).toInt32)) hx hb dX0_square_5 rfl ?_
  refine lv_bipush (v := (15 : Int32)) hx hb dX0_square_6 (by decide) ?_
  refine lv_iand hx hb dX0_square_8 ?_
  subst hQ
  exact W.iret hx hb hr (fun t ht hW => ⟨_, rfl, Option.some.inj h, ht⟩) (fun _ h9 => by cases h9) dX0_square_9
theorem zs_X0_nextInSquare : yX0_nextInSquare.cls ≠ "java/lang/invoke/MethodHandle" ∧ yX0_nextInSquare.cls ≠ "java/lang/invoke/VarHandle" ∧ (parseMethodDescriptor yX0_nextInSquare.desc).map (fun d => d.parameters.length) = some 1 := by decide +kernel
def f_X0_nextInSquare   (x0 : Int64) : Option Int64 := some ((hk_shl (x0 &&& (8608480567731124087 : Int64)) (1 : Int32)) ||| (hk_ushr (x0 &&& (-8608480567731124088 : Int64)) (3 : Int32)))
set_option maxHeartbeats 8000000 in
set_option maxRecDepth 100000 in
theorem c_X0_nextInSquare (l : Launch) (x0 : Int64) (rv : Int64) (hf : f_X0_nextInSquare x0 = some rv) : Met l yX0_nextInSquare wsX0_nextInSquare ({ frames := 0, cells := 0, slots := 0, locals := 0 }) (va_Pc [.long x0] (fun _ => True)) (vp_Sl (fun r => r = rv)) 0 0 (fun _ => False) := by
  refine Met.ofW (cc := cX0_nextInSquare) (maxL := 2) (ret := (some .long)) (by decide) rfl ?_
  intro p e s m args below meth c s₁ B hml hv
  obtain ⟨rfl, -⟩ := hv
  have hx := B.exec
  have hb := B.bytes
  have hr := B.returns
  have hts := atoms_spec (ws := wsX0_nextInSquare) B.pre
  have hown : s.vm.findClass RX0 = some m.cls := findClass_of_methodNamed B.named
  have hlocks := B.notSynchronized
  have hl := lv_entry ([.long x0]) (n := 2) (Nat.le_of_ble_eq_true rfl)
  rw [lg_entry_eq]
  generalize (lg_sl ([.long x0]) ++ List.replicate (2 - (lg_sl ([.long x0])).length) Slot.unset).toArray = ls at hl ⊢
  have hl : lv_has ls 2 [(0, .long x0)] := hl
  refine hk_Q (fun Q hQ => ?_)
  have h := hf
  unfold f_X0_nextInSquare at h
  refine lv_lload_n hx hb dX0_nextInSquare_0 rfl (lv_at hl 0 rfl) ?_
  refine lv_ldc2 (v := (8608480567731124087 : Int64)) hx hb hown (hts (.constantLong RX0 11 (8608480567731124087)) (List.mem_of_getElem? (i := 1) rfl)) dX0_nextInSquare_1 ?_
  refine lv_land hx hb dX0_nextInSquare_4 ?_
  refine lv_iconst (v := (1 : Int32)) hx hb dX0_nextInSquare_5 (by decide) ?_
  refine lv_lshl (v := (hk_shl (x0 &&& (8608480567731124087 : Int64)) (1 : Int32))) hx hb dX0_nextInSquare_6 rfl ?_
  refine lv_lload_n hx hb dX0_nextInSquare_7 rfl (lv_at hl 0 rfl) ?_
  refine lv_ldc2 (v := (-8608480567731124088 : Int64)) hx hb hown (hts (.constantLong RX0 13 (-8608480567731124088)) (List.mem_of_getElem? (i := 2) rfl)) dX0_nextInSquare_8 ?_
  refine lv_land hx hb dX0_nextInSquare_11 ?_
  refine lv_iconst (v := (3 : Int32)) hx hb dX0_nextInSquare_12 (by decide) ?_
  refine lv_lushr (v := (hk_ushr (x0 &&& (-8608480567731124088 : Int64)) (3 : Int32))) hx hb dX0_nextInSquare_13 rfl ?_
  refine lv_lor hx hb dX0_nextInSquare_14 ?_
  subst hQ
  exact W.lret hx hb hr (fun t ht hW => ⟨_, rfl, Option.some.inj h, ht⟩) (fun _ h9 => by cases h9) dX0_nextInSquare_15
theorem zs_X0_lastInSquare : yX0_lastInSquare.cls ≠ "java/lang/invoke/MethodHandle" ∧ yX0_lastInSquare.cls ≠ "java/lang/invoke/VarHandle" ∧ (parseMethodDescriptor yX0_lastInSquare.desc).map (fun d => d.parameters.length) = some 1 := by decide +kernel
def f_X0_lastInSquare   (x0 : Int64) : Option Int64 := some ((hk_ushr (x0 &&& (-1229782938247303442 : Int64)) (1 : Int32)) ||| (hk_shl (x0 &&& (1229782938247303441 : Int64)) (3 : Int32)))
set_option maxHeartbeats 8000000 in
set_option maxRecDepth 100000 in
theorem c_X0_lastInSquare (l : Launch) (x0 : Int64) (rv : Int64) (hf : f_X0_lastInSquare x0 = some rv) : Met l yX0_lastInSquare wsX0_lastInSquare ({ frames := 0, cells := 0, slots := 0, locals := 0 }) (va_Pc [.long x0] (fun _ => True)) (vp_Sl (fun r => r = rv)) 0 0 (fun _ => False) := by
  refine Met.ofW (cc := cX0_lastInSquare) (maxL := 2) (ret := (some .long)) (by decide) rfl ?_
  intro p e s m args below meth c s₁ B hml hv
  obtain ⟨rfl, -⟩ := hv
  have hx := B.exec
  have hb := B.bytes
  have hr := B.returns
  have hts := atoms_spec (ws := wsX0_lastInSquare) B.pre
  have hown : s.vm.findClass RX0 = some m.cls := findClass_of_methodNamed B.named
  have hlocks := B.notSynchronized
  have hl := lv_entry ([.long x0]) (n := 2) (Nat.le_of_ble_eq_true rfl)
  rw [lg_entry_eq]
  generalize (lg_sl ([.long x0]) ++ List.replicate (2 - (lg_sl ([.long x0])).length) Slot.unset).toArray = ls at hl ⊢
  have hl : lv_has ls 2 [(0, .long x0)] := hl
  refine hk_Q (fun Q hQ => ?_)
  have h := hf
  unfold f_X0_lastInSquare at h
  refine lv_lload_n hx hb dX0_lastInSquare_0 rfl (lv_at hl 0 rfl) ?_
  refine lv_ldc2 (v := (-1229782938247303442 : Int64)) hx hb hown (hts (.constantLong RX0 15 (-1229782938247303442)) (List.mem_of_getElem? (i := 1) rfl)) dX0_lastInSquare_1 ?_
  refine lv_land hx hb dX0_lastInSquare_4 ?_
  refine lv_iconst (v := (1 : Int32)) hx hb dX0_lastInSquare_5 (by decide) ?_
  refine lv_lushr (v := (hk_ushr (x0 &&& (-1229782938247303442 : Int64)) (1 : Int32))) hx hb dX0_lastInSquare_6 rfl ?_
  refine lv_lload_n hx hb dX0_lastInSquare_7 rfl (lv_at hl 0 rfl) ?_
  refine lv_ldc2 (v := (1229782938247303441 : Int64)) hx hb hown (hts (.constantLong RX0 17 (1229782938247303441)) (List.mem_of_getElem? (i := 2) rfl)) dX0_lastInSquare_8 ?_
  refine lv_land hx hb dX0_lastInSquare_11 ?_
  refine lv_iconst (v := (3 : Int32)) hx hb dX0_lastInSquare_12 (by decide) ?_
  refine lv_lshl (v := (hk_shl (x0 &&& (1229782938247303441 : Int64)) (3 : Int32))) hx hb dX0_lastInSquare_13 rfl ?_
  refine lv_lor hx hb dX0_lastInSquare_14 ?_
  subst hQ
  exact W.lret hx hb hr (fun t ht hW => ⟨_, rfl, Option.some.inj h, ht⟩) (fun _ h9 => by cases h9) dX0_lastInSquare_15
theorem zs_X0_acrossSides : yX0_acrossSides.cls ≠ "java/lang/invoke/MethodHandle" ∧ yX0_acrossSides.cls ≠ "java/lang/invoke/VarHandle" ∧ (parseMethodDescriptor yX0_acrossSides.desc).map (fun d => d.parameters.length) = some 1 := by decide +kernel
def f_X0_acrossSides   (x0 : Int64) : Option Int64 := some ((((hk_shl ((x0 &&& (2459565876494606882 : Int64)) &&& (1152657617789587455 : Int64)) (6 : Int32)) ||| (hk_ushr ((x0 &&& (-8608480567731124088 : Int64)) &&& (-4222189076152336 : Int64)) (6 : Int32))) ||| (hk_shl (x0 &&& (4919131752989213764 : Int64)) (14 : Int32))) ||| (hk_ushr (x0 &&& (1229782938247303441 : Int64)) (14 : Int32)))
set_option maxHeartbeats 8000000 in
set_option maxRecDepth 100000 in
theorem c_X0_acrossSides (l : Launch) (x0 : Int64) (rv : Int64) (hf : f_X0_acrossSides x0 = some rv) : Met l yX0_acrossSides wsX0_acrossSides ({ frames := 0, cells := 0, slots := 0, locals := 0 }) (va_Pc [.long x0] (fun _ => True)) (vp_Sl (fun r => r = rv)) 0 0 (fun _ => False) := by
  refine Met.ofW (cc := cX0_acrossSides) (maxL := 2) (ret := (some .long)) (by decide) rfl ?_
  intro p e s m args below meth c s₁ B hml hv
  obtain ⟨rfl, -⟩ := hv
  have hx := B.exec
  have hb := B.bytes
  have hr := B.returns
  have hts := atoms_spec (ws := wsX0_acrossSides) B.pre
  have hown : s.vm.findClass RX0 = some m.cls := findClass_of_methodNamed B.named
  have hlocks := B.notSynchronized
  have hl := lv_entry ([.long x0]) (n := 2) (Nat.le_of_ble_eq_true rfl)
  rw [lg_entry_eq]
  generalize (lg_sl ([.long x0]) ++ List.replicate (2 - (lg_sl ([.long x0])).length) Slot.unset).toArray = ls at hl ⊢
  have hl : lv_has ls 2 [(0, .long x0)] := hl
  refine hk_Q (fun Q hQ => ?_)
  have h := hf
  unfold f_X0_acrossSides at h
  refine lv_lload_n hx hb dX0_acrossSides_0 rfl (lv_at hl 0 rfl) ?_
  refine lv_ldc2 (v := (2459565876494606882 : Int64)) hx hb hown (hts (.constantLong RX0 19 (2459565876494606882)) (List.mem_of_getElem? (i := 1) rfl)) dX0_acrossSides_1 ?_
  refine lv_land hx hb dX0_acrossSides_4 ?_
  refine lv_ldc2 (v := (1152657617789587455 : Int64)) hx hb hown (hts (.constantLong RX0 21 (1152657617789587455)) (List.mem_of_getElem? (i := 2) rfl)) dX0_acrossSides_5 ?_
  refine lv_land hx hb dX0_acrossSides_8 ?_
  refine lv_bipush (v := (6 : Int32)) hx hb dX0_acrossSides_9 (by decide) ?_
  refine lv_lshl (v := (hk_shl ((x0 &&& (2459565876494606882 : Int64)) &&& (1152657617789587455 : Int64)) (6 : Int32))) hx hb dX0_acrossSides_11 rfl ?_
  refine lv_lload_n hx hb dX0_acrossSides_12 rfl (lv_at hl 0 rfl) ?_
  refine lv_ldc2 (v := (-8608480567731124088 : Int64)) hx hb hown (hts (.constantLong RX0 13 (-8608480567731124088)) (List.mem_of_getElem? (i := 3) rfl)) dX0_acrossSides_13 ?_
  refine lv_land hx hb dX0_acrossSides_16 ?_
  refine lv_ldc2 (v := (-4222189076152336 : Int64)) hx hb hown (hts (.constantLong RX0 23 (-4222189076152336)) (List.mem_of_getElem? (i := 4) rfl)) dX0_acrossSides_17 ?_
  refine lv_land hx hb dX0_acrossSides_20 ?_
  refine lv_bipush (v := (6 : Int32)) hx hb dX0_acrossSides_21 (by decide) ?_
  refine lv_lushr (v := (hk_ushr ((x0 &&& (-8608480567731124088 : Int64)) &&& (-4222189076152336 : Int64)) (6 : Int32))) hx hb dX0_acrossSides_23 rfl ?_
  refine lv_lor hx hb dX0_acrossSides_24 ?_
  refine lv_lload_n hx hb dX0_acrossSides_25 rfl (lv_at hl 0 rfl) ?_
  refine lv_ldc2 (v := (4919131752989213764 : Int64)) hx hb hown (hts (.constantLong RX0 25 (4919131752989213764)) (List.mem_of_getElem? (i := 5) rfl)) dX0_acrossSides_26 ?_
  refine lv_land hx hb dX0_acrossSides_29 ?_
  refine lv_bipush (v := (14 : Int32)) hx hb dX0_acrossSides_30 (by decide) ?_
  refine lv_lshl (v := (hk_shl (x0 &&& (4919131752989213764 : Int64)) (14 : Int32))) hx hb dX0_acrossSides_32 rfl ?_
  refine lv_lor hx hb dX0_acrossSides_33 ?_
  refine lv_lload_n hx hb dX0_acrossSides_34 rfl (lv_at hl 0 rfl) ?_
  refine lv_ldc2 (v := (1229782938247303441 : Int64)) hx hb hown (hts (.constantLong RX0 17 (1229782938247303441)) (List.mem_of_getElem? (i := 6) rfl)) dX0_acrossSides_35 ?_
  refine lv_land hx hb dX0_acrossSides_38 ?_
  refine lv_bipush (v := (14 : Int32)) hx hb dX0_acrossSides_39 (by decide) ?_
  refine lv_lushr (v := (hk_ushr (x0 &&& (1229782938247303441 : Int64)) (14 : Int32))) hx hb dX0_acrossSides_41 rfl ?_
  refine lv_lor hx hb dX0_acrossSides_42 ?_
  subst hQ
  exact W.lret hx hb hr (fun t ht hW => ⟨_, rfl, Option.some.inj h, ht⟩) (fun _ h9 => by cases h9) dX0_acrossSides_43
theorem zs_X0_neighbours : yX0_neighbours.cls ≠ "java/lang/invoke/MethodHandle" ∧ yX0_neighbours.cls ≠ "java/lang/invoke/VarHandle" ∧ (parseMethodDescriptor yX0_neighbours.desc).map (fun d => d.parameters.length) = some 1 := by decide +kernel
def f_X0_neighbours   (x0 : Int64) : Option Int64 := hk_b1 (f_X0_nextInSquare x0) fun r21 => hk_b1 (f_X0_lastInSquare x0) fun r25 => hk_b1 (f_X0_acrossSides x0) fun r29 => some ((r21 ||| r25) ||| r29)
set_option maxHeartbeats 8000000 in
set_option maxRecDepth 100000 in
theorem c_X0_neighbours (l : Launch) (x0 : Int64) (rv : Int64) (hf : f_X0_neighbours x0 = some rv) : Met l yX0_neighbours wsX0_neighbours ({ frames := 1, cells := 0, slots := 0, locals := 21 }) (va_Pc [.long x0] (fun _ => True)) (vp_Sl (fun r => r = rv)) 0 0 (fun _ => False) := by
  refine Met.ofW (cc := cX0_neighbours) (maxL := 2) (ret := (some .long)) (by decide) rfl ?_
  intro p e s m args below meth c s₁ B hml hv
  obtain ⟨rfl, -⟩ := hv
  have hx := B.exec
  have hb := B.bytes
  have hr := B.returns
  have hts := atoms_spec (ws := wsX0_neighbours) B.pre
  have hown : s.vm.findClass RX0 = some m.cls := findClass_of_methodNamed B.named
  have hlocks := B.notSynchronized
  have hl := lv_entry ([.long x0]) (n := 2) (Nat.le_of_ble_eq_true rfl)
  rw [lg_entry_eq]
  generalize (lg_sl ([.long x0]) ++ List.replicate (2 - (lg_sl ([.long x0])).length) Slot.unset).toArray = ls at hl ⊢
  have hl : lv_has ls 2 [(0, .long x0)] := hl
  refine hk_Q (fun Q hQ => ?_)
  have h := hf
  unfold f_X0_neighbours at h
  refine lv_lload_n hx hb dX0_neighbours_0 rfl (lv_at hl 0 rfl) ?_
  obtain ⟨r21, hr22, h⟩ := hk_x1 h
  refine vp_callSl (W.runS (As := [.long x0]) (rest := []) ⟨hx, hb, hml, hown, hts⟩ (c_X0_nextInSquare l x0 _ hr22) (va_cwS 1 hts gX0_neighbours_X0_nextInSquare rfl rfl rfl zs_X0_nextInSquare ⟨Nat.le_of_ble_eq_true rfl, Nat.le_of_ble_eq_true rfl⟩) ⟨fun _ _ _ _ q => q, fun _ _ _ => ⟨rfl, trivial⟩⟩ rfl rfl hl.1 rfl (lv_room (Nat.le_of_ble_eq_true rfl)) dX0_neighbours_1 ⟨Nat.zero_le _, Nat.zero_le _⟩) (fun p24 e23 => ?_)
  rw [e23]
  refine lv_lload_n hx hb dX0_neighbours_4 rfl (lv_at hl 0 rfl) ?_
  obtain ⟨r25, hr26, h⟩ := hk_x1 h
  refine vp_callSl (W.runS (As := [.long x0]) (rest := [.long r21]) ⟨hx, hb, hml, hown, hts⟩ (c_X0_lastInSquare l x0 _ hr26) (va_cwS 1 hts gX0_neighbours_X0_lastInSquare rfl rfl rfl zs_X0_lastInSquare ⟨Nat.le_of_ble_eq_true rfl, Nat.le_of_ble_eq_true rfl⟩) ⟨fun _ _ _ _ q => q, fun _ _ _ => ⟨rfl, trivial⟩⟩ rfl rfl hl.1 rfl (lv_room (Nat.le_of_ble_eq_true rfl)) dX0_neighbours_5 ⟨Nat.zero_le _, Nat.zero_le _⟩) (fun p28 e27 => ?_)
  rw [e27]
  refine lv_lor hx hb dX0_neighbours_8 ?_
  refine lv_lload_n hx hb dX0_neighbours_9 rfl (lv_at hl 0 rfl) ?_
  obtain ⟨r29, hr30, h⟩ := hk_x1 h
  refine vp_callSl (W.runS (As := [.long x0]) (rest := [.long (r21 ||| r25)]) ⟨hx, hb, hml, hown, hts⟩ (c_X0_acrossSides l x0 _ hr30) (va_cwS 1 hts gX0_neighbours_X0_acrossSides rfl rfl rfl zs_X0_acrossSides ⟨Nat.le_of_ble_eq_true rfl, Nat.le_of_ble_eq_true rfl⟩) ⟨fun _ _ _ _ q => q, fun _ _ _ => ⟨rfl, trivial⟩⟩ rfl rfl hl.1 rfl (lv_room (Nat.le_of_ble_eq_true rfl)) dX0_neighbours_10 ⟨Nat.zero_le _, Nat.zero_le _⟩) (fun p32 e31 => ?_)
  rw [e31]
  refine lv_lor hx hb dX0_neighbours_13 ?_
  subst hQ
  exact W.lret hx hb hr (fun t ht hW => ⟨_, rfl, Option.some.inj h, ht⟩) (fun _ h9 => by cases h9) dX0_neighbours_14
theorem zs_X0_around : yX0_around.cls ≠ "java/lang/invoke/MethodHandle" ∧ yX0_around.cls ≠ "java/lang/invoke/VarHandle" ∧ (parseMethodDescriptor yX0_around.desc).map (fun d => d.parameters.length) = some 1 := by decide +kernel
def f_X0_around   (x0 : Int64) : Option Int64 := hk_b1 (f_X0_neighbours x0) fun r21 => some (r21 &&& (x0 ^^^ (-1 : Int64)))
set_option maxHeartbeats 8000000 in
set_option maxRecDepth 100000 in
theorem c_X0_around (l : Launch) (x0 : Int64) (rv : Int64) (hf : f_X0_around x0 = some rv) : Met l yX0_around wsX0_around ({ frames := 2, cells := 0, slots := 0, locals := 42 }) (va_Pc [.long x0] (fun _ => True)) (vp_Sl (fun r => r = rv)) 0 0 (fun _ => False) := by
  refine Met.ofW (cc := cX0_around) (maxL := 2) (ret := (some .long)) (by decide) rfl ?_
  intro p e s m args below meth c s₁ B hml hv
  obtain ⟨rfl, -⟩ := hv
  have hx := B.exec
  have hb := B.bytes
  have hr := B.returns
  have hts := atoms_spec (ws := wsX0_around) B.pre
  have hown : s.vm.findClass RX0 = some m.cls := findClass_of_methodNamed B.named
  have hlocks := B.notSynchronized
  have hl := lv_entry ([.long x0]) (n := 2) (Nat.le_of_ble_eq_true rfl)
  rw [lg_entry_eq]
  generalize (lg_sl ([.long x0]) ++ List.replicate (2 - (lg_sl ([.long x0])).length) Slot.unset).toArray = ls at hl ⊢
  have hl : lv_has ls 2 [(0, .long x0)] := hl
  refine hk_Q (fun Q hQ => ?_)
  have h := hf
  unfold f_X0_around at h
  refine lv_lload_n hx hb dX0_around_0 rfl (lv_at hl 0 rfl) ?_
  obtain ⟨r21, hr22, h⟩ := hk_x1 h
  refine vp_callSl (W.runS (As := [.long x0]) (rest := []) ⟨hx, hb, hml, hown, hts⟩ (c_X0_neighbours l x0 _ hr22) (va_cwS 1 hts gX0_around_X0_neighbours rfl rfl rfl zs_X0_neighbours ⟨Nat.le_of_ble_eq_true rfl, Nat.le_of_ble_eq_true rfl⟩) ⟨fun _ _ _ _ q => q, fun _ _ _ => ⟨rfl, trivial⟩⟩ rfl rfl hl.1 rfl (lv_room (Nat.le_of_ble_eq_true rfl)) dX0_around_1 ⟨Nat.zero_le _, Nat.zero_le _⟩) (fun p24 e23 => ?_)
  rw [e23]
  refine lv_lload_n hx hb dX0_around_4 rfl (lv_at hl 0 rfl) ?_
  refine lv_ldc2 (v := (-1 : Int64)) hx hb hown (hts (.constantLong RX0 40 (-1)) (List.mem_of_getElem? (i := 1) rfl)) dX0_around_5 ?_
  refine lv_lxor hx hb dX0_around_8 ?_
  refine lv_land hx hb dX0_around_9 ?_
  subst hQ
  exact W.lret hx hb hr (fun t ht hW => ⟨_, rfl, Option.some.inj h, ht⟩) (fun _ h9 => by cases h9) dX0_around_10
theorem zs_X0_partFrom : yX0_partFrom.cls ≠ "java/lang/invoke/MethodHandle" ∧ yX0_partFrom.cls ≠ "java/lang/invoke/VarHandle" ∧ (parseMethodDescriptor yX0_partFrom.desc).map (fun d => d.parameters.length) = some 2 := by decide +kernel
def st_X0_partFrom_8c (x2 : Int64) (y23 : Int64) (y24 : Int32) : Option ((Int64 × Int32) ⊕ (Int64 ⊕ Int64)) := if (64 : Int32) ≤ y24 then (some (.inr (.inr y23))) else (hk_b1 (f_X0_neighbours y23) fun r26 => hk_let ((y23 ||| r26) &&& x2) fun x30 => if x30 = y23 then (some (.inr (.inl y23))) else (hk_let (y24 + (1 : Int32)) fun x32 => some (.inl (x30, x32))))
def st_X0_partFrom_8 (x2 : Int64) (t9 : (Int64 × Int32)) : Option ((Int64 × Int32) ⊕ (Int64 ⊕ Int64)) := st_X0_partFrom_8c x2 t9.1 t9.2
def f_X0_partFrom   (x0 : Int64) (x2 : Int64) : Option Int64 := hk_let (x0 &&& x2) fun x21 => hk_b1 (hk_wl (st_X0_partFrom_8 x2) hkF (x21, (0 : Int32))) fun r34 => hk_sum r34 (fun z37 => some z37) (fun z38 => some z38)
set_option maxHeartbeats 8000000 in
set_option maxRecDepth 100000 in
theorem c_X0_partFrom (l : Launch) (x0 : Int64) (x2 : Int64) (rv : Int64) (hf : f_X0_partFrom x0 x2 = some rv) : Met l yX0_partFrom wsX0_partFrom ({ frames := 2, cells := 0, slots := 0, locals := 42 }) (va_Pc [.long x0, .long x2] (fun _ => True)) (vp_Sl (fun r => r = rv)) 0 0 (fun _ => False) := by
  refine Met.ofW (cc := cX0_partFrom) (maxL := 9) (ret := (some .long)) (by decide) rfl ?_
  intro p e s m args below meth c s₁ B hml hv
  obtain ⟨rfl, -⟩ := hv
  have hx := B.exec
  have hb := B.bytes
  have hr := B.returns
  have hts := atoms_spec (ws := wsX0_partFrom) B.pre
  have hown : s.vm.findClass RX0 = some m.cls := findClass_of_methodNamed B.named
  have hlocks := B.notSynchronized
  have hl := lv_entry ([.long x0, .long x2]) (n := 9) (Nat.le_of_ble_eq_true rfl)
  rw [lg_entry_eq]
  generalize (lg_sl ([.long x0, .long x2]) ++ List.replicate (9 - (lg_sl ([.long x0, .long x2])).length) Slot.unset).toArray = ls at hl ⊢
  have hl : lv_has ls 9 [(0, .long x0), (2, .long x2)] := hl
  refine hk_Q (fun Q hQ => ?_)
  have h := hf
  unfold f_X0_partFrom at h
  refine lv_lload_n hx hb dX0_partFrom_0 rfl (lv_at hl 0 rfl) ?_
  refine lv_lload_n hx hb dX0_partFrom_1 rfl (lv_at hl 1 rfl) ?_
  refine lv_land hx hb dX0_partFrom_2 ?_
  obtain ⟨x21, ex21, h⟩ := hk_le h
  refine hk_tl ex21 ?_
  refine lv_lstore (lv' := [(4, .long x21), (0, .long x0), (2, .long x2)]) hx hb dX0_partFrom_3 hl (by decide) rfl (fun ls hl => ?_)
  refine lv_iconst (v := (0 : Int32)) hx hb dX0_partFrom_5 (by decide) ?_
  refine lv_istore (lv' := [(6, .int (0 : Int32)), (4, .long x21), (0, .long x0), (2, .long x2)]) hx hb dX0_partFrom_6 hl (by decide) rfl (fun ls hl => ?_)
  obtain ⟨r34, hr33, h⟩ := hk_x1 h
  refine hk_loopR (f := st_X0_partFrom_8 x2) (hd := 8) (nL := 9) (lv := fun t9 => [(2, .long x2), (4, .long t9.1), (6, .int t9.2)]) (xs := fun r9 => match r9 with | .inl t9 => (35, [(4, .long t9)], []) | .inr t9 => (48, [(4, .long t9)], [])) ?_ hr33 ?_ (lv_sub hl [3, 1, 0] rfl)
  · intro t35 q36 k22 hck22 hqk22 ls hl
    obtain ⟨y23, y24⟩ := t35
    have k22 : st_X0_partFrom_8c x2 y23 y24 = some q36 := k22
    unfold st_X0_partFrom_8c at k22
    have hl : lv_has ls 9 [(2, .long x2), (4, .long y23), (6, .int y24)] := hl
    refine lv_iload hx hb dX0_partFrom_8 (lv_at hl 2 rfl) ?_
    refine lv_bipush (v := (64 : Int32)) hx hb dX0_partFrom_10 (by decide) ?_
    refine lv_icmp_ge (tgt := 48) hx hb dX0_partFrom_12 (by decide) (fun c25 => ?_) (fun c25 => ?_)
    · replace k22 := hk_ip c25 k22
      exact hqk22 (.inr y23) (Option.some.inj k22).symm ls (lv_sub hl [1] rfl)
    replace k22 := hk_in c25 k22
    refine lv_lload hx hb dX0_partFrom_15 (lv_at hl 1 rfl) ?_
    refine lv_lload hx hb dX0_partFrom_17 (lv_at hl 1 rfl) ?_
    obtain ⟨r26, hr27, k22⟩ := hk_x1 k22
    refine vp_callSl (W.runS (As := [.long y23]) (rest := [.long y23]) ⟨hx, hb, hml, hown, hts⟩ (c_X0_neighbours l y23 _ hr27) (va_cwS 1 hts gX0_partFrom_X0_neighbours rfl rfl rfl zs_X0_neighbours ⟨Nat.le_of_ble_eq_true rfl, Nat.le_of_ble_eq_true rfl⟩) ⟨fun _ _ _ _ q => q, fun _ _ _ => ⟨rfl, trivial⟩⟩ rfl rfl hl.1 rfl (lv_room (Nat.le_of_ble_eq_true rfl)) dX0_partFrom_19 ⟨Nat.zero_le _, Nat.zero_le _⟩) (fun p29 e28 => ?_)
    rw [e28]
    refine lv_lor hx hb dX0_partFrom_22 ?_
    refine lv_lload_n hx hb dX0_partFrom_23 rfl (lv_at hl 0 rfl) ?_
    refine lv_land hx hb dX0_partFrom_24 ?_
    obtain ⟨x30, ex30, k22⟩ := hk_le k22
    refine hk_tl ex30 ?_
    refine lv_lstore (lv' := [(7, .long x30), (2, .long x2), (4, .long y23), (6, .int y24)]) hx hb dX0_partFrom_25 hl (by decide) rfl (fun ls hl => ?_)
    refine lv_lload hx hb dX0_partFrom_27 (lv_at hl 0 rfl) ?_
    refine lv_lload hx hb dX0_partFrom_29 (lv_at hl 2 rfl) ?_
    refine hk_lcmp_ne (tgt := 38) hx hb dX0_partFrom_31 dX0_partFrom_32 (by decide) (fun c31 => ?_) (fun c31 => ?_)
    · replace k22 := hk_in c31 k22
      refine lv_lload hx hb dX0_partFrom_38 (lv_at hl 0 rfl) ?_
      refine lv_lstore (lv' := [(4, .long x30), (7, .long x30), (2, .long x2), (6, .int y24)]) hx hb dX0_partFrom_40 hl (by decide) rfl (fun ls hl => ?_)
      obtain ⟨x32, ex32, k22⟩ := hk_le k22
      refine lv_iinc (v := x32) (lv' := [(6, .int x32), (4, .long x30), (7, .long x30), (2, .long x2)]) hx hb dX0_partFrom_42 hl (k := 3) rfl (by rw [ex32]; rfl) (by decide) rfl (fun ls hl => ?_)
      refine lv_goto (tgt := 8) hx hb dX0_partFrom_45 (by decide) ?_
      exact hck22 (x30, x32) (Option.some.inj k22).symm ls (lv_sub hl [3, 1, 0] rfl)
    replace k22 := hk_ip c31 k22
    exact hqk22 (.inl y23) (Option.some.inj k22).symm ls (lv_sub hl [2] rfl)
  intro ls hl
  rcases r34 with r34 | r34
  · replace h := hk_sa h
    generalize r34 = z37 at h hl ⊢
    have hl : lv_has ls 9 [(4, .long z37)] := hl
    show W _ _ _ _ _ _ _ _ _ _ _ _ _ _ _ (F0 m 35 ls [])
    refine lv_lload hx hb dX0_partFrom_35 (lv_at hl 0 rfl) ?_
    subst hQ
    exact W.lret hx hb hr (fun t ht hW => ⟨_, rfl, Option.some.inj h, ht⟩) (fun _ h9 => by cases h9) dX0_partFrom_37
  · replace h := hk_sb h
    generalize r34 = z38 at h hl ⊢
    have hl : lv_has ls 9 [(4, .long z38)] := hl
    show W _ _ _ _ _ _ _ _ _ _ _ _ _ _ _ (F0 m 48 ls [])
    refine lv_lload hx hb dX0_partFrom_48 (lv_at hl 0 rfl) ?_
    subst hQ
    exact W.lret hx hb hr (fun t ht hW => ⟨_, rfl, Option.some.inj h, ht⟩) (fun _ h9 => by cases h9) dX0_partFrom_50
theorem zs_X0_countParts : yX0_countParts.cls ≠ "java/lang/invoke/MethodHandle" ∧ yX0_countParts.cls ≠ "java/lang/invoke/VarHandle" ∧ (parseMethodDescriptor yX0_countParts.desc).map (fun d => d.parameters.length) = some 1 := by decide +kernel
def st_X0_countParts_8c  (y22 : Int64) (y23 : Int32) (y24 : Int32) : Option ((Int64 × Int32 × Int32) ⊕ Int32) := if (64 : Int32) ≤ y24 then (some (.inr y23)) else (if y22 = (0 : Int64) then (some (.inr y23)) else (hk_b1 (f_X0_partFrom (y22 &&& (-y22)) y22) fun r27 => hk_let (y22 &&& (r27 ^^^ (-1 : Int64))) fun x31 => hk_let (y23 + (1 : Int32)) fun x32 => hk_let (y24 + (1 : Int32)) fun x33 => some (.inl (x31, x32, x33))))
def st_X0_countParts_8  (t9 : (Int64 × Int32 × Int32)) : Option ((Int64 × Int32 × Int32) ⊕ Int32) := st_X0_countParts_8c  t9.1 t9.2.1 t9.2.2
def f_X0_countParts   (x0 : Int64) : Option Int32 := hk_b1 (hk_wl (st_X0_countParts_8) hkF (x0, (0 : Int32), (0 : Int32))) fun z35 => some z35
set_option maxHeartbeats 8000000 in
set_option maxRecDepth 100000 in
theorem c_X0_countParts (l : Launch) (x0 : Int64) (rv : Int32) (hf : f_X0_countParts x0 = some rv) : Met l yX0_countParts wsX0_countParts ({ frames := 3, cells := 0, slots := 0, locals := 70 }) (va_Pc [.long x0] (fun _ => True)) (vp_Si (fun r => r = rv)) 0 0 (fun _ => False) := by
  refine Met.ofW (cc := cX0_countParts) (maxL := 6) (ret := (some .int)) (by decide) rfl ?_
  intro p e s m args below meth c s₁ B hml hv
  obtain ⟨rfl, -⟩ := hv
  have hx := B.exec
  have hb := B.bytes
  have hr := B.returns
  have hts := atoms_spec (ws := wsX0_countParts) B.pre
  have hown : s.vm.findClass RX0 = some m.cls := findClass_of_methodNamed B.named
  have hlocks := B.notSynchronized
  have hl := lv_entry ([.long x0]) (n := 6) (Nat.le_of_ble_eq_true rfl)
  rw [lg_entry_eq]
  generalize (lg_sl ([.long x0]) ++ List.replicate (6 - (lg_sl ([.long x0])).length) Slot.unset).toArray = ls at hl ⊢
  have hl : lv_has ls 6 [(0, .long x0)] := hl
  refine hk_Q (fun Q hQ => ?_)
  have h := hf
  unfold f_X0_countParts at h
  refine lv_lload_n hx hb dX0_countParts_0 rfl (lv_at hl 0 rfl) ?_
  refine lv_lstore_n (lv' := [(2, .long x0), (0, .long x0)]) hx hb dX0_countParts_1 rfl hl (by decide) rfl (fun ls hl => ?_)
  refine lv_iconst (v := (0 : Int32)) hx hb dX0_countParts_2 (by decide) ?_
  refine lv_istore (lv' := [(4, .int (0 : Int32)), (2, .long x0), (0, .long x0)]) hx hb dX0_countParts_3 hl (by decide) rfl (fun ls hl => ?_)
  refine lv_iconst (v := (0 : Int32)) hx hb dX0_countParts_5 (by decide) ?_
  refine lv_istore (lv' := [(5, .int (0 : Int32)), (4, .int (0 : Int32)), (2, .long x0), (0, .long x0)]) hx hb dX0_countParts_6 hl (by decide) rfl (fun ls hl => ?_)
  obtain ⟨z35, hr34, h⟩ := hk_x1 h
  refine hk_loopR (f := st_X0_countParts_8) (hd := 8) (nL := 6) (lv := fun t9 => [(2, .long t9.1), (4, .int t9.2.1), (5, .int t9.2.2)]) (xs := fun t9 => (45, [(4, .int t9)], [])) ?_ hr34 ?_ (lv_sub hl [2, 1, 0] rfl)
  · intro t36 q37 k21 hck21 hqk21 ls hl
    obtain ⟨y22, y23, y24⟩ := t36
    have k21 : st_X0_countParts_8c  y22 y23 y24 = some q37 := k21
    unfold st_X0_countParts_8c at k21
    have hl : lv_has ls 6 [(2, .long y22), (4, .int y23), (5, .int y24)] := hl
    refine lv_iload hx hb dX0_countParts_8 (lv_at hl 2 rfl) ?_
    refine lv_bipush (v := (64 : Int32)) hx hb dX0_countParts_10 (by decide) ?_
    refine lv_icmp_ge (tgt := 45) hx hb dX0_countParts_12 (by decide) (fun c25 => ?_) (fun c25 => ?_)
    · replace k21 := hk_ip c25 k21
      exact hqk21 y23 (Option.some.inj k21).symm ls (lv_sub hl [1] rfl)
    replace k21 := hk_in c25 k21
    refine lv_lload_n hx hb dX0_countParts_15 rfl (lv_at hl 0 rfl) ?_
    refine lv_lconst (v := (0 : Int64)) hx hb dX0_countParts_16 (by decide) ?_
    refine hk_lcmp_eq (tgt := 45) hx hb dX0_countParts_17 dX0_countParts_18 (by decide) (fun c26 => ?_) (fun c26 => ?_)
    · replace k21 := hk_ip c26 k21
      exact hqk21 y23 (Option.some.inj k21).symm ls (lv_sub hl [1] rfl)
    replace k21 := hk_in c26 k21
    refine lv_lload_n hx hb dX0_countParts_21 rfl (lv_at hl 0 rfl) ?_
    refine lv_lload_n hx hb dX0_countParts_22 rfl (lv_at hl 0 rfl) ?_
    refine lv_lload_n hx hb dX0_countParts_23 rfl (lv_at hl 0 rfl) ?_
    refine lv_lneg hx hb dX0_countParts_24 ?_
    refine lv_land hx hb dX0_countParts_25 ?_
    refine lv_lload_n hx hb dX0_countParts_26 rfl (lv_at hl 0 rfl) ?_
    obtain ⟨r27, hr28, k21⟩ := hk_x1 k21
    refine vp_callSl (W.runS (As := [.long (y22 &&& (-y22)), .long y22]) (rest := [.long y22]) ⟨hx, hb, hml, hown, hts⟩ (c_X0_partFrom l (y22 &&& (-y22)) y22 _ hr28) (va_cwS 2 hts gX0_countParts_X0_partFrom rfl rfl rfl zs_X0_partFrom ⟨Nat.le_of_ble_eq_true rfl, Nat.le_of_ble_eq_true rfl⟩) ⟨fun _ _ _ _ q => q, fun _ _ _ => ⟨rfl, trivial⟩⟩ rfl rfl hl.1 rfl (lv_room (Nat.le_of_ble_eq_true rfl)) dX0_countParts_27 ⟨Nat.zero_le _, Nat.zero_le _⟩) (fun p30 e29 => ?_)
    rw [e29]
    refine lv_ldc2 (v := (-1 : Int64)) hx hb hown (hts (.constantLong RX0 40 (-1)) (List.mem_of_getElem? (i := 1) rfl)) dX0_countParts_30 ?_
    refine lv_lxor hx hb dX0_countParts_33 ?_
    refine lv_land hx hb dX0_countParts_34 ?_
    obtain ⟨x31, ex31, k21⟩ := hk_le k21
    refine hk_tl ex31 ?_
    refine lv_lstore_n (lv' := [(2, .long x31), (4, .int y23), (5, .int y24)]) hx hb dX0_countParts_35 rfl hl (by decide) rfl (fun ls hl => ?_)
    obtain ⟨x32, ex32, k21⟩ := hk_le k21
    refine lv_iinc (v := x32) (lv' := [(4, .int x32), (2, .long x31), (5, .int y24)]) hx hb dX0_countParts_36 hl (k := 1) rfl (by rw [ex32]; rfl) (by decide) rfl (fun ls hl => ?_)
    obtain ⟨x33, ex33, k21⟩ := hk_le k21
    refine lv_iinc (v := x33) (lv' := [(5, .int x33), (4, .int x32), (2, .long x31)]) hx hb dX0_countParts_39 hl (k := 2) rfl (by rw [ex33]; rfl) (by decide) rfl (fun ls hl => ?_)
    refine lv_goto (tgt := 8) hx hb dX0_countParts_42 (by decide) ?_
    exact hck21 (x31, x32, x33) (Option.some.inj k21).symm ls (lv_sub hl [2, 1, 0] rfl)
  intro ls hl
  have hl : lv_has ls 6 [(4, .int z35)] := hl
  show W _ _ _ _ _ _ _ _ _ _ _ _ _ _ _ (F0 m 45 ls [])
  refine lv_iload hx hb dX0_countParts_45 (lv_at hl 0 rfl) ?_
  subst hQ
  exact W.iret hx hb hr (fun t ht hW => ⟨_, rfl, Option.some.inj h, ht⟩) (fun _ h9 => by cases h9) dX0_countParts_47
theorem zs_X0_partAt : yX0_partAt.cls ≠ "java/lang/invoke/MethodHandle" ∧ yX0_partAt.cls ≠ "java/lang/invoke/VarHandle" ∧ (parseMethodDescriptor yX0_partAt.desc).map (fun d => d.parameters.length) = some 2 := by decide +kernel
def st_X0_partAt_5c (x2 : Int32) (y22 : Int64) (y23 : Int32) : Option ((Int64 × Int32) ⊕ (Int64 ⊕ Unit)) := if (64 : Int32) ≤ y23 then (some (.inr (.inr ()))) else (if y22 = (0 : Int64) then (some (.inr (.inr ()))) else (hk_b1 (f_X0_partFrom (y22 &&& (-y22)) y22) fun r26 => if y23 = x2 then (some (.inr (.inl r26))) else (hk_let (y22 &&& (r26 ^^^ (-1 : Int64))) fun x31 => hk_let (y23 + (1 : Int32)) fun x32 => some (.inl (x31, x32)))))
def st_X0_partAt_5 (x2 : Int32) (t9 : (Int64 × Int32)) : Option ((Int64 × Int32) ⊕ (Int64 ⊕ Unit)) := st_X0_partAt_5c x2 t9.1 t9.2
def f_X0_partAt   (x0 : Int64) (x2 : Int32) : Option Int64 := hk_b1 (hk_wl (st_X0_partAt_5 x2) hkF (x0, (0 : Int32))) fun r34 => hk_sum r34 (fun z37 => some z37) (fun z38 => some (0 : Int64))
set_option maxHeartbeats 8000000 in
set_option maxRecDepth 100000 in
theorem c_X0_partAt (l : Launch) (x0 : Int64) (x2 : Int32) (rv : Int64) (hf : f_X0_partAt x0 x2 = some rv) : Met l yX0_partAt wsX0_partAt ({ frames := 3, cells := 0, slots := 0, locals := 70 }) (va_Pc [.long x0, .int x2] (fun _ => True)) (vp_Sl (fun r => r = rv)) 0 0 (fun _ => False) := by
  refine Met.ofW (cc := cX0_partAt) (maxL := 8) (ret := (some .long)) (by decide) rfl ?_
  intro p e s m args below meth c s₁ B hml hv
  obtain ⟨rfl, -⟩ := hv
  have hx := B.exec
  have hb := B.bytes
  have hr := B.returns
  have hts := atoms_spec (ws := wsX0_partAt) B.pre
  have hown : s.vm.findClass RX0 = some m.cls := findClass_of_methodNamed B.named
  have hlocks := B.notSynchronized
  have hl := lv_entry ([.long x0, .int x2]) (n := 8) (Nat.le_of_ble_eq_true rfl)
  rw [lg_entry_eq]
  generalize (lg_sl ([.long x0, .int x2]) ++ List.replicate (8 - (lg_sl ([.long x0, .int x2])).length) Slot.unset).toArray = ls at hl ⊢
  have hl : lv_has ls 8 [(0, .long x0), (2, .int x2)] := hl
  refine hk_Q (fun Q hQ => ?_)
  have h := hf
  unfold f_X0_partAt at h
  refine lv_lload_n hx hb dX0_partAt_0 rfl (lv_at hl 0 rfl) ?_
  refine lv_lstore_n (lv' := [(3, .long x0), (0, .long x0), (2, .int x2)]) hx hb dX0_partAt_1 rfl hl (by decide) rfl (fun ls hl => ?_)
  refine lv_iconst (v := (0 : Int32)) hx hb dX0_partAt_2 (by decide) ?_
  refine lv_istore (lv' := [(5, .int (0 : Int32)), (3, .long x0), (0, .long x0), (2, .int x2)]) hx hb dX0_partAt_3 hl (by decide) rfl (fun ls hl => ?_)
  obtain ⟨r34, hr33, h⟩ := hk_x1 h
  refine hk_loopR (f := st_X0_partAt_5 x2) (hd := 5) (nL := 8) (lv := fun t9 => [(2, .int x2), (3, .long t9.1), (5, .int t9.2)]) (xs := fun r9 => match r9 with | .inl t9 => (34, [(6, .long t9)], []) | .inr t9 => (52, [], [])) ?_ hr33 ?_ (lv_sub hl [3, 1, 0] rfl)
  · intro t35 q36 k21 hck21 hqk21 ls hl
    obtain ⟨y22, y23⟩ := t35
    have k21 : st_X0_partAt_5c x2 y22 y23 = some q36 := k21
    unfold st_X0_partAt_5c at k21
    have hl : lv_has ls 8 [(2, .int x2), (3, .long y22), (5, .int y23)] := hl
    refine lv_iload hx hb dX0_partAt_5 (lv_at hl 2 rfl) ?_
    refine lv_bipush (v := (64 : Int32)) hx hb dX0_partAt_7 (by decide) ?_
    refine lv_icmp_ge (tgt := 52) hx hb dX0_partAt_9 (by decide) (fun c24 => ?_) (fun c24 => ?_)
    · replace k21 := hk_ip c24 k21
      exact hqk21 (.inr ()) (Option.some.inj k21).symm ls (lv_sub hl [] rfl)
    replace k21 := hk_in c24 k21
    refine lv_lload_n hx hb dX0_partAt_12 rfl (lv_at hl 1 rfl) ?_
    refine lv_lconst (v := (0 : Int64)) hx hb dX0_partAt_13 (by decide) ?_
    refine hk_lcmp_eq (tgt := 52) hx hb dX0_partAt_14 dX0_partAt_15 (by decide) (fun c25 => ?_) (fun c25 => ?_)
    · replace k21 := hk_ip c25 k21
      exact hqk21 (.inr ()) (Option.some.inj k21).symm ls (lv_sub hl [] rfl)
    replace k21 := hk_in c25 k21
    refine lv_lload_n hx hb dX0_partAt_18 rfl (lv_at hl 1 rfl) ?_
    refine lv_lload_n hx hb dX0_partAt_19 rfl (lv_at hl 1 rfl) ?_
    refine lv_lneg hx hb dX0_partAt_20 ?_
    refine lv_land hx hb dX0_partAt_21 ?_
    refine lv_lload_n hx hb dX0_partAt_22 rfl (lv_at hl 1 rfl) ?_
    obtain ⟨r26, hr27, k21⟩ := hk_x1 k21
    refine vp_callSl (W.runS (As := [.long (y22 &&& (-y22)), .long y22]) (rest := []) ⟨hx, hb, hml, hown, hts⟩ (c_X0_partFrom l (y22 &&& (-y22)) y22 _ hr27) (va_cwS 2 hts gX0_partAt_X0_partFrom rfl rfl rfl zs_X0_partFrom ⟨Nat.le_of_ble_eq_true rfl, Nat.le_of_ble_eq_true rfl⟩) ⟨fun _ _ _ _ q => q, fun _ _ _ => ⟨rfl, trivial⟩⟩ rfl rfl hl.1 rfl (lv_room (Nat.le_of_ble_eq_true rfl)) dX0_partAt_23 ⟨Nat.zero_le _, Nat.zero_le _⟩) (fun p29 e28 => ?_)
    rw [e28]
    refine lv_lstore (lv' := [(6, .long r26), (2, .int x2), (3, .long y22), (5, .int y23)]) hx hb dX0_partAt_26 hl (by decide) rfl (fun ls hl => ?_)
    refine lv_iload hx hb dX0_partAt_28 (lv_at hl 3 rfl) ?_
    refine lv_iload_n hx hb dX0_partAt_30 rfl (lv_at hl 1 rfl) ?_
    refine lv_icmp_ne (tgt := 37) hx hb dX0_partAt_31 (by decide) (fun c30 => ?_) (fun c30 => ?_)
    · replace k21 := hk_in c30 k21
      refine lv_lload_n hx hb dX0_partAt_37 rfl (lv_at hl 2 rfl) ?_
      refine lv_lload hx hb dX0_partAt_38 (lv_at hl 0 rfl) ?_
      refine lv_ldc2 (v := (-1 : Int64)) hx hb hown (hts (.constantLong RX0 40 (-1)) (List.mem_of_getElem? (i := 1) rfl)) dX0_partAt_40 ?_
      refine lv_lxor hx hb dX0_partAt_43 ?_
      refine lv_land hx hb dX0_partAt_44 ?_
      obtain ⟨x31, ex31, k21⟩ := hk_le k21
      refine hk_tl ex31 ?_
      refine lv_lstore_n (lv' := [(3, .long x31), (6, .long r26), (2, .int x2), (5, .int y23)]) hx hb dX0_partAt_45 rfl hl (by decide) rfl (fun ls hl => ?_)
      obtain ⟨x32, ex32, k21⟩ := hk_le k21
      refine lv_iinc (v := x32) (lv' := [(5, .int x32), (3, .long x31), (6, .long r26), (2, .int x2)]) hx hb dX0_partAt_46 hl (k := 3) rfl (by rw [ex32]; rfl) (by decide) rfl (fun ls hl => ?_)
      refine lv_goto (tgt := 5) hx hb dX0_partAt_49 (by decide) ?_
      exact hck21 (x31, x32) (Option.some.inj k21).symm ls (lv_sub hl [3, 1, 0] rfl)
    replace k21 := hk_ip c30 k21
    exact hqk21 (.inl r26) (Option.some.inj k21).symm ls (lv_sub hl [0] rfl)
  intro ls hl
  rcases r34 with r34 | r34
  · replace h := hk_sa h
    generalize r34 = z37 at h hl ⊢
    have hl : lv_has ls 8 [(6, .long z37)] := hl
    show W _ _ _ _ _ _ _ _ _ _ _ _ _ _ _ (F0 m 34 ls [])
    refine lv_lload hx hb dX0_partAt_34 (lv_at hl 0 rfl) ?_
    subst hQ
    exact W.lret hx hb hr (fun t ht hW => ⟨_, rfl, Option.some.inj h, ht⟩) (fun _ h9 => by cases h9) dX0_partAt_36
  · replace h := hk_sb h
    generalize r34 = z38 at h hl ⊢
    have hl : lv_has ls 8 [] := hl
    show W _ _ _ _ _ _ _ _ _ _ _ _ _ _ _ (F0 m 52 ls [])
    refine lv_lconst (v := (0 : Int64)) hx hb dX0_partAt_52 (by decide) ?_
    subst hQ
    exact W.lret hx hb hr (fun t ht hW => ⟨_, rfl, Option.some.inj h, ht⟩) (fun _ h9 => by cases h9) dX0_partAt_53
theorem zs_X0_countHoles : yX0_countHoles.cls ≠ "java/lang/invoke/MethodHandle" ∧ yX0_countHoles.cls ≠ "java/lang/invoke/VarHandle" ∧ (parseMethodDescriptor yX0_countHoles.desc).map (fun d => d.parameters.length) = some 1 := by decide +kernel
def st_X0_countHoles_12c  (y23 : Int64) (y24 : Int32) (y25 : Int32) : Option ((Int64 × Int32 × Int32) ⊕ Int32) := if (64 : Int32) ≤ y25 then (some (.inr y24)) else (if y23 = (0 : Int64) then (some (.inr y24)) else (hk_b1 (f_X0_partFrom (y23 &&& (-y23)) y23) fun r28 => hk_let (y23 &&& (r28 ^^^ (-1 : Int64))) fun x32 => hk_let (if (r28 &&& (7227186721292038425 : Int64)) = (0 : Int64) then (hk_let (y24 + (1 : Int32)) fun x35 => x35) else (y24)) fun v36 => hk_let (y25 + (1 : Int32)) fun x37 => some (.inl (x32, v36, x37))))
def st_X0_countHoles_12  (t9 : (Int64 × Int32 × Int32)) : Option ((Int64 × Int32 × Int32) ⊕ Int32) := st_X0_countHoles_12c  t9.1 t9.2.1 t9.2.2
def f_X0_countHoles   (x0 : Int64) : Option Int32 := hk_let (x0 ^^^ (-1 : Int64)) fun x21 => hk_b1 (hk_wl (st_X0_countHoles_12) hkF (x21, (0 : Int32), (0 : Int32))) fun z39 => some z39
set_option maxHeartbeats 8000000 in
set_option maxRecDepth 100000 in
theorem c_X0_countHoles (l : Launch) (x0 : Int64) (rv : Int32) (hf : f_X0_countHoles x0 = some rv) : Met l yX0_countHoles wsX0_countHoles ({ frames := 3, cells := 0, slots := 0, locals := 70 }) (va_Pc [.long x0] (fun _ => True)) (vp_Si (fun r => r = rv)) 0 0 (fun _ => False) := by
  refine Met.ofW (cc := cX0_countHoles) (maxL := 8) (ret := (some .int)) (by decide) rfl ?_
  intro p e s m args below meth c s₁ B hml hv
  obtain ⟨rfl, -⟩ := hv
  have hx := B.exec
  have hb := B.bytes
  have hr := B.returns
  have hts := atoms_spec (ws := wsX0_countHoles) B.pre
  have hown : s.vm.findClass RX0 = some m.cls := findClass_of_methodNamed B.named
  have hlocks := B.notSynchronized
  have hl := lv_entry ([.long x0]) (n := 8) (Nat.le_of_ble_eq_true rfl)
  rw [lg_entry_eq]
  generalize (lg_sl ([.long x0]) ++ List.replicate (8 - (lg_sl ([.long x0])).length) Slot.unset).toArray = ls at hl ⊢
  have hl : lv_has ls 8 [(0, .long x0)] := hl
  refine hk_Q (fun Q hQ => ?_)
  have h := hf
  unfold f_X0_countHoles at h
  refine lv_lload_n hx hb dX0_countHoles_0 rfl (lv_at hl 0 rfl) ?_
  refine lv_ldc2 (v := (-1 : Int64)) hx hb hown (hts (.constantLong RX0 40 (-1)) (List.mem_of_getElem? (i := 1) rfl)) dX0_countHoles_1 ?_
  refine lv_lxor hx hb dX0_countHoles_4 ?_
  obtain ⟨x21, ex21, h⟩ := hk_le h
  refine hk_tl ex21 ?_
  refine lv_lstore_n (lv' := [(2, .long x21), (0, .long x0)]) hx hb dX0_countHoles_5 rfl hl (by decide) rfl (fun ls hl => ?_)
  refine lv_iconst (v := (0 : Int32)) hx hb dX0_countHoles_6 (by decide) ?_
  refine lv_istore (lv' := [(4, .int (0 : Int32)), (2, .long x21), (0, .long x0)]) hx hb dX0_countHoles_7 hl (by decide) rfl (fun ls hl => ?_)
  refine lv_iconst (v := (0 : Int32)) hx hb dX0_countHoles_9 (by decide) ?_
  refine lv_istore (lv' := [(5, .int (0 : Int32)), (4, .int (0 : Int32)), (2, .long x21), (0, .long x0)]) hx hb dX0_countHoles_10 hl (by decide) rfl (fun ls hl => ?_)
  obtain ⟨z39, hr38, h⟩ := hk_x1 h
  refine hk_loopR (f := st_X0_countHoles_12) (hd := 12) (nL := 8) (lv := fun t9 => [(2, .long t9.1), (4, .int t9.2.1), (5, .int t9.2.2)]) (xs := fun t9 => (64, [(4, .int t9)], [])) ?_ hr38 ?_ (lv_sub hl [2, 1, 0] rfl)
  · intro t40 q41 k22 hck22 hqk22 ls hl
    obtain ⟨y23, y24, y25⟩ := t40
    have k22 : st_X0_countHoles_12c  y23 y24 y25 = some q41 := k22
    unfold st_X0_countHoles_12c at k22
    have hl : lv_has ls 8 [(2, .long y23), (4, .int y24), (5, .int y25)] := hl
    refine lv_iload hx hb dX0_countHoles_12 (lv_at hl 2 rfl) ?_
    refine lv_bipush (v := (64 : Int32)) hx hb dX0_countHoles_14 (by decide) ?_
    refine lv_icmp_ge (tgt := 64) hx hb dX0_countHoles_16 (by decide) (fun c26 => ?_) (fun c26 => ?_)
    · replace k22 := hk_ip c26 k22
      exact hqk22 y24 (Option.some.inj k22).symm ls (lv_sub hl [1] rfl)
    replace k22 := hk_in c26 k22
    refine lv_lload_n hx hb dX0_countHoles_19 rfl (lv_at hl 0 rfl) ?_
    refine lv_lconst (v := (0 : Int64)) hx hb dX0_countHoles_20 (by decide) ?_
    refine hk_lcmp_eq (tgt := 64) hx hb dX0_countHoles_21 dX0_countHoles_22 (by decide) (fun c27 => ?_) (fun c27 => ?_)
    · replace k22 := hk_ip c27 k22
      exact hqk22 y24 (Option.some.inj k22).symm ls (lv_sub hl [1] rfl)
    replace k22 := hk_in c27 k22
    refine lv_lload_n hx hb dX0_countHoles_25 rfl (lv_at hl 0 rfl) ?_
    refine lv_lload_n hx hb dX0_countHoles_26 rfl (lv_at hl 0 rfl) ?_
    refine lv_lneg hx hb dX0_countHoles_27 ?_
    refine lv_land hx hb dX0_countHoles_28 ?_
    refine lv_lload_n hx hb dX0_countHoles_29 rfl (lv_at hl 0 rfl) ?_
    obtain ⟨r28, hr29, k22⟩ := hk_x1 k22
    refine vp_callSl (W.runS (As := [.long (y23 &&& (-y23)), .long y23]) (rest := []) ⟨hx, hb, hml, hown, hts⟩ (c_X0_partFrom l (y23 &&& (-y23)) y23 _ hr29) (va_cwS 2 hts gX0_countHoles_X0_partFrom rfl rfl rfl zs_X0_partFrom ⟨Nat.le_of_ble_eq_true rfl, Nat.le_of_ble_eq_true rfl⟩) ⟨fun _ _ _ _ q => q, fun _ _ _ => ⟨rfl, trivial⟩⟩ rfl rfl hl.1 rfl (lv_room (Nat.le_of_ble_eq_true rfl)) dX0_countHoles_30 ⟨Nat.zero_le _, Nat.zero_le _⟩) (fun p31 e30 => ?_)
    rw [e30]
    refine lv_lstore (lv' := [(6, .long r28), (2, .long y23), (4, .int y24), (5, .int y25)]) hx hb dX0_countHoles_33 hl (by decide) rfl (fun ls hl => ?_)
    refine lv_lload_n hx hb dX0_countHoles_35 rfl (lv_at hl 1 rfl) ?_
    refine lv_lload hx hb dX0_countHoles_36 (lv_at hl 0 rfl) ?_
    refine lv_ldc2 (v := (-1 : Int64)) hx hb hown (hts (.constantLong RX0 40 (-1)) (List.mem_of_getElem? (i := 1) rfl)) dX0_countHoles_38 ?_
    refine lv_lxor hx hb dX0_countHoles_41 ?_
    refine lv_land hx hb dX0_countHoles_42 ?_
    obtain ⟨x32, ex32, k22⟩ := hk_le k22
    refine hk_tl ex32 ?_
    refine lv_lstore_n (lv' := [(2, .long x32), (6, .long r28), (4, .int y24), (5, .int y25)]) hx hb dX0_countHoles_43 rfl hl (by decide) rfl (fun ls hl => ?_)
    refine lv_lload hx hb dX0_countHoles_44 (lv_at hl 1 rfl) ?_
    refine lv_ldc2 (v := (7227186721292038425 : Int64)) hx hb hown (hts (.constantLong RX0 46 (7227186721292038425)) (List.mem_of_getElem? (i := 2) rfl)) dX0_countHoles_46 ?_
    refine lv_land hx hb dX0_countHoles_49 ?_
    refine lv_lconst (v := (0 : Int64)) hx hb dX0_countHoles_50 (by decide) ?_
    obtain ⟨v36, g33, k22⟩ := hk_lf k22
    refine hk_joinR (nL := 8) (xs := fun (t9 : Int32) => (58, [(2, .long x32), (4, .int t9), (5, .int y25)], [])) v36 (fun hjg33 => ?_) ?_
    · refine hk_lcmp_ne (tgt := 58) hx hb dX0_countHoles_51 dX0_countHoles_52 (by decide) (fun c34 => ?_) (fun c34 => ?_)
      · replace g33 := hk_in c34 g33
        subst g33
        exact hjg33 ls (lv_sub hl [0, 2, 3] rfl)
      replace g33 := hk_ip c34 g33
      obtain ⟨x35, ex35, g33⟩ := hk_le g33
      refine lv_iinc (v := x35) (lv' := [(4, .int x35), (2, .long x32), (6, .long r28), (5, .int y25)]) hx hb dX0_countHoles_55 hl (k := 2) rfl (by rw [ex35]; rfl) (by decide) rfl (fun ls hl => ?_)
      subst g33
      exact hjg33 ls (lv_sub hl [1, 0, 3] rfl)
    intro ls hl
    have hl : lv_has ls 8 [(2, .long x32), (4, .int v36), (5, .int y25)] := hl
    show W _ _ _ _ _ _ _ _ _ _ _ _ _ _ _ (F0 m 58 ls [])
    obtain ⟨x37, ex37, k22⟩ := hk_le k22
    refine lv_iinc (v := x37) (lv' := [(5, .int x37), (2, .long x32), (4, .int v36)]) hx hb dX0_countHoles_58 hl (k := 2) rfl (by rw [ex37]; rfl) (by decide) rfl (fun ls hl => ?_)
    refine lv_goto (tgt := 12) hx hb dX0_countHoles_61 (by decide) ?_
    exact hck22 (x32, v36, x37) (Option.some.inj k22).symm ls (lv_sub hl [1, 2, 0] rfl)
  intro ls hl
  have hl : lv_has ls 8 [(4, .int z39)] := hl
  show W _ _ _ _ _ _ _ _ _ _ _ _ _ _ _ (F0 m 64 ls [])
  refine lv_iload hx hb dX0_countHoles_64 (lv_at hl 0 rfl) ?_
  subst hQ
  exact W.iret hx hb hr (fun t ht hW => ⟨_, rfl, Option.some.inj h, ht⟩) (fun _ h9 => by cases h9) dX0_countHoles_66
theorem zs_X0_cellAt : yX0_cellAt.cls ≠ "java/lang/invoke/MethodHandle" ∧ yX0_cellAt.cls ≠ "java/lang/invoke/VarHandle" ∧ (parseMethodDescriptor yX0_cellAt.desc).map (fun d => d.parameters.length) = some 2 := by decide +kernel
def st_X0_cellAt_5c (x2 : Int32) (y22 : Int64) (y23 : Int32) : Option ((Int64 × Int32) ⊕ (Int64 ⊕ Unit)) := if (64 : Int32) ≤ y23 then (some (.inr (.inr ()))) else (if y22 = (0 : Int64) then (some (.inr (.inr ()))) else (hk_let (y22 &&& (-y22)) fun x26 => if y23 = x2 then (some (.inr (.inl x26))) else (hk_let (y22 ^^^ x26) fun x28 => hk_let (y23 + (1 : Int32)) fun x29 => some (.inl (x28, x29)))))
def st_X0_cellAt_5 (x2 : Int32) (t9 : (Int64 × Int32)) : Option ((Int64 × Int32) ⊕ (Int64 ⊕ Unit)) := st_X0_cellAt_5c x2 t9.1 t9.2
def f_X0_cellAt   (x0 : Int64) (x2 : Int32) : Option Int64 := hk_b1 (hk_wl (st_X0_cellAt_5 x2) hkF (x0, (0 : Int32))) fun r31 => hk_sum r31 (fun z34 => some z34) (fun z35 => some (0 : Int64))
set_option maxHeartbeats 8000000 in
set_option maxRecDepth 100000 in
theorem c_X0_cellAt (l : Launch) (x0 : Int64) (x2 : Int32) (rv : Int64) (hf : f_X0_cellAt x0 x2 = some rv) : Met l yX0_cellAt wsX0_cellAt ({ frames := 0, cells := 0, slots := 0, locals := 0 }) (va_Pc [.long x0, .int x2] (fun _ => True)) (vp_Sl (fun r => r = rv)) 0 0 (fun _ => False) := by
  refine Met.ofW (cc := cX0_cellAt) (maxL := 8) (ret := (some .long)) (by decide) rfl ?_
  intro p e s m args below meth c s₁ B hml hv
  obtain ⟨rfl, -⟩ := hv
  have hx := B.exec
  have hb := B.bytes
  have hr := B.returns
  have hts := atoms_spec (ws := wsX0_cellAt) B.pre
  have hown : s.vm.findClass RX0 = some m.cls := findClass_of_methodNamed B.named
  have hlocks := B.notSynchronized
  have hl := lv_entry ([.long x0, .int x2]) (n := 8) (Nat.le_of_ble_eq_true rfl)
  rw [lg_entry_eq]
  generalize (lg_sl ([.long x0, .int x2]) ++ List.replicate (8 - (lg_sl ([.long x0, .int x2])).length) Slot.unset).toArray = ls at hl ⊢
  have hl : lv_has ls 8 [(0, .long x0), (2, .int x2)] := hl
  refine hk_Q (fun Q hQ => ?_)
  have h := hf
  unfold f_X0_cellAt at h
  refine lv_lload_n hx hb dX0_cellAt_0 rfl (lv_at hl 0 rfl) ?_
  refine lv_lstore_n (lv' := [(3, .long x0), (0, .long x0), (2, .int x2)]) hx hb dX0_cellAt_1 rfl hl (by decide) rfl (fun ls hl => ?_)
  refine lv_iconst (v := (0 : Int32)) hx hb dX0_cellAt_2 (by decide) ?_
  refine lv_istore (lv' := [(5, .int (0 : Int32)), (3, .long x0), (0, .long x0), (2, .int x2)]) hx hb dX0_cellAt_3 hl (by decide) rfl (fun ls hl => ?_)
  obtain ⟨r31, hr30, h⟩ := hk_x1 h
  refine hk_loopR (f := st_X0_cellAt_5 x2) (hd := 5) (nL := 8) (lv := fun t9 => [(2, .int x2), (3, .long t9.1), (5, .int t9.2)]) (xs := fun r9 => match r9 with | .inl t9 => (30, [(6, .long t9)], []) | .inr t9 => (44, [], [])) ?_ hr30 ?_ (lv_sub hl [3, 1, 0] rfl)
  · intro t32 q33 k21 hck21 hqk21 ls hl
    obtain ⟨y22, y23⟩ := t32
    have k21 : st_X0_cellAt_5c x2 y22 y23 = some q33 := k21
    unfold st_X0_cellAt_5c at k21
    have hl : lv_has ls 8 [(2, .int x2), (3, .long y22), (5, .int y23)] := hl
    refine lv_iload hx hb dX0_cellAt_5 (lv_at hl 2 rfl) ?_
    refine lv_bipush (v := (64 : Int32)) hx hb dX0_cellAt_7 (by decide) ?_
    refine lv_icmp_ge (tgt := 44) hx hb dX0_cellAt_9 (by decide) (fun c24 => ?_) (fun c24 => ?_)
    · replace k21 := hk_ip c24 k21
      exact hqk21 (.inr ()) (Option.some.inj k21).symm ls (lv_sub hl [] rfl)
    replace k21 := hk_in c24 k21
    refine lv_lload_n hx hb dX0_cellAt_12 rfl (lv_at hl 1 rfl) ?_
    refine lv_lconst (v := (0 : Int64)) hx hb dX0_cellAt_13 (by decide) ?_
    refine hk_lcmp_eq (tgt := 44) hx hb dX0_cellAt_14 dX0_cellAt_15 (by decide) (fun c25 => ?_) (fun c25 => ?_)
    · replace k21 := hk_ip c25 k21
      exact hqk21 (.inr ()) (Option.some.inj k21).symm ls (lv_sub hl [] rfl)
    replace k21 := hk_in c25 k21
    refine lv_lload_n hx hb dX0_cellAt_18 rfl (lv_at hl 1 rfl) ?_
    refine lv_lload_n hx hb dX0_cellAt_19 rfl (lv_at hl 1 rfl) ?_
    refine lv_lneg hx hb dX0_cellAt_20 ?_
    refine lv_land hx hb dX0_cellAt_21 ?_
    obtain ⟨x26, ex26, k21⟩ := hk_le k21
    refine hk_tl ex26 ?_
    refine lv_lstore (lv' := [(6, .long x26), (2, .int x2), (3, .long y22), (5, .int y23)]) hx hb dX0_cellAt_22 hl (by decide) rfl (fun ls hl => ?_)
    refine lv_iload hx hb dX0_cellAt_24 (lv_at hl 3 rfl) ?_
    refine lv_iload_n hx hb dX0_cellAt_26 rfl (lv_at hl 1 rfl) ?_
    refine lv_icmp_ne (tgt := 33) hx hb dX0_cellAt_27 (by decide) (fun c27 => ?_) (fun c27 => ?_)
    · replace k21 := hk_in c27 k21
      refine lv_lload_n hx hb dX0_cellAt_33 rfl (lv_at hl 2 rfl) ?_
      refine lv_lload hx hb dX0_cellAt_34 (lv_at hl 0 rfl) ?_
      refine lv_lxor hx hb dX0_cellAt_36 ?_
      obtain ⟨x28, ex28, k21⟩ := hk_le k21
      refine hk_tl ex28 ?_
      refine lv_lstore_n (lv' := [(3, .long x28), (6, .long x26), (2, .int x2), (5, .int y23)]) hx hb dX0_cellAt_37 rfl hl (by decide) rfl (fun ls hl => ?_)
      obtain ⟨x29, ex29, k21⟩ := hk_le k21
      refine lv_iinc (v := x29) (lv' := [(5, .int x29), (3, .long x28), (6, .long x26), (2, .int x2)]) hx hb dX0_cellAt_38 hl (k := 3) rfl (by rw [ex29]; rfl) (by decide) rfl (fun ls hl => ?_)
      refine lv_goto (tgt := 5) hx hb dX0_cellAt_41 (by decide) ?_
      exact hck21 (x28, x29) (Option.some.inj k21).symm ls (lv_sub hl [3, 1, 0] rfl)
    replace k21 := hk_ip c27 k21
    exact hqk21 (.inl x26) (Option.some.inj k21).symm ls (lv_sub hl [0] rfl)
  intro ls hl
  rcases r31 with r31 | r31
  · replace h := hk_sa h
    generalize r31 = z34 at h hl ⊢
    have hl : lv_has ls 8 [(6, .long z34)] := hl
    show W _ _ _ _ _ _ _ _ _ _ _ _ _ _ _ (F0 m 30 ls [])
    refine lv_lload hx hb dX0_cellAt_30 (lv_at hl 0 rfl) ?_
    subst hQ
    exact W.lret hx hb hr (fun t ht hW => ⟨_, rfl, Option.some.inj h, ht⟩) (fun _ h9 => by cases h9) dX0_cellAt_32
  · replace h := hk_sb h
    generalize r31 = z35 at h hl ⊢
    have hl : lv_has ls 8 [] := hl
    show W _ _ _ _ _ _ _ _ _ _ _ _ _ _ _ (F0 m 44 ls [])
    refine lv_lconst (v := (0 : Int64)) hx hb dX0_cellAt_44 (by decide) ?_
    subst hQ
    exact W.lret hx hb hr (fun t ht hW => ⟨_, rfl, Option.some.inj h, ht⟩) (fun _ h9 => by cases h9) dX0_cellAt_45
theorem zs_J13_bitCount_95d88 : yJ13_bitCount_95d88.cls ≠ "java/lang/invoke/MethodHandle" ∧ yJ13_bitCount_95d88.cls ≠ "java/lang/invoke/VarHandle" ∧ (parseMethodDescriptor yJ13_bitCount_95d88.desc).map (fun d => d.parameters.length) = some 1 := by decide +kernel
def f_J13_bitCount_95d88   (x0 : Int64) : Option Int32 := hk_let (x0 - ((hk_ushr x0 (1 : Int32)) &&& (6148914691236517205 : Int64))) fun x21 => hk_let ((x21 &&& (3689348814741910323 : Int64)) + ((hk_ushr x21 (2 : Int32)) &&& (3689348814741910323 : Int64))) fun x22 => hk_let ((x22 + (hk_ushr x22 (4 : Int32))) &&& (1085102592571150095 : Int64)) fun x23 => hk_let (x23 + (hk_ushr x23 (8 : Int32))) fun x24 => hk_let (x24 + (hk_ushr x24 (16 : Int32))) fun x25 => hk_let (x25 + (hk_ushr x25 (32 : Int32))) fun x26 => some ((x26.toInt32) &&& (127 : Int32))
set_option maxHeartbeats 8000000 in
set_option maxRecDepth 100000 in
theorem c_J13_bitCount_95d88 (l : Launch) (x0 : Int64) (rv : Int32) (hf : f_J13_bitCount_95d88 x0 = some rv) : Met l yJ13_bitCount_95d88 wsJ13_bitCount_95d88 ({ frames := 0, cells := 0, slots := 0, locals := 0 }) (va_Pc [.long x0] (fun _ => True)) (vp_Si (fun r => r = rv)) 0 0 (fun _ => False) := by
  refine Met.ofW (cc := cJ13_bitCount_95d88) (maxL := 2) (ret := (some .int)) (by decide) rfl ?_
  intro p e s m args below meth c s₁ B hml hv
  obtain ⟨rfl, -⟩ := hv
  have hx := B.exec
  have hb := B.bytes
  have hr := B.returns
  have hts := atoms_spec (ws := wsJ13_bitCount_95d88) B.pre
  have hown : s.vm.findClass RJ13 = some m.cls := findClass_of_methodNamed B.named
  have hlocks := B.notSynchronized
  have hl := lv_entry ([.long x0]) (n := 2) (Nat.le_of_ble_eq_true rfl)
  rw [lg_entry_eq]
  generalize (lg_sl ([.long x0]) ++ List.replicate (2 - (lg_sl ([.long x0])).length) Slot.unset).toArray = ls at hl ⊢
  have hl : lv_has ls 2 [(0, .long x0)] := hl
  refine hk_Q (fun Q hQ => ?_)
  have h := hf
  unfold f_J13_bitCount_95d88 at h
  refine lv_lload_n hx hb dJ13_bitCount_95d88_0 rfl (lv_at hl 0 rfl) ?_
  refine lv_lload_n hx hb dJ13_bitCount_95d88_1 rfl (lv_at hl 0 rfl) ?_
  refine lv_iconst (v := (1 : Int32)) hx hb dJ13_bitCount_95d88_2 (by decide) ?_
  refine lv_lushr (v := (hk_ushr x0 (1 : Int32))) hx hb dJ13_bitCount_95d88_3 rfl ?_
  refine lv_ldc2 (v := (6148914691236517205 : Int64)) hx hb hown (hts (.constantLong RJ13 314 (6148914691236517205)) (List.mem_of_getElem? (i := 1) rfl)) dJ13_bitCount_95d88_4 ?_
  refine lv_land hx hb dJ13_bitCount_95d88_7 ?_
  refine lv_lsub hx hb dJ13_bitCount_95d88_8 ?_
  obtain ⟨x21, ex21, h⟩ := hk_le h
  refine hk_tl ex21 ?_
  refine lv_lstore_n (lv' := [(0, .long x21)]) hx hb dJ13_bitCount_95d88_9 rfl hl (by decide) rfl (fun ls hl => ?_)
  refine lv_lload_n hx hb dJ13_bitCount_95d88_10 rfl (lv_at hl 0 rfl) ?_
  refine lv_ldc2 (v := (3689348814741910323 : Int64)) hx hb hown (hts (.constantLong RJ13 316 (3689348814741910323)) (List.mem_of_getElem? (i := 2) rfl)) dJ13_bitCount_95d88_11 ?_
  refine lv_land hx hb dJ13_bitCount_95d88_14 ?_
  refine lv_lload_n hx hb dJ13_bitCount_95d88_15 rfl (lv_at hl 0 rfl) ?_
  refine lv_iconst (v := (2 : Int32)) hx hb dJ13_bitCount_95d88_16 (by decide) ?_
  refine lv_lushr (v := (hk_ushr x21 (2 : Int32))) hx hb dJ13_bitCount_95d88_17 rfl ?_
  refine lv_ldc2 (v := (3689348814741910323 : Int64)) hx hb hown (hts (.constantLong RJ13 316 (3689348814741910323)) (List.mem_of_getElem? (i := 2) rfl)) dJ13_bitCount_95d88_18 ?_
  refine lv_land hx hb dJ13_bitCount_95d88_21 ?_
  refine lv_ladd hx hb dJ13_bitCount_95d88_22 ?_
  obtain ⟨x22, ex22, h⟩ := hk_le h
  refine hk_tl ex22 ?_
  refine lv_lstore_n (lv' := [(0, .long x22)]) hx hb dJ13_bitCount_95d88_23 rfl hl (by decide) rfl (fun ls hl => ?_)
  refine lv_lload_n hx hb dJ13_bitCount_95d88_24 rfl (lv_at hl 0 rfl) ?_
  refine lv_lload_n hx hb dJ13_bitCount_95d88_25 rfl (lv_at hl 0 rfl) ?_
  refine lv_iconst (v := (4 : Int32)) hx hb dJ13_bitCount_95d88_26 (by decide) ?_
  refine lv_lushr (v := (hk_ushr x22 (4 : Int32))) hx hb dJ13_bitCount_95d88_27 rfl ?_
  refine lv_ladd hx hb dJ13_bitCount_95d88_28 ?_
  refine lv_ldc2 (v := (1085102592571150095 : Int64)) hx hb hown (hts (.constantLong RJ13 318 (1085102592571150095)) (List.mem_of_getElem? (i := 3) rfl)) dJ13_bitCount_95d88_29 ?_
  refine lv_land hx hb dJ13_bitCount_95d88_32 ?_
  obtain ⟨x23, ex23, h⟩ := hk_le h
  refine hk_tl ex23 ?_
  refine lv_lstore_n (lv' := [(0, .long x23)]) hx hb dJ13_bitCount_95d88_33 rfl hl (by decide) rfl (fun ls hl => ?_)
  refine lv_lload_n hx hb dJ13_bitCount_95d88_34 rfl (lv_at hl 0 rfl) ?_
  refine lv_lload_n hx hb dJ13_bitCount_95d88_35 rfl (lv_at hl 0 rfl) ?_
  refine lv_bipush (v := (8 : Int32)) hx hb dJ13_bitCount_95d88_36 (by decide) ?_
  refine lv_lushr (v := (hk_ushr x23 (8 : Int32))) hx hb dJ13_bitCount_95d88_38 rfl ?_
  refine lv_ladd hx hb dJ13_bitCount_95d88_39 ?_
  obtain ⟨x24, ex24, h⟩ := hk_le h
  refine hk_tl ex24 ?_
  refine lv_lstore_n (lv' := [(0, .long x24)]) hx hb dJ13_bitCount_95d88_40 rfl hl (by decide) rfl (fun ls hl => ?_)
  refine lv_lload_n hx hb dJ13_bitCount_95d88_41 rfl (lv_at hl 0 rfl) ?_
  refine lv_lload_n hx hb dJ13_bitCount_95d88_42 rfl (lv_at hl 0 rfl) ?_
  refine lv_bipush (v := (16 : Int32)) hx hb dJ13_bitCount_95d88_43 (by decide) ?_
  refine lv_lushr (v := (hk_ushr x24 (16 : Int32))) hx hb dJ13_bitCount_95d88_45 rfl ?_
  refine lv_ladd hx hb dJ13_bitCount_95d88_46 ?_
  obtain ⟨x25, ex25, h⟩ := hk_le h
  refine hk_tl ex25 ?_
  refine lv_lstore_n (lv' := [(0, .long x25)]) hx hb dJ13_bitCount_95d88_47 rfl hl (by decide) rfl (fun ls hl => ?_)
  refine lv_lload_n hx hb dJ13_bitCount_95d88_48 rfl (lv_at hl 0 rfl) ?_
  refine lv_lload_n hx hb dJ13_bitCount_95d88_49 rfl (lv_at hl 0 rfl) ?_
  refine lv_bipush (v := (32 : Int32)) hx hb dJ13_bitCount_95d88_50 (by decide) ?_
  refine lv_lushr (v := (hk_ushr x25 (32 : Int32))) hx hb dJ13_bitCount_95d88_52 rfl ?_
  refine lv_ladd hx hb dJ13_bitCount_95d88_53 ?_
  obtain ⟨x26, ex26, h⟩ := hk_le h
  refine hk_tl ex26 ?_
  refine lv_lstore_n (lv' := [(0, .long x26)]) hx hb dJ13_bitCount_95d88_54 rfl hl (by decide) rfl (fun ls hl => ?_)
  refine lv_lload_n hx hb dJ13_bitCount_95d88_55 rfl (lv_at hl 0 rfl) ?_
  refine lv_l2i (v := (x26.toInt32)) hx hb dJ13_bitCount_95d88_56 rfl ?_
  refine lv_bipush (v := (127 : Int32)) hx hb dJ13_bitCount_95d88_57 (by decide) ?_
  refine lv_iand hx hb dJ13_bitCount_95d88_59 ?_
  subst hQ
  exact W.iret hx hb hr (fun t ht hW => ⟨_, rfl, Option.some.inj h, ht⟩) (fun _ h9 => by cases h9) dJ13_bitCount_95d88_60
theorem zs_X0_straightEdges : yX0_straightEdges.cls ≠ "java/lang/invoke/MethodHandle" ∧ yX0_straightEdges.cls ≠ "java/lang/invoke/VarHandle" ∧ (parseMethodDescriptor yX0_straightEdges.desc).map (fun d => d.parameters.length) = some 1 := by decide +kernel
def f_X0_straightEdges   (x0 : Int64) : Option Int32 := hk_b1 (f_X0_acrossSides x0) fun r21 => hk_b1 (f_J13_bitCount_95d88 (x0 &&& (r21 ^^^ (-1 : Int64)))) fun r25 => some r25
set_option maxHeartbeats 8000000 in
set_option maxRecDepth 100000 in
theorem c_X0_straightEdges (l : Launch) (x0 : Int64) (rv : Int32) (hf : f_X0_straightEdges x0 = some rv) : Met l yX0_straightEdges wsX0_straightEdges ({ frames := 1, cells := 0, slots := 0, locals := 21 }) (va_Pc [.long x0] (fun _ => True)) (vp_Si (fun r => r = rv)) 0 0 (fun _ => False) := by
  refine Met.ofW (cc := cX0_straightEdges) (maxL := 2) (ret := (some .int)) (by decide) rfl ?_
  intro p e s m args below meth c s₁ B hml hv
  obtain ⟨rfl, -⟩ := hv
  have hx := B.exec
  have hb := B.bytes
  have hr := B.returns
  have hts := atoms_spec (ws := wsX0_straightEdges) B.pre
  have hown : s.vm.findClass RX0 = some m.cls := findClass_of_methodNamed B.named
  have hlocks := B.notSynchronized
  have hl := lv_entry ([.long x0]) (n := 2) (Nat.le_of_ble_eq_true rfl)
  rw [lg_entry_eq]
  generalize (lg_sl ([.long x0]) ++ List.replicate (2 - (lg_sl ([.long x0])).length) Slot.unset).toArray = ls at hl ⊢
  have hl : lv_has ls 2 [(0, .long x0)] := hl
  refine hk_Q (fun Q hQ => ?_)
  have h := hf
  unfold f_X0_straightEdges at h
  refine lv_lload_n hx hb dX0_straightEdges_0 rfl (lv_at hl 0 rfl) ?_
  refine lv_lload_n hx hb dX0_straightEdges_1 rfl (lv_at hl 0 rfl) ?_
  obtain ⟨r21, hr22, h⟩ := hk_x1 h
  refine vp_callSl (W.runS (As := [.long x0]) (rest := [.long x0]) ⟨hx, hb, hml, hown, hts⟩ (c_X0_acrossSides l x0 _ hr22) (va_cwS 1 hts gX0_straightEdges_X0_acrossSides rfl rfl rfl zs_X0_acrossSides ⟨Nat.le_of_ble_eq_true rfl, Nat.le_of_ble_eq_true rfl⟩) ⟨fun _ _ _ _ q => q, fun _ _ _ => ⟨rfl, trivial⟩⟩ rfl rfl hl.1 rfl (lv_room (Nat.le_of_ble_eq_true rfl)) dX0_straightEdges_2 ⟨Nat.zero_le _, Nat.zero_le _⟩) (fun p24 e23 => ?_)
  rw [e23]
  refine lv_ldc2 (v := (-1 : Int64)) hx hb hown (hts (.constantLong RX0 40 (-1)) (List.mem_of_getElem? (i := 1) rfl)) dX0_straightEdges_5 ?_
  refine lv_lxor hx hb dX0_straightEdges_8 ?_
  refine lv_land hx hb dX0_straightEdges_9 ?_
  obtain ⟨r25, hr26, h⟩ := hk_x1 h
  refine vp_callSi (W.runS (As := [.long (x0 &&& (r21 ^^^ (-1 : Int64)))]) (rest := []) ⟨hx, hb, hml, hown, hts⟩ (c_J13_bitCount_95d88 l (x0 &&& (r21 ^^^ (-1 : Int64))) _ hr26) (va_cwS 1 hts gX0_straightEdges_J13_bitCount_95d88 rfl rfl rfl zs_J13_bitCount_95d88 ⟨Nat.le_of_ble_eq_true rfl, Nat.le_of_ble_eq_true rfl⟩) ⟨fun _ _ _ _ q => q, fun _ _ _ => ⟨rfl, trivial⟩⟩ rfl rfl hl.1 rfl (lv_room (Nat.le_of_ble_eq_true rfl)) dX0_straightEdges_10 ⟨Nat.zero_le _, Nat.zero_le _⟩) (fun p28 e27 => ?_)
  rw [e27]
  subst hQ
  exact W.iret hx hb hr (fun t ht hW => ⟨_, rfl, Option.some.inj h, ht⟩) (fun _ h9 => by cases h9) dX0_straightEdges_13
theorem zs_X0_slantingEdges : yX0_slantingEdges.cls ≠ "java/lang/invoke/MethodHandle" ∧ yX0_slantingEdges.cls ≠ "java/lang/invoke/VarHandle" ∧ (parseMethodDescriptor yX0_slantingEdges.desc).map (fun d => d.parameters.length) = some 1 := by decide +kernel
def f_X0_slantingEdges   (x0 : Int64) : Option Int32 := hk_b1 (f_X0_nextInSquare x0) fun r21 => hk_b1 (f_J13_bitCount_95d88 (x0 ^^^ r21)) fun r25 => some r25
set_option maxHeartbeats 8000000 in
set_option maxRecDepth 100000 in
theorem c_X0_slantingEdges (l : Launch) (x0 : Int64) (rv : Int32) (hf : f_X0_slantingEdges x0 = some rv) : Met l yX0_slantingEdges wsX0_slantingEdges ({ frames := 1, cells := 0, slots := 0, locals := 21 }) (va_Pc [.long x0] (fun _ => True)) (vp_Si (fun r => r = rv)) 0 0 (fun _ => False) := by
  refine Met.ofW (cc := cX0_slantingEdges) (maxL := 2) (ret := (some .int)) (by decide) rfl ?_
  intro p e s m args below meth c s₁ B hml hv
  obtain ⟨rfl, -⟩ := hv
  have hx := B.exec
  have hb := B.bytes
  have hr := B.returns
  have hts := atoms_spec (ws := wsX0_slantingEdges) B.pre
  have hown : s.vm.findClass RX0 = some m.cls := findClass_of_methodNamed B.named
  have hlocks := B.notSynchronized
  have hl := lv_entry ([.long x0]) (n := 2) (Nat.le_of_ble_eq_true rfl)
  rw [lg_entry_eq]
  generalize (lg_sl ([.long x0]) ++ List.replicate (2 - (lg_sl ([.long x0])).length) Slot.unset).toArray = ls at hl ⊢
  have hl : lv_has ls 2 [(0, .long x0)] := hl
  refine hk_Q (fun Q hQ => ?_)
  have h := hf
  unfold f_X0_slantingEdges at h
  refine lv_lload_n hx hb dX0_slantingEdges_0 rfl (lv_at hl 0 rfl) ?_
  refine lv_lload_n hx hb dX0_slantingEdges_1 rfl (lv_at hl 0 rfl) ?_
  obtain ⟨r21, hr22, h⟩ := hk_x1 h
  refine vp_callSl (W.runS (As := [.long x0]) (rest := [.long x0]) ⟨hx, hb, hml, hown, hts⟩ (c_X0_nextInSquare l x0 _ hr22) (va_cwS 1 hts gX0_slantingEdges_X0_nextInSquare rfl rfl rfl zs_X0_nextInSquare ⟨Nat.le_of_ble_eq_true rfl, Nat.le_of_ble_eq_true rfl⟩) ⟨fun _ _ _ _ q => q, fun _ _ _ => ⟨rfl, trivial⟩⟩ rfl rfl hl.1 rfl (lv_room (Nat.le_of_ble_eq_true rfl)) dX0_slantingEdges_2 ⟨Nat.zero_le _, Nat.zero_le _⟩) (fun p24 e23 => ?_)
  rw [e23]
  refine lv_lxor hx hb dX0_slantingEdges_5 ?_
  obtain ⟨r25, hr26, h⟩ := hk_x1 h
  refine vp_callSi (W.runS (As := [.long (x0 ^^^ r21)]) (rest := []) ⟨hx, hb, hml, hown, hts⟩ (c_J13_bitCount_95d88 l (x0 ^^^ r21) _ hr26) (va_cwS 1 hts gX0_slantingEdges_J13_bitCount_95d88 rfl rfl rfl zs_J13_bitCount_95d88 ⟨Nat.le_of_ble_eq_true rfl, Nat.le_of_ble_eq_true rfl⟩) ⟨fun _ _ _ _ q => q, fun _ _ _ => ⟨rfl, trivial⟩⟩ rfl rfl hl.1 rfl (lv_room (Nat.le_of_ble_eq_true rfl)) dX0_slantingEdges_6 ⟨Nat.zero_le _, Nat.zero_le _⟩) (fun p28 e27 => ?_)
  rw [e27]
  subst hQ
  exact W.iret hx hb hr (fun t ht hW => ⟨_, rfl, Option.some.inj h, ht⟩) (fun _ h9 => by cases h9) dX0_slantingEdges_9
