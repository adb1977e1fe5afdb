/-! walks printed by wip/whole/gen.py: X2_.* X3_.* X4_.* X6_.* X7_isLess X7_isAmong -/
theorem zs_X3_swapped : yX3_swapped.cls ≠ "java/lang/invoke/MethodHandle" ∧ yX3_swapped.cls ≠ "java/lang/invoke/VarHandle" ∧ (parseMethodDescriptor yX3_swapped.desc).map (fun d => d.parameters.length) = some 3 := by decide +kernel
def f_X3_swapped   (x0 : Int64) (x2 : Int64) (x4 : Int32) : Option Int64 := hk_let (((hk_ushr x0 x4) ^^^ x0) &&& x2) fun x21 => some ((x0 ^^^ x21) ^^^ (hk_shl x21 x4))
set_option maxHeartbeats 8000000 in
set_option maxRecDepth 100000 in
theorem c_X3_swapped (l : Launch) (x0 : Int64) (x2 : Int64) (x4 : Int32) (rv : Int64) (hf : f_X3_swapped x0 x2 x4 = some rv) : Met l yX3_swapped wsX3_swapped ({ frames := 0, cells := 0, slots := 0, locals := 0 }) (va_Pc [.long x0, .long x2, .int x4] (fun _ => True)) (vp_Sl (fun r => r = rv)) 0 0 (fun _ => False) := by
  refine Met.ofW (cc := cX3_swapped) (maxL := 7) (ret := (some .long)) (by decide) rfl ?_
  intro p e s m args below meth c s₁ B hml hv
  obtain ⟨rfl, -⟩ := hv
  have hx := B.exec
  have hb := B.bytes
  have hr := B.returns
  have hts := atoms_spec (ws := wsX3_swapped) B.pre
  have hown : s.vm.findClass RX3 = some m.cls := findClass_of_methodNamed B.named
  have hlocks := B.notSynchronized
  have hl := lv_entry ([.long x0, .long x2, .int x4]) (n := 7) (Nat.le_of_ble_eq_true rfl)
  rw [lg_entry_eq]
  generalize (lg_sl ([.long x0, .long x2, .int x4]) ++ List.replicate (7 - (lg_sl ([.long x0, .long x2, .int x4])).length) Slot.unset).toArray = ls at hl ⊢
  have hl : lv_has ls 7 [(0, .long x0), (2, .long x2), (4, .int x4)] := hl
  refine hk_Q (fun Q hQ => ?_)
  have h := hf
  unfold f_X3_swapped at h
  refine lv_lload_n hx hb dX3_swapped_0 rfl (lv_at hl 0 rfl) ?_
  refine lv_iload hx hb dX3_swapped_1 (lv_at hl 2 rfl) ?_
  refine lv_lushr (v := (hk_ushr x0 x4)) hx hb dX3_swapped_3 rfl ?_
  refine lv_lload_n hx hb dX3_swapped_4 rfl (lv_at hl 0 rfl) ?_
  refine lv_lxor hx hb dX3_swapped_5 ?_
  refine lv_lload_n hx hb dX3_swapped_6 rfl (lv_at hl 1 rfl) ?_
  refine lv_land hx hb dX3_swapped_7 ?_
  obtain ⟨x21, ex21, h⟩ := hk_le h
  refine hk_tl ex21 ?_
  refine lv_lstore (lv' := [(5, .long x21), (0, .long x0), (2, .long x2), (4, .int x4)]) hx hb dX3_swapped_8 hl (by decide) rfl (fun ls hl => ?_)
  refine lv_lload_n hx hb dX3_swapped_10 rfl (lv_at hl 1 rfl) ?_
  refine lv_lload hx hb dX3_swapped_11 (lv_at hl 0 rfl) ?_
  refine lv_lxor hx hb dX3_swapped_13 ?_
  refine lv_lload hx hb dX3_swapped_14 (lv_at hl 0 rfl) ?_
  refine lv_iload hx hb dX3_swapped_16 (lv_at hl 3 rfl) ?_
  refine lv_lshl (v := (hk_shl x21 x4)) hx hb dX3_swapped_18 rfl ?_
  refine lv_lxor hx hb dX3_swapped_19 ?_
  subst hQ
  exact W.lret hx hb hr (fun t ht hW => ⟨_, rfl, Option.some.inj h, ht⟩) (fun _ h9 => by cases h9) dX3_swapped_20
theorem zs_X3_mirrored : yX3_mirrored.cls ≠ "java/lang/invoke/MethodHandle" ∧ yX3_mirrored.cls ≠ "java/lang/invoke/VarHandle" ∧ (parseMethodDescriptor yX3_mirrored.desc).map (fun d => d.parameters.length) = some 1 := by decide +kernel
def f_X3_mirrored   (x0 : Int64) : Option Int64 := hk_b1 (f_X3_swapped x0 (71777214294589695 : Int64) (8 : Int32)) fun r21 => hk_b1 (f_X3_swapped r21 (1085102592571150095 : Int64) (4 : Int32)) fun r25 => hk_b1 (f_X3_swapped r25 (2459565876494606882 : Int64) (2 : Int32)) fun r29 => some r29
set_option maxHeartbeats 8000000 in
set_option maxRecDepth 100000 in
theorem c_X3_mirrored (l : Launch) (x0 : Int64) (rv : Int64) (hf : f_X3_mirrored x0 = some rv) : Met l yX3_mirrored wsX3_mirrored ({ frames := 1, cells := 0, slots := 0, locals := 26 }) (va_Pc [.long x0] (fun _ => True)) (vp_Sl (fun r => r = rv)) 0 0 (fun _ => False) := by
  refine Met.ofW (cc := cX3_mirrored) (maxL := 4) (ret := (some .long)) (by decide) rfl ?_
  intro p e s m args below meth c s₁ B hml hv
  obtain ⟨rfl, -⟩ := hv
  have hx := B.exec
  have hb := B.bytes
  have hr := B.returns
  have hts := atoms_spec (ws := wsX3_mirrored) B.pre
  have hown : s.vm.findClass RX3 = some m.cls := findClass_of_methodNamed B.named
  have hlocks := B.notSynchronized
  have hl := lv_entry ([.long x0]) (n := 4) (Nat.le_of_ble_eq_true rfl)
  rw [lg_entry_eq]
  generalize (lg_sl ([.long x0]) ++ List.replicate (4 - (lg_sl ([.long x0])).length) Slot.unset).toArray = ls at hl ⊢
  have hl : lv_has ls 4 [(0, .long x0)] := hl
  refine hk_Q (fun Q hQ => ?_)
  have h := hf
  unfold f_X3_mirrored at h
  refine lv_lload_n hx hb dX3_mirrored_0 rfl (lv_at hl 0 rfl) ?_
  refine lv_ldc2 (v := (71777214294589695 : Int64)) hx hb hown (hts (.constantLong RX3 9 (71777214294589695)) (List.mem_of_getElem? (i := 1) rfl)) dX3_mirrored_1 ?_
  refine lv_bipush (v := (8 : Int32)) hx hb dX3_mirrored_4 (by decide) ?_
  obtain ⟨r21, hr22, h⟩ := hk_x1 h
  refine vp_callSl (W.runS (As := [.long x0, .long (71777214294589695 : Int64), .int (8 : Int32)]) (rest := []) ⟨hx, hb, hml, hown, hts⟩ (c_X3_swapped l x0 (71777214294589695 : Int64) (8 : Int32) _ hr22) (va_cwS 3 hts gX3_mirrored_X3_swapped rfl rfl rfl zs_X3_swapped ⟨Nat.le_of_ble_eq_true rfl, Nat.le_of_ble_eq_true rfl⟩) ⟨fun _ _ _ _ q => q, fun _ _ _ => ⟨rfl, trivial⟩⟩ rfl rfl hl.1 rfl (lv_room (Nat.le_of_ble_eq_true rfl)) dX3_mirrored_6 ⟨Nat.zero_le _, Nat.zero_le _⟩) (fun p24 e23 => ?_)
  rw [e23]
  refine lv_ldc2 (v := (1085102592571150095 : Int64)) hx hb hown (hts (.constantLong RX3 17 (1085102592571150095)) (List.mem_of_getElem? (i := 2) rfl)) dX3_mirrored_9 ?_
  refine lv_iconst (v := (4 : Int32)) hx hb dX3_mirrored_12 (by decide) ?_
  obtain ⟨r25, hr26, h⟩ := hk_x1 h
  refine vp_callSl (W.runS (As := [.long r21, .long (1085102592571150095 : Int64), .int (4 : Int32)]) (rest := []) ⟨hx, hb, hml, hown, hts⟩ (c_X3_swapped l r21 (1085102592571150095 : Int64) (4 : Int32) _ hr26) (va_cwS 3 hts gX3_mirrored_X3_swapped rfl rfl rfl zs_X3_swapped ⟨Nat.le_of_ble_eq_true rfl, Nat.le_of_ble_eq_true rfl⟩) ⟨fun _ _ _ _ q => q, fun _ _ _ => ⟨rfl, trivial⟩⟩ rfl rfl hl.1 rfl (lv_room (Nat.le_of_ble_eq_true rfl)) dX3_mirrored_13 ⟨Nat.zero_le _, Nat.zero_le _⟩) (fun p28 e27 => ?_)
  rw [e27]
  refine lv_lstore_n (lv' := [(2, .long r25), (0, .long x0)]) hx hb dX3_mirrored_16 rfl hl (by decide) rfl (fun ls hl => ?_)
  refine lv_lload_n hx hb dX3_mirrored_17 rfl (lv_at hl 0 rfl) ?_
  refine lv_ldc2 (v := (2459565876494606882 : Int64)) hx hb hown (hts (.constantLong RX3 21 (2459565876494606882)) (List.mem_of_getElem? (i := 3) rfl)) dX3_mirrored_18 ?_
  refine lv_iconst (v := (2 : Int32)) hx hb dX3_mirrored_21 (by decide) ?_
  obtain ⟨r29, hr30, h⟩ := hk_x1 h
  refine vp_callSl (W.runS (As := [.long r25, .long (2459565876494606882 : Int64), .int (2 : Int32)]) (rest := []) ⟨hx, hb, hml, hown, hts⟩ (c_X3_swapped l r25 (2459565876494606882 : Int64) (2 : Int32) _ hr30) (va_cwS 3 hts gX3_mirrored_X3_swapped rfl rfl rfl zs_X3_swapped ⟨Nat.le_of_ble_eq_true rfl, Nat.le_of_ble_eq_true rfl⟩) ⟨fun _ _ _ _ q => q, fun _ _ _ => ⟨rfl, trivial⟩⟩ rfl rfl hl.1 rfl (lv_room (Nat.le_of_ble_eq_true rfl)) dX3_mirrored_22 ⟨Nat.zero_le _, Nat.zero_le _⟩) (fun p32 e31 => ?_)
  rw [e31]
  subst hQ
  exact W.lret hx hb hr (fun t ht hW => ⟨_, rfl, Option.some.inj h, ht⟩) (fun _ h9 => by cases h9) dX3_mirrored_25
theorem zs_X3_mirroredAslant : yX3_mirroredAslant.cls ≠ "java/lang/invoke/MethodHandle" ∧ yX3_mirroredAslant.cls ≠ "java/lang/invoke/VarHandle" ∧ (parseMethodDescriptor yX3_mirroredAslant.desc).map (fun d => d.parameters.length) = some 1 := by decide +kernel
def f_X3_mirroredAslant   (x0 : Int64) : Option Int64 := hk_b1 (f_X3_swapped x0 (4278255360 : Int64) (24 : Int32)) fun r21 => hk_b1 (f_X3_swapped r21 (264913582878960 : Int64) (12 : Int32)) fun r25 => hk_b1 (f_X3_swapped r25 (3689348814741910323 : Int64) (2 : Int32)) fun r29 => hk_b1 (f_X3_swapped r29 (6148914691236517205 : Int64) (1 : Int32)) fun r33 => some r33
set_option maxHeartbeats 8000000 in
set_option maxRecDepth 100000 in
theorem c_X3_mirroredAslant (l : Launch) (x0 : Int64) (rv : Int64) (hf : f_X3_mirroredAslant x0 = some rv) : Met l yX3_mirroredAslant wsX3_mirroredAslant ({ frames := 1, cells := 0, slots := 0, locals := 26 }) (va_Pc [.long x0] (fun _ => True)) (vp_Sl (fun r => r = rv)) 0 0 (fun _ => False) := by
  refine Met.ofW (cc := cX3_mirroredAslant) (maxL := 4) (ret := (some .long)) (by decide) rfl ?_
  intro p e s m args below meth c s₁ B hml hv
  obtain ⟨rfl, -⟩ := hv
  have hx := B.exec
  have hb := B.bytes
  have hr := B.returns
  have hts := atoms_spec (ws := wsX3_mirroredAslant) B.pre
  have hown : s.vm.findClass RX3 = some m.cls := findClass_of_methodNamed B.named
  have hlocks := B.notSynchronized
  have hl := lv_entry ([.long x0]) (n := 4) (Nat.le_of_ble_eq_true rfl)
  rw [lg_entry_eq]
  generalize (lg_sl ([.long x0]) ++ List.replicate (4 - (lg_sl ([.long x0])).length) Slot.unset).toArray = ls at hl ⊢
  have hl : lv_has ls 4 [(0, .long x0)] := hl
  refine hk_Q (fun Q hQ => ?_)
  have h := hf
  unfold f_X3_mirroredAslant at h
  refine lv_lload_n hx hb dX3_mirroredAslant_0 rfl (lv_at hl 0 rfl) ?_
  refine lv_ldc2 (v := (4278255360 : Int64)) hx hb hown (hts (.constantLong RX3 23 (4278255360)) (List.mem_of_getElem? (i := 1) rfl)) dX3_mirroredAslant_1 ?_
  refine lv_bipush (v := (24 : Int32)) hx hb dX3_mirroredAslant_4 (by decide) ?_
  obtain ⟨r21, hr22, h⟩ := hk_x1 h
  refine vp_callSl (W.runS (As := [.long x0, .long (4278255360 : Int64), .int (24 : Int32)]) (rest := []) ⟨hx, hb, hml, hown, hts⟩ (c_X3_swapped l x0 (4278255360 : Int64) (24 : Int32) _ hr22) (va_cwS 3 hts gX3_mirroredAslant_X3_swapped rfl rfl rfl zs_X3_swapped ⟨Nat.le_of_ble_eq_true rfl, Nat.le_of_ble_eq_true rfl⟩) ⟨fun _ _ _ _ q => q, fun _ _ _ => ⟨rfl, trivial⟩⟩ rfl rfl hl.1 rfl (lv_room (Nat.le_of_ble_eq_true rfl)) dX3_mirroredAslant_6 ⟨Nat.zero_le _, Nat.zero_le _⟩) (fun p24 e23 => ?_)
  rw [e23]
  refine lv_ldc2 (v := (264913582878960 : Int64)) hx hb hown (hts (.constantLong RX3 25 (264913582878960)) (List.mem_of_getElem? (i := 2) rfl)) dX3_mirroredAslant_9 ?_
  refine lv_bipush (v := (12 : Int32)) hx hb dX3_mirroredAslant_12 (by decide) ?_
  obtain ⟨r25, hr26, h⟩ := hk_x1 h
  refine vp_callSl (W.runS (As := [.long r21, .long (264913582878960 : Int64), .int (12 : Int32)]) (rest := []) ⟨hx, hb, hml, hown, hts⟩ (c_X3_swapped l r21 (264913582878960 : Int64) (12 : Int32) _ hr26) (va_cwS 3 hts gX3_mirroredAslant_X3_swapped rfl rfl rfl zs_X3_swapped ⟨Nat.le_of_ble_eq_true rfl, Nat.le_of_ble_eq_true rfl⟩) ⟨fun _ _ _ _ q => q, fun _ _ _ => ⟨rfl, trivial⟩⟩ rfl rfl hl.1 rfl (lv_room (Nat.le_of_ble_eq_true rfl)) dX3_mirroredAslant_14 ⟨Nat.zero_le _, Nat.zero_le _⟩) (fun p28 e27 => ?_)
  rw [e27]
  refine lv_lstore_n (lv' := [(2, .long r25), (0, .long x0)]) hx hb dX3_mirroredAslant_17 rfl hl (by decide) rfl (fun ls hl => ?_)
  refine lv_lload_n hx hb dX3_mirroredAslant_18 rfl (lv_at hl 0 rfl) ?_
  refine lv_ldc2 (v := (3689348814741910323 : Int64)) hx hb hown (hts (.constantLong RX3 27 (3689348814741910323)) (List.mem_of_getElem? (i := 3) rfl)) dX3_mirroredAslant_19 ?_
  refine lv_iconst (v := (2 : Int32)) hx hb dX3_mirroredAslant_22 (by decide) ?_
  obtain ⟨r29, hr30, h⟩ := hk_x1 h
  refine vp_callSl (W.runS (As := [.long r25, .long (3689348814741910323 : Int64), .int (2 : Int32)]) (rest := []) ⟨hx, hb, hml, hown, hts⟩ (c_X3_swapped l r25 (3689348814741910323 : Int64) (2 : Int32) _ hr30) (va_cwS 3 hts gX3_mirroredAslant_X3_swapped rfl rfl rfl zs_X3_swapped ⟨Nat.le_of_ble_eq_true rfl, Nat.le_of_ble_eq_true rfl⟩) ⟨fun _ _ _ _ q => q, fun _ _ _ => ⟨rfl, trivial⟩⟩ rfl rfl hl.1 rfl (lv_room (Nat.le_of_ble_eq_true rfl)) dX3_mirroredAslant_23 ⟨Nat.zero_le _, Nat.zero_le _⟩) (fun p32 e31 => ?_)
  rw [e31]
  refine lv_ldc2 (v := (6148914691236517205 : Int64)) hx hb hown (hts (.constantLong RX3 29 (6148914691236517205)) (List.mem_of_getElem? (i := 4) rfl)) dX3_mirroredAslant_26 ?_
  refine lv_iconst (v := (1 : Int32)) hx hb dX3_mirroredAslant_29 (by decide) ?_
  obtain ⟨r33, hr34, h⟩ := hk_x1 h
  refine vp_callSl (W.runS (As := [.long r29, .long (6148914691236517205 : Int64), .int (1 : Int32)]) (rest := []) ⟨hx, hb, hml, hown, hts⟩ (c_X3_swapped l r29 (6148914691236517205 : Int64) (1 : Int32) _ hr34) (va_cwS 3 hts gX3_mirroredAslant_X3_swapped rfl rfl rfl zs_X3_swapped ⟨Nat.le_of_ble_eq_true rfl, Nat.le_of_ble_eq_true rfl⟩) ⟨fun _ _ _ _ q => q, fun _ _ _ => ⟨rfl, trivial⟩⟩ rfl rfl hl.1 rfl (lv_room (Nat.le_of_ble_eq_true rfl)) dX3_mirroredAslant_30 ⟨Nat.zero_le _, Nat.zero_le _⟩) (fun p36 e35 => ?_)
  rw [e35]
  subst hQ
  exact W.lret hx hb hr (fun t ht hW => ⟨_, rfl, Option.some.inj h, ht⟩) (fun _ h9 => by cases h9) dX3_mirroredAslant_33
theorem zs_X3_quarterRight : yX3_quarterRight.cls ≠ "java/lang/invoke/MethodHandle" ∧ yX3_quarterRight.cls ≠ "java/lang/invoke/VarHandle" ∧ (parseMethodDescriptor yX3_quarterRight.desc).map (fun d => d.parameters.length) = some 1 := by decide +kernel
def f_X3_quarterRight   (x0 : Int64) : Option Int64 := hk_b1 (f_X3_mirroredAslant x0) fun r21 => hk_b1 (f_X3_mirrored r21) fun r25 => some r25
set_option maxHeartbeats 8000000 in
set_option maxRecDepth 100000 in
theorem c_X3_quarterRight (l : Launch) (x0 : Int64) (rv : Int64) (hf : f_X3_quarterRight x0 = some rv) : Met l yX3_quarterRight wsX3_quarterRight ({ frames := 2, cells := 0, slots := 0, locals := 49 }) (va_Pc [.long x0] (fun _ => True)) (vp_Sl (fun r => r = rv)) 0 0 (fun _ => False) := by
  refine Met.ofW (cc := cX3_quarterRight) (maxL := 2) (ret := (some .long)) (by decide) rfl ?_
  intro p e s m args below meth c s₁ B hml hv
  obtain ⟨rfl, -⟩ := hv
  have hx := B.exec
  have hb := B.bytes
  have hr := B.returns
  have hts := atoms_spec (ws := wsX3_quarterRight) B.pre
  have hown : s.vm.findClass RX3 = some m.cls := findClass_of_methodNamed B.named
  have hlocks := B.notSynchronized
  have hl := lv_entry ([.long x0]) (n := 2) (Nat.le_of_ble_eq_true rfl)
  rw [lg_entry_eq]
  generalize (lg_sl ([.long x0]) ++ List.replicate (2 - (lg_sl ([.long x0])).length) Slot.unset).toArray = ls at hl ⊢
  have hl : lv_has ls 2 [(0, .long x0)] := hl
  refine hk_Q (fun Q hQ => ?_)
  have h := hf
  unfold f_X3_quarterRight at h
  refine lv_lload_n hx hb dX3_quarterRight_0 rfl (lv_at hl 0 rfl) ?_
  obtain ⟨r21, hr22, h⟩ := hk_x1 h
  refine vp_callSl (W.runS (As := [.long x0]) (rest := []) ⟨hx, hb, hml, hown, hts⟩ (c_X3_mirroredAslant l x0 _ hr22) (va_cwS 1 hts gX3_quarterRight_X3_mirroredAslant rfl rfl rfl zs_X3_mirroredAslant ⟨Nat.le_of_ble_eq_true rfl, Nat.le_of_ble_eq_true rfl⟩) ⟨fun _ _ _ _ q => q, fun _ _ _ => ⟨rfl, trivial⟩⟩ rfl rfl hl.1 rfl (lv_room (Nat.le_of_ble_eq_true rfl)) dX3_quarterRight_1 ⟨Nat.zero_le _, Nat.zero_le _⟩) (fun p24 e23 => ?_)
  rw [e23]
  obtain ⟨r25, hr26, h⟩ := hk_x1 h
  refine vp_callSl (W.runS (As := [.long r21]) (rest := []) ⟨hx, hb, hml, hown, hts⟩ (c_X3_mirrored l r21 _ hr26) (va_cwS 1 hts gX3_quarterRight_X3_mirrored rfl rfl rfl zs_X3_mirrored ⟨Nat.le_of_ble_eq_true rfl, Nat.le_of_ble_eq_true rfl⟩) ⟨fun _ _ _ _ q => q, fun _ _ _ => ⟨rfl, trivial⟩⟩ rfl rfl hl.1 rfl (lv_room (Nat.le_of_ble_eq_true rfl)) dX3_quarterRight_4 ⟨Nat.zero_le _, Nat.zero_le _⟩) (fun p28 e27 => ?_)
  rw [e27]
  subst hQ
  exact W.lret hx hb hr (fun t ht hW => ⟨_, rfl, Option.some.inj h, ht⟩) (fun _ h9 => by cases h9) dX3_quarterRight_7
theorem zs_X3_turned : yX3_turned.cls ≠ "java/lang/invoke/MethodHandle" ∧ yX3_turned.cls ≠ "java/lang/invoke/VarHandle" ∧ (parseMethodDescriptor yX3_turned.desc).map (fun d => d.parameters.length) = some 2 := by decide +kernel
def st_X3_turned_17c (x2 : Int32) (y29 : Int64) (y30 : Int32) : Option ((Int64 × Int32) ⊕ Int64) := if (x2 &&& (3 : Int32)) ≤ y30 then (some (.inr y29)) else (hk_b1 (f_X3_quarterRight y29) fun r32 => hk_let (y30 + (1 : Int32)) fun x36 => some (.inl (r32, x36)))
def st_X3_turned_17 (x2 : Int32) (t9 : (Int64 × Int32)) : Option ((Int64 × Int32) ⊕ Int64) := st_X3_turned_17c x2 t9.1 t9.2
def f_X3_turned   (x0 : Int64) (x2 : Int32) : Option Int64 := hk_b1 (if x2 < (4 : Int32) then (some x0) else (hk_b1 (f_X3_mirrored x0) fun r23 => some r23)) fun v27 => hk_b1 (hk_wl (st_X3_turned_17 x2) hkF (v27, (0 : Int32))) fun z38 => some z38
set_option maxHeartbeats 8000000 in
set_option maxRecDepth 100000 in
theorem c_X3_turned (l : Launch) (x0 : Int64) (x2 : Int32) (rv : Int64) (hf : f_X3_turned x0 x2 = some rv) : Met l yX3_turned wsX3_turned ({ frames := 3, cells := 0, slots := 0, locals := 70 }) (va_Pc [.long x0, .int x2] (fun _ => True)) (vp_Sl (fun r => r = rv)) 0 0 (fun _ => False) := by
  refine Met.ofW (cc := cX3_turned) (maxL := 6) (ret := (some .long)) (by decide) rfl ?_
  intro p e s m args below meth c s₁ B hml hv
  obtain ⟨rfl, -⟩ := hv
  have hx := B.exec
  have hb := B.bytes
  have hr := B.returns
  have hts := atoms_spec (ws := wsX3_turned) B.pre
  have hown : s.vm.findClass RX3 = some m.cls := findClass_of_methodNamed B.named
  have hlocks := B.notSynchronized
  have hl := lv_entry ([.long x0, .int x2]) (n := 6) (Nat.le_of_ble_eq_true rfl)
  rw [lg_entry_eq]
  generalize (lg_sl ([.long x0, .int x2]) ++ List.replicate (6 - (lg_sl ([.long x0, .int x2])).length) Slot.unset).toArray = ls at hl ⊢
  have hl : lv_has ls 6 [(0, .long x0), (2, .int x2)] := hl
  refine hk_Q (fun Q hQ => ?_)
  have h := hf
  unfold f_X3_turned at h
  refine lv_iload_n hx hb dX3_turned_0 rfl (lv_at hl 1 rfl) ?_
  refine lv_iconst (v := (4 : Int32)) hx hb dX3_turned_1 (by decide) ?_
  obtain ⟨v27, g21, h⟩ := hk_x1 h
  refine hk_joinR (nL := 6) (xs := fun (t9 : Int64) => (13, [(2, .int x2)], [.long t9])) v27 (fun hjg21 => ?_) ?_
  · refine lv_icmp_lt (tgt := 12) hx hb dX3_turned_2 (by decide) (fun c22 => ?_) (fun c22 => ?_)
    · replace g21 := hk_ip c22 g21
      refine lv_lload_n hx hb dX3_turned_12 rfl (lv_at hl 0 rfl) ?_
      have g21 := Option.some.inj g21
      subst g21
      exact hjg21 ls (lv_sub hl [1] rfl)
    replace g21 := hk_in c22 g21
    refine lv_lload_n hx hb dX3_turned_5 rfl (lv_at hl 0 rfl) ?_
    obtain ⟨r23, hr24, g21⟩ := hk_x1 g21
    refine vp_callSl (W.runS (As := [.long x0]) (rest := []) ⟨hx, hb, hml, hown, hts⟩ (c_X3_mirrored l x0 _ hr24) (va_cwS 1 hts gX3_turned_X3_mirrored rfl rfl rfl zs_X3_mirrored ⟨Nat.le_of_ble_eq_true rfl, Nat.le_of_ble_eq_true rfl⟩) ⟨fun _ _ _ _ q => q, fun _ _ _ => ⟨rfl, trivial⟩⟩ rfl rfl hl.1 rfl (lv_room (Nat.le_of_ble_eq_true rfl)) dX3_turned_6 ⟨Nat.zero_le _, Nat.zero_le _⟩) (fun p26 e25 => ?_)
    rw [e25]
    refine lv_goto (tgt := 13) hx hb dX3_turned_9 (by decide) ?_
    have g21 := Option.some.inj g21
    subst g21
    exact hjg21 ls (lv_sub hl [1] rfl)
  intro ls hl
  have hl : lv_has ls 6 [(2, .int x2)] := hl
  show W _ _ _ _ _ _ _ _ _ _ _ _ _ _ _ (F0 m 13 ls [.long v27])
  refine lv_lstore_n (lv' := [(3, .long v27), (2, .int x2)]) hx hb dX3_turned_13 rfl hl (by decide) rfl (fun ls hl => ?_)
  refine lv_iconst (v := (0 : Int32)) hx hb dX3_turned_14 (by decide) ?_
  refine lv_istore (lv' := [(5, .int (0 : Int32)), (3, .long v27), (2, .int x2)]) hx hb dX3_turned_15 hl (by decide) rfl (fun ls hl => ?_)
  obtain ⟨z38, hr37, h⟩ := hk_x1 h
  refine hk_loopR (f := st_X3_turned_17 x2) (hd := 17) (nL := 6) (lv := fun t9 => [(2, .int x2), (3, .long t9.1), (5, .int t9.2)]) (xs := fun t9 => (36, [(3, .long t9)], [])) ?_ hr37 ?_ (lv_sub hl [2, 1, 0] rfl)
  · intro t39 q40 k28 hck28 hqk28 ls hl
    obtain ⟨y29, y30⟩ := t39
    have k28 : st_X3_turned_17c x2 y29 y30 = some q40 := k28
    unfold st_X3_turned_17c at k28
    have hl : lv_has ls 6 [(2, .int x2), (3, .long y29), (5, .int y30)] := hl
    refine lv_iload hx hb dX3_turned_17 (lv_at hl 2 rfl) ?_
    refine lv_iload_n hx hb dX3_turned_19 rfl (lv_at hl 0 rfl) ?_
    refine lv_iconst (v := (3 : Int32)) hx hb dX3_turned_20 (by decide) ?_
    refine lv_iand hx hb dX3_turned_21 ?_
    refine lv_icmp_ge (tgt := 36) hx hb dX3_turned_22 (by decide) (fun c31 => ?_) (fun c31 => ?_)
    · replace k28 := hk_ip c31 k28
      exact hqk28 y29 (Option.some.inj k28).symm ls (lv_sub hl [1] rfl)
    replace k28 := hk_in c31 k28
    refine lv_lload_n hx hb dX3_turned_25 rfl (lv_at hl 1 rfl) ?_
    obtain ⟨r32, hr33, k28⟩ := hk_x1 k28
    refine vp_callSl (W.runS (As := [.long y29]) (rest := []) ⟨hx, hb, hml, hown, hts⟩ (c_X3_quarterRight l y29 _ hr33) (va_cwS 1 hts gX3_turned_X3_quarterRight rfl rfl rfl zs_X3_quarterRight ⟨Nat.le_of_ble_eq_true rfl, Nat.le_of_ble_eq_true rfl⟩) ⟨fun _ _ _ _ q => q, fun _ _ _ => ⟨rfl, trivial⟩⟩ rfl rfl hl.1 rfl (lv_room (Nat.le_of_ble_eq_true rfl)) dX3_turned_26 ⟨Nat.zero_le _, Nat.zero_le _⟩) (fun p35 e34 => ?_)
    rw [e34]
    refine lv_lstore_n (lv' := [(3, .long r32), (2, .int x2), (5, .int y30)]) hx hb dX3_turned_29 rfl hl (by decide) rfl (fun ls hl => ?_)
    obtain ⟨x36, ex36, k28⟩ := hk_le k28
    refine lv_iinc (v := x36) (lv' := [(5, .int x36), (3, .long r32), (2, .int x2)]) hx hb dX3_turned_30 hl (k := 2) rfl (by rw [ex36]; rfl) (by decide) rfl (fun ls hl => ?_)
    refine lv_goto (tgt := 17) hx hb dX3_turned_33 (by decide) ?_
    exact hck28 (r32, x36) (Option.some.inj k28).symm ls (lv_sub hl [2, 1, 0] rfl)
  intro ls hl
  have hl : lv_has ls 6 [(3, .long z38)] := hl
  show W _ _ _ _ _ _ _ _ _ _ _ _ _ _ _ (F0 m 36 ls [])
  refine lv_lload_n hx hb dX3_turned_36 rfl (lv_at hl 0 rfl) ?_
  subst hQ
  exact W.lret hx hb hr (fun t ht hW => ⟨_, rfl, Option.some.inj h, ht⟩) (fun _ h9 => by cases h9) dX3_turned_37
theorem zs_X3_inCorner : yX3_inCorner.cls ≠ "java/lang/invoke/MethodHandle" ∧ yX3_inCorner.cls ≠ "java/lang/invoke/VarHandle" ∧ (parseMethodDescriptor yX3_inCorner.desc).map (fun d => d.parameters.length) = some 1 := by decide +kernel
def st_X3_inCorner_5c  (y22 : Int64) (y23 : Int32) : Option ((Int64 × Int32) ⊕ Int64) := if (3 : Int32) ≤ y23 then (some (.inr y22)) else (if (y22 &&& (65535 : Int64)) = (0 : Int64) then (hk_let (hk_ushr y22 (16 : Int32)) fun x26 => hk_let (y23 + (1 : Int32)) fun x27 => some (.inl (x26, x27))) else (some (.inr y22)))
def st_X3_inCorner_5  (t9 : (Int64 × Int32)) : Option ((Int64 × Int32) ⊕ Int64) := st_X3_inCorner_5c  t9.1 t9.2
def st_X3_inCorner_35c  (y33 : Int64) (y34 : Int32) : Option ((Int64 × Int32) ⊕ Int64) := if (3 : Int32) ≤ y34 then (some (.inr y33)) else (if (y33 &&& (4222189076152335 : Int64)) = (0 : Int64) then (hk_let (hk_ushr y33 (4 : Int32)) fun x37 => hk_let (y34 + (1 : Int32)) fun x38 => some (.inl (x37, x38))) else (some (.inr y33)))
def st_X3_inCorner_35  (t9 : (Int64 × Int32)) : Option ((Int64 × Int32) ⊕ Int64) := st_X3_inCorner_35c  t9.1 t9.2
def f_X3_inCorner   (x0 : Int64) : Option Int64 := hk_b1 (hk_wl (st_X3_inCorner_5) hkF (x0, (0 : Int32))) fun z29 => hk_b1 (hk_wl (st_X3_inCorner_35) hkF (z29, (0 : Int32))) fun z40 => some z40
set_option maxHeartbeats 8000000 in
set_option maxRecDepth 100000 in
theorem c_X3_inCorner (l : Launch) (x0 : Int64) (rv : Int64) (hf : f_X3_inCorner x0 = some rv) : Met l yX3_inCorner wsX3_inCorner ({ frames := 0, cells := 0, slots := 0, locals := 0 }) (va_Pc [.long x0] (fun _ => True)) (vp_Sl (fun r => r = rv)) 0 0 (fun _ => False) := by
  refine Met.ofW (cc := cX3_inCorner) (maxL := 5) (ret := (some .long)) (by decide) rfl ?_
  intro p e s m args below meth c s₁ B hml hv
  obtain ⟨rfl, -⟩ := hv
  have hx := B.exec
  have hb := B.bytes
  have hr := B.returns
  have hts := atoms_spec (ws := wsX3_inCorner) B.pre
  have hown : s.vm.findClass RX3 = some m.cls := findClass_of_methodNamed B.named
  have hlocks := B.notSynchronized
  have hl := lv_entry ([.long x0]) (n := 5) (Nat.le_of_ble_eq_true rfl)
  rw [lg_entry_eq]
  generalize (lg_sl ([.long x0]) ++ List.replicate (5 - (lg_sl ([.long x0])).length) Slot.unset).toArray = ls at hl ⊢
  have hl : lv_has ls 5 [(0, .long x0)] := hl
  refine hk_Q (fun Q hQ => ?_)
  have h := hf
  unfold f_X3_inCorner at h
  refine lv_lload_n hx hb dX3_inCorner_0 rfl (lv_at hl 0 rfl) ?_
  refine lv_lstore_n (lv' := [(2, .long x0), (0, .long x0)]) hx hb dX3_inCorner_1 rfl hl (by decide) rfl (fun ls hl => ?_)
  refine lv_iconst (v := (0 : Int32)) hx hb dX3_inCorner_2 (by decide) ?_
  refine lv_istore (lv' := [(4, .int (0 : Int32)), (2, .long x0), (0, .long x0)]) hx hb dX3_inCorner_3 hl (by decide) rfl (fun ls hl => ?_)
  obtain ⟨z29, hr28, h⟩ := hk_x1 h
  refine hk_loopR (f := st_X3_inCorner_5) (hd := 5) (nL := 5) (lv := fun t9 => [(2, .long t9.1), (4, .int t9.2)]) (xs := fun t9 => (32, [(2, .long t9)], [])) ?_ hr28 ?_ (lv_sub hl [1, 0] rfl)
  · intro t30 q31 k21 hck21 hqk21 ls hl
    obtain ⟨y22, y23⟩ := t30
    have k21 : st_X3_inCorner_5c  y22 y23 = some q31 := k21
    unfold st_X3_inCorner_5c at k21
    have hl : lv_has ls 5 [(2, .long y22), (4, .int y23)] := hl
    refine lv_iload hx hb dX3_inCorner_5 (lv_at hl 1 rfl) ?_
    refine lv_iconst (v := (3 : Int32)) hx hb dX3_inCorner_7 (by decide) ?_
    refine lv_icmp_ge (tgt := 32) hx hb dX3_inCorner_8 (by decide) (fun c24 => ?_) (fun c24 => ?_)
    · replace k21 := hk_ip c24 k21
      exact hqk21 y22 (Option.some.inj k21).symm ls (lv_sub hl [0] rfl)
    replace k21 := hk_in c24 k21
    refine lv_lload_n hx hb dX3_inCorner_11 rfl (lv_at hl 0 rfl) ?_
    refine lv_ldc2 (v := (65535 : Int64)) hx hb hown (hts (.constantLong RX3 49 (65535)) (List.mem_of_getElem? (i := 1) rfl)) dX3_inCorner_12 ?_
    refine lv_land hx hb dX3_inCorner_15 ?_
    refine lv_lconst (v := (0 : Int64)) hx hb dX3_inCorner_16 (by decide) ?_
    refine hk_lcmp_ne (tgt := 32) hx hb dX3_inCorner_17 dX3_inCorner_18 (by decide) (fun c25 => ?_) (fun c25 => ?_)
    · replace k21 := hk_in c25 k21
      exact hqk21 y22 (Option.some.inj k21).symm ls (lv_sub hl [0] rfl)
    replace k21 := hk_ip c25 k21
    refine lv_lload_n hx hb dX3_inCorner_21 rfl (lv_at hl 0 rfl) ?_
    refine lv_bipush (v := (16 : Int32)) hx hb dX3_inCorner_22 (by decide) ?_
    refine lv_lushr (v := (hk_ushr y22 (16 : Int32))) hx hb dX3_inCorner_24 rfl ?_
    obtain ⟨x26, ex26, k21⟩ := hk_le k21
    refine hk_tl ex26 ?_
    refine lv_lstore_n (lv' := [(2, .long x26), (4, .int y23)]) hx hb dX3_inCorner_25 rfl hl (by decide) rfl (fun ls hl => ?_)
    obtain ⟨x27, ex27, k21⟩ := hk_le k21
    refine lv_iinc (v := x27) (lv' := [(4, .int x27), (2, .long x26)]) hx hb dX3_inCorner_26 hl (k := 1) rfl (by rw [ex27]; rfl) (by decide) rfl (fun ls hl => ?_)
    refine lv_goto (tgt := 5) hx hb dX3_inCorner_29 (by decide) ?_
    exact hck21 (x26, x27) (Option.some.inj k21).symm ls (lv_sub hl [1, 0] rfl)
  intro ls hl
  have hl : lv_has ls 5 [(2, .long z29)] := hl
  show W _ _ _ _ _ _ _ _ _ _ _ _ _ _ _ (F0 m 32 ls [])
  refine lv_iconst (v := (0 : Int32)) hx hb dX3_inCorner_32 (by decide) ?_
  refine lv_istore (lv' := [(4, .int (0 : Int32)), (2, .long z29)]) hx hb dX3_inCorner_33 hl (by decide) rfl (fun ls hl => ?_)
  obtain ⟨z40, hr39, h⟩ := hk_x1 h
  refine hk_loopR (f := st_X3_inCorner_35) (hd := 35) (nL := 5) (lv := fun t9 => [(2, .long t9.1), (4, .int t9.2)]) (xs := fun t9 => (61, [(2, .long t9)], [])) ?_ hr39 ?_ (lv_sub hl [1, 0] rfl)
  · intro t41 q42 k32 hck32 hqk32 ls hl
    obtain ⟨y33, y34⟩ := t41
    have k32 : st_X3_inCorner_35c  y33 y34 = some q42 := k32
    unfold st_X3_inCorner_35c at k32
    have hl : lv_has ls 5 [(2, .long y33), (4, .int y34)] := hl
    refine lv_iload hx hb dX3_inCorner_35 (lv_at hl 1 rfl) ?_
    refine lv_iconst (v := (3 : Int32)) hx hb dX3_inCorner_37 (by decide) ?_
    refine lv_icmp_ge (tgt := 61) hx hb dX3_inCorner_38 (by decide) (fun c35 => ?_) (fun c35 => ?_)
    · replace k32 := hk_ip c35 k32
      exact hqk32 y33 (Option.some.inj k32).symm ls (lv_sub hl [0] rfl)
    replace k32 := hk_in c35 k32
    refine lv_lload_n hx hb dX3_inCorner_41 rfl (lv_at hl 0 rfl) ?_
    refine lv_ldc2 (v := (4222189076152335 : Int64)) hx hb hown (hts (.constantLong RX3 47 (4222189076152335)) (List.mem_of_getElem? (i := 2) rfl)) dX3_inCorner_42 ?_
    refine lv_land hx hb dX3_inCorner_45 ?_
    refine lv_lconst (v := (0 : Int64)) hx hb dX3_inCorner_46 (by decide) ?_
    refine hk_lcmp_ne (tgt := 61) hx hb dX3_inCorner_47 dX3_inCorner_48 (by decide) (fun c36 => ?_) (fun c36 => ?_)
    · replace k32 := hk_in c36 k32
      exact hqk32 y33 (Option.some.inj k32).symm ls (lv_sub hl [0] rfl)
    replace k32 := hk_ip c36 k32
    refine lv_lload_n hx hb dX3_inCorner_51 rfl (lv_at hl 0 rfl) ?_
    refine lv_iconst (v := (4 : Int32)) hx hb dX3_inCorner_52 (by decide) ?_
    refine lv_lushr (v := (hk_ushr y33 (4 : Int32))) hx hb dX3_inCorner_53 rfl ?_
    obtain ⟨x37, ex37, k32⟩ := hk_le k32
    refine hk_tl ex37 ?_
    refine lv_lstore_n (lv' := [(2, .long x37), (4, .int y34)]) hx hb dX3_inCorner_54 rfl hl (by decide) rfl (fun ls hl => ?_)
    obtain ⟨x38, ex38, k32⟩ := hk_le k32
    refine lv_iinc (v := x38) (lv' := [(4, .int x38), (2, .long x37)]) hx hb dX3_inCorner_55 hl (k := 1) rfl (by rw [ex38]; rfl) (by decide) rfl (fun ls hl => ?_)
    refine lv_goto (tgt := 35) hx hb dX3_inCorner_58 (by decide) ?_
    exact hck32 (x37, x38) (Option.some.inj k32).symm ls (lv_sub hl [1, 0] rfl)
  intro ls hl
  have hl : lv_has ls 5 [(2, .long z40)] := hl
  show W _ _ _ _ _ _ _ _ _ _ _ _ _ _ _ (F0 m 61 ls [])
  refine lv_lload_n hx hb dX3_inCorner_61 rfl (lv_at hl 0 rfl) ?_
  subst hQ
  exact W.lret hx hb hr (fun t ht hW => ⟨_, rfl, Option.some.inj h, ht⟩) (fun _ h9 => by cases h9) dX3_inCorner_62
theorem zs_X7_isAmong : yX7_isAmong.cls ≠ "java/lang/invoke/MethodHandle" ∧ yX7_isAmong.cls ≠ "java/lang/invoke/VarHandle" ∧ (parseMethodDescriptor yX7_isAmong.desc).map (fun d => d.parameters.length) = some 3 := by decide +kernel
def st_X7_isAmong_3c (c_p0 : Nat → Int64) (n_p0 : Nat) (x1 : Int32) (x2 : Int64) (y22 : Int32) : Option (Int32 ⊕ (Unit ⊕ Unit)) := if x1 ≤ y22 then (some (.inr (.inr ()))) else (if (Int32.ofNat n_p0) ≤ y22 then (some (.inr (.inr ()))) else (hk_gd (hk_inb y22 n_p0) (if (c_p0 y22.toNatClampNeg) = x2 then (some (.inr (.inl ()))) else (hk_let (y22 + (1 : Int32)) fun x27 => some (.inl x27)))))
def st_X7_isAmong_3 (c_p0 : Nat → Int64) (n_p0 : Nat) (x1 : Int32) (x2 : Int64) (t9 : Int32) : Option (Int32 ⊕ (Unit ⊕ Unit)) := st_X7_isAmong_3c c_p0 n_p0 x1 x2 t9
def f_X7_isAmong (c_p0 : Nat → Int64) (n_p0 : Nat) (x1 : Int32) (x2 : Int64) : Option Int32 := hk_b1 (hk_wl (st_X7_isAmong_3 c_p0 n_p0 x1 x2) hkF (0 : Int32)) fun r29 => hk_sum r29 (fun z32 => some (1 : Int32)) (fun z33 => some (0 : Int32))
set_option maxHeartbeats 8000000 in
set_option maxRecDepth 100000 in
theorem c_X7_isAmong (l : Launch) (D : va_G) (cI cJ cZ cO : ClassId) (a_p0 : Nat) (c_p0 : Nat → Int64) (n_p0 : Nat) (x1 : Int32) (x2 : Int64) (rv : Int32) (hf : f_X7_isAmong c_p0 n_p0 x1 x2 = some rv) : Met l yX7_isAmong wsX7_isAmong ({ frames := 0, cells := 0, slots := 0, locals := 0 }) (va_Pc [.ref a_p0, .int x1, .long x2] (hkR D cI cJ cZ cO [(a_p0, .inl (cJ, n_p0, .inr (.inl c_p0)))])) (vp_Si (fun r => r = rv)) 0 0 (fun _ => False) := by
  refine Met.ofW (cc := cX7_isAmong) (maxL := 5) (ret := (some .boolean)) (by decide) rfl ?_
  intro p e s m args below meth c s₁ B hml hv
  obtain ⟨rfl, hP, hK⟩ := hv
  have hx := B.exec
  have hb := B.bytes
  have hr := B.returns
  have hts := atoms_spec (ws := wsX7_isAmong) B.pre
  have hown : s.vm.findClass RX7 = some m.cls := findClass_of_methodNamed B.named
  have hlocks := B.notSynchronized
  have hN := hK.2
  have hl := lv_entry ([.ref a_p0, .int x1, .long x2]) (n := 5) (Nat.le_of_ble_eq_true rfl)
  rw [lg_entry_eq]
  generalize (lg_sl ([.ref a_p0, .int x1, .long x2]) ++ List.replicate (5 - (lg_sl ([.ref a_p0, .int x1, .long x2])).length) Slot.unset).toArray = ls at hl ⊢
  have hl : lv_has ls 5 [(0, .ref a_p0), (1, .int x1), (2, .long x2)] := hl
  refine hk_Q (fun Q hQ => ?_)
  have h := hf
  unfold f_X7_isAmong at h
  refine lv_iconst (v := (0 : Int32)) hx hb dX7_isAmong_0 (by decide) ?_
  refine lv_istore (lv' := [(4, .int (0 : Int32)), (0, .ref a_p0), (1, .int x1), (2, .long x2)]) hx hb dX7_isAmong_1 hl (by decide) rfl (fun ls hl => ?_)
  obtain ⟨r29, hr28, h⟩ := hk_x1 h
  refine hk_loopR (f := st_X7_isAmong_3 c_p0 n_p0 x1 x2) (hd := 3) (nL := 5) (lv := fun t9 => [(0, .ref a_p0), (1, .int x1), (2, .long x2), (4, .int t9)]) (xs := fun r9 => match r9 with | .inl t9 => (25, [], []) | .inr t9 => (33, [], [])) ?_ hr28 ?_ (lv_sub hl [1, 2, 3, 0] rfl)
  · intro y22 q31 k21 hck21 hqk21 ls hl
    have k21 : st_X7_isAmong_3c c_p0 n_p0 x1 x2 y22 = some q31 := k21
    unfold st_X7_isAmong_3c at k21
    have hl : lv_has ls 5 [(0, .ref a_p0), (1, .int x1), (2, .long x2), (4, .int y22)] := hl
    refine lv_iload hx hb dX7_isAmong_3 (lv_at hl 3 rfl) ?_
    refine lv_iload_n hx hb dX7_isAmong_5 rfl (lv_at hl 1 rfl) ?_
    refine lv_icmp_ge (tgt := 33) hx hb dX7_isAmong_6 (by decide) (fun c23 => ?_) (fun c23 => ?_)
    · replace k21 := hk_ip c23 k21
      exact hqk21 (.inr ()) (Option.some.inj k21).symm ls (lv_sub hl [] rfl)
    replace k21 := hk_in c23 k21
    refine lv_iload hx hb dX7_isAmong_9 (lv_at hl 3 rfl) ?_
    refine lv_aload_n hx hb dX7_isAmong_11 rfl (lv_at hl 0 rfl) ?_
    refine va_alen (v := (Int32.ofNat n_p0)) hx hb hK.1 hP 0 1 rfl rfl rfl dX7_isAmong_12 ?_
    refine lv_icmp_ge (tgt := 33) hx hb dX7_isAmong_13 (by decide) (fun c24 => ?_) (fun c24 => ?_)
    · replace k21 := hk_ip c24 k21
      exact hqk21 (.inr ()) (Option.some.inj k21).symm ls (lv_sub hl [] rfl)
    replace k21 := hk_in c24 k21
    refine lv_aload_n hx hb dX7_isAmong_16 rfl (lv_at hl 0 rfl) ?_
    refine lv_iload hx hb dX7_isAmong_17 (lv_at hl 3 rfl) ?_
    obtain ⟨hi25, k21⟩ := hk_ge k21
    refine va_lald hx hb hK.1 hP 0 1 rfl rfl (hk_inb_of hi25) dX7_isAmong_19 ?_
    refine lv_lload_n hx hb dX7_isAmong_20 rfl (lv_at hl 2 rfl) ?_
    refine hk_lcmp_ne (tgt := 27) hx hb dX7_isAmong_21 dX7_isAmong_22 (by decide) (fun c26 => ?_) (fun c26 => ?_)
    · replace k21 := hk_in c26 k21
      obtain ⟨x27, ex27, k21⟩ := hk_le k21
      refine lv_iinc (v := x27) (lv' := [(4, .int x27), (0, .ref a_p0), (1, .int x1), (2, .long x2)]) hx hb dX7_isAmong_27 hl (k := 3) rfl (by rw [ex27]; rfl) (by decide) rfl (fun ls hl => ?_)
      refine lv_goto (tgt := 3) hx hb dX7_isAmong_30 (by decide) ?_
      exact hck21 x27 (Option.some.inj k21).symm ls (lv_sub hl [1, 2, 3, 0] rfl)
    replace k21 := hk_ip c26 k21
    exact hqk21 (.inl ()) (Option.some.inj k21).symm ls (lv_sub hl [] rfl)
  intro ls hl
  rcases r29 with r29 | r29
  · replace h := hk_sa h
    generalize r29 = z32 at h hl ⊢
    have hl : lv_has ls 5 [] := hl
    show W _ _ _ _ _ _ _ _ _ _ _ _ _ _ _ (F0 m 25 ls [])
    refine lv_iconst (v := (1 : Int32)) hx hb dX7_isAmong_25 (by decide) ?_
    subst hQ
    exact W.zret hx hb hr rfl (fun t ht hW => ⟨_, rfl, Option.some.inj h, ht⟩) (fun _ h9 => by cases h9) dX7_isAmong_26
  · replace h := hk_sb h
    generalize r29 = z33 at h hl ⊢
    have hl : lv_has ls 5 [] := hl
    show W _ _ _ _ _ _ _ _ _ _ _ _ _ _ _ (F0 m 33 ls [])
    refine lv_iconst (v := (0 : Int32)) hx hb dX7_isAmong_33 (by decide) ?_
    subst hQ
    exact W.zret hx hb hr rfl (fun t ht hW => ⟨_, rfl, Option.some.inj h, ht⟩) (fun _ h9 => by cases h9) dX7_isAmong_34
theorem zs_X3_staysOnBoard : yX3_staysOnBoard.cls ≠ "java/lang/invoke/MethodHandle" ∧ yX3_staysOnBoard.cls ≠ "java/lang/invoke/VarHandle" ∧ (parseMethodDescriptor yX3_staysOnBoard.desc).map (fun d => d.parameters.length) = some 3 := by decide +kernel
def st_X3_staysOnBoard_3c (x0 : Int64) (x2 : Int32) (y22 : Int32) : Option (Int32 ⊕ (Unit ⊕ Unit)) := if (hk_abs x2) ≤ y22 then (some (.inr (.inr ()))) else (hk_let (if x2 ≤ 0 then (y22) else (((3 : Int32) - y22))) fun v26 => if (x0 &&& (hk_shl (4222189076152335 : Int64) ((4 : Int32) * v26))) = (0 : Int64) then (hk_let (y22 + (1 : Int32)) fun x28 => some (.inl x28)) else (some (.inr (.inl ()))))
def st_X3_staysOnBoard_3 (x0 : Int64) (x2 : Int32) (t9 : Int32) : Option (Int32 ⊕ (Unit ⊕ Unit)) := st_X3_staysOnBoard_3c x0 x2 t9
def st_X3_staysOnBoard_49c (x0 : Int64) (x3 : Int32) (y36 : Int32) : Option (Int32 ⊕ (Unit ⊕ Unit)) := if (hk_abs x3) ≤ y36 then (some (.inr (.inr ()))) else (hk_let (if x3 ≤ 0 then (y36) else (((3 : Int32) - y36))) fun v40 => if (x0 &&& (hk_shl (65535 : Int64) ((16 : Int32) * v40))) = (0 : Int64) then (hk_let (y36 + (1 : Int32)) fun x42 => some (.inl x42)) else (some (.inr (.inl ()))))
def st_X3_staysOnBoard_49 (x0 : Int64) (x3 : Int32) (t9 : Int32) : Option (Int32 ⊕ (Unit ⊕ Unit)) := st_X3_staysOnBoard_49c x0 x3 t9
def f_X3_staysOnBoard   (x0 : Int64) (x2 : Int32) (x3 : Int32) : Option Int32 := hk_b1 (hk_wl (st_X3_staysOnBoard_3 x0 x2) hkF (0 : Int32)) fun r30 => hk_sum r30 (fun z33 => some (0 : Int32)) (fun z34 => hk_b1 (hk_wl (st_X3_staysOnBoard_49 x0 x3) hkF (0 : Int32)) fun r44 => hk_sum r44 (fun z47 => some (0 : Int32)) (fun z48 => some (1 : Int32)))
set_option maxHeartbeats 8000000 in
set_option maxRecDepth 100000 in
theorem c_X3_staysOnBoard (l : Launch) (x0 : Int64) (x2 : Int32) (x3 : Int32) (rv : Int32) (hf : f_X3_staysOnBoard x0 x2 x3 = some rv) : Met l yX3_staysOnBoard wsX3_staysOnBoard ({ frames := 1, cells := 0, slots := 0, locals := 21 }) (va_Pc [.long x0, .int x2, .int x3] (fun _ => True)) (vp_Si (fun r => r = rv)) 0 0 (fun _ => False) := by
  refine Met.ofW (cc := cX3_staysOnBoard) (maxL := 5) (ret := (some .boolean)) (by decide) rfl ?_
  intro p e s m args below meth c s₁ B hml hv
  obtain ⟨rfl, -⟩ := hv
  have hx := B.exec
  have hb := B.bytes
  have hr := B.returns
  have hts := atoms_spec (ws := wsX3_staysOnBoard) B.pre
  have hown : s.vm.findClass RX3 = some m.cls := findClass_of_methodNamed B.named
  have hlocks := B.notSynchronized
  have hl := lv_entry ([.long x0, .int x2, .int x3]) (n := 5) (Nat.le_of_ble_eq_true rfl)
  rw [lg_entry_eq]
  generalize (lg_sl ([.long x0, .int x2, .int x3]) ++ List.replicate (5 - (lg_sl ([.long x0, .int x2, .int x3])).length) Slot.unset).toArray = ls at hl ⊢
  have hl : lv_has ls 5 [(0, .long x0), (2, .int x2), (3, .int x3)] := hl
  refine hk_Q (fun Q hQ => ?_)
  have h := hf
  unfold f_X3_staysOnBoard at h
  refine lv_iconst (v := (0 : Int32)) hx hb dX3_staysOnBoard_0 (by decide) ?_
  refine lv_istore (lv' := [(4, .int (0 : Int32)), (0, .long x0), (2, .int x2), (3, .int x3)]) hx hb dX3_staysOnBoard_1 hl (by decide) rfl (fun ls hl => ?_)
  obtain ⟨r30, hr29, h⟩ := hk_x1 h
  refine hk_loopR (f := st_X3_staysOnBoard_3 x0 x2) (hd := 3) (nL := 5) (lv := fun t9 => [(0, .long x0), (2, .int x2), (3, .int x3), (4, .int t9)]) (xs := fun r9 => match r9 with | .inl t9 => (38, [], []) | .inr t9 => (46, [(0, .long x0), (3, .int x3)], [])) ?_ hr29 ?_ (lv_sub hl [1, 2, 3, 0] rfl)
  · intro y22 q32 k21 hck21 hqk21 ls hl
    have k21 : st_X3_staysOnBoard_3c x0 x2 y22 = some q32 := k21
    unfold st_X3_staysOnBoard_3c at k21
    have hl : lv_has ls 5 [(0, .long x0), (2, .int x2), (3, .int x3), (4, .int y22)] := hl
    refine lv_iload hx hb dX3_staysOnBoard_3 (lv_at hl 3 rfl) ?_
    refine lv_iload_n hx hb dX3_staysOnBoard_5 rfl (lv_at hl 1 rfl) ?_
    refine va_mabs hx hb (hml.trans hl.1.symm) hown (hts (.methodLink RX3 41 Lib.Math.abs.name) (List.mem_of_getElem? (i := 1) rfl)) (hts (.static Lib.Math.abs.name) (List.mem_of_getElem? (i := 2) rfl)) (hts (.initialized "java/lang/Math") (List.mem_of_getElem? (i := 3) rfl)) (hts (.code Lib.Math.abs.name Lib.Math.abs.code 1 (some .int)) (List.mem_of_getElem? (i := 4) rfl)) (Nat.le_of_ble_eq_true rfl) (Nat.le_of_ble_eq_true rfl) (Nat.zero_le _) (Nat.zero_le _) dX3_staysOnBoard_6 ?_
    refine hk_ti (y := (hk_abs x2)) rfl ?_
    refine lv_icmp_ge (tgt := 46) hx hb dX3_staysOnBoard_9 (by decide) (fun c23 => ?_) (fun c23 => ?_)
    · replace k21 := hk_ip c23 k21
      exact hqk21 (.inr ()) (Option.some.inj k21).symm ls (lv_sub hl [0, 2] rfl)
    replace k21 := hk_in c23 k21
    refine lv_lload_n hx hb dX3_staysOnBoard_12 rfl (lv_at hl 0 rfl) ?_
    refine lv_ldc2 (v := (4222189076152335 : Int64)) hx hb hown (hts (.constantLong RX3 47 (4222189076152335)) (List.mem_of_getElem? (i := 5) rfl)) dX3_staysOnBoard_13 ?_
    refine lv_iconst (v := (4 : Int32)) hx hb dX3_staysOnBoard_16 (by decide) ?_
    refine lv_iload_n hx hb dX3_staysOnBoard_17 rfl (lv_at hl 1 rfl) ?_
    obtain ⟨v26, g24, k21⟩ := hk_lf k21
    refine hk_joinR (nL := 5) (xs := fun (t9 : Int32) => (30, [(0, .long x0), (2, .int x2), (3, .int x3), (4, .int y22)], [.int t9, .int (4 : Int32), .long (4222189076152335 : Int64), .long x0])) v26 (fun hjg24 => ?_) ?_
    · refine lv_if_le (tgt := 28) hx hb dX3_staysOnBoard_18 (by decide) (fun c25 => ?_) (fun c25 => ?_)
      · replace g24 := hk_ip c25 g24
        refine lv_iload hx hb dX3_staysOnBoard_28 (lv_at hl 3 rfl) ?_
        subst g24
        exact hjg24 ls (lv_sub hl [0, 1, 2, 3] rfl)
      replace g24 := hk_in c25 g24
      refine lv_iconst (v := (3 : Int32)) hx hb dX3_staysOnBoard_21 (by decide) ?_
      refine lv_iload hx hb dX3_staysOnBoard_22 (lv_at hl 3 rfl) ?_
      refine lv_isub hx hb dX3_staysOnBoard_24 ?_
      refine lv_goto (tgt := 30) hx hb dX3_staysOnBoard_25 (by decide) ?_
      subst g24
      exact hjg24 ls (lv_sub hl [0, 1, 2, 3] rfl)
    intro ls hl
    have hl : lv_has ls 5 [(0, .long x0), (2, .int x2), (3, .int x3), (4, .int y22)] := hl
    show W _ _ _ _ _ _ _ _ _ _ _ _ _ _ _ (F0 m 30 ls [.int v26, .int (4 : Int32), .long (4222189076152335 : Int64), .long x0])
    refine lv_imul hx hb dX3_staysOnBoard_30 ?_
    refine lv_lshl (v := (hk_shl (4222189076152335 : Int64) ((4 : Int32) * v26))) hx hb dX3_staysOnBoard_31 rfl ?_
    refine lv_land hx hb dX3_staysOnBoard_32 ?_
    refine lv_lconst (v := (0 : Int64)) hx hb dX3_staysOnBoard_33 (by decide) ?_
    refine hk_lcmp_eq (tgt := 40) hx hb dX3_staysOnBoard_34 dX3_staysOnBoard_35 (by decide) (fun c27 => ?_) (fun c27 => ?_)
    · replace k21 := hk_ip c27 k21
      obtain ⟨x28, ex28, k21⟩ := hk_le k21
      refine lv_iinc (v := x28) (lv' := [(4, .int x28), (0, .long x0), (2, .int x2), (3, .int x3)]) hx hb dX3_staysOnBoard_40 hl (k := 3) rfl (by rw [ex28]; rfl) (by decide) rfl (fun ls hl => ?_)
      refine lv_goto (tgt := 3) hx hb dX3_staysOnBoard_43 (by decide) ?_
      exact hck21 x28 (Option.some.inj k21).symm ls (lv_sub hl [1, 2, 3, 0] rfl)
    replace k21 := hk_in c27 k21
    exact hqk21 (.inl ()) (Option.some.inj k21).symm ls (lv_sub hl [] rfl)
  intro ls hl
  rcases r30 with r30 | r30
  · replace h := hk_sa h
    generalize r30 = z33 at h hl ⊢
    have hl : lv_has ls 5 [] := hl
    show W _ _ _ _ _ _ _ _ _ _ _ _ _ _ _ (F0 m 38 ls [])
    refine lv_iconst (v := (0 : Int32)) hx hb dX3_staysOnBoard_38 (by decide) ?_
    subst hQ
    exact W.zret hx hb hr rfl (fun t ht hW => ⟨_, rfl, Option.some.inj h, ht⟩) (fun _ h9 => by cases h9) dX3_staysOnBoard_39
  · replace h := hk_sb h
    generalize r30 = z34 at h hl ⊢
    have hl : lv_has ls 5 [(0, .long x0), (3, .int x3)] := hl
    show W _ _ _ _ _ _ _ _ _ _ _ _ _ _ _ (F0 m 46 ls [])
    refine lv_iconst (v := (0 : Int32)) hx hb dX3_staysOnBoard_46 (by decide) ?_
    refine lv_istore (lv' := [(4, .int (0 : Int32)), (0, .long x0), (3, .int x3)]) hx hb dX3_staysOnBoard_47 hl (by decide) rfl (fun ls hl => ?_)
    obtain ⟨r44, hr43, h⟩ := hk_x1 h
    refine hk_loopR (f := st_X3_staysOnBoard_49 x0 x3) (hd := 49) (nL := 5) (lv := fun t9 => [(0, .long x0), (3, .int x3), (4, .int t9)]) (xs := fun r9 => match r9 with | .inl t9 => (85, [], []) | .inr t9 => (93, [], [])) ?_ hr43 ?_ (lv_sub hl [1, 2, 0] rfl)
    · intro y36 q46 k35 hck35 hqk35 ls hl
      have k35 : st_X3_staysOnBoard_49c x0 x3 y36 = some q46 := k35
      unfold st_X3_staysOnBoard_49c at k35
      have hl : lv_has ls 5 [(0, .long x0), (3, .int x3), (4, .int y36)] := hl
      refine lv_iload hx hb dX3_staysOnBoard_49 (lv_at hl 2 rfl) ?_
      refine lv_iload_n hx hb dX3_staysOnBoard_51 rfl (lv_at hl 1 rfl) ?_
      refine va_mabs hx hb (hml.trans hl.1.symm) hown (hts (.methodLink RX3 41 Lib.Math.abs.name) (List.mem_of_getElem? (i := 1) rfl)) (hts (.static Lib.Math.abs.name) (List.mem_of_getElem? (i := 2) rfl)) (hts (.initialized "java/lang/Math") (List.mem_of_getElem? (i := 3) rfl)) (hts (.code Lib.Math.abs.name Lib.Math.abs.code 1 (some .int)) (List.mem_of_getElem? (i := 4) rfl)) (Nat.le_of_ble_eq_true rfl) (Nat.le_of_ble_eq_true rfl) (Nat.zero_le _) (Nat.zero_le _) dX3_staysOnBoard_52 ?_
      refine hk_ti (y := (hk_abs x3)) rfl ?_
      refine lv_icmp_ge (tgt := 93) hx hb dX3_staysOnBoard_55 (by decide) (fun c37 => ?_) (fun c37 => ?_)
      · replace k35 := hk_ip c37 k35
        exact hqk35 (.inr ()) (Option.some.inj k35).symm ls (lv_sub hl [] rfl)
      replace k35 := hk_in c37 k35
      refine lv_lload_n hx hb dX3_staysOnBoard_58 rfl (lv_at hl 0 rfl) ?_
      refine lv_ldc2 (v := (65535 : Int64)) hx hb hown (hts (.constantLong RX3 49 (65535)) (List.mem_of_getElem? (i := 6) rfl)) dX3_staysOnBoard_59 ?_
      refine lv_bipush (v := (16 : Int32)) hx hb dX3_staysOnBoard_62 (by decide) ?_
      refine lv_iload_n hx hb dX3_staysOnBoard_64 rfl (lv_at hl 1 rfl) ?_
      obtain ⟨v40, g38, k35⟩ := hk_lf k35
      refine hk_joinR (nL := 5) (xs := fun (t9 : Int32) => (77, [(0, .long x0), (3, .int x3), (4, .int y36)], [.int t9, .int (16 : Int32), .long (65535 : Int64), .long x0])) v40 (fun hjg38 => ?_) ?_
      · refine lv_if_le (tgt := 75) hx hb dX3_staysOnBoard_65 (by decide) (fun c39 => ?_) (fun c39 => ?_)
        · replace g38 := hk_ip c39 g38
          refine lv_iload hx hb dX3_staysOnBoard_75 (lv_at hl 2 rfl) ?_
          subst g38
          exact hjg38 ls (lv_sub hl [0, 1, 2] rfl)
        replace g38 := hk_in c39 g38
        refine lv_iconst (v := (3 : Int32)) hx hb dX3_staysOnBoard_68 (by decide) ?_
        refine lv_iload hx hb dX3_staysOnBoard_69 (lv_at hl 2 rfl) ?_
        refine lv_isub hx hb dX3_staysOnBoard_71 ?_
        refine lv_goto (tgt := 77) hx hb dX3_staysOnBoard_72 (by decide) ?_
        subst g38
        exact hjg38 ls (lv_sub hl [0, 1, 2] rfl)
      intro ls hl
      have hl : lv_has ls 5 [(0, .long x0), (3, .int x3), (4, .int y36)] := hl
      show W _ _ _ _ _ _ _ _ _ _ _ _ _ _ _ (F0 m 77 ls [.int v40, .int (16 : Int32), .long (65535 : Int64), .long x0])
      refine lv_imul hx hb dX3_staysOnBoard_77 ?_
      refine lv_lshl (v := (hk_shl (65535 : Int64) ((16 : Int32) * v40))) hx hb dX3_staysOnBoard_78 rfl ?_
      refine lv_land hx hb dX3_staysOnBoard_79 ?_
      refine lv_lconst (v := (0 : Int64)) hx hb dX3_staysOnBoard_80 (by decide) ?_
      refine hk_lcmp_eq (tgt := 87) hx hb dX3_staysOnBoard_81 dX3_staysOnBoard_82 (by decide) (fun c41 => ?_) (fun c41 => ?_)
      · replace k35 := hk_ip c41 k35
        obtain ⟨x42, ex42, k35⟩ := hk_le k35
        refine lv_iinc (v := x42) (lv' := [(4, .int x42), (0, .long x0), (3, .int x3)]) hx hb dX3_staysOnBoard_87 hl (k := 2) rfl (by rw [ex42]; rfl) (by decide) rfl (fun ls hl => ?_)
        refine lv_goto (tgt := 49) hx hb dX3_staysOnBoard_90 (by decide) ?_
        exact hck35 x42 (Option.some.inj k35).symm ls (lv_sub hl [1, 2, 0] rfl)
      replace k35 := hk_in c41 k35
      exact hqk35 (.inl ()) (Option.some.inj k35).symm ls (lv_sub hl [] rfl)
    intro ls hl
    rcases r44 with r44 | r44
    · replace h := hk_sa h
      generalize r44 = z47 at h hl ⊢
      have hl : lv_has ls 5 [] := hl
      show W _ _ _ _ _ _ _ _ _ _ _ _ _ _ _ (F0 m 85 ls [])
      refine lv_iconst (v := (0 : Int32)) hx hb dX3_staysOnBoard_85 (by decide) ?_
      subst hQ
      exact W.zret hx hb hr rfl (fun t ht hW => ⟨_, rfl, Option.some.inj h, ht⟩) (fun _ h9 => by cases h9) dX3_staysOnBoard_86
    · replace h := hk_sb h
      generalize r44 = z48 at h hl ⊢
      have hl : lv_has ls 5 [] := hl
      show W _ _ _ _ _ _ _ _ _ _ _ _ _ _ _ (F0 m 93 ls [])
      refine lv_iconst (v := (1 : Int32)) hx hb dX3_staysOnBoard_93 (by decide) ?_
      subst hQ
      exact W.zret hx hb hr rfl (fun t ht hW => ⟨_, rfl, Option.some.inj h, ht⟩) (fun _ h9 => by cases h9) dX3_staysOnBoard_94
theorem zs_X3_shifted : yX3_shifted.cls ≠ "java/lang/invoke/MethodHandle" ∧ yX3_shifted.cls ≠ "java/lang/invoke/VarHandle" ∧ (parseMethodDescriptor yX3_shifted.desc).map (fun d => d.parameters.length) = some 3 := by decide +kernel
def f_X3_shifted   (x0 : Int64) (x2 : Int32) (x3 : Int32) : Option Int64 := hk_let (((4 : Int32) * x2) + ((16 : Int32) * x3)) fun x21 => if 0 ≤ x21 then (some (hk_shl x0 x21)) else (some (hk_ushr x0 (-x21)))
set_option maxHeartbeats 8000000 in
set_option maxRecDepth 100000 in
theorem c_X3_shifted (l : Launch) (x0 : Int64) (x2 : Int32) (x3 : Int32) (rv : Int64) (hf : f_X3_shifted x0 x2 x3 = some rv) : Met l yX3_shifted wsX3_shifted ({ frames := 0, cells := 0, slots := 0, locals := 0 }) (va_Pc [.long x0, .int x2, .int x3] (fun _ => True)) (vp_Sl (fun r => r = rv)) 0 0 (fun _ => False) := by
  refine Met.ofW (cc := cX3_shifted) (maxL := 5) (ret := (some .long)) (by decide) rfl ?_
  intro p e s m args below meth c s₁ B hml hv
  obtain ⟨rfl, -⟩ := hv
  have hx := B.exec
  have hb := B.bytes
  have hr := B.returns
  have hts := atoms_spec (ws := wsX3_shifted) B.pre
  have hown : s.vm.findClass RX3 = some m.cls := findClass_of_methodNamed B.named
  have hlocks := B.notSynchronized
  have hl := lv_entry ([.long x0, .int x2, .int x3]) (n := 5) (Nat.le_of_ble_eq_true rfl)
  rw [lg_entry_eq]
  generalize (lg_sl ([.long x0, .int x2, .int x3]) ++ List.replicate (5 - (lg_sl ([.long x0, .int x2, .int x3])).length) Slot.unset).toArray = ls at hl ⊢
  have hl : lv_has ls 5 [(0, .long x0), (2, .int x2), (3, .int x3)] := hl
  refine hk_Q (fun Q hQ => ?_)
  have h := hf
  unfold f_X3_shifted at h
  refine lv_iconst (v := (4 : Int32)) hx hb dX3_shifted_0 (by decide) ?_
  refine lv_iload_n hx hb dX3_shifted_1 rfl (lv_at hl 1 rfl) ?_
  refine lv_imul hx hb dX3_shifted_2 ?_
  refine lv_bipush (v := (16 : Int32)) hx hb dX3_shifted_3 (by decide) ?_
  refine lv_iload_n hx hb dX3_shifted_5 rfl (lv_at hl 2 rfl) ?_
  refine lv_imul hx hb dX3_shifted_6 ?_
  refine lv_iadd hx hb dX3_shifted_7 ?_
  obtain ⟨x21, ex21, h⟩ := hk_le h
  refine hk_ti ex21 ?_
  refine lv_istore (lv' := [(4, .int x21), (0, .long x0), (2, .int x2), (3, .int x3)]) hx hb dX3_shifted_8 hl (by decide) rfl (fun ls hl => ?_)
  refine lv_iload hx hb dX3_shifted_10 (lv_at hl 0 rfl) ?_
  refine lv_if_ge (tgt := 23) hx hb dX3_shifted_12 (by decide) (fun c22 => ?_) (fun c22 => ?_)
  · replace h := hk_ip c22 h
    refine lv_lload_n hx hb dX3_shifted_23 rfl (lv_at hl 1 rfl) ?_
    refine lv_iload hx hb dX3_shifted_24 (lv_at hl 0 rfl) ?_
    refine lv_lshl (v := (hk_shl x0 x21)) hx hb dX3_shifted_26 rfl ?_
    subst hQ
    exact W.lret hx hb hr (fun t ht hW => ⟨_, rfl, Option.some.inj h, ht⟩) (fun _ h9 => by cases h9) dX3_shifted_27
  replace h := hk_in c22 h
  refine lv_lload_n hx hb dX3_shifted_15 rfl (lv_at hl 1 rfl) ?_
  refine lv_iload hx hb dX3_shifted_16 (lv_at hl 0 rfl) ?_
  refine lv_ineg hx hb dX3_shifted_18 ?_
  refine lv_lushr (v := (hk_ushr x0 (-x21))) hx hb dX3_shifted_19 rfl ?_
  refine lv_goto (tgt := 27) hx hb dX3_shifted_20 (by decide) ?_
  subst hQ
  exact W.lret hx hb hr (fun t ht hW => ⟨_, rfl, Option.some.inj h, ht⟩) (fun _ h9 => by cases h9) dX3_shifted_27
theorem zs_X7_isLess : yX7_isLess.cls ≠ "java/lang/invoke/MethodHandle" ∧ yX7_isLess.cls ≠ "java/lang/invoke/VarHandle" ∧ (parseMethodDescriptor yX7_isLess.desc).map (fun d => d.parameters.length) = some 2 := by decide +kernel
def f_X7_isLess   (x0 : Int64) (x2 : Int64) : Option Int32 := if (x2 ^^^ (-9223372036854775808 : Int64)) ≤ (x0 ^^^ (-9223372036854775808 : Int64)) then (some (0 : Int32)) else (some (1 : Int32))
set_option maxHeartbeats 8000000 in
set_option maxRecDepth 100000 in
theorem c_X7_isLess (l : Launch) (x0 : Int64) (x2 : Int64) (rv : Int32) (hf : f_X7_isLess x0 x2 = some rv) : Met l yX7_isLess wsX7_isLess ({ frames := 0, cells := 0, slots := 0, locals := 0 }) (va_Pc [.long x0, .long x2] (fun _ => True)) (vp_Si (fun r => r = rv)) 0 0 (fun _ => False) := by
  refine Met.ofW (cc := cX7_isLess) (maxL := 4) (ret := (some .boolean)) (by decide) rfl ?_
  intro p e s m args below meth c s₁ B hml hv
  obtain ⟨rfl, -⟩ := hv
  have hx := B.exec
  have hb := B.bytes
  have hr := B.returns
  have hts := atoms_spec (ws := wsX7_isLess) B.pre
  have hown : s.vm.findClass RX7 = some m.cls := findClass_of_methodNamed B.named
  have hlocks := B.notSynchronized
  have hl := lv_entry ([.long x0, .long x2]) (n := 4) (Nat.le_of_ble_eq_true rfl)
  rw [lg_entry_eq]
  generalize (lg_sl ([.long x0, .long x2]) ++ List.replicate (4 - (lg_sl ([.long x0, .long x2])).length) Slot.unset).toArray = ls at hl ⊢
  have hl : lv_has ls 4 [(0, .long x0), (2, .long x2)] := hl
  refine hk_Q (fun Q hQ => ?_)
  have h := hf
  unfold f_X7_isLess at h
  refine lv_lload_n hx hb dX7_isLess_0 rfl (lv_at hl 0 rfl) ?_
  refine lv_ldc2 (v := (-9223372036854775808 : Int64)) hx hb hown (hts (.constantLong RX7 199 (-9223372036854775808)) (List.mem_of_getElem? (i := 1) rfl)) dX7_isLess_1 ?_
  refine lv_lxor hx hb dX7_isLess_4 ?_
  refine lv_lload_n hx hb dX7_isLess_5 rfl (lv_at hl 1 rfl) ?_
  refine lv_ldc2 (v := (-9223372036854775808 : Int64)) hx hb hown (hts (.constantLong RX7 199 (-9223372036854775808)) (List.mem_of_getElem? (i := 1) rfl)) dX7_isLess_6 ?_
  refine lv_lxor hx hb dX7_isLess_9 ?_
  refine hk_lcmp_ge (tgt := 18) hx hb dX7_isLess_10 dX7_isLess_11 (by decide) (fun c21 => ?_) (fun c21 => ?_)
  · replace h := hk_ip c21 h
    refine lv_iconst (v := (0 : Int32)) hx hb dX7_isLess_18 (by decide) ?_
    subst hQ
    exact W.zret hx hb hr rfl (fun t ht hW => ⟨_, rfl, Option.some.inj h, ht⟩) (fun _ h9 => by cases h9) dX7_isLess_19
  replace h := hk_in c21 h
  refine lv_iconst (v := (1 : Int32)) hx hb dX7_isLess_14 (by decide) ?_
  refine lv_goto (tgt := 19) hx hb dX7_isLess_15 (by decide) ?_
  subst hQ
  exact W.zret hx hb hr rfl (fun t ht hW => ⟨_, rfl, Option.some.inj h, ht⟩) (fun _ h9 => by cases h9) dX7_isLess_19
theorem zs_X2_lowest : yX2_lowest.cls ≠ "java/lang/invoke/MethodHandle" ∧ yX2_lowest.cls ≠ "java/lang/invoke/VarHandle" ∧ (parseMethodDescriptor yX2_lowest.desc).map (fun d => d.parameters.length) = some 1 := by decide +kernel
def f_X2_lowest   (x0 : Int32) : Option Int32 := if x0 = (2 : Int32) then (some (-4 : Int32)) else (some (0 : Int32))
set_option maxHeartbeats 8000000 in
set_option maxRecDepth 100000 in
theorem c_X2_lowest (l : Launch) (x0 : Int32) (rv : Int32) (hf : f_X2_lowest x0 = some rv) : Met l yX2_lowest wsX2_lowest ({ frames := 0, cells := 0, slots := 0, locals := 0 }) (va_Pc [.int x0] (fun _ => True)) (vp_Si (fun r => r = rv)) 0 0 (fun _ => False) := by
  refine Met.ofW (cc := cX2_lowest) (maxL := 1) (ret := (some .int)) (by decide) rfl ?_
  intro p e s m args below meth c s₁ B hml hv
  obtain ⟨rfl, -⟩ := hv
  have hx := B.exec
  have hb := B.bytes
  have hr := B.returns
  have hts := atoms_spec (ws := wsX2_lowest) B.pre
  have hown : s.vm.findClass RX2 = some m.cls := findClass_of_methodNamed B.named
  have hlocks := B.notSynchronized
  have hl := lv_entry ([.int x0]) (n := 1) (Nat.le_of_ble_eq_true rfl)
  rw [lg_entry_eq]
  generalize (lg_sl ([.int x0]) ++ List.replicate (1 - (lg_sl ([.int x0])).length) Slot.unset).toArray = ls at hl ⊢
  have hl : lv_has ls 1 [(0, .int x0)] := hl
  refine hk_Q (fun Q hQ => ?_)
  have h := hf
  unfold f_X2_lowest at h
  refine lv_iload_n hx hb dX2_lowest_0 rfl (lv_at hl 0 rfl) ?_
  refine lv_iconst (v := (2 : Int32)) hx hb dX2_lowest_1 (by decide) ?_
  refine lv_icmp_ne (tgt := 10) hx hb dX2_lowest_2 (by decide) (fun c21 => ?_) (fun c21 => ?_)
  · replace h := hk_in c21 h
    refine lv_iconst (v := (0 : Int32)) hx hb dX2_lowest_10 (by decide) ?_
    subst hQ
    exact W.iret hx hb hr (fun t ht hW => ⟨_, rfl, Option.some.inj h, ht⟩) (fun _ h9 => by cases h9) dX2_lowest_11
  replace h := hk_ip c21 h
  refine lv_bipush (v := (-4 : Int32)) hx hb dX2_lowest_5 (by decide) ?_
  refine lv_goto (tgt := 11) hx hb dX2_lowest_7 (by decide) ?_
  subst hQ
  exact W.iret hx hb hr (fun t ht hW => ⟨_, rfl, Option.some.inj h, ht⟩) (fun _ h9 => by cases h9) dX2_lowest_11
theorem zs_X2_highest : yX2_highest.cls ≠ "java/lang/invoke/MethodHandle" ∧ yX2_highest.cls ≠ "java/lang/invoke/VarHandle" ∧ (parseMethodDescriptor yX2_highest.desc).map (fun d => d.parameters.length) = some 1 := by decide +kernel
def f_X2_highest   (x0 : Int32) : Option Int32 := if x0 = (3 : Int32) then (some (8 : Int32)) else (some (4 : Int32))
set_option maxHeartbeats 8000000 in
set_option maxRecDepth 100000 in
theorem c_X2_highest (l : Launch) (x0 : Int32) (rv : Int32) (hf : f_X2_highest x0 = some rv) : Met l yX2_highest wsX2_highest ({ frames := 0, cells := 0, slots := 0, locals := 0 }) (va_Pc [.int x0] (fun _ => True)) (vp_Si (fun r => r = rv)) 0 0 (fun _ => False) := by
  refine Met.ofW (cc := cX2_highest) (maxL := 1) (ret := (some .int)) (by decide) rfl ?_
  intro p e s m args below meth c s₁ B hml hv
  obtain ⟨rfl, -⟩ := hv
  have hx := B.exec
  have hb := B.bytes
  have hr := B.returns
  have hts := atoms_spec (ws := wsX2_highest) B.pre
  have hown : s.vm.findClass RX2 = some m.cls := findClass_of_methodNamed B.named
  have hlocks := B.notSynchronized
  have hl := lv_entry ([.int x0]) (n := 1) (Nat.le_of_ble_eq_true rfl)
  rw [lg_entry_eq]
  generalize (lg_sl ([.int x0]) ++ List.replicate (1 - (lg_sl ([.int x0])).length) Slot.unset).toArray = ls at hl ⊢
  have hl : lv_has ls 1 [(0, .int x0)] := hl
  refine hk_Q (fun Q hQ => ?_)
  have h := hf
  unfold f_X2_highest at h
  refine lv_iload_n hx hb dX2_highest_0 rfl (lv_at hl 0 rfl) ?_
  refine lv_iconst (v := (3 : Int32)) hx hb dX2_highest_1 (by decide) ?_
  refine lv_icmp_ne (tgt := 10) hx hb dX2_highest_2 (by decide) (fun c21 => ?_) (fun c21 => ?_)
  · replace h := hk_in c21 h
    refine lv_iconst (v := (4 : Int32)) hx hb dX2_highest_10 (by decide) ?_
    subst hQ
    exact W.iret hx hb hr (fun t ht hW => ⟨_, rfl, Option.some.inj h, ht⟩) (fun _ h9 => by cases h9) dX2_highest_11
  replace h := hk_ip c21 h
  refine lv_bipush (v := (8 : Int32)) hx hb dX2_highest_5 (by decide) ?_
  refine lv_goto (tgt := 11) hx hb dX2_highest_7 (by decide) ?_
  subst hQ
  exact W.iret hx hb hr (fun t ht hW => ⟨_, rfl, Option.some.inj h, ht⟩) (fun _ h9 => by cases h9) dX2_highest_11
theorem zs_X2_isNone : yX2_isNone.cls ≠ "java/lang/invoke/MethodHandle" ∧ yX2_isNone.cls ≠ "java/lang/invoke/VarHandle" ∧ (parseMethodDescriptor yX2_isNone.desc).map (fun d => d.parameters.length) = some 2 := by decide +kernel
def f_X2_isNone   (x0 : Int32) (x1 : Int32) : Option Int32 := if x0 < 0 then (some (1 : Int32)) else (if (4 : Int32) ≤ x0 then (some (1 : Int32)) else (hk_b1 (f_X2_lowest x0) fun r23 => if x1 < r23 then (some (1 : Int32)) else (hk_b1 (f_X2_highest x0) fun r28 => if x1 ≤ r28 then (some (0 : Int32)) else (some (1 : Int32)))))
set_option maxHeartbeats 8000000 in
set_option maxRecDepth 100000 in
theorem c_X2_isNone (l : Launch) (x0 : Int32) (x1 : Int32) (rv : Int32) (hf : f_X2_isNone x0 x1 = some rv) : Met l yX2_isNone wsX2_isNone ({ frames := 1, cells := 0, slots := 0, locals := 20 }) (va_Pc [.int x0, .int x1] (fun _ => True)) (vp_Si (fun r => r = rv)) 0 0 (fun _ => False) := by
  refine Met.ofW (cc := cX2_isNone) (maxL := 2) (ret := (some .boolean)) (by decide) rfl ?_
  intro p e s m args below meth c s₁ B hml hv
  obtain ⟨rfl, -⟩ := hv
  have hx := B.exec
  have hb := B.bytes
  have hr := B.returns
  have hts := atoms_spec (ws := wsX2_isNone) B.pre
  have hown : s.vm.findClass RX2 = some m.cls := findClass_of_methodNamed B.named
  have hlocks := B.notSynchronized
  have hl := lv_entry ([.int x0, .int x1]) (n := 2) (Nat.le_of_ble_eq_true rfl)
  rw [lg_entry_eq]
  generalize (lg_sl ([.int x0, .int x1]) ++ List.replicate (2 - (lg_sl ([.int x0, .int x1])).length) Slot.unset).toArray = ls at hl ⊢
  have hl : lv_has ls 2 [(0, .int x0), (1, .int x1)] := hl
  refine hk_Q (fun Q hQ => ?_)
  have h := hf
  unfold f_X2_isNone at h
  refine lv_iload_n hx hb dX2_isNone_0 rfl (lv_at hl 0 rfl) ?_
  refine lv_if_lt (tgt := 25) hx hb dX2_isNone_1 (by decide) (fun c21 => ?_) (fun c21 => ?_)
  · replace h := hk_ip c21 h
    refine lv_iconst (v := (1 : Int32)) hx hb dX2_isNone_25 (by decide) ?_
    refine lv_goto (tgt := 30) hx hb dX2_isNone_26 (by decide) ?_
    subst hQ
    exact W.zret hx hb hr rfl (fun t ht hW => ⟨_, rfl, Option.some.inj h, ht⟩) (fun _ h9 => by cases h9) dX2_isNone_30
  replace h := hk_in c21 h
  refine lv_iload_n hx hb dX2_isNone_4 rfl (lv_at hl 0 rfl) ?_
  refine lv_iconst (v := (4 : Int32)) hx hb dX2_isNone_5 (by decide) ?_
  refine lv_icmp_ge (tgt := 25) hx hb dX2_isNone_6 (by decide) (fun c22 => ?_) (fun c22 => ?_)
  · replace h := hk_ip c22 h
    refine lv_iconst (v := (1 : Int32)) hx hb dX2_isNone_25 (by decide) ?_
    refine lv_goto (tgt := 30) hx hb dX2_isNone_26 (by decide) ?_
    subst hQ
    exact W.zret hx hb hr rfl (fun t ht hW => ⟨_, rfl, Option.some.inj h, ht⟩) (fun _ h9 => by cases h9) dX2_isNone_30
  replace h := hk_in c22 h
  refine lv_iload_n hx hb dX2_isNone_9 rfl (lv_at hl 1 rfl) ?_
  refine lv_iload_n hx hb dX2_isNone_10 rfl (lv_at hl 0 rfl) ?_
  obtain ⟨r23, hr24, h⟩ := hk_x1 h
  refine vp_callSi (W.runS (As := [.int x0]) (rest := [.int x1]) ⟨hx, hb, hml, hown, hts⟩ (c_X2_lowest l x0 _ hr24) (va_cwS 1 hts gX2_isNone_X2_lowest rfl rfl rfl zs_X2_lowest ⟨Nat.le_of_ble_eq_true rfl, Nat.le_of_ble_eq_true rfl⟩) ⟨fun _ _ _ _ q => q, fun _ _ _ => ⟨rfl, trivial⟩⟩ rfl rfl hl.1 rfl (lv_room (Nat.le_of_ble_eq_true rfl)) dX2_isNone_11 ⟨Nat.zero_le _, Nat.zero_le _⟩) (fun p26 e25 => ?_)
  rw [e25]
  refine lv_icmp_lt (tgt := 25) hx hb dX2_isNone_14 (by decide) (fun c27 => ?_) (fun c27 => ?_)
  · replace h := hk_ip c27 h
    refine lv_iconst (v := (1 : Int32)) hx hb dX2_isNone_25 (by decide) ?_
    refine lv_goto (tgt := 30) hx hb dX2_isNone_26 (by decide) ?_
    subst hQ
    exact W.zret hx hb hr rfl (fun t ht hW => ⟨_, rfl, Option.some.inj h, ht⟩) (fun _ h9 => by cases h9) dX2_isNone_30
  replace h := hk_in c27 h
  refine lv_iload_n hx hb dX2_isNone_17 rfl (lv_at hl 1 rfl) ?_
  refine lv_iload_n hx hb dX2_isNone_18 rfl (lv_at hl 0 rfl) ?_
  obtain ⟨r28, hr29, h⟩ := hk_x1 h
  refine vp_callSi (W.runS (As := [.int x0]) (rest := [.int x1]) ⟨hx, hb, hml, hown, hts⟩ (c_X2_highest l x0 _ hr29) (va_cwS 1 hts gX2_isNone_X2_highest rfl rfl rfl zs_X2_highest ⟨Nat.le_of_ble_eq_true rfl, Nat.le_of_ble_eq_true rfl⟩) ⟨fun _ _ _ _ q => q, fun _ _ _ => ⟨rfl, trivial⟩⟩ rfl rfl hl.1 rfl (lv_room (Nat.le_of_ble_eq_true rfl)) dX2_isNone_19 ⟨Nat.zero_le _, Nat.zero_le _⟩) (fun p31 e30 => ?_)
  rw [e30]
  refine lv_icmp_le (tgt := 29) hx hb dX2_isNone_22 (by decide) (fun c32 => ?_) (fun c32 => ?_)
  · replace h := hk_ip c32 h
    refine lv_iconst (v := (0 : Int32)) hx hb dX2_isNone_29 (by decide) ?_
    subst hQ
    exact W.zret hx hb hr rfl (fun t ht hW => ⟨_, rfl, Option.some.inj h, ht⟩) (fun _ h9 => by cases h9) dX2_isNone_30
  replace h := hk_in c32 h
  refine lv_iconst (v := (1 : Int32)) hx hb dX2_isNone_25 (by decide) ?_
  refine lv_goto (tgt := 30) hx hb dX2_isNone_26 (by decide) ?_
  subst hQ
  exact W.zret hx hb hr rfl (fun t ht hW => ⟨_, rfl, Option.some.inj h, ht⟩) (fun _ h9 => by cases h9) dX2_isNone_30
theorem zs_X2_squaresFromLeft : yX2_squaresFromLeft.cls ≠ "java/lang/invoke/MethodHandle" ∧ yX2_squaresFromLeft.cls ≠ "java/lang/invoke/VarHandle" ∧ (parseMethodDescriptor yX2_squaresFromLeft.desc).map (fun d => d.parameters.length) = some 2 := by decide +kernel
def f_X2_squaresFromLeft   (x0 : Int32) (x1 : Int32) : Option Int64 := if 0 ≤ x0 then (if x0 ≤ (3 : Int32) then (some (((hk_shl (1 : Int64) ((4 : Int32) * x0)) - (1 : Int64)) ||| (hk_shl (x1.toInt64) ((4 : Int32) * x0)))) else (some (65535 : Int64))) else (some (0 : Int64))
set_option maxHeartbeats 8000000 in
set_option maxRecDepth 100000 in
theorem c_X2_squaresFromLeft (l : Launch) (x0 : Int32) (x1 : Int32) (rv : Int64) (hf : f_X2_squaresFromLeft x0 x1 = some rv) : Met l yX2_squaresFromLeft wsX2_squaresFromLeft ({ frames := 0, cells := 0, slots := 0, locals := 0 }) (va_Pc [.int x0, .int x1] (fun _ => True)) (vp_Sl (fun r => r = rv)) 0 0 (fun _ => False) := by
  refine Met.ofW (cc := cX2_squaresFromLeft) (maxL := 2) (ret := (some .long)) (by decide) rfl ?_
  intro p e s m args below meth c s₁ B hml hv
  obtain ⟨rfl, -⟩ := hv
  have hx := B.exec
  have hb := B.bytes
  have hr := B.returns
  have hts := atoms_spec (ws := wsX2_squaresFromLeft) B.pre
  have hown : s.vm.findClass RX2 = some m.cls := findClass_of_methodNamed B.named
  have hlocks := B.notSynchronized
  have hl := lv_entry ([.int x0, .int x1]) (n := 2) (Nat.le_of_ble_eq_true rfl)
  rw [lg_entry_eq]
  generalize (lg_sl ([.int x0, .int x1]) ++ List.replicate (2 - (lg_sl ([.int x0, .int x1])).length) Slot.unset).toArray = ls at hl ⊢
  have hl : lv_has ls 2 [(0, .int x0), (1, .int x1)] := hl
  refine hk_Q (fun Q hQ => ?_)
  have h := hf
  unfold f_X2_squaresFromLeft at h
  refine lv_iload_n hx hb dX2_squaresFromLeft_0 rfl (lv_at hl 0 rfl) ?_
  refine lv_if_ge (tgt := 6) hx hb dX2_squaresFromLeft_1 (by decide) (fun c21 => ?_) (fun c21 => ?_)
  · replace h := hk_ip c21 h
    refine lv_iload_n hx hb dX2_squaresFromLeft_6 rfl (lv_at hl 0 rfl) ?_
    refine lv_iconst (v := (3 : Int32)) hx hb dX2_squaresFromLeft_7 (by decide) ?_
    refine lv_icmp_le (tgt := 15) hx hb dX2_squaresFromLeft_8 (by decide) (fun c22 => ?_) (fun c22 => ?_)
    · replace h := hk_ip c22 h
      refine lv_lconst (v := (1 : Int64)) hx hb dX2_squaresFromLeft_15 (by decide) ?_
      refine lv_iconst (v := (4 : Int32)) hx hb dX2_squaresFromLeft_16 (by decide) ?_
      refine lv_iload_n hx hb dX2_squaresFromLeft_17 rfl (lv_at hl 0 rfl) ?_
      refine lv_imul hx hb dX2_squaresFromLeft_18 ?_
      refine lv_lshl (v := (hk_shl (1 : Int64) ((4 : Int32) * x0))) hx hb dX2_squaresFromLeft_19 rfl ?_
      refine lv_lconst (v := (1 : Int64)) hx hb dX2_squaresFromLeft_20 (by decide) ?_
      refine lv_lsub hx hb dX2_squaresFromLeft_21 ?_
      refine lv_iload_n hx hb dX2_squaresFromLeft_22 rfl (lv_at hl 1 rfl) ?_
      refine lv_i2l (v := (x1.toInt64)) hx hb dX2_squaresFromLeft_23 rfl ?_
      refine lv_iconst (v := (4 : Int32)) hx hb dX2_squaresFromLeft_24 (by decide) ?_
      refine lv_iload_n hx hb dX2_squaresFromLeft_25 rfl (lv_at hl 0 rfl) ?_
      refine lv_imul hx hb dX2_squaresFromLeft_26 ?_
      refine lv_lshl (v := (hk_shl (x1.toInt64) ((4 : Int32) * x0))) hx hb dX2_squaresFromLeft_27 rfl ?_
      refine lv_lor hx hb dX2_squaresFromLeft_28 ?_
      subst hQ
      exact W.lret hx hb hr (fun t ht hW => ⟨_, rfl, Option.some.inj h, ht⟩) (fun _ h9 => by cases h9) dX2_squaresFromLeft_29
    replace h := hk_in c22 h
    refine lv_ldc2 (v := (65535 : Int64)) hx hb hown (hts (.constantLong RX2 24 (65535)) (List.mem_of_getElem? (i := 1) rfl)) dX2_squaresFromLeft_11 ?_
    subst hQ
    exact W.lret hx hb hr (fun t ht hW => ⟨_, rfl, Option.some.inj h, ht⟩) (fun _ h9 => by cases h9) dX2_squaresFromLeft_14
  replace h := hk_in c21 h
  refine lv_lconst (v := (0 : Int64)) hx hb dX2_squaresFromLeft_4 (by decide) ?_
  subst hQ
  exact W.lret hx hb hr (fun t ht hW => ⟨_, rfl, Option.some.inj h, ht⟩) (fun _ h9 => by cases h9) dX2_squaresFromLeft_5
theorem zs_X2_rowAhead : yX2_rowAhead.cls ≠ "java/lang/invoke/MethodHandle" ∧ yX2_rowAhead.cls ≠ "java/lang/invoke/VarHandle" ∧ (parseMethodDescriptor yX2_rowAhead.desc).map (fun d => d.parameters.length) = some 3 := by decide +kernel
def f_X2_rowAhead   (x0 : Int32) (x1 : Int32) (x2 : Int32) : Option Int64 := if x0 = (0 : Int32) then (if x1 ≤ x2 then (some (0 : Int64)) else (some (65535 : Int64))) else (if x0 = (1 : Int32) then (hk_b1 (f_X2_squaresFromLeft x1 (0 : Int32)) fun r24 => some r24) else (if x0 = (2 : Int32) then (hk_b1 (f_X2_squaresFromLeft (x1 + x2) (12 : Int32)) fun r29 => some r29) else (hk_b1 (f_X2_squaresFromLeft ((x1 - x2) - (1 : Int32)) (9 : Int32)) fun r33 => some r33)))
set_option maxHeartbeats 8000000 in
set_option maxRecDepth 100000 in
theorem c_X2_rowAhead (l : Launch) (x0 : Int32) (x1 : Int32) (x2 : Int32) (rv : Int64) (hf : f_X2_rowAhead x0 x1 x2 = some rv) : Met l yX2_rowAhead wsX2_rowAhead ({ frames := 1, cells := 0, slots := 0, locals := 21 }) (va_Pc [.int x0, .int x1, .int x2] (fun _ => True)) (vp_Sl (fun r => r = rv)) 0 0 (fun _ => False) := by
  refine Met.ofW (cc := cX2_rowAhead) (maxL := 3) (ret := (some .long)) (by decide) rfl ?_
  intro p e s m args below meth c s₁ B hml hv
  obtain ⟨rfl, -⟩ := hv
  have hx := B.exec
  have hb := B.bytes
  have hr := B.returns
  have hts := atoms_spec (ws := wsX2_rowAhead) B.pre
  have hown : s.vm.findClass RX2 = some m.cls := findClass_of_methodNamed B.named
  have hlocks := B.notSynchronized
  have hl := lv_entry ([.int x0, .int x1, .int x2]) (n := 3) (Nat.le_of_ble_eq_true rfl)
  rw [lg_entry_eq]
  generalize (lg_sl ([.int x0, .int x1, .int x2]) ++ List.replicate (3 - (lg_sl ([.int x0, .int x1, .int x2])).length) Slot.unset).toArray = ls at hl ⊢
  have hl : lv_has ls 3 [(0, .int x0), (1, .int x1), (2, .int x2)] := hl
  refine hk_Q (fun Q hQ => ?_)
  have h := hf
  unfold f_X2_rowAhead at h
  refine lv_iload_n hx hb dX2_rowAhead_0 rfl (lv_at hl 0 rfl) ?_
  by_cases c21 : x0 = (0 : Int32)
  · replace h := hk_ip c21 h
    refine lv_tableIn (off := 27) (tgt := 28) hx hb dX2_rowAhead_1 (by rw [c21]; decide) (by rw [c21]; decide) (by rw [c21]; rfl) (by decide) ?_
    refine lv_iload_n hx hb dX2_rowAhead_28 rfl (lv_at hl 2 rfl) ?_
    refine lv_iload_n hx hb dX2_rowAhead_29 rfl (lv_at hl 1 rfl) ?_
    refine lv_icmp_ge (tgt := 39) hx hb dX2_rowAhead_30 (by decide) (fun c22 => ?_) (fun c22 => ?_)
    · replace h := hk_ip c22 h
      refine lv_lconst (v := (0 : Int64)) hx hb dX2_rowAhead_39 (by decide) ?_
      subst hQ
      exact W.lret hx hb hr (fun t ht hW => ⟨_, rfl, Option.some.inj h, ht⟩) (fun _ h9 => by cases h9) dX2_rowAhead_40
    replace h := hk_in c22 h
    refine lv_ldc2 (v := (65535 : Int64)) hx hb hown (hts (.constantLong RX2 24 (65535)) (List.mem_of_getElem? (i := 1) rfl)) dX2_rowAhead_33 ?_
    refine lv_goto (tgt := 40) hx hb dX2_rowAhead_36 (by decide) ?_
    subst hQ
    exact W.lret hx hb hr (fun t ht hW => ⟨_, rfl, Option.some.inj h, ht⟩) (fun _ h9 => by cases h9) dX2_rowAhead_40
  replace h := hk_in c21 h
  by_cases c23 : x0 = (1 : Int32)
  · replace h := hk_ip c23 h
    refine lv_tableIn (off := 40) (tgt := 41) hx hb dX2_rowAhead_1 (by rw [c23]; decide) (by rw [c23]; decide) (by rw [c23]; rfl) (by decide) ?_
    refine lv_iload_n hx hb dX2_rowAhead_41 rfl (lv_at hl 1 rfl) ?_
    refine lv_iconst (v := (0 : Int32)) hx hb dX2_rowAhead_42 (by decide) ?_
    obtain ⟨r24, hr25, h⟩ := hk_x1 h
    refine vp_callSl (W.runS (As := [.int x1, .int (0 : Int32)]) (rest := []) ⟨hx, hb, hml, hown, hts⟩ (c_X2_squaresFromLeft l x1 (0 : Int32) _ hr25) (va_cwS 2 hts gX2_rowAhead_X2_squaresFromLeft rfl rfl rfl zs_X2_squaresFromLeft ⟨Nat.le_of_ble_eq_true rfl, Nat.le_of_ble_eq_true rfl⟩) ⟨fun _ _ _ _ q => q, fun _ _ _ => ⟨rfl, trivial⟩⟩ rfl rfl hl.1 rfl (lv_room (Nat.le_of_ble_eq_true rfl)) dX2_rowAhead_43 ⟨Nat.zero_le _, Nat.zero_le _⟩) (fun p27 e26 => ?_)
    rw [e26]
    subst hQ
    exact W.lret hx hb hr (fun t ht hW => ⟨_, rfl, Option.some.inj h, ht⟩) (fun _ h9 => by cases h9) dX2_rowAhead_46
  replace h := hk_in c23 h
  by_cases c28 : x0 = (2 : Int32)
  · replace h := hk_ip c28 h
    refine lv_tableIn (off := 46) (tgt := 47) hx hb dX2_rowAhead_1 (by rw [c28]; decide) (by rw [c28]; decide) (by rw [c28]; rfl) (by decide) ?_
    refine lv_iload_n hx hb dX2_rowAhead_47 rfl (lv_at hl 1 rfl) ?_
    refine lv_iload_n hx hb dX2_rowAhead_48 rfl (lv_at hl 2 rfl) ?_
    refine lv_iadd hx hb dX2_rowAhead_49 ?_
    refine lv_bipush (v := (12 : Int32)) hx hb dX2_rowAhead_50 (by decide) ?_
    obtain ⟨r29, hr30, h⟩ := hk_x1 h
    refine vp_callSl (W.runS (As := [.int (x1 + x2), .int (12 : Int32)]) (rest := []) ⟨hx, hb, hml, hown, hts⟩ (c_X2_squaresFromLeft l (x1 + x2) (12 : Int32) _ hr30) (va_cwS 2 hts gX2_rowAhead_X2_squaresFromLeft rfl rfl rfl zs_X2_squaresFromLeft ⟨Nat.le_of_ble_eq_true rfl, Nat.le_of_ble_eq_true rfl⟩) ⟨fun _ _ _ _ q => q, fun _ _ _ => ⟨rfl, trivial⟩⟩ rfl rfl hl.1 rfl (lv_room (Nat.le_of_ble_eq_true rfl)) dX2_rowAhead_52 ⟨Nat.zero_le _, Nat.zero_le _⟩) (fun p32 e31 => ?_)
    rw [e31]
    subst hQ
    exact W.lret hx hb hr (fun t ht hW => ⟨_, rfl, Option.some.inj h, ht⟩) (fun _ h9 => by cases h9) dX2_rowAhead_55
  replace h := hk_in c28 h
  refine lv_tableOut (tgt := 56) hx hb dX2_rowAhead_1 (hk_out3 c21 c23 c28) (by decide) ?_
  refine lv_iload_n hx hb dX2_rowAhead_56 rfl (lv_at hl 1 rfl) ?_
  refine lv_iload_n hx hb dX2_rowAhead_57 rfl (lv_at hl 2 rfl) ?_
  refine lv_isub hx hb dX2_rowAhead_58 ?_
  refine lv_iconst (v := (1 : Int32)) hx hb dX2_rowAhead_59 (by decide) ?_
  refine lv_isub hx hb dX2_rowAhead_60 ?_
  refine lv_bipush (v := (9 : Int32)) hx hb dX2_rowAhead_61 (by decide) ?_
  obtain ⟨r33, hr34, h⟩ := hk_x1 h
  refine vp_callSl (W.runS (As := [.int ((x1 - x2) - (1 : Int32)), .int (9 : Int32)]) (rest := []) ⟨hx, hb, hml, hown, hts⟩ (c_X2_squaresFromLeft l ((x1 - x2) - (1 : Int32)) (9 : Int32) _ hr34) (va_cwS 2 hts gX2_rowAhead_X2_squaresFromLeft rfl rfl rfl zs_X2_squaresFromLeft ⟨Nat.le_of_ble_eq_true rfl, Nat.le_of_ble_eq_true rfl⟩) ⟨fun _ _ _ _ q => q, fun _ _ _ => ⟨rfl, trivial⟩⟩ rfl rfl hl.1 rfl (lv_room (Nat.le_of_ble_eq_true rfl)) dX2_rowAhead_63 ⟨Nat.zero_le _, Nat.zero_le _⟩) (fun p36 e35 => ?_)
  rw [e35]
  subst hQ
  exact W.lret hx hb hr (fun t ht hW => ⟨_, rfl, Option.some.inj h, ht⟩) (fun _ h9 => by cases h9) dX2_rowAhead_66
theorem zs_X2_cellsAhead : yX2_cellsAhead.cls ≠ "java/lang/invoke/MethodHandle" ∧ yX2_cellsAhead.cls ≠ "java/lang/invoke/VarHandle" ∧ (parseMethodDescriptor yX2_cellsAhead.desc).map (fun d => d.parameters.length) = some 2 := by decide +kernel
def st_X2_cellsAhead_5c (x0 : Int32) (x1 : Int32) (y22 : Int64) (y23 : Int32) : Option ((Int64 × Int32) ⊕ Int64) := if (4 : Int32) ≤ y23 then (some (.inr y22)) else (hk_b1 (f_X2_rowAhead x0 x1 y23) fun r25 => hk_let (y22 ||| (hk_shl r25 ((16 : Int32) * y23))) fun x29 => hk_let (y23 + (1 : Int32)) fun x30 => some (.inl (x29, x30)))
def st_X2_cellsAhead_5 (x0 : Int32) (x1 : Int32) (t9 : (Int64 × Int32)) : Option ((Int64 × Int32) ⊕ Int64) := st_X2_cellsAhead_5c x0 x1 t9.1 t9.2
def f_X2_cellsAhead   (x0 : Int32) (x1 : Int32) : Option Int64 := hk_b1 (hk_wl (st_X2_cellsAhead_5 x0 x1) hkF ((0 : Int64), (0 : Int32))) fun z32 => some z32
set_option maxHeartbeats 8000000 in
set_option maxRecDepth 100000 in
theorem c_X2_cellsAhead (l : Launch) (x0 : Int32) (x1 : Int32) (rv : Int64) (hf : f_X2_cellsAhead x0 x1 = some rv) : Met l yX2_cellsAhead wsX2_cellsAhead ({ frames := 2, cells := 0, slots := 0, locals := 43 }) (va_Pc [.int x0, .int x1] (fun _ => True)) (vp_Sl (fun r => r = rv)) 0 0 (fun _ => False) := by
  refine Met.ofW (cc := cX2_cellsAhead) (maxL := 5) (ret := (some .long)) (by decide) rfl ?_
  intro p e s m args below meth c s₁ B hml hv
  obtain ⟨rfl, -⟩ := hv
  have hx := B.exec
  have hb := B.bytes
  have hr := B.returns
  have hts := atoms_spec (ws := wsX2_cellsAhead) B.pre
  have hown : s.vm.findClass RX2 = some m.cls := findClass_of_methodNamed B.named
  have hlocks := B.notSynchronized
  have hl := lv_entry ([.int x0, .int x1]) (n := 5) (Nat.le_of_ble_eq_true rfl)
  rw [lg_entry_eq]
  generalize (lg_sl ([.int x0, .int x1]) ++ List.replicate (5 - (lg_sl ([.int x0, .int x1])).length) Slot.unset).toArray = ls at hl ⊢
  have hl : lv_has ls 5 [(0, .int x0), (1, .int x1)] := hl
  refine hk_Q (fun Q hQ => ?_)
  have h := hf
  unfold f_X2_cellsAhead at h
  refine lv_lconst (v := (0 : Int64)) hx hb dX2_cellsAhead_0 (by decide) ?_
  refine lv_lstore_n (lv' := [(2, .long (0 : Int64)), (0, .int x0), (1, .int x1)]) hx hb dX2_cellsAhead_1 rfl hl (by decide) rfl (fun ls hl => ?_)
  refine lv_iconst (v := (0 : Int32)) hx hb dX2_cellsAhead_2 (by decide) ?_
  refine lv_istore (lv' := [(4, .int (0 : Int32)), (2, .long (0 : Int64)), (0, .int x0), (1, .int x1)]) hx hb dX2_cellsAhead_3 hl (by decide) rfl (fun ls hl => ?_)
  obtain ⟨z32, hr31, h⟩ := hk_x1 h
  refine hk_loopR (f := st_X2_cellsAhead_5 x0 x1) (hd := 5) (nL := 5) (lv := fun t9 => [(0, .int x0), (1, .int x1), (2, .long t9.1), (4, .int t9.2)]) (xs := fun t9 => (33, [(2, .long t9)], [])) ?_ hr31 ?_ (lv_sub hl [2, 3, 1, 0] rfl)
  · intro t33 q34 k21 hck21 hqk21 ls hl
    obtain ⟨y22, y23⟩ := t33
    have k21 : st_X2_cellsAhead_5c x0 x1 y22 y23 = some q34 := k21
    unfold st_X2_cellsAhead_5c at k21
    have hl : lv_has ls 5 [(0, .int x0), (1, .int x1), (2, .long y22), (4, .int y23)] := hl
    refine lv_iload hx hb dX2_cellsAhead_5 (lv_at hl 3 rfl) ?_
    refine lv_iconst (v := (4 : Int32)) hx hb dX2_cellsAhead_7 (by decide) ?_
    refine lv_icmp_ge (tgt := 33) hx hb dX2_cellsAhead_8 (by decide) (fun c24 => ?_) (fun c24 => ?_)
    · replace k21 := hk_ip c24 k21
      exact hqk21 y22 (Option.some.inj k21).symm ls (lv_sub hl [2] rfl)
    replace k21 := hk_in c24 k21
    refine lv_lload_n hx hb dX2_cellsAhead_11 rfl (lv_at hl 2 rfl) ?_
    refine lv_iload_n hx hb dX2_cellsAhead_12 rfl (lv_at hl 0 rfl) ?_
    refine lv_iload_n hx hb dX2_cellsAhead_13 rfl (lv_at hl 1 rfl) ?_
    refine lv_iload hx hb dX2_cellsAhead_14 (lv_at hl 3 rfl) ?_
    obtain ⟨r25, hr26, k21⟩ := hk_x1 k21
    refine vp_callSl (W.runS (As := [.int x0, .int x1, .int y23]) (rest := [.long y22]) ⟨hx, hb, hml, hown, hts⟩ (c_X2_rowAhead l x0 x1 y23 _ hr26) (va_cwS 3 hts gX2_cellsAhead_X2_rowAhead rfl rfl rfl zs_X2_rowAhead ⟨Nat.le_of_ble_eq_true rfl, Nat.le_of_ble_eq_true rfl⟩) ⟨fun _ _ _ _ q => q, fun _ _ _ => ⟨rfl, trivial⟩⟩ rfl rfl hl.1 rfl (lv_room (Nat.le_of_ble_eq_true rfl)) dX2_cellsAhead_16 ⟨Nat.zero_le _, Nat.zero_le _⟩) (fun p28 e27 => ?_)
    rw [e27]
    refine lv_bipush (v := (16 : Int32)) hx hb dX2_cellsAhead_19 (by decide) ?_
    refine lv_iload hx hb dX2_cellsAhead_21 (lv_at hl 3 rfl) ?_
    refine lv_imul hx hb dX2_cellsAhead_23 ?_
    refine lv_lshl (v := (hk_shl r25 ((16 : Int32) * y23))) hx hb dX2_cellsAhead_24 rfl ?_
    refine lv_lor hx hb dX2_cellsAhead_25 ?_
    obtain ⟨x29, ex29, k21⟩ := hk_le k21
    refine hk_tl ex29 ?_
    refine lv_lstore_n (lv' := [(2, .long x29), (0, .int x0), (1, .int x1), (4, .int y23)]) hx hb dX2_cellsAhead_26 rfl hl (by decide) rfl (fun ls hl => ?_)
    obtain ⟨x30, ex30, k21⟩ := hk_le k21
    refine lv_iinc (v := x30) (lv' := [(4, .int x30), (2, .long x29), (0, .int x0), (1, .int x1)]) hx hb dX2_cellsAhead_27 hl (k := 3) rfl (by rw [ex30]; rfl) (by decide) rfl (fun ls hl => ?_)
    refine lv_goto (tgt := 5) hx hb dX2_cellsAhead_30 (by decide) ?_
    exact hck21 (x29, x30) (Option.some.inj k21).symm ls (lv_sub hl [2, 3, 1, 0] rfl)
  intro ls hl
  have hl : lv_has ls 5 [(2, .long z32)] := hl
  show W _ _ _ _ _ _ _ _ _ _ _ _ _ _ _ (F0 m 33 ls [])
  refine lv_lload_n hx hb dX2_cellsAhead_33 rfl (lv_at hl 0 rfl) ?_
  subst hQ
  exact W.lret hx hb hr (fun t ht hW => ⟨_, rfl, Option.some.inj h, ht⟩) (fun _ h9 => by cases h9) dX2_cellsAhead_34
theorem zs_X2_countHalving : yX2_countHalving.cls ≠ "java/lang/invoke/MethodHandle" ∧ yX2_countHalving.cls ≠ "java/lang/invoke/VarHandle" ∧ (parseMethodDescriptor yX2_countHalving.desc).map (fun d => d.parameters.length) = some 1 := by decide +kernel
def st_X2_countHalving_23c (x0 : Int64) (y24 : Int32) (y31 : Int32) (y32 : Int32) : Option ((Int32 × Int32) ⊕ Int32) := hk_b1 (f_X2_highest y24) fun r33 => if r33 < y32 then (some (.inr y31)) else (hk_b1 (f_X2_cellsAhead y24 y32) fun r38 => hk_b1 (f_J13_bitCount_95d88 (x0 &&& r38)) fun r42 => hk_b1 (f_J13_bitCount_95d88 (x0 &&& (r38 ^^^ (-1 : Int64)))) fun r46 => hk_let (if r42 = r46 then (hk_let (y31 + (1 : Int32)) fun x52 => x52) else (y31)) fun v53 => hk_let (y32 + (1 : Int32)) fun x54 => some (.inl (v53, x54)))
def st_X2_countHalving_23 (x0 : Int64) (y24 : Int32) (t9 : (Int32 × Int32)) : Option ((Int32 × Int32) ⊕ Int32) := st_X2_countHalving_23c x0 y24 t9.1 t9.2
def st_X2_countHalving_12c (x0 : Int64) (y23 : Int32) (y24 : Int32) : Option ((Int32 × Int32) ⊕ Int32) := if (4 : Int32) ≤ y24 then (some (.inr y23)) else (hk_b1 (f_X2_lowest y24) fun r26 => hk_b1 (hk_wl (st_X2_countHalving_23 x0 y24) hkF (y23, r26)) fun z56 => hk_let (y24 + (1 : Int32)) fun x59 => some (.inl (z56, x59)))
def st_X2_countHalving_12 (x0 : Int64) (t9 : (Int32 × Int32)) : Option ((Int32 × Int32) ⊕ Int32) := st_X2_countHalving_12c x0 t9.1 t9.2
def f_X2_countHalving   (x0 : Int64) : Option Int32 := if x0 = (0 : Int64) then (some (0 : Int32)) else (hk_b1 (hk_wl (st_X2_countHalving_12 x0) hkF ((0 : Int32), (0 : Int32))) fun z61 => some z61)
set_option maxHeartbeats 8000000 in
set_option maxRecDepth 100000 in
theorem c_X2_countHalving (l : Launch) (x0 : Int64) (rv : Int32) (hf : f_X2_countHalving x0 = some rv) : Met l yX2_countHalving wsX2_countHalving ({ frames := 3, cells := 0, slots := 0, locals := 67 }) (va_Pc [.long x0] (fun _ => True)) (vp_Si (fun r => r = rv)) 0 0 (fun _ => False) := by
  refine Met.ofW (cc := cX2_countHalving) (maxL := 7) (ret := (some .int)) (by decide) rfl ?_
  intro p e s m args below meth c s₁ B hml hv
  obtain ⟨rfl, -⟩ := hv
  have hx := B.exec
  have hb := B.bytes
  have hr := B.returns
  have hts := atoms_spec (ws := wsX2_countHalving) B.pre
  have hown : s.vm.findClass RX2 = some m.cls := findClass_of_methodNamed B.named
  have hlocks := B.notSynchronized
  have hl := lv_entry ([.long x0]) (n := 7) (Nat.le_of_ble_eq_true rfl)
  rw [lg_entry_eq]
  generalize (lg_sl ([.long x0]) ++ List.replicate (7 - (lg_sl ([.long x0])).length) Slot.unset).toArray = ls at hl ⊢
  have hl : lv_has ls 7 [(0, .long x0)] := hl
  refine hk_Q (fun Q hQ => ?_)
  have h := hf
  unfold f_X2_countHalving at h
  refine lv_lload_n hx hb dX2_countHalving_0 rfl (lv_at hl 0 rfl) ?_
  refine lv_lconst (v := (0 : Int64)) hx hb dX2_countHalving_1 (by decide) ?_
  refine hk_lcmp_ne (tgt := 8) hx hb dX2_countHalving_2 dX2_countHalving_3 (by decide) (fun c21 => ?_) (fun c21 => ?_)
  · replace h := hk_in c21 h
    refine lv_iconst (v := (0 : Int32)) hx hb dX2_countHalving_8 (by decide) ?_
    refine lv_istore_n (lv' := [(2, .int (0 : Int32)), (0, .long x0)]) hx hb dX2_countHalving_9 rfl hl (by decide) rfl (fun ls hl => ?_)
    refine lv_iconst (v := (0 : Int32)) hx hb dX2_countHalving_10 (by decide) ?_
    refine lv_istore_n (lv' := [(3, .int (0 : Int32)), (2, .int (0 : Int32)), (0, .long x0)]) hx hb dX2_countHalving_11 rfl hl (by decide) rfl (fun ls hl => ?_)
    obtain ⟨z61, hr60, h⟩ := hk_x1 h
    refine hk_loopR (f := st_X2_countHalving_12 x0) (hd := 12) (nL := 7) (lv := fun t9 => [(0, .long x0), (2, .int t9.1), (3, .int t9.2)]) (xs := fun t9 => (76, [(2, .int t9)], [])) ?_ hr60 ?_ (lv_sub hl [2, 1, 0] rfl)
    · intro t62 q63 k22 hck22 hqk22 ls hl
      obtain ⟨y23, y24⟩ := t62
      have k22 : st_X2_countHalving_12c x0 y23 y24 = some q63 := k22
      unfold st_X2_countHalving_12c at k22
      have hl : lv_has ls 7 [(0, .long x0), (2, .int y23), (3, .int y24)] := hl
      refine lv_iload_n hx hb dX2_countHalving_12 rfl (lv_at hl 2 rfl) ?_
      refine lv_iconst (v := (4 : Int32)) hx hb dX2_countHalving_13 (by decide) ?_
      refine lv_icmp_ge (tgt := 76) hx hb dX2_countHalving_14 (by decide) (fun c25 => ?_) (fun c25 => ?_)
      · replace k22 := hk_ip c25 k22
        exact hqk22 y23 (Option.some.inj k22).symm ls (lv_sub hl [1] rfl)
      replace k22 := hk_in c25 k22
      refine lv_iload_n hx hb dX2_countHalving_17 rfl (lv_at hl 2 rfl) ?_
      obtain ⟨r26, hr27, k22⟩ := hk_x1 k22
      refine vp_callSi (W.runS (As := [.int y24]) (rest := []) ⟨hx, hb, hml, hown, hts⟩ (c_X2_lowest l y24 _ hr27) (va_cwS 1 hts gX2_countHalving_X2_lowest rfl rfl rfl zs_X2_lowest ⟨Nat.le_of_ble_eq_true rfl, Nat.le_of_ble_eq_true rfl⟩) ⟨fun _ _ _ _ q => q, fun _ _ _ => ⟨rfl, trivial⟩⟩ rfl rfl hl.1 rfl (lv_room (Nat.le_of_ble_eq_true rfl)) dX2_countHalving_18 ⟨Nat.zero_le _, Nat.zero_le _⟩) (fun p29 e28 => ?_)
      rw [e28]
      refine lv_istore (lv' := [(4, .int r26), (0, .long x0), (2, .int y23), (3, .int y24)]) hx hb dX2_countHalving_21 hl (by decide) rfl (fun ls hl => ?_)
      obtain ⟨z56, hr55, k22⟩ := hk_x1 k22
      refine hk_loopR (f := st_X2_countHalving_23 x0 y24) (hd := 23) (nL := 7) (lv := fun t9 => [(0, .long x0), (2, .int t9.1), (3, .int y24), (4, .int t9.2)]) (xs := fun t9 => (70, [(0, .long x0), (2, .int t9), (3, .int y24)], [])) ?_ hr55 ?_ (lv_sub hl [1, 2, 3, 0] rfl)
      · intro t57 q58 k30 hck30 hqk30 ls hl
        obtain ⟨y31, y32⟩ := t57
        have k30 : st_X2_countHalving_23c x0 y24 y31 y32 = some q58 := k30
        unfold st_X2_countHalving_23c at k30
        have hl : lv_has ls 7 [(0, .long x0), (2, .int y31), (3, .int y24), (4, .int y32)] := hl
        refine lv_iload hx hb dX2_countHalving_23 (lv_at hl 3 rfl) ?_
        refine lv_iload_n hx hb dX2_countHalving_25 rfl (lv_at hl 2 rfl) ?_
        obtain ⟨r33, hr34, k30⟩ := hk_x1 k30
        refine vp_callSi (W.runS (As := [.int y24]) (rest := [.int y32]) ⟨hx, hb, hml, hown, hts⟩ (c_X2_highest l y24 _ hr34) (va_cwS 1 hts gX2_countHalving_X2_highest rfl rfl rfl zs_X2_highest ⟨Nat.le_of_ble_eq_true rfl, Nat.le_of_ble_eq_true rfl⟩) ⟨fun _ _ _ _ q => q, fun _ _ _ => ⟨rfl, trivial⟩⟩ rfl rfl hl.1 rfl (lv_room (Nat.le_of_ble_eq_true rfl)) dX2_countHalving_26 ⟨Nat.zero_le _, Nat.zero_le _⟩) (fun p36 e35 => ?_)
        rw [e35]
        refine lv_icmp_gt (tgt := 70) hx hb dX2_countHalving_29 (by decide) (fun c37 => ?_) (fun c37 => ?_)
        · replace k30 := hk_ip c37 k30
          exact hqk30 y31 (Option.some.inj k30).symm ls (lv_sub hl [0, 1, 2] rfl)
        replace k30 := hk_in c37 k30
        refine lv_iload_n hx hb dX2_countHalving_32 rfl (lv_at hl 2 rfl) ?_
        refine lv_iload hx hb dX2_countHalving_33 (lv_at hl 3 rfl) ?_
        obtain ⟨r38, hr39, k30⟩ := hk_x1 k30
        refine vp_callSl (W.runS (As := [.int y24, .int y32]) (rest := []) ⟨hx, hb, hml, hown, hts⟩ (c_X2_cellsAhead l y24 y32 _ hr39) (va_cwS 2 hts gX2_countHalving_X2_cellsAhead rfl rfl rfl zs_X2_cellsAhead ⟨Nat.le_of_ble_eq_true rfl, Nat.le_of_ble_eq_true rfl⟩) ⟨fun _ _ _ _ q => q, fun _ _ _ => ⟨rfl, trivial⟩⟩ rfl rfl hl.1 rfl (lv_room (Nat.le_of_ble_eq_true rfl)) dX2_countHalving_35 ⟨Nat.zero_le _, Nat.zero_le _⟩) (fun p41 e40 => ?_)
        rw [e40]
        refine lv_lstore (lv' := [(5, .long r38), (0, .long x0), (2, .int y31), (3, .int y24), (4, .int y32)]) hx hb dX2_countHalving_38 hl (by decide) rfl (fun ls hl => ?_)
        refine lv_lload_n hx hb dX2_countHalving_40 rfl (lv_at hl 1 rfl) ?_
        refine lv_lload hx hb dX2_countHalving_41 (lv_at hl 0 rfl) ?_
        refine lv_land hx hb dX2_countHalving_43 ?_
        obtain ⟨r42, hr43, k30⟩ := hk_x1 k30
        refine vp_callSi (W.runS (As := [.long (x0 &&& r38)]) (rest := []) ⟨hx, hb, hml, hown, hts⟩ (c_J13_bitCount_95d88 l (x0 &&& r38) _ hr43) (va_cwS 1 hts gX2_countHalving_J13_bitCount_95d88 rfl rfl rfl zs_J13_bitCount_95d88 ⟨Nat.le_of_ble_eq_true rfl, Nat.le_of_ble_eq_true rfl⟩) ⟨fun _ _ _ _ q => q, fun _ _ _ => ⟨rfl, trivial⟩⟩ rfl rfl hl.1 rfl (lv_room (Nat.le_of_ble_eq_true rfl)) dX2_countHalving_44 ⟨Nat.zero_le _, Nat.zero_le _⟩) (fun p45 e44 => ?_)
        rw [e44]
        refine lv_lload_n hx hb dX2_countHalving_47 rfl (lv_at hl 1 rfl) ?_
        refine lv_lload hx hb dX2_countHalving_48 (lv_at hl 0 rfl) ?_
        refine lv_ldc2 (v := (-1 : Int64)) hx hb hown (hts (.constantLong RX2 39 (-1)) (List.mem_of_getElem? (i := 1) rfl)) dX2_countHalving_50 ?_
        refine lv_lxor hx hb dX2_countHalving_53 ?_
        refine lv_land hx hb dX2_countHalving_54 ?_
        obtain ⟨r46, hr47, k30⟩ := hk_x1 k30
        refine vp_callSi (W.runS (As := [.long (x0 &&& (r38 ^^^ (-1 : Int64)))]) (rest := [.int r42]) ⟨hx, hb, hml, hown, hts⟩ (c_J13_bitCount_95d88 l (x0 &&& (r38 ^^^ (-1 : Int64))) _ hr47) (va_cwS 1 hts gX2_countHalving_J13_bitCount_95d88 rfl rfl rfl zs_J13_bitCount_95d88 ⟨Nat.le_of_ble_eq_true rfl, Nat.le_of_ble_eq_true rfl⟩) ⟨fun _ _ _ _ q => q, fun _ _ _ => ⟨rfl, trivial⟩⟩ rfl rfl hl.1 rfl (lv_room (Nat.le_of_ble_eq_true rfl)) dX2_countHalving_55 ⟨Nat.zero_le _, Nat.zero_le _⟩) (fun p49 e48 => ?_)
        rw [e48]
        obtain ⟨v53, g50, k30⟩ := hk_lf k30
        refine hk_joinR (nL := 7) (xs := fun (t9 : Int32) => (64, [(0, .long x0), (2, .int t9), (3, .int y24), (4, .int y32)], [])) v53 (fun hjg50 => ?_) ?_
        · refine lv_icmp_ne (tgt := 64) hx hb dX2_countHalving_58 (by decide) (fun c51 => ?_) (fun c51 => ?_)
          · replace g50 := hk_in c51 g50
            subst g50
            exact hjg50 ls (lv_sub hl [1, 2, 3, 4] rfl)
          replace g50 := hk_ip c51 g50
          obtain ⟨x52, ex52, g50⟩ := hk_le g50
          refine lv_iinc (v := x52) (lv' := [(2, .int x52), (5, .long r38), (0, .long x0), (3, .int y24), (4, .int y32)]) hx hb dX2_countHalving_61 hl (k := 2) rfl (by rw [ex52]; rfl) (by decide) rfl (fun ls hl => ?_)
          subst g50
          exact hjg50 ls (lv_sub hl [2, 0, 3, 4] rfl)
        intro ls hl
        have hl : lv_has ls 7 [(0, .long x0), (2, .int v53), (3, .int y24), (4, .int y32)] := hl
        show W _ _ _ _ _ _ _ _ _ _ _ _ _ _ _ (F0 m 64 ls [])
        obtain ⟨x54, ex54, k30⟩ := hk_le k30
        refine lv_iinc (v := x54) (lv' := [(4, .int x54), (0, .long x0), (2, .int v53), (3, .int y24)]) hx hb dX2_countHalving_64 hl (k := 3) rfl (by rw [ex54]; rfl) (by decide) rfl (fun ls hl => ?_)
        refine lv_goto (tgt := 23) hx hb dX2_countHalving_67 (by decide) ?_
        exact hck30 (v53, x54) (Option.some.inj k30).symm ls (lv_sub hl [1, 2, 3, 0] rfl)
      intro ls hl
      have hl : lv_has ls 7 [(0, .long x0), (2, .int z56), (3, .int y24)] := hl
      show W _ _ _ _ _ _ _ _ _ _ _ _ _ _ _ (F0 m 70 ls [])
      obtain ⟨x59, ex59, k22⟩ := hk_le k22
      refine lv_iinc (v := x59) (lv' := [(3, .int x59), (0, .long x0), (2, .int z56)]) hx hb dX2_countHalving_70 hl (k := 2) rfl (by rw [ex59]; rfl) (by decide) rfl (fun ls hl => ?_)
      refine lv_goto (tgt := 12) hx hb dX2_countHalving_73 (by decide) ?_
      exact hck22 (z56, x59) (Option.some.inj k22).symm ls (lv_sub hl [1, 2, 0] rfl)
    intro ls hl
    have hl : lv_has ls 7 [(2, .int z61)] := hl
    show W _ _ _ _ _ _ _ _ _ _ _ _ _ _ _ (F0 m 76 ls [])
    refine lv_iload_n hx hb dX2_countHalving_76 rfl (lv_at hl 0 rfl) ?_
    subst hQ
    exact W.iret hx hb hr (fun t ht hW => ⟨_, rfl, Option.some.inj h, ht⟩) (fun _ h9 => by cases h9) dX2_countHalving_77
  replace h := hk_ip c21 h
  refine lv_iconst (v := (0 : Int32)) hx hb dX2_countHalving_6 (by decide) ?_
  subst hQ
  exact W.iret hx hb hr (fun t ht hW => ⟨_, rfl, Option.some.inj h, ht⟩) (fun _ h9 => by cases h9) dX2_countHalving_7
theorem zs_X3_leastForm : yX3_leastForm.cls ≠ "java/lang/invoke/MethodHandle" ∧ yX3_leastForm.cls ≠ "java/lang/invoke/VarHandle" ∧ (parseMethodDescriptor yX3_leastForm.desc).map (fun d => d.parameters.length) = some 1 := by decide +kernel
def st_X3_leastForm_8c (x0 : Int64) (y26 : Int64) (y27 : Int32) : Option ((Int64 × Int32) ⊕ Int64) := if (8 : Int32) ≤ y27 then (some (.inr y26)) else (hk_b1 (f_X3_turned x0 y27) fun r29 => hk_b1 (f_X3_inCorner r29) fun r33 => hk_b1 (f_X7_isLess r33 y26) fun r37 => hk_let (if r37 = 0 then (y26) else (r33)) fun v43 => hk_let (y27 + (1 : Int32)) fun x44 => some (.inl (v43, x44)))
def st_X3_leastForm_8 (x0 : Int64) (t9 : (Int64 × Int32)) : Option ((Int64 × Int32) ⊕ Int64) := st_X3_leastForm_8c x0 t9.1 t9.2
def f_X3_leastForm   (x0 : Int64) : Option Int64 := hk_b1 (f_X3_inCorner x0) fun r21 => hk_b1 (hk_wl (st_X3_leastForm_8 x0) hkF (r21, (1 : Int32))) fun z46 => some z46
set_option maxHeartbeats 8000000 in
set_option maxRecDepth 100000 in
theorem c_X3_leastForm (l : Launch) (x0 : Int64) (rv : Int64) (hf : f_X3_leastForm x0 = some rv) : Met l yX3_leastForm wsX3_leastForm ({ frames := 4, cells := 0, slots := 0, locals := 95 }) (va_Pc [.long x0] (hkN)) (vp_Sl (fun r => r = rv)) 0 0 (fun _ => False) := by
  refine Met.ofW (cc := cX3_leastForm) (maxL := 7) (ret := (some .long)) (by decide) rfl ?_
  intro p e s m args below meth c s₁ B hml hv
  obtain ⟨rfl, hN⟩ := hv
  have hx := B.exec
  have hb := B.bytes
  have hr := B.returns
  have hts := atoms_spec (ws := wsX3_leastForm) B.pre
  have hown : s.vm.findClass RX3 = some m.cls := findClass_of_methodNamed B.named
  have hlocks := B.notSynchronized
  have hl := lv_entry ([.long x0]) (n := 7) (Nat.le_of_ble_eq_true rfl)
  rw [lg_entry_eq]
  generalize (lg_sl ([.long x0]) ++ List.replicate (7 - (lg_sl ([.long x0])).length) Slot.unset).toArray = ls at hl ⊢
  have hl : lv_has ls 7 [(0, .long x0)] := hl
  refine hk_Q (fun Q hQ => ?_)
  have h := hf
  unfold f_X3_leastForm at h
  refine lv_lload_n hx hb dX3_leastForm_0 rfl (lv_at hl 0 rfl) ?_
  obtain ⟨r21, hr22, h⟩ := hk_x1 h
  refine vp_callSl (W.runS (As := [.long x0]) (rest := []) ⟨hx, hb, hml, hown, hts⟩ (c_X3_inCorner l x0 _ hr22) (va_cwS 1 hts gX3_leastForm_X3_inCorner rfl rfl rfl zs_X3_inCorner ⟨Nat.le_of_ble_eq_true rfl, Nat.le_of_ble_eq_true rfl⟩) ⟨fun _ _ _ _ q => q, fun _ _ _ => ⟨rfl, trivial⟩⟩ rfl rfl hl.1 rfl (lv_room (Nat.le_of_ble_eq_true rfl)) dX3_leastForm_1 ⟨Nat.zero_le _, Nat.zero_le _⟩) (fun p24 e23 => ?_)
  rw [e23]
  refine lv_lstore_n (lv' := [(2, .long r21), (0, .long x0)]) hx hb dX3_leastForm_4 rfl hl (by decide) rfl (fun ls hl => ?_)
  refine lv_iconst (v := (1 : Int32)) hx hb dX3_leastForm_5 (by decide) ?_
  refine lv_istore (lv' := [(4, .int (1 : Int32)), (2, .long r21), (0, .long x0)]) hx hb dX3_leastForm_6 hl (by decide) rfl (fun ls hl => ?_)
  obtain ⟨z46, hr45, h⟩ := hk_x1 h
  refine hk_loopR (f := st_X3_leastForm_8 x0) (hd := 8) (nL := 7) (lv := fun t9 => [(0, .long x0), (2, .long t9.1), (4, .int t9.2)]) (xs := fun t9 => (44, [(2, .long t9)], [])) ?_ hr45 ?_ (lv_sub hl [2, 1, 0] rfl)
  · intro t47 q48 k25 hck25 hqk25 ls hl
    obtain ⟨y26, y27⟩ := t47
    have k25 : st_X3_leastForm_8c x0 y26 y27 = some q48 := k25
    unfold st_X3_leastForm_8c at k25
    have hl : lv_has ls 7 [(0, .long x0), (2, .long y26), (4, .int y27)] := hl
    refine lv_iload hx hb dX3_leastForm_8 (lv_at hl 2 rfl) ?_
    refine lv_bipush (v := (8 : Int32)) hx hb dX3_leastForm_10 (by decide) ?_
    refine lv_icmp_ge (tgt := 44) hx hb dX3_leastForm_12 (by decide) (fun c28 => ?_) (fun c28 => ?_)
    · replace k25 := hk_ip c28 k25
      exact hqk25 y26 (Option.some.inj k25).symm ls (lv_sub hl [1] rfl)
    replace k25 := hk_in c28 k25
    refine lv_lload_n hx hb dX3_leastForm_15 rfl (lv_at hl 0 rfl) ?_
    refine lv_iload hx hb dX3_leastForm_16 (lv_at hl 2 rfl) ?_
    obtain ⟨r29, hr30, k25⟩ := hk_x1 k25
    refine vp_callSl (W.runS (As := [.long x0, .int y27]) (rest := []) ⟨hx, hb, hml, hown, hts⟩ (c_X3_turned l x0 y27 _ hr30) (va_cwS 2 hts gX3_leastForm_X3_turned rfl rfl rfl zs_X3_turned ⟨Nat.le_of_ble_eq_true rfl, Nat.le_of_ble_eq_true rfl⟩) ⟨fun _ _ _ _ q => q, fun _ _ _ => ⟨rfl, trivial⟩⟩ rfl rfl hl.1 rfl (lv_room (Nat.le_of_ble_eq_true rfl)) dX3_leastForm_18 ⟨Nat.zero_le _, Nat.zero_le _⟩) (fun p32 e31 => ?_)
    rw [e31]
    obtain ⟨r33, hr34, k25⟩ := hk_x1 k25
    refine vp_callSl (W.runS (As := [.long r29]) (rest := []) ⟨hx, hb, hml, hown, hts⟩ (c_X3_inCorner l r29 _ hr34) (va_cwS 1 hts gX3_leastForm_X3_inCorner rfl rfl rfl zs_X3_inCorner ⟨Nat.le_of_ble_eq_true rfl, Nat.le_of_ble_eq_true rfl⟩) ⟨fun _ _ _ _ q => q, fun _ _ _ => ⟨rfl, trivial⟩⟩ rfl rfl hl.1 rfl (lv_room (Nat.le_of_ble_eq_true rfl)) dX3_leastForm_21 ⟨Nat.zero_le _, Nat.zero_le _⟩) (fun p36 e35 => ?_)
    rw [e35]
    refine lv_lstore (lv' := [(5, .long r33), (0, .long x0), (2, .long y26), (4, .int y27)]) hx hb dX3_leastForm_24 hl (by decide) rfl (fun ls hl => ?_)
    refine lv_lload hx hb dX3_leastForm_26 (lv_at hl 0 rfl) ?_
    refine lv_lload_n hx hb dX3_leastForm_28 rfl (lv_at hl 2 rfl) ?_
    obtain ⟨r37, hr38, k25⟩ := hk_x1 k25
    refine vp_callSi (va_Run.run (va_runSN (As := [.long r33, .long y26]) (rest := []) ⟨hx, hb, hml, hown, hts⟩ (c_X7_isLess l r33 y26 _ hr38) ⟨va_cnB 2 hts ggX3_leastForm_X7_isLess rfl rfl rfl hN.2.2.2.1 (hts (.initialized RX7) (List.mem_of_getElem? (i := 30) rfl)) zs_X7_isLess ⟨Nat.le_of_ble_eq_true rfl, Nat.le_of_ble_eq_true rfl⟩, (hts (.static yX7_isLess) (List.mem_of_getElem? (i := 29) rfl)), trivial⟩ ⟨fun _ _ _ _ q => q, fun _ _ _ => ⟨rfl, trivial⟩⟩ rfl rfl hl.1 rfl (lv_room (Nat.le_of_ble_eq_true rfl)) dX3_leastForm_29 ⟨Nat.zero_le _, Nat.zero_le _⟩)) (fun p40 e39 => ?_)
    rw [e39]
    obtain ⟨v43, g41, k25⟩ := hk_lf k25
    refine hk_joinR (nL := 7) (xs := fun (t9 : Int64) => (38, [(0, .long x0), (2, .long t9), (4, .int y27)], [])) v43 (fun hjg41 => ?_) ?_
    · refine lv_if_eq (tgt := 38) hx hb dX3_leastForm_32 (by decide) (fun c42 => ?_) (fun c42 => ?_)
      · replace g41 := hk_ip c42 g41
        subst g41
        exact hjg41 ls (lv_sub hl [1, 2, 3] rfl)
      replace g41 := hk_in c42 g41
      refine lv_lload hx hb dX3_leastForm_35 (lv_at hl 0 rfl) ?_
      refine lv_lstore_n (lv' := [(2, .long r33), (5, .long r33), (0, .long x0), (4, .int y27)]) hx hb dX3_leastForm_37 rfl hl (by decide) rfl (fun ls hl => ?_)
      subst g41
      exact hjg41 ls (lv_sub hl [2, 0, 3] rfl)
    intro ls hl
    have hl : lv_has ls 7 [(0, .long x0), (2, .long v43), (4, .int y27)] := hl
    show W _ _ _ _ _ _ _ _ _ _ _ _ _ _ _ (F0 m 38 ls [])
    obtain ⟨x44, ex44, k25⟩ := hk_le k25
    refine lv_iinc (v := x44) (lv' := [(4, .int x44), (0, .long x0), (2, .long v43)]) hx hb dX3_leastForm_38 hl (k := 2) rfl (by rw [ex44]; rfl) (by decide) rfl (fun ls hl => ?_)
    refine lv_goto (tgt := 8) hx hb dX3_leastForm_41 (by decide) ?_
    exact hck25 (v43, x44) (Option.some.inj k25).symm ls (lv_sub hl [1, 2, 0] rfl)
  intro ls hl
  have hl : lv_has ls 7 [(2, .long z46)] := hl
  show W _ _ _ _ _ _ _ _ _ _ _ _ _ _ _ (F0 m 44 ls [])
  refine lv_lload_n hx hb dX3_leastForm_44 rfl (lv_at hl 0 rfl) ?_
  subst hQ
  exact W.lret hx hb hr (fun t ht hW => ⟨_, rfl, Option.some.inj h, ht⟩) (fun _ h9 => by cases h9) dX3_leastForm_45
theorem zs_X3_turnsOntoItself : yX3_turnsOntoItself.cls ≠ "java/lang/invoke/MethodHandle" ∧ yX3_turnsOntoItself.cls ≠ "java/lang/invoke/VarHandle" ∧ (parseMethodDescriptor yX3_turnsOntoItself.desc).map (fun d => d.parameters.length) = some 1 := by decide +kernel
def st_X3_turnsOntoItself_11c (x0 : Int64) (r21 : Int64) (y26 : Int32) (y27 : Int32) : Option ((Int32 × Int32) ⊕ Int32) := if (8 : Int32) ≤ y27 then (some (.inr y26)) else (hk_b1 (f_X3_turned x0 y27) fun r29 => hk_b1 (f_X3_inCorner r29) fun r33 => hk_let (if r33 = r21 then (hk_let (y26 + (1 : Int32)) fun x39 => x39) else (y26)) fun v40 => hk_let (y27 + (1 : Int32)) fun x41 => some (.inl (v40, x41)))
def st_X3_turnsOntoItself_11 (x0 : Int64) (r21 : Int64) (t9 : (Int32 × Int32)) : Option ((Int32 × Int32) ⊕ Int32) := st_X3_turnsOntoItself_11c x0 r21 t9.1 t9.2
def f_X3_turnsOntoItself   (x0 : Int64) : Option Int32 := hk_b1 (f_X3_inCorner x0) fun r21 => hk_b1 (hk_wl (st_X3_turnsOntoItself_11 x0 r21) hkF ((0 : Int32), (0 : Int32))) fun z43 => some z43
set_option maxHeartbeats 8000000 in
set_option maxRecDepth 100000 in
theorem c_X3_turnsOntoItself (l : Launch) (x0 : Int64) (rv : Int32) (hf : f_X3_turnsOntoItself x0 = some rv) : Met l yX3_turnsOntoItself wsX3_turnsOntoItself ({ frames := 4, cells := 0, slots := 0, locals := 95 }) (va_Pc [.long x0] (fun _ => True)) (vp_Si (fun r => r = rv)) 0 0 (fun _ => False) := by
  refine Met.ofW (cc := cX3_turnsOntoItself) (maxL := 6) (ret := (some .int)) (by decide) rfl ?_
  intro p e s m args below meth c s₁ B hml hv
  obtain ⟨rfl, -⟩ := hv
  have hx := B.exec
  have hb := B.bytes
  have hr := B.returns
  have hts := atoms_spec (ws := wsX3_turnsOntoItself) B.pre
  have hown : s.vm.findClass RX3 = some m.cls := findClass_of_methodNamed B.named
  have hlocks := B.notSynchronized
  have hl := lv_entry ([.long x0]) (n := 6) (Nat.le_of_ble_eq_true rfl)
  rw [lg_entry_eq]
  generalize (lg_sl ([.long x0]) ++ List.replicate (6 - (lg_sl ([.long x0])).length) Slot.unset).toArray = ls at hl ⊢
  have hl : lv_has ls 6 [(0, .long x0)] := hl
  refine hk_Q (fun Q hQ => ?_)
  have h := hf
  unfold f_X3_turnsOntoItself at h
  refine lv_lload_n hx hb dX3_turnsOntoItself_0 rfl (lv_at hl 0 rfl) ?_
  obtain ⟨r21, hr22, h⟩ := hk_x1 h
  refine vp_callSl (W.runS (As := [.long x0]) (rest := []) ⟨hx, hb, hml, hown, hts⟩ (c_X3_inCorner l x0 _ hr22) (va_cwS 1 hts gX3_turnsOntoItself_X3_inCorner rfl rfl rfl zs_X3_inCorner ⟨Nat.le_of_ble_eq_true rfl, Nat.le_of_ble_eq_true rfl⟩) ⟨fun _ _ _ _ q => q, fun _ _ _ => ⟨rfl, trivial⟩⟩ rfl rfl hl.1 rfl (lv_room (Nat.le_of_ble_eq_true rfl)) dX3_turnsOntoItself_1 ⟨Nat.zero_le _, Nat.zero_le _⟩) (fun p24 e23 => ?_)
  rw [e23]
  refine lv_lstore_n (lv' := [(2, .long r21), (0, .long x0)]) hx hb dX3_turnsOntoItself_4 rfl hl (by decide) rfl (fun ls hl => ?_)
  refine lv_iconst (v := (0 : Int32)) hx hb dX3_turnsOntoItself_5 (by decide) ?_
  refine lv_istore (lv' := [(4, .int (0 : Int32)), (2, .long r21), (0, .long x0)]) hx hb dX3_turnsOntoItself_6 hl (by decide) rfl (fun ls hl => ?_)
  refine lv_iconst (v := (0 : Int32)) hx hb dX3_turnsOntoItself_8 (by decide) ?_
  refine lv_istore (lv' := [(5, .int (0 : Int32)), (4, .int (0 : Int32)), (2, .long r21), (0, .long x0)]) hx hb dX3_turnsOntoItself_9 hl (by decide) rfl (fun ls hl => ?_)
  obtain ⟨z43, hr42, h⟩ := hk_x1 h
  refine hk_loopR (f := st_X3_turnsOntoItself_11 x0 r21) (hd := 11) (nL := 6) (lv := fun t9 => [(0, .long x0), (2, .long r21), (4, .int t9.1), (5, .int t9.2)]) (xs := fun t9 => (41, [(4, .int t9)], [])) ?_ hr42 ?_ (lv_sub hl [3, 2, 1, 0] rfl)
  · intro t44 q45 k25 hck25 hqk25 ls hl
    obtain ⟨y26, y27⟩ := t44
    have k25 : st_X3_turnsOntoItself_11c x0 r21 y26 y27 = some q45 := k25
    unfold st_X3_turnsOntoItself_11c at k25
    have hl : lv_has ls 6 [(0, .long x0), (2, .long r21), (4, .int y26), (5, .int y27)] := hl
    refine lv_iload hx hb dX3_turnsOntoItself_11 (lv_at hl 3 rfl) ?_
    refine lv_bipush (v := (8 : Int32)) hx hb dX3_turnsOntoItself_13 (by decide) ?_
    refine lv_icmp_ge (tgt := 41) hx hb dX3_turnsOntoItself_15 (by decide) (fun c28 => ?_) (fun c28 => ?_)
    · replace k25 := hk_ip c28 k25
      exact hqk25 y26 (Option.some.inj k25).symm ls (lv_sub hl [2] rfl)
    replace k25 := hk_in c28 k25
    refine lv_lload_n hx hb dX3_turnsOntoItself_18 rfl (lv_at hl 0 rfl) ?_
    refine lv_iload hx hb dX3_turnsOntoItself_19 (lv_at hl 3 rfl) ?_
    obtain ⟨r29, hr30, k25⟩ := hk_x1 k25
    refine vp_callSl (W.runS (As := [.long x0, .int y27]) (rest := []) ⟨hx, hb, hml, hown, hts⟩ (c_X3_turned l x0 y27 _ hr30) (va_cwS 2 hts gX3_turnsOntoItself_X3_turned rfl rfl rfl zs_X3_turned ⟨Nat.le_of_ble_eq_true rfl, Nat.le_of_ble_eq_true rfl⟩) ⟨fun _ _ _ _ q => q, fun _ _ _ => ⟨rfl, trivial⟩⟩ rfl rfl hl.1 rfl (lv_room (Nat.le_of_ble_eq_true rfl)) dX3_turnsOntoItself_21 ⟨Nat.zero_le _, Nat.zero_le _⟩) (fun p32 e31 => ?_)
    rw [e31]
    obtain ⟨r33, hr34, k25⟩ := hk_x1 k25
    refine vp_callSl (W.runS (As := [.long r29]) (rest := []) ⟨hx, hb, hml, hown, hts⟩ (c_X3_inCorner l r29 _ hr34) (va_cwS 1 hts gX3_turnsOntoItself_X3_inCorner rfl rfl rfl zs_X3_inCorner ⟨Nat.le_of_ble_eq_true rfl, Nat.le_of_ble_eq_true rfl⟩) ⟨fun _ _ _ _ q => q, fun _ _ _ => ⟨rfl, trivial⟩⟩ rfl rfl hl.1 rfl (lv_room (Nat.le_of_ble_eq_true rfl)) dX3_turnsOntoItself_24 ⟨Nat.zero_le _, Nat.zero_le _⟩) (fun p36 e35 => ?_)
    rw [e35]
    refine lv_lload_n hx hb dX3_turnsOntoItself_27 rfl (lv_at hl 1 rfl) ?_
    obtain ⟨v40, g37, k25⟩ := hk_lf k25
    refine hk_joinR (nL := 6) (xs := fun (t9 : Int32) => (35, [(0, .long x0), (2, .long r21), (4, .int t9), (5, .int y27)], [])) v40 (fun hjg37 => ?_) ?_
    · refine hk_lcmp_ne (tgt := 35) hx hb dX3_turnsOntoItself_28 dX3_turnsOntoItself_29 (by decide) (fun c38 => ?_) (fun c38 => ?_)
      · replace g37 := hk_in c38 g37
        subst g37
        exact hjg37 ls (lv_sub hl [0, 1, 2, 3] rfl)
      replace g37 := hk_ip c38 g37
      obtain ⟨x39, ex39, g37⟩ := hk_le g37
      refine lv_iinc (v := x39) (lv' := [(4, .int x39), (0, .long x0), (2, .long r21), (5, .int y27)]) hx hb dX3_turnsOntoItself_32 hl (k := 2) rfl (by rw [ex39]; rfl) (by decide) rfl (fun ls hl => ?_)
      subst g37
      exact hjg37 ls (lv_sub hl [1, 2, 0, 3] rfl)
    intro ls hl
    have hl : lv_has ls 6 [(0, .long x0), (2, .long r21), (4, .int v40), (5, .int y27)] := hl
    show W _ _ _ _ _ _ _ _ _ _ _ _ _ _ _ (F0 m 35 ls [])
    obtain ⟨x41, ex41, k25⟩ := hk_le k25
    refine lv_iinc (v := x41) (lv' := [(5, .int x41), (0, .long x0), (2, .long r21), (4, .int v40)]) hx hb dX3_turnsOntoItself_35 hl (k := 3) rfl (by rw [ex41]; rfl) (by decide) rfl (fun ls hl => ?_)
    refine lv_goto (tgt := 11) hx hb dX3_turnsOntoItself_38 (by decide) ?_
    exact hck25 (v40, x41) (Option.some.inj k25).symm ls (lv_sub hl [1, 2, 3, 0] rfl)
  intro ls hl
  have hl : lv_has ls 6 [(4, .int z43)] := hl
  show W _ _ _ _ _ _ _ _ _ _ _ _ _ _ _ (F0 m 41 ls [])
  refine lv_iload hx hb dX3_turnsOntoItself_41 (lv_at hl 0 rfl) ?_
  subst hQ
  exact W.iret hx hb hr (fun t ht hW => ⟨_, rfl, Option.some.inj h, ht⟩) (fun _ h9 => by cases h9) dX3_turnsOntoItself_43
theorem zs_X4_squareAt : yX4_squareAt.cls ≠ "java/lang/invoke/MethodHandle" ∧ yX4_squareAt.cls ≠ "java/lang/invoke/VarHandle" ∧ (parseMethodDescriptor yX4_squareAt.desc).map (fun d => d.parameters.length) = some 3 := by decide +kernel
def f_X4_squareAt   (x0 : Int64) (x2 : Int32) (x3 : Int32) : Option Int32 := if x2 < 0 then (some (0 : Int32)) else (if (3 : Int32) < x2 then (some (0 : Int32)) else (if x3 < 0 then (some (0 : Int32)) else (if x3 ≤ (3 : Int32) then (hk_b1 (f_X0_square x0 (((4 : Int32) * x2) + x3)) fun r25 => some r25) else (some (0 : Int32)))))
set_option maxHeartbeats 8000000 in
set_option maxRecDepth 100000 in
theorem c_X4_squareAt (l : Launch) (x0 : Int64) (x2 : Int32) (x3 : Int32) (rv : Int32) (hf : f_X4_squareAt x0 x2 x3 = some rv) : Met l yX4_squareAt wsX4_squareAt ({ frames := 1, cells := 0, slots := 0, locals := 22 }) (va_Pc [.long x0, .int x2, .int x3] (fun _ => True)) (vp_Si (fun r => r = rv)) 0 0 (fun _ => False) := by
  refine Met.ofW (cc := cX4_squareAt) (maxL := 4) (ret := (some .int)) (by decide) rfl ?_
  intro p e s m args below meth c s₁ B hml hv
  obtain ⟨rfl, -⟩ := hv
  have hx := B.exec
  have hb := B.bytes
  have hr := B.returns
  have hts := atoms_spec (ws := wsX4_squareAt) B.pre
  have hown : s.vm.findClass RX4 = some m.cls := findClass_of_methodNamed B.named
  have hlocks := B.notSynchronized
  have hl := lv_entry ([.long x0, .int x2, .int x3]) (n := 4) (Nat.le_of_ble_eq_true rfl)
  rw [lg_entry_eq]
  generalize (lg_sl ([.long x0, .int x2, .int x3]) ++ List.replicate (4 - (lg_sl ([.long x0, .int x2, .int x3])).length) Slot.unset).toArray = ls at hl ⊢
  have hl : lv_has ls 4 [(0, .long x0), (2, .int x2), (3, .int x3)] := hl
  refine hk_Q (fun Q hQ => ?_)
  have h := hf
  unfold f_X4_squareAt at h
  refine lv_iload_n hx hb dX4_squareAt_0 rfl (lv_at hl 1 rfl) ?_
  refine lv_if_lt (tgt := 18) hx hb dX4_squareAt_1 (by decide) (fun c21 => ?_) (fun c21 => ?_)
  · replace h := hk_ip c21 h
    refine lv_iconst (v := (0 : Int32)) hx hb dX4_squareAt_18 (by decide) ?_
    subst hQ
    exact W.iret hx hb hr (fun t ht hW => ⟨_, rfl, Option.some.inj h, ht⟩) (fun _ h9 => by cases h9) dX4_squareAt_19
  replace h := hk_in c21 h
  refine lv_iload_n hx hb dX4_squareAt_4 rfl (lv_at hl 1 rfl) ?_
  refine lv_iconst (v := (3 : Int32)) hx hb dX4_squareAt_5 (by decide) ?_
  refine lv_icmp_gt (tgt := 18) hx hb dX4_squareAt_6 (by decide) (fun c22 => ?_) (fun c22 => ?_)
  · replace h := hk_ip c22 h
    refine lv_iconst (v := (0 : Int32)) hx hb dX4_squareAt_18 (by decide) ?_
    subst hQ
    exact W.iret hx hb hr (fun t ht hW => ⟨_, rfl, Option.some.inj h, ht⟩) (fun _ h9 => by cases h9) dX4_squareAt_19
  replace h := hk_in c22 h
  refine lv_iload_n hx hb dX4_squareAt_9 rfl (lv_at hl 2 rfl) ?_
  refine lv_if_lt (tgt := 18) hx hb dX4_squareAt_10 (by decide) (fun c23 => ?_) (fun c23 => ?_)
  · replace h := hk_ip c23 h
    refine lv_iconst (v := (0 : Int32)) hx hb dX4_squareAt_18 (by decide) ?_
    subst hQ
    exact W.iret hx hb hr (fun t ht hW => ⟨_, rfl, Option.some.inj h, ht⟩) (fun _ h9 => by cases h9) dX4_squareAt_19
  replace h := hk_in c23 h
  refine lv_iload_n hx hb dX4_squareAt_13 rfl (lv_at hl 2 rfl) ?_
  refine lv_iconst (v := (3 : Int32)) hx hb dX4_squareAt_14 (by decide) ?_
  refine lv_icmp_le (tgt := 20) hx hb dX4_squareAt_15 (by decide) (fun c24 => ?_) (fun c24 => ?_)
  · replace h := hk_ip c24 h
    refine lv_lload_n hx hb dX4_squareAt_20 rfl (lv_at hl 0 rfl) ?_
    refine lv_iconst (v := (4 : Int32)) hx hb dX4_squareAt_21 (by decide) ?_
    refine lv_iload_n hx hb dX4_squareAt_22 rfl (lv_at hl 1 rfl) ?_
    refine lv_imul hx hb dX4_squareAt_23 ?_
    refine lv_iload_n hx hb dX4_squareAt_24 rfl (lv_at hl 2 rfl) ?_
    refine lv_iadd hx hb dX4_squareAt_25 ?_
    obtain ⟨r25, hr26, h⟩ := hk_x1 h
    refine vp_callSi (W.runS (As := [.long x0, .int (((4 : Int32) * x2) + x3)]) (rest := []) ⟨hx, hb, hml, hown, hts⟩ (c_X0_square l x0 (((4 : Int32) * x2) + x3) _ hr26) (va_cwS 2 hts gX4_squareAt_X0_square rfl rfl rfl zs_X0_square ⟨Nat.le_of_ble_eq_true rfl, Nat.le_of_ble_eq_true rfl⟩) ⟨fun _ _ _ _ q => q, fun _ _ _ => ⟨rfl, trivial⟩⟩ rfl rfl hl.1 rfl (lv_room (Nat.le_of_ble_eq_true rfl)) dX4_squareAt_26 ⟨Nat.zero_le _, Nat.zero_le _⟩) (fun p28 e27 => ?_)
    rw [e27]
    subst hQ
    exact W.iret hx hb hr (fun t ht hW => ⟨_, rfl, Option.some.inj h, ht⟩) (fun _ h9 => by cases h9) dX4_squareAt_29
  replace h := hk_in c24 h
  refine lv_iconst (v := (0 : Int32)) hx hb dX4_squareAt_18 (by decide) ?_
  subst hQ
  exact W.iret hx hb hr (fun t ht hW => ⟨_, rfl, Option.some.inj h, ht⟩) (fun _ h9 => by cases h9) dX4_squareAt_19
theorem zs_X4_ringAboutCorner : yX4_ringAboutCorner.cls ≠ "java/lang/invoke/MethodHandle" ∧ yX4_ringAboutCorner.cls ≠ "java/lang/invoke/VarHandle" ∧ (parseMethodDescriptor yX4_ringAboutCorner.desc).map (fun d => d.parameters.length) = some 3 := by decide +kernel
def f_X4_ringAboutCorner   (x0 : Int64) (x2 : Int32) (x3 : Int32) : Option Int32 := hk_b1 (f_X4_squareAt x0 (x2 - (1 : Int32)) x3) fun r21 => hk_b1 (f_X4_squareAt x0 x2 x3) fun r25 => hk_b1 (f_X4_squareAt x0 x2 (x3 - (1 : Int32))) fun r29 => hk_b1 (f_X4_squareAt x0 (x2 - (1 : Int32)) (x3 - (1 : Int32))) fun r33 => some (((((((((hk_ishr r21 (3 : Int32)) &&& (1 : Int32)) ||| (hk_ishl ((hk_ishr r21 (2 : Int32)) &&& (1 : Int32)) (1 : Int32))) ||| (hk_ishl (r25 &&& (1 : Int32)) (2 : Int32))) ||| (hk_ishl ((hk_ishr r25 (3 : Int32)) &&& (1 : Int32)) (3 : Int32))) ||| (hk_ishl ((hk_ishr r29 (1 : Int32)) &&& (1 : Int32)) (4 : Int32))) ||| (hk_ishl (r29 &&& (1 : Int32)) (5 : Int32))) ||| (hk_ishl ((hk_ishr r33 (2 : Int32)) &&& (1 : Int32)) (6 : Int32))) ||| (hk_ishl ((hk_ishr r33 (1 : Int32)) &&& (1 : Int32)) (7 : Int32)))
set_option maxHeartbeats 8000000 in
set_option maxRecDepth 100000 in
theorem c_X4_ringAboutCorner (l : Launch) (x0 : Int64) (x2 : Int32) (x3 : Int32) (rv : Int32) (hf : f_X4_ringAboutCorner x0 x2 x3 = some rv) : Met l yX4_ringAboutCorner wsX4_ringAboutCorner ({ frames := 2, cells := 0, slots := 0, locals := 45 }) (va_Pc [.long x0, .int x2, .int x3] (fun _ => True)) (vp_Si (fun r => r = rv)) 0 0 (fun _ => False) := by
  refine Met.ofW (cc := cX4_ringAboutCorner) (maxL := 8) (ret := (some .int)) (by decide) rfl ?_
  intro p e s m args below meth c s₁ B hml hv
  obtain ⟨rfl, -⟩ := hv
  have hx := B.exec
  have hb := B.bytes
  have hr := B.returns
  have hts := atoms_spec (ws := wsX4_ringAboutCorner) B.pre
  have hown : s.vm.findClass RX4 = some m.cls := findClass_of_methodNamed B.named
  have hlocks := B.notSynchronized
  have hl := lv_entry ([.long x0, .int x2, .int x3]) (n := 8) (Nat.le_of_ble_eq_true rfl)
  rw [lg_entry_eq]
  generalize (lg_sl ([.long x0, .int x2, .int x3]) ++ List.replicate (8 - (lg_sl ([.long x0, .int x2, .int x3])).length) Slot.unset).toArray = ls at hl ⊢
  have hl : lv_has ls 8 [(0, .long x0), (2, .int x2), (3, .int x3)] := hl
  refine hk_Q (fun Q hQ => ?_)
  have h := hf
  unfold f_X4_ringAboutCorner at h
  refine lv_lload_n hx hb dX4_ringAboutCorner_0 rfl (lv_at hl 0 rfl) ?_
  refine lv_iload_n hx hb dX4_ringAboutCorner_1 rfl (lv_at hl 1 rfl) ?_
  refine lv_iconst (v := (1 : Int32)) hx hb dX4_ringAboutCorner_2 (by decide) ?_
  refine lv_isub hx hb dX4_ringAboutCorner_3 ?_
  refine lv_iload_n hx hb dX4_ringAboutCorner_4 rfl (lv_at hl 2 rfl) ?_
  obtain ⟨r21, hr22, h⟩ := hk_x1 h
  refine vp_callSi (W.runS (As := [.long x0, .int (x2 - (1 : Int32)), .int x3]) (rest := []) ⟨hx, hb, hml, hown, hts⟩ (c_X4_squareAt l x0 (x2 - (1 : Int32)) x3 _ hr22) (va_cwS 3 hts gX4_ringAboutCorner_X4_squareAt rfl rfl rfl zs_X4_squareAt ⟨Nat.le_of_ble_eq_true rfl, Nat.le_of_ble_eq_true rfl⟩) ⟨fun _ _ _ _ q => q, fun _ _ _ => ⟨rfl, trivial⟩⟩ rfl rfl hl.1 rfl (lv_room (Nat.le_of_ble_eq_true rfl)) dX4_ringAboutCorner_5 ⟨Nat.zero_le _, Nat.zero_le _⟩) (fun p24 e23 => ?_)
  rw [e23]
  refine lv_istore (lv' := [(4, .int r21), (0, .long x0), (2, .int x2), (3, .int x3)]) hx hb dX4_ringAboutCorner_8 hl (by decide) rfl (fun ls hl => ?_)
  refine lv_lload_n hx hb dX4_ringAboutCorner_10 rfl (lv_at hl 1 rfl) ?_
  refine lv_iload_n hx hb dX4_ringAboutCorner_11 rfl (lv_at hl 2 rfl) ?_
  refine lv_iload_n hx hb dX4_ringAboutCorner_12 rfl (lv_at hl 3 rfl) ?_
  obtain ⟨r25, hr26, h⟩ := hk_x1 h
  refine vp_callSi (W.runS (As := [.long x0, .int x2, .int x3]) (rest := []) ⟨hx, hb, hml, hown, hts⟩ (c_X4_squareAt l x0 x2 x3 _ hr26) (va_cwS 3 hts gX4_ringAboutCorner_X4_squareAt rfl rfl rfl zs_X4_squareAt ⟨Nat.le_of_ble_eq_true rfl, Nat.le_of_ble_eq_true rfl⟩) ⟨fun _ _ _ _ q => q, fun _ _ _ => ⟨rfl, trivial⟩⟩ rfl rfl hl.1 rfl (lv_room (Nat.le_of_ble_eq_true rfl)) dX4_ringAboutCorner_13 ⟨Nat.zero_le _, Nat.zero_le _⟩) (fun p28 e27 => ?_)
  rw [e27]
  refine lv_istore (lv' := [(5, .int r25), (4, .int r21), (0, .long x0), (2, .int x2), (3, .int x3)]) hx hb dX4_ringAboutCorner_16 hl (by decide) rfl (fun ls hl => ?_)
  refine lv_lload_n hx hb dX4_ringAboutCorner_18 rfl (lv_at hl 2 rfl) ?_
  refine lv_iload_n hx hb dX4_ringAboutCorner_19 rfl (lv_at hl 3 rfl) ?_
  refine lv_iload_n hx hb dX4_ringAboutCorner_20 rfl (lv_at hl 4 rfl) ?_
  refine lv_iconst (v := (1 : Int32)) hx hb dX4_ringAboutCorner_21 (by decide) ?_
  refine lv_isub hx hb dX4_ringAboutCorner_22 ?_
  obtain ⟨r29, hr30, h⟩ := hk_x1 h
  refine vp_callSi (W.runS (As := [.long x0, .int x2, .int (x3 - (1 : Int32))]) (rest := []) ⟨hx, hb, hml, hown, hts⟩ (c_X4_squareAt l x0 x2 (x3 - (1 : Int32)) _ hr30) (va_cwS 3 hts gX4_ringAboutCorner_X4_squareAt rfl rfl rfl zs_X4_squareAt ⟨Nat.le_of_ble_eq_true rfl, Nat.le_of_ble_eq_true rfl⟩) ⟨fun _ _ _ _ q => q, fun _ _ _ => ⟨rfl, trivial⟩⟩ rfl rfl hl.1 rfl (lv_room (Nat.le_of_ble_eq_true rfl)) dX4_ringAboutCorner_23 ⟨Nat.zero_le _, Nat.zero_le _⟩) (fun p32 e31 => ?_)
  rw [e31]
  refine lv_istore (lv' := [(6, .int r29), (5, .int r25), (4, .int r21), (0, .long x0), (2, .int x2), (3, .int x3)]) hx hb dX4_ringAboutCorner_26 hl (by decide) rfl (fun ls hl => ?_)
  refine lv_lload_n hx hb dX4_ringAboutCorner_28 rfl (lv_at hl 3 rfl) ?_
  refine lv_iload_n hx hb dX4_ringAboutCorner_29 rfl (lv_at hl 4 rfl) ?_
  refine lv_iconst (v := (1 : Int32)) hx hb dX4_ringAboutCorner_30 (by decide) ?_
  refine lv_isub hx hb dX4_ringAboutCorner_31 ?_
  refine lv_iload_n hx hb dX4_ringAboutCorner_32 rfl (lv_at hl 5 rfl) ?_
  refine lv_iconst (v := (1 : Int32)) hx hb dX4_ringAboutCorner_33 (by decide) ?_
  refine lv_isub hx hb dX4_ringAboutCorner_34 ?_
  obtain ⟨r33, hr34, h⟩ := hk_x1 h
  refine vp_callSi (W.runS (As := [.long x0, .int (x2 - (1 : Int32)), .int (x3 - (1 : Int32))]) (rest := []) ⟨hx, hb, hml, hown, hts⟩ (c_X4_squareAt l x0 (x2 - (1 : Int32)) (x3 - (1 : Int32)) _ hr34) (va_cwS 3 hts gX4_ringAboutCorner_X4_squareAt rfl rfl rfl zs_X4_squareAt ⟨Nat.le_of_ble_eq_true rfl, Nat.le_of_ble_eq_true rfl⟩) ⟨fun _ _ _ _ q => q, fun _ _ _ => ⟨rfl, trivial⟩⟩ rfl rfl hl.1 rfl (lv_room (Nat.le_of_ble_eq_true rfl)) dX4_ringAboutCorner_35 ⟨Nat.zero_le _, Nat.zero_le _⟩) (fun p36 e35 => ?_)
  rw [e35]
  refine lv_istore (lv' := [(7, .int r33), (6, .int r29), (5, .int r25), (4, .int r21), (0, .long x0), (2, .int x2), (3, .int x3)]) hx hb dX4_ringAboutCorner_38 hl (by decide) rfl (fun ls hl => ?_)
  refine lv_iload hx hb dX4_ringAboutCorner_40 (lv_at hl 3 rfl) ?_
  refine lv_iconst (v := (3 : Int32)) hx hb dX4_ringAboutCorner_42 (by decide) ?_
  refine lv_ishr hx hb dX4_ringAboutCorner_43 ?_
  refine hk_ti (y := (hk_ishr r21 (3 : Int32))) rfl ?_
  refine lv_iconst (v := (1 : Int32)) hx hb dX4_ringAboutCorner_44 (by decide) ?_
  refine lv_iand hx hb dX4_ringAboutCorner_45 ?_
  refine lv_iload hx hb dX4_ringAboutCorner_46 (lv_at hl 3 rfl) ?_
  refine lv_iconst (v := (2 : Int32)) hx hb dX4_ringAboutCorner_48 (by decide) ?_
  refine lv_ishr hx hb dX4_ringAboutCorner_49 ?_
  refine hk_ti (y := (hk_ishr r21 (2 : Int32))) rfl ?_
  refine lv_iconst (v := (1 : Int32)) hx hb dX4_ringAboutCorner_50 (by decide) ?_
  refine lv_iand hx hb dX4_ringAboutCorner_51 ?_
  refine lv_iconst (v := (1 : Int32)) hx hb dX4_ringAboutCorner_52 (by decide) ?_
  refine lv_ishl hx hb dX4_ringAboutCorner_53 ?_
  refine hk_ti (y := (hk_ishl ((hk_ishr r21 (2 : Int32)) &&& (1 : Int32)) (1 : Int32))) rfl ?_
  refine lv_ior hx hb dX4_ringAboutCorner_54 ?_
  refine lv_iload hx hb dX4_ringAboutCorner_55 (lv_at hl 2 rfl) ?_
  refine lv_iconst (v := (1 : Int32)) hx hb dX4_ringAboutCorner_57 (by decide) ?_
  refine lv_iand hx hb dX4_ringAboutCorner_58 ?_
  refine lv_iconst (v := (2 : Int32)) hx hb dX4_ringAboutCorner_59 (by decide) ?_
  refine lv_ishl hx hb dX4_ringAboutCorner_60 ?_
  refine hk_ti (y := (hk_ishl (r25 &&& (1 : Int32)) (2 : Int32))) rfl ?_
  refine lv_ior hx hb dX4_ringAboutCorner_61 ?_
  refine lv_iload hx hb dX4_ringAboutCorner_62 (lv_at hl 2 rfl) ?_
  refine lv_iconst (v := (3 : Int32)) hx hb dX4_ringAboutCorner_64 (by decide) ?_
  refine lv_ishr hx hb dX4_ringAboutCorner_65 ?_
  refine hk_ti (y := (hk_ishr r25 (3 : Int32))) rfl ?_
  refine lv_iconst (v := (1 : Int32)) hx hb dX4_ringAboutCorner_66 (by decide) ?_
  refine lv_iand hx hb dX4_ringAboutCorner_67 ?_
  refine lv_iconst (v := (3 : Int32)) hx hb dX4_ringAboutCorner_68 (by decide) ?_
  refine lv_ishl hx hb dX4_ringAboutCorner_69 ?_
  refine hk_ti (y := (hk_ishl ((hk_ishr r25 (3 : Int32)) &&& (1 : Int32)) (3 : Int32))) rfl ?_
  refine lv_ior hx hb dX4_ringAboutCorner_70 ?_
  refine lv_iload hx hb dX4_ringAboutCorner_71 (lv_at hl 1 rfl) ?_
  refine lv_iconst (v := (1 : Int32)) hx hb dX4_ringAboutCorner_73 (by decide) ?_
  refine lv_ishr hx hb dX4_ringAboutCorner_74 ?_
  refine hk_ti (y := (hk_ishr r29 (1 : Int32))) rfl ?_
  refine lv_iconst (v := (1 : Int32)) hx hb dX4_ringAboutCorner_75 (by decide) ?_
  refine lv_iand hx hb dX4_ringAboutCorner_76 ?_
  refine lv_iconst (v := (4 : Int32)) hx hb dX4_ringAboutCorner_77 (by decide) ?_
  refine lv_ishl hx hb dX4_ringAboutCorner_78 ?_
  refine hk_ti (y := (hk_ishl ((hk_ishr r29 (1 : Int32)) &&& (1 : Int32)) (4 : Int32))) rfl ?_
  refine lv_ior hx hb dX4_ringAboutCorner_79 ?_
  refine lv_iload hx hb dX4_ringAboutCorner_80 (lv_at hl 1 rfl) ?_
  refine lv_iconst (v := (1 : Int32)) hx hb dX4_ringAboutCorner_82 (by decide) ?_
  refine lv_iand hx hb dX4_ringAboutCorner_83 ?_
  refine lv_iconst (v := (5 : Int32)) hx hb dX4_ringAboutCorner_84 (by decide) ?_
  refine lv_ishl hx hb dX4_ringAboutCorner_85 ?_
  refine hk_ti (y := (hk_ishl (r29 &&& (1 : Int32)) (5 : Int32))) rfl ?_
  refine lv_ior hx hb dX4_ringAboutCorner_86 ?_
  refine lv_iload hx hb dX4_ringAboutCorner_87 (lv_at hl 0 rfl) ?_
  refine lv_iconst (v := (2 : Int32)) hx hb dX4_ringAboutCorner_89 (by decide) ?_
  refine lv_ishr hx hb dX4_ringAboutCorner_90 ?_
  refine hk_ti (y := (hk_ishr r33 (2 : Int32))) rfl ?_
  refine lv_iconst (v := (1 : Int32)) hx hb dX4_ringAboutCorner_91 (by decide) ?_
  refine lv_iand hx hb dX4_ringAboutCorner_92 ?_
  refine lv_bipush (v := (6 : Int32)) hx hb dX4_ringAboutCorner_93 (by decide) ?_
  refine lv_ishl hx hb dX4_ringAboutCorner_95 ?_
  refine hk_ti (y := (hk_ishl ((hk_ishr r33 (2 : Int32)) &&& (1 : Int32)) (6 : Int32))) rfl ?_
  refine lv_ior hx hb dX4_ringAboutCorner_96 ?_
  refine lv_iload hx hb dX4_ringAboutCorner_97 (lv_at hl 0 rfl) ?_
  refine lv_iconst (v := (1 : Int32)) hx hb dX4_ringAboutCorner_99 (by decide) ?_
  refine lv_ishr hx hb dX4_ringAboutCorner_100 ?_
  refine hk_ti (y := (hk_ishr r33 (1 : Int32))) rfl ?_
  refine lv_iconst (v := (1 : Int32)) hx hb dX4_ringAboutCorner_101 (by decide) ?_
  refine lv_iand hx hb dX4_ringAboutCorner_102 ?_
  refine lv_bipush (v := (7 : Int32)) hx hb dX4_ringAboutCorner_103 (by decide) ?_
  refine lv_ishl hx hb dX4_ringAboutCorner_105 ?_
  refine hk_ti (y := (hk_ishl ((hk_ishr r33 (1 : Int32)) &&& (1 : Int32)) (7 : Int32))) rfl ?_
  refine lv_ior hx hb dX4_ringAboutCorner_106 ?_
  subst hQ
  exact W.iret hx hb hr (fun t ht hW => ⟨_, rfl, Option.some.inj h, ht⟩) (fun _ h9 => by cases h9) dX4_ringAboutCorner_107
theorem zs_X4_ringAboutMidst : yX4_ringAboutMidst.cls ≠ "java/lang/invoke/MethodHandle" ∧ yX4_ringAboutMidst.cls ≠ "java/lang/invoke/VarHandle" ∧ (parseMethodDescriptor yX4_ringAboutMidst.desc).map (fun d => d.parameters.length) = some 1 := by decide +kernel
def st_X4_ringAboutMidst_4c (x0 : Int32) (y22 : Int32) (y23 : Int32) : Option ((Int32 × Int32) ⊕ Int32) := if (4 : Int32) ≤ y23 then (some (.inr y22)) else (hk_let (if ((hk_ishr x0 y23) &&& (1 : Int32)) = 0 then (y22) else (hk_let (y22 ||| (hk_ishl (3 : Int32) ((2 : Int32) * y23))) fun x27 => x27)) fun v28 => hk_let (y23 + (1 : Int32)) fun x29 => some (.inl (v28, x29)))
def st_X4_ringAboutMidst_4 (x0 : Int32) (t9 : (Int32 × Int32)) : Option ((Int32 × Int32) ⊕ Int32) := st_X4_ringAboutMidst_4c x0 t9.1 t9.2
def f_X4_ringAboutMidst   (x0 : Int32) : Option Int32 := hk_b1 (hk_wl (st_X4_ringAboutMidst_4 x0) hkF ((0 : Int32), (0 : Int32))) fun z31 => some z31
set_option maxHeartbeats 8000000 in
set_option maxRecDepth 100000 in
theorem c_X4_ringAboutMidst (l : Launch) (x0 : Int32) (rv : Int32) (hf : f_X4_ringAboutMidst x0 = some rv) : Met l yX4_ringAboutMidst wsX4_ringAboutMidst ({ frames := 0, cells := 0, slots := 0, locals := 0 }) (va_Pc [.int x0] (fun _ => True)) (vp_Si (fun r => r = rv)) 0 0 (fun _ => False) := by
  refine Met.ofW (cc := cX4_ringAboutMidst) (maxL := 3) (ret := (some .int)) (by decide) rfl ?_
  intro p e s m args below meth c s₁ B hml hv
  obtain ⟨rfl, -⟩ := hv
  have hx := B.exec
  have hb := B.bytes
  have hr := B.returns
  have hts := atoms_spec (ws := wsX4_ringAboutMidst) B.pre
  have hown : s.vm.findClass RX4 = some m.cls := findClass_of_methodNamed B.named
  have hlocks := B.notSynchronized
  have hl := lv_entry ([.int x0]) (n := 3) (Nat.le_of_ble_eq_true rfl)
  rw [lg_entry_eq]
  generalize (lg_sl ([.int x0]) ++ List.replicate (3 - (lg_sl ([.int x0])).length) Slot.unset).toArray = ls at hl ⊢
  have hl : lv_has ls 3 [(0, .int x0)] := hl
  refine hk_Q (fun Q hQ => ?_)
  have h := hf
  unfold f_X4_ringAboutMidst at h
  refine lv_iconst (v := (0 : Int32)) hx hb dX4_ringAboutMidst_0 (by decide) ?_
  refine lv_istore_n (lv' := [(1, .int (0 : Int32)), (0, .int x0)]) hx hb dX4_ringAboutMidst_1 rfl hl (by decide) rfl (fun ls hl => ?_)
  refine lv_iconst (v := (0 : Int32)) hx hb dX4_ringAboutMidst_2 (by decide) ?_
  refine lv_istore_n (lv' := [(2, .int (0 : Int32)), (1, .int (0 : Int32)), (0, .int x0)]) hx hb dX4_ringAboutMidst_3 rfl hl (by decide) rfl (fun ls hl => ?_)
  obtain ⟨z31, hr30, h⟩ := hk_x1 h
  refine hk_loopR (f := st_X4_ringAboutMidst_4 x0) (hd := 4) (nL := 3) (lv := fun t9 => [(0, .int x0), (1, .int t9.1), (2, .int t9.2)]) (xs := fun t9 => (31, [(1, .int t9)], [])) ?_ hr30 ?_ (lv_sub hl [2, 1, 0] rfl)
  · intro t32 q33 k21 hck21 hqk21 ls hl
    obtain ⟨y22, y23⟩ := t32
    have k21 : st_X4_ringAboutMidst_4c x0 y22 y23 = some q33 := k21
    unfold st_X4_ringAboutMidst_4c at k21
    have hl : lv_has ls 3 [(0, .int x0), (1, .int y22), (2, .int y23)] := hl
    refine lv_iload_n hx hb dX4_ringAboutMidst_4 rfl (lv_at hl 2 rfl) ?_
    refine lv_iconst (v := (4 : Int32)) hx hb dX4_ringAboutMidst_5 (by decide) ?_
    refine lv_icmp_ge (tgt := 31) hx hb dX4_ringAboutMidst_6 (by decide) (fun c24 => ?_) (fun c24 => ?_)
    · replace k21 := hk_ip c24 k21
      exact hqk21 y22 (Option.some.inj k21).symm ls (lv_sub hl [1] rfl)
    replace k21 := hk_in c24 k21
    refine lv_iload_n hx hb dX4_ringAboutMidst_9 rfl (lv_at hl 0 rfl) ?_
    refine lv_iload_n hx hb dX4_ringAboutMidst_10 rfl (lv_at hl 2 rfl) ?_
    refine lv_ishr hx hb dX4_ringAboutMidst_11 ?_
    refine hk_ti (y := (hk_ishr x0 y23)) rfl ?_
    refine lv_iconst (v := (1 : Int32)) hx hb dX4_ringAboutMidst_12 (by decide) ?_
    refine lv_iand hx hb dX4_ringAboutMidst_13 ?_
    obtain ⟨v28, g25, k21⟩ := hk_lf k21
    refine hk_joinR (nL := 3) (xs := fun (t9 : Int32) => (25, [(0, .int x0), (1, .int t9), (2, .int y23)], [])) v28 (fun hjg25 => ?_) ?_
    · refine lv_if_eq (tgt := 25) hx hb dX4_ringAboutMidst_14 (by decide) (fun c26 => ?_) (fun c26 => ?_)
      · replace g25 := hk_ip c26 g25
        subst g25
        exact hjg25 ls (lv_sub hl [0, 1, 2] rfl)
      replace g25 := hk_in c26 g25
      refine lv_iload_n hx hb dX4_ringAboutMidst_17 rfl (lv_at hl 1 rfl) ?_
      refine lv_iconst (v := (3 : Int32)) hx hb dX4_ringAboutMidst_18 (by decide) ?_
      refine lv_iconst (v := (2 : Int32)) hx hb dX4_ringAboutMidst_19 (by decide) ?_
      refine lv_iload_n hx hb dX4_ringAboutMidst_20 rfl (lv_at hl 2 rfl) ?_
      refine lv_imul hx hb dX4_ringAboutMidst_21 ?_
      refine lv_ishl hx hb dX4_ringAboutMidst_22 ?_
      refine hk_ti (y := (hk_ishl (3 : Int32) ((2 : Int32) * y23))) rfl ?_
      refine lv_ior hx hb dX4_ringAboutMidst_23 ?_
      obtain ⟨x27, ex27, g25⟩ := hk_le g25
      refine hk_ti ex27 ?_
      refine lv_istore_n (lv' := [(1, .int x27), (0, .int x0), (2, .int y23)]) hx hb dX4_ringAboutMidst_24 rfl hl (by decide) rfl (fun ls hl => ?_)
      subst g25
      exact hjg25 ls (lv_sub hl [1, 0, 2] rfl)
    intro ls hl
    have hl : lv_has ls 3 [(0, .int x0), (1, .int v28), (2, .int y23)] := hl
    show W _ _ _ _ _ _ _ _ _ _ _ _ _ _ _ (F0 m 25 ls [])
    obtain ⟨x29, ex29, k21⟩ := hk_le k21
    refine lv_iinc (v := x29) (lv' := [(2, .int x29), (0, .int x0), (1, .int v28)]) hx hb dX4_ringAboutMidst_25 hl (k := 2) rfl (by rw [ex29]; rfl) (by decide) rfl (fun ls hl => ?_)
    refine lv_goto (tgt := 4) hx hb dX4_ringAboutMidst_28 (by decide) ?_
    exact hck21 (v28, x29) (Option.some.inj k21).symm ls (lv_sub hl [1, 2, 0] rfl)
  intro ls hl
  have hl : lv_has ls 3 [(1, .int z31)] := hl
  show W _ _ _ _ _ _ _ _ _ _ _ _ _ _ _ (F0 m 31 ls [])
  refine lv_iload_n hx hb dX4_ringAboutMidst_31 rfl (lv_at hl 0 rfl) ?_
  subst hQ
  exact W.iret hx hb hr (fun t ht hW => ⟨_, rfl, Option.some.inj h, ht⟩) (fun _ h9 => by cases h9) dX4_ringAboutMidst_32
theorem zs_X4_ringAbout : yX4_ringAbout.cls ≠ "java/lang/invoke/MethodHandle" ∧ yX4_ringAbout.cls ≠ "java/lang/invoke/VarHandle" ∧ (parseMethodDescriptor yX4_ringAbout.desc).map (fun d => d.parameters.length) = some 2 := by decide +kernel
def f_X4_ringAbout   (x0 : Int64) (x2 : Int32) : Option Int32 := if (25 : Int32) ≤ x2 then (hk_b1 (f_X0_square x0 (x2 - (25 : Int32))) fun r22 => hk_b1 (f_X4_ringAboutMidst r22) fun r26 => some r26) else (hk_b1 (f_X4_ringAboutCorner x0 (x2 / (5 : Int32)) (hk_rem x2 (5 : Int32))) fun r30 => some r30)
set_option maxHeartbeats 8000000 in
set_option maxRecDepth 100000 in
theorem c_X4_ringAbout (l : Launch) (x0 : Int64) (x2 : Int32) (rv : Int32) (hf : f_X4_ringAbout x0 x2 = some rv) : Met l yX4_ringAbout wsX4_ringAbout ({ frames := 3, cells := 0, slots := 0, locals := 72 }) (va_Pc [.long x0, .int x2] (fun _ => True)) (vp_Si (fun r => r = rv)) 0 0 (fun _ => False) := by
  refine Met.ofW (cc := cX4_ringAbout) (maxL := 3) (ret := (some .int)) (by decide) rfl ?_
  intro p e s m args below meth c s₁ B hml hv
  obtain ⟨rfl, -⟩ := hv
  have hx := B.exec
  have hb := B.bytes
  have hr := B.returns
  have hts := atoms_spec (ws := wsX4_ringAbout) B.pre
  have hown : s.vm.findClass RX4 = some m.cls := findClass_of_methodNamed B.named
  have hlocks := B.notSynchronized
  have hl := lv_entry ([.long x0, .int x2]) (n := 3) (Nat.le_of_ble_eq_true rfl)
  rw [lg_entry_eq]
  generalize (lg_sl ([.long x0, .int x2]) ++ List.replicate (3 - (lg_sl ([.long x0, .int x2])).length) Slot.unset).toArray = ls at hl ⊢
  have hl : lv_has ls 3 [(0, .long x0), (2, .int x2)] := hl
  refine hk_Q (fun Q hQ => ?_)
  have h := hf
  unfold f_X4_ringAbout at h
  refine lv_iload_n hx hb dX4_ringAbout_0 rfl (lv_at hl 1 rfl) ?_
  refine lv_bipush (v := (25 : Int32)) hx hb dX4_ringAbout_1 (by decide) ?_
  refine lv_icmp_ge (tgt := 17) hx hb dX4_ringAbout_3 (by decide) (fun c21 => ?_) (fun c21 => ?_)
  · replace h := hk_ip c21 h
    refine lv_lload_n hx hb dX4_ringAbout_17 rfl (lv_at hl 0 rfl) ?_
    refine lv_iload_n hx hb dX4_ringAbout_18 rfl (lv_at hl 1 rfl) ?_
    refine lv_bipush (v := (25 : Int32)) hx hb dX4_ringAbout_19 (by decide) ?_
    refine lv_isub hx hb dX4_ringAbout_21 ?_
    obtain ⟨r22, hr23, h⟩ := hk_x1 h
    refine vp_callSi (W.runS (As := [.long x0, .int (x2 - (25 : Int32))]) (rest := []) ⟨hx, hb, hml, hown, hts⟩ (c_X0_square l x0 (x2 - (25 : Int32)) _ hr23) (va_cwS 2 hts gX4_ringAbout_X0_square rfl rfl rfl zs_X0_square ⟨Nat.le_of_ble_eq_true rfl, Nat.le_of_ble_eq_true rfl⟩) ⟨fun _ _ _ _ q => q, fun _ _ _ => ⟨rfl, trivial⟩⟩ rfl rfl hl.1 rfl (lv_room (Nat.le_of_ble_eq_true rfl)) dX4_ringAbout_22 ⟨Nat.zero_le _, Nat.zero_le _⟩) (fun p25 e24 => ?_)
    rw [e24]
    obtain ⟨r26, hr27, h⟩ := hk_x1 h
    refine vp_callSi (W.runS (As := [.int r22]) (rest := []) ⟨hx, hb, hml, hown, hts⟩ (c_X4_ringAboutMidst l r22 _ hr27) (va_cwS 1 hts gX4_ringAbout_X4_ringAboutMidst rfl rfl rfl zs_X4_ringAboutMidst ⟨Nat.le_of_ble_eq_true rfl, Nat.le_of_ble_eq_true rfl⟩) ⟨fun _ _ _ _ q => q, fun _ _ _ => ⟨rfl, trivial⟩⟩ rfl rfl hl.1 rfl (lv_room (Nat.le_of_ble_eq_true rfl)) dX4_ringAbout_25 ⟨Nat.zero_le _, Nat.zero_le _⟩) (fun p29 e28 => ?_)
    rw [e28]
    subst hQ
    exact W.iret hx hb hr (fun t ht hW => ⟨_, rfl, Option.some.inj h, ht⟩) (fun _ h9 => by cases h9) dX4_ringAbout_28
  replace h := hk_in c21 h
  refine lv_lload_n hx hb dX4_ringAbout_6 rfl (lv_at hl 0 rfl) ?_
  refine lv_iload_n hx hb dX4_ringAbout_7 rfl (lv_at hl 1 rfl) ?_
  refine lv_iconst (v := (5 : Int32)) hx hb dX4_ringAbout_8 (by decide) ?_
  refine lv_idiv hx hb dX4_ringAbout_9 (by decide) ?_
  refine lv_iload_n hx hb dX4_ringAbout_10 rfl (lv_at hl 1 rfl) ?_
  refine lv_iconst (v := (5 : Int32)) hx hb dX4_ringAbout_11 (by decide) ?_
  refine lv_irem hx hb dX4_ringAbout_12 (by decide) ?_
  refine hk_ti (y := (hk_rem x2 (5 : Int32))) rfl ?_
  obtain ⟨r30, hr31, h⟩ := hk_x1 h
  refine vp_callSi (W.runS (As := [.long x0, .int (x2 / (5 : Int32)), .int (hk_rem x2 (5 : Int32))]) (rest := []) ⟨hx, hb, hml, hown, hts⟩ (c_X4_ringAboutCorner l x0 (x2 / (5 : Int32)) (hk_rem x2 (5 : Int32)) _ hr31) (va_cwS 3 hts gX4_ringAbout_X4_ringAboutCorner rfl rfl rfl zs_X4_ringAboutCorner ⟨Nat.le_of_ble_eq_true rfl, Nat.le_of_ble_eq_true rfl⟩) ⟨fun _ _ _ _ q => q, fun _ _ _ => ⟨rfl, trivial⟩⟩ rfl rfl hl.1 rfl (lv_room (Nat.le_of_ble_eq_true rfl)) dX4_ringAbout_13 ⟨Nat.zero_le _, Nat.zero_le _⟩) (fun p33 e32 => ?_)
  rw [e32]
  subst hQ
  exact W.iret hx hb hr (fun t ht hW => ⟨_, rfl, Option.some.inj h, ht⟩) (fun _ h9 => by cases h9) dX4_ringAbout_16
theorem zs_X4_isFull : yX4_isFull.cls ≠ "java/lang/invoke/MethodHandle" ∧ yX4_isFull.cls ≠ "java/lang/invoke/VarHandle" ∧ (parseMethodDescriptor yX4_isFull.desc).map (fun d => d.parameters.length) = some 2 := by decide +kernel
def f_X4_isFull   (x0 : Int32) (x1 : Int32) : Option Int32 := if ((hk_ishr x0 (x1 &&& (7 : Int32))) &&& (1 : Int32)) = 0 then (some (0 : Int32)) else (some (1 : Int32))
set_option maxHeartbeats 8000000 in
set_option maxRecDepth 100000 in
theorem c_X4_isFull (l : Launch) (x0 : Int32) (x1 : Int32) (rv : Int32) (hf : f_X4_isFull x0 x1 = some rv) : Met l yX4_isFull wsX4_isFull ({ frames := 0, cells := 0, slots := 0, locals := 0 }) (va_Pc [.int x0, .int x1] (fun _ => True)) (vp_Si (fun r => r = rv)) 0 0 (fun _ => False) := by
  refine Met.ofW (cc := cX4_isFull) (maxL := 2) (ret := (some .boolean)) (by decide) rfl ?_
  intro p e s m args below meth c s₁ B hml hv
  obtain ⟨rfl, -⟩ := hv
  have hx := B.exec
  have hb := B.bytes
  have hr := B.returns
  have hts := atoms_spec (ws := wsX4_isFull) B.pre
  have hown : s.vm.findClass RX4 = some m.cls := findClass_of_methodNamed B.named
  have hlocks := B.notSynchronized
  have hl := lv_entry ([.int x0, .int x1]) (n := 2) (Nat.le_of_ble_eq_true rfl)
  rw [lg_entry_eq]
  generalize (lg_sl ([.int x0, .int x1]) ++ List.replicate (2 - (lg_sl ([.int x0, .int x1])).length) Slot.unset).toArray = ls at hl ⊢
  have hl : lv_has ls 2 [(0, .int x0), (1, .int x1)] := hl
  refine hk_Q (fun Q hQ => ?_)
  have h := hf
  unfold f_X4_isFull at h
  refine lv_iload_n hx hb dX4_isFull_0 rfl (lv_at hl 0 rfl) ?_
  refine lv_iload_n hx hb dX4_isFull_1 rfl (lv_at hl 1 rfl) ?_
  refine lv_bipush (v := (7 : Int32)) hx hb dX4_isFull_2 (by decide) ?_
  refine lv_iand hx hb dX4_isFull_4 ?_
  refine lv_ishr hx hb dX4_isFull_5 ?_
  refine hk_ti (y := (hk_ishr x0 (x1 &&& (7 : Int32)))) rfl ?_
  refine lv_iconst (v := (1 : Int32)) hx hb dX4_isFull_6 (by decide) ?_
  refine lv_iand hx hb dX4_isFull_7 ?_
  refine lv_if_eq (tgt := 15) hx hb dX4_isFull_8 (by decide) (fun c21 => ?_) (fun c21 => ?_)
  · replace h := hk_ip c21 h
    refine lv_iconst (v := (0 : Int32)) hx hb dX4_isFull_15 (by decide) ?_
    subst hQ
    exact W.zret hx hb hr rfl (fun t ht hW => ⟨_, rfl, Option.some.inj h, ht⟩) (fun _ h9 => by cases h9) dX4_isFull_16
  replace h := hk_in c21 h
  refine lv_iconst (v := (1 : Int32)) hx hb dX4_isFull_11 (by decide) ?_
  refine lv_goto (tgt := 16) hx hb dX4_isFull_12 (by decide) ?_
  subst hQ
  exact W.zret hx hb hr rfl (fun t ht hW => ⟨_, rfl, Option.some.inj h, ht⟩) (fun _ h9 => by cases h9) dX4_isFull_16
theorem zs_X4_arcFrom : yX4_arcFrom.cls ≠ "java/lang/invoke/MethodHandle" ∧ yX4_arcFrom.cls ≠ "java/lang/invoke/VarHandle" ∧ (parseMethodDescriptor yX4_arcFrom.desc).map (fun d => d.parameters.length) = some 2 := by decide +kernel
def st_X4_arcFrom_23c (x0 : Int32) (x1 : Int32) (y32 : Int32) : Option (Int32 ⊕ Int32) := if (8 : Int32) ≤ y32 then (some (.inr y32)) else (hk_b1 (f_X4_isFull x0 (x1 + y32)) fun r34 => if r34 = 0 then (some (.inr y32)) else (hk_let (y32 + (1 : Int32)) fun x39 => some (.inl x39)))
def st_X4_arcFrom_23 (x0 : Int32) (x1 : Int32) (t9 : Int32) : Option (Int32 ⊕ Int32) := st_X4_arcFrom_23c x0 x1 t9
def f_X4_arcFrom   (x0 : Int32) (x1 : Int32) : Option Int32 := hk_b1 (f_X4_isFull x0 x1) fun r21 => if r21 = 0 then (some (0 : Int32)) else (hk_b1 (f_X4_isFull x0 (x1 + (7 : Int32))) fun r26 => if r26 = 0 then (hk_b1 (hk_wl (st_X4_arcFrom_23 x0 x1) hkF (1 : Int32)) fun z41 => some z41) else (some (0 : Int32)))
set_option maxHeartbeats 8000000 in
set_option maxRecDepth 100000 in
theorem c_X4_arcFrom (l : Launch) (x0 : Int32) (x1 : Int32) (rv : Int32) (hf : f_X4_arcFrom x0 x1 = some rv) : Met l yX4_arcFrom wsX4_arcFrom ({ frames := 1, cells := 0, slots := 0, locals := 21 }) (va_Pc [.int x0, .int x1] (fun _ => True)) (vp_Si (fun r => r = rv)) 0 0 (fun _ => False) := by
  refine Met.ofW (cc := cX4_arcFrom) (maxL := 3) (ret := (some .int)) (by decide) rfl ?_
  intro p e s m args below meth c s₁ B hml hv
  obtain ⟨rfl, -⟩ := hv
  have hx := B.exec
  have hb := B.bytes
  have hr := B.returns
  have hts := atoms_spec (ws := wsX4_arcFrom) B.pre
  have hown : s.vm.findClass RX4 = some m.cls := findClass_of_methodNamed B.named
  have hlocks := B.notSynchronized
  have hl := lv_entry ([.int x0, .int x1]) (n := 3) (Nat.le_of_ble_eq_true rfl)
  rw [lg_entry_eq]
  generalize (lg_sl ([.int x0, .int x1]) ++ List.replicate (3 - (lg_sl ([.int x0, .int x1])).length) Slot.unset).toArray = ls at hl ⊢
  have hl : lv_has ls 3 [(0, .int x0), (1, .int x1)] := hl
  refine hk_Q (fun Q hQ => ?_)
  have h := hf
  unfold f_X4_arcFrom at h
  refine lv_iload_n hx hb dX4_arcFrom_0 rfl (lv_at hl 0 rfl) ?_
  refine lv_iload_n hx hb dX4_arcFrom_1 rfl (lv_at hl 1 rfl) ?_
  obtain ⟨r21, hr22, h⟩ := hk_x1 h
  refine vp_callSi (W.runS (As := [.int x0, .int x1]) (rest := []) ⟨hx, hb, hml, hown, hts⟩ (c_X4_isFull l x0 x1 _ hr22) (va_cwS 2 hts gX4_arcFrom_X4_isFull rfl rfl rfl zs_X4_isFull ⟨Nat.le_of_ble_eq_true rfl, Nat.le_of_ble_eq_true rfl⟩) ⟨fun _ _ _ _ q => q, fun _ _ _ => ⟨rfl, trivial⟩⟩ rfl rfl hl.1 rfl (lv_room (Nat.le_of_ble_eq_true rfl)) dX4_arcFrom_2 ⟨Nat.zero_le _, Nat.zero_le _⟩) (fun p24 e23 => ?_)
  rw [e23]
  refine lv_if_eq (tgt := 19) hx hb dX4_arcFrom_5 (by decide) (fun c25 => ?_) (fun c25 => ?_)
  · replace h := hk_ip c25 h
    refine lv_iconst (v := (0 : Int32)) hx hb dX4_arcFrom_19 (by decide) ?_
    subst hQ
    exact W.iret hx hb hr (fun t ht hW => ⟨_, rfl, Option.some.inj h, ht⟩) (fun _ h9 => by cases h9) dX4_arcFrom_20
  replace h := hk_in c25 h
  refine lv_iload_n hx hb dX4_arcFrom_8 rfl (lv_at hl 0 rfl) ?_
  refine lv_iload_n hx hb dX4_arcFrom_9 rfl (lv_at hl 1 rfl) ?_
  refine lv_bipush (v := (7 : Int32)) hx hb dX4_arcFrom_10 (by decide) ?_
  refine lv_iadd hx hb dX4_arcFrom_12 ?_
  obtain ⟨r26, hr27, h⟩ := hk_x1 h
  refine vp_callSi (W.runS (As := [.int x0, .int (x1 + (7 : Int32))]) (rest := []) ⟨hx, hb, hml, hown, hts⟩ (c_X4_isFull l x0 (x1 + (7 : Int32)) _ hr27) (va_cwS 2 hts gX4_arcFrom_X4_isFull rfl rfl rfl zs_X4_isFull ⟨Nat.le_of_ble_eq_true rfl, Nat.le_of_ble_eq_true rfl⟩) ⟨fun _ _ _ _ q => q, fun _ _ _ => ⟨rfl, trivial⟩⟩ rfl rfl hl.1 rfl (lv_room (Nat.le_of_ble_eq_true rfl)) dX4_arcFrom_13 ⟨Nat.zero_le _, Nat.zero_le _⟩) (fun p29 e28 => ?_)
  rw [e28]
  refine lv_if_eq (tgt := 21) hx hb dX4_arcFrom_16 (by decide) (fun c30 => ?_) (fun c30 => ?_)
  · replace h := hk_ip c30 h
    refine lv_iconst (v := (1 : Int32)) hx hb dX4_arcFrom_21 (by decide) ?_
    refine lv_istore_n (lv' := [(2, .int (1 : Int32)), (0, .int x0), (1, .int x1)]) hx hb dX4_arcFrom_22 rfl hl (by decide) rfl (fun ls hl => ?_)
    obtain ⟨z41, hr40, h⟩ := hk_x1 h
    refine hk_loopR (f := st_X4_arcFrom_23 x0 x1) (hd := 23) (nL := 3) (lv := fun t9 => [(0, .int x0), (1, .int x1), (2, .int t9)]) (xs := fun t9 => (45, [(2, .int t9)], [])) ?_ hr40 ?_ (lv_sub hl [1, 2, 0] rfl)
    · intro y32 q43 k31 hck31 hqk31 ls hl
      have k31 : st_X4_arcFrom_23c x0 x1 y32 = some q43 := k31
      unfold st_X4_arcFrom_23c at k31
      have hl : lv_has ls 3 [(0, .int x0), (1, .int x1), (2, .int y32)] := hl
      refine lv_iload_n hx hb dX4_arcFrom_23 rfl (lv_at hl 2 rfl) ?_
      refine lv_bipush (v := (8 : Int32)) hx hb dX4_arcFrom_24 (by decide) ?_
      refine lv_icmp_ge (tgt := 45) hx hb dX4_arcFrom_26 (by decide) (fun c33 => ?_) (fun c33 => ?_)
      · replace k31 := hk_ip c33 k31
        exact hqk31 y32 (Option.some.inj k31).symm ls (lv_sub hl [2] rfl)
      replace k31 := hk_in c33 k31
      refine lv_iload_n hx hb dX4_arcFrom_29 rfl (lv_at hl 0 rfl) ?_
      refine lv_iload_n hx hb dX4_arcFrom_30 rfl (lv_at hl 1 rfl) ?_
      refine lv_iload_n hx hb dX4_arcFrom_31 rfl (lv_at hl 2 rfl) ?_
      refine lv_iadd hx hb dX4_arcFrom_32 ?_
      obtain ⟨r34, hr35, k31⟩ := hk_x1 k31
      refine vp_callSi (W.runS (As := [.int x0, .int (x1 + y32)]) (rest := []) ⟨hx, hb, hml, hown, hts⟩ (c_X4_isFull l x0 (x1 + y32) _ hr35) (va_cwS 2 hts gX4_arcFrom_X4_isFull rfl rfl rfl zs_X4_isFull ⟨Nat.le_of_ble_eq_true rfl, Nat.le_of_ble_eq_true rfl⟩) ⟨fun _ _ _ _ q => q, fun _ _ _ => ⟨rfl, trivial⟩⟩ rfl rfl hl.1 rfl (lv_room (Nat.le_of_ble_eq_true rfl)) dX4_arcFrom_33 ⟨Nat.zero_le _, Nat.zero_le _⟩) (fun p37 e36 => ?_)
      rw [e36]
      refine lv_if_eq (tgt := 45) hx hb dX4_arcFrom_36 (by decide) (fun c38 => ?_) (fun c38 => ?_)
      · replace k31 := hk_ip c38 k31
        exact hqk31 y32 (Option.some.inj k31).symm ls (lv_sub hl [2] rfl)
      replace k31 := hk_in c38 k31
      obtain ⟨x39, ex39, k31⟩ := hk_le k31
      refine lv_iinc (v := x39) (lv' := [(2, .int x39), (0, .int x0), (1, .int x1)]) hx hb dX4_arcFrom_39 hl (k := 2) rfl (by rw [ex39]; rfl) (by decide) rfl (fun ls hl => ?_)
      refine lv_goto (tgt := 23) hx hb dX4_arcFrom_42 (by decide) ?_
      exact hck31 x39 (Option.some.inj k31).symm ls (lv_sub hl [1, 2, 0] rfl)
    intro ls hl
    have hl : lv_has ls 3 [(2, .int z41)] := hl
    show W _ _ _ _ _ _ _ _ _ _ _ _ _ _ _ (F0 m 45 ls [])
    refine lv_iload_n hx hb dX4_arcFrom_45 rfl (lv_at hl 0 rfl) ?_
    subst hQ
    exact W.iret hx hb hr (fun t ht hW => ⟨_, rfl, Option.some.inj h, ht⟩) (fun _ h9 => by cases h9) dX4_arcFrom_46
  replace h := hk_in c30 h
  refine lv_iconst (v := (0 : Int32)) hx hb dX4_arcFrom_19 (by decide) ?_
  subst hQ
  exact W.iret hx hb hr (fun t ht hW => ⟨_, rfl, Option.some.inj h, ht⟩) (fun _ h9 => by cases h9) dX4_arcFrom_20
theorem zs_X4_countCorners : yX4_countCorners.cls ≠ "java/lang/invoke/MethodHandle" ∧ yX4_countCorners.cls ≠ "java/lang/invoke/VarHandle" ∧ (parseMethodDescriptor yX4_countCorners.desc).map (fun d => d.parameters.length) = some 2 := by decide +kernel
def st_X4_countCorners_23c (x2 : Int32) (r25 : Int32) (y30 : Int32) (y31 : Int32) : Option ((Int32 × Int32) ⊕ Int32) := if (8 : Int32) ≤ y31 then (some (.inr y30)) else (hk_b1 (f_X4_arcFrom r25 y31) fun r33 => hk_let (if r33 = 0 then (y30) else (if r33 = (4 : Int32) then (y30) else (if x2 = 0 then (hk_let (y30 + (1 : Int32)) fun x41 => x41) else (if r33 = x2 then (hk_let (y30 + (1 : Int32)) fun x43 => x43) else (y30))))) fun v44 => hk_let (y31 + (1 : Int32)) fun x45 => some (.inl (v44, x45)))
def st_X4_countCorners_23 (x2 : Int32) (r25 : Int32) (t9 : (Int32 × Int32)) : Option ((Int32 × Int32) ⊕ Int32) := st_X4_countCorners_23c x2 r25 t9.1 t9.2
def st_X4_countCorners_5c (x0 : Int64) (x2 : Int32) (y22 : Int32) (y23 : Int32) : Option ((Int32 × Int32) ⊕ Int32) := if (41 : Int32) ≤ y23 then (some (.inr y22)) else (hk_b1 (f_X4_ringAbout x0 y23) fun r25 => hk_b1 (hk_wl (st_X4_countCorners_23 x2 r25) hkF (y22, (0 : Int32))) fun z47 => hk_let (y23 + (1 : Int32)) fun x50 => some (.inl (z47, x50)))
def st_X4_countCorners_5 (x0 : Int64) (x2 : Int32) (t9 : (Int32 × Int32)) : Option ((Int32 × Int32) ⊕ Int32) := st_X4_countCorners_5c x0 x2 t9.1 t9.2
def f_X4_countCorners   (x0 : Int64) (x2 : Int32) : Option Int32 := hk_b1 (hk_wl (st_X4_countCorners_5 x0 x2) hkF ((0 : Int32), (0 : Int32))) fun z52 => some z52
set_option maxHeartbeats 8000000 in
set_option maxRecDepth 100000 in
theorem c_X4_countCorners (l : Launch) (x0 : Int64) (x2 : Int32) (rv : Int32) (hf : f_X4_countCorners x0 x2 = some rv) : Met l yX4_countCorners wsX4_countCorners ({ frames := 4, cells := 0, slots := 0, locals := 94 }) (va_Pc [.long x0, .int x2] (fun _ => True)) (vp_Si (fun r => r = rv)) 0 0 (fun _ => False) := by
  refine Met.ofW (cc := cX4_countCorners) (maxL := 8) (ret := (some .int)) (by decide) rfl ?_
  intro p e s m args below meth c s₁ B hml hv
  obtain ⟨rfl, -⟩ := hv
  have hx := B.exec
  have hb := B.bytes
  have hr := B.returns
  have hts := atoms_spec (ws := wsX4_countCorners) B.pre
  have hown : s.vm.findClass RX4 = some m.cls := findClass_of_methodNamed B.named
  have hlocks := B.notSynchronized
  have hl := lv_entry ([.long x0, .int x2]) (n := 8) (Nat.le_of_ble_eq_true rfl)
  rw [lg_entry_eq]
  generalize (lg_sl ([.long x0, .int x2]) ++ List.replicate (8 - (lg_sl ([.long x0, .int x2])).length) Slot.unset).toArray = ls at hl ⊢
  have hl : lv_has ls 8 [(0, .long x0), (2, .int x2)] := hl
  refine hk_Q (fun Q hQ => ?_)
  have h := hf
  unfold f_X4_countCorners at h
  refine lv_iconst (v := (0 : Int32)) hx hb dX4_countCorners_0 (by decide) ?_
  refine lv_istore_n (lv' := [(3, .int (0 : Int32)), (0, .long x0), (2, .int x2)]) hx hb dX4_countCorners_1 rfl hl (by decide) rfl (fun ls hl => ?_)
  refine lv_iconst (v := (0 : Int32)) hx hb dX4_countCorners_2 (by decide) ?_
  refine lv_istore (lv' := [(4, .int (0 : Int32)), (3, .int (0 : Int32)), (0, .long x0), (2, .int x2)]) hx hb dX4_countCorners_3 hl (by decide) rfl (fun ls hl => ?_)
  obtain ⟨z52, hr51, h⟩ := hk_x1 h
  refine hk_loopR (f := st_X4_countCorners_5 x0 x2) (hd := 5) (nL := 8) (lv := fun t9 => [(0, .long x0), (2, .int x2), (3, .int t9.1), (4, .int t9.2)]) (xs := fun t9 => (75, [(3, .int t9)], [])) ?_ hr51 ?_ (lv_sub hl [2, 3, 1, 0] rfl)
  · intro t53 q54 k21 hck21 hqk21 ls hl
    obtain ⟨y22, y23⟩ := t53
    have k21 : st_X4_countCorners_5c x0 x2 y22 y23 = some q54 := k21
    unfold st_X4_countCorners_5c at k21
    have hl : lv_has ls 8 [(0, .long x0), (2, .int x2), (3, .int y22), (4, .int y23)] := hl
    refine lv_iload hx hb dX4_countCorners_5 (lv_at hl 3 rfl) ?_
    refine lv_bipush (v := (41 : Int32)) hx hb dX4_countCorners_7 (by decide) ?_
    refine lv_icmp_ge (tgt := 75) hx hb dX4_countCorners_9 (by decide) (fun c24 => ?_) (fun c24 => ?_)
    · replace k21 := hk_ip c24 k21
      exact hqk21 y22 (Option.some.inj k21).symm ls (lv_sub hl [2] rfl)
    replace k21 := hk_in c24 k21
    refine lv_lload_n hx hb dX4_countCorners_12 rfl (lv_at hl 0 rfl) ?_
    refine lv_iload hx hb dX4_countCorners_13 (lv_at hl 3 rfl) ?_
    obtain ⟨r25, hr26, k21⟩ := hk_x1 k21
    refine vp_callSi (W.runS (As := [.long x0, .int y23]) (rest := []) ⟨hx, hb, hml, hown, hts⟩ (c_X4_ringAbout l x0 y23 _ hr26) (va_cwS 2 hts gX4_countCorners_X4_ringAbout rfl rfl rfl zs_X4_ringAbout ⟨Nat.le_of_ble_eq_true rfl, Nat.le_of_ble_eq_true rfl⟩) ⟨fun _ _ _ _ q => q, fun _ _ _ => ⟨rfl, trivial⟩⟩ rfl rfl hl.1 rfl (lv_room (Nat.le_of_ble_eq_true rfl)) dX4_countCorners_15 ⟨Nat.zero_le _, Nat.zero_le _⟩) (fun p28 e27 => ?_)
    rw [e27]
    refine lv_istore (lv' := [(5, .int r25), (0, .long x0), (2, .int x2), (3, .int y22), (4, .int y23)]) hx hb dX4_countCorners_18 hl (by decide) rfl (fun ls hl => ?_)
    refine lv_iconst (v := (0 : Int32)) hx hb dX4_countCorners_20 (by decide) ?_
    refine lv_istore (lv' := [(6, .int (0 : Int32)), (5, .int r25), (0, .long x0), (2, .int x2), (3, .int y22), (4, .int y23)]) hx hb dX4_countCorners_21 hl (by decide) rfl (fun ls hl => ?_)
    obtain ⟨z47, hr46, k21⟩ := hk_x1 k21
    refine hk_loopR (f := st_X4_countCorners_23 x2 r25) (hd := 23) (nL := 8) (lv := fun t9 => [(0, .long x0), (2, .int x2), (3, .int t9.1), (4, .int y23), (5, .int r25), (6, .int t9.2)]) (xs := fun t9 => (69, [(0, .long x0), (2, .int x2), (3, .int t9), (4, .int y23)], [])) ?_ hr46 ?_ (lv_sub hl [2, 3, 4, 5, 1, 0] rfl)
    · intro t48 q49 k29 hck29 hqk29 ls hl
      obtain ⟨y30, y31⟩ := t48
      have k29 : st_X4_countCorners_23c x2 r25 y30 y31 = some q49 := k29
      unfold st_X4_countCorners_23c at k29
      have hl : lv_has ls 8 [(0, .long x0), (2, .int x2), (3, .int y30), (4, .int y23), (5, .int r25), (6, .int y31)] := hl
      refine lv_iload hx hb dX4_countCorners_23 (lv_at hl 5 rfl) ?_
      refine lv_bipush (v := (8 : Int32)) hx hb dX4_countCorners_25 (by decide) ?_
      refine lv_icmp_ge (tgt := 69) hx hb dX4_countCorners_27 (by decide) (fun c32 => ?_) (fun c32 => ?_)
      · replace k29 := hk_ip c32 k29
        exact hqk29 y30 (Option.some.inj k29).symm ls (lv_sub hl [0, 1, 2, 3] rfl)
      replace k29 := hk_in c32 k29
      refine lv_iload hx hb dX4_countCorners_30 (lv_at hl 4 rfl) ?_
      refine lv_iload hx hb dX4_countCorners_32 (lv_at hl 5 rfl) ?_
      obtain ⟨r33, hr34, k29⟩ := hk_x1 k29
      refine vp_callSi (W.runS (As := [.int r25, .int y31]) (rest := []) ⟨hx, hb, hml, hown, hts⟩ (c_X4_arcFrom l r25 y31 _ hr34) (va_cwS 2 hts gX4_countCorners_X4_arcFrom rfl rfl rfl zs_X4_arcFrom ⟨Nat.le_of_ble_eq_true rfl, Nat.le_of_ble_eq_true rfl⟩) ⟨fun _ _ _ _ q => q, fun _ _ _ => ⟨rfl, trivial⟩⟩ rfl rfl hl.1 rfl (lv_room (Nat.le_of_ble_eq_true rfl)) dX4_countCorners_34 ⟨Nat.zero_le _, Nat.zero_le _⟩) (fun p36 e35 => ?_)
      rw [e35]
      refine lv_istore (lv' := [(7, .int r33), (0, .long x0), (2, .int x2), (3, .int y30), (4, .int y23), (5, .int r25), (6, .int y31)]) hx hb dX4_countCorners_37 hl (by decide) rfl (fun ls hl => ?_)
      refine lv_iload hx hb dX4_countCorners_39 (lv_at hl 0 rfl) ?_
      obtain ⟨v44, g37, k29⟩ := hk_lf k29
      refine hk_joinR (nL := 8) (xs := fun (t9 : Int32) => (63, [(0, .long x0), (2, .int x2), (3, .int t9), (4, .int y23), (5, .int r25), (6, .int y31)], [])) v44 (fun hjg37 => ?_) ?_
      · refine lv_if_eq (tgt := 63) hx hb dX4_countCorners_41 (by decide) (fun c38 => ?_) (fun c38 => ?_)
        · replace g37 := hk_ip c38 g37
          subst g37
          exact hjg37 ls (lv_sub hl [1, 2, 3, 4, 5, 6] rfl)
        replace g37 := hk_in c38 g37
        refine lv_iload hx hb dX4_countCorners_44 (lv_at hl 0 rfl) ?_
        refine lv_iconst (v := (4 : Int32)) hx hb dX4_countCorners_46 (by decide) ?_
        refine lv_icmp_eq (tgt := 63) hx hb dX4_countCorners_47 (by decide) (fun c39 => ?_) (fun c39 => ?_)
        · replace g37 := hk_ip c39 g37
          subst g37
          exact hjg37 ls (lv_sub hl [1, 2, 3, 4, 5, 6] rfl)
        replace g37 := hk_in c39 g37
        refine lv_iload_n hx hb dX4_countCorners_50 rfl (lv_at hl 2 rfl) ?_
        refine lv_if_eq (tgt := 60) hx hb dX4_countCorners_51 (by decide) (fun c40 => ?_) (fun c40 => ?_)
        · replace g37 := hk_ip c40 g37
          obtain ⟨x41, ex41, g37⟩ := hk_le g37
          refine lv_iinc (v := x41) (lv' := [(3, .int x41), (7, .int r33), (0, .long x0), (2, .int x2), (4, .int y23), (5, .int r25), (6, .int y31)]) hx hb dX4_countCorners_60 hl (k := 3) rfl (by rw [ex41]; rfl) (by decide) rfl (fun ls hl => ?_)
          subst g37
          exact hjg37 ls (lv_sub hl [2, 3, 0, 4, 5, 6] rfl)
        replace g37 := hk_in c40 g37
        refine lv_iload hx hb dX4_countCorners_54 (lv_at hl 0 rfl) ?_
        refine lv_iload_n hx hb dX4_countCorners_56 rfl (lv_at hl 2 rfl) ?_
        refine lv_icmp_ne (tgt := 63) hx hb dX4_countCorners_57 (by decide) (fun c42 => ?_) (fun c42 => ?_)
        · replace g37 := hk_in c42 g37
          subst g37
          exact hjg37 ls (lv_sub hl [1, 2, 3, 4, 5, 6] rfl)
        replace g37 := hk_ip c42 g37
        obtain ⟨x43, ex43, g37⟩ := hk_le g37
        refine lv_iinc (v := x43) (lv' := [(3, .int x43), (7, .int r33), (0, .long x0), (2, .int x2), (4, .int y23), (5, .int r25), (6, .int y31)]) hx hb dX4_countCorners_60 hl (k := 3) rfl (by rw [ex43]; rfl) (by decide) rfl (fun ls hl => ?_)
        subst g37
        exact hjg37 ls (lv_sub hl [2, 3, 0, 4, 5, 6] rfl)
      intro ls hl
      have hl : lv_has ls 8 [(0, .long x0), (2, .int x2), (3, .int v44), (4, .int y23), (5, .int r25), (6, .int y31)] := hl
      show W _ _ _ _ _ _ _ _ _ _ _ _ _ _ _ (F0 m 63 ls [])
      obtain ⟨x45, ex45, k29⟩ := hk_le k29
      refine lv_iinc (v := x45) (lv' := [(6, .int x45), (0, .long x0), (2, .int x2), (3, .int v44), (4, .int y23), (5, .int r25)]) hx hb dX4_countCorners_63 hl (k := 5) rfl (by rw [ex45]; rfl) (by decide) rfl (fun ls hl => ?_)
      refine lv_goto (tgt := 23) hx hb dX4_countCorners_66 (by decide) ?_
      exact hck29 (v44, x45) (Option.some.inj k29).symm ls (lv_sub hl [1, 2, 3, 4, 5, 0] rfl)
    intro ls hl
    have hl : lv_has ls 8 [(0, .long x0), (2, .int x2), (3, .int z47), (4, .int y23)] := hl
    show W _ _ _ _ _ _ _ _ _ _ _ _ _ _ _ (F0 m 69 ls [])
    obtain ⟨x50, ex50, k21⟩ := hk_le k21
    refine lv_iinc (v := x50) (lv' := [(4, .int x50), (0, .long x0), (2, .int x2), (3, .int z47)]) hx hb dX4_countCorners_69 hl (k := 3) rfl (by rw [ex50]; rfl) (by decide) rfl (fun ls hl => ?_)
    refine lv_goto (tgt := 5) hx hb dX4_countCorners_72 (by decide) ?_
    exact hck21 (z47, x50) (Option.some.inj k21).symm ls (lv_sub hl [1, 2, 3, 0] rfl)
  intro ls hl
  have hl : lv_has ls 8 [(3, .int z52)] := hl
  show W _ _ _ _ _ _ _ _ _ _ _ _ _ _ _ (F0 m 75 ls [])
  refine lv_iload_n hx hb dX4_countCorners_75 rfl (lv_at hl 0 rfl) ?_
  subst hQ
  exact W.iret hx hb hr (fun t ht hW => ⟨_, rfl, Option.some.inj h, ht⟩) (fun _ h9 => by cases h9) dX4_countCorners_76
theorem zs_X4_bulgesAt : yX4_bulgesAt.cls ≠ "java/lang/invoke/MethodHandle" ∧ yX4_bulgesAt.cls ≠ "java/lang/invoke/VarHandle" ∧ (parseMethodDescriptor yX4_bulgesAt.desc).map (fun d => d.parameters.length) = some 1 := by decide +kernel
def st_X4_bulgesAt_4c (x0 : Int32) (y22 : Int32) (y23 : Int32) : Option ((Int32 × Int32) ⊕ (Unit ⊕ Int32)) := if (8 : Int32) ≤ y23 then (some (.inr (.inr y22))) else (hk_b1 (f_X4_arcFrom x0 y23) fun r25 => if r25 ≤ (4 : Int32) then (hk_let (if r25 ≤ 0 then (y22) else (hk_let (y22 + (1 : Int32)) fun x32 => x32)) fun v33 => hk_let (y23 + (1 : Int32)) fun x34 => some (.inl (v33, x34))) else (some (.inr (.inl ()))))
def st_X4_bulgesAt_4 (x0 : Int32) (t9 : (Int32 × Int32)) : Option ((Int32 × Int32) ⊕ (Unit ⊕ Int32)) := st_X4_bulgesAt_4c x0 t9.1 t9.2
def f_X4_bulgesAt   (x0 : Int32) : Option Int32 := hk_b1 (hk_wl (st_X4_bulgesAt_4 x0) hkF ((0 : Int32), (0 : Int32))) fun r36 => hk_sum r36 (fun z39 => some (0 : Int32)) (fun z40 => if (2 : Int32) ≤ z40 then (some (0 : Int32)) else (some (1 : Int32)))
set_option maxHeartbeats 8000000 in
set_option maxRecDepth 100000 in
theorem c_X4_bulgesAt (l : Launch) (x0 : Int32) (rv : Int32) (hf : f_X4_bulgesAt x0 = some rv) : Met l yX4_bulgesAt wsX4_bulgesAt ({ frames := 2, cells := 0, slots := 0, locals := 43 }) (va_Pc [.int x0] (fun _ => True)) (vp_Si (fun r => r = rv)) 0 0 (fun _ => False) := by
  refine Met.ofW (cc := cX4_bulgesAt) (maxL := 4) (ret := (some .boolean)) (by decide) rfl ?_
  intro p e s m args below meth c s₁ B hml hv
  obtain ⟨rfl, -⟩ := hv
  have hx := B.exec
  have hb := B.bytes
  have hr := B.returns
  have hts := atoms_spec (ws := wsX4_bulgesAt) B.pre
  have hown : s.vm.findClass RX4 = some m.cls := findClass_of_methodNamed B.named
  have hlocks := B.notSynchronized
  have hl := lv_entry ([.int x0]) (n := 4) (Nat.le_of_ble_eq_true rfl)
  rw [lg_entry_eq]
  generalize (lg_sl ([.int x0]) ++ List.replicate (4 - (lg_sl ([.int x0])).length) Slot.unset).toArray = ls at hl ⊢
  have hl : lv_has ls 4 [(0, .int x0)] := hl
  refine hk_Q (fun Q hQ => ?_)
  have h := hf
  unfold f_X4_bulgesAt at h
  refine lv_iconst (v := (0 : Int32)) hx hb dX4_bulgesAt_0 (by decide) ?_
  refine lv_istore_n (lv' := [(1, .int (0 : Int32)), (0, .int x0)]) hx hb dX4_bulgesAt_1 rfl hl (by decide) rfl (fun ls hl => ?_)
  refine lv_iconst (v := (0 : Int32)) hx hb dX4_bulgesAt_2 (by decide) ?_
  refine lv_istore_n (lv' := [(2, .int (0 : Int32)), (1, .int (0 : Int32)), (0, .int x0)]) hx hb dX4_bulgesAt_3 rfl hl (by decide) rfl (fun ls hl => ?_)
  obtain ⟨r36, hr35, h⟩ := hk_x1 h
  refine hk_loopR (f := st_X4_bulgesAt_4 x0) (hd := 4) (nL := 4) (lv := fun t9 => [(0, .int x0), (1, .int t9.1), (2, .int t9.2)]) (xs := fun r9 => match r9 with | .inl t9 => (21, [], []) | .inr t9 => (36, [(1, .int t9)], [])) ?_ hr35 ?_ (lv_sub hl [2, 1, 0] rfl)
  · intro t37 q38 k21 hck21 hqk21 ls hl
    obtain ⟨y22, y23⟩ := t37
    have k21 : st_X4_bulgesAt_4c x0 y22 y23 = some q38 := k21
    unfold st_X4_bulgesAt_4c at k21
    have hl : lv_has ls 4 [(0, .int x0), (1, .int y22), (2, .int y23)] := hl
    refine lv_iload_n hx hb dX4_bulgesAt_4 rfl (lv_at hl 2 rfl) ?_
    refine lv_bipush (v := (8 : Int32)) hx hb dX4_bulgesAt_5 (by decide) ?_
    refine lv_icmp_ge (tgt := 36) hx hb dX4_bulgesAt_7 (by decide) (fun c24 => ?_) (fun c24 => ?_)
    · replace k21 := hk_ip c24 k21
      exact hqk21 (.inr y22) (Option.some.inj k21).symm ls (lv_sub hl [1] rfl)
    replace k21 := hk_in c24 k21
    refine lv_iload_n hx hb dX4_bulgesAt_10 rfl (lv_at hl 0 rfl) ?_
    refine lv_iload_n hx hb dX4_bulgesAt_11 rfl (lv_at hl 2 rfl) ?_
    obtain ⟨r25, hr26, k21⟩ := hk_x1 k21
    refine vp_callSi (W.runS (As := [.int x0, .int y23]) (rest := []) ⟨hx, hb, hml, hown, hts⟩ (c_X4_arcFrom l x0 y23 _ hr26) (va_cwS 2 hts gX4_bulgesAt_X4_arcFrom rfl rfl rfl zs_X4_arcFrom ⟨Nat.le_of_ble_eq_true rfl, Nat.le_of_ble_eq_true rfl⟩) ⟨fun _ _ _ _ q => q, fun _ _ _ => ⟨rfl, trivial⟩⟩ rfl rfl hl.1 rfl (lv_room (Nat.le_of_ble_eq_true rfl)) dX4_bulgesAt_12 ⟨Nat.zero_le _, Nat.zero_le _⟩) (fun p28 e27 => ?_)
    rw [e27]
    refine lv_istore_n (lv' := [(3, .int r25), (0, .int x0), (1, .int y22), (2, .int y23)]) hx hb dX4_bulgesAt_15 rfl hl (by decide) rfl (fun ls hl => ?_)
    refine lv_iload_n hx hb dX4_bulgesAt_16 rfl (lv_at hl 0 rfl) ?_
    refine lv_iconst (v := (4 : Int32)) hx hb dX4_bulgesAt_17 (by decide) ?_
    refine lv_icmp_le (tgt := 23) hx hb dX4_bulgesAt_18 (by decide) (fun c29 => ?_) (fun c29 => ?_)
    · replace k21 := hk_ip c29 k21
      refine lv_iload_n hx hb dX4_bulgesAt_23 rfl (lv_at hl 0 rfl) ?_
      obtain ⟨v33, g30, k21⟩ := hk_lf k21
      refine hk_joinR (nL := 4) (xs := fun (t9 : Int32) => (30, [(0, .int x0), (1, .int t9), (2, .int y23)], [])) v33 (fun hjg30 => ?_) ?_
      · refine lv_if_le (tgt := 30) hx hb dX4_bulgesAt_24 (by decide) (fun c31 => ?_) (fun c31 => ?_)
        · replace g30 := hk_ip c31 g30
          subst g30
          exact hjg30 ls (lv_sub hl [1, 2, 3] rfl)
        replace g30 := hk_in c31 g30
        obtain ⟨x32, ex32, g30⟩ := hk_le g30
        refine lv_iinc (v := x32) (lv' := [(1, .int x32), (3, .int r25), (0, .int x0), (2, .int y23)]) hx hb dX4_bulgesAt_27 hl (k := 2) rfl (by rw [ex32]; rfl) (by decide) rfl (fun ls hl => ?_)
        subst g30
        exact hjg30 ls (lv_sub hl [2, 0, 3] rfl)
      intro ls hl
      have hl : lv_has ls 4 [(0, .int x0), (1, .int v33), (2, .int y23)] := hl
      show W _ _ _ _ _ _ _ _ _ _ _ _ _ _ _ (F0 m 30 ls [])
      obtain ⟨x34, ex34, k21⟩ := hk_le k21
      refine lv_iinc (v := x34) (lv' := [(2, .int x34), (0, .int x0), (1, .int v33)]) hx hb dX4_bulgesAt_30 hl (k := 2) rfl (by rw [ex34]; rfl) (by decide) rfl (fun ls hl => ?_)
      refine lv_goto (tgt := 4) hx hb dX4_bulgesAt_33 (by decide) ?_
      exact hck21 (v33, x34) (Option.some.inj k21).symm ls (lv_sub hl [1, 2, 0] rfl)
    replace k21 := hk_in c29 k21
    exact hqk21 (.inl ()) (Option.some.inj k21).symm ls (lv_sub hl [] rfl)
  intro ls hl
  rcases r36 with r36 | r36
  · replace h := hk_sa h
    generalize r36 = z39 at h hl ⊢
    have hl : lv_has ls 4 [] := hl
    show W _ _ _ _ _ _ _ _ _ _ _ _ _ _ _ (F0 m 21 ls [])
    refine lv_iconst (v := (0 : Int32)) hx hb dX4_bulgesAt_21 (by decide) ?_
    subst hQ
    exact W.zret hx hb hr rfl (fun t ht hW => ⟨_, rfl, Option.some.inj h, ht⟩) (fun _ h9 => by cases h9) dX4_bulgesAt_22
  · replace h := hk_sb h
    generalize r36 = z40 at h hl ⊢
    have hl : lv_has ls 4 [(1, .int z40)] := hl
    show W _ _ _ _ _ _ _ _ _ _ _ _ _ _ _ (F0 m 36 ls [])
    refine lv_iload_n hx hb dX4_bulgesAt_36 rfl (lv_at hl 0 rfl) ?_
    refine lv_iconst (v := (2 : Int32)) hx hb dX4_bulgesAt_37 (by decide) ?_
    refine lv_icmp_ge (tgt := 45) hx hb dX4_bulgesAt_38 (by decide) (fun c41 => ?_) (fun c41 => ?_)
    · replace h := hk_ip c41 h
      refine lv_iconst (v := (0 : Int32)) hx hb dX4_bulgesAt_45 (by decide) ?_
      subst hQ
      exact W.zret hx hb hr rfl (fun t ht hW => ⟨_, rfl, Option.some.inj h, ht⟩) (fun _ h9 => by cases h9) dX4_bulgesAt_46
    replace h := hk_in c41 h
    refine lv_iconst (v := (1 : Int32)) hx hb dX4_bulgesAt_41 (by decide) ?_
    refine lv_goto (tgt := 46) hx hb dX4_bulgesAt_42 (by decide) ?_
    subst hQ
    exact W.zret hx hb hr rfl (fun t ht hW => ⟨_, rfl, Option.some.inj h, ht⟩) (fun _ h9 => by cases h9) dX4_bulgesAt_46
theorem zs_X4_bulgeOnly : yX4_bulgeOnly.cls ≠ "java/lang/invoke/MethodHandle" ∧ yX4_bulgeOnly.cls ≠ "java/lang/invoke/VarHandle" ∧ (parseMethodDescriptor yX4_bulgeOnly.desc).map (fun d => d.parameters.length) = some 1 := by decide +kernel
def st_X4_bulgeOnly_2c (x0 : Int64) (y22 : Int32) : Option (Int32 ⊕ (Unit ⊕ Unit)) := if (41 : Int32) ≤ y22 then (some (.inr (.inr ()))) else (hk_b1 (f_X4_ringAbout x0 y22) fun r24 => hk_b1 (f_X4_bulgesAt r24) fun r28 => if r28 = 0 then (some (.inr (.inl ()))) else (hk_let (y22 + (1 : Int32)) fun x33 => some (.inl x33)))
def st_X4_bulgeOnly_2 (x0 : Int64) (t9 : Int32) : Option (Int32 ⊕ (Unit ⊕ Unit)) := st_X4_bulgeOnly_2c x0 t9
def f_X4_bulgeOnly   (x0 : Int64) : Option Int32 := hk_b1 (hk_wl (st_X4_bulgeOnly_2 x0) hkF (0 : Int32)) fun r35 => hk_sum r35 (fun z38 => some (0 : Int32)) (fun z39 => some (1 : Int32))
set_option maxHeartbeats 8000000 in
set_option maxRecDepth 100000 in
theorem c_X4_bulgeOnly (l : Launch) (x0 : Int64) (rv : Int32) (hf : f_X4_bulgeOnly x0 = some rv) : Met l yX4_bulgeOnly wsX4_bulgeOnly ({ frames := 4, cells := 0, slots := 0, locals := 94 }) (va_Pc [.long x0] (fun _ => True)) (vp_Si (fun r => r = rv)) 0 0 (fun _ => False) := by
  refine Met.ofW (cc := cX4_bulgeOnly) (maxL := 3) (ret := (some .boolean)) (by decide) rfl ?_
  intro p e s m args below meth c s₁ B hml hv
  obtain ⟨rfl, -⟩ := hv
  have hx := B.exec
  have hb := B.bytes
  have hr := B.returns
  have hts := atoms_spec (ws := wsX4_bulgeOnly) B.pre
  have hown : s.vm.findClass RX4 = some m.cls := findClass_of_methodNamed B.named
  have hlocks := B.notSynchronized
  have hl := lv_entry ([.long x0]) (n := 3) (Nat.le_of_ble_eq_true rfl)
  rw [lg_entry_eq]
  generalize (lg_sl ([.long x0]) ++ List.replicate (3 - (lg_sl ([.long x0])).length) Slot.unset).toArray = ls at hl ⊢
  have hl : lv_has ls 3 [(0, .long x0)] := hl
  refine hk_Q (fun Q hQ => ?_)
  have h := hf
  unfold f_X4_bulgeOnly at h
  refine lv_iconst (v := (0 : Int32)) hx hb dX4_bulgeOnly_0 (by decide) ?_
  refine lv_istore_n (lv' := [(2, .int (0 : Int32)), (0, .long x0)]) hx hb dX4_bulgeOnly_1 rfl hl (by decide) rfl (fun ls hl => ?_)
  obtain ⟨r35, hr34, h⟩ := hk_x1 h
  refine hk_loopR (f := st_X4_bulgeOnly_2 x0) (hd := 2) (nL := 3) (lv := fun t9 => [(0, .long x0), (2, .int t9)]) (xs := fun r9 => match r9 with | .inl t9 => (19, [], []) | .inr t9 => (27, [], [])) ?_ hr34 ?_ (lv_sub hl [1, 0] rfl)
  · intro y22 q37 k21 hck21 hqk21 ls hl
    have k21 : st_X4_bulgeOnly_2c x0 y22 = some q37 := k21
    unfold st_X4_bulgeOnly_2c at k21
    have hl : lv_has ls 3 [(0, .long x0), (2, .int y22)] := hl
    refine lv_iload_n hx hb dX4_bulgeOnly_2 rfl (lv_at hl 1 rfl) ?_
    refine lv_bipush (v := (41 : Int32)) hx hb dX4_bulgeOnly_3 (by decide) ?_
    refine lv_icmp_ge (tgt := 27) hx hb dX4_bulgeOnly_5 (by decide) (fun c23 => ?_) (fun c23 => ?_)
    · replace k21 := hk_ip c23 k21
      exact hqk21 (.inr ()) (Option.some.inj k21).symm ls (lv_sub hl [] rfl)
    replace k21 := hk_in c23 k21
    refine lv_lload_n hx hb dX4_bulgeOnly_8 rfl (lv_at hl 0 rfl) ?_
    refine lv_iload_n hx hb dX4_bulgeOnly_9 rfl (lv_at hl 1 rfl) ?_
    obtain ⟨r24, hr25, k21⟩ := hk_x1 k21
    refine vp_callSi (W.runS (As := [.long x0, .int y22]) (rest := []) ⟨hx, hb, hml, hown, hts⟩ (c_X4_ringAbout l x0 y22 _ hr25) (va_cwS 2 hts gX4_bulgeOnly_X4_ringAbout rfl rfl rfl zs_X4_ringAbout ⟨Nat.le_of_ble_eq_true rfl, Nat.le_of_ble_eq_true rfl⟩) ⟨fun _ _ _ _ q => q, fun _ _ _ => ⟨rfl, trivial⟩⟩ rfl rfl hl.1 rfl (lv_room (Nat.le_of_ble_eq_true rfl)) dX4_bulgeOnly_10 ⟨Nat.zero_le _, Nat.zero_le _⟩) (fun p27 e26 => ?_)
    rw [e26]
    obtain ⟨r28, hr29, k21⟩ := hk_x1 k21
    refine vp_callSi (W.runS (As := [.int r24]) (rest := []) ⟨hx, hb, hml, hown, hts⟩ (c_X4_bulgesAt l r24 _ hr29) (va_cwS 1 hts gX4_bulgeOnly_X4_bulgesAt rfl rfl rfl zs_X4_bulgesAt ⟨Nat.le_of_ble_eq_true rfl, Nat.le_of_ble_eq_true rfl⟩) ⟨fun _ _ _ _ q => q, fun _ _ _ => ⟨rfl, trivial⟩⟩ rfl rfl hl.1 rfl (lv_room (Nat.le_of_ble_eq_true rfl)) dX4_bulgeOnly_13 ⟨Nat.zero_le _, Nat.zero_le _⟩) (fun p31 e30 => ?_)
    rw [e30]
    refine lv_if_ne (tgt := 21) hx hb dX4_bulgeOnly_16 (by decide) (fun c32 => ?_) (fun c32 => ?_)
    · replace k21 := hk_in c32 k21
      obtain ⟨x33, ex33, k21⟩ := hk_le k21
      refine lv_iinc (v := x33) (lv' := [(2, .int x33), (0, .long x0)]) hx hb dX4_bulgeOnly_21 hl (k := 1) rfl (by rw [ex33]; rfl) (by decide) rfl (fun ls hl => ?_)
      refine lv_goto (tgt := 2) hx hb dX4_bulgeOnly_24 (by decide) ?_
      exact hck21 x33 (Option.some.inj k21).symm ls (lv_sub hl [1, 0] rfl)
    replace k21 := hk_ip c32 k21
    exact hqk21 (.inl ()) (Option.some.inj k21).symm ls (lv_sub hl [] rfl)
  intro ls hl
  rcases r35 with r35 | r35
  · replace h := hk_sa h
    generalize r35 = z38 at h hl ⊢
    have hl : lv_has ls 3 [] := hl
    show W _ _ _ _ _ _ _ _ _ _ _ _ _ _ _ (F0 m 19 ls [])
    refine lv_iconst (v := (0 : Int32)) hx hb dX4_bulgeOnly_19 (by decide) ?_
    subst hQ
    exact W.zret hx hb hr rfl (fun t ht hW => ⟨_, rfl, Option.some.inj h, ht⟩) (fun _ h9 => by cases h9) dX4_bulgeOnly_20
  · replace h := hk_sb h
    generalize r35 = z39 at h hl ⊢
    have hl : lv_has ls 3 [] := hl
    show W _ _ _ _ _ _ _ _ _ _ _ _ _ _ _ (F0 m 27 ls [])
    refine lv_iconst (v := (1 : Int32)) hx hb dX4_bulgeOnly_27 (by decide) ?_
    subst hQ
    exact W.zret hx hb hr rfl (fun t ht hW => ⟨_, rfl, Option.some.inj h, ht⟩) (fun _ h9 => by cases h9) dX4_bulgeOnly_28
theorem zv_X6_append : yX6_append.cls = RX6 ∧ yX6_append.cls ≠ "java/lang/invoke/MethodHandle" ∧ yX6_append.cls ≠ "java/lang/invoke/VarHandle" ∧ (parseMethodDescriptor yX6_append.desc).map (fun d => d.parameters.length) = some 2 := by decide +kernel
def st_X6_append_5c (x2 : Int64) (y23 : Int32) (w24 : Int32) (w25 : Nat → Int32) : Option ((Int32 × Int32 × (Nat → Int32)) ⊕ (Int32 × (Nat → Int32))) := if y23 < 0 then (some (.inr (w24, w25))) else (if (16 : Int32) ≤ w24 then (some (.inr (w24, w25))) else (hk_gd (hk_inb w24 16) (hk_let (w24 + (1 : Int32)) fun x29 => hk_let (y23 + (-1 : Int32)) fun x30 => some (.inl (x30, x29, (upd w25 w24.toNatClampNeg ((((hk_ushr x2 ((8 : Int32) * y23))).toInt32) &&& (255 : Int32))))))))
def st_X6_append_5 (x2 : Int64) (t9 : (Int32 × Int32 × (Nat → Int32))) : Option ((Int32 × Int32 × (Nat → Int32)) ⊕ (Int32 × (Nat → Int32))) := st_X6_append_5c x2 t9.1 t9.2.1 t9.2.2
def f_X6_append (c_this_length : Int32) (c_this_bytes : Nat → Int32)  (x1 : Int32) (x2 : Int64) : Option (Int32 × (Nat → Int32)) := hk_let (x1 - (1 : Int32)) fun x21 => hk_b2 (hk_wl (st_X6_append_5 x2) hkF (x21, c_this_length, c_this_bytes)) fun v32 v33 => some (v32, v33)
theorem zi_X6_append_X6 : ∀ w ∈ u_ws RX6 TX6 2, w ∈ wsX6_append := by decide +kernel
set_option maxHeartbeats 8000000 in
set_option maxRecDepth 100000 in
theorem c_X6_append (l : Launch) (D : va_G) (cI cJ cZ cO : ClassId) (a_this a_this_bytes : Nat) (sz : Nat) (c_this_length : Int32) (c_this_bytes : Nat → Int32) (x1 : Int32) (x2 : Int64) (u_this_length : Int32) (u_this_bytes : Nat → Int32) (hf : f_X6_append c_this_length c_this_bytes x1 x2 = some (u_this_length, u_this_bytes)) : Met l yX6_append wsX6_append ({ frames := 0, cells := 0, slots := 0, locals := 0 }) (va_Pc [.ref a_this, .int x1, .long x2] (hkM D cI cJ cZ cO [(a_this, .inr (2, [.ref a_this_bytes, .int c_this_length])), (a_this_bytes, .inl (cI, 16, .inl c_this_bytes))] sz)) (va_Qv (fun (_ : Unit) => True) (fun _ t => va_P D vwCl [(a_this, .inr (2, [.ref a_this_bytes, .int u_this_length])), (a_this_bytes, .inl (cI, 16, .inl u_this_bytes))] t.heap ∧ va_D (va_A [(a_this, .inr (2, [.ref a_this_bytes, .int c_this_length])), (a_this_bytes, .inl (cI, 16, .inl c_this_bytes))] sz) [(a_this, .inr (2, [.ref a_this_bytes, .int u_this_length])), (a_this_bytes, .inl (cI, 16, .inl u_this_bytes))]) (va_A [(a_this, .inr (2, [.ref a_this_bytes, .int c_this_length])), (a_this_bytes, .inl (cI, 16, .inl c_this_bytes))] sz)) 0 0 (va_A [(a_this, .inr (2, [.ref a_this_bytes, .int c_this_length])), (a_this_bytes, .inl (cI, 16, .inl c_this_bytes))] sz) := by
  refine Met.ofW (cc := cX6_append) (maxL := 5) (ret := none) (by decide) rfl ?_
  intro p e s m args below meth c s₁ B hml hv
  obtain ⟨rfl, hsz, hP, hK, hD0⟩ := hv
  have hx := B.exec
  have hb := B.bytes
  have hr := B.returns
  have hts := atoms_spec (ws := wsX6_append) B.pre
  have hown : s.vm.findClass RX6 = some m.cls := findClass_of_methodNamed B.named
  have hlocks := B.notSynchronized
  have hN := hK.2
  subst hsz
  have hD := hD0.self (sz := s.heap.size)
  generalize hAe : va_A [(a_this, .inr (2, [.ref a_this_bytes, .int c_this_length])), (a_this_bytes, .inl (cI, 16, .inl c_this_bytes))] s.heap.size = A at hD ⊢
  have hA : ∀ q : Nat, s.heap.size ≤ q → A q := fun q h => by rw [← hAe]; exact Or.inr h
  have hS : va_S A s.heap s.heap [] := va_S.rf
  have hl := lv_entry ([.ref a_this, .int x1, .long x2]) (n := 5) (Nat.le_of_ble_eq_true rfl)
  rw [lg_entry_eq]
  generalize (lg_sl ([.ref a_this, .int x1, .long x2]) ++ List.replicate (5 - (lg_sl ([.ref a_this, .int x1, .long x2])).length) Slot.unset).toArray = ls at hl ⊢
  have hl : lv_has ls 5 [(0, .ref a_this), (1, .int x1), (2, .long x2)] := hl
  refine hk_Q (fun Q hQ => ?_)
  have h := hf
  unfold f_X6_append at h
  refine lv_iload_n hx hb dX6_append_0 rfl (lv_at hl 1 rfl) ?_
  refine lv_iconst (v := (1 : Int32)) hx hb dX6_append_1 (by decide) ?_
  refine lv_isub hx hb dX6_append_2 ?_
  obtain ⟨x21, ex21, h⟩ := hk_le h
  refine hk_ti ex21 ?_
  refine lv_istore (lv' := [(4, .int x21), (0, .ref a_this), (1, .int x1), (2, .long x2)]) hx hb dX6_append_3 hl (by decide) rfl (fun ls hl => ?_)
  obtain ⟨v32, v33, hr31, h⟩ := hk_x2 h
  refine hk_loopM (f := st_X6_append_5 x2) (hd := 5) (nL := 5) (lv := fun t9 => [(0, .ref a_this), (2, .long x2), (4, .int t9.1)]) (wf := fun t9 => [(a_this, .inr (2, [.ref a_this_bytes, .int t9.2.1])), (a_this_bytes, .inl (cI, 16, .inl t9.2.2))]) (xs := fun t9 => (56, [], [], [(a_this, .inr (2, [.ref a_this_bytes, .int t9.1])), (a_this_bytes, .inl (cI, 16, .inl t9.2))])) ?_ hr31 ?_ hP hD hS (lv_sub hl [1, 3, 0] rfl)
  · intro t34 q35 k22 hck22 hqk22 H locs ls hP hD hS hl
    obtain ⟨y23, w24, w25⟩ := t34
    have k22 : st_X6_append_5c x2 y23 w24 w25 = some q35 := k22
    unfold st_X6_append_5c at k22
    have hl : lv_has ls 5 [(0, .ref a_this), (2, .long x2), (4, .int y23)] := hl
    have hP : va_P D vwCl [(a_this, .inr (2, [.ref a_this_bytes, .int w24])), (a_this_bytes, .inl (cI, 16, .inl w25))] H := hP
    have hD : va_D A [(a_this, .inr (2, [.ref a_this_bytes, .int w24])), (a_this_bytes, .inl (cI, 16, .inl w25))] := hD
    refine lv_iload hx hb dX6_append_5 (lv_at hl 2 rfl) ?_
    refine lv_if_lt (tgt := 56) hx hb dX6_append_7 (by decide) (fun c26 => ?_) (fun c26 => ?_)
    · replace k22 := hk_ip c26 k22
      exact hqk22 (w24, w25) (Option.some.inj k22).symm H locs ls hP hD hS (lv_sub hl [] rfl)
    replace k22 := hk_in c26 k22
    refine lv_aload_n hx hb dX6_append_10 rfl (lv_at hl 0 rfl) ?_
    refine va_get (D := D) (ci := 2) (v := .int w24) (C := RX6) (T := TX6) (N := 2) hx hb hts zi_X6_append_X6 hown hK.1 hP 0 rfl rfl 1 (by decide) (hts (.fieldLink RX6 15 "HalfAndHalfAgain$Text" "length" "I") (List.mem_of_getElem? (i := 1) rfl)) (fun _ h9 => h9) rfl dX6_append_11 ?_
    refine lv_bipush (v := (16 : Int32)) hx hb dX6_append_14 (by decide) ?_
    refine lv_icmp_ge (tgt := 56) hx hb dX6_append_16 (by decide) (fun c27 => ?_) (fun c27 => ?_)
    · replace k22 := hk_ip c27 k22
      exact hqk22 (w24, w25) (Option.some.inj k22).symm H locs ls hP hD hS (lv_sub hl [] rfl)
    replace k22 := hk_in c27 k22
    refine lv_aload_n hx hb dX6_append_19 rfl (lv_at hl 0 rfl) ?_
    refine va_get (D := D) (ci := 2) (v := .ref a_this_bytes) (C := RX6) (T := TX6) (N := 2) hx hb hts zi_X6_append_X6 hown hK.1 hP 0 rfl rfl 0 (by decide) (hts (.fieldLink RX6 9 "HalfAndHalfAgain$Text" "bytes" "[I") (List.mem_of_getElem? (i := 2) rfl)) (fun _ h9 => h9) rfl dX6_append_20 ?_
    refine lv_aload_n hx hb dX6_append_23 rfl (lv_at hl 0 rfl) ?_
    refine va_get (D := D) (ci := 2) (v := .int w24) (C := RX6) (T := TX6) (N := 2) hx hb hts zi_X6_append_X6 hown hK.1 hP 0 rfl rfl 1 (by decide) (hts (.fieldLink RX6 15 "HalfAndHalfAgain$Text" "length" "I") (List.mem_of_getElem? (i := 1) rfl)) (fun _ h9 => h9) rfl dX6_append_24 ?_
    refine lv_lload_n hx hb dX6_append_27 rfl (lv_at hl 1 rfl) ?_
    refine lv_bipush (v := (8 : Int32)) hx hb dX6_append_28 (by decide) ?_
    refine lv_iload hx hb dX6_append_30 (lv_at hl 2 rfl) ?_
    refine lv_imul hx hb dX6_append_32 ?_
    refine lv_lushr (v := (hk_ushr x2 ((8 : Int32) * y23))) hx hb dX6_append_33 rfl ?_
    refine lv_l2i (v := (((hk_ushr x2 ((8 : Int32) * y23))).toInt32)) hx hb dX6_append_34 rfl ?_
    refine lv_sipush (v := (255 : Int32)) hx hb dX6_append_35 (by decide) ?_
    refine lv_iand hx hb dX6_append_38 ?_
    obtain ⟨hi28, k22⟩ := hk_ge k22
    refine va_iast hx hb hK.1 hP hD hS 1 0 rfl rfl (hk_inb_of hi28) dX6_append_39 (fun H locs hP hD hS => ?_)
    have hP : va_P D vwCl [(a_this, .inr (2, [.ref a_this_bytes, .int w24])), (a_this_bytes, .inl (cI, 16, .inl (upd w25 w24.toNatClampNeg ((((hk_ushr x2 ((8 : Int32) * y23))).toInt32) &&& (255 : Int32)))))] H := hP
    have hD : va_D A [(a_this, .inr (2, [.ref a_this_bytes, .int w24])), (a_this_bytes, .inl (cI, 16, .inl (upd w25 w24.toNatClampNeg ((((hk_ushr x2 ((8 : Int32) * y23))).toInt32) &&& (255 : Int32)))))] := hD
    refine lv_aload_n hx hb dX6_append_40 rfl (lv_at hl 0 rfl) ?_
    refine lv_dup hx hb dX6_append_41 rfl ?_
    refine va_get (D := D) (ci := 2) (v := .int w24) (C := RX6) (T := TX6) (N := 2) hx hb hts zi_X6_append_X6 hown hK.1 hP 0 rfl rfl 1 (by decide) (hts (.fieldLink RX6 15 "HalfAndHalfAgain$Text" "length" "I") (List.mem_of_getElem? (i := 1) rfl)) (fun _ h9 => h9) rfl dX6_append_42 ?_
    refine lv_iconst (v := (1 : Int32)) hx hb dX6_append_45 (by decide) ?_
    refine lv_iadd hx hb dX6_append_46 ?_
    obtain ⟨x29, ex29, k22⟩ := hk_le k22
    refine hk_ti ex29 ?_
    refine va_put (D := D) (ci := 2) (v := .int x29) (ty := .int) (C := RX6) (T := TX6) (N := 2) hx hb hts zi_X6_append_X6 tyX6 tyX6_ok nmX6 hown hK.1 hP hD hS 0 rfl rfl 1 (by decide) (hts (.fieldLink RX6 15 "HalfAndHalfAgain$Text" "length" "I") (List.mem_of_getElem? (i := 1) rfl)) (fun _ h9 => h9) rfl (by decide +kernel) rfl rfl (Nat.le_of_ble_eq_true rfl) dX6_append_47 (fun H locs hP hD hS => ?_)
    have hP : va_P D vwCl [(a_this, .inr (2, [.ref a_this_bytes, .int x29])), (a_this_bytes, .inl (cI, 16, .inl (upd w25 w24.toNatClampNeg ((((hk_ushr x2 ((8 : Int32) * y23))).toInt32) &&& (255 : Int32)))))] H := hP
    have hD : va_D A [(a_this, .inr (2, [.ref a_this_bytes, .int x29])), (a_this_bytes, .inl (cI, 16, .inl (upd w25 w24.toNatClampNeg ((((hk_ushr x2 ((8 : Int32) * y23))).toInt32) &&& (255 : Int32)))))] := hD
    obtain ⟨x30, ex30, k22⟩ := hk_le k22
    refine lv_iinc (v := x30) (lv' := [(4, .int x30), (0, .ref a_this), (2, .long x2)]) hx hb dX6_append_50 hl (k := 2) rfl (by rw [ex30]; rfl) (by decide) rfl (fun ls hl => ?_)
    refine lv_goto (tgt := 5) hx hb dX6_append_53 (by decide) ?_
    exact hck22 (x30, x29, (upd w25 w24.toNatClampNeg ((((hk_ushr x2 ((8 : Int32) * y23))).toInt32) &&& (255 : Int32)))) (Option.some.inj k22).symm H locs ls hP hD hS (lv_sub hl [1, 2, 0] rfl)
  intro H locs ls hP hD hS hl
  have hl : lv_has ls 5 [] := hl
  have hP : va_P D vwCl [(a_this, .inr (2, [.ref a_this_bytes, .int v32])), (a_this_bytes, .inl (cI, 16, .inl v33))] H := hP
  have hD : va_D A [(a_this, .inr (2, [.ref a_this_bytes, .int v32])), (a_this_bytes, .inl (cI, 16, .inl v33))] := hD
  show W _ _ _ _ _ _ _ _ _ _ _ _ _ _ _ (F0 m 56 ls [])
  subst hQ
  have h := Option.some.inj h
  simp only [Prod.mk.injEq] at h
  obtain ⟨rfl, rfl⟩ := h
  exact W.vret hx hb hr (fun t ht hW => ⟨⟨(), rfl, trivial, by rw [ht]; exact hP, hD⟩, hS.F ht⟩) hS.2.2 dX6_append_56
theorem zs_X6_valueOf : yX6_valueOf.cls ≠ "java/lang/invoke/MethodHandle" ∧ yX6_valueOf.cls ≠ "java/lang/invoke/VarHandle" ∧ (parseMethodDescriptor yX6_valueOf.desc).map (fun d => d.parameters.length) = some 1 := by decide +kernel
def f_X6_valueOf   (x0 : Int32) : Option Int32 := if x0 < (48 : Int32) then (if x0 < (97 : Int32) then (some (-1 : Int32)) else (if (102 : Int32) < x0 then (some (-1 : Int32)) else (some ((x0 - (97 : Int32)) + (10 : Int32))))) else (if (57 : Int32) < x0 then (if x0 < (97 : Int32) then (some (-1 : Int32)) else (if (102 : Int32) < x0 then (some (-1 : Int32)) else (some ((x0 - (97 : Int32)) + (10 : Int32))))) else (some (x0 - (48 : Int32))))
set_option maxHeartbeats 8000000 in
set_option maxRecDepth 100000 in
theorem c_X6_valueOf (l : Launch) (x0 : Int32) (rv : Int32) (hf : f_X6_valueOf x0 = some rv) : Met l yX6_valueOf wsX6_valueOf ({ frames := 0, cells := 0, slots := 0, locals := 0 }) (va_Pc [.int x0] (fun _ => True)) (vp_Si (fun r => r = rv)) 0 0 (fun _ => False) := by
  refine Met.ofW (cc := cX6_valueOf) (maxL := 1) (ret := (some .int)) (by decide) rfl ?_
  intro p e s m args below meth c s₁ B hml hv
  obtain ⟨rfl, -⟩ := hv
  have hx := B.exec
  have hb := B.bytes
  have hr := B.returns
  have hts := atoms_spec (ws := wsX6_valueOf) B.pre
  have hown : s.vm.findClass RX6 = some m.cls := findClass_of_methodNamed B.named
  have hlocks := B.notSynchronized
  have hl := lv_entry ([.int x0]) (n := 1) (Nat.le_of_ble_eq_true rfl)
  rw [lg_entry_eq]
  generalize (lg_sl ([.int x0]) ++ List.replicate (1 - (lg_sl ([.int x0])).length) Slot.unset).toArray = ls at hl ⊢
  have hl : lv_has ls 1 [(0, .int x0)] := hl
  refine hk_Q (fun Q hQ => ?_)
  have h := hf
  unfold f_X6_valueOf at h
  refine lv_iload_n hx hb dX6_valueOf_0 rfl (lv_at hl 0 rfl) ?_
  refine lv_bipush (v := (48 : Int32)) hx hb dX6_valueOf_1 (by decide) ?_
  refine lv_icmp_lt (tgt := 17) hx hb dX6_valueOf_3 (by decide) (fun c21 => ?_) (fun c21 => ?_)
  · replace h := hk_ip c21 h
    refine lv_iload_n hx hb dX6_valueOf_17 rfl (lv_at hl 0 rfl) ?_
    refine lv_bipush (v := (97 : Int32)) hx hb dX6_valueOf_18 (by decide) ?_
    refine lv_icmp_lt (tgt := 39) hx hb dX6_valueOf_20 (by decide) (fun c22 => ?_) (fun c22 => ?_)
    · replace h := hk_ip c22 h
      refine lv_iconst (v := (-1 : Int32)) hx hb dX6_valueOf_39 (by decide) ?_
      subst hQ
      exact W.iret hx hb hr (fun t ht hW => ⟨_, rfl, Option.some.inj h, ht⟩) (fun _ h9 => by cases h9) dX6_valueOf_40
    replace h := hk_in c22 h
    refine lv_iload_n hx hb dX6_valueOf_23 rfl (lv_at hl 0 rfl) ?_
    refine lv_bipush (v := (102 : Int32)) hx hb dX6_valueOf_24 (by decide) ?_
    refine lv_icmp_gt (tgt := 39) hx hb dX6_valueOf_26 (by decide) (fun c23 => ?_) (fun c23 => ?_)
    · replace h := hk_ip c23 h
      refine lv_iconst (v := (-1 : Int32)) hx hb dX6_valueOf_39 (by decide) ?_
      subst hQ
      exact W.iret hx hb hr (fun t ht hW => ⟨_, rfl, Option.some.inj h, ht⟩) (fun _ h9 => by cases h9) dX6_valueOf_40
    replace h := hk_in c23 h
    refine lv_iload_n hx hb dX6_valueOf_29 rfl (lv_at hl 0 rfl) ?_
    refine lv_bipush (v := (97 : Int32)) hx hb dX6_valueOf_30 (by decide) ?_
    refine lv_isub hx hb dX6_valueOf_32 ?_
    refine lv_bipush (v := (10 : Int32)) hx hb dX6_valueOf_33 (by decide) ?_
    refine lv_iadd hx hb dX6_valueOf_35 ?_
    refine lv_goto (tgt := 40) hx hb dX6_valueOf_36 (by decide) ?_
    subst hQ
    exact W.iret hx hb hr (fun t ht hW => ⟨_, rfl, Option.some.inj h, ht⟩) (fun _ h9 => by cases h9) dX6_valueOf_40
  replace h := hk_in c21 h
  refine lv_iload_n hx hb dX6_valueOf_6 rfl (lv_at hl 0 rfl) ?_
  refine lv_bipush (v := (57 : Int32)) hx hb dX6_valueOf_7 (by decide) ?_
  refine lv_icmp_gt (tgt := 17) hx hb dX6_valueOf_9 (by decide) (fun c24 => ?_) (fun c24 => ?_)
  · replace h := hk_ip c24 h
    refine lv_iload_n hx hb dX6_valueOf_17 rfl (lv_at hl 0 rfl) ?_
    refine lv_bipush (v := (97 : Int32)) hx hb dX6_valueOf_18 (by decide) ?_
    refine lv_icmp_lt (tgt := 39) hx hb dX6_valueOf_20 (by decide) (fun c25 => ?_) (fun c25 => ?_)
    · replace h := hk_ip c25 h
      refine lv_iconst (v := (-1 : Int32)) hx hb dX6_valueOf_39 (by decide) ?_
      subst hQ
      exact W.iret hx hb hr (fun t ht hW => ⟨_, rfl, Option.some.inj h, ht⟩) (fun _ h9 => by cases h9) dX6_valueOf_40
    replace h := hk_in c25 h
    refine lv_iload_n hx hb dX6_valueOf_23 rfl (lv_at hl 0 rfl) ?_
    refine lv_bipush (v := (102 : Int32)) hx hb dX6_valueOf_24 (by decide) ?_
    refine lv_icmp_gt (tgt := 39) hx hb dX6_valueOf_26 (by decide) (fun c26 => ?_) (fun c26 => ?_)
    · replace h := hk_ip c26 h
      refine lv_iconst (v := (-1 : Int32)) hx hb dX6_valueOf_39 (by decide) ?_
      subst hQ
      exact W.iret hx hb hr (fun t ht hW => ⟨_, rfl, Option.some.inj h, ht⟩) (fun _ h9 => by cases h9) dX6_valueOf_40
    replace h := hk_in c26 h
    refine lv_iload_n hx hb dX6_valueOf_29 rfl (lv_at hl 0 rfl) ?_
    refine lv_bipush (v := (97 : Int32)) hx hb dX6_valueOf_30 (by decide) ?_
    refine lv_isub hx hb dX6_valueOf_32 ?_
    refine lv_bipush (v := (10 : Int32)) hx hb dX6_valueOf_33 (by decide) ?_
    refine lv_iadd hx hb dX6_valueOf_35 ?_
    refine lv_goto (tgt := 40) hx hb dX6_valueOf_36 (by decide) ?_
    subst hQ
    exact W.iret hx hb hr (fun t ht hW => ⟨_, rfl, Option.some.inj h, ht⟩) (fun _ h9 => by cases h9) dX6_valueOf_40
  replace h := hk_in c24 h
  refine lv_iload_n hx hb dX6_valueOf_12 rfl (lv_at hl 0 rfl) ?_
  refine lv_bipush (v := (48 : Int32)) hx hb dX6_valueOf_13 (by decide) ?_
  refine lv_isub hx hb dX6_valueOf_15 ?_
  subst hQ
  exact W.iret hx hb hr (fun t ht hW => ⟨_, rfl, Option.some.inj h, ht⟩) (fun _ h9 => by cases h9) dX6_valueOf_16
theorem zv_X6_firstFault : yX6_firstFault.cls = RX6 ∧ yX6_firstFault.cls ≠ "java/lang/invoke/MethodHandle" ∧ yX6_firstFault.cls ≠ "java/lang/invoke/VarHandle" ∧ (parseMethodDescriptor yX6_firstFault.desc).map (fun d => d.parameters.length) = some 0 := by decide +kernel
def st_X6_firstFault_2c (c_this_length : Int32) (c_this_bytes : Nat → Int32) (y22 : Int32) : Option (Int32 ⊕ (Int32 ⊕ Unit)) := if c_this_length ≤ y22 then (some (.inr (.inr ()))) else (hk_gd (hk_inb y22 16) (hk_b1 (f_X6_valueOf (c_this_bytes y22.toNatClampNeg)) fun r25 => if 0 ≤ r25 then (hk_let (y22 + (1 : Int32)) fun x30 => some (.inl x30)) else (some (.inr (.inl y22)))))
def st_X6_firstFault_2 (c_this_length : Int32) (c_this_bytes : Nat → Int32) (t9 : Int32) : Option (Int32 ⊕ (Int32 ⊕ Unit)) := st_X6_firstFault_2c c_this_length c_this_bytes t9
def f_X6_firstFault (c_this_length : Int32) (c_this_bytes : Nat → Int32)   : Option Int32 := hk_b1 (hk_wl (st_X6_firstFault_2 c_this_length c_this_bytes) hkF (0 : Int32)) fun r32 => hk_sum r32 (fun z35 => some z35) (fun z36 => if (16 : Int32) ≤ c_this_length then (some (-9 : Int32)) else (some c_this_length))
theorem zi_X6_firstFault_X6 : ∀ w ∈ u_ws RX6 TX6 2, w ∈ wsX6_firstFault := by decide +kernel
set_option maxHeartbeats 8000000 in
set_option maxRecDepth 100000 in
theorem c_X6_firstFault (l : Launch) (D : va_G) (cI cJ cZ cO : ClassId) (a_this a_this_bytes : Nat) (c_this_length : Int32) (c_this_bytes : Nat → Int32) (rv : Int32) (hf : f_X6_firstFault c_this_length c_this_bytes = some rv) : Met l yX6_firstFault wsX6_firstFault ({ frames := 1, cells := 0, slots := 0, locals := 20 }) (va_Pc [.ref a_this] (hkR D cI cJ cZ cO [(a_this, .inr (2, [.ref a_this_bytes, .int c_this_length])), (a_this_bytes, .inl (cI, 16, .inl c_this_bytes))])) (vp_Si (fun r => r = rv)) 0 0 (fun _ => False) := by
  refine Met.ofW (cc := cX6_firstFault) (maxL := 2) (ret := (some .int)) (by decide) rfl ?_
  intro p e s m args below meth c s₁ B hml hv
  obtain ⟨rfl, hP, hK⟩ := hv
  have hx := B.exec
  have hb := B.bytes
  have hr := B.returns
  have hts := atoms_spec (ws := wsX6_firstFault) B.pre
  have hown : s.vm.findClass RX6 = some m.cls := findClass_of_methodNamed B.named
  have hlocks := B.notSynchronized
  have hN := hK.2
  have hl := lv_entry ([.ref a_this]) (n := 2) (Nat.le_of_ble_eq_true rfl)
  rw [lg_entry_eq]
  generalize (lg_sl ([.ref a_this]) ++ List.replicate (2 - (lg_sl ([.ref a_this])).length) Slot.unset).toArray = ls at hl ⊢
  have hl : lv_has ls 2 [(0, .ref a_this)] := hl
  refine hk_Q (fun Q hQ => ?_)
  have h := hf
  unfold f_X6_firstFault at h
  refine lv_iconst (v := (0 : Int32)) hx hb dX6_firstFault_0 (by decide) ?_
  refine lv_istore_n (lv' := [(1, .int (0 : Int32)), (0, .ref a_this)]) hx hb dX6_firstFault_1 rfl hl (by decide) rfl (fun ls hl => ?_)
  obtain ⟨r32, hr31, h⟩ := hk_x1 h
  refine hk_loopR (f := st_X6_firstFault_2 c_this_length c_this_bytes) (hd := 2) (nL := 2) (lv := fun t9 => [(0, .ref a_this), (1, .int t9)]) (xs := fun r9 => match r9 with | .inl t9 => (22, [(1, .int t9)], []) | .inr t9 => (30, [(0, .ref a_this)], [])) ?_ hr31 ?_ (lv_sub hl [1, 0] rfl)
  · intro y22 q34 k21 hck21 hqk21 ls hl
    have k21 : st_X6_firstFault_2c c_this_length c_this_bytes y22 = some q34 := k21
    unfold st_X6_firstFault_2c at k21
    have hl : lv_has ls 2 [(0, .ref a_this), (1, .int y22)] := hl
    refine lv_iload_n hx hb dX6_firstFault_2 rfl (lv_at hl 1 rfl) ?_
    refine lv_aload_n hx hb dX6_firstFault_3 rfl (lv_at hl 0 rfl) ?_
    refine va_get (D := D) (ci := 2) (v := .int c_this_length) (C := RX6) (T := TX6) (N := 2) hx hb hts zi_X6_firstFault_X6 hown hK.1 hP 0 rfl rfl 1 (by decide) (hts (.fieldLink RX6 15 "HalfAndHalfAgain$Text" "length" "I") (List.mem_of_getElem? (i := 1) rfl)) (fun _ h9 => h9) rfl dX6_firstFault_4 ?_
    refine lv_icmp_ge (tgt := 30) hx hb dX6_firstFault_7 (by decide) (fun c23 => ?_) (fun c23 => ?_)
    · replace k21 := hk_ip c23 k21
      exact hqk21 (.inr ()) (Option.some.inj k21).symm ls (lv_sub hl [0] rfl)
    replace k21 := hk_in c23 k21
    refine lv_aload_n hx hb dX6_firstFault_10 rfl (lv_at hl 0 rfl) ?_
    refine va_get (D := D) (ci := 2) (v := .ref a_this_bytes) (C := RX6) (T := TX6) (N := 2) hx hb hts zi_X6_firstFault_X6 hown hK.1 hP 0 rfl rfl 0 (by decide) (hts (.fieldLink RX6 9 "HalfAndHalfAgain$Text" "bytes" "[I") (List.mem_of_getElem? (i := 2) rfl)) (fun _ h9 => h9) rfl dX6_firstFault_11 ?_
    refine lv_iload_n hx hb dX6_firstFault_14 rfl (lv_at hl 1 rfl) ?_
    obtain ⟨hi24, k21⟩ := hk_ge k21
    refine va_iald hx hb hK.1 hP 1 0 rfl rfl (hk_inb_of hi24) dX6_firstFault_15 ?_
    obtain ⟨r25, hr26, k21⟩ := hk_x1 k21
    refine vp_callSi (W.runS (As := [.int (c_this_bytes y22.toNatClampNeg)]) (rest := []) ⟨hx, hb, hml, hown, hts⟩ (c_X6_valueOf l (c_this_bytes y22.toNatClampNeg) _ hr26) (va_cwS 1 hts gX6_firstFault_X6_valueOf rfl rfl rfl zs_X6_valueOf ⟨Nat.le_of_ble_eq_true rfl, Nat.le_of_ble_eq_true rfl⟩) ⟨fun _ _ _ _ q => q, fun _ _ _ => ⟨rfl, trivial⟩⟩ rfl rfl hl.1 rfl (lv_room (Nat.le_of_ble_eq_true rfl)) dX6_firstFault_16 ⟨Nat.zero_le _, Nat.zero_le _⟩) (fun p28 e27 => ?_)
    rw [e27]
    refine lv_if_ge (tgt := 24) hx hb dX6_firstFault_19 (by decide) (fun c29 => ?_) (fun c29 => ?_)
    · replace k21 := hk_ip c29 k21
      obtain ⟨x30, ex30, k21⟩ := hk_le k21
      refine lv_iinc (v := x30) (lv' := [(1, .int x30), (0, .ref a_this)]) hx hb dX6_firstFault_24 hl (k := 1) rfl (by rw [ex30]; rfl) (by decide) rfl (fun ls hl => ?_)
      refine lv_goto (tgt := 2) hx hb dX6_firstFault_27 (by decide) ?_
      exact hck21 x30 (Option.some.inj k21).symm ls (lv_sub hl [1, 0] rfl)
    replace k21 := hk_in c29 k21
    exact hqk21 (.inl y22) (Option.some.inj k21).symm ls (lv_sub hl [1] rfl)
  intro ls hl
  rcases r32 with r32 | r32
  · replace h := hk_sa h
    generalize r32 = z35 at h hl ⊢
    have hl : lv_has ls 2 [(1, .int z35)] := hl
    show W _ _ _ _ _ _ _ _ _ _ _ _ _ _ _ (F0 m 22 ls [])
    refine lv_iload_n hx hb dX6_firstFault_22 rfl (lv_at hl 0 rfl) ?_
    subst hQ
    exact W.iret hx hb hr (fun t ht hW => ⟨_, rfl, Option.some.inj h, ht⟩) (fun _ h9 => by cases h9) dX6_firstFault_23
  · replace h := hk_sb h
    generalize r32 = z36 at h hl ⊢
    have hl : lv_has ls 2 [(0, .ref a_this)] := hl
    show W _ _ _ _ _ _ _ _ _ _ _ _ _ _ _ (F0 m 30 ls [])
    refine lv_aload_n hx hb dX6_firstFault_30 rfl (lv_at hl 0 rfl) ?_
    refine va_get (D := D) (ci := 2) (v := .int c_this_length) (C := RX6) (T := TX6) (N := 2) hx hb hts zi_X6_firstFault_X6 hown hK.1 hP 0 rfl rfl 1 (by decide) (hts (.fieldLink RX6 15 "HalfAndHalfAgain$Text" "length" "I") (List.mem_of_getElem? (i := 1) rfl)) (fun _ h9 => h9) rfl dX6_firstFault_31 ?_
    refine lv_bipush (v := (16 : Int32)) hx hb dX6_firstFault_34 (by decide) ?_
    refine lv_icmp_ge (tgt := 46) hx hb dX6_firstFault_36 (by decide) (fun c37 => ?_) (fun c37 => ?_)
    · replace h := hk_ip c37 h
      refine lv_bipush (v := (-9 : Int32)) hx hb dX6_firstFault_46 (by decide) ?_
      subst hQ
      exact W.iret hx hb hr (fun t ht hW => ⟨_, rfl, Option.some.inj h, ht⟩) (fun _ h9 => by cases h9) dX6_firstFault_48
    replace h := hk_in c37 h
    refine lv_aload_n hx hb dX6_firstFault_39 rfl (lv_at hl 0 rfl) ?_
    refine va_get (D := D) (ci := 2) (v := .int c_this_length) (C := RX6) (T := TX6) (N := 2) hx hb hts zi_X6_firstFault_X6 hown hK.1 hP 0 rfl rfl 1 (by decide) (hts (.fieldLink RX6 15 "HalfAndHalfAgain$Text" "length" "I") (List.mem_of_getElem? (i := 1) rfl)) (fun _ h9 => h9) rfl dX6_firstFault_40 ?_
    refine lv_goto (tgt := 48) hx hb dX6_firstFault_43 (by decide) ?_
    subst hQ
    exact W.iret hx hb hr (fun t ht hW => ⟨_, rfl, Option.some.inj h, ht⟩) (fun _ h9 => by cases h9) dX6_firstFault_48
theorem zv_X6_cells : yX6_cells.cls = RX6 ∧ yX6_cells.cls ≠ "java/lang/invoke/MethodHandle" ∧ yX6_cells.cls ≠ "java/lang/invoke/VarHandle" ∧ (parseMethodDescriptor yX6_cells.desc).map (fun d => d.parameters.length) = some 0 := by decide +kernel
def st_X6_cells_4c (c_this_length : Int32) (c_this_bytes : Nat → Int32) (y22 : Int64) (y23 : Int32) : Option ((Int64 × Int32) ⊕ Int64) := if c_this_length ≤ y23 then (some (.inr y22)) else (hk_gd (hk_inb y23 16) (hk_b1 (f_X6_valueOf (c_this_bytes y23.toNatClampNeg)) fun r26 => hk_let (y22 ||| (hk_shl (r26.toInt64) ((4 : Int32) * y23))) fun x30 => hk_let (y23 + (1 : Int32)) fun x31 => some (.inl (x30, x31))))
def st_X6_cells_4 (c_this_length : Int32) (c_this_bytes : Nat → Int32) (t9 : (Int64 × Int32)) : Option ((Int64 × Int32) ⊕ Int64) := st_X6_cells_4c c_this_length c_this_bytes t9.1 t9.2
def f_X6_cells (c_this_length : Int32) (c_this_bytes : Nat → Int32)   : Option Int64 := hk_b1 (hk_wl (st_X6_cells_4 c_this_length c_this_bytes) hkF ((0 : Int64), (0 : Int32))) fun z33 => some z33
theorem zi_X6_cells_X6 : ∀ w ∈ u_ws RX6 TX6 2, w ∈ wsX6_cells := by decide +kernel
set_option maxHeartbeats 8000000 in
set_option maxRecDepth 100000 in
theorem c_X6_cells (l : Launch) (D : va_G) (cI cJ cZ cO : ClassId) (a_this a_this_bytes : Nat) (c_this_length : Int32) (c_this_bytes : Nat → Int32) (rv : Int64) (hf : f_X6_cells c_this_length c_this_bytes = some rv) : Met l yX6_cells wsX6_cells ({ frames := 1, cells := 0, slots := 0, locals := 20 }) (va_Pc [.ref a_this] (hkR D cI cJ cZ cO [(a_this, .inr (2, [.ref a_this_bytes, .int c_this_length])), (a_this_bytes, .inl (cI, 16, .inl c_this_bytes))])) (vp_Sl (fun r => r = rv)) 0 0 (fun _ => False) := by
  refine Met.ofW (cc := cX6_cells) (maxL := 4) (ret := (some .long)) (by decide) rfl ?_
  intro p e s m args below meth c s₁ B hml hv
  obtain ⟨rfl, hP, hK⟩ := hv
  have hx := B.exec
  have hb := B.bytes
  have hr := B.returns
  have hts := atoms_spec (ws := wsX6_cells) B.pre
  have hown : s.vm.findClass RX6 = some m.cls := findClass_of_methodNamed B.named
  have hlocks := B.notSynchronized
  have hN := hK.2
  have hl := lv_entry ([.ref a_this]) (n := 4) (Nat.le_of_ble_eq_true rfl)
  rw [lg_entry_eq]
  generalize (lg_sl ([.ref a_this]) ++ List.replicate (4 - (lg_sl ([.ref a_this])).length) Slot.unset).toArray = ls at hl ⊢
  have hl : lv_has ls 4 [(0, .ref a_this)] := hl
  refine hk_Q (fun Q hQ => ?_)
  have h := hf
  unfold f_X6_cells at h
  refine lv_lconst (v := (0 : Int64)) hx hb dX6_cells_0 (by decide) ?_
  refine lv_lstore_n (lv' := [(1, .long (0 : Int64)), (0, .ref a_this)]) hx hb dX6_cells_1 rfl hl (by decide) rfl (fun ls hl => ?_)
  refine lv_iconst (v := (0 : Int32)) hx hb dX6_cells_2 (by decide) ?_
  refine lv_istore_n (lv' := [(3, .int (0 : Int32)), (1, .long (0 : Int64)), (0, .ref a_this)]) hx hb dX6_cells_3 rfl hl (by decide) rfl (fun ls hl => ?_)
  obtain ⟨z33, hr32, h⟩ := hk_x1 h
  refine hk_loopR (f := st_X6_cells_4 c_this_length c_this_bytes) (hd := 4) (nL := 4) (lv := fun t9 => [(0, .ref a_this), (1, .long t9.1), (3, .int t9.2)]) (xs := fun t9 => (35, [(1, .long t9)], [])) ?_ hr32 ?_ (lv_sub hl [2, 1, 0] rfl)
  · intro t34 q35 k21 hck21 hqk21 ls hl
    obtain ⟨y22, y23⟩ := t34
    have k21 : st_X6_cells_4c c_this_length c_this_bytes y22 y23 = some q35 := k21
    unfold st_X6_cells_4c at k21
    have hl : lv_has ls 4 [(0, .ref a_this), (1, .long y22), (3, .int y23)] := hl
    refine lv_iload_n hx hb dX6_cells_4 rfl (lv_at hl 2 rfl) ?_
    refine lv_aload_n hx hb dX6_cells_5 rfl (lv_at hl 0 rfl) ?_
    refine va_get (D := D) (ci := 2) (v := .int c_this_length) (C := RX6) (T := TX6) (N := 2) hx hb hts zi_X6_cells_X6 hown hK.1 hP 0 rfl rfl 1 (by decide) (hts (.fieldLink RX6 15 "HalfAndHalfAgain$Text" "length" "I") (List.mem_of_getElem? (i := 1) rfl)) (fun _ h9 => h9) rfl dX6_cells_6 ?_
    refine lv_icmp_ge (tgt := 35) hx hb dX6_cells_9 (by decide) (fun c24 => ?_) (fun c24 => ?_)
    · replace k21 := hk_ip c24 k21
      exact hqk21 y22 (Option.some.inj k21).symm ls (lv_sub hl [1] rfl)
    replace k21 := hk_in c24 k21
    refine lv_lload_n hx hb dX6_cells_12 rfl (lv_at hl 1 rfl) ?_
    refine lv_aload_n hx hb dX6_cells_13 rfl (lv_at hl 0 rfl) ?_
    refine va_get (D := D) (ci := 2) (v := .ref a_this_bytes) (C := RX6) (T := TX6) (N := 2) hx hb hts zi_X6_cells_X6 hown hK.1 hP 0 rfl rfl 0 (by decide) (hts (.fieldLink RX6 9 "HalfAndHalfAgain$Text" "bytes" "[I") (List.mem_of_getElem? (i := 2) rfl)) (fun _ h9 => h9) rfl dX6_cells_14 ?_
    refine lv_iload_n hx hb dX6_cells_17 rfl (lv_at hl 2 rfl) ?_
    obtain ⟨hi25, k21⟩ := hk_ge k21
    refine va_iald hx hb hK.1 hP 1 0 rfl rfl (hk_inb_of hi25) dX6_cells_18 ?_
    obtain ⟨r26, hr27, k21⟩ := hk_x1 k21
    refine vp_callSi (W.runS (As := [.int (c_this_bytes y23.toNatClampNeg)]) (rest := [.long y22]) ⟨hx, hb, hml, hown, hts⟩ (c_X6_valueOf l (c_this_bytes y23.toNatClampNeg) _ hr27) (va_cwS 1 hts gX6_cells_X6_valueOf rfl rfl rfl zs_X6_valueOf ⟨Nat.le_of_ble_eq_true rfl, Nat.le_of_ble_eq_true rfl⟩) ⟨fun _ _ _ _ q => q, fun _ _ _ => ⟨rfl, trivial⟩⟩ rfl rfl hl.1 rfl (lv_room (Nat.le_of_ble_eq_true rfl)) dX6_cells_19 ⟨Nat.zero_le _, Nat.zero_le _⟩) (fun p29 e28 => ?_)
    rw [e28]
    refine lv_i2l (v := (r26.toInt64)) hx hb dX6_cells_22 rfl ?_
    refine lv_iconst (v := (4 : Int32)) hx hb dX6_cells_23 (by decide) ?_
    refine lv_iload_n hx hb dX6_cells_24 rfl (lv_at hl 2 rfl) ?_
    refine lv_imul hx hb dX6_cells_25 ?_
    refine lv_lshl (v := (hk_shl (r26.toInt64) ((4 : Int32) * y23))) hx hb dX6_cells_26 rfl ?_
    refine lv_lor hx hb dX6_cells_27 ?_
    obtain ⟨x30, ex30, k21⟩ := hk_le k21
    refine hk_tl ex30 ?_
    refine lv_lstore_n (lv' := [(1, .long x30), (0, .ref a_this), (3, .int y23)]) hx hb dX6_cells_28 rfl hl (by decide) rfl (fun ls hl => ?_)
    obtain ⟨x31, ex31, k21⟩ := hk_le k21
    refine lv_iinc (v := x31) (lv' := [(3, .int x31), (1, .long x30), (0, .ref a_this)]) hx hb dX6_cells_29 hl (k := 2) rfl (by rw [ex31]; rfl) (by decide) rfl (fun ls hl => ?_)
    refine lv_goto (tgt := 4) hx hb dX6_cells_32 (by decide) ?_
    exact hck21 (x30, x31) (Option.some.inj k21).symm ls (lv_sub hl [2, 1, 0] rfl)
  intro ls hl
  have hl : lv_has ls 4 [(1, .long z33)] := hl
  show W _ _ _ _ _ _ _ _ _ _ _ _ _ _ _ (F0 m 35 ls [])
  refine lv_lload_n hx hb dX6_cells_35 rfl (lv_at hl 0 rfl) ?_
  subst hQ
  exact W.lret hx hb hr (fun t ht hW => ⟨_, rfl, Option.some.inj h, ht⟩) (fun _ h9 => by cases h9) dX6_cells_36
theorem zs_X6_signOf : yX6_signOf.cls ≠ "java/lang/invoke/MethodHandle" ∧ yX6_signOf.cls ≠ "java/lang/invoke/VarHandle" ∧ (parseMethodDescriptor yX6_signOf.desc).map (fun d => d.parameters.length) = some 1 := by decide +kernel
def f_X6_signOf   (x0 : Int32) : Option Int32 := if (10 : Int32) ≤ x0 then (some (((97 : Int32) + x0) - (10 : Int32))) else (some ((48 : Int32) + x0))
set_option maxHeartbeats 8000000 in
set_option maxRecDepth 100000 in
theorem c_X6_signOf (l : Launch) (x0 : Int32) (rv : Int32) (hf : f_X6_signOf x0 = some rv) : Met l yX6_signOf wsX6_signOf ({ frames := 0, cells := 0, slots := 0, locals := 0 }) (va_Pc [.int x0] (fun _ => True)) (vp_Si (fun r => r = rv)) 0 0 (fun _ => False) := by
  refine Met.ofW (cc := cX6_signOf) (maxL := 1) (ret := (some .int)) (by decide) rfl ?_
  intro p e s m args below meth c s₁ B hml hv
  obtain ⟨rfl, -⟩ := hv
  have hx := B.exec
  have hb := B.bytes
  have hr := B.returns
  have hts := atoms_spec (ws := wsX6_signOf) B.pre
  have hown : s.vm.findClass RX6 = some m.cls := findClass_of_methodNamed B.named
  have hlocks := B.notSynchronized
  have hl := lv_entry ([.int x0]) (n := 1) (Nat.le_of_ble_eq_true rfl)
  rw [lg_entry_eq]
  generalize (lg_sl ([.int x0]) ++ List.replicate (1 - (lg_sl ([.int x0])).length) Slot.unset).toArray = ls at hl ⊢
  have hl : lv_has ls 1 [(0, .int x0)] := hl
  refine hk_Q (fun Q hQ => ?_)
  have h := hf
  unfold f_X6_signOf at h
  refine lv_iload_n hx hb dX6_signOf_0 rfl (lv_at hl 0 rfl) ?_
  refine lv_bipush (v := (10 : Int32)) hx hb dX6_signOf_1 (by decide) ?_
  refine lv_icmp_ge (tgt := 13) hx hb dX6_signOf_3 (by decide) (fun c21 => ?_) (fun c21 => ?_)
  · replace h := hk_ip c21 h
    refine lv_bipush (v := (97 : Int32)) hx hb dX6_signOf_13 (by decide) ?_
    refine lv_iload_n hx hb dX6_signOf_15 rfl (lv_at hl 0 rfl) ?_
    refine lv_iadd hx hb dX6_signOf_16 ?_
    refine lv_bipush (v := (10 : Int32)) hx hb dX6_signOf_17 (by decide) ?_
    refine lv_isub hx hb dX6_signOf_19 ?_
    subst hQ
    exact W.iret hx hb hr (fun t ht hW => ⟨_, rfl, Option.some.inj h, ht⟩) (fun _ h9 => by cases h9) dX6_signOf_20
  replace h := hk_in c21 h
  refine lv_bipush (v := (48 : Int32)) hx hb dX6_signOf_6 (by decide) ?_
  refine lv_iload_n hx hb dX6_signOf_8 rfl (lv_at hl 0 rfl) ?_
  refine lv_iadd hx hb dX6_signOf_9 ?_
  refine lv_goto (tgt := 20) hx hb dX6_signOf_10 (by decide) ?_
  subst hQ
  exact W.iret hx hb hr (fun t ht hW => ⟨_, rfl, Option.some.inj h, ht⟩) (fun _ h9 => by cases h9) dX6_signOf_20
