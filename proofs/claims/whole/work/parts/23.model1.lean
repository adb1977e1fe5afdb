/-! walks printed by wip/whole/gen.py -/
theorem zs_X8_in : yX8_in.cls ≠ "java/lang/invoke/MethodHandle" ∧ yX8_in.cls ≠ "java/lang/invoke/VarHandle" ∧ (parseMethodDescriptor yX8_in.desc).map (fun d => d.parameters.length) = some 3 := by decide +kernel
def f_X8_in   (x0 : Int64) (x2 : Int64) (x4 : Int64) : Option Int32 := if x0 < x2 then (some (0 : Int32)) else (if x4 < x0 then (some (0 : Int32)) else (some (1 : Int32)))
set_option maxHeartbeats 8000000 in
set_option maxRecDepth 100000 in
theorem c_X8_in (l : Launch) (x0 : Int64) (x2 : Int64) (x4 : Int64) (rv : Int32) (hf : f_X8_in x0 x2 x4 = some rv) : Met l yX8_in wsX8_in ({ frames := 0, cells := 0, slots := 0, locals := 0 }) (va_Pc [.long x0, .long x2, .long x4] (fun _ => True)) (vp_Si (fun r => r = rv)) 0 0 (fun _ => False) := by
  refine Met.ofW (cc := cX8_in) (maxL := 6) (ret := (some .boolean)) (by decide) rfl ?_
  intro p e s m args below meth c s₁ B hml hv
  obtain ⟨rfl, -⟩ := hv
  have hx := B.exec
  have hb := B.bytes
  have hr := B.returns
  have hts := atoms_spec (ws := wsX8_in) B.pre
  have hown : s.vm.findClass RX8 = some m.cls := findClass_of_methodNamed B.named
  have hlocks := B.notSynchronized
  have hl := lv_entry ([.long x0, .long x2, .long x4]) (n := 6) (Nat.le_of_ble_eq_true rfl)
  rw [lg_entry_eq]
  generalize (lg_sl ([.long x0, .long x2, .long x4]) ++ List.replicate (6 - (lg_sl ([.long x0, .long x2, .long x4])).length) Slot.unset).toArray = ls at hl ⊢
  have hl : lv_has ls 6 [(0, .long x0), (2, .long x2), (4, .long x4)] := hl
  refine hk_Q (fun Q hQ => ?_)
  have h := hf
  unfold f_X8_in at h
  refine lv_lload_n hx hb dX8_in_0 rfl (lv_at hl 0 rfl) ?_
  refine lv_lload_n hx hb dX8_in_1 rfl (lv_at hl 1 rfl) ?_
  refine hk_lcmp_lt (tgt := 17) hx hb dX8_in_2 dX8_in_3 (by decide) (fun c21 => ?_) (fun c21 => ?_)
  · replace h := hk_ip c21 h
    refine lv_iconst (v := (0 : Int32)) hx hb dX8_in_17 (by decide) ?_
    subst hQ
    exact W.zret hx hb hr rfl (fun t ht hW => ⟨_, rfl, Option.some.inj h, ht⟩) (fun _ h9 => by cases h9) dX8_in_18
  replace h := hk_in c21 h
  refine lv_lload_n hx hb dX8_in_6 rfl (lv_at hl 0 rfl) ?_
  refine lv_lload hx hb dX8_in_7 (lv_at hl 2 rfl) ?_
  refine hk_lcmp_gt (tgt := 17) hx hb dX8_in_9 dX8_in_10 (by decide) (fun c22 => ?_) (fun c22 => ?_)
  · replace h := hk_ip c22 h
    refine lv_iconst (v := (0 : Int32)) hx hb dX8_in_17 (by decide) ?_
    subst hQ
    exact W.zret hx hb hr rfl (fun t ht hW => ⟨_, rfl, Option.some.inj h, ht⟩) (fun _ h9 => by cases h9) dX8_in_18
  replace h := hk_in c22 h
  refine lv_iconst (v := (1 : Int32)) hx hb dX8_in_13 (by decide) ?_
  refine lv_goto (tgt := 18) hx hb dX8_in_14 (by decide) ?_
  subst hQ
  exact W.zret hx hb hr rfl (fun t ht hW => ⟨_, rfl, Option.some.inj h, ht⟩) (fun _ h9 => by cases h9) dX8_in_18
theorem zs_X8_beside : yX8_beside.cls ≠ "java/lang/invoke/MethodHandle" ∧ yX8_beside.cls ≠ "java/lang/invoke/VarHandle" ∧ (parseMethodDescriptor yX8_beside.desc).map (fun d => d.parameters.length) = some 1 := by decide +kernel
def f_X8_beside   (x0 : Int32) : Option Int32 := hk_let (hk_rem x0 (4 : Int32)) fun x21 => hk_let (if x21 = 0 then ((-1 : Int32)) else (if x21 = (2 : Int32) then ((1 : Int32)) else ((0 : Int32)))) fun v25 => hk_let ((x0 / (16 : Int32)) + v25) fun x26 => hk_let (if x21 = (1 : Int32) then ((1 : Int32)) else (if x21 = (3 : Int32) then ((-1 : Int32)) else ((0 : Int32)))) fun v30 => hk_let ((hk_rem (x0 / (4 : Int32)) (4 : Int32)) + v30) fun x31 => hk_b1 (f_X8_in (x26.toInt64) (0 : Int64) (3 : Int64)) fun r32 => if r32 = 0 then (some (-9 : Int32)) else (hk_b1 (f_X8_in (x31.toInt64) (0 : Int64) (3 : Int64)) fun r37 => if r37 = 0 then (some (-9 : Int32)) else (some ((((16 : Int32) * x26) + ((4 : Int32) * x31)) + (hk_rem (x21 + (2 : Int32)) (4 : Int32)))))
set_option maxHeartbeats 8000000 in
set_option maxRecDepth 100000 in
theorem c_X8_beside (l : Launch) (x0 : Int32) (rv : Int32) (hf : f_X8_beside x0 = some rv) : Met l yX8_beside wsX8_beside ({ frames := 1, cells := 0, slots := 0, locals := 25 }) (va_Pc [.int x0] (fun _ => True)) (vp_Si (fun r => r = rv)) 0 0 (fun _ => False) := by
  refine Met.ofW (cc := cX8_beside) (maxL := 4) (ret := (some .int)) (by decide) rfl ?_
  intro p e s m args below meth c s₁ B hml hv
  obtain ⟨rfl, -⟩ := hv
  have hx := B.exec
  have hb := B.bytes
  have hr := B.returns
  have hts := atoms_spec (ws := wsX8_beside) B.pre
  have hown : s.vm.findClass RX8 = some m.cls := findClass_of_methodNamed B.named
  have hlocks := B.notSynchronized
  have hl := lv_entry ([.int x0]) (n := 4) (Nat.le_of_ble_eq_true rfl)
  rw [lg_entry_eq]
  generalize (lg_sl ([.int x0]) ++ List.replicate (4 - (lg_sl ([.int x0])).length) Slot.unset).toArray = ls at hl ⊢
  have hl : lv_has ls 4 [(0, .int x0)] := hl
  refine hk_Q (fun Q hQ => ?_)
  have h := hf
  unfold f_X8_beside at h
  refine lv_iload_n hx hb dX8_beside_0 rfl (lv_at hl 0 rfl) ?_
  refine lv_iconst (v := (4 : Int32)) hx hb dX8_beside_1 (by decide) ?_
  refine lv_irem hx hb dX8_beside_2 (by decide) ?_
  refine hk_ti (y := (hk_rem x0 (4 : Int32))) rfl ?_
  obtain ⟨x21, ex21, h⟩ := hk_le h
  refine hk_ti ex21 ?_
  refine lv_istore_n (lv' := [(1, .int x21), (0, .int x0)]) hx hb dX8_beside_3 rfl hl (by decide) rfl (fun ls hl => ?_)
  refine lv_iload_n hx hb dX8_beside_4 rfl (lv_at hl 1 rfl) ?_
  refine lv_bipush (v := (16 : Int32)) hx hb dX8_beside_5 (by decide) ?_
  refine lv_idiv hx hb dX8_beside_7 (by decide) ?_
  refine lv_iload_n hx hb dX8_beside_8 rfl (lv_at hl 0 rfl) ?_
  obtain ⟨v25, g22, h⟩ := hk_lf h
  refine hk_joinR (nL := 4) (xs := fun (t9 : Int32) => (26, [(0, .int x0), (1, .int x21)], [.int t9, .int (x0 / (16 : Int32))])) v25 (fun hjg22 => ?_) ?_
  · refine lv_if_ne (tgt := 16) hx hb dX8_beside_9 (by decide) (fun c23 => ?_) (fun c23 => ?_)
    · replace g22 := hk_in c23 g22
      refine lv_iload_n hx hb dX8_beside_16 rfl (lv_at hl 0 rfl) ?_
      refine lv_iconst (v := (2 : Int32)) hx hb dX8_beside_17 (by decide) ?_
      refine lv_icmp_ne (tgt := 25) hx hb dX8_beside_18 (by decide) (fun c24 => ?_) (fun c24 => ?_)
      · replace g22 := hk_in c24 g22
        refine lv_iconst (v := (0 : Int32)) hx hb dX8_beside_25 (by decide) ?_
        subst g22
        exact hjg22 ls (lv_sub hl [1, 0] rfl)
      replace g22 := hk_ip c24 g22
      refine lv_iconst (v := (1 : Int32)) hx hb dX8_beside_21 (by decide) ?_
      refine lv_goto (tgt := 26) hx hb dX8_beside_22 (by decide) ?_
      subst g22
      exact hjg22 ls (lv_sub hl [1, 0] rfl)
    replace g22 := hk_ip c23 g22
    refine lv_iconst (v := (-1 : Int32)) hx hb dX8_beside_12 (by decide) ?_
    refine lv_goto (tgt := 26) hx hb dX8_beside_13 (by decide) ?_
    subst g22
    exact hjg22 ls (lv_sub hl [1, 0] rfl)
  intro ls hl
  have hl : lv_has ls 4 [(0, .int x0), (1, .int x21)] := hl
  show W _ _ _ _ _ _ _ _ _ _ _ _ _ _ _ (F0 m 26 ls [.int v25, .int (x0 / (16 : Int32))])
  refine lv_iadd hx hb dX8_beside_26 ?_
  obtain ⟨x26, ex26, h⟩ := hk_le h
  refine hk_ti ex26 ?_
  refine lv_istore_n (lv' := [(2, .int x26), (0, .int x0), (1, .int x21)]) hx hb dX8_beside_27 rfl hl (by decide) rfl (fun ls hl => ?_)
  refine lv_iload_n hx hb dX8_beside_28 rfl (lv_at hl 1 rfl) ?_
  refine lv_iconst (v := (4 : Int32)) hx hb dX8_beside_29 (by decide) ?_
  refine lv_idiv hx hb dX8_beside_30 (by decide) ?_
  refine lv_iconst (v := (4 : Int32)) hx hb dX8_beside_31 (by decide) ?_
  refine lv_irem hx hb dX8_beside_32 (by decide) ?_
  refine hk_ti (y := (hk_rem (x0 / (4 : Int32)) (4 : Int32))) rfl ?_
  refine lv_iload_n hx hb dX8_beside_33 rfl (lv_at hl 2 rfl) ?_
  refine lv_iconst (v := (1 : Int32)) hx hb dX8_beside_34 (by decide) ?_
  obtain ⟨v30, g27, h⟩ := hk_lf h
  refine hk_joinR (nL := 4) (xs := fun (t9 : Int32) => (52, [(1, .int x21), (2, .int x26)], [.int t9, .int (hk_rem (x0 / (4 : Int32)) (4 : Int32))])) v30 (fun hjg27 => ?_) ?_
  · refine lv_icmp_ne (tgt := 42) hx hb dX8_beside_35 (by decide) (fun c28 => ?_) (fun c28 => ?_)
    · replace g27 := hk_in c28 g27
      refine lv_iload_n hx hb dX8_beside_42 rfl (lv_at hl 2 rfl) ?_
      refine lv_iconst (v := (3 : Int32)) hx hb dX8_beside_43 (by decide) ?_
      refine lv_icmp_ne (tgt := 51) hx hb dX8_beside_44 (by decide) (fun c29 => ?_) (fun c29 => ?_)
      · replace g27 := hk_in c29 g27
        refine lv_iconst (v := (0 : Int32)) hx hb dX8_beside_51 (by decide) ?_
        subst g27
        exact hjg27 ls (lv_sub hl [2, 0] rfl)
      replace g27 := hk_ip c29 g27
      refine lv_iconst (v := (-1 : Int32)) hx hb dX8_beside_47 (by decide) ?_
      refine lv_goto (tgt := 52) hx hb dX8_beside_48 (by decide) ?_
      subst g27
      exact hjg27 ls (lv_sub hl [2, 0] rfl)
    replace g27 := hk_ip c28 g27
    refine lv_iconst (v := (1 : Int32)) hx hb dX8_beside_38 (by decide) ?_
    refine lv_goto (tgt := 52) hx hb dX8_beside_39 (by decide) ?_
    subst g27
    exact hjg27 ls (lv_sub hl [2, 0] rfl)
  intro ls hl
  have hl : lv_has ls 4 [(1, .int x21), (2, .int x26)] := hl
  show W _ _ _ _ _ _ _ _ _ _ _ _ _ _ _ (F0 m 52 ls [.int v30, .int (hk_rem (x0 / (4 : Int32)) (4 : Int32))])
  refine lv_iadd hx hb dX8_beside_52 ?_
  obtain ⟨x31, ex31, h⟩ := hk_le h
  refine hk_ti ex31 ?_
  refine lv_istore_n (lv' := [(3, .int x31), (1, .int x21), (2, .int x26)]) hx hb dX8_beside_53 rfl hl (by decide) rfl (fun ls hl => ?_)
  refine lv_iload_n hx hb dX8_beside_54 rfl (lv_at hl 2 rfl) ?_
  refine lv_i2l (v := (x26.toInt64)) hx hb dX8_beside_55 rfl ?_
  refine lv_lconst (v := (0 : Int64)) hx hb dX8_beside_56 (by decide) ?_
  refine lv_ldc2 (v := (3 : Int64)) hx hb hown (hts (.constantLong RX8 73 (3)) (List.mem_of_getElem? (i := 1) rfl)) dX8_beside_57 ?_
  obtain ⟨r32, hr33, h⟩ := hk_x1 h
  refine vp_callSi (W.runS (As := [.long (x26.toInt64), .long (0 : Int64), .long (3 : Int64)]) (rest := []) ⟨hx, hb, hml, hown, hts⟩ (c_X8_in l (x26.toInt64) (0 : Int64) (3 : Int64) _ hr33) (va_cwS 3 hts gX8_beside_X8_in rfl rfl rfl zs_X8_in ⟨Nat.le_of_ble_eq_true rfl, Nat.le_of_ble_eq_true rfl⟩) ⟨fun _ _ _ _ q => q, fun _ _ _ => ⟨rfl, trivial⟩⟩ rfl rfl hl.1 rfl (lv_room (Nat.le_of_ble_eq_true rfl)) dX8_beside_60 ⟨Nat.zero_le _, Nat.zero_le _⟩) (fun p35 e34 => ?_)
  rw [e34]
  refine lv_if_eq (tgt := 95) hx hb dX8_beside_63 (by decide) (fun c36 => ?_) (fun c36 => ?_)
  · replace h := hk_ip c36 h
    refine lv_bipush (v := (-9 : Int32)) hx hb dX8_beside_95 (by decide) ?_
    subst hQ
    exact W.iret hx hb hr (fun t ht hW => ⟨_, rfl, Option.some.inj h, ht⟩) (fun _ h9 => by cases h9) dX8_beside_97
  replace h := hk_in c36 h
  refine lv_iload_n hx hb dX8_beside_66 rfl (lv_at hl 0 rfl) ?_
  refine lv_i2l (v := (x31.toInt64)) hx hb dX8_beside_67 rfl ?_
  refine lv_lconst (v := (0 : Int64)) hx hb dX8_beside_68 (by decide) ?_
  refine lv_ldc2 (v := (3 : Int64)) hx hb hown (hts (.constantLong RX8 73 (3)) (List.mem_of_getElem? (i := 1) rfl)) dX8_beside_69 ?_
  obtain ⟨r37, hr38, h⟩ := hk_x1 h
  refine vp_callSi (W.runS (As := [.long (x31.toInt64), .long (0 : Int64), .long (3 : Int64)]) (rest := []) ⟨hx, hb, hml, hown, hts⟩ (c_X8_in l (x31.toInt64) (0 : Int64) (3 : Int64) _ hr38) (va_cwS 3 hts gX8_beside_X8_in rfl rfl rfl zs_X8_in ⟨Nat.le_of_ble_eq_true rfl, Nat.le_of_ble_eq_true rfl⟩) ⟨fun _ _ _ _ q => q, fun _ _ _ => ⟨rfl, trivial⟩⟩ rfl rfl hl.1 rfl (lv_room (Nat.le_of_ble_eq_true rfl)) dX8_beside_72 ⟨Nat.zero_le _, Nat.zero_le _⟩) (fun p40 e39 => ?_)
  rw [e39]
  refine lv_if_eq (tgt := 95) hx hb dX8_beside_75 (by decide) (fun c41 => ?_) (fun c41 => ?_)
  · replace h := hk_ip c41 h
    refine lv_bipush (v := (-9 : Int32)) hx hb dX8_beside_95 (by decide) ?_
    subst hQ
    exact W.iret hx hb hr (fun t ht hW => ⟨_, rfl, Option.some.inj h, ht⟩) (fun _ h9 => by cases h9) dX8_beside_97
  replace h := hk_in c41 h
  refine lv_bipush (v := (16 : Int32)) hx hb dX8_beside_78 (by decide) ?_
  refine lv_iload_n hx hb dX8_beside_80 rfl (lv_at hl 2 rfl) ?_
  refine lv_imul hx hb dX8_beside_81 ?_
  refine lv_iconst (v := (4 : Int32)) hx hb dX8_beside_82 (by decide) ?_
  refine lv_iload_n hx hb dX8_beside_83 rfl (lv_at hl 0 rfl) ?_
  refine lv_imul hx hb dX8_beside_84 ?_
  refine lv_iadd hx hb dX8_beside_85 ?_
  refine lv_iload_n hx hb dX8_beside_86 rfl (lv_at hl 1 rfl) ?_
  refine lv_iconst (v := (2 : Int32)) hx hb dX8_beside_87 (by decide) ?_
  refine lv_iadd hx hb dX8_beside_88 ?_
  refine lv_iconst (v := (4 : Int32)) hx hb dX8_beside_89 (by decide) ?_
  refine lv_irem hx hb dX8_beside_90 (by decide) ?_
  refine hk_ti (y := (hk_rem (x21 + (2 : Int32)) (4 : Int32))) rfl ?_
  refine lv_iadd hx hb dX8_beside_91 ?_
  refine lv_goto (tgt := 97) hx hb dX8_beside_92 (by decide) ?_
  subst hQ
  exact W.iret hx hb hr (fun t ht hW => ⟨_, rfl, Option.some.inj h, ht⟩) (fun _ h9 => by cases h9) dX8_beside_97
theorem zs_X8_has : yX8_has.cls ≠ "java/lang/invoke/MethodHandle" ∧ yX8_has.cls ≠ "java/lang/invoke/VarHandle" ∧ (parseMethodDescriptor yX8_has.desc).map (fun d => d.parameters.length) = some 2 := by decide +kernel
def f_X8_has   (x0 : Int64) (x2 : Int32) : Option Int32 := if ((hk_shr x0 x2) &&& (1 : Int64)) = (1 : Int64) then (some (1 : Int32)) else (some (0 : Int32))
set_option maxHeartbeats 8000000 in
set_option maxRecDepth 100000 in
theorem c_X8_has (l : Launch) (x0 : Int64) (x2 : Int32) (rv : Int32) (hf : f_X8_has x0 x2 = some rv) : Met l yX8_has wsX8_has ({ frames := 0, cells := 0, slots := 0, locals := 0 }) (va_Pc [.long x0, .int x2] (fun _ => True)) (vp_Si (fun r => r = rv)) 0 0 (fun _ => False) := by
  refine Met.ofW (cc := cX8_has) (maxL := 3) (ret := (some .boolean)) (by decide) rfl ?_
  intro p e s m args below meth c s₁ B hml hv
  obtain ⟨rfl, -⟩ := hv
  have hx := B.exec
  have hb := B.bytes
  have hr := B.returns
  have hts := atoms_spec (ws := wsX8_has) B.pre
  have hown : s.vm.findClass RX8 = some m.cls := findClass_of_methodNamed B.named
  have hlocks := B.notSynchronized
  have hl := lv_entry ([.long x0, .int x2]) (n := 3) (Nat.le_of_ble_eq_true rfl)
  rw [lg_entry_eq]
  generalize (lg_sl ([.long x0, .int x2]) ++ List.replicate (3 - (lg_sl ([.long x0, .int x2])).length) Slot.unset).toArray = ls at hl ⊢
  have hl : lv_has ls 3 [(0, .long x0), (2, .int x2)] := hl
  refine hk_Q (fun Q hQ => ?_)
  have h := hf
  unfold f_X8_has at h
  refine lv_lload_n hx hb dX8_has_0 rfl (lv_at hl 0 rfl) ?_
  refine lv_iload_n hx hb dX8_has_1 rfl (lv_at hl 1 rfl) ?_
  refine lv_lshr (v := (hk_shr x0 x2)) hx hb dX8_has_2 rfl ?_
  refine lv_lconst (v := (1 : Int64)) hx hb dX8_has_3 (by decide) ?_
  refine lv_land hx hb dX8_has_4 ?_
  refine lv_lconst (v := (1 : Int64)) hx hb dX8_has_5 (by decide) ?_
  refine hk_lcmp_ne (tgt := 14) hx hb dX8_has_6 dX8_has_7 (by decide) (fun c21 => ?_) (fun c21 => ?_)
  · replace h := hk_in c21 h
    refine lv_iconst (v := (0 : Int32)) hx hb dX8_has_14 (by decide) ?_
    subst hQ
    exact W.zret hx hb hr rfl (fun t ht hW => ⟨_, rfl, Option.some.inj h, ht⟩) (fun _ h9 => by cases h9) dX8_has_15
  replace h := hk_ip c21 h
  refine lv_iconst (v := (1 : Int32)) hx hb dX8_has_10 (by decide) ?_
  refine lv_goto (tgt := 15) hx hb dX8_has_11 (by decide) ?_
  subst hQ
  exact W.zret hx hb hr rfl (fun t ht hW => ⟨_, rfl, Option.some.inj h, ht⟩) (fun _ h9 => by cases h9) dX8_has_15
theorem zs_X8_ones : yX8_ones.cls ≠ "java/lang/invoke/MethodHandle" ∧ yX8_ones.cls ≠ "java/lang/invoke/VarHandle" ∧ (parseMethodDescriptor yX8_ones.desc).map (fun d => d.parameters.length) = some 1 := by decide +kernel
def st_X8_ones_4c (x0 : Int64) (y22 : Int32) (y23 : Int32) : Option ((Int32 × Int32) ⊕ Int32) := if (64 : Int32) ≤ y23 then (some (.inr y22)) else (hk_let (y22 + ((((hk_shr x0 y23) &&& (1 : Int64))).toInt32)) fun x25 => hk_let (y23 + (1 : Int32)) fun x26 => some (.inl (x25, x26)))
def st_X8_ones_4 (x0 : Int64) (t9 : (Int32 × Int32)) : Option ((Int32 × Int32) ⊕ Int32) := st_X8_ones_4c x0 t9.1 t9.2
def f_X8_ones   (x0 : Int64) : Option Int32 := hk_b1 (hk_wl (st_X8_ones_4 x0) hkF ((0 : Int32), (0 : Int32))) fun z28 => some z28
set_option maxHeartbeats 8000000 in
set_option maxRecDepth 100000 in
theorem c_X8_ones (l : Launch) (x0 : Int64) (rv : Int32) (hf : f_X8_ones x0 = some rv) : Met l yX8_ones wsX8_ones ({ frames := 0, cells := 0, slots := 0, locals := 0 }) (va_Pc [.long x0] (fun _ => True)) (vp_Si (fun r => r = rv)) 0 0 (fun _ => False) := by
  refine Met.ofW (cc := cX8_ones) (maxL := 4) (ret := (some .int)) (by decide) rfl ?_
  intro p e s m args below meth c s₁ B hml hv
  obtain ⟨rfl, -⟩ := hv
  have hx := B.exec
  have hb := B.bytes
  have hr := B.returns
  have hts := atoms_spec (ws := wsX8_ones) B.pre
  have hown : s.vm.findClass RX8 = some m.cls := findClass_of_methodNamed B.named
  have hlocks := B.notSynchronized
  have hl := lv_entry ([.long x0]) (n := 4) (Nat.le_of_ble_eq_true rfl)
  rw [lg_entry_eq]
  generalize (lg_sl ([.long x0]) ++ List.replicate (4 - (lg_sl ([.long x0])).length) Slot.unset).toArray = ls at hl ⊢
  have hl : lv_has ls 4 [(0, .long x0)] := hl
  refine hk_Q (fun Q hQ => ?_)
  have h := hf
  unfold f_X8_ones at h
  refine lv_iconst (v := (0 : Int32)) hx hb dX8_ones_0 (by decide) ?_
  refine lv_istore_n (lv' := [(2, .int (0 : Int32)), (0, .long x0)]) hx hb dX8_ones_1 rfl hl (by decide) rfl (fun ls hl => ?_)
  refine lv_iconst (v := (0 : Int32)) hx hb dX8_ones_2 (by decide) ?_
  refine lv_istore_n (lv' := [(3, .int (0 : Int32)), (2, .int (0 : Int32)), (0, .long x0)]) hx hb dX8_ones_3 rfl hl (by decide) rfl (fun ls hl => ?_)
  obtain ⟨z28, hr27, h⟩ := hk_x1 h
  refine hk_loopR (f := st_X8_ones_4 x0) (hd := 4) (nL := 4) (lv := fun t9 => [(0, .long x0), (2, .int t9.1), (3, .int t9.2)]) (xs := fun t9 => (25, [(2, .int t9)], [])) ?_ hr27 ?_ (lv_sub hl [2, 1, 0] rfl)
  · intro t29 q30 k21 hck21 hqk21 ls hl
    obtain ⟨y22, y23⟩ := t29
    have k21 : st_X8_ones_4c x0 y22 y23 = some q30 := k21
    unfold st_X8_ones_4c at k21
    have hl : lv_has ls 4 [(0, .long x0), (2, .int y22), (3, .int y23)] := hl
    refine lv_iload_n hx hb dX8_ones_4 rfl (lv_at hl 2 rfl) ?_
    refine lv_bipush (v := (64 : Int32)) hx hb dX8_ones_5 (by decide) ?_
    refine lv_icmp_ge (tgt := 25) hx hb dX8_ones_7 (by decide) (fun c24 => ?_) (fun c24 => ?_)
    · replace k21 := hk_ip c24 k21
      exact hqk21 y22 (Option.some.inj k21).symm ls (lv_sub hl [1] rfl)
    replace k21 := hk_in c24 k21
    refine lv_iload_n hx hb dX8_ones_10 rfl (lv_at hl 1 rfl) ?_
    refine lv_lload_n hx hb dX8_ones_11 rfl (lv_at hl 0 rfl) ?_
    refine lv_iload_n hx hb dX8_ones_12 rfl (lv_at hl 2 rfl) ?_
    refine lv_lshr (v := (hk_shr x0 y23)) hx hb dX8_ones_13 rfl ?_
    refine lv_lconst (v := (1 : Int64)) hx hb dX8_ones_14 (by decide) ?_
    refine lv_land hx hb dX8_ones_15 ?_
    refine lv_l2i (v := ((((hk_shr x0 y23) &&& (1 : Int64))).toInt32)) hx hb dX8_ones_16 rfl ?_
    refine lv_iadd hx hb dX8_ones_17 ?_
    obtain ⟨x25, ex25, k21⟩ := hk_le k21
    refine hk_ti ex25 ?_
    refine lv_istore_n (lv' := [(2, .int x25), (0, .long x0), (3, .int y23)]) hx hb dX8_ones_18 rfl hl (by decide) rfl (fun ls hl => ?_)
    obtain ⟨x26, ex26, k21⟩ := hk_le k21
    refine lv_iinc (v := x26) (lv' := [(3, .int x26), (2, .int x25), (0, .long x0)]) hx hb dX8_ones_19 hl (k := 2) rfl (by rw [ex26]; rfl) (by decide) rfl (fun ls hl => ?_)
    refine lv_goto (tgt := 4) hx hb dX8_ones_22 (by decide) ?_
    exact hck21 (x25, x26) (Option.some.inj k21).symm ls (lv_sub hl [2, 1, 0] rfl)
  intro ls hl
  have hl : lv_has ls 4 [(2, .int z28)] := hl
  show W _ _ _ _ _ _ _ _ _ _ _ _ _ _ _ (F0 m 25 ls [])
  refine lv_iload_n hx hb dX8_ones_25 rfl (lv_at hl 0 rfl) ?_
  subst hQ
  exact W.iret hx hb hr (fun t ht hW => ⟨_, rfl, Option.some.inj h, ht⟩) (fun _ h9 => by cases h9) dX8_ones_26
theorem zs_X8_less : yX8_less.cls ≠ "java/lang/invoke/MethodHandle" ∧ yX8_less.cls ≠ "java/lang/invoke/VarHandle" ∧ (parseMethodDescriptor yX8_less.desc).map (fun d => d.parameters.length) = some 2 := by decide +kernel
def f_X8_less   (x0 : Int64) (x2 : Int64) : Option Int32 := if (x2 ^^^ (-9223372036854775808 : Int64)) ≤ (x0 ^^^ (-9223372036854775808 : Int64)) then (some (0 : Int32)) else (some (1 : Int32))
set_option maxHeartbeats 8000000 in
set_option maxRecDepth 100000 in
theorem c_X8_less (l : Launch) (x0 : Int64) (x2 : Int64) (rv : Int32) (hf : f_X8_less x0 x2 = some rv) : Met l yX8_less wsX8_less ({ frames := 0, cells := 0, slots := 0, locals := 0 }) (va_Pc [.long x0, .long x2] (fun _ => True)) (vp_Si (fun r => r = rv)) 0 0 (fun _ => False) := by
  refine Met.ofW (cc := cX8_less) (maxL := 4) (ret := (some .boolean)) (by decide) rfl ?_
  intro p e s m args below meth c s₁ B hml hv
  obtain ⟨rfl, -⟩ := hv
  have hx := B.exec
  have hb := B.bytes
  have hr := B.returns
  have hts := atoms_spec (ws := wsX8_less) B.pre
  have hown : s.vm.findClass RX8 = some m.cls := findClass_of_methodNamed B.named
  have hlocks := B.notSynchronized
  have hl := lv_entry ([.long x0, .long x2]) (n := 4) (Nat.le_of_ble_eq_true rfl)
  rw [lg_entry_eq]
  generalize (lg_sl ([.long x0, .long x2]) ++ List.replicate (4 - (lg_sl ([.long x0, .long x2])).length) Slot.unset).toArray = ls at hl ⊢
  have hl : lv_has ls 4 [(0, .long x0), (2, .long x2)] := hl
  refine hk_Q (fun Q hQ => ?_)
  have h := hf
  unfold f_X8_less at h
  refine lv_lload_n hx hb dX8_less_0 rfl (lv_at hl 0 rfl) ?_
  refine lv_ldc2 (v := (-9223372036854775808 : Int64)) hx hb hown (hts (.constantLong RX8 79 (-9223372036854775808)) (List.mem_of_getElem? (i := 1) rfl)) dX8_less_1 ?_
  refine lv_lxor hx hb dX8_less_4 ?_
  refine lv_lload_n hx hb dX8_less_5 rfl (lv_at hl 1 rfl) ?_
  refine lv_ldc2 (v := (-9223372036854775808 : Int64)) hx hb hown (hts (.constantLong RX8 79 (-9223372036854775808)) (List.mem_of_getElem? (i := 1) rfl)) dX8_less_6 ?_
  refine lv_lxor hx hb dX8_less_9 ?_
  refine hk_lcmp_ge (tgt := 18) hx hb dX8_less_10 dX8_less_11 (by decide) (fun c21 => ?_) (fun c21 => ?_)
  · replace h := hk_ip c21 h
    refine lv_iconst (v := (0 : Int32)) hx hb dX8_less_18 (by decide) ?_
    subst hQ
    exact W.zret hx hb hr rfl (fun t ht hW => ⟨_, rfl, Option.some.inj h, ht⟩) (fun _ h9 => by cases h9) dX8_less_19
  replace h := hk_in c21 h
  refine lv_iconst (v := (1 : Int32)) hx hb dX8_less_14 (by decide) ?_
  refine lv_goto (tgt := 19) hx hb dX8_less_15 (by decide) ?_
  subst hQ
  exact W.zret hx hb hr rfl (fun t ht hW => ⟨_, rfl, Option.some.inj h, ht⟩) (fun _ h9 => by cases h9) dX8_less_19
theorem zs_X8_isFigure : yX8_isFigure.cls ≠ "java/lang/invoke/MethodHandle" ∧ yX8_isFigure.cls ≠ "java/lang/invoke/VarHandle" ∧ (parseMethodDescriptor yX8_isFigure.desc).map (fun d => d.parameters.length) = some 1 := by decide +kernel
def f_X8_isFigure   (x0 : Int32) : Option Int32 := hk_b1 (f_X8_in (x0.toInt64) (0 : Int64) (7 : Int64)) fun r21 => hk_gd (hk_isb r21) (some r21)
set_option maxHeartbeats 8000000 in
set_option maxRecDepth 100000 in
theorem c_X8_isFigure (l : Launch) (x0 : Int32) (rv : Int32) (hf : f_X8_isFigure x0 = some rv) : Met l yX8_isFigure wsX8_isFigure ({ frames := 1, cells := 0, slots := 0, locals := 25 }) (va_Pc [.int x0] (fun _ => True)) (vp_Si (fun r => r = rv)) 0 0 (fun _ => False) := by
  refine Met.ofW (cc := cX8_isFigure) (maxL := 1) (ret := (some .boolean)) (by decide) rfl ?_
  intro p e s m args below meth c s₁ B hml hv
  obtain ⟨rfl, -⟩ := hv
  have hx := B.exec
  have hb := B.bytes
  have hr := B.returns
  have hts := atoms_spec (ws := wsX8_isFigure) B.pre
  have hown : s.vm.findClass RX8 = some m.cls := findClass_of_methodNamed B.named
  have hlocks := B.notSynchronized
  have hl := lv_entry ([.int x0]) (n := 1) (Nat.le_of_ble_eq_true rfl)
  rw [lg_entry_eq]
  generalize (lg_sl ([.int x0]) ++ List.replicate (1 - (lg_sl ([.int x0])).length) Slot.unset).toArray = ls at hl ⊢
  have hl : lv_has ls 1 [(0, .int x0)] := hl
  refine hk_Q (fun Q hQ => ?_)
  have h := hf
  unfold f_X8_isFigure at h
  refine lv_iload_n hx hb dX8_isFigure_0 rfl (lv_at hl 0 rfl) ?_
  refine lv_i2l (v := (x0.toInt64)) hx hb dX8_isFigure_1 rfl ?_
  refine lv_lconst (v := (0 : Int64)) hx hb dX8_isFigure_2 (by decide) ?_
  refine lv_ldc2 (v := (7 : Int64)) hx hb hown (hts (.constantLong RX8 81 (7)) (List.mem_of_getElem? (i := 1) rfl)) dX8_isFigure_3 ?_
  obtain ⟨r21, hr22, h⟩ := hk_x1 h
  refine vp_callSi (W.runS (As := [.long (x0.toInt64), .long (0 : Int64), .long (7 : Int64)]) (rest := []) ⟨hx, hb, hml, hown, hts⟩ (c_X8_in l (x0.toInt64) (0 : Int64) (7 : Int64) _ hr22) (va_cwS 3 hts gX8_isFigure_X8_in rfl rfl rfl zs_X8_in ⟨Nat.le_of_ble_eq_true rfl, Nat.le_of_ble_eq_true rfl⟩) ⟨fun _ _ _ _ q => q, fun _ _ _ => ⟨rfl, trivial⟩⟩ rfl rfl hl.1 rfl (lv_room (Nat.le_of_ble_eq_true rfl)) dX8_isFigure_6 ⟨Nat.zero_le _, Nat.zero_le _⟩) (fun p24 e23 => ?_)
  rw [e23]
  obtain ⟨hz25, h⟩ := hk_ge h
  subst hQ
  exact W.zret hx hb hr (hk_isb_of hz25) (fun t ht hW => ⟨_, rfl, Option.some.inj h, ht⟩) (fun _ h9 => by cases h9) dX8_isFigure_9
theorem zv_X8_write : yX8_write.cls = RX8 ∧ yX8_write.cls ≠ "java/lang/invoke/MethodHandle" ∧ yX8_write.cls ≠ "java/lang/invoke/VarHandle" ∧ (parseMethodDescriptor yX8_write.desc).map (fun d => d.parameters.length) = some 2 := by decide +kernel
def st_X8_write_34c (x2 : Int64) (y29 : Int32) (w30 : Int32) (w31 : Nat → Int32) : Option ((Int32 × Int32 × (Nat → Int32)) ⊕ (Int32 × (Nat → Int32))) := if y29 < 0 then (some (.inr (w30, w31))) else (hk_gd (hk_inb w30 16) (hk_let (w30 + (1 : Int32)) fun x34 => hk_let (y29 + (-1 : Int32)) fun x35 => some (.inl (x35, x34, (upd w31 w30.toNatClampNeg ((((hk_shr x2 ((8 : Int32) * y29)) &&& (255 : Int64))).toInt32))))))
def st_X8_write_34 (x2 : Int64) (t9 : (Int32 × Int32 × (Nat → Int32))) : Option ((Int32 × Int32 × (Nat → Int32)) ⊕ (Int32 × (Nat → Int32))) := st_X8_write_34c x2 t9.1 t9.2.1 t9.2.2
def f_X8_write (c_this_length : Int32) (c_this_text : Nat → Int32)  (x1 : Int32) (x2 : Int64) : Option (Int32 × Int32 × (Nat → Int32)) := hk_b1 (f_X8_in (x1.toInt64) (1 : Int64) (8 : Int64)) fun r21 => if r21 = 0 then (some ((-2 : Int32), c_this_length, c_this_text)) else (if (c_this_length + x1) ≤ (16 : Int32) then (hk_let (x1 - (1 : Int32)) fun x27 => hk_b2 (hk_wl (st_X8_write_34 x2) hkF (x27, c_this_length, c_this_text)) fun v37 v38 => some (v37, v37, v38)) else (some ((-4 : Int32), c_this_length, c_this_text)))
theorem zi_X8_write_X8 : ∀ w ∈ u_ws RX8 TX8 23, w ∈ wsX8_write := by decide +kernel
set_option maxHeartbeats 8000000 in
set_option maxRecDepth 100000 in
theorem c_X8_write (l : Launch) (D : va_G) (cI cJ cZ cO : ClassId) (a_this a_this_near a_this_turned a_this_figures a_this_text a_this_sectors a_this_corners a_this_likes a_this_laid a_this_isMirrored a_this_places a_this_placeMany a_this_now a_this_firsts a_this_forms a_this_isKept a_this_keptFigures a_this_keptPieces a_this_keptLaid a_this_keptMirrored : Nat) (sz : Nat) (c_this_length : Int32) (c_this_doubles : Int32) (c_this_likeMany : Int32) (c_this_pieces : Int32) (c_this_text : Nat → Int32) (x1 : Int32) (x2 : Int64) (rv : Int32) (u_this_length : Int32) (u_this_text : Nat → Int32) (hf : f_X8_write c_this_length c_this_text x1 x2 = some (rv, u_this_length, u_this_text)) : Met l yX8_write wsX8_write ({ frames := 1, cells := 0, slots := 0, locals := 25 }) (va_Pc [.ref a_this, .int x1, .long x2] (hkM D cI cJ cZ cO [(a_this, .inr (4, [.ref a_this_near, .ref a_this_turned, .ref a_this_figures, .ref a_this_text, .int c_this_length, .ref a_this_sectors, .ref a_this_corners, .int c_this_doubles, .ref a_this_likes, .int c_this_likeMany, .int c_this_pieces, .ref a_this_laid, .ref a_this_isMirrored, .ref a_this_places, .ref a_this_placeMany, .ref a_this_now, .ref a_this_firsts, .ref a_this_forms, .ref a_this_isKept, .ref a_this_keptFigures, .ref a_this_keptPieces, .ref a_this_keptLaid, .ref a_this_keptMirrored])), (a_this_text, .inl (cI, 16, .inl c_this_text))] sz)) (va_Qi (fun r (_ : Unit) => r = rv) (fun _ t => va_P D vwCl [(a_this, .inr (4, [.ref a_this_near, .ref a_this_turned, .ref a_this_figures, .ref a_this_text, .int u_this_length, .ref a_this_sectors, .ref a_this_corners, .int c_this_doubles, .ref a_this_likes, .int c_this_likeMany, .int c_this_pieces, .ref a_this_laid, .ref a_this_isMirrored, .ref a_this_places, .ref a_this_placeMany, .ref a_this_now, .ref a_this_firsts, .ref a_this_forms, .ref a_this_isKept, .ref a_this_keptFigures, .ref a_this_keptPieces, .ref a_this_keptLaid, .ref a_this_keptMirrored])), (a_this_text, .inl (cI, 16, .inl u_this_text))] t.heap ∧ va_D (va_A [(a_this, .inr (4, [.ref a_this_near, .ref a_this_turned, .ref a_this_figures, .ref a_this_text, .int c_this_length, .ref a_this_sectors, .ref a_this_corners, .int c_this_doubles, .ref a_this_likes, .int c_this_likeMany, .int c_this_pieces, .ref a_this_laid, .ref a_this_isMirrored, .ref a_this_places, .ref a_this_placeMany, .ref a_this_now, .ref a_this_firsts, .ref a_this_forms, .ref a_this_isKept, .ref a_this_keptFigures, .ref a_this_keptPieces, .ref a_this_keptLaid, .ref a_this_keptMirrored])), (a_this_text, .inl (cI, 16, .inl c_this_text))] sz) [(a_this, .inr (4, [.ref a_this_near, .ref a_this_turned, .ref a_this_figures, .ref a_this_text, .int u_this_length, .ref a_this_sectors, .ref a_this_corners, .int c_this_doubles, .ref a_this_likes, .int c_this_likeMany, .int c_this_pieces, .ref a_this_laid, .ref a_this_isMirrored, .ref a_this_places, .ref a_this_placeMany, .ref a_this_now, .ref a_this_firsts, .ref a_this_forms, .ref a_this_isKept, .ref a_this_keptFigures, .ref a_this_keptPieces, .ref a_this_keptLaid, .ref a_this_keptMirrored])), (a_this_text, .inl (cI, 16, .inl u_this_text))]) (va_A [(a_this, .inr (4, [.ref a_this_near, .ref a_this_turned, .ref a_this_figures, .ref a_this_text, .int c_this_length, .ref a_this_sectors, .ref a_this_corners, .int c_this_doubles, .ref a_this_likes, .int c_this_likeMany, .int c_this_pieces, .ref a_this_laid, .ref a_this_isMirrored, .ref a_this_places, .ref a_this_placeMany, .ref a_this_now, .ref a_this_firsts, .ref a_this_forms, .ref a_this_isKept, .ref a_this_keptFigures, .ref a_this_keptPieces, .ref a_this_keptLaid, .ref a_this_keptMirrored])), (a_this_text, .inl (cI, 16, .inl c_this_text))] sz)) 0 0 (va_A [(a_this, .inr (4, [.ref a_this_near, .ref a_this_turned, .ref a_this_figures, .ref a_this_text, .int c_this_length, .ref a_this_sectors, .ref a_this_corners, .int c_this_doubles, .ref a_this_likes, .int c_this_likeMany, .int c_this_pieces, .ref a_this_laid, .ref a_this_isMirrored, .ref a_this_places, .ref a_this_placeMany, .ref a_this_now, .ref a_this_firsts, .ref a_this_forms, .ref a_this_isKept, .ref a_this_keptFigures, .ref a_this_keptPieces, .ref a_this_keptLaid, .ref a_this_keptMirrored])), (a_this_text, .inl (cI, 16, .inl c_this_text))] sz) := by
  refine Met.ofW (cc := cX8_write) (maxL := 5) (ret := (some .int)) (by decide) rfl ?_
  intro p e s m args below meth c s₁ B hml hv
  obtain ⟨rfl, hsz, hP, hK, hD0⟩ := hv
  have hx := B.exec
  have hb := B.bytes
  have hr := B.returns
  have hts := atoms_spec (ws := wsX8_write) B.pre
  have hown : s.vm.findClass RX8 = some m.cls := findClass_of_methodNamed B.named
  have hlocks := B.notSynchronized
  have hN := hK.2
  subst hsz
  have hD := hD0.self (sz := s.heap.size)
  generalize hAe : va_A [(a_this, .inr (4, [.ref a_this_near, .ref a_this_turned, .ref a_this_figures, .ref a_this_text, .int c_this_length, .ref a_this_sectors, .ref a_this_corners, .int c_this_doubles, .ref a_this_likes, .int c_this_likeMany, .int c_this_pieces, .ref a_this_laid, .ref a_this_isMirrored, .ref a_this_places, .ref a_this_placeMany, .ref a_this_now, .ref a_this_firsts, .ref a_this_forms, .ref a_this_isKept, .ref a_this_keptFigures, .ref a_this_keptPieces, .ref a_this_keptLaid, .ref a_this_keptMirrored])), (a_this_text, .inl (cI, 16, .inl c_this_text))] s.heap.size = A at hD ⊢
  have hA : ∀ q : Nat, s.heap.size ≤ q → A q := fun q h => by rw [← hAe]; exact Or.inr h
  have hS : va_S A s.heap s.heap [] := va_S.rf
  have hl := lv_entry ([.ref a_this, .int x1, .long x2]) (n := 5) (Nat.le_of_ble_eq_true rfl)
  rw [lg_entry_eq]
  generalize (lg_sl ([.ref a_this, .int x1, .long x2]) ++ List.replicate (5 - (lg_sl ([.ref a_this, .int x1, .long x2])).length) Slot.unset).toArray = ls at hl ⊢
  have hl : lv_has ls 5 [(0, .ref a_this), (1, .int x1), (2, .long x2)] := hl
  refine hk_Q (fun Q hQ => ?_)
  have h := hf
  unfold f_X8_write at h
  refine lv_iload_n hx hb dX8_write_0 rfl (lv_at hl 1 rfl) ?_
  refine lv_i2l (v := (x1.toInt64)) hx hb dX8_write_1 rfl ?_
  refine lv_lconst (v := (1 : Int64)) hx hb dX8_write_2 (by decide) ?_
  refine lv_ldc2 (v := (8 : Int64)) hx hb hown (hts (.constantLong RX8 83 (8)) (List.mem_of_getElem? (i := 1) rfl)) dX8_write_3 ?_
  obtain ⟨r21, hr22, h⟩ := hk_x1 h
  refine vp_callSi (W.runS (As := [.long (x1.toInt64), .long (1 : Int64), .long (8 : Int64)]) (rest := []) ⟨hx, hb, hml, hown, hts⟩ (c_X8_in l (x1.toInt64) (1 : Int64) (8 : Int64) _ hr22) (va_cwS 3 hts gX8_write_X8_in rfl rfl rfl zs_X8_in ⟨Nat.le_of_ble_eq_true rfl, Nat.le_of_ble_eq_true rfl⟩) ⟨fun _ _ _ _ q => q, fun _ _ _ => ⟨rfl, trivial⟩⟩ rfl rfl hl.1 rfl (lv_room (Nat.le_of_ble_eq_true rfl)) dX8_write_6 ⟨Nat.zero_le _, Nat.zero_le _⟩) (fun p24 e23 => ?_)
  rw [e23]
  refine lv_if_ne (tgt := 15) hx hb dX8_write_9 (by decide) (fun c25 => ?_) (fun c25 => ?_)
  · replace h := hk_in c25 h
    refine lv_aload_n hx hb dX8_write_15 rfl (lv_at hl 0 rfl) ?_
    refine va_get (D := D) (ci := 4) (v := .int c_this_length) (C := RX8) (T := TX8) (N := 23) hx hb hts zi_X8_write_X8 hown hK.1 hP 0 rfl rfl 4 (by decide) (hts (.fieldLink RX8 85 "HalfAndHalfAgainModel" "length" "I") (List.mem_of_getElem? (i := 2) rfl)) (fun _ h9 => h9) rfl dX8_write_16 ?_
    refine lv_iload_n hx hb dX8_write_19 rfl (lv_at hl 1 rfl) ?_
    refine lv_iadd hx hb dX8_write_20 ?_
    refine lv_bipush (v := (16 : Int32)) hx hb dX8_write_21 (by decide) ?_
    refine lv_icmp_le (tgt := 29) hx hb dX8_write_23 (by decide) (fun c26 => ?_) (fun c26 => ?_)
    · replace h := hk_ip c26 h
      refine lv_iload_n hx hb dX8_write_29 rfl (lv_at hl 1 rfl) ?_
      refine lv_iconst (v := (1 : Int32)) hx hb dX8_write_30 (by decide) ?_
      refine lv_isub hx hb dX8_write_31 ?_
      obtain ⟨x27, ex27, h⟩ := hk_le h
      refine hk_ti ex27 ?_
      refine lv_istore (lv' := [(4, .int x27), (0, .ref a_this), (1, .int x1), (2, .long x2)]) hx hb dX8_write_32 hl (by decide) rfl (fun ls hl => ?_)
      obtain ⟨v37, v38, hr36, h⟩ := hk_x2 h
      refine hk_loopM (f := st_X8_write_34 x2) (hd := 34) (nL := 5) (lv := fun t9 => [(0, .ref a_this), (2, .long x2), (4, .int t9.1)]) (wf := fun t9 => [(a_this, .inr (4, [.ref a_this_near, .ref a_this_turned, .ref a_this_figures, .ref a_this_text, .int t9.2.1, .ref a_this_sectors, .ref a_this_corners, .int c_this_doubles, .ref a_this_likes, .int c_this_likeMany, .int c_this_pieces, .ref a_this_laid, .ref a_this_isMirrored, .ref a_this_places, .ref a_this_placeMany, .ref a_this_now, .ref a_this_firsts, .ref a_this_forms, .ref a_this_isKept, .ref a_this_keptFigures, .ref a_this_keptPieces, .ref a_this_keptLaid, .ref a_this_keptMirrored])), (a_this_text, .inl (cI, 16, .inl t9.2.2))]) (xs := fun t9 => (76, [(0, .ref a_this)], [], [(a_this, .inr (4, [.ref a_this_near, .ref a_this_turned, .ref a_this_figures, .ref a_this_text, .int t9.1, .ref a_this_sectors, .ref a_this_corners, .int c_this_doubles, .ref a_this_likes, .int c_this_likeMany, .int c_this_pieces, .ref a_this_laid, .ref a_this_isMirrored, .ref a_this_places, .ref a_this_placeMany, .ref a_this_now, .ref a_this_firsts, .ref a_this_forms, .ref a_this_isKept, .ref a_this_keptFigures, .ref a_this_keptPieces, .ref a_this_keptLaid, .ref a_this_keptMirrored])), (a_this_text, .inl (cI, 16, .inl t9.2))])) ?_ hr36 ?_ hP hD hS (lv_sub hl [1, 3, 0] rfl)
      · intro t39 q40 k28 hck28 hqk28 H locs ls hP hD hS hl
        obtain ⟨y29, w30, w31⟩ := t39
        have k28 : st_X8_write_34c x2 y29 w30 w31 = some q40 := k28
        unfold st_X8_write_34c at k28
        have hl : lv_has ls 5 [(0, .ref a_this), (2, .long x2), (4, .int y29)] := hl
        have hP : va_P D vwCl [(a_this, .inr (4, [.ref a_this_near, .ref a_this_turned, .ref a_this_figures, .ref a_this_text, .int w30, .ref a_this_sectors, .ref a_this_corners, .int c_this_doubles, .ref a_this_likes, .int c_this_likeMany, .int c_this_pieces, .ref a_this_laid, .ref a_this_isMirrored, .ref a_this_places, .ref a_this_placeMany, .ref a_this_now, .ref a_this_firsts, .ref a_this_forms, .ref a_this_isKept, .ref a_this_keptFigures, .ref a_this_keptPieces, .ref a_this_keptLaid, .ref a_this_keptMirrored])), (a_this_text, .inl (cI, 16, .inl w31))] H := hP
        have hD : va_D A [(a_this, .inr (4, [.ref a_this_near, .ref a_this_turned, .ref a_this_figures, .ref a_this_text, .int w30, .ref a_this_sectors, .ref a_this_corners, .int c_this_doubles, .ref a_this_likes, .int c_this_likeMany, .int c_this_pieces, .ref a_this_laid, .ref a_this_isMirrored, .ref a_this_places, .ref a_this_placeMany, .ref a_this_now, .ref a_this_firsts, .ref a_this_forms, .ref a_this_isKept, .ref a_this_keptFigures, .ref a_this_keptPieces, .ref a_this_keptLaid, .ref a_this_keptMirrored])), (a_this_text, .inl (cI, 16, .inl w31))] := hD
        refine lv_iload hx hb dX8_write_34 (lv_at hl 2 rfl) ?_
        refine lv_if_lt (tgt := 76) hx hb dX8_write_36 (by decide) (fun c32 => ?_) (fun c32 => ?_)
        · replace k28 := hk_ip c32 k28
          exact hqk28 (w30, w31) (Option.some.inj k28).symm H locs ls hP hD hS (lv_sub hl [0] rfl)
        replace k28 := hk_in c32 k28
        refine lv_aload_n hx hb dX8_write_39 rfl (lv_at hl 0 rfl) ?_
        refine va_get (D := D) (ci := 4) (v := .ref a_this_text) (C := RX8) (T := TX8) (N := 23) hx hb hts zi_X8_write_X8 hown hK.1 hP 0 rfl rfl 3 (by decide) (hts (.fieldLink RX8 20 "HalfAndHalfAgainModel" "text" "[I") (List.mem_of_getElem? (i := 3) rfl)) (fun _ h9 => h9) rfl dX8_write_40 ?_
        refine lv_aload_n hx hb dX8_write_43 rfl (lv_at hl 0 rfl) ?_
        refine va_get (D := D) (ci := 4) (v := .int w30) (C := RX8) (T := TX8) (N := 23) hx hb hts zi_X8_write_X8 hown hK.1 hP 0 rfl rfl 4 (by decide) (hts (.fieldLink RX8 85 "HalfAndHalfAgainModel" "length" "I") (List.mem_of_getElem? (i := 2) rfl)) (fun _ h9 => h9) rfl dX8_write_44 ?_
        refine lv_lload_n hx hb dX8_write_47 rfl (lv_at hl 1 rfl) ?_
        refine lv_bipush (v := (8 : Int32)) hx hb dX8_write_48 (by decide) ?_
        refine lv_iload hx hb dX8_write_50 (lv_at hl 2 rfl) ?_
        refine lv_imul hx hb dX8_write_52 ?_
        refine lv_lshr (v := (hk_shr x2 ((8 : Int32) * y29))) hx hb dX8_write_53 rfl ?_
        refine lv_ldc2 (v := (255 : Int64)) hx hb hown (hts (.constantLong RX8 89 (255)) (List.mem_of_getElem? (i := 4) rfl)) dX8_write_54 ?_
        refine lv_land hx hb dX8_write_57 ?_
        refine lv_l2i (v := ((((hk_shr x2 ((8 : Int32) * y29)) &&& (255 : Int64))).toInt32)) hx hb dX8_write_58 rfl ?_
        obtain ⟨hi33, k28⟩ := hk_ge k28
        refine va_iast hx hb hK.1 hP hD hS 1 0 rfl rfl (hk_inb_of hi33) dX8_write_59 (fun H locs hP hD hS => ?_)
        have hP : va_P D vwCl [(a_this, .inr (4, [.ref a_this_near, .ref a_this_turned, .ref a_this_figures, .ref a_this_text, .int w30, .ref a_this_sectors, .ref a_this_corners, .int c_this_doubles, .ref a_this_likes, .int c_this_likeMany, .int c_this_pieces, .ref a_this_laid, .ref a_this_isMirrored, .ref a_this_places, .ref a_this_placeMany, .ref a_this_now, .ref a_this_firsts, .ref a_this_forms, .ref a_this_isKept, .ref a_this_keptFigures, .ref a_this_keptPieces, .ref a_this_keptLaid, .ref a_this_keptMirrored])), (a_this_text, .inl (cI, 16, .inl (upd w31 w30.toNatClampNeg ((((hk_shr x2 ((8 : Int32) * y29)) &&& (255 : Int64))).toInt32))))] H := hP
        have hD : va_D A [(a_this, .inr (4, [.ref a_this_near, .ref a_this_turned, .ref a_this_figures, .ref a_this_text, .int w30, .ref a_this_sectors, .ref a_this_corners, .int c_this_doubles, .ref a_this_likes, .int c_this_likeMany, .int c_this_pieces, .ref a_this_laid, .ref a_this_isMirrored, .ref a_this_places, .ref a_this_placeMany, .ref a_this_now, .ref a_this_firsts, .ref a_this_forms, .ref a_this_isKept, .ref a_this_keptFigures, .ref a_this_keptPieces, .ref a_this_keptLaid, .ref a_this_keptMirrored])), (a_this_text, .inl (cI, 16, .inl (upd w31 w30.toNatClampNeg ((((hk_shr x2 ((8 : Int32) * y29)) &&& (255 : Int64))).toInt32))))] := hD
        refine lv_aload_n hx hb dX8_write_60 rfl (lv_at hl 0 rfl) ?_
        refine lv_dup hx hb dX8_write_61 rfl ?_
        refine va_get (D := D) (ci := 4) (v := .int w30) (C := RX8) (T := TX8) (N := 23) hx hb hts zi_X8_write_X8 hown hK.1 hP 0 rfl rfl 4 (by decide) (hts (.fieldLink RX8 85 "HalfAndHalfAgainModel" "length" "I") (List.mem_of_getElem? (i := 2) rfl)) (fun _ h9 => h9) rfl dX8_write_62 ?_
        refine lv_iconst (v := (1 : Int32)) hx hb dX8_write_65 (by decide) ?_
        refine lv_iadd hx hb dX8_write_66 ?_
        obtain ⟨x34, ex34, k28⟩ := hk_le k28
        refine hk_ti ex34 ?_
        refine va_put (D := D) (ci := 4) (v := .int x34) (ty := .int) (C := RX8) (T := TX8) (N := 23) hx hb hts zi_X8_write_X8 tyX8 tyX8_ok nmX8 hown hK.1 hP hD hS 0 rfl rfl 4 (by decide) (hts (.fieldLink RX8 85 "HalfAndHalfAgainModel" "length" "I") (List.mem_of_getElem? (i := 2) rfl)) (fun _ h9 => h9) rfl (by decide +kernel) rfl rfl (Nat.le_of_ble_eq_true rfl) dX8_write_67 (fun H locs hP hD hS => ?_)
        have hP : va_P D vwCl [(a_this, .inr (4, [.ref a_this_near, .ref a_this_turned, .ref a_this_figures, .ref a_this_text, .int x34, .ref a_this_sectors, .ref a_this_corners, .int c_this_doubles, .ref a_this_likes, .int c_this_likeMany, .int c_this_pieces, .ref a_this_laid, .ref a_this_isMirrored, .ref a_this_places, .ref a_this_placeMany, .ref a_this_now, .ref a_this_firsts, .ref a_this_forms, .ref a_this_isKept, .ref a_this_keptFigures, .ref a_this_keptPieces, .ref a_this_keptLaid, .ref a_this_keptMirrored])), (a_this_text, .inl (cI, 16, .inl (upd w31 w30.toNatClampNeg ((((hk_shr x2 ((8 : Int32) * y29)) &&& (255 : Int64))).toInt32))))] H := hP
        have hD : va_D A [(a_this, .inr (4, [.ref a_this_near, .ref a_this_turned, .ref a_this_figures, .ref a_this_text, .int x34, .ref a_this_sectors, .ref a_this_corners, .int c_this_doubles, .ref a_this_likes, .int c_this_likeMany, .int c_this_pieces, .ref a_this_laid, .ref a_this_isMirrored, .ref a_this_places, .ref a_this_placeMany, .ref a_this_now, .ref a_this_firsts, .ref a_this_forms, .ref a_this_isKept, .ref a_this_keptFigures, .ref a_this_keptPieces, .ref a_this_keptLaid, .ref a_this_keptMirrored])), (a_this_text, .inl (cI, 16, .inl (upd w31 w30.toNatClampNeg ((((hk_shr x2 ((8 : Int32) * y29)) &&& (255 : Int64))).toInt32))))] := hD
        obtain ⟨x35, ex35, k28⟩ := hk_le k28
        refine lv_iinc (v := x35) (lv' := [(4, .int x35), (0, .ref a_this), (2, .long x2)]) hx hb dX8_write_70 hl (k := 2) rfl (by rw [ex35]; rfl) (by decide) rfl (fun ls hl => ?_)
        refine lv_goto (tgt := 34) hx hb dX8_write_73 (by decide) ?_
        exact hck28 (x35, x34, (upd w31 w30.toNatClampNeg ((((hk_shr x2 ((8 : Int32) * y29)) &&& (255 : Int64))).toInt32))) (Option.some.inj k28).symm H locs ls hP hD hS (lv_sub hl [1, 2, 0] rfl)
      intro H locs ls hP hD hS hl
      have hl : lv_has ls 5 [(0, .ref a_this)] := hl
      have hP : va_P D vwCl [(a_this, .inr (4, [.ref a_this_near, .ref a_this_turned, .ref a_this_figures, .ref a_this_text, .int v37, .ref a_this_sectors, .ref a_this_corners, .int c_this_doubles, .ref a_this_likes, .int c_this_likeMany, .int c_this_pieces, .ref a_this_laid, .ref a_this_isMirrored, .ref a_this_places, .ref a_this_placeMany, .ref a_this_now, .ref a_this_firsts, .ref a_this_forms, .ref a_this_isKept, .ref a_this_keptFigures, .ref a_this_keptPieces, .ref a_this_keptLaid, .ref a_this_keptMirrored])), (a_this_text, .inl (cI, 16, .inl v38))] H := hP
      have hD : va_D A [(a_this, .inr (4, [.ref a_this_near, .ref a_this_turned, .ref a_this_figures, .ref a_this_text, .int v37, .ref a_this_sectors, .ref a_this_corners, .int c_this_doubles, .ref a_this_likes, .int c_this_likeMany, .int c_this_pieces, .ref a_this_laid, .ref a_this_isMirrored, .ref a_this_places, .ref a_this_placeMany, .ref a_this_now, .ref a_this_firsts, .ref a_this_forms, .ref a_this_isKept, .ref a_this_keptFigures, .ref a_this_keptPieces, .ref a_this_keptLaid, .ref a_this_keptMirrored])), (a_this_text, .inl (cI, 16, .inl v38))] := hD
      show W _ _ _ _ _ _ _ _ _ _ _ _ _ _ _ (F0 m 76 ls [])
      refine lv_aload_n hx hb dX8_write_76 rfl (lv_at hl 0 rfl) ?_
      refine va_get (D := D) (ci := 4) (v := .int v37) (C := RX8) (T := TX8) (N := 23) hx hb hts zi_X8_write_X8 hown hK.1 hP 0 rfl rfl 4 (by decide) (hts (.fieldLink RX8 85 "HalfAndHalfAgainModel" "length" "I") (List.mem_of_getElem? (i := 2) rfl)) (fun _ h9 => h9) rfl dX8_write_77 ?_
      subst hQ
      have h := Option.some.inj h
      simp only [Prod.mk.injEq] at h
      obtain ⟨rfl, rfl, rfl⟩ := h
      exact W.iret hx hb hr (fun t ht hW => ⟨⟨_, (), rfl, rfl, by rw [ht]; exact hP, hD⟩, hS.F ht⟩) hS.2.2 dX8_write_80
    replace h := hk_in c26 h
    refine lv_bipush (v := (-4 : Int32)) hx hb dX8_write_26 (by decide) ?_
    subst hQ
    have h := Option.some.inj h
    simp only [Prod.mk.injEq] at h
    obtain ⟨rfl, rfl, rfl⟩ := h
    exact W.iret hx hb hr (fun t ht hW => ⟨⟨_, (), rfl, rfl, by rw [ht]; exact hP, hD⟩, hS.F ht⟩) hS.2.2 dX8_write_28
  replace h := hk_ip c25 h
  refine lv_bipush (v := (-2 : Int32)) hx hb dX8_write_12 (by decide) ?_
  subst hQ
  have h := Option.some.inj h
  simp only [Prod.mk.injEq] at h
  obtain ⟨rfl, rfl, rfl⟩ := h
  exact W.iret hx hb hr (fun t ht hW => ⟨⟨_, (), rfl, rfl, by rw [ht]; exact hP, hD⟩, hS.F ht⟩) hS.2.2 dX8_write_14
theorem zv_X8_wipe : yX8_wipe.cls = RX8 ∧ yX8_wipe.cls ≠ "java/lang/invoke/MethodHandle" ∧ yX8_wipe.cls ≠ "java/lang/invoke/VarHandle" ∧ (parseMethodDescriptor yX8_wipe.desc).map (fun d => d.parameters.length) = some 0 := by decide +kernel
def f_X8_wipe (c_this_length : Int32)   : Option (Int32 × Int32) := some (c_this_length, (0 : Int32))
theorem zi_X8_wipe_X8 : ∀ w ∈ u_ws RX8 TX8 23, w ∈ wsX8_wipe := by decide +kernel
set_option maxHeartbeats 8000000 in
set_option maxRecDepth 100000 in
theorem c_X8_wipe (l : Launch) (D : va_G) (cI cJ cZ cO : ClassId) (a_this a_this_near a_this_turned a_this_figures a_this_text a_this_sectors a_this_corners a_this_likes a_this_laid a_this_isMirrored a_this_places a_this_placeMany a_this_now a_this_firsts a_this_forms a_this_isKept a_this_keptFigures a_this_keptPieces a_this_keptLaid a_this_keptMirrored : Nat) (sz : Nat) (c_this_length : Int32) (c_this_doubles : Int32) (c_this_likeMany : Int32) (c_this_pieces : Int32) (rv : Int32) (u_this_length : Int32) (hf : f_X8_wipe c_this_length = some (rv, u_this_length)) : Met l yX8_wipe wsX8_wipe ({ frames := 0, cells := 0, slots := 0, locals := 0 }) (va_Pc [.ref a_this] (hkM D cI cJ cZ cO [(a_this, .inr (4, [.ref a_this_near, .ref a_this_turned, .ref a_this_figures, .ref a_this_text, .int c_this_length, .ref a_this_sectors, .ref a_this_corners, .int c_this_doubles, .ref a_this_likes, .int c_this_likeMany, .int c_this_pieces, .ref a_this_laid, .ref a_this_isMirrored, .ref a_this_places, .ref a_this_placeMany, .ref a_this_now, .ref a_this_firsts, .ref a_this_forms, .ref a_this_isKept, .ref a_this_keptFigures, .ref a_this_keptPieces, .ref a_this_keptLaid, .ref a_this_keptMirrored]))] sz)) (va_Qi (fun r (_ : Unit) => r = rv) (fun _ t => va_P D vwCl [(a_this, .inr (4, [.ref a_this_near, .ref a_this_turned, .ref a_this_figures, .ref a_this_text, .int u_this_length, .ref a_this_sectors, .ref a_this_corners, .int c_this_doubles, .ref a_this_likes, .int c_this_likeMany, .int c_this_pieces, .ref a_this_laid, .ref a_this_isMirrored, .ref a_this_places, .ref a_this_placeMany, .ref a_this_now, .ref a_this_firsts, .ref a_this_forms, .ref a_this_isKept, .ref a_this_keptFigures, .ref a_this_keptPieces, .ref a_this_keptLaid, .ref a_this_keptMirrored]))] t.heap ∧ va_D (va_A [(a_this, .inr (4, [.ref a_this_near, .ref a_this_turned, .ref a_this_figures, .ref a_this_text, .int c_this_length, .ref a_this_sectors, .ref a_this_corners, .int c_this_doubles, .ref a_this_likes, .int c_this_likeMany, .int c_this_pieces, .ref a_this_laid, .ref a_this_isMirrored, .ref a_this_places, .ref a_this_placeMany, .ref a_this_now, .ref a_this_firsts, .ref a_this_forms, .ref a_this_isKept, .ref a_this_keptFigures, .ref a_this_keptPieces, .ref a_this_keptLaid, .ref a_this_keptMirrored]))] sz) [(a_this, .inr (4, [.ref a_this_near, .ref a_this_turned, .ref a_this_figures, .ref a_this_text, .int u_this_length, .ref a_this_sectors, .ref a_this_corners, .int c_this_doubles, .ref a_this_likes, .int c_this_likeMany, .int c_this_pieces, .ref a_this_laid, .ref a_this_isMirrored, .ref a_this_places, .ref a_this_placeMany, .ref a_this_now, .ref a_this_firsts, .ref a_this_forms, .ref a_this_isKept, .ref a_this_keptFigures, .ref a_this_keptPieces, .ref a_this_keptLaid, .ref a_this_keptMirrored]))]) (va_A [(a_this, .inr (4, [.ref a_this_near, .ref a_this_turned, .ref a_this_figures, .ref a_this_text, .int c_this_length, .ref a_this_sectors, .ref a_this_corners, .int c_this_doubles, .ref a_this_likes, .int c_this_likeMany, .int c_this_pieces, .ref a_this_laid, .ref a_this_isMirrored, .ref a_this_places, .ref a_this_placeMany, .ref a_this_now, .ref a_this_firsts, .ref a_this_forms, .ref a_this_isKept, .ref a_this_keptFigures, .ref a_this_keptPieces, .ref a_this_keptLaid, .ref a_this_keptMirrored]))] sz)) 0 0 (va_A [(a_this, .inr (4, [.ref a_this_near, .ref a_this_turned, .ref a_this_figures, .ref a_this_text, .int c_this_length, .ref a_this_sectors, .ref a_this_corners, .int c_this_doubles, .ref a_this_likes, .int c_this_likeMany, .int c_this_pieces, .ref a_this_laid, .ref a_this_isMirrored, .ref a_this_places, .ref a_this_placeMany, .ref a_this_now, .ref a_this_firsts, .ref a_this_forms, .ref a_this_isKept, .ref a_this_keptFigures, .ref a_this_keptPieces, .ref a_this_keptLaid, .ref a_this_keptMirrored]))] sz) := by
  refine Met.ofW (cc := cX8_wipe) (maxL := 2) (ret := (some .int)) (by decide) rfl ?_
  intro p e s m args below meth c s₁ B hml hv
  obtain ⟨rfl, hsz, hP, hK, hD0⟩ := hv
  have hx := B.exec
  have hb := B.bytes
  have hr := B.returns
  have hts := atoms_spec (ws := wsX8_wipe) B.pre
  have hown : s.vm.findClass RX8 = some m.cls := findClass_of_methodNamed B.named
  have hlocks := B.notSynchronized
  have hN := hK.2
  subst hsz
  have hD := hD0.self (sz := s.heap.size)
  generalize hAe : va_A [(a_this, .inr (4, [.ref a_this_near, .ref a_this_turned, .ref a_this_figures, .ref a_this_text, .int c_this_length, .ref a_this_sectors, .ref a_this_corners, .int c_this_doubles, .ref a_this_likes, .int c_this_likeMany, .int c_this_pieces, .ref a_this_laid, .ref a_this_isMirrored, .ref a_this_places, .ref a_this_placeMany, .ref a_this_now, .ref a_this_firsts, .ref a_this_forms, .ref a_this_isKept, .ref a_this_keptFigures, .ref a_this_keptPieces, .ref a_this_keptLaid, .ref a_this_keptMirrored]))] s.heap.size = A at hD ⊢
  have hA : ∀ q : Nat, s.heap.size ≤ q → A q := fun q h => by rw [← hAe]; exact Or.inr h
  have hS : va_S A s.heap s.heap [] := va_S.rf
  have hl := lv_entry ([.ref a_this]) (n := 2) (Nat.le_of_ble_eq_true rfl)
  rw [lg_entry_eq]
  generalize (lg_sl ([.ref a_this]) ++ List.replicate (2 - (lg_sl ([.ref a_this])).length) Slot.unset).toArray = ls at hl ⊢
  have hl : lv_has ls 2 [(0, .ref a_this)] := hl
  refine hk_Q (fun Q hQ => ?_)
  have h := hf
  unfold f_X8_wipe at h
  refine lv_aload_n hx hb dX8_wipe_0 rfl (lv_at hl 0 rfl) ?_
  refine va_get (D := D) (ci := 4) (v := .int c_this_length) (C := RX8) (T := TX8) (N := 23) hx hb hts zi_X8_wipe_X8 hown hK.1 hP 0 rfl rfl 4 (by decide) (hts (.fieldLink RX8 85 "HalfAndHalfAgainModel" "length" "I") (List.mem_of_getElem? (i := 1) rfl)) (fun _ h9 => h9) rfl dX8_wipe_1 ?_
  refine lv_istore_n (lv' := [(1, .int c_this_length), (0, .ref a_this)]) hx hb dX8_wipe_4 rfl hl (by decide) rfl (fun ls hl => ?_)
  refine lv_aload_n hx hb dX8_wipe_5 rfl (lv_at hl 1 rfl) ?_
  refine lv_iconst (v := (0 : Int32)) hx hb dX8_wipe_6 (by decide) ?_
  refine va_put (D := D) (ci := 4) (v := .int (0 : Int32)) (ty := .int) (C := RX8) (T := TX8) (N := 23) hx hb hts zi_X8_wipe_X8 tyX8 tyX8_ok nmX8 hown hK.1 hP hD hS 0 rfl rfl 4 (by decide) (hts (.fieldLink RX8 85 "HalfAndHalfAgainModel" "length" "I") (List.mem_of_getElem? (i := 1) rfl)) (fun _ h9 => h9) rfl (by decide +kernel) rfl rfl (Nat.le_of_ble_eq_true rfl) dX8_wipe_7 (fun H locs hP hD hS => ?_)
  have hP : va_P D vwCl [(a_this, .inr (4, [.ref a_this_near, .ref a_this_turned, .ref a_this_figures, .ref a_this_text, .int (0 : Int32), .ref a_this_sectors, .ref a_this_corners, .int c_this_doubles, .ref a_this_likes, .int c_this_likeMany, .int c_this_pieces, .ref a_this_laid, .ref a_this_isMirrored, .ref a_this_places, .ref a_this_placeMany, .ref a_this_now, .ref a_this_firsts, .ref a_this_forms, .ref a_this_isKept, .ref a_this_keptFigures, .ref a_this_keptPieces, .ref a_this_keptLaid, .ref a_this_keptMirrored]))] H := hP
  have hD : va_D A [(a_this, .inr (4, [.ref a_this_near, .ref a_this_turned, .ref a_this_figures, .ref a_this_text, .int (0 : Int32), .ref a_this_sectors, .ref a_this_corners, .int c_this_doubles, .ref a_this_likes, .int c_this_likeMany, .int c_this_pieces, .ref a_this_laid, .ref a_this_isMirrored, .ref a_this_places, .ref a_this_placeMany, .ref a_this_now, .ref a_this_firsts, .ref a_this_forms, .ref a_this_isKept, .ref a_this_keptFigures, .ref a_this_keptPieces, .ref a_this_keptLaid, .ref a_this_keptMirrored]))] := hD
  refine lv_iload_n hx hb dX8_wipe_10 rfl (lv_at hl 0 rfl) ?_
  subst hQ
  have h := Option.some.inj h
  simp only [Prod.mk.injEq] at h
  obtain ⟨rfl, rfl⟩ := h
  exact W.iret hx hb hr (fun t ht hW => ⟨⟨_, (), rfl, rfl, by rw [ht]; exact hP, hD⟩, hS.F ht⟩) hS.2.2 dX8_wipe_11
theorem zs_X8_valueOf : yX8_valueOf.cls ≠ "java/lang/invoke/MethodHandle" ∧ yX8_valueOf.cls ≠ "java/lang/invoke/VarHandle" ∧ (parseMethodDescriptor yX8_valueOf.desc).map (fun d => d.parameters.length) = some 1 := by decide +kernel
def f_X8_valueOf   (x0 : Int32) : Option Int32 := hk_b1 (f_X8_in (x0.toInt64) (48 : Int64) (57 : Int64)) fun r21 => if r21 = 0 then (hk_b1 (f_X8_in (x0.toInt64) (97 : Int64) (102 : Int64)) fun r26 => if r26 = 0 then (some (-9 : Int32)) else (some (x0 - (87 : Int32)))) else (some (x0 - (48 : Int32)))
set_option maxHeartbeats 8000000 in
set_option maxRecDepth 100000 in
theorem c_X8_valueOf (l : Launch) (x0 : Int32) (rv : Int32) (hf : f_X8_valueOf x0 = some rv) : Met l yX8_valueOf wsX8_valueOf ({ frames := 1, cells := 0, slots := 0, locals := 25 }) (va_Pc [.int x0] (fun _ => True)) (vp_Si (fun r => r = rv)) 0 0 (fun _ => False) := by
  refine Met.ofW (cc := cX8_valueOf) (maxL := 1) (ret := (some .int)) (by decide) rfl ?_
  intro p e s m args below meth c s₁ B hml hv
  obtain ⟨rfl, -⟩ := hv
  have hx := B.exec
  have hb := B.bytes
  have hr := B.returns
  have hts := atoms_spec (ws := wsX8_valueOf) B.pre
  have hown : s.vm.findClass RX8 = some m.cls := findClass_of_methodNamed B.named
  have hlocks := B.notSynchronized
  have hl := lv_entry ([.int x0]) (n := 1) (Nat.le_of_ble_eq_true rfl)
  rw [lg_entry_eq]
  generalize (lg_sl ([.int x0]) ++ List.replicate (1 - (lg_sl ([.int x0])).length) Slot.unset).toArray = ls at hl ⊢
  have hl : lv_has ls 1 [(0, .int x0)] := hl
  refine hk_Q (fun Q hQ => ?_)
  have h := hf
  unfold f_X8_valueOf at h
  refine lv_iload_n hx hb dX8_valueOf_0 rfl (lv_at hl 0 rfl) ?_
  refine lv_i2l (v := (x0.toInt64)) hx hb dX8_valueOf_1 rfl ?_
  refine lv_ldc2 (v := (48 : Int64)) hx hb hown (hts (.constantLong RX8 91 (48)) (List.mem_of_getElem? (i := 1) rfl)) dX8_valueOf_2 ?_
  refine lv_ldc2 (v := (57 : Int64)) hx hb hown (hts (.constantLong RX8 93 (57)) (List.mem_of_getElem? (i := 2) rfl)) dX8_valueOf_5 ?_
  obtain ⟨r21, hr22, h⟩ := hk_x1 h
  refine vp_callSi (W.runS (As := [.long (x0.toInt64), .long (48 : Int64), .long (57 : Int64)]) (rest := []) ⟨hx, hb, hml, hown, hts⟩ (c_X8_in l (x0.toInt64) (48 : Int64) (57 : Int64) _ hr22) (va_cwS 3 hts gX8_valueOf_X8_in rfl rfl rfl zs_X8_in ⟨Nat.le_of_ble_eq_true rfl, Nat.le_of_ble_eq_true rfl⟩) ⟨fun _ _ _ _ q => q, fun _ _ _ => ⟨rfl, trivial⟩⟩ rfl rfl hl.1 rfl (lv_room (Nat.le_of_ble_eq_true rfl)) dX8_valueOf_8 ⟨Nat.zero_le _, Nat.zero_le _⟩) (fun p24 e23 => ?_)
  rw [e23]
  refine lv_if_eq (tgt := 21) hx hb dX8_valueOf_11 (by decide) (fun c25 => ?_) (fun c25 => ?_)
  · replace h := hk_ip c25 h
    refine lv_iload_n hx hb dX8_valueOf_21 rfl (lv_at hl 0 rfl) ?_
    refine lv_i2l (v := (x0.toInt64)) hx hb dX8_valueOf_22 rfl ?_
    refine lv_ldc2 (v := (97 : Int64)) hx hb hown (hts (.constantLong RX8 95 (97)) (List.mem_of_getElem? (i := 3) rfl)) dX8_valueOf_23 ?_
    refine lv_ldc2 (v := (102 : Int64)) hx hb hown (hts (.constantLong RX8 97 (102)) (List.mem_of_getElem? (i := 4) rfl)) dX8_valueOf_26 ?_
    obtain ⟨r26, hr27, h⟩ := hk_x1 h
    refine vp_callSi (W.runS (As := [.long (x0.toInt64), .long (97 : Int64), .long (102 : Int64)]) (rest := []) ⟨hx, hb, hml, hown, hts⟩ (c_X8_in l (x0.toInt64) (97 : Int64) (102 : Int64) _ hr27) (va_cwS 3 hts gX8_valueOf_X8_in rfl rfl rfl zs_X8_in ⟨Nat.le_of_ble_eq_true rfl, Nat.le_of_ble_eq_true rfl⟩) ⟨fun _ _ _ _ q => q, fun _ _ _ => ⟨rfl, trivial⟩⟩ rfl rfl hl.1 rfl (lv_room (Nat.le_of_ble_eq_true rfl)) dX8_valueOf_29 ⟨Nat.zero_le _, Nat.zero_le _⟩) (fun p29 e28 => ?_)
    rw [e28]
    refine lv_if_eq (tgt := 42) hx hb dX8_valueOf_32 (by decide) (fun c30 => ?_) (fun c30 => ?_)
    · replace h := hk_ip c30 h
      refine lv_bipush (v := (-9 : Int32)) hx hb dX8_valueOf_42 (by decide) ?_
      subst hQ
      exact W.iret hx hb hr (fun t ht hW => ⟨_, rfl, Option.some.inj h, ht⟩) (fun _ h9 => by cases h9) dX8_valueOf_44
    replace h := hk_in c30 h
    refine lv_iload_n hx hb dX8_valueOf_35 rfl (lv_at hl 0 rfl) ?_
    refine lv_bipush (v := (87 : Int32)) hx hb dX8_valueOf_36 (by decide) ?_
    refine lv_isub hx hb dX8_valueOf_38 ?_
    refine lv_goto (tgt := 44) hx hb dX8_valueOf_39 (by decide) ?_
    subst hQ
    exact W.iret hx hb hr (fun t ht hW => ⟨_, rfl, Option.some.inj h, ht⟩) (fun _ h9 => by cases h9) dX8_valueOf_44
  replace h := hk_in c25 h
  refine lv_iload_n hx hb dX8_valueOf_14 rfl (lv_at hl 0 rfl) ?_
  refine lv_bipush (v := (48 : Int32)) hx hb dX8_valueOf_15 (by decide) ?_
  refine lv_isub hx hb dX8_valueOf_17 ?_
  refine lv_goto (tgt := 44) hx hb dX8_valueOf_18 (by decide) ?_
  subst hQ
  exact W.iret hx hb hr (fun t ht hW => ⟨_, rfl, Option.some.inj h, ht⟩) (fun _ h9 => by cases h9) dX8_valueOf_44
theorem zv_X8_faultOf : yX8_faultOf.cls = RX8 ∧ yX8_faultOf.cls ≠ "java/lang/invoke/MethodHandle" ∧ yX8_faultOf.cls ≠ "java/lang/invoke/VarHandle" ∧ (parseMethodDescriptor yX8_faultOf.desc).map (fun d => d.parameters.length) = some 0 := by decide +kernel
def st_X8_faultOf_2c (c_this_length : Int32) (c_this_text : Nat → Int32) (y22 : Int32) : Option (Int32 ⊕ Int32) := if c_this_length ≤ y22 then (some (.inr y22)) else (hk_gd (hk_inb y22 16) (hk_b1 (f_X8_valueOf (c_this_text y22.toNatClampNeg)) fun r25 => if r25 = (-9 : Int32) then (some (.inr y22)) else (hk_let (y22 + (1 : Int32)) fun x30 => some (.inl x30))))
def st_X8_faultOf_2 (c_this_length : Int32) (c_this_text : Nat → Int32) (t9 : Int32) : Option (Int32 ⊕ Int32) := st_X8_faultOf_2c c_this_length c_this_text t9
def f_X8_faultOf (c_this_length : Int32) (c_this_text : Nat → Int32)   : Option Int32 := hk_b1 (hk_wl (st_X8_faultOf_2 c_this_length c_this_text) hkF (0 : Int32)) fun z32 => if z32 = (16 : Int32) then (some (-9 : Int32)) else (some z32)
theorem zi_X8_faultOf_X8 : ∀ w ∈ u_ws RX8 TX8 23, w ∈ wsX8_faultOf := by decide +kernel
set_option maxHeartbeats 8000000 in
set_option maxRecDepth 100000 in
theorem c_X8_faultOf (l : Launch) (D : va_G) (cI cJ cZ cO : ClassId) (a_this a_this_near a_this_turned a_this_figures a_this_text a_this_sectors a_this_corners a_this_likes a_this_laid a_this_isMirrored a_this_places a_this_placeMany a_this_now a_this_firsts a_this_forms a_this_isKept a_this_keptFigures a_this_keptPieces a_this_keptLaid a_this_keptMirrored : Nat) (c_this_length : Int32) (c_this_doubles : Int32) (c_this_likeMany : Int32) (c_this_pieces : Int32) (c_this_text : Nat → Int32) (rv : Int32) (hf : f_X8_faultOf c_this_length c_this_text = some rv) : Met l yX8_faultOf wsX8_faultOf ({ frames := 2, cells := 0, slots := 0, locals := 45 }) (va_Pc [.ref a_this] (hkR D cI cJ cZ cO [(a_this, .inr (4, [.ref a_this_near, .ref a_this_turned, .ref a_this_figures, .ref a_this_text, .int c_this_length, .ref a_this_sectors, .ref a_this_corners, .int c_this_doubles, .ref a_this_likes, .int c_this_likeMany, .int c_this_pieces, .ref a_this_laid, .ref a_this_isMirrored, .ref a_this_places, .ref a_this_placeMany, .ref a_this_now, .ref a_this_firsts, .ref a_this_forms, .ref a_this_isKept, .ref a_this_keptFigures, .ref a_this_keptPieces, .ref a_this_keptLaid, .ref a_this_keptMirrored])), (a_this_text, .inl (cI, 16, .inl c_this_text))])) (vp_Si (fun r => r = rv)) 0 0 (fun _ => False) := by
  refine Met.ofW (cc := cX8_faultOf) (maxL := 2) (ret := (some .int)) (by decide) rfl ?_
  intro p e s m args below meth c s₁ B hml hv
  obtain ⟨rfl, hP, hK⟩ := hv
  have hx := B.exec
  have hb := B.bytes
  have hr := B.returns
  have hts := atoms_spec (ws := wsX8_faultOf) B.pre
  have hown : s.vm.findClass RX8 = some m.cls := findClass_of_methodNamed B.named
  have hlocks := B.notSynchronized
  have hN := hK.2
  have hl := lv_entry ([.ref a_this]) (n := 2) (Nat.le_of_ble_eq_true rfl)
  rw [lg_entry_eq]
  generalize (lg_sl ([.ref a_this]) ++ List.replicate (2 - (lg_sl ([.ref a_this])).length) Slot.unset).toArray = ls at hl ⊢
  have hl : lv_has ls 2 [(0, .ref a_this)] := hl
  refine hk_Q (fun Q hQ => ?_)
  have h := hf
  unfold f_X8_faultOf at h
  refine lv_iconst (v := (0 : Int32)) hx hb dX8_faultOf_0 (by decide) ?_
  refine lv_istore_n (lv' := [(1, .int (0 : Int32)), (0, .ref a_this)]) hx hb dX8_faultOf_1 rfl hl (by decide) rfl (fun ls hl => ?_)
  obtain ⟨z32, hr31, h⟩ := hk_x1 h
  refine hk_loopR (f := st_X8_faultOf_2 c_this_length c_this_text) (hd := 2) (nL := 2) (lv := fun t9 => [(0, .ref a_this), (1, .int t9)]) (xs := fun t9 => (30, [(1, .int t9)], [])) ?_ hr31 ?_ (lv_sub hl [1, 0] rfl)
  · intro y22 q34 k21 hck21 hqk21 ls hl
    have k21 : st_X8_faultOf_2c c_this_length c_this_text y22 = some q34 := k21
    unfold st_X8_faultOf_2c at k21
    have hl : lv_has ls 2 [(0, .ref a_this), (1, .int y22)] := hl
    refine lv_iload_n hx hb dX8_faultOf_2 rfl (lv_at hl 1 rfl) ?_
    refine lv_aload_n hx hb dX8_faultOf_3 rfl (lv_at hl 0 rfl) ?_
    refine va_get (D := D) (ci := 4) (v := .int c_this_length) (C := RX8) (T := TX8) (N := 23) hx hb hts zi_X8_faultOf_X8 hown hK.1 hP 0 rfl rfl 4 (by decide) (hts (.fieldLink RX8 85 "HalfAndHalfAgainModel" "length" "I") (List.mem_of_getElem? (i := 1) rfl)) (fun _ h9 => h9) rfl dX8_faultOf_4 ?_
    refine lv_icmp_ge (tgt := 30) hx hb dX8_faultOf_7 (by decide) (fun c23 => ?_) (fun c23 => ?_)
    · replace k21 := hk_ip c23 k21
      exact hqk21 y22 (Option.some.inj k21).symm ls (lv_sub hl [1] rfl)
    replace k21 := hk_in c23 k21
    refine lv_aload_n hx hb dX8_faultOf_10 rfl (lv_at hl 0 rfl) ?_
    refine va_get (D := D) (ci := 4) (v := .ref a_this_text) (C := RX8) (T := TX8) (N := 23) hx hb hts zi_X8_faultOf_X8 hown hK.1 hP 0 rfl rfl 3 (by decide) (hts (.fieldLink RX8 20 "HalfAndHalfAgainModel" "text" "[I") (List.mem_of_getElem? (i := 2) rfl)) (fun _ h9 => h9) rfl dX8_faultOf_11 ?_
    refine lv_iload_n hx hb dX8_faultOf_14 rfl (lv_at hl 1 rfl) ?_
    obtain ⟨hi24, k21⟩ := hk_ge k21
    refine va_iald hx hb hK.1 hP 1 0 rfl rfl (hk_inb_of hi24) dX8_faultOf_15 ?_
    obtain ⟨r25, hr26, k21⟩ := hk_x1 k21
    refine vp_callSi (W.runS (As := [.int (c_this_text y22.toNatClampNeg)]) (rest := []) ⟨hx, hb, hml, hown, hts⟩ (c_X8_valueOf l (c_this_text y22.toNatClampNeg) _ hr26) (va_cwS 1 hts gX8_faultOf_X8_valueOf rfl rfl rfl zs_X8_valueOf ⟨Nat.le_of_ble_eq_true rfl, Nat.le_of_ble_eq_true rfl⟩) ⟨fun _ _ _ _ q => q, fun _ _ _ => ⟨rfl, trivial⟩⟩ rfl rfl hl.1 rfl (lv_room (Nat.le_of_ble_eq_true rfl)) dX8_faultOf_16 ⟨Nat.zero_le _, Nat.zero_le _⟩) (fun p28 e27 => ?_)
    rw [e27]
    refine lv_bipush (v := (-9 : Int32)) hx hb dX8_faultOf_19 (by decide) ?_
    refine lv_icmp_eq (tgt := 30) hx hb dX8_faultOf_21 (by decide) (fun c29 => ?_) (fun c29 => ?_)
    · replace k21 := hk_ip c29 k21
      exact hqk21 y22 (Option.some.inj k21).symm ls (lv_sub hl [1] rfl)
    replace k21 := hk_in c29 k21
    obtain ⟨x30, ex30, k21⟩ := hk_le k21
    refine lv_iinc (v := x30) (lv' := [(1, .int x30), (0, .ref a_this)]) hx hb dX8_faultOf_24 hl (k := 1) rfl (by rw [ex30]; rfl) (by decide) rfl (fun ls hl => ?_)
    refine lv_goto (tgt := 2) hx hb dX8_faultOf_27 (by decide) ?_
    exact hck21 x30 (Option.some.inj k21).symm ls (lv_sub hl [1, 0] rfl)
  intro ls hl
  have hl : lv_has ls 2 [(1, .int z32)] := hl
  show W _ _ _ _ _ _ _ _ _ _ _ _ _ _ _ (F0 m 30 ls [])
  refine lv_iload_n hx hb dX8_faultOf_30 rfl (lv_at hl 0 rfl) ?_
  refine lv_bipush (v := (16 : Int32)) hx hb dX8_faultOf_31 (by decide) ?_
  refine lv_icmp_ne (tgt := 41) hx hb dX8_faultOf_33 (by decide) (fun c35 => ?_) (fun c35 => ?_)
  · replace h := hk_in c35 h
    refine lv_iload_n hx hb dX8_faultOf_41 rfl (lv_at hl 0 rfl) ?_
    subst hQ
    exact W.iret hx hb hr (fun t ht hW => ⟨_, rfl, Option.some.inj h, ht⟩) (fun _ h9 => by cases h9) dX8_faultOf_42
  replace h := hk_ip c35 h
  refine lv_bipush (v := (-9 : Int32)) hx hb dX8_faultOf_36 (by decide) ?_
  refine lv_goto (tgt := 42) hx hb dX8_faultOf_38 (by decide) ?_
  subst hQ
  exact W.iret hx hb hr (fun t ht hW => ⟨_, rfl, Option.some.inj h, ht⟩) (fun _ h9 => by cases h9) dX8_faultOf_42
theorem zv_X8_fault : yX8_fault.cls = RX8 ∧ yX8_fault.cls ≠ "java/lang/invoke/MethodHandle" ∧ yX8_fault.cls ≠ "java/lang/invoke/VarHandle" ∧ (parseMethodDescriptor yX8_fault.desc).map (fun d => d.parameters.length) = some 0 := by decide +kernel
def f_X8_fault (c_this_length : Int32) (c_this_text : Nat → Int32)   : Option Int32 := hk_b1 (f_X8_faultOf c_this_length c_this_text) fun r21 => some r21
set_option maxHeartbeats 8000000 in
set_option maxRecDepth 100000 in
theorem c_X8_fault (l : Launch) (D : va_G) (cI cJ cZ cO : ClassId) (a_this a_this_near a_this_turned a_this_figures a_this_text a_this_sectors a_this_corners a_this_likes a_this_laid a_this_isMirrored a_this_places a_this_placeMany a_this_now a_this_firsts a_this_forms a_this_isKept a_this_keptFigures a_this_keptPieces a_this_keptLaid a_this_keptMirrored : Nat) (c_this_length : Int32) (c_this_doubles : Int32) (c_this_likeMany : Int32) (c_this_pieces : Int32) (c_this_text : Nat → Int32) (rv : Int32) (hf : f_X8_fault c_this_length c_this_text = some rv) : Met l yX8_fault wsX8_fault ({ frames := 3, cells := 0, slots := 0, locals := 66 }) (va_Pc [.ref a_this] (hkR D cI cJ cZ cO [(a_this, .inr (4, [.ref a_this_near, .ref a_this_turned, .ref a_this_figures, .ref a_this_text, .int c_this_length, .ref a_this_sectors, .ref a_this_corners, .int c_this_doubles, .ref a_this_likes, .int c_this_likeMany, .int c_this_pieces, .ref a_this_laid, .ref a_this_isMirrored, .ref a_this_places, .ref a_this_placeMany, .ref a_this_now, .ref a_this_firsts, .ref a_this_forms, .ref a_this_isKept, .ref a_this_keptFigures, .ref a_this_keptPieces, .ref a_this_keptLaid, .ref a_this_keptMirrored])), (a_this_text, .inl (cI, 16, .inl c_this_text))])) (vp_Si (fun r => r = rv)) 0 0 (fun _ => False) := by
  refine Met.ofW (cc := cX8_fault) (maxL := 1) (ret := (some .int)) (by decide) rfl ?_
  intro p e s m args below meth c s₁ B hml hv
  obtain ⟨rfl, hP, hK⟩ := hv
  have hx := B.exec
  have hb := B.bytes
  have hr := B.returns
  have hts := atoms_spec (ws := wsX8_fault) B.pre
  have hown : s.vm.findClass RX8 = some m.cls := findClass_of_methodNamed B.named
  have hlocks := B.notSynchronized
  have hN := hK.2
  have hl := lv_entry ([.ref a_this]) (n := 1) (Nat.le_of_ble_eq_true rfl)
  rw [lg_entry_eq]
  generalize (lg_sl ([.ref a_this]) ++ List.replicate (1 - (lg_sl ([.ref a_this])).length) Slot.unset).toArray = ls at hl ⊢
  have hl : lv_has ls 1 [(0, .ref a_this)] := hl
  refine hk_Q (fun Q hQ => ?_)
  have h := hf
  unfold f_X8_fault at h
  refine lv_aload_n hx hb dX8_fault_0 rfl (lv_at hl 0 rfl) ?_
  obtain ⟨r21, hr22, h⟩ := hk_x1 h
  refine vp_callSi (W.runV (As := []) (rest := []) ⟨hx, hb, hml, hown, hts⟩ (c_X8_faultOf l D cI cJ cZ cO a_this a_this_near a_this_turned a_this_figures a_this_text a_this_sectors a_this_corners a_this_likes a_this_laid a_this_isMirrored a_this_places a_this_placeMany a_this_now a_this_firsts a_this_forms a_this_isKept a_this_keptFigures a_this_keptPieces a_this_keptLaid a_this_keptMirrored c_this_length c_this_doubles c_this_likeMany c_this_pieces c_this_text _ hr22) (cwV 0 hts gX8_fault_X8_faultOf rfl rfl rfl zv_X8_faultOf ⟨Nat.le_of_ble_eq_true rfl, Nat.le_of_ble_eq_true rfl⟩) (hk_preRV 4 rfl (hP.sub (ws' := [(a_this, .inr (4, [.ref a_this_near, .ref a_this_turned, .ref a_this_figures, .ref a_this_text, .int c_this_length, .ref a_this_sectors, .ref a_this_corners, .int c_this_doubles, .ref a_this_likes, .int c_this_likeMany, .int c_this_pieces, .ref a_this_laid, .ref a_this_isMirrored, .ref a_this_places, .ref a_this_placeMany, .ref a_this_now, .ref a_this_firsts, .ref a_this_forms, .ref a_this_isKept, .ref a_this_keptFigures, .ref a_this_keptPieces, .ref a_this_keptLaid, .ref a_this_keptMirrored])), (a_this_text, .inl (cI, 16, .inl c_this_text))]) [0, 1] rfl) hK rfl) rfl rfl hl.1 rfl (lv_room (Nat.le_of_ble_eq_true rfl)) dX8_fault_1 ⟨Nat.zero_le _, Nat.zero_le _⟩) (fun p24 e23 => ?_)
  rw [e23]
  subst hQ
  exact W.iret hx hb hr (fun t ht hW => ⟨_, rfl, Option.some.inj h, ht⟩) (fun _ h9 => by cases h9) dX8_fault_4
theorem zv_X8_word : yX8_word.cls = RX8 ∧ yX8_word.cls ≠ "java/lang/invoke/MethodHandle" ∧ yX8_word.cls ≠ "java/lang/invoke/VarHandle" ∧ (parseMethodDescriptor yX8_word.desc).map (fun d => d.parameters.length) = some 1 := by decide +kernel
def st_X8_word_30c (c_this_text : Nat → Int32) (x1 : Int32) (y33 : Int32) (w34 : Nat → Int64) : Option ((Int32 × (Nat → Int64)) ⊕ (Nat → Int64)) := if (16 : Int32) ≤ y33 then (some (.inr w34)) else (hk_gd (hk_inb x1 8) (hk_gd (hk_inb y33 16) (hk_b1 (f_X8_valueOf (c_this_text y33.toNatClampNeg)) fun r38 => hk_gd (hk_inb x1 8) (hk_let (y33 + (1 : Int32)) fun x43 => some (.inl (x43, (vp_updL w34 x1.toNatClampNeg ((w34 x1.toNatClampNeg) ||| (hk_shl (r38.toInt64) ((4 : Int32) * y33))))))))))
def st_X8_word_30 (c_this_text : Nat → Int32) (x1 : Int32) (t9 : (Int32 × (Nat → Int64))) : Option ((Int32 × (Nat → Int64)) ⊕ (Nat → Int64)) := st_X8_word_30c c_this_text x1 t9.1 t9.2
def f_X8_word (c_this_length : Int32) (c_this_text : Nat → Int32) (c_this_figures : Nat → Int64)  (x1 : Int32) : Option (Int32 × (Nat → Int64)) := hk_b1 (f_X8_isFigure x1) fun r21 => if r21 = 0 then (some ((-1 : Int32), c_this_figures)) else (hk_b1 (f_X8_faultOf c_this_length c_this_text) fun r26 => if r26 = (-9 : Int32) then (hk_gd (hk_inb x1 8) (hk_b1 (hk_wl (st_X8_word_30 c_this_text x1) hkF ((0 : Int32), (vp_updL c_this_figures x1.toNatClampNeg (0 : Int64)))) fun v45 => hk_gd (hk_inb x1 8) (hk_b1 (f_X8_ones (v45 x1.toNatClampNeg)) fun r49 => some (r49, v45)))) else (some ((-3 : Int32), c_this_figures)))
theorem zi_X8_word_X8 : ∀ w ∈ u_ws RX8 TX8 23, w ∈ wsX8_word := by decide +kernel
set_option maxHeartbeats 8000000 in
set_option maxRecDepth 100000 in
theorem c_X8_word (l : Launch) (D : va_G) (cI cJ cZ cO : ClassId) (a_this a_this_near a_this_turned a_this_figures a_this_text a_this_sectors a_this_corners a_this_likes a_this_laid a_this_isMirrored a_this_places a_this_placeMany a_this_now a_this_firsts a_this_forms a_this_isKept a_this_keptFigures a_this_keptPieces a_this_keptLaid a_this_keptMirrored : Nat) (sz : Nat) (c_this_length : Int32) (c_this_doubles : Int32) (c_this_likeMany : Int32) (c_this_pieces : Int32) (c_this_text : Nat → Int32) (c_this_figures : Nat → Int64) (x1 : Int32) (rv : Int32) (u_this_figures : Nat → Int64) (hf : f_X8_word c_this_length c_this_text c_this_figures x1 = some (rv, u_this_figures)) : Met l yX8_word wsX8_word ({ frames := 3, cells := 0, slots := 0, locals := 66 }) (va_Pc [.ref a_this, .int x1] (hkM D cI cJ cZ cO [(a_this, .inr (4, [.ref a_this_near, .ref a_this_turned, .ref a_this_figures, .ref a_this_text, .int c_this_length, .ref a_this_sectors, .ref a_this_corners, .int c_this_doubles, .ref a_this_likes, .int c_this_likeMany, .int c_this_pieces, .ref a_this_laid, .ref a_this_isMirrored, .ref a_this_places, .ref a_this_placeMany, .ref a_this_now, .ref a_this_firsts, .ref a_this_forms, .ref a_this_isKept, .ref a_this_keptFigures, .ref a_this_keptPieces, .ref a_this_keptLaid, .ref a_this_keptMirrored])), (a_this_text, .inl (cI, 16, .inl c_this_text)), (a_this_figures, .inl (cJ, 8, .inr (.inl c_this_figures)))] sz)) (va_Qi (fun r (_ : Unit) => r = rv) (fun _ t => va_P D vwCl [(a_this, .inr (4, [.ref a_this_near, .ref a_this_turned, .ref a_this_figures, .ref a_this_text, .int c_this_length, .ref a_this_sectors, .ref a_this_corners, .int c_this_doubles, .ref a_this_likes, .int c_this_likeMany, .int c_this_pieces, .ref a_this_laid, .ref a_this_isMirrored, .ref a_this_places, .ref a_this_placeMany, .ref a_this_now, .ref a_this_firsts, .ref a_this_forms, .ref a_this_isKept, .ref a_this_keptFigures, .ref a_this_keptPieces, .ref a_this_keptLaid, .ref a_this_keptMirrored])), (a_this_text, .inl (cI, 16, .inl c_this_text)), (a_this_figures, .inl (cJ, 8, .inr (.inl u_this_figures)))] t.heap ∧ va_D (va_A [(a_this, .inr (4, [.ref a_this_near, .ref a_this_turned, .ref a_this_figures, .ref a_this_text, .int c_this_length, .ref a_this_sectors, .ref a_this_corners, .int c_this_doubles, .ref a_this_likes, .int c_this_likeMany, .int c_this_pieces, .ref a_this_laid, .ref a_this_isMirrored, .ref a_this_places, .ref a_this_placeMany, .ref a_this_now, .ref a_this_firsts, .ref a_this_forms, .ref a_this_isKept, .ref a_this_keptFigures, .ref a_this_keptPieces, .ref a_this_keptLaid, .ref a_this_keptMirrored])), (a_this_text, .inl (cI, 16, .inl c_this_text)), (a_this_figures, .inl (cJ, 8, .inr (.inl c_this_figures)))] sz) [(a_this, .inr (4, [.ref a_this_near, .ref a_this_turned, .ref a_this_figures, .ref a_this_text, .int c_this_length, .ref a_this_sectors, .ref a_this_corners, .int c_this_doubles, .ref a_this_likes, .int c_this_likeMany, .int c_this_pieces, .ref a_this_laid, .ref a_this_isMirrored, .ref a_this_places, .ref a_this_placeMany, .ref a_this_now, .ref a_this_firsts, .ref a_this_forms, .ref a_this_isKept, .ref a_this_keptFigures, .ref a_this_keptPieces, .ref a_this_keptLaid, .ref a_this_keptMirrored])), (a_this_text, .inl (cI, 16, .inl c_this_text)), (a_this_figures, .inl (cJ, 8, .inr (.inl u_this_figures)))]) (va_A [(a_this, .inr (4, [.ref a_this_near, .ref a_this_turned, .ref a_this_figures, .ref a_this_text, .int c_this_length, .ref a_this_sectors, .ref a_this_corners, .int c_this_doubles, .ref a_this_likes, .int c_this_likeMany, .int c_this_pieces, .ref a_this_laid, .ref a_this_isMirrored, .ref a_this_places, .ref a_this_placeMany, .ref a_this_now, .ref a_this_firsts, .ref a_this_forms, .ref a_this_isKept, .ref a_this_keptFigures, .ref a_this_keptPieces, .ref a_this_keptLaid, .ref a_this_keptMirrored])), (a_this_text, .inl (cI, 16, .inl c_this_text)), (a_this_figures, .inl (cJ, 8, .inr (.inl c_this_figures)))] sz)) 0 0 (va_A [(a_this, .inr (4, [.ref a_this_near, .ref a_this_turned, .ref a_this_figures, .ref a_this_text, .int c_this_length, .ref a_this_sectors, .ref a_this_corners, .int c_this_doubles, .ref a_this_likes, .int c_this_likeMany, .int c_this_pieces, .ref a_this_laid, .ref a_this_isMirrored, .ref a_this_places, .ref a_this_placeMany, .ref a_this_now, .ref a_this_firsts, .ref a_this_forms, .ref a_this_isKept, .ref a_this_keptFigures, .ref a_this_keptPieces, .ref a_this_keptLaid, .ref a_this_keptMirrored])), (a_this_text, .inl (cI, 16, .inl c_this_text)), (a_this_figures, .inl (cJ, 8, .inr (.inl c_this_figures)))] sz) := by
  refine Met.ofW (cc := cX8_word) (maxL := 3) (ret := (some .int)) (by decide) rfl ?_
  intro p e s m args below meth c s₁ B hml hv
  obtain ⟨rfl, hsz, hP, hK, hD0⟩ := hv
  have hx := B.exec
  have hb := B.bytes
  have hr := B.returns
  have hts := atoms_spec (ws := wsX8_word) B.pre
  have hown : s.vm.findClass RX8 = some m.cls := findClass_of_methodNamed B.named
  have hlocks := B.notSynchronized
  have hN := hK.2
  subst hsz
  have hD := hD0.self (sz := s.heap.size)
  generalize hAe : va_A [(a_this, .inr (4, [.ref a_this_near, .ref a_this_turned, .ref a_this_figures, .ref a_this_text, .int c_this_length, .ref a_this_sectors, .ref a_this_corners, .int c_this_doubles, .ref a_this_likes, .int c_this_likeMany, .int c_this_pieces, .ref a_this_laid, .ref a_this_isMirrored, .ref a_this_places, .ref a_this_placeMany, .ref a_this_now, .ref a_this_firsts, .ref a_this_forms, .ref a_this_isKept, .ref a_this_keptFigures, .ref a_this_keptPieces, .ref a_this_keptLaid, .ref a_this_keptMirrored])), (a_this_text, .inl (cI, 16, .inl c_this_text)), (a_this_figures, .inl (cJ, 8, .inr (.inl c_this_figures)))] s.heap.size = A at hD ⊢
  have hA : ∀ q : Nat, s.heap.size ≤ q → A q := fun q h => by rw [← hAe]; exact Or.inr h
  have hS : va_S A s.heap s.heap [] := va_S.rf
  have hl := lv_entry ([.ref a_this, .int x1]) (n := 3) (Nat.le_of_ble_eq_true rfl)
  rw [lg_entry_eq]
  generalize (lg_sl ([.ref a_this, .int x1]) ++ List.replicate (3 - (lg_sl ([.ref a_this, .int x1])).length) Slot.unset).toArray = ls at hl ⊢
  have hl : lv_has ls 3 [(0, .ref a_this), (1, .int x1)] := hl
  refine hk_Q (fun Q hQ => ?_)
  have h := hf
  unfold f_X8_word at h
  refine lv_iload_n hx hb dX8_word_0 rfl (lv_at hl 1 rfl) ?_
  obtain ⟨r21, hr22, h⟩ := hk_x1 h
  refine vp_callSi (W.runS (As := [.int x1]) (rest := []) ⟨hx, hb, hml, hown, hts⟩ (c_X8_isFigure l x1 _ hr22) (va_cwS 1 hts gX8_word_X8_isFigure rfl rfl rfl zs_X8_isFigure ⟨Nat.le_of_ble_eq_true rfl, Nat.le_of_ble_eq_true rfl⟩) ⟨fun _ _ _ _ q => q, fun _ _ _ => ⟨rfl, trivial⟩⟩ rfl rfl hl.1 rfl (lv_room (Nat.le_of_ble_eq_true rfl)) dX8_word_1 ⟨Nat.zero_le _, Nat.zero_le _⟩) (fun p24 e23 => ?_)
  rw [e23]
  refine lv_if_ne (tgt := 9) hx hb dX8_word_4 (by decide) (fun c25 => ?_) (fun c25 => ?_)
  · replace h := hk_in c25 h
    refine lv_aload_n hx hb dX8_word_9 rfl (lv_at hl 0 rfl) ?_
    obtain ⟨r26, hr27, h⟩ := hk_x1 h
    refine vp_callSi (W.runV (As := []) (rest := []) ⟨hx, hb, hml, hown, hts⟩ (c_X8_faultOf l D cI cJ cZ cO a_this a_this_near a_this_turned a_this_figures a_this_text a_this_sectors a_this_corners a_this_likes a_this_laid a_this_isMirrored a_this_places a_this_placeMany a_this_now a_this_firsts a_this_forms a_this_isKept a_this_keptFigures a_this_keptPieces a_this_keptLaid a_this_keptMirrored c_this_length c_this_doubles c_this_likeMany c_this_pieces c_this_text _ hr27) (cwV 0 hts gX8_word_X8_faultOf rfl rfl rfl zv_X8_faultOf ⟨Nat.le_of_ble_eq_true rfl, Nat.le_of_ble_eq_true rfl⟩) (hk_preRV 4 rfl (hP.sub (ws' := [(a_this, .inr (4, [.ref a_this_near, .ref a_this_turned, .ref a_this_figures, .ref a_this_text, .int c_this_length, .ref a_this_sectors, .ref a_this_corners, .int c_this_doubles, .ref a_this_likes, .int c_this_likeMany, .int c_this_pieces, .ref a_this_laid, .ref a_this_isMirrored, .ref a_this_places, .ref a_this_placeMany, .ref a_this_now, .ref a_this_firsts, .ref a_this_forms, .ref a_this_isKept, .ref a_this_keptFigures, .ref a_this_keptPieces, .ref a_this_keptLaid, .ref a_this_keptMirrored])), (a_this_text, .inl (cI, 16, .inl c_this_text))]) [0, 1] rfl) hK rfl) rfl rfl hl.1 rfl (lv_room (Nat.le_of_ble_eq_true rfl)) dX8_word_10 ⟨Nat.zero_le _, Nat.zero_le _⟩) (fun p29 e28 => ?_)
    rw [e28]
    refine lv_bipush (v := (-9 : Int32)) hx hb dX8_word_13 (by decide) ?_
    refine lv_icmp_eq (tgt := 21) hx hb dX8_word_15 (by decide) (fun c30 => ?_) (fun c30 => ?_)
    · replace h := hk_ip c30 h
      refine lv_aload_n hx hb dX8_word_21 rfl (lv_at hl 0 rfl) ?_
      refine va_get (D := D) (ci := 4) (v := .ref a_this_figures) (C := RX8) (T := TX8) (N := 23) hx hb hts zi_X8_word_X8 hown hK.1 hP 0 rfl rfl 2 (by decide) (hts (.fieldLink RX8 17 "HalfAndHalfAgainModel" "figures" "[J") (List.mem_of_getElem? (i := 1) rfl)) (fun _ h9 => h9) rfl dX8_word_22 ?_
      refine lv_iload_n hx hb dX8_word_25 rfl (lv_at hl 1 rfl) ?_
      refine lv_lconst (v := (0 : Int64)) hx hb dX8_word_26 (by decide) ?_
      obtain ⟨hi31, h⟩ := hk_ge h
      refine va_last hx hb hK.1 hP hD hS 2 1 rfl rfl (hk_inb_of hi31) dX8_word_27 (fun H locs hP hD hS => ?_)
      have hP : va_P D vwCl [(a_this, .inr (4, [.ref a_this_near, .ref a_this_turned, .ref a_this_figures, .ref a_this_text, .int c_this_length, .ref a_this_sectors, .ref a_this_corners, .int c_this_doubles, .ref a_this_likes, .int c_this_likeMany, .int c_this_pieces, .ref a_this_laid, .ref a_this_isMirrored, .ref a_this_places, .ref a_this_placeMany, .ref a_this_now, .ref a_this_firsts, .ref a_this_forms, .ref a_this_isKept, .ref a_this_keptFigures, .ref a_this_keptPieces, .ref a_this_keptLaid, .ref a_this_keptMirrored])), (a_this_text, .inl (cI, 16, .inl c_this_text)), (a_this_figures, .inl (cJ, 8, .inr (.inl (vp_updL c_this_figures x1.toNatClampNeg (0 : Int64)))))] H := hP
      have hD : va_D A [(a_this, .inr (4, [.ref a_this_near, .ref a_this_turned, .ref a_this_figures, .ref a_this_text, .int c_this_length, .ref a_this_sectors, .ref a_this_corners, .int c_this_doubles, .ref a_this_likes, .int c_this_likeMany, .int c_this_pieces, .ref a_this_laid, .ref a_this_isMirrored, .ref a_this_places, .ref a_this_placeMany, .ref a_this_now, .ref a_this_firsts, .ref a_this_forms, .ref a_this_isKept, .ref a_this_keptFigures, .ref a_this_keptPieces, .ref a_this_keptLaid, .ref a_this_keptMirrored])), (a_this_text, .inl (cI, 16, .inl c_this_text)), (a_this_figures, .inl (cJ, 8, .inr (.inl (vp_updL c_this_figures x1.toNatClampNeg (0 : Int64)))))] := hD
      refine lv_iconst (v := (0 : Int32)) hx hb dX8_word_28 (by decide) ?_
      refine lv_istore_n (lv' := [(2, .int (0 : Int32)), (0, .ref a_this), (1, .int x1)]) hx hb dX8_word_29 rfl hl (by decide) rfl (fun ls hl => ?_)
      obtain ⟨v45, hr44, h⟩ := hk_x1 h
      refine hk_loopM (f := st_X8_word_30 c_this_text x1) (hd := 30) (nL := 3) (lv := fun t9 => [(0, .ref a_this), (1, .int x1), (2, .int t9.1)]) (wf := fun t9 => [(a_this, .inr (4, [.ref a_this_near, .ref a_this_turned, .ref a_this_figures, .ref a_this_text, .int c_this_length, .ref a_this_sectors, .ref a_this_corners, .int c_this_doubles, .ref a_this_likes, .int c_this_likeMany, .int c_this_pieces, .ref a_this_laid, .ref a_this_isMirrored, .ref a_this_places, .ref a_this_placeMany, .ref a_this_now, .ref a_this_firsts, .ref a_this_forms, .ref a_this_isKept, .ref a_this_keptFigures, .ref a_this_keptPieces, .ref a_this_keptLaid, .ref a_this_keptMirrored])), (a_this_text, .inl (cI, 16, .inl c_this_text)), (a_this_figures, .inl (cJ, 8, .inr (.inl t9.2)))]) (xs := fun t9 => (65, [(0, .ref a_this), (1, .int x1)], [], [(a_this, .inr (4, [.ref a_this_near, .ref a_this_turned, .ref a_this_figures, .ref a_this_text, .int c_this_length, .ref a_this_sectors, .ref a_this_corners, .int c_this_doubles, .ref a_this_likes, .int c_this_likeMany, .int c_this_pieces, .ref a_this_laid, .ref a_this_isMirrored, .ref a_this_places, .ref a_this_placeMany, .ref a_this_now, .ref a_this_firsts, .ref a_this_forms, .ref a_this_isKept, .ref a_this_keptFigures, .ref a_this_keptPieces, .ref a_this_keptLaid, .ref a_this_keptMirrored])), (a_this_text, .inl (cI, 16, .inl c_this_text)), (a_this_figures, .inl (cJ, 8, .inr (.inl t9)))])) ?_ hr44 ?_ hP hD hS (lv_sub hl [1, 2, 0] rfl)
      · intro t46 q47 k32 hck32 hqk32 H locs ls hP hD hS hl
        obtain ⟨y33, w34⟩ := t46
        have k32 : st_X8_word_30c c_this_text x1 y33 w34 = some q47 := k32
        unfold st_X8_word_30c at k32
        have hl : lv_has ls 3 [(0, .ref a_this), (1, .int x1), (2, .int y33)] := hl
        have hP : va_P D vwCl [(a_this, .inr (4, [.ref a_this_near, .ref a_this_turned, .ref a_this_figures, .ref a_this_text, .int c_this_length, .ref a_this_sectors, .ref a_this_corners, .int c_this_doubles, .ref a_this_likes, .int c_this_likeMany, .int c_this_pieces, .ref a_this_laid, .ref a_this_isMirrored, .ref a_this_places, .ref a_this_placeMany, .ref a_this_now, .ref a_this_firsts, .ref a_this_forms, .ref a_this_isKept, .ref a_this_keptFigures, .ref a_this_keptPieces, .ref a_this_keptLaid, .ref a_this_keptMirrored])), (a_this_text, .inl (cI, 16, .inl c_this_text)), (a_this_figures, .inl (cJ, 8, .inr (.inl w34)))] H := hP
        have hD : va_D A [(a_this, .inr (4, [.ref a_this_near, .ref a_this_turned, .ref a_this_figures, .ref a_this_text, .int c_this_length, .ref a_this_sectors, .ref a_this_corners, .int c_this_doubles, .ref a_this_likes, .int c_this_likeMany, .int c_this_pieces, .ref a_this_laid, .ref a_this_isMirrored, .ref a_this_places, .ref a_this_placeMany, .ref a_this_now, .ref a_this_firsts, .ref a_this_forms, .ref a_this_isKept, .ref a_this_keptFigures, .ref a_this_keptPieces, .ref a_this_keptLaid, .ref a_this_keptMirrored])), (a_this_text, .inl (cI, 16, .inl c_this_text)), (a_this_figures, .inl (cJ, 8, .inr (.inl w34)))] := hD
        refine lv_iload_n hx hb dX8_word_30 rfl (lv_at hl 2 rfl) ?_
        refine lv_bipush (v := (16 : Int32)) hx hb dX8_word_31 (by decide) ?_
        refine lv_icmp_ge (tgt := 65) hx hb dX8_word_33 (by decide) (fun c35 => ?_) (fun c35 => ?_)
        · replace k32 := hk_ip c35 k32
          exact hqk32 w34 (Option.some.inj k32).symm H locs ls hP hD hS (lv_sub hl [0, 1] rfl)
        replace k32 := hk_in c35 k32
        refine lv_aload_n hx hb dX8_word_36 rfl (lv_at hl 0 rfl) ?_
        refine va_get (D := D) (ci := 4) (v := .ref a_this_figures) (C := RX8) (T := TX8) (N := 23) hx hb hts zi_X8_word_X8 hown hK.1 hP 0 rfl rfl 2 (by decide) (hts (.fieldLink RX8 17 "HalfAndHalfAgainModel" "figures" "[J") (List.mem_of_getElem? (i := 1) rfl)) (fun _ h9 => h9) rfl dX8_word_37 ?_
        refine lv_iload_n hx hb dX8_word_40 rfl (lv_at hl 1 rfl) ?_
        refine lv_dup2_11 hx hb dX8_word_41 rfl rfl ?_
        obtain ⟨hi36, k32⟩ := hk_ge k32
        refine va_lald hx hb hK.1 hP 2 1 rfl rfl (hk_inb_of hi36) dX8_word_42 ?_
        refine lv_aload_n hx hb dX8_word_43 rfl (lv_at hl 0 rfl) ?_
        refine va_get (D := D) (ci := 4) (v := .ref a_this_text) (C := RX8) (T := TX8) (N := 23) hx hb hts zi_X8_word_X8 hown hK.1 hP 0 rfl rfl 3 (by decide) (hts (.fieldLink RX8 20 "HalfAndHalfAgainModel" "text" "[I") (List.mem_of_getElem? (i := 2) rfl)) (fun _ h9 => h9) rfl dX8_word_44 ?_
        refine lv_iload_n hx hb dX8_word_47 rfl (lv_at hl 2 rfl) ?_
        obtain ⟨hi37, k32⟩ := hk_ge k32
        refine va_iald hx hb hK.1 hP 1 0 rfl rfl (hk_inb_of hi37) dX8_word_48 ?_
        obtain ⟨r38, hr39, k32⟩ := hk_x1 k32
        refine vp_callSi (W.runS (As := [.int (c_this_text y33.toNatClampNeg)]) (rest := [.long (w34 x1.toNatClampNeg), .int x1, .ref a_this_figures]) ⟨hx, hb, hml, hown, hts⟩ (c_X8_valueOf l (c_this_text y33.toNatClampNeg) _ hr39) (va_cwS 1 hts gX8_word_X8_valueOf rfl rfl rfl zs_X8_valueOf ⟨Nat.le_of_ble_eq_true rfl, Nat.le_of_ble_eq_true rfl⟩) ⟨fun _ _ _ _ q => q, fun _ _ _ => ⟨rfl, trivial⟩⟩ rfl rfl hl.1 rfl (lv_room (Nat.le_of_ble_eq_true rfl)) dX8_word_49 ⟨Nat.zero_le _, Nat.zero_le _⟩) (fun p41 e40 => ?_)
        rw [e40]
        refine lv_i2l (v := (r38.toInt64)) hx hb dX8_word_52 rfl ?_
        refine lv_iconst (v := (4 : Int32)) hx hb dX8_word_53 (by decide) ?_
        refine lv_iload_n hx hb dX8_word_54 rfl (lv_at hl 2 rfl) ?_
        refine lv_imul hx hb dX8_word_55 ?_
        refine lv_lshl (v := (hk_shl (r38.toInt64) ((4 : Int32) * y33))) hx hb dX8_word_56 rfl ?_
        refine lv_lor hx hb dX8_word_57 ?_
        obtain ⟨hi42, k32⟩ := hk_ge k32
        refine va_last hx hb hK.1 hP hD hS 2 1 rfl rfl (hk_inb_of hi42) dX8_word_58 (fun H locs hP hD hS => ?_)
        have hP : va_P D vwCl [(a_this, .inr (4, [.ref a_this_near, .ref a_this_turned, .ref a_this_figures, .ref a_this_text, .int c_this_length, .ref a_this_sectors, .ref a_this_corners, .int c_this_doubles, .ref a_this_likes, .int c_this_likeMany, .int c_this_pieces, .ref a_this_laid, .ref a_this_isMirrored, .ref a_this_places, .ref a_this_placeMany, .ref a_this_now, .ref a_this_firsts, .ref a_this_forms, .ref a_this_isKept, .ref a_this_keptFigures, .ref a_this_keptPieces, .ref a_this_keptLaid, .ref a_this_keptMirrored])), (a_this_text, .inl (cI, 16, .inl c_this_text)), (a_this_figures, .inl (cJ, 8, .inr (.inl (vp_updL w34 x1.toNatClampNeg ((w34 x1.toNatClampNeg) ||| (hk_shl (r38.toInt64) ((4 : Int32) * y33)))))))] H := hP
        have hD : va_D A [(a_this, .inr (4, [.ref a_this_near, .ref a_this_turned, .ref a_this_figures, .ref a_this_text, .int c_this_length, .ref a_this_sectors, .ref a_this_corners, .int c_this_doubles, .ref a_this_likes, .int c_this_likeMany, .int c_this_pieces, .ref a_this_laid, .ref a_this_isMirrored, .ref a_this_places, .ref a_this_placeMany, .ref a_this_now, .ref a_this_firsts, .ref a_this_forms, .ref a_this_isKept, .ref a_this_keptFigures, .ref a_this_keptPieces, .ref a_this_keptLaid, .ref a_this_keptMirrored])), (a_this_text, .inl (cI, 16, .inl c_this_text)), (a_this_figures, .inl (cJ, 8, .inr (.inl (vp_updL w34 x1.toNatClampNeg ((w34 x1.toNatClampNeg) ||| (hk_shl (r38.toInt64) ((4 : Int32) * y33)))))))] := hD
        obtain ⟨x43, ex43, k32⟩ := hk_le k32
        refine lv_iinc (v := x43) (lv' := [(2, .int x43), (0, .ref a_this), (1, .int x1)]) hx hb dX8_word_59 hl (k := 2) rfl (by rw [ex43]; rfl) (by decide) rfl (fun ls hl => ?_)
        refine lv_goto (tgt := 30) hx hb dX8_word_62 (by decide) ?_
        exact hck32 (x43, (vp_updL w34 x1.toNatClampNeg ((w34 x1.toNatClampNeg) ||| (hk_shl (r38.toInt64) ((4 : Int32) * y33))))) (Option.some.inj k32).symm H locs ls hP hD hS (lv_sub hl [1, 2, 0] rfl)
      intro H locs ls hP hD hS hl
      have hl : lv_has ls 3 [(0, .ref a_this), (1, .int x1)] := hl
      have hP : va_P D vwCl [(a_this, .inr (4, [.ref a_this_near, .ref a_this_turned, .ref a_this_figures, .ref a_this_text, .int c_this_length, .ref a_this_sectors, .ref a_this_corners, .int c_this_doubles, .ref a_this_likes, .int c_this_likeMany, .int c_this_pieces, .ref a_this_laid, .ref a_this_isMirrored, .ref a_this_places, .ref a_this_placeMany, .ref a_this_now, .ref a_this_firsts, .ref a_this_forms, .ref a_this_isKept, .ref a_this_keptFigures, .ref a_this_keptPieces, .ref a_this_keptLaid, .ref a_this_keptMirrored])), (a_this_text, .inl (cI, 16, .inl c_this_text)), (a_this_figures, .inl (cJ, 8, .inr (.inl v45)))] H := hP
      have hD : va_D A [(a_this, .inr (4, [.ref a_this_near, .ref a_this_turned, .ref a_this_figures, .ref a_this_text, .int c_this_length, .ref a_this_sectors, .ref a_this_corners, .int c_this_doubles, .ref a_this_likes, .int c_this_likeMany, .int c_this_pieces, .ref a_this_laid, .ref a_this_isMirrored, .ref a_this_places, .ref a_this_placeMany, .ref a_this_now, .ref a_this_firsts, .ref a_this_forms, .ref a_this_isKept, .ref a_this_keptFigures, .ref a_this_keptPieces, .ref a_this_keptLaid, .ref a_this_keptMirrored])), (a_this_text, .inl (cI, 16, .inl c_this_text)), (a_this_figures, .inl (cJ, 8, .inr (.inl v45)))] := hD
      show W _ _ _ _ _ _ _ _ _ _ _ _ _ _ _ (F0 m 65 ls [])
      refine lv_aload_n hx hb dX8_word_65 rfl (lv_at hl 0 rfl) ?_
      refine va_get (D := D) (ci := 4) (v := .ref a_this_figures) (C := RX8) (T := TX8) (N := 23) hx hb hts zi_X8_word_X8 hown hK.1 hP 0 rfl rfl 2 (by decide) (hts (.fieldLink RX8 17 "HalfAndHalfAgainModel" "figures" "[J") (List.mem_of_getElem? (i := 1) rfl)) (fun _ h9 => h9) rfl dX8_word_66 ?_
      refine lv_iload_n hx hb dX8_word_69 rfl (lv_at hl 1 rfl) ?_
      obtain ⟨hi48, h⟩ := hk_ge h
      refine va_lald hx hb hK.1 hP 2 1 rfl rfl (hk_inb_of hi48) dX8_word_70 ?_
      obtain ⟨r49, hr50, h⟩ := hk_x1 h
      refine vp_callSi (W.runS (As := [.long (v45 x1.toNatClampNeg)]) (rest := []) ⟨hx, hb, hml, hown, hts⟩ (c_X8_ones l (v45 x1.toNatClampNeg) _ hr50) (va_cwS 1 hts gX8_word_X8_ones rfl rfl rfl zs_X8_ones ⟨Nat.le_of_ble_eq_true rfl, Nat.le_of_ble_eq_true rfl⟩) ⟨fun _ _ _ _ q => q, fun _ _ _ => ⟨rfl, trivial⟩⟩ rfl rfl hl.1 rfl (lv_room (Nat.le_of_ble_eq_true rfl)) dX8_word_71 ⟨Nat.zero_le _, Nat.zero_le _⟩) (fun p52 e51 => ?_)
      rw [e51]
      subst hQ
      have h := Option.some.inj h
      simp only [Prod.mk.injEq] at h
      obtain ⟨rfl, rfl⟩ := h
      exact W.iret hx hb hr (fun t ht hW => ⟨⟨_, (), rfl, rfl, by rw [ht]; exact hP, hD⟩, hS.F ht⟩) hS.2.2 dX8_word_74
    replace h := hk_in c30 h
    refine lv_bipush (v := (-3 : Int32)) hx hb dX8_word_18 (by decide) ?_
    subst hQ
    have h := Option.some.inj h
    simp only [Prod.mk.injEq] at h
    obtain ⟨rfl, rfl⟩ := h
    exact W.iret hx hb hr (fun t ht hW => ⟨⟨_, (), rfl, rfl, by rw [ht]; exact hP, hD⟩, hS.F ht⟩) hS.2.2 dX8_word_20
  replace h := hk_ip c25 h
  refine lv_iconst (v := (-1 : Int32)) hx hb dX8_word_7 (by decide) ?_
  subst hQ
  have h := Option.some.inj h
  simp only [Prod.mk.injEq] at h
  obtain ⟨rfl, rfl⟩ := h
  exact W.iret hx hb hr (fun t ht hW => ⟨⟨_, (), rfl, rfl, by rw [ht]; exact hP, hD⟩, hS.F ht⟩) hS.2.2 dX8_word_8
theorem zv_X8_sign : yX8_sign.cls = RX8 ∧ yX8_sign.cls ≠ "java/lang/invoke/MethodHandle" ∧ yX8_sign.cls ≠ "java/lang/invoke/VarHandle" ∧ (parseMethodDescriptor yX8_sign.desc).map (fun d => d.parameters.length) = some 2 := by decide +kernel
def f_X8_sign (c_this_figures : Nat → Int64)  (x1 : Int32) (x2 : Int32) : Option Int32 := hk_b1 (f_X8_isFigure x1) fun r21 => if r21 = 0 then (some (-1 : Int32)) else (hk_b1 (f_X8_in (x2.toInt64) (0 : Int64) (15 : Int64)) fun r26 => if r26 = 0 then (some (-2 : Int32)) else (hk_gd (hk_inb x1 8) (hk_let ((((hk_shr (c_this_figures x1.toNatClampNeg) ((4 : Int32) * x2)) &&& (15 : Int64))).toInt32) fun x32 => if (10 : Int32) ≤ x32 then (some ((87 : Int32) + x32)) else (some ((48 : Int32) + x32)))))
theorem zi_X8_sign_X8 : ∀ w ∈ u_ws RX8 TX8 23, w ∈ wsX8_sign := by decide +kernel
set_option maxHeartbeats 8000000 in
set_option maxRecDepth 100000 in
theorem c_X8_sign (l : Launch) (D : va_G) (cI cJ cZ cO : ClassId) (a_this a_this_near a_this_turned a_this_figures a_this_text a_this_sectors a_this_corners a_this_likes a_this_laid a_this_isMirrored a_this_places a_this_placeMany a_this_now a_this_firsts a_this_forms a_this_isKept a_this_keptFigures a_this_keptPieces a_this_keptLaid a_this_keptMirrored : Nat) (c_this_length : Int32) (c_this_doubles : Int32) (c_this_likeMany : Int32) (c_this_pieces : Int32) (c_this_figures : Nat → Int64) (x1 : Int32) (x2 : Int32) (rv : Int32) (hf : f_X8_sign c_this_figures x1 x2 = some rv) : Met l yX8_sign wsX8_sign ({ frames := 2, cells := 0, slots := 0, locals := 45 }) (va_Pc [.ref a_this, .int x1, .int x2] (hkR D cI cJ cZ cO [(a_this, .inr (4, [.ref a_this_near, .ref a_this_turned, .ref a_this_figures, .ref a_this_text, .int c_this_length, .ref a_this_sectors, .ref a_this_corners, .int c_this_doubles, .ref a_this_likes, .int c_this_likeMany, .int c_this_pieces, .ref a_this_laid, .ref a_this_isMirrored, .ref a_this_places, .ref a_this_placeMany, .ref a_this_now, .ref a_this_firsts, .ref a_this_forms, .ref a_this_isKept, .ref a_this_keptFigures, .ref a_this_keptPieces, .ref a_this_keptLaid, .ref a_this_keptMirrored])), (a_this_figures, .inl (cJ, 8, .inr (.inl c_this_figures)))])) (vp_Si (fun r => r = rv)) 0 0 (fun _ => False) := by
  refine Met.ofW (cc := cX8_sign) (maxL := 4) (ret := (some .int)) (by decide) rfl ?_
  intro p e s m args below meth c s₁ B hml hv
  obtain ⟨rfl, hP, hK⟩ := hv
  have hx := B.exec
  have hb := B.bytes
  have hr := B.returns
  have hts := atoms_spec (ws := wsX8_sign) B.pre
  have hown : s.vm.findClass RX8 = some m.cls := findClass_of_methodNamed B.named
  have hlocks := B.notSynchronized
  have hN := hK.2
  have hl := lv_entry ([.ref a_this, .int x1, .int x2]) (n := 4) (Nat.le_of_ble_eq_true rfl)
  rw [lg_entry_eq]
  generalize (lg_sl ([.ref a_this, .int x1, .int x2]) ++ List.replicate (4 - (lg_sl ([.ref a_this, .int x1, .int x2])).length) Slot.unset).toArray = ls at hl ⊢
  have hl : lv_has ls 4 [(0, .ref a_this), (1, .int x1), (2, .int x2)] := hl
  refine hk_Q (fun Q hQ => ?_)
  have h := hf
  unfold f_X8_sign at h
  refine lv_iload_n hx hb dX8_sign_0 rfl (lv_at hl 1 rfl) ?_
  obtain ⟨r21, hr22, h⟩ := hk_x1 h
  refine vp_callSi (W.runS (As := [.int x1]) (rest := []) ⟨hx, hb, hml, hown, hts⟩ (c_X8_isFigure l x1 _ hr22) (va_cwS 1 hts gX8_sign_X8_isFigure rfl rfl rfl zs_X8_isFigure ⟨Nat.le_of_ble_eq_true rfl, Nat.le_of_ble_eq_true rfl⟩) ⟨fun _ _ _ _ q => q, fun _ _ _ => ⟨rfl, trivial⟩⟩ rfl rfl hl.1 rfl (lv_room (Nat.le_of_ble_eq_true rfl)) dX8_sign_1 ⟨Nat.zero_le _, Nat.zero_le _⟩) (fun p24 e23 => ?_)
  rw [e23]
  refine lv_if_ne (tgt := 9) hx hb dX8_sign_4 (by decide) (fun c25 => ?_) (fun c25 => ?_)
  · replace h := hk_in c25 h
    refine lv_iload_n hx hb dX8_sign_9 rfl (lv_at hl 2 rfl) ?_
    refine lv_i2l (v := (x2.toInt64)) hx hb dX8_sign_10 rfl ?_
    refine lv_lconst (v := (0 : Int64)) hx hb dX8_sign_11 (by decide) ?_
    refine lv_ldc2 (v := (15 : Int64)) hx hb hown (hts (.constantLong RX8 114 (15)) (List.mem_of_getElem? (i := 1) rfl)) dX8_sign_12 ?_
    obtain ⟨r26, hr27, h⟩ := hk_x1 h
    refine vp_callSi (W.runS (As := [.long (x2.toInt64), .long (0 : Int64), .long (15 : Int64)]) (rest := []) ⟨hx, hb, hml, hown, hts⟩ (c_X8_in l (x2.toInt64) (0 : Int64) (15 : Int64) _ hr27) (va_cwS 3 hts gX8_sign_X8_in rfl rfl rfl zs_X8_in ⟨Nat.le_of_ble_eq_true rfl, Nat.le_of_ble_eq_true rfl⟩) ⟨fun _ _ _ _ q => q, fun _ _ _ => ⟨rfl, trivial⟩⟩ rfl rfl hl.1 rfl (lv_room (Nat.le_of_ble_eq_true rfl)) dX8_sign_15 ⟨Nat.zero_le _, Nat.zero_le _⟩) (fun p29 e28 => ?_)
    rw [e28]
    refine lv_if_ne (tgt := 24) hx hb dX8_sign_18 (by decide) (fun c30 => ?_) (fun c30 => ?_)
    · replace h := hk_in c30 h
      refine lv_aload_n hx hb dX8_sign_24 rfl (lv_at hl 0 rfl) ?_
      refine va_get (D := D) (ci := 4) (v := .ref a_this_figures) (C := RX8) (T := TX8) (N := 23) hx hb hts zi_X8_sign_X8 hown hK.1 hP 0 rfl rfl 2 (by decide) (hts (.fieldLink RX8 17 "HalfAndHalfAgainModel" "figures" "[J") (List.mem_of_getElem? (i := 2) rfl)) (fun _ h9 => h9) rfl dX8_sign_25 ?_
      refine lv_iload_n hx hb dX8_sign_28 rfl (lv_at hl 1 rfl) ?_
      obtain ⟨hi31, h⟩ := hk_ge h
      refine va_lald hx hb hK.1 hP 1 1 rfl rfl (hk_inb_of hi31) dX8_sign_29 ?_
      refine lv_iconst (v := (4 : Int32)) hx hb dX8_sign_30 (by decide) ?_
      refine lv_iload_n hx hb dX8_sign_31 rfl (lv_at hl 2 rfl) ?_
      refine lv_imul hx hb dX8_sign_32 ?_
      refine lv_lshr (v := (hk_shr (c_this_figures x1.toNatClampNeg) ((4 : Int32) * x2))) hx hb dX8_sign_33 rfl ?_
      refine lv_ldc2 (v := (15 : Int64)) hx hb hown (hts (.constantLong RX8 114 (15)) (List.mem_of_getElem? (i := 1) rfl)) dX8_sign_34 ?_
      refine lv_land hx hb dX8_sign_37 ?_
      refine lv_l2i (v := ((((hk_shr (c_this_figures x1.toNatClampNeg) ((4 : Int32) * x2)) &&& (15 : Int64))).toInt32)) hx hb dX8_sign_38 rfl ?_
      obtain ⟨x32, ex32, h⟩ := hk_le h
      refine hk_ti ex32 ?_
      refine lv_istore_n (lv' := [(3, .int x32), (0, .ref a_this), (1, .int x1), (2, .int x2)]) hx hb dX8_sign_39 rfl hl (by decide) rfl (fun ls hl => ?_)
      refine lv_iload_n hx hb dX8_sign_40 rfl (lv_at hl 0 rfl) ?_
      refine lv_bipush (v := (10 : Int32)) hx hb dX8_sign_41 (by decide) ?_
      refine lv_icmp_ge (tgt := 53) hx hb dX8_sign_43 (by decide) (fun c33 => ?_) (fun c33 => ?_)
      · replace h := hk_ip c33 h
        refine lv_bipush (v := (87 : Int32)) hx hb dX8_sign_53 (by decide) ?_
        refine lv_iload_n hx hb dX8_sign_55 rfl (lv_at hl 0 rfl) ?_
        refine lv_iadd hx hb dX8_sign_56 ?_
        subst hQ
        exact W.iret hx hb hr (fun t ht hW => ⟨_, rfl, Option.some.inj h, ht⟩) (fun _ h9 => by cases h9) dX8_sign_57
      replace h := hk_in c33 h
      refine lv_bipush (v := (48 : Int32)) hx hb dX8_sign_46 (by decide) ?_
      refine lv_iload_n hx hb dX8_sign_48 rfl (lv_at hl 0 rfl) ?_
      refine lv_iadd hx hb dX8_sign_49 ?_
      refine lv_goto (tgt := 57) hx hb dX8_sign_50 (by decide) ?_
      subst hQ
      exact W.iret hx hb hr (fun t ht hW => ⟨_, rfl, Option.some.inj h, ht⟩) (fun _ h9 => by cases h9) dX8_sign_57
    replace h := hk_ip c30 h
    refine lv_bipush (v := (-2 : Int32)) hx hb dX8_sign_21 (by decide) ?_
    subst hQ
    exact W.iret hx hb hr (fun t ht hW => ⟨_, rfl, Option.some.inj h, ht⟩) (fun _ h9 => by cases h9) dX8_sign_23
  replace h := hk_ip c25 h
  refine lv_iconst (v := (-1 : Int32)) hx hb dX8_sign_7 (by decide) ?_
  subst hQ
  exact W.iret hx hb hr (fun t ht hW => ⟨_, rfl, Option.some.inj h, ht⟩) (fun _ h9 => by cases h9) dX8_sign_8
theorem zv_X8_figure : yX8_figure.cls = RX8 ∧ yX8_figure.cls ≠ "java/lang/invoke/MethodHandle" ∧ yX8_figure.cls ≠ "java/lang/invoke/VarHandle" ∧ (parseMethodDescriptor yX8_figure.desc).map (fun d => d.parameters.length) = some 1 := by decide +kernel
def f_X8_figure (c_this_figures : Nat → Int64)  (x1 : Int32) : Option Int64 := hk_b1 (f_X8_isFigure x1) fun r21 => if r21 = 0 then (some (0 : Int64)) else (hk_gd (hk_inb x1 8) (some (c_this_figures x1.toNatClampNeg)))
theorem zi_X8_figure_X8 : ∀ w ∈ u_ws RX8 TX8 23, w ∈ wsX8_figure := by decide +kernel
set_option maxHeartbeats 8000000 in
set_option maxRecDepth 100000 in
theorem c_X8_figure (l : Launch) (D : va_G) (cI cJ cZ cO : ClassId) (a_this a_this_near a_this_turned a_this_figures a_this_text a_this_sectors a_this_corners a_this_likes a_this_laid a_this_isMirrored a_this_places a_this_placeMany a_this_now a_this_firsts a_this_forms a_this_isKept a_this_keptFigures a_this_keptPieces a_this_keptLaid a_this_keptMirrored : Nat) (c_this_length : Int32) (c_this_doubles : Int32) (c_this_likeMany : Int32) (c_this_pieces : Int32) (c_this_figures : Nat → Int64) (x1 : Int32) (rv : Int64) (hf : f_X8_figure c_this_figures x1 = some rv) : Met l yX8_figure wsX8_figure ({ frames := 2, cells := 0, slots := 0, locals := 45 }) (va_Pc [.ref a_this, .int x1] (hkR D cI cJ cZ cO [(a_this, .inr (4, [.ref a_this_near, .ref a_this_turned, .ref a_this_figures, .ref a_this_text, .int c_this_length, .ref a_this_sectors, .ref a_this_corners, .int c_this_doubles, .ref a_this_likes, .int c_this_likeMany, .int c_this_pieces, .ref a_this_laid, .ref a_this_isMirrored, .ref a_this_places, .ref a_this_placeMany, .ref a_this_now, .ref a_this_firsts, .ref a_this_forms, .ref a_this_isKept, .ref a_this_keptFigures, .ref a_this_keptPieces, .ref a_this_keptLaid, .ref a_this_keptMirrored])), (a_this_figures, .inl (cJ, 8, .inr (.inl c_this_figures)))])) (vp_Sl (fun r => r = rv)) 0 0 (fun _ => False) := by
  refine Met.ofW (cc := cX8_figure) (maxL := 2) (ret := (some .long)) (by decide) rfl ?_
  intro p e s m args below meth c s₁ B hml hv
  obtain ⟨rfl, hP, hK⟩ := hv
  have hx := B.exec
  have hb := B.bytes
  have hr := B.returns
  have hts := atoms_spec (ws := wsX8_figure) B.pre
  have hown : s.vm.findClass RX8 = some m.cls := findClass_of_methodNamed B.named
  have hlocks := B.notSynchronized
  have hN := hK.2
  have hl := lv_entry ([.ref a_this, .int x1]) (n := 2) (Nat.le_of_ble_eq_true rfl)
  rw [lg_entry_eq]
  generalize (lg_sl ([.ref a_this, .int x1]) ++ List.replicate (2 - (lg_sl ([.ref a_this, .int x1])).length) Slot.unset).toArray = ls at hl ⊢
  have hl : lv_has ls 2 [(0, .ref a_this), (1, .int x1)] := hl
  refine hk_Q (fun Q hQ => ?_)
  have h := hf
  unfold f_X8_figure at h
  refine lv_iload_n hx hb dX8_figure_0 rfl (lv_at hl 1 rfl) ?_
  obtain ⟨r21, hr22, h⟩ := hk_x1 h
  refine vp_callSi (W.runS (As := [.int x1]) (rest := []) ⟨hx, hb, hml, hown, hts⟩ (c_X8_isFigure l x1 _ hr22) (va_cwS 1 hts gX8_figure_X8_isFigure rfl rfl rfl zs_X8_isFigure ⟨Nat.le_of_ble_eq_true rfl, Nat.le_of_ble_eq_true rfl⟩) ⟨fun _ _ _ _ q => q, fun _ _ _ => ⟨rfl, trivial⟩⟩ rfl rfl hl.1 rfl (lv_room (Nat.le_of_ble_eq_true rfl)) dX8_figure_1 ⟨Nat.zero_le _, Nat.zero_le _⟩) (fun p24 e23 => ?_)
  rw [e23]
  refine lv_if_eq (tgt := 16) hx hb dX8_figure_4 (by decide) (fun c25 => ?_) (fun c25 => ?_)
  · replace h := hk_ip c25 h
    refine lv_lconst (v := (0 : Int64)) hx hb dX8_figure_16 (by decide) ?_
    subst hQ
    exact W.lret hx hb hr (fun t ht hW => ⟨_, rfl, Option.some.inj h, ht⟩) (fun _ h9 => by cases h9) dX8_figure_17
  replace h := hk_in c25 h
  refine lv_aload_n hx hb dX8_figure_7 rfl (lv_at hl 0 rfl) ?_
  refine va_get (D := D) (ci := 4) (v := .ref a_this_figures) (C := RX8) (T := TX8) (N := 23) hx hb hts zi_X8_figure_X8 hown hK.1 hP 0 rfl rfl 2 (by decide) (hts (.fieldLink RX8 17 "HalfAndHalfAgainModel" "figures" "[J") (List.mem_of_getElem? (i := 1) rfl)) (fun _ h9 => h9) rfl dX8_figure_8 ?_
  refine lv_iload_n hx hb dX8_figure_11 rfl (lv_at hl 1 rfl) ?_
  obtain ⟨hi26, h⟩ := hk_ge h
  refine va_lald hx hb hK.1 hP 1 1 rfl rfl (hk_inb_of hi26) dX8_figure_12 ?_
  refine lv_goto (tgt := 17) hx hb dX8_figure_13 (by decide) ?_
  subst hQ
  exact W.lret hx hb hr (fun t ht hW => ⟨_, rfl, Option.some.inj h, ht⟩) (fun _ h9 => by cases h9) dX8_figure_17
theorem zv_X8_set : yX8_set.cls = RX8 ∧ yX8_set.cls ≠ "java/lang/invoke/MethodHandle" ∧ yX8_set.cls ≠ "java/lang/invoke/VarHandle" ∧ (parseMethodDescriptor yX8_set.desc).map (fun d => d.parameters.length) = some 3 := by decide +kernel
def f_X8_set (c_this_figures : Nat → Int64)  (x1 : Int32) (x2 : Int32) (x3 : Int32) : Option (Int32 × (Nat → Int64)) := hk_b1 (f_X8_isFigure x1) fun r21 => if r21 = 0 then (some ((-1 : Int32), c_this_figures)) else (hk_b1 (f_X8_in (x2.toInt64) (0 : Int64) (63 : Int64)) fun r26 => if r26 = 0 then (some ((-1 : Int32), c_this_figures)) else (hk_gd (hk_inb x1 8) (hk_let (c_this_figures x1.toNatClampNeg) fun x32 => hk_let (if x3 = 0 then ((x32 &&& ((hk_shl (1 : Int64) x2) ^^^ (-1 : Int64)))) else ((x32 ||| (hk_shl (1 : Int64) x2)))) fun v35 => hk_gd (hk_inb x1 8) (hk_gd (hk_inb x1 8) (if x32 = ((vp_updL c_this_figures x1.toNatClampNeg v35) x1.toNatClampNeg) then (some ((0 : Int32), (vp_updL c_this_figures x1.toNatClampNeg v35))) else (some ((1 : Int32), (vp_updL c_this_figures x1.toNatClampNeg v35))))))))
theorem zi_X8_set_X8 : ∀ w ∈ u_ws RX8 TX8 23, w ∈ wsX8_set := by decide +kernel
set_option maxHeartbeats 8000000 in
set_option maxRecDepth 100000 in
theorem c_X8_set (l : Launch) (D : va_G) (cI cJ cZ cO : ClassId) (a_this a_this_near a_this_turned a_this_figures a_this_text a_this_sectors a_this_corners a_this_likes a_this_laid a_this_isMirrored a_this_places a_this_placeMany a_this_now a_this_firsts a_this_forms a_this_isKept a_this_keptFigures a_this_keptPieces a_this_keptLaid a_this_keptMirrored : Nat) (sz : Nat) (c_this_length : Int32) (c_this_doubles : Int32) (c_this_likeMany : Int32) (c_this_pieces : Int32) (c_this_figures : Nat → Int64) (x1 : Int32) (x2 : Int32) (x3 : Int32) (rv : Int32) (u_this_figures : Nat → Int64) (hf : f_X8_set c_this_figures x1 x2 x3 = some (rv, u_this_figures)) : Met l yX8_set wsX8_set ({ frames := 2, cells := 0, slots := 0, locals := 45 }) (va_Pc [.ref a_this, .int x1, .int x2, .int x3] (hkM D cI cJ cZ cO [(a_this, .inr (4, [.ref a_this_near, .ref a_this_turned, .ref a_this_figures, .ref a_this_text, .int c_this_length, .ref a_this_sectors, .ref a_this_corners, .int c_this_doubles, .ref a_this_likes, .int c_this_likeMany, .int c_this_pieces, .ref a_this_laid, .ref a_this_isMirrored, .ref a_this_places, .ref a_this_placeMany, .ref a_this_now, .ref a_this_firsts, .ref a_this_forms, .ref a_this_isKept, .ref a_this_keptFigures, .ref a_this_keptPieces, .ref a_this_keptLaid, .ref a_this_keptMirrored])), (a_this_figures, .inl (cJ, 8, .inr (.inl c_this_figures)))] sz)) (va_Qi (fun r (_ : Unit) => r = rv) (fun _ t => va_P D vwCl [(a_this, .inr (4, [.ref a_this_near, .ref a_this_turned, .ref a_this_figures, .ref a_this_text, .int c_this_length, .ref a_this_sectors, .ref a_this_corners, .int c_this_doubles, .ref a_this_likes, .int c_this_likeMany, .int c_this_pieces, .ref a_this_laid, .ref a_this_isMirrored, .ref a_this_places, .ref a_this_placeMany, .ref a_this_now, .ref a_this_firsts, .ref a_this_forms, .ref a_this_isKept, .ref a_this_keptFigures, .ref a_this_keptPieces, .ref a_this_keptLaid, .ref a_this_keptMirrored])), (a_this_figures, .inl (cJ, 8, .inr (.inl u_this_figures)))] t.heap ∧ va_D (va_A [(a_this, .inr (4, [.ref a_this_near, .ref a_this_turned, .ref a_this_figures, .ref a_this_text, .int c_this_length, .ref a_this_sectors, .ref a_this_corners, .int c_this_doubles, .ref a_this_likes, .int c_this_likeMany, .int c_this_pieces, .ref a_this_laid, .ref a_this_isMirrored, .ref a_this_places, .ref a_this_placeMany, .ref a_this_now, .ref a_this_firsts, .ref a_this_forms, .ref a_this_isKept, .ref a_this_keptFigures, .ref a_this_keptPieces, .ref a_this_keptLaid, .ref a_this_keptMirrored])), (a_this_figures, .inl (cJ, 8, .inr (.inl c_this_figures)))] sz) [(a_this, .inr (4, [.ref a_this_near, .ref a_this_turned, .ref a_this_figures, .ref a_this_text, .int c_this_length, .ref a_this_sectors, .ref a_this_corners, .int c_this_doubles, .ref a_this_likes, .int c_this_likeMany, .int c_this_pieces, .ref a_this_laid, .ref a_this_isMirrored, .ref a_this_places, .ref a_this_placeMany, .ref a_this_now, .ref a_this_firsts, .ref a_this_forms, .ref a_this_isKept, .ref a_this_keptFigures, .ref a_this_keptPieces, .ref a_this_keptLaid, .ref a_this_keptMirrored])), (a_this_figures, .inl (cJ, 8, .inr (.inl u_this_figures)))]) (va_A [(a_this, .inr (4, [.ref a_this_near, .ref a_this_turned, .ref a_this_figures, .ref a_this_text, .int c_this_length, .ref a_this_sectors, .ref a_this_corners, .int c_this_doubles, .ref a_this_likes, .int c_this_likeMany, .int c_this_pieces, .ref a_this_laid, .ref a_this_isMirrored, .ref a_this_places, .ref a_this_placeMany, .ref a_this_now, .ref a_this_firsts, .ref a_this_forms, .ref a_this_isKept, .ref a_this_keptFigures, .ref a_this_keptPieces, .ref a_this_keptLaid, .ref a_this_keptMirrored])), (a_this_figures, .inl (cJ, 8, .inr (.inl c_this_figures)))] sz)) 0 0 (va_A [(a_this, .inr (4, [.ref a_this_near, .ref a_this_turned, .ref a_this_figures, .ref a_this_text, .int c_this_length, .ref a_this_sectors, .ref a_this_corners, .int c_this_doubles, .ref a_this_likes, .int c_this_likeMany, .int c_this_pieces, .ref a_this_laid, .ref a_this_isMirrored, .ref a_this_places, .ref a_this_placeMany, .ref a_this_now, .ref a_this_firsts, .ref a_this_forms, .ref a_this_isKept, .ref a_this_keptFigures, .ref a_this_keptPieces, .ref a_this_keptLaid, .ref a_this_keptMirrored])), (a_this_figures, .inl (cJ, 8, .inr (.inl c_this_figures)))] sz) := by
  refine Met.ofW (cc := cX8_set) (maxL := 6) (ret := (some .int)) (by decide) rfl ?_
  intro p e s m args below meth c s₁ B hml hv
  obtain ⟨rfl, hsz, hP, hK, hD0⟩ := hv
  have hx := B.exec
  have hb := B.bytes
  have hr := B.returns
  have hts := atoms_spec (ws := wsX8_set) B.pre
  have hown : s.vm.findClass RX8 = some m.cls := findClass_of_methodNamed B.named
  have hlocks := B.notSynchronized
  have hN := hK.2
  subst hsz
  have hD := hD0.self (sz := s.heap.size)
  generalize hAe : va_A [(a_this, .inr (4, [.ref a_this_near, .ref a_this_turned, .ref a_this_figures, .ref a_this_text, .int c_this_length, .ref a_this_sectors, .ref a_this_corners, .int c_this_doubles, .ref a_this_likes, .int c_this_likeMany, .int c_this_pieces, .ref a_this_laid, .ref a_this_isMirrored, .ref a_this_places, .ref a_this_placeMany, .ref a_this_now, .ref a_this_firsts, .ref a_this_forms, .ref a_this_isKept, .ref a_this_keptFigures, .ref a_this_keptPieces, .ref a_this_keptLaid, .ref a_this_keptMirrored])), (a_this_figures, .inl (cJ, 8, .inr (.inl c_this_figures)))] s.heap.size = A at hD ⊢
  have hA : ∀ q : Nat, s.heap.size ≤ q → A q := fun q h => by rw [← hAe]; exact Or.inr h
  have hS : va_S A s.heap s.heap [] := va_S.rf
  have hl := lv_entry ([.ref a_this, .int x1, .int x2, .int x3]) (n := 6) (Nat.le_of_ble_eq_true rfl)
  rw [lg_entry_eq]
  generalize (lg_sl ([.ref a_this, .int x1, .int x2, .int x3]) ++ List.replicate (6 - (lg_sl ([.ref a_this, .int x1, .int x2, .int x3])).length) Slot.unset).toArray = ls at hl ⊢
  have hl : lv_has ls 6 [(0, .ref a_this), (1, .int x1), (2, .int x2), (3, .int x3)] := hl
  refine hk_Q (fun Q hQ => ?_)
  have h := hf
  unfold f_X8_set at h
  refine lv_iload_n hx hb dX8_set_0 rfl (lv_at hl 1 rfl) ?_
  obtain ⟨r21, hr22, h⟩ := hk_x1 h
  refine vp_callSi (W.runS (As := [.int x1]) (rest := []) ⟨hx, hb, hml, hown, hts⟩ (c_X8_isFigure l x1 _ hr22) (va_cwS 1 hts gX8_set_X8_isFigure rfl rfl rfl zs_X8_isFigure ⟨Nat.le_of_ble_eq_true rfl, Nat.le_of_ble_eq_true rfl⟩) ⟨fun _ _ _ _ q => q, fun _ _ _ => ⟨rfl, trivial⟩⟩ rfl rfl hl.1 rfl (lv_room (Nat.le_of_ble_eq_true rfl)) dX8_set_1 ⟨Nat.zero_le _, Nat.zero_le _⟩) (fun p24 e23 => ?_)
  rw [e23]
  refine lv_if_eq (tgt := 19) hx hb dX8_set_4 (by decide) (fun c25 => ?_) (fun c25 => ?_)
  · replace h := hk_ip c25 h
    refine lv_iconst (v := (-1 : Int32)) hx hb dX8_set_19 (by decide) ?_
    subst hQ
    have h := Option.some.inj h
    simp only [Prod.mk.injEq] at h
    obtain ⟨rfl, rfl⟩ := h
    exact W.iret hx hb hr (fun t ht hW => ⟨⟨_, (), rfl, rfl, by rw [ht]; exact hP, hD⟩, hS.F ht⟩) hS.2.2 dX8_set_20
  replace h := hk_in c25 h
  refine lv_iload_n hx hb dX8_set_7 rfl (lv_at hl 2 rfl) ?_
  refine lv_i2l (v := (x2.toInt64)) hx hb dX8_set_8 rfl ?_
  refine lv_lconst (v := (0 : Int64)) hx hb dX8_set_9 (by decide) ?_
  refine lv_ldc2 (v := (63 : Int64)) hx hb hown (hts (.constantLong RX8 116 (63)) (List.mem_of_getElem? (i := 1) rfl)) dX8_set_10 ?_
  obtain ⟨r26, hr27, h⟩ := hk_x1 h
  refine vp_callSi (W.runS (As := [.long (x2.toInt64), .long (0 : Int64), .long (63 : Int64)]) (rest := []) ⟨hx, hb, hml, hown, hts⟩ (c_X8_in l (x2.toInt64) (0 : Int64) (63 : Int64) _ hr27) (va_cwS 3 hts gX8_set_X8_in rfl rfl rfl zs_X8_in ⟨Nat.le_of_ble_eq_true rfl, Nat.le_of_ble_eq_true rfl⟩) ⟨fun _ _ _ _ q => q, fun _ _ _ => ⟨rfl, trivial⟩⟩ rfl rfl hl.1 rfl (lv_room (Nat.le_of_ble_eq_true rfl)) dX8_set_13 ⟨Nat.zero_le _, Nat.zero_le _⟩) (fun p29 e28 => ?_)
  rw [e28]
  refine lv_if_ne (tgt := 21) hx hb dX8_set_16 (by decide) (fun c30 => ?_) (fun c30 => ?_)
  · replace h := hk_in c30 h
    refine lv_aload_n hx hb dX8_set_21 rfl (lv_at hl 0 rfl) ?_
    refine va_get (D := D) (ci := 4) (v := .ref a_this_figures) (C := RX8) (T := TX8) (N := 23) hx hb hts zi_X8_set_X8 hown hK.1 hP 0 rfl rfl 2 (by decide) (hts (.fieldLink RX8 17 "HalfAndHalfAgainModel" "figures" "[J") (List.mem_of_getElem? (i := 2) rfl)) (fun _ h9 => h9) rfl dX8_set_22 ?_
    refine lv_iload_n hx hb dX8_set_25 rfl (lv_at hl 1 rfl) ?_
    obtain ⟨hi31, h⟩ := hk_ge h
    refine va_lald hx hb hK.1 hP 1 1 rfl rfl (hk_inb_of hi31) dX8_set_26 ?_
    obtain ⟨x32, ex32, h⟩ := hk_le h
    refine hk_tl ex32 ?_
    refine lv_lstore (lv' := [(4, .long x32), (0, .ref a_this), (1, .int x1), (2, .int x2), (3, .int x3)]) hx hb dX8_set_27 hl (by decide) rfl (fun ls hl => ?_)
    refine lv_aload_n hx hb dX8_set_29 rfl (lv_at hl 1 rfl) ?_
    refine va_get (D := D) (ci := 4) (v := .ref a_this_figures) (C := RX8) (T := TX8) (N := 23) hx hb hts zi_X8_set_X8 hown hK.1 hP 0 rfl rfl 2 (by decide) (hts (.fieldLink RX8 17 "HalfAndHalfAgainModel" "figures" "[J") (List.mem_of_getElem? (i := 2) rfl)) (fun _ h9 => h9) rfl dX8_set_30 ?_
    refine lv_iload_n hx hb dX8_set_33 rfl (lv_at hl 2 rfl) ?_
    refine lv_iload_n hx hb dX8_set_34 rfl (lv_at hl 4 rfl) ?_
    obtain ⟨v35, g33, h⟩ := hk_lf h
    refine hk_joinR (nL := 6) (xs := fun (t9 : Int64) => (57, [(0, .ref a_this), (1, .int x1), (4, .long x32)], [.long t9, .int x1, .ref a_this_figures])) v35 (fun hjg33 => ?_) ?_
    · refine lv_if_eq (tgt := 47) hx hb dX8_set_35 (by decide) (fun c34 => ?_) (fun c34 => ?_)
      · replace g33 := hk_ip c34 g33
        refine lv_lload hx hb dX8_set_47 (lv_at hl 0 rfl) ?_
        refine lv_lconst (v := (1 : Int64)) hx hb dX8_set_49 (by decide) ?_
        refine lv_iload_n hx hb dX8_set_50 rfl (lv_at hl 3 rfl) ?_
        refine lv_lshl (v := (hk_shl (1 : Int64) x2)) hx hb dX8_set_51 rfl ?_
        refine lv_ldc2 (v := (-1 : Int64)) hx hb hown (hts (.constantLong RX8 118 (-1)) (List.mem_of_getElem? (i := 3) rfl)) dX8_set_52 ?_
        refine lv_lxor hx hb dX8_set_55 ?_
        refine lv_land hx hb dX8_set_56 ?_
        subst g33
        exact hjg33 ls (lv_sub hl [1, 2, 0] rfl)
      replace g33 := hk_in c34 g33
      refine lv_lload hx hb dX8_set_38 (lv_at hl 0 rfl) ?_
      refine lv_lconst (v := (1 : Int64)) hx hb dX8_set_40 (by decide) ?_
      refine lv_iload_n hx hb dX8_set_41 rfl (lv_at hl 3 rfl) ?_
      refine lv_lshl (v := (hk_shl (1 : Int64) x2)) hx hb dX8_set_42 rfl ?_
      refine lv_lor hx hb dX8_set_43 ?_
      refine lv_goto (tgt := 57) hx hb dX8_set_44 (by decide) ?_
      subst g33
      exact hjg33 ls (lv_sub hl [1, 2, 0] rfl)
    intro ls hl
    have hl : lv_has ls 6 [(0, .ref a_this), (1, .int x1), (4, .long x32)] := hl
    show W _ _ _ _ _ _ _ _ _ _ _ _ _ _ _ (F0 m 57 ls [.long v35, .int x1, .ref a_this_figures])
    obtain ⟨hi36, h⟩ := hk_ge h
    refine va_last hx hb hK.1 hP hD hS 1 1 rfl rfl (hk_inb_of hi36) dX8_set_57 (fun H locs hP hD hS => ?_)
    have hP : va_P D vwCl [(a_this, .inr (4, [.ref a_this_near, .ref a_this_turned, .ref a_this_figures, .ref a_this_text, .int c_this_length, .ref a_this_sectors, .ref a_this_corners, .int c_this_doubles, .ref a_this_likes, .int c_this_likeMany, .int c_this_pieces, .ref a_this_laid, .ref a_this_isMirrored, .ref a_this_places, .ref a_this_placeMany, .ref a_this_now, .ref a_this_firsts, .ref a_this_forms, .ref a_this_isKept, .ref a_this_keptFigures, .ref a_this_keptPieces, .ref a_this_keptLaid, .ref a_this_keptMirrored])), (a_this_figures, .inl (cJ, 8, .inr (.inl (vp_updL c_this_figures x1.toNatClampNeg v35))))] H := hP
    have hD : va_D A [(a_this, .inr (4, [.ref a_this_near, .ref a_this_turned, .ref a_this_figures, .ref a_this_text, .int c_this_length, .ref a_this_sectors, .ref a_this_corners, .int c_this_doubles, .ref a_this_likes, .int c_this_likeMany, .int c_this_pieces, .ref a_this_laid, .ref a_this_isMirrored, .ref a_this_places, .ref a_this_placeMany, .ref a_this_now, .ref a_this_firsts, .ref a_this_forms, .ref a_this_isKept, .ref a_this_keptFigures, .ref a_this_keptPieces, .ref a_this_keptLaid, .ref a_this_keptMirrored])), (a_this_figures, .inl (cJ, 8, .inr (.inl (vp_updL c_this_figures x1.toNatClampNeg v35))))] := hD
    refine lv_lload hx hb dX8_set_58 (lv_at hl 2 rfl) ?_
    refine lv_aload_n hx hb dX8_set_60 rfl (lv_at hl 0 rfl) ?_
    refine va_get (D := D) (ci := 4) (v := .ref a_this_figures) (C := RX8) (T := TX8) (N := 23) hx hb hts zi_X8_set_X8 hown hK.1 hP 0 rfl rfl 2 (by decide) (hts (.fieldLink RX8 17 "HalfAndHalfAgainModel" "figures" "[J") (List.mem_of_getElem? (i := 2) rfl)) (fun _ h9 => h9) rfl dX8_set_61 ?_
    refine lv_iload_n hx hb dX8_set_64 rfl (lv_at hl 1 rfl) ?_
    obtain ⟨hi37, h⟩ := hk_ge h
    refine va_lald hx hb hK.1 hP 1 1 rfl rfl (hk_inb_of hi37) dX8_set_65 ?_
    refine hk_lcmp_ne (tgt := 74) hx hb dX8_set_66 dX8_set_67 (by decide) (fun c38 => ?_) (fun c38 => ?_)
    · replace h := hk_in c38 h
      refine lv_iconst (v := (1 : Int32)) hx hb dX8_set_74 (by decide) ?_
      subst hQ
      have h := Option.some.inj h
      simp only [Prod.mk.injEq] at h
      obtain ⟨rfl, rfl⟩ := h
      exact W.iret hx hb hr (fun t ht hW => ⟨⟨_, (), rfl, rfl, by rw [ht]; exact hP, hD⟩, hS.F ht⟩) hS.2.2 dX8_set_75
    replace h := hk_ip c38 h
    refine lv_iconst (v := (0 : Int32)) hx hb dX8_set_70 (by decide) ?_
    refine lv_goto (tgt := 75) hx hb dX8_set_71 (by decide) ?_
    subst hQ
    have h := Option.some.inj h
    simp only [Prod.mk.injEq] at h
    obtain ⟨rfl, rfl⟩ := h
    exact W.iret hx hb hr (fun t ht hW => ⟨⟨_, (), rfl, rfl, by rw [ht]; exact hP, hD⟩, hS.F ht⟩) hS.2.2 dX8_set_75
  replace h := hk_ip c30 h
  refine lv_iconst (v := (-1 : Int32)) hx hb dX8_set_19 (by decide) ?_
  subst hQ
  have h := Option.some.inj h
  simp only [Prod.mk.injEq] at h
  obtain ⟨rfl, rfl⟩ := h
  exact W.iret hx hb hr (fun t ht hW => ⟨⟨_, (), rfl, rfl, by rw [ht]; exact hP, hD⟩, hS.F ht⟩) hS.2.2 dX8_set_20
theorem zv_X8_size : yX8_size.cls = RX8 ∧ yX8_size.cls ≠ "java/lang/invoke/MethodHandle" ∧ yX8_size.cls ≠ "java/lang/invoke/VarHandle" ∧ (parseMethodDescriptor yX8_size.desc).map (fun d => d.parameters.length) = some 1 := by decide +kernel
def f_X8_size (c_this_figures : Nat → Int64)  (x1 : Int32) : Option Int32 := hk_b1 (f_X8_isFigure x1) fun r21 => if r21 = 0 then (some (-1 : Int32)) else (hk_gd (hk_inb x1 8) (hk_b1 (f_X8_ones (c_this_figures x1.toNatClampNeg)) fun r27 => some r27))
theorem zi_X8_size_X8 : ∀ w ∈ u_ws RX8 TX8 23, w ∈ wsX8_size := by decide +kernel
set_option maxHeartbeats 8000000 in
set_option maxRecDepth 100000 in
theorem c_X8_size (l : Launch) (D : va_G) (cI cJ cZ cO : ClassId) (a_this a_this_near a_this_turned a_this_figures a_this_text a_this_sectors a_this_corners a_this_likes a_this_laid a_this_isMirrored a_this_places a_this_placeMany a_this_now a_this_firsts a_this_forms a_this_isKept a_this_keptFigures a_this_keptPieces a_this_keptLaid a_this_keptMirrored : Nat) (c_this_length : Int32) (c_this_doubles : Int32) (c_this_likeMany : Int32) (c_this_pieces : Int32) (c_this_figures : Nat → Int64) (x1 : Int32) (rv : Int32) (hf : f_X8_size c_this_figures x1 = some rv) : Met l yX8_size wsX8_size ({ frames := 2, cells := 0, slots := 0, locals := 45 }) (va_Pc [.ref a_this, .int x1] (hkR D cI cJ cZ cO [(a_this, .inr (4, [.ref a_this_near, .ref a_this_turned, .ref a_this_figures, .ref a_this_text, .int c_this_length, .ref a_this_sectors, .ref a_this_corners, .int c_this_doubles, .ref a_this_likes, .int c_this_likeMany, .int c_this_pieces, .ref a_this_laid, .ref a_this_isMirrored, .ref a_this_places, .ref a_this_placeMany, .ref a_this_now, .ref a_this_firsts, .ref a_this_forms, .ref a_this_isKept, .ref a_this_keptFigures, .ref a_this_keptPieces, .ref a_this_keptLaid, .ref a_this_keptMirrored])), (a_this_figures, .inl (cJ, 8, .inr (.inl c_this_figures)))])) (vp_Si (fun r => r = rv)) 0 0 (fun _ => False) := by
  refine Met.ofW (cc := cX8_size) (maxL := 2) (ret := (some .int)) (by decide) rfl ?_
  intro p e s m args below meth c s₁ B hml hv
  obtain ⟨rfl, hP, hK⟩ := hv
  have hx := B.exec
  have hb := B.bytes
  have hr := B.returns
  have hts := atoms_spec (ws := wsX8_size) B.pre
  have hown : s.vm.findClass RX8 = some m.cls := findClass_of_methodNamed B.named
  have hlocks := B.notSynchronized
  have hN := hK.2
  have hl := lv_entry ([.ref a_this, .int x1]) (n := 2) (Nat.le_of_ble_eq_true rfl)
  rw [lg_entry_eq]
  generalize (lg_sl ([.ref a_this, .int x1]) ++ List.replicate (2 - (lg_sl ([.ref a_this, .int x1])).length) Slot.unset).toArray = ls at hl ⊢
  have hl : lv_has ls 2 [(0, .ref a_this), (1, .int x1)] := hl
  refine hk_Q (fun Q hQ => ?_)
  have h := hf
  unfold f_X8_size at h
  refine lv_iload_n hx hb dX8_size_0 rfl (lv_at hl 1 rfl) ?_
  obtain ⟨r21, hr22, h⟩ := hk_x1 h
  refine vp_callSi (W.runS (As := [.int x1]) (rest := []) ⟨hx, hb, hml, hown, hts⟩ (c_X8_isFigure l x1 _ hr22) (va_cwS 1 hts gX8_size_X8_isFigure rfl rfl rfl zs_X8_isFigure ⟨Nat.le_of_ble_eq_true rfl, Nat.le_of_ble_eq_true rfl⟩) ⟨fun _ _ _ _ q => q, fun _ _ _ => ⟨rfl, trivial⟩⟩ rfl rfl hl.1 rfl (lv_room (Nat.le_of_ble_eq_true rfl)) dX8_size_1 ⟨Nat.zero_le _, Nat.zero_le _⟩) (fun p24 e23 => ?_)
  rw [e23]
  refine lv_if_eq (tgt := 19) hx hb dX8_size_4 (by decide) (fun c25 => ?_) (fun c25 => ?_)
  · replace h := hk_ip c25 h
    refine lv_iconst (v := (-1 : Int32)) hx hb dX8_size_19 (by decide) ?_
    subst hQ
    exact W.iret hx hb hr (fun t ht hW => ⟨_, rfl, Option.some.inj h, ht⟩) (fun _ h9 => by cases h9) dX8_size_20
  replace h := hk_in c25 h
  refine lv_aload_n hx hb dX8_size_7 rfl (lv_at hl 0 rfl) ?_
  refine va_get (D := D) (ci := 4) (v := .ref a_this_figures) (C := RX8) (T := TX8) (N := 23) hx hb hts zi_X8_size_X8 hown hK.1 hP 0 rfl rfl 2 (by decide) (hts (.fieldLink RX8 17 "HalfAndHalfAgainModel" "figures" "[J") (List.mem_of_getElem? (i := 1) rfl)) (fun _ h9 => h9) rfl dX8_size_8 ?_
  refine lv_iload_n hx hb dX8_size_11 rfl (lv_at hl 1 rfl) ?_
  obtain ⟨hi26, h⟩ := hk_ge h
  refine va_lald hx hb hK.1 hP 1 1 rfl rfl (hk_inb_of hi26) dX8_size_12 ?_
  obtain ⟨r27, hr28, h⟩ := hk_x1 h
  refine vp_callSi (W.runS (As := [.long (c_this_figures x1.toNatClampNeg)]) (rest := []) ⟨hx, hb, hml, hown, hts⟩ (c_X8_ones l (c_this_figures x1.toNatClampNeg) _ hr28) (va_cwS 1 hts gX8_size_X8_ones rfl rfl rfl zs_X8_ones ⟨Nat.le_of_ble_eq_true rfl, Nat.le_of_ble_eq_true rfl⟩) ⟨fun _ _ _ _ q => q, fun _ _ _ => ⟨rfl, trivial⟩⟩ rfl rfl hl.1 rfl (lv_room (Nat.le_of_ble_eq_true rfl)) dX8_size_13 ⟨Nat.zero_le _, Nat.zero_le _⟩) (fun p30 e29 => ?_)
  rw [e29]
  refine lv_goto (tgt := 20) hx hb dX8_size_16 (by decide) ?_
  subst hQ
  exact W.iret hx hb hr (fun t ht hW => ⟨_, rfl, Option.some.inj h, ht⟩) (fun _ h9 => by cases h9) dX8_size_20
theorem zv_X8_partAt : yX8_partAt.cls = RX8 ∧ yX8_partAt.cls ≠ "java/lang/invoke/MethodHandle" ∧ yX8_partAt.cls ≠ "java/lang/invoke/VarHandle" ∧ (parseMethodDescriptor yX8_partAt.desc).map (fun d => d.parameters.length) = some 2 := by decide +kernel
def st_X8_partAt_23c (c_this_near : Nat → Int64) (x1 : Int64) (y27 : Int64) (y28 : Int32) : Option ((Int64 × Int32) ⊕ Int64) := if (64 : Int32) ≤ y28 then (some (.inr y27)) else (hk_b1 (f_X8_has y27 y28) fun r30 => hk_b1 (if r30 = 0 then (some (0 : Int64)) else (hk_gd (hk_inb y28 64) (some ((c_this_near y28.toNatClampNeg) &&& x1)))) fun v37 => hk_let (y27 ||| v37) fun x38 => hk_let (y28 + (1 : Int32)) fun x39 => some (.inl (x38, x39)))
def st_X8_partAt_23 (c_this_near : Nat → Int64) (x1 : Int64) (t9 : (Int64 × Int32)) : Option ((Int64 × Int32) ⊕ Int64) := st_X8_partAt_23c c_this_near x1 t9.1 t9.2
def st_X8_partAt_8c (c_this_near : Nat → Int64) (x1 : Int64) (y23 : Int64) (y24 : Int64) : Option ((Int64 × Int64) ⊕ Int64) := if y23 = y24 then (some (.inr y23)) else (hk_b1 (hk_wl (st_X8_partAt_23 c_this_near x1) hkF (y23, (0 : Int32))) fun z41 => some (.inl (z41, y23)))
def st_X8_partAt_8 (c_this_near : Nat → Int64) (x1 : Int64) (t9 : (Int64 × Int64)) : Option ((Int64 × Int64) ⊕ Int64) := st_X8_partAt_8c c_this_near x1 t9.1 t9.2
def f_X8_partAt (c_this_near : Nat → Int64)  (x1 : Int64) (x3 : Int32) : Option Int64 := hk_let (hk_shl (1 : Int64) x3) fun x21 => hk_b1 (hk_wl (st_X8_partAt_8 c_this_near x1) hkF (x21, (0 : Int64))) fun z45 => some z45
theorem zi_X8_partAt_X8 : ∀ w ∈ u_ws RX8 TX8 23, w ∈ wsX8_partAt := by decide +kernel
set_option maxHeartbeats 8000000 in
set_option maxRecDepth 100000 in
theorem c_X8_partAt (l : Launch) (D : va_G) (cI cJ cZ cO : ClassId) (a_this a_this_near a_this_turned a_this_figures a_this_text a_this_sectors a_this_corners a_this_likes a_this_laid a_this_isMirrored a_this_places a_this_placeMany a_this_now a_this_firsts a_this_forms a_this_isKept a_this_keptFigures a_this_keptPieces a_this_keptLaid a_this_keptMirrored : Nat) (c_this_length : Int32) (c_this_doubles : Int32) (c_this_likeMany : Int32) (c_this_pieces : Int32) (c_this_near : Nat → Int64) (x1 : Int64) (x3 : Int32) (rv : Int64) (hf : f_X8_partAt c_this_near x1 x3 = some rv) : Met l yX8_partAt wsX8_partAt ({ frames := 1, cells := 0, slots := 0, locals := 22 }) (va_Pc [.ref a_this, .long x1, .int x3] (hkR D cI cJ cZ cO [(a_this, .inr (4, [.ref a_this_near, .ref a_this_turned, .ref a_this_figures, .ref a_this_text, .int c_this_length, .ref a_this_sectors, .ref a_this_corners, .int c_this_doubles, .ref a_this_likes, .int c_this_likeMany, .int c_this_pieces, .ref a_this_laid, .ref a_this_isMirrored, .ref a_this_places, .ref a_this_placeMany, .ref a_this_now, .ref a_this_firsts, .ref a_this_forms, .ref a_this_isKept, .ref a_this_keptFigures, .ref a_this_keptPieces, .ref a_this_keptLaid, .ref a_this_keptMirrored])), (a_this_near, .inl (cJ, 64, .inr (.inl c_this_near)))])) (vp_Sl (fun r => r = rv)) 0 0 (fun _ => False) := by
  refine Met.ofW (cc := cX8_partAt) (maxL := 9) (ret := (some .long)) (by decide) rfl ?_
  intro p e s m args below meth c s₁ B hml hv
  obtain ⟨rfl, hP, hK⟩ := hv
  have hx := B.exec
  have hb := B.bytes
  have hr := B.returns
  have hts := atoms_spec (ws := wsX8_partAt) B.pre
  have hown : s.vm.findClass RX8 = some m.cls := findClass_of_methodNamed B.named
  have hlocks := B.notSynchronized
  have hN := hK.2
  have hl := lv_entry ([.ref a_this, .long x1, .int x3]) (n := 9) (Nat.le_of_ble_eq_true rfl)
  rw [lg_entry_eq]
  generalize (lg_sl ([.ref a_this, .long x1, .int x3]) ++ List.replicate (9 - (lg_sl ([.ref a_this, .long x1, .int x3])).length) Slot.unset).toArray = ls at hl ⊢
  have hl : lv_has ls 9 [(0, .ref a_this), (1, .long x1), (3, .int x3)] := hl
  refine hk_Q (fun Q hQ => ?_)
  have h := hf
  unfold f_X8_partAt at h
  refine lv_lconst (v := (1 : Int64)) hx hb dX8_partAt_0 (by decide) ?_
  refine lv_iload_n hx hb dX8_partAt_1 rfl (lv_at hl 2 rfl) ?_
  refine lv_lshl (v := (hk_shl (1 : Int64) x3)) hx hb dX8_partAt_2 rfl ?_
  obtain ⟨x21, ex21, h⟩ := hk_le h
  refine hk_tl ex21 ?_
  refine lv_lstore (lv' := [(4, .long x21), (0, .ref a_this), (1, .long x1), (3, .int x3)]) hx hb dX8_partAt_3 hl (by decide) rfl (fun ls hl => ?_)
  refine lv_lconst (v := (0 : Int64)) hx hb dX8_partAt_5 (by decide) ?_
  refine lv_lstore (lv' := [(6, .long (0 : Int64)), (4, .long x21), (0, .ref a_this), (1, .long x1), (3, .int x3)]) hx hb dX8_partAt_6 hl (by decide) rfl (fun ls hl => ?_)
  obtain ⟨z45, hr44, h⟩ := hk_x1 h
  refine hk_loopR (f := st_X8_partAt_8 c_this_near x1) (hd := 8) (nL := 9) (lv := fun t9 => [(0, .ref a_this), (1, .long x1), (4, .long t9.1), (6, .long t9.2)]) (xs := fun t9 => (67, [(4, .long t9)], [])) ?_ hr44 ?_ (lv_sub hl [2, 3, 1, 0] rfl)
  · intro t46 q47 k22 hck22 hqk22 ls hl
    obtain ⟨y23, y24⟩ := t46
    have k22 : st_X8_partAt_8c c_this_near x1 y23 y24 = some q47 := k22
    unfold st_X8_partAt_8c at k22
    have hl : lv_has ls 9 [(0, .ref a_this), (1, .long x1), (4, .long y23), (6, .long y24)] := hl
    refine lv_lload hx hb dX8_partAt_8 (lv_at hl 2 rfl) ?_
    refine lv_lload hx hb dX8_partAt_10 (lv_at hl 3 rfl) ?_
    refine hk_lcmp_eq (tgt := 67) hx hb dX8_partAt_12 dX8_partAt_13 (by decide) (fun c25 => ?_) (fun c25 => ?_)
    · replace k22 := hk_ip c25 k22
      exact hqk22 y23 (Option.some.inj k22).symm ls (lv_sub hl [2] rfl)
    replace k22 := hk_in c25 k22
    refine lv_lload hx hb dX8_partAt_16 (lv_at hl 2 rfl) ?_
    refine lv_lstore (lv' := [(6, .long y23), (0, .ref a_this), (1, .long x1), (4, .long y23)]) hx hb dX8_partAt_18 hl (by decide) rfl (fun ls hl => ?_)
    refine lv_iconst (v := (0 : Int32)) hx hb dX8_partAt_20 (by decide) ?_
    refine lv_istore (lv' := [(8, .int (0 : Int32)), (6, .long y23), (0, .ref a_this), (1, .long x1), (4, .long y23)]) hx hb dX8_partAt_21 hl (by decide) rfl (fun ls hl => ?_)
    obtain ⟨z41, hr40, k22⟩ := hk_x1 k22
    refine hk_loopR (f := st_X8_partAt_23 c_this_near x1) (hd := 23) (nL := 9) (lv := fun t9 => [(0, .ref a_this), (1, .long x1), (4, .long t9.1), (6, .long y23), (8, .int t9.2)]) (xs := fun t9 => (64, [(0, .ref a_this), (1, .long x1), (4, .long t9), (6, .long y23)], [])) ?_ hr40 ?_ (lv_sub hl [2, 3, 4, 1, 0] rfl)
    · intro t42 q43 k26 hck26 hqk26 ls hl
      obtain ⟨y27, y28⟩ := t42
      have k26 : st_X8_partAt_23c c_this_near x1 y27 y28 = some q43 := k26
      unfold st_X8_partAt_23c at k26
      have hl : lv_has ls 9 [(0, .ref a_this), (1, .long x1), (4, .long y27), (6, .long y23), (8, .int y28)] := hl
      refine lv_iload hx hb dX8_partAt_23 (lv_at hl 4 rfl) ?_
      refine lv_bipush (v := (64 : Int32)) hx hb dX8_partAt_25 (by decide) ?_
      refine lv_icmp_ge (tgt := 64) hx hb dX8_partAt_27 (by decide) (fun c29 => ?_) (fun c29 => ?_)
      · replace k26 := hk_ip c29 k26
        exact hqk26 y27 (Option.some.inj k26).symm ls (lv_sub hl [0, 1, 2, 3] rfl)
      replace k26 := hk_in c29 k26
      refine lv_lload hx hb dX8_partAt_30 (lv_at hl 2 rfl) ?_
      refine lv_lload hx hb dX8_partAt_32 (lv_at hl 2 rfl) ?_
      refine lv_iload hx hb dX8_partAt_34 (lv_at hl 4 rfl) ?_
      obtain ⟨r30, hr31, k26⟩ := hk_x1 k26
      refine vp_callSi (W.runS (As := [.long y27, .int y28]) (rest := [.long y27]) ⟨hx, hb, hml, hown, hts⟩ (c_X8_has l y27 y28 _ hr31) (va_cwS 2 hts gX8_partAt_X8_has rfl rfl rfl zs_X8_has ⟨Nat.le_of_ble_eq_true rfl, Nat.le_of_ble_eq_true rfl⟩) ⟨fun _ _ _ _ q => q, fun _ _ _ => ⟨rfl, trivial⟩⟩ rfl rfl hl.1 rfl (lv_room (Nat.le_of_ble_eq_true rfl)) dX8_partAt_36 ⟨Nat.zero_le _, Nat.zero_le _⟩) (fun p33 e32 => ?_)
      rw [e32]
      obtain ⟨v37, g34, k26⟩ := hk_x1 k26
      refine hk_joinR (nL := 9) (xs := fun (t9 : Int64) => (55, [(0, .ref a_this), (1, .long x1), (6, .long y23), (8, .int y28)], [.long t9, .long y27])) v37 (fun hjg34 => ?_) ?_
      · refine lv_if_eq (tgt := 54) hx hb dX8_partAt_39 (by decide) (fun c35 => ?_) (fun c35 => ?_)
        · replace g34 := hk_ip c35 g34
          refine lv_lconst (v := (0 : Int64)) hx hb dX8_partAt_54 (by decide) ?_
          have g34 := Option.some.inj g34
          subst g34
          exact hjg34 ls (lv_sub hl [0, 1, 3, 4] rfl)
        replace g34 := hk_in c35 g34
        refine lv_aload_n hx hb dX8_partAt_42 rfl (lv_at hl 0 rfl) ?_
        refine va_get (D := D) (ci := 4) (v := .ref a_this_near) (C := RX8) (T := TX8) (N := 23) hx hb hts zi_X8_partAt_X8 hown hK.1 hP 0 rfl rfl 0 (by decide) (hts (.fieldLink RX8 7 "HalfAndHalfAgainModel" "near" "[J") (List.mem_of_getElem? (i := 1) rfl)) (fun _ h9 => h9) rfl dX8_partAt_43 ?_
        refine lv_iload hx hb dX8_partAt_46 (lv_at hl 4 rfl) ?_
        obtain ⟨hi36, g34⟩ := hk_ge g34
        refine va_lald hx hb hK.1 hP 1 1 rfl rfl (hk_inb_of hi36) dX8_partAt_48 ?_
        refine lv_lload_n hx hb dX8_partAt_49 rfl (lv_at hl 1 rfl) ?_
        refine lv_land hx hb dX8_partAt_50 ?_
        refine lv_goto (tgt := 55) hx hb dX8_partAt_51 (by decide) ?_
        have g34 := Option.some.inj g34
        subst g34
        exact hjg34 ls (lv_sub hl [0, 1, 3, 4] rfl)
      intro ls hl
      have hl : lv_has ls 9 [(0, .ref a_this), (1, .long x1), (6, .long y23), (8, .int y28)] := hl
      show W _ _ _ _ _ _ _ _ _ _ _ _ _ _ _ (F0 m 55 ls [.long v37, .long y27])
      refine lv_lor hx hb dX8_partAt_55 ?_
      obtain ⟨x38, ex38, k26⟩ := hk_le k26
      refine hk_tl ex38 ?_
      refine lv_lstore (lv' := [(4, .long x38), (0, .ref a_this), (1, .long x1), (6, .long y23), (8, .int y28)]) hx hb dX8_partAt_56 hl (by decide) rfl (fun ls hl => ?_)
      obtain ⟨x39, ex39, k26⟩ := hk_le k26
      refine lv_iinc (v := x39) (lv' := [(8, .int x39), (4, .long x38), (0, .ref a_this), (1, .long x1), (6, .long y23)]) hx hb dX8_partAt_58 hl (k := 4) rfl (by rw [ex39]; rfl) (by decide) rfl (fun ls hl => ?_)
      refine lv_goto (tgt := 23) hx hb dX8_partAt_61 (by decide) ?_
      exact hck26 (x38, x39) (Option.some.inj k26).symm ls (lv_sub hl [2, 3, 1, 4, 0] rfl)
    intro ls hl
    have hl : lv_has ls 9 [(0, .ref a_this), (1, .long x1), (4, .long z41), (6, .long y23)] := hl
    show W _ _ _ _ _ _ _ _ _ _ _ _ _ _ _ (F0 m 64 ls [])
    refine lv_goto (tgt := 8) hx hb dX8_partAt_64 (by decide) ?_
    exact hck22 (z41, y23) (Option.some.inj k22).symm ls (lv_sub hl [0, 1, 2, 3] rfl)
  intro ls hl
  have hl : lv_has ls 9 [(4, .long z45)] := hl
  show W _ _ _ _ _ _ _ _ _ _ _ _ _ _ _ (F0 m 67 ls [])
  refine lv_lload hx hb dX8_partAt_67 (lv_at hl 0 rfl) ?_
  subst hQ
  exact W.lret hx hb hr (fun t ht hW => ⟨_, rfl, Option.some.inj h, ht⟩) (fun _ h9 => by cases h9) dX8_partAt_69
theorem zv_X8_partOf : yX8_partOf.cls = RX8 ∧ yX8_partOf.cls ≠ "java/lang/invoke/MethodHandle" ∧ yX8_partOf.cls ≠ "java/lang/invoke/VarHandle" ∧ (parseMethodDescriptor yX8_partOf.desc).map (fun d => d.parameters.length) = some 2 := by decide +kernel
def st_X8_partOf_9c (c_this_near : Nat → Int64) (x1 : Int64) (x3 : Int32) (y22 : Int64) (y23 : Int32) (y24 : Int32) : Option ((Int64 × Int32 × Int32) ⊕ (Int64 ⊕ Unit)) := if (64 : Int32) ≤ y24 then (some (.inr (.inr ()))) else (hk_b1 (f_X8_has y22 y24) fun r26 => if r26 = 0 then (hk_let (y24 + (1 : Int32)) fun x31 => some (.inl (y22, y23, x31))) else (hk_b1 (f_X8_partAt c_this_near x1 y24) fun r32 => if y23 = x3 then (some (.inr (.inl r32))) else (hk_let (y23 + (1 : Int32)) fun x37 => hk_let (y22 &&& (r32 ^^^ (-1 : Int64))) fun x38 => hk_let (y24 + (1 : Int32)) fun x39 => some (.inl (x38, x37, x39)))))
def st_X8_partOf_9 (c_this_near : Nat → Int64) (x1 : Int64) (x3 : Int32) (t9 : (Int64 × Int32 × Int32)) : Option ((Int64 × Int32 × Int32) ⊕ (Int64 ⊕ Unit)) := st_X8_partOf_9c c_this_near x1 x3 t9.1 t9.2.1 t9.2.2
def f_X8_partOf (c_this_near : Nat → Int64)  (x1 : Int64) (x3 : Int32) : Option Int64 := hk_b1 (hk_wl (st_X8_partOf_9 c_this_near x1 x3) hkF (x1, (0 : Int32), (0 : Int32))) fun r41 => hk_sum r41 (fun z44 => some z44) (fun z45 => some (0 : Int64))
set_option maxHeartbeats 8000000 in
set_option maxRecDepth 100000 in
theorem c_X8_partOf (l : Launch) (D : va_G) (cI cJ cZ cO : ClassId) (a_this a_this_near a_this_turned a_this_figures a_this_text a_this_sectors a_this_corners a_this_likes a_this_laid a_this_isMirrored a_this_places a_this_placeMany a_this_now a_this_firsts a_this_forms a_this_isKept a_this_keptFigures a_this_keptPieces a_this_keptLaid a_this_keptMirrored : Nat) (c_this_length : Int32) (c_this_doubles : Int32) (c_this_likeMany : Int32) (c_this_pieces : Int32) (c_this_near : Nat → Int64) (x1 : Int64) (x3 : Int32) (rv : Int64) (hf : f_X8_partOf c_this_near x1 x3 = some rv) : Met l yX8_partOf wsX8_partOf ({ frames := 2, cells := 0, slots := 0, locals := 50 }) (va_Pc [.ref a_this, .long x1, .int x3] (hkR D cI cJ cZ cO [(a_this, .inr (4, [.ref a_this_near, .ref a_this_turned, .ref a_this_figures, .ref a_this_text, .int c_this_length, .ref a_this_sectors, .ref a_this_corners, .int c_this_doubles, .ref a_this_likes, .int c_this_likeMany, .int c_this_pieces, .ref a_this_laid, .ref a_this_isMirrored, .ref a_this_places, .ref a_this_placeMany, .ref a_this_now, .ref a_this_firsts, .ref a_this_forms, .ref a_this_isKept, .ref a_this_keptFigures, .ref a_this_keptPieces, .ref a_this_keptLaid, .ref a_this_keptMirrored])), (a_this_near, .inl (cJ, 64, .inr (.inl c_this_near)))])) (vp_Sl (fun r => r = rv)) 0 0 (fun _ => False) := by
  refine Met.ofW (cc := cX8_partOf) (maxL := 10) (ret := (some .long)) (by decide) rfl ?_
  intro p e s m args below meth c s₁ B hml hv
  obtain ⟨rfl, hP, hK⟩ := hv
  have hx := B.exec
  have hb := B.bytes
  have hr := B.returns
  have hts := atoms_spec (ws := wsX8_partOf) B.pre
  have hown : s.vm.findClass RX8 = some m.cls := findClass_of_methodNamed B.named
  have hlocks := B.notSynchronized
  have hN := hK.2
  have hl := lv_entry ([.ref a_this, .long x1, .int x3]) (n := 10) (Nat.le_of_ble_eq_true rfl)
  rw [lg_entry_eq]
  generalize (lg_sl ([.ref a_this, .long x1, .int x3]) ++ List.replicate (10 - (lg_sl ([.ref a_this, .long x1, .int x3])).length) Slot.unset).toArray = ls at hl ⊢
  have hl : lv_has ls 10 [(0, .ref a_this), (1, .long x1), (3, .int x3)] := hl
  refine hk_Q (fun Q hQ => ?_)
  have h := hf
  unfold f_X8_partOf at h
  refine lv_lload_n hx hb dX8_partOf_0 rfl (lv_at hl 1 rfl) ?_
  refine lv_lstore (lv' := [(4, .long x1), (0, .ref a_this), (1, .long x1), (3, .int x3)]) hx hb dX8_partOf_1 hl (by decide) rfl (fun ls hl => ?_)
  refine lv_iconst (v := (0 : Int32)) hx hb dX8_partOf_3 (by decide) ?_
  refine lv_istore (lv' := [(6, .int (0 : Int32)), (4, .long x1), (0, .ref a_this), (1, .long x1), (3, .int x3)]) hx hb dX8_partOf_4 hl (by decide) rfl (fun ls hl => ?_)
  refine lv_iconst (v := (0 : Int32)) hx hb dX8_partOf_6 (by decide) ?_
  refine lv_istore (lv' := [(7, .int (0 : Int32)), (6, .int (0 : Int32)), (4, .long x1), (0, .ref a_this), (1, .long x1), (3, .int x3)]) hx hb dX8_partOf_7 hl (by decide) rfl (fun ls hl => ?_)
  obtain ⟨r41, hr40, h⟩ := hk_x1 h
  refine hk_loopR (f := st_X8_partOf_9 c_this_near x1 x3) (hd := 9) (nL := 10) (lv := fun t9 => [(0, .ref a_this), (1, .long x1), (3, .int x3), (4, .long t9.1), (6, .int t9.2.1), (7, .int t9.2.2)]) (xs := fun r9 => match r9 with | .inl t9 => (41, [(8, .long t9)], []) | .inr t9 => (64, [], [])) ?_ hr40 ?_ (lv_sub hl [3, 4, 5, 2, 1, 0] rfl)
  · intro t42 q43 k21 hck21 hqk21 ls hl
    obtain ⟨y22, y23, y24⟩ := t42
    have k21 : st_X8_partOf_9c c_this_near x1 x3 y22 y23 y24 = some q43 := k21
    unfold st_X8_partOf_9c at k21
    have hl : lv_has ls 10 [(0, .ref a_this), (1, .long x1), (3, .int x3), (4, .long y22), (6, .int y23), (7, .int y24)] := hl
    refine lv_iload hx hb dX8_partOf_9 (lv_at hl 5 rfl) ?_
    refine lv_bipush (v := (64 : Int32)) hx hb dX8_partOf_11 (by decide) ?_
    refine lv_icmp_ge (tgt := 64) hx hb dX8_partOf_13 (by decide) (fun c25 => ?_) (fun c25 => ?_)
    · replace k21 := hk_ip c25 k21
      exact hqk21 (.inr ()) (Option.some.inj k21).symm ls (lv_sub hl [] rfl)
    replace k21 := hk_in c25 k21
    refine lv_lload hx hb dX8_partOf_16 (lv_at hl 3 rfl) ?_
    refine lv_iload hx hb dX8_partOf_18 (lv_at hl 5 rfl) ?_
    obtain ⟨r26, hr27, k21⟩ := hk_x1 k21
    refine vp_callSi (W.runS (As := [.long y22, .int y24]) (rest := []) ⟨hx, hb, hml, hown, hts⟩ (c_X8_has l y22 y24 _ hr27) (va_cwS 2 hts gX8_partOf_X8_has rfl rfl rfl zs_X8_has ⟨Nat.le_of_ble_eq_true rfl, Nat.le_of_ble_eq_true rfl⟩) ⟨fun _ _ _ _ q => q, fun _ _ _ => ⟨rfl, trivial⟩⟩ rfl rfl hl.1 rfl (lv_room (Nat.le_of_ble_eq_true rfl)) dX8_partOf_20 ⟨Nat.zero_le _, Nat.zero_le _⟩) (fun p29 e28 => ?_)
    rw [e28]
    refine lv_if_eq (tgt := 58) hx hb dX8_partOf_23 (by decide) (fun c30 => ?_) (fun c30 => ?_)
    · replace k21 := hk_ip c30 k21
      obtain ⟨x31, ex31, k21⟩ := hk_le k21
      refine lv_iinc (v := x31) (lv' := [(7, .int x31), (0, .ref a_this), (1, .long x1), (3, .int x3), (4, .long y22), (6, .int y23)]) hx hb dX8_partOf_58 hl (k := 5) rfl (by rw [ex31]; rfl) (by decide) rfl (fun ls hl => ?_)
      refine lv_goto (tgt := 9) hx hb dX8_partOf_61 (by decide) ?_
      exact hck21 (y22, y23, x31) (Option.some.inj k21).symm ls (lv_sub hl [1, 2, 3, 4, 5, 0] rfl)
    replace k21 := hk_in c30 k21
    refine lv_aload_n hx hb dX8_partOf_26 rfl (lv_at hl 0 rfl) ?_
    refine lv_lload_n hx hb dX8_partOf_27 rfl (lv_at hl 1 rfl) ?_
    refine lv_iload hx hb dX8_partOf_28 (lv_at hl 5 rfl) ?_
    obtain ⟨r32, hr33, k21⟩ := hk_x1 k21
    refine vp_callSl (W.runV (As := [.long x1, .int y24]) (rest := []) ⟨hx, hb, hml, hown, hts⟩ (c_X8_partAt l D cI cJ cZ cO a_this a_this_near a_this_turned a_this_figures a_this_text a_this_sectors a_this_corners a_this_likes a_this_laid a_this_isMirrored a_this_places a_this_placeMany a_this_now a_this_firsts a_this_forms a_this_isKept a_this_keptFigures a_this_keptPieces a_this_keptLaid a_this_keptMirrored c_this_length c_this_doubles c_this_likeMany c_this_pieces c_this_near x1 y24 _ hr33) (cwV 2 hts gX8_partOf_X8_partAt rfl rfl rfl zv_X8_partAt ⟨Nat.le_of_ble_eq_true rfl, Nat.le_of_ble_eq_true rfl⟩) (hk_preRV 4 rfl (hP.sub (ws' := [(a_this, .inr (4, [.ref a_this_near, .ref a_this_turned, .ref a_this_figures, .ref a_this_text, .int c_this_length, .ref a_this_sectors, .ref a_this_corners, .int c_this_doubles, .ref a_this_likes, .int c_this_likeMany, .int c_this_pieces, .ref a_this_laid, .ref a_this_isMirrored, .ref a_this_places, .ref a_this_placeMany, .ref a_this_now, .ref a_this_firsts, .ref a_this_forms, .ref a_this_isKept, .ref a_this_keptFigures, .ref a_this_keptPieces, .ref a_this_keptLaid, .ref a_this_keptMirrored])), (a_this_near, .inl (cJ, 64, .inr (.inl c_this_near)))]) [0, 1] rfl) hK rfl) rfl rfl hl.1 rfl (lv_room (Nat.le_of_ble_eq_true rfl)) dX8_partOf_30 ⟨Nat.zero_le _, Nat.zero_le _⟩) (fun p35 e34 => ?_)
    rw [e34]
    refine lv_lstore (lv' := [(8, .long r32), (0, .ref a_this), (1, .long x1), (3, .int x3), (4, .long y22), (6, .int y23), (7, .int y24)]) hx hb dX8_partOf_33 hl (by decide) rfl (fun ls hl => ?_)
    refine lv_iload hx hb dX8_partOf_35 (lv_at hl 5 rfl) ?_
    refine lv_iload_n hx hb dX8_partOf_37 rfl (lv_at hl 3 rfl) ?_
    refine lv_icmp_ne (tgt := 44) hx hb dX8_partOf_38 (by decide) (fun c36 => ?_) (fun c36 => ?_)
    · replace k21 := hk_in c36 k21
      obtain ⟨x37, ex37, k21⟩ := hk_le k21
      refine lv_iinc (v := x37) (lv' := [(6, .int x37), (8, .long r32), (0, .ref a_this), (1, .long x1), (3, .int x3), (4, .long y22), (7, .int y24)]) hx hb dX8_partOf_44 hl (k := 5) rfl (by rw [ex37]; rfl) (by decide) rfl (fun ls hl => ?_)
      refine lv_lload hx hb dX8_partOf_47 (lv_at hl 5 rfl) ?_
      refine lv_lload hx hb dX8_partOf_49 (lv_at hl 1 rfl) ?_
      refine lv_ldc2 (v := (-1 : Int64)) hx hb hown (hts (.constantLong RX8 118 (-1)) (List.mem_of_getElem? (i := 1) rfl)) dX8_partOf_51 ?_
      refine lv_lxor hx hb dX8_partOf_54 ?_
      refine lv_land hx hb dX8_partOf_55 ?_
      obtain ⟨x38, ex38, k21⟩ := hk_le k21
      refine hk_tl ex38 ?_
      refine lv_lstore (lv' := [(4, .long x38), (6, .int x37), (8, .long r32), (0, .ref a_this), (1, .long x1), (3, .int x3), (7, .int y24)]) hx hb dX8_partOf_56 hl (by decide) rfl (fun ls hl => ?_)
      obtain ⟨x39, ex39, k21⟩ := hk_le k21
      refine lv_iinc (v := x39) (lv' := [(7, .int x39), (4, .long x38), (6, .int x37), (8, .long r32), (0, .ref a_this), (1, .long x1), (3, .int x3)]) hx hb dX8_partOf_58 hl (k := 6) rfl (by rw [ex39]; rfl) (by decide) rfl (fun ls hl => ?_)
      refine lv_goto (tgt := 9) hx hb dX8_partOf_61 (by decide) ?_
      exact hck21 (x38, x37, x39) (Option.some.inj k21).symm ls (lv_sub hl [4, 5, 6, 1, 2, 0] rfl)
    replace k21 := hk_ip c36 k21
    exact hqk21 (.inl r32) (Option.some.inj k21).symm ls (lv_sub hl [0] rfl)
  intro ls hl
  rcases r41 with r41 | r41
  · replace h := hk_sa h
    generalize r41 = z44 at h hl ⊢
    have hl : lv_has ls 10 [(8, .long z44)] := hl
    show W _ _ _ _ _ _ _ _ _ _ _ _ _ _ _ (F0 m 41 ls [])
    refine lv_lload hx hb dX8_partOf_41 (lv_at hl 0 rfl) ?_
    subst hQ
    exact W.lret hx hb hr (fun t ht hW => ⟨_, rfl, Option.some.inj h, ht⟩) (fun _ h9 => by cases h9) dX8_partOf_43
  · replace h := hk_sb h
    generalize r41 = z45 at h hl ⊢
    have hl : lv_has ls 10 [] := hl
    show W _ _ _ _ _ _ _ _ _ _ _ _ _ _ _ (F0 m 64 ls [])
    refine lv_lconst (v := (0 : Int64)) hx hb dX8_partOf_64 (by decide) ?_
    subst hQ
    exact W.lret hx hb hr (fun t ht hW => ⟨_, rfl, Option.some.inj h, ht⟩) (fun _ h9 => by cases h9) dX8_partOf_65
theorem zv_X8_partsOf : yX8_partsOf.cls = RX8 ∧ yX8_partsOf.cls ≠ "java/lang/invoke/MethodHandle" ∧ yX8_partsOf.cls ≠ "java/lang/invoke/VarHandle" ∧ (parseMethodDescriptor yX8_partsOf.desc).map (fun d => d.parameters.length) = some 1 := by decide +kernel
def st_X8_partsOf_2c (c_this_near : Nat → Int64) (x1 : Int64) (y22 : Int32) : Option (Int32 ⊕ Int32) := hk_b1 (f_X8_partOf c_this_near x1 y22) fun r23 => if r23 = (0 : Int64) then (some (.inr y22)) else (hk_let (y22 + (1 : Int32)) fun x28 => some (.inl x28))
def st_X8_partsOf_2 (c_this_near : Nat → Int64) (x1 : Int64) (t9 : Int32) : Option (Int32 ⊕ Int32) := st_X8_partsOf_2c c_this_near x1 t9
def f_X8_partsOf (c_this_near : Nat → Int64)  (x1 : Int64) : Option Int32 := hk_b1 (hk_wl (st_X8_partsOf_2 c_this_near x1) hkF (0 : Int32)) fun z30 => some z30
set_option maxHeartbeats 8000000 in
set_option maxRecDepth 100000 in
theorem c_X8_partsOf (l : Launch) (D : va_G) (cI cJ cZ cO : ClassId) (a_this a_this_near a_this_turned a_this_figures a_this_text a_this_sectors a_this_corners a_this_likes a_this_laid a_this_isMirrored a_this_places a_this_placeMany a_this_now a_this_firsts a_this_forms a_this_isKept a_this_keptFigures a_this_keptPieces a_this_keptLaid a_this_keptMirrored : Nat) (c_this_length : Int32) (c_this_doubles : Int32) (c_this_likeMany : Int32) (c_this_pieces : Int32) (c_this_near : Nat → Int64) (x1 : Int64) (rv : Int32) (hf : f_X8_partsOf c_this_near x1 = some rv) : Met l yX8_partsOf wsX8_partsOf ({ frames := 3, cells := 0, slots := 0, locals := 79 }) (va_Pc [.ref a_this, .long x1] (hkR D cI cJ cZ cO [(a_this, .inr (4, [.ref a_this_near, .ref a_this_turned, .ref a_this_figures, .ref a_this_text, .int c_this_length, .ref a_this_sectors, .ref a_this_corners, .int c_this_doubles, .ref a_this_likes, .int c_this_likeMany, .int c_this_pieces, .ref a_this_laid, .ref a_this_isMirrored, .ref a_this_places, .ref a_this_placeMany, .ref a_this_now, .ref a_this_firsts, .ref a_this_forms, .ref a_this_isKept, .ref a_this_keptFigures, .ref a_this_keptPieces, .ref a_this_keptLaid, .ref a_this_keptMirrored])), (a_this_near, .inl (cJ, 64, .inr (.inl c_this_near)))])) (vp_Si (fun r => r = rv)) 0 0 (fun _ => False) := by
  refine Met.ofW (cc := cX8_partsOf) (maxL := 4) (ret := (some .int)) (by decide) rfl ?_
  intro p e s m args below meth c s₁ B hml hv
  obtain ⟨rfl, hP, hK⟩ := hv
  have hx := B.exec
  have hb := B.bytes
  have hr := B.returns
  have hts := atoms_spec (ws := wsX8_partsOf) B.pre
  have hown : s.vm.findClass RX8 = some m.cls := findClass_of_methodNamed B.named
  have hlocks := B.notSynchronized
  have hN := hK.2
  have hl := lv_entry ([.ref a_this, .long x1]) (n := 4) (Nat.le_of_ble_eq_true rfl)
  rw [lg_entry_eq]
  generalize (lg_sl ([.ref a_this, .long x1]) ++ List.replicate (4 - (lg_sl ([.ref a_this, .long x1])).length) Slot.unset).toArray = ls at hl ⊢
  have hl : lv_has ls 4 [(0, .ref a_this), (1, .long x1)] := hl
  refine hk_Q (fun Q hQ => ?_)
  have h := hf
  unfold f_X8_partsOf at h
  refine lv_iconst (v := (0 : Int32)) hx hb dX8_partsOf_0 (by decide) ?_
  refine lv_istore_n (lv' := [(3, .int (0 : Int32)), (0, .ref a_this), (1, .long x1)]) hx hb dX8_partsOf_1 rfl hl (by decide) rfl (fun ls hl => ?_)
  obtain ⟨z30, hr29, h⟩ := hk_x1 h
  refine hk_loopR (f := st_X8_partsOf_2 c_this_near x1) (hd := 2) (nL := 4) (lv := fun t9 => [(0, .ref a_this), (1, .long x1), (3, .int t9)]) (xs := fun t9 => (19, [(3, .int t9)], [])) ?_ hr29 ?_ (lv_sub hl [1, 2, 0] rfl)
  · intro y22 q32 k21 hck21 hqk21 ls hl
    have k21 : st_X8_partsOf_2c c_this_near x1 y22 = some q32 := k21
    unfold st_X8_partsOf_2c at k21
    have hl : lv_has ls 4 [(0, .ref a_this), (1, .long x1), (3, .int y22)] := hl
    refine lv_aload_n hx hb dX8_partsOf_2 rfl (lv_at hl 0 rfl) ?_
    refine lv_lload_n hx hb dX8_partsOf_3 rfl (lv_at hl 1 rfl) ?_
    refine lv_iload_n hx hb dX8_partsOf_4 rfl (lv_at hl 2 rfl) ?_
    obtain ⟨r23, hr24, k21⟩ := hk_x1 k21
    refine vp_callSl (W.runV (As := [.long x1, .int y22]) (rest := []) ⟨hx, hb, hml, hown, hts⟩ (c_X8_partOf l D cI cJ cZ cO a_this a_this_near a_this_turned a_this_figures a_this_text a_this_sectors a_this_corners a_this_likes a_this_laid a_this_isMirrored a_this_places a_this_placeMany a_this_now a_this_firsts a_this_forms a_this_isKept a_this_keptFigures a_this_keptPieces a_this_keptLaid a_this_keptMirrored c_this_length c_this_doubles c_this_likeMany c_this_pieces c_this_near x1 y22 _ hr24) (cwV 2 hts gX8_partsOf_X8_partOf rfl rfl rfl zv_X8_partOf ⟨Nat.le_of_ble_eq_true rfl, Nat.le_of_ble_eq_true rfl⟩) (hk_preRV 4 rfl (hP.sub (ws' := [(a_this, .inr (4, [.ref a_this_near, .ref a_this_turned, .ref a_this_figures, .ref a_this_text, .int c_this_length, .ref a_this_sectors, .ref a_this_corners, .int c_this_doubles, .ref a_this_likes, .int c_this_likeMany, .int c_this_pieces, .ref a_this_laid, .ref a_this_isMirrored, .ref a_this_places, .ref a_this_placeMany, .ref a_this_now, .ref a_this_firsts, .ref a_this_forms, .ref a_this_isKept, .ref a_this_keptFigures, .ref a_this_keptPieces, .ref a_this_keptLaid, .ref a_this_keptMirrored])), (a_this_near, .inl (cJ, 64, .inr (.inl c_this_near)))]) [0, 1] rfl) hK rfl) rfl rfl hl.1 rfl (lv_room (Nat.le_of_ble_eq_true rfl)) dX8_partsOf_5 ⟨Nat.zero_le _, Nat.zero_le _⟩) (fun p26 e25 => ?_)
    rw [e25]
    refine lv_lconst (v := (0 : Int64)) hx hb dX8_partsOf_8 (by decide) ?_
    refine hk_lcmp_eq (tgt := 19) hx hb dX8_partsOf_9 dX8_partsOf_10 (by decide) (fun c27 => ?_) (fun c27 => ?_)
    · replace k21 := hk_ip c27 k21
      exact hqk21 y22 (Option.some.inj k21).symm ls (lv_sub hl [2] rfl)
    replace k21 := hk_in c27 k21
    obtain ⟨x28, ex28, k21⟩ := hk_le k21
    refine lv_iinc (v := x28) (lv' := [(3, .int x28), (0, .ref a_this), (1, .long x1)]) hx hb dX8_partsOf_13 hl (k := 2) rfl (by rw [ex28]; rfl) (by decide) rfl (fun ls hl => ?_)
    refine lv_goto (tgt := 2) hx hb dX8_partsOf_16 (by decide) ?_
    exact hck21 x28 (Option.some.inj k21).symm ls (lv_sub hl [1, 2, 0] rfl)
  intro ls hl
  have hl : lv_has ls 4 [(3, .int z30)] := hl
  show W _ _ _ _ _ _ _ _ _ _ _ _ _ _ _ (F0 m 19 ls [])
  refine lv_iload_n hx hb dX8_partsOf_19 rfl (lv_at hl 0 rfl) ?_
  subst hQ
  exact W.iret hx hb hr (fun t ht hW => ⟨_, rfl, Option.some.inj h, ht⟩) (fun _ h9 => by cases h9) dX8_partsOf_20
