/-! walks printed by wip/whole/gen.py -/
theorem zv_X8_parts : yX8_parts.cls = RX8 ∧ yX8_parts.cls ≠ "java/lang/invoke/MethodHandle" ∧ yX8_parts.cls ≠ "java/lang/invoke/VarHandle" ∧ (parseMethodDescriptor yX8_parts.desc).map (fun d => d.parameters.length) = some 1 := by decide +kernel
def f_X8_parts (c_this_figures : Nat → Int64) (c_this_near : Nat → Int64)  (x1 : Int32) : Option Int32 := hk_b1 (f_X8_isFigure x1) fun r21 => if r21 = 0 then (some (-1 : Int32)) else (hk_gd (hk_inb x1 8) (hk_b1 (f_X8_partsOf c_this_near (c_this_figures x1.toNatClampNeg)) fun r27 => some r27))
theorem zi_X8_parts_X8 : ∀ w ∈ u_ws RX8 TX8 23, w ∈ wsX8_parts := by decide +kernel
set_option maxHeartbeats 8000000 in
set_option maxRecDepth 100000 in
theorem c_X8_parts (l : Launch) (D : va_G) (cI cJ cZ cO : ClassId) (a_this a_this_near a_this_turned a_this_figures a_this_text a_this_sectors a_this_corners a_this_likes a_this_laid a_this_isMirrored a_this_places a_this_placeMany a_this_now a_this_firsts a_this_forms a_this_isKept a_this_keptFigures a_this_keptPieces a_this_keptLaid a_this_keptMirrored : Nat) (c_this_length : Int32) (c_this_doubles : Int32) (c_this_likeMany : Int32) (c_this_pieces : Int32) (c_this_figures : Nat → Int64) (c_this_near : Nat → Int64) (x1 : Int32) (rv : Int32) (hf : f_X8_parts c_this_figures c_this_near x1 = some rv) : Met l yX8_parts wsX8_parts ({ frames := 4, cells := 0, slots := 0, locals := 102 }) (va_Pc [.ref a_this, .int x1] (hkR D cI cJ cZ cO [(a_this, .inr (4, [.ref a_this_near, .ref a_this_turned, .ref a_this_figures, .ref a_this_text, .int c_this_length, .ref a_this_sectors, .ref a_this_corners, .int c_this_doubles, .ref a_this_likes, .int c_this_likeMany, .int c_this_pieces, .ref a_this_laid, .ref a_this_isMirrored, .ref a_this_places, .ref a_this_placeMany, .ref a_this_now, .ref a_this_firsts, .ref a_this_forms, .ref a_this_isKept, .ref a_this_keptFigures, .ref a_this_keptPieces, .ref a_this_keptLaid, .ref a_this_keptMirrored])), (a_this_figures, .inl (cJ, 8, .inr (.inl c_this_figures))), (a_this_near, .inl (cJ, 64, .inr (.inl c_this_near)))])) (vp_Si (fun r => r = rv)) 0 0 (fun _ => False) := by
  refine Met.ofW (cc := cX8_parts) (maxL := 2) (ret := (some .int)) (by decide) rfl ?_
  intro p e s m args below meth c s₁ B hml hv
  obtain ⟨rfl, hP, hK⟩ := hv
  have hx := B.exec
  have hb := B.bytes
  have hr := B.returns
  have hts := atoms_spec (ws := wsX8_parts) B.pre
  have hown : s.vm.findClass RX8 = some m.cls := findClass_of_methodNamed B.named
  have hlocks := B.notSynchronized
  have hN := hK.2
  have hl := lv_entry ([.ref a_this, .int x1]) (n := 2) (Nat.le_of_ble_eq_true rfl)
  rw [lg_entry_eq]
  generalize (lg_sl ([.ref a_this, .int x1]) ++ List.replicate (2 - (lg_sl ([.ref a_this, .int x1])).length) Slot.unset).toArray = ls at hl ⊢
  have hl : lv_has ls 2 [(0, .ref a_this), (1, .int x1)] := hl
  refine hk_Q (fun Q hQ => ?_)
  have h := hf
  unfold f_X8_parts at h
  refine lv_iload_n hx hb dX8_parts_0 rfl (lv_at hl 1 rfl) ?_
  obtain ⟨r21, hr22, h⟩ := hk_x1 h
  refine vp_callSi (W.runS (As := [.int x1]) (rest := []) ⟨hx, hb, hml, hown, hts⟩ (c_X8_isFigure l x1 _ hr22) (va_cwS 1 hts gX8_parts_X8_isFigure rfl rfl rfl zs_X8_isFigure ⟨Nat.le_of_ble_eq_true rfl, Nat.le_of_ble_eq_true rfl⟩) ⟨fun _ _ _ _ q => q, fun _ _ _ => ⟨rfl, trivial⟩⟩ rfl rfl hl.1 rfl (lv_room (Nat.le_of_ble_eq_true rfl)) dX8_parts_1 ⟨Nat.zero_le _, Nat.zero_le _⟩) (fun p24 e23 => ?_)
  rw [e23]
  refine lv_if_eq (tgt := 20) hx hb dX8_parts_4 (by decide) (fun c25 => ?_) (fun c25 => ?_)
  · replace h := hk_ip c25 h
    refine lv_iconst (v := (-1 : Int32)) hx hb dX8_parts_20 (by decide) ?_
    subst hQ
    exact W.iret hx hb hr (fun t ht hW => ⟨_, rfl, Option.some.inj h, ht⟩) (fun _ h9 => by cases h9) dX8_parts_21
  replace h := hk_in c25 h
  refine lv_aload_n hx hb dX8_parts_7 rfl (lv_at hl 0 rfl) ?_
  refine lv_aload_n hx hb dX8_parts_8 rfl (lv_at hl 0 rfl) ?_
  refine va_get (D := D) (ci := 4) (v := .ref a_this_figures) (C := RX8) (T := TX8) (N := 23) hx hb hts zi_X8_parts_X8 hown hK.1 hP 0 rfl rfl 2 (by decide) (hts (.fieldLink RX8 17 "HalfAndHalfAgainModel" "figures" "[J") (List.mem_of_getElem? (i := 1) rfl)) (fun _ h9 => h9) rfl dX8_parts_9 ?_
  refine lv_iload_n hx hb dX8_parts_12 rfl (lv_at hl 1 rfl) ?_
  obtain ⟨hi26, h⟩ := hk_ge h
  refine va_lald hx hb hK.1 hP 1 1 rfl rfl (hk_inb_of hi26) dX8_parts_13 ?_
  obtain ⟨r27, hr28, h⟩ := hk_x1 h
  refine vp_callSi (W.runV (As := [.long (c_this_figures x1.toNatClampNeg)]) (rest := []) ⟨hx, hb, hml, hown, hts⟩ (c_X8_partsOf l D cI cJ cZ cO a_this a_this_near a_this_turned a_this_figures a_this_text a_this_sectors a_this_corners a_this_likes a_this_laid a_this_isMirrored a_this_places a_this_placeMany a_this_now a_this_firsts a_this_forms a_this_isKept a_this_keptFigures a_this_keptPieces a_this_keptLaid a_this_keptMirrored c_this_length c_this_doubles c_this_likeMany c_this_pieces c_this_near (c_this_figures x1.toNatClampNeg) _ hr28) (cwV 1 hts gX8_parts_X8_partsOf rfl rfl rfl zv_X8_partsOf ⟨Nat.le_of_ble_eq_true rfl, Nat.le_of_ble_eq_true rfl⟩) (hk_preRV 4 rfl (hP.sub (ws' := [(a_this, .inr (4, [.ref a_this_near, .ref a_this_turned, .ref a_this_figures, .ref a_this_text, .int c_this_length, .ref a_this_sectors, .ref a_this_corners, .int c_this_doubles, .ref a_this_likes, .int c_this_likeMany, .int c_this_pieces, .ref a_this_laid, .ref a_this_isMirrored, .ref a_this_places, .ref a_this_placeMany, .ref a_this_now, .ref a_this_firsts, .ref a_this_forms, .ref a_this_isKept, .ref a_this_keptFigures, .ref a_this_keptPieces, .ref a_this_keptLaid, .ref a_this_keptMirrored])), (a_this_near, .inl (cJ, 64, .inr (.inl c_this_near)))]) [0, 2] rfl) hK rfl) rfl rfl hl.1 rfl (lv_room (Nat.le_of_ble_eq_true rfl)) dX8_parts_14 ⟨Nat.zero_le _, Nat.zero_le _⟩) (fun p30 e29 => ?_)
  rw [e29]
  refine lv_goto (tgt := 21) hx hb dX8_parts_17 (by decide) ?_
  subst hQ
  exact W.iret hx hb hr (fun t ht hW => ⟨_, rfl, Option.some.inj h, ht⟩) (fun _ h9 => by cases h9) dX8_parts_21
theorem zv_X8_holesOf : yX8_holesOf.cls = RX8 ∧ yX8_holesOf.cls ≠ "java/lang/invoke/MethodHandle" ∧ yX8_holesOf.cls ≠ "java/lang/invoke/VarHandle" ∧ (parseMethodDescriptor yX8_holesOf.desc).map (fun d => d.parameters.length) = some 1 := by decide +kernel
def st_X8_holesOf_40c (r29 : Int64) (y34 : Int32) (y35 : Int32) : Option ((Int32 × Int32) ⊕ Int32) := if (64 : Int32) ≤ y35 then (some (.inr y34)) else (hk_b1 (if y34 = 0 then (hk_b1 (f_X8_has r29 y35) fun r39 => if r39 = 0 then (some (0 : Int32)) else (hk_b1 (f_X8_beside y35) fun r44 => if r44 = (-9 : Int32) then (some (1 : Int32)) else (some (0 : Int32)))) else (some (1 : Int32))) fun v49 => hk_let (y35 + (1 : Int32)) fun x50 => some (.inl (v49, x50)))
def st_X8_holesOf_40 (r29 : Int64) (t9 : (Int32 × Int32)) : Option ((Int32 × Int32) ⊕ Int32) := st_X8_holesOf_40c r29 t9.1 t9.2
def st_X8_holesOf_5c (c_this_near : Nat → Int64) (x1 : Int64) (y22 : Int32) (y23 : Int32) : Option ((Int32 × Int32) ⊕ Int32) := hk_b1 (f_X8_partOf c_this_near (x1 ^^^ (-1 : Int64)) y23) fun r24 => if r24 = (0 : Int64) then (some (.inr y22)) else (hk_b1 (f_X8_partOf c_this_near (x1 ^^^ (-1 : Int64)) y23) fun r29 => hk_b1 (hk_wl (st_X8_holesOf_40 r29) hkF ((0 : Int32), (0 : Int32))) fun z52 => hk_let (if z52 = 0 then ((1 : Int32)) else ((0 : Int32))) fun v57 => hk_let (y22 + v57) fun x58 => hk_let (y23 + (1 : Int32)) fun x59 => some (.inl (x58, x59)))
def st_X8_holesOf_5 (c_this_near : Nat → Int64) (x1 : Int64) (t9 : (Int32 × Int32)) : Option ((Int32 × Int32) ⊕ Int32) := st_X8_holesOf_5c c_this_near x1 t9.1 t9.2
def f_X8_holesOf (c_this_near : Nat → Int64)  (x1 : Int64) : Option Int32 := hk_b1 (hk_wl (st_X8_holesOf_5 c_this_near x1) hkF ((0 : Int32), (0 : Int32))) fun z61 => some z61
set_option maxHeartbeats 8000000 in
set_option maxRecDepth 100000 in
theorem c_X8_holesOf (l : Launch) (D : va_G) (cI cJ cZ cO : ClassId) (a_this a_this_near a_this_turned a_this_figures a_this_text a_this_sectors a_this_corners a_this_likes a_this_laid a_this_isMirrored a_this_places a_this_placeMany a_this_now a_this_firsts a_this_forms a_this_isKept a_this_keptFigures a_this_keptPieces a_this_keptLaid a_this_keptMirrored : Nat) (c_this_length : Int32) (c_this_doubles : Int32) (c_this_likeMany : Int32) (c_this_pieces : Int32) (c_this_near : Nat → Int64) (x1 : Int64) (rv : Int32) (hf : f_X8_holesOf c_this_near x1 = some rv) : Met l yX8_holesOf wsX8_holesOf ({ frames := 3, cells := 0, slots := 0, locals := 79 }) (va_Pc [.ref a_this, .long x1] (hkR D cI cJ cZ cO [(a_this, .inr (4, [.ref a_this_near, .ref a_this_turned, .ref a_this_figures, .ref a_this_text, .int c_this_length, .ref a_this_sectors, .ref a_this_corners, .int c_this_doubles, .ref a_this_likes, .int c_this_likeMany, .int c_this_pieces, .ref a_this_laid, .ref a_this_isMirrored, .ref a_this_places, .ref a_this_placeMany, .ref a_this_now, .ref a_this_firsts, .ref a_this_forms, .ref a_this_isKept, .ref a_this_keptFigures, .ref a_this_keptPieces, .ref a_this_keptLaid, .ref a_this_keptMirrored])), (a_this_near, .inl (cJ, 64, .inr (.inl c_this_near)))])) (vp_Si (fun r => r = rv)) 0 0 (fun _ => False) := by
  refine Met.ofW (cc := cX8_holesOf) (maxL := 9) (ret := (some .int)) (by decide) rfl ?_
  intro p e s m args below meth c s₁ B hml hv
  obtain ⟨rfl, hP, hK⟩ := hv
  have hx := B.exec
  have hb := B.bytes
  have hr := B.returns
  have hts := atoms_spec (ws := wsX8_holesOf) B.pre
  have hown : s.vm.findClass RX8 = some m.cls := findClass_of_methodNamed B.named
  have hlocks := B.notSynchronized
  have hN := hK.2
  have hl := lv_entry ([.ref a_this, .long x1]) (n := 9) (Nat.le_of_ble_eq_true rfl)
  rw [lg_entry_eq]
  generalize (lg_sl ([.ref a_this, .long x1]) ++ List.replicate (9 - (lg_sl ([.ref a_this, .long x1])).length) Slot.unset).toArray = ls at hl ⊢
  have hl : lv_has ls 9 [(0, .ref a_this), (1, .long x1)] := hl
  refine hk_Q (fun Q hQ => ?_)
  have h := hf
  unfold f_X8_holesOf at h
  refine lv_iconst (v := (0 : Int32)) hx hb dX8_holesOf_0 (by decide) ?_
  refine lv_istore_n (lv' := [(3, .int (0 : Int32)), (0, .ref a_this), (1, .long x1)]) hx hb dX8_holesOf_1 rfl hl (by decide) rfl (fun ls hl => ?_)
  refine lv_iconst (v := (0 : Int32)) hx hb dX8_holesOf_2 (by decide) ?_
  refine lv_istore (lv' := [(4, .int (0 : Int32)), (3, .int (0 : Int32)), (0, .ref a_this), (1, .long x1)]) hx hb dX8_holesOf_3 hl (by decide) rfl (fun ls hl => ?_)
  obtain ⟨z61, hr60, h⟩ := hk_x1 h
  refine hk_loopR (f := st_X8_holesOf_5 c_this_near x1) (hd := 5) (nL := 9) (lv := fun t9 => [(0, .ref a_this), (1, .long x1), (3, .int t9.1), (4, .int t9.2)]) (xs := fun t9 => (104, [(3, .int t9)], [])) ?_ hr60 ?_ (lv_sub hl [2, 3, 1, 0] rfl)
  · intro t62 q63 k21 hck21 hqk21 ls hl
    obtain ⟨y22, y23⟩ := t62
    have k21 : st_X8_holesOf_5c c_this_near x1 y22 y23 = some q63 := k21
    unfold st_X8_holesOf_5c at k21
    have hl : lv_has ls 9 [(0, .ref a_this), (1, .long x1), (3, .int y22), (4, .int y23)] := hl
    refine lv_aload_n hx hb dX8_holesOf_5 rfl (lv_at hl 0 rfl) ?_
    refine lv_lload_n hx hb dX8_holesOf_6 rfl (lv_at hl 1 rfl) ?_
    refine lv_ldc2 (v := (-1 : Int64)) hx hb hown (hts (.constantLong RX8 118 (-1)) (List.mem_of_getElem? (i := 1) rfl)) dX8_holesOf_7 ?_
    refine lv_lxor hx hb dX8_holesOf_10 ?_
    refine lv_iload hx hb dX8_holesOf_11 (lv_at hl 3 rfl) ?_
    obtain ⟨r24, hr25, k21⟩ := hk_x1 k21
    refine vp_callSl (W.runV (As := [.long (x1 ^^^ (-1 : Int64)), .int y23]) (rest := []) ⟨hx, hb, hml, hown, hts⟩ (c_X8_partOf l D cI cJ cZ cO a_this a_this_near a_this_turned a_this_figures a_this_text a_this_sectors a_this_corners a_this_likes a_this_laid a_this_isMirrored a_this_places a_this_placeMany a_this_now a_this_firsts a_this_forms a_this_isKept a_this_keptFigures a_this_keptPieces a_this_keptLaid a_this_keptMirrored c_this_length c_this_doubles c_this_likeMany c_this_pieces c_this_near (x1 ^^^ (-1 : Int64)) y23 _ hr25) (cwV 2 hts gX8_holesOf_X8_partOf rfl rfl rfl zv_X8_partOf ⟨Nat.le_of_ble_eq_true rfl, Nat.le_of_ble_eq_true rfl⟩) (hk_preRV 4 rfl (hP.sub (ws' := [(a_this, .inr (4, [.ref a_this_near, .ref a_this_turned, .ref a_this_figures, .ref a_this_text, .int c_this_length, .ref a_this_sectors, .ref a_this_corners, .int c_this_doubles, .ref a_this_likes, .int c_this_likeMany, .int c_this_pieces, .ref a_this_laid, .ref a_this_isMirrored, .ref a_this_places, .ref a_this_placeMany, .ref a_this_now, .ref a_this_firsts, .ref a_this_forms, .ref a_this_isKept, .ref a_this_keptFigures, .ref a_this_keptPieces, .ref a_this_keptLaid, .ref a_this_keptMirrored])), (a_this_near, .inl (cJ, 64, .inr (.inl c_this_near)))]) [0, 1] rfl) hK rfl) rfl rfl hl.1 rfl (lv_room (Nat.le_of_ble_eq_true rfl)) dX8_holesOf_13 ⟨Nat.zero_le _, Nat.zero_le _⟩) (fun p27 e26 => ?_)
    rw [e26]
    refine lv_lconst (v := (0 : Int64)) hx hb dX8_holesOf_16 (by decide) ?_
    refine hk_lcmp_eq (tgt := 104) hx hb dX8_holesOf_17 dX8_holesOf_18 (by decide) (fun c28 => ?_) (fun c28 => ?_)
    · replace k21 := hk_ip c28 k21
      exact hqk21 y22 (Option.some.inj k21).symm ls (lv_sub hl [2] rfl)
    replace k21 := hk_in c28 k21
    refine lv_aload_n hx hb dX8_holesOf_21 rfl (lv_at hl 0 rfl) ?_
    refine lv_lload_n hx hb dX8_holesOf_22 rfl (lv_at hl 1 rfl) ?_
    refine lv_ldc2 (v := (-1 : Int64)) hx hb hown (hts (.constantLong RX8 118 (-1)) (List.mem_of_getElem? (i := 1) rfl)) dX8_holesOf_23 ?_
    refine lv_lxor hx hb dX8_holesOf_26 ?_
    refine lv_iload hx hb dX8_holesOf_27 (lv_at hl 3 rfl) ?_
    obtain ⟨r29, hr30, k21⟩ := hk_x1 k21
    refine vp_callSl (W.runV (As := [.long (x1 ^^^ (-1 : Int64)), .int y23]) (rest := []) ⟨hx, hb, hml, hown, hts⟩ (c_X8_partOf l D cI cJ cZ cO a_this a_this_near a_this_turned a_this_figures a_this_text a_this_sectors a_this_corners a_this_likes a_this_laid a_this_isMirrored a_this_places a_this_placeMany a_this_now a_this_firsts a_this_forms a_this_isKept a_this_keptFigures a_this_keptPieces a_this_keptLaid a_this_keptMirrored c_this_length c_this_doubles c_this_likeMany c_this_pieces c_this_near (x1 ^^^ (-1 : Int64)) y23 _ hr30) (cwV 2 hts gX8_holesOf_X8_partOf rfl rfl rfl zv_X8_partOf ⟨Nat.le_of_ble_eq_true rfl, Nat.le_of_ble_eq_true rfl⟩) (hk_preRV 4 rfl (hP.sub (ws' := [(a_this, .inr (4, [.ref a_this_near, .ref a_this_turned, .ref a_this_figures, .ref a_this_text, .int c_this_length, .ref a_this_sectors, .ref a_this_corners, .int c_this_doubles, .ref a_this_likes, .int c_this_likeMany, .int c_this_pieces, .ref a_this_laid, .ref a_this_isMirrored, .ref a_this_places, .ref a_this_placeMany, .ref a_this_now, .ref a_this_firsts, .ref a_this_forms, .ref a_this_isKept, .ref a_this_keptFigures, .ref a_this_keptPieces, .ref a_this_keptLaid, .ref a_this_keptMirrored])), (a_this_near, .inl (cJ, 64, .inr (.inl c_this_near)))]) [0, 1] rfl) hK rfl) rfl rfl hl.1 rfl (lv_room (Nat.le_of_ble_eq_true rfl)) dX8_holesOf_29 ⟨Nat.zero_le _, Nat.zero_le _⟩) (fun p32 e31 => ?_)
    rw [e31]
    refine lv_lstore (lv' := [(5, .long r29), (0, .ref a_this), (1, .long x1), (3, .int y22), (4, .int y23)]) hx hb dX8_holesOf_32 hl (by decide) rfl (fun ls hl => ?_)
    refine lv_iconst (v := (0 : Int32)) hx hb dX8_holesOf_34 (by decide) ?_
    refine lv_istore (lv' := [(7, .int (0 : Int32)), (5, .long r29), (0, .ref a_this), (1, .long x1), (3, .int y22), (4, .int y23)]) hx hb dX8_holesOf_35 hl (by decide) rfl (fun ls hl => ?_)
    refine lv_iconst (v := (0 : Int32)) hx hb dX8_holesOf_37 (by decide) ?_
    refine lv_istore (lv' := [(8, .int (0 : Int32)), (7, .int (0 : Int32)), (5, .long r29), (0, .ref a_this), (1, .long x1), (3, .int y22), (4, .int y23)]) hx hb dX8_holesOf_38 hl (by decide) rfl (fun ls hl => ?_)
    obtain ⟨z52, hr51, k21⟩ := hk_x1 k21
    refine hk_loopR (f := st_X8_holesOf_40 r29) (hd := 40) (nL := 9) (lv := fun t9 => [(0, .ref a_this), (1, .long x1), (3, .int y22), (4, .int y23), (5, .long r29), (7, .int t9.1), (8, .int t9.2)]) (xs := fun t9 => (85, [(0, .ref a_this), (1, .long x1), (3, .int y22), (4, .int y23), (7, .int t9)], [])) ?_ hr51 ?_ (lv_sub hl [3, 4, 5, 6, 2, 1, 0] rfl)
    · intro t53 q54 k33 hck33 hqk33 ls hl
      obtain ⟨y34, y35⟩ := t53
      have k33 : st_X8_holesOf_40c r29 y34 y35 = some q54 := k33
      unfold st_X8_holesOf_40c at k33
      have hl : lv_has ls 9 [(0, .ref a_this), (1, .long x1), (3, .int y22), (4, .int y23), (5, .long r29), (7, .int y34), (8, .int y35)] := hl
      refine lv_iload hx hb dX8_holesOf_40 (lv_at hl 6 rfl) ?_
      refine lv_bipush (v := (64 : Int32)) hx hb dX8_holesOf_42 (by decide) ?_
      refine lv_icmp_ge (tgt := 85) hx hb dX8_holesOf_44 (by decide) (fun c36 => ?_) (fun c36 => ?_)
      · replace k33 := hk_ip c36 k33
        exact hqk33 y34 (Option.some.inj k33).symm ls (lv_sub hl [0, 1, 2, 3, 5] rfl)
      replace k33 := hk_in c36 k33
      refine lv_iload hx hb dX8_holesOf_47 (lv_at hl 5 rfl) ?_
      obtain ⟨v49, g37, k33⟩ := hk_x1 k33
      refine hk_joinR (nL := 9) (xs := fun (t9 : Int32) => (77, [(0, .ref a_this), (1, .long x1), (3, .int y22), (4, .int y23), (5, .long r29), (8, .int y35)], [.int t9])) v49 (fun hjg37 => ?_) ?_
      · refine lv_if_ne (tgt := 72) hx hb dX8_holesOf_49 (by decide) (fun c38 => ?_) (fun c38 => ?_)
        · replace g37 := hk_in c38 g37
          refine lv_iconst (v := (1 : Int32)) hx hb dX8_holesOf_72 (by decide) ?_
          refine lv_goto (tgt := 77) hx hb dX8_holesOf_73 (by decide) ?_
          have g37 := Option.some.inj g37
          subst g37
          exact hjg37 ls (lv_sub hl [0, 1, 2, 3, 4, 6] rfl)
        replace g37 := hk_ip c38 g37
        refine lv_lload hx hb dX8_holesOf_52 (lv_at hl 4 rfl) ?_
        refine lv_iload hx hb dX8_holesOf_54 (lv_at hl 6 rfl) ?_
        obtain ⟨r39, hr40, g37⟩ := hk_x1 g37
        refine vp_callSi (W.runS (As := [.long r29, .int y35]) (rest := []) ⟨hx, hb, hml, hown, hts⟩ (c_X8_has l r29 y35 _ hr40) (va_cwS 2 hts gX8_holesOf_X8_has rfl rfl rfl zs_X8_has ⟨Nat.le_of_ble_eq_true rfl, Nat.le_of_ble_eq_true rfl⟩) ⟨fun _ _ _ _ q => q, fun _ _ _ => ⟨rfl, trivial⟩⟩ rfl rfl hl.1 rfl (lv_room (Nat.le_of_ble_eq_true rfl)) dX8_holesOf_56 ⟨Nat.zero_le _, Nat.zero_le _⟩) (fun p42 e41 => ?_)
        rw [e41]
        refine lv_if_eq (tgt := 76) hx hb dX8_holesOf_59 (by decide) (fun c43 => ?_) (fun c43 => ?_)
        · replace g37 := hk_ip c43 g37
          refine lv_iconst (v := (0 : Int32)) hx hb dX8_holesOf_76 (by decide) ?_
          have g37 := Option.some.inj g37
          subst g37
          exact hjg37 ls (lv_sub hl [0, 1, 2, 3, 4, 6] rfl)
        replace g37 := hk_in c43 g37
        refine lv_iload hx hb dX8_holesOf_62 (lv_at hl 6 rfl) ?_
        obtain ⟨r44, hr45, g37⟩ := hk_x1 g37
        refine vp_callSi (W.runS (As := [.int y35]) (rest := []) ⟨hx, hb, hml, hown, hts⟩ (c_X8_beside l y35 _ hr45) (va_cwS 1 hts gX8_holesOf_X8_beside rfl rfl rfl zs_X8_beside ⟨Nat.le_of_ble_eq_true rfl, Nat.le_of_ble_eq_true rfl⟩) ⟨fun _ _ _ _ q => q, fun _ _ _ => ⟨rfl, trivial⟩⟩ rfl rfl hl.1 rfl (lv_room (Nat.le_of_ble_eq_true rfl)) dX8_holesOf_64 ⟨Nat.zero_le _, Nat.zero_le _⟩) (fun p47 e46 => ?_)
        rw [e46]
        refine lv_bipush (v := (-9 : Int32)) hx hb dX8_holesOf_67 (by decide) ?_
        refine lv_icmp_ne (tgt := 76) hx hb dX8_holesOf_69 (by decide) (fun c48 => ?_) (fun c48 => ?_)
        · replace g37 := hk_in c48 g37
          refine lv_iconst (v := (0 : Int32)) hx hb dX8_holesOf_76 (by decide) ?_
          have g37 := Option.some.inj g37
          subst g37
          exact hjg37 ls (lv_sub hl [0, 1, 2, 3, 4, 6] rfl)
        replace g37 := hk_ip c48 g37
        refine lv_iconst (v := (1 : Int32)) hx hb dX8_holesOf_72 (by decide) ?_
        refine lv_goto (tgt := 77) hx hb dX8_holesOf_73 (by decide) ?_
        have g37 := Option.some.inj g37
        subst g37
        exact hjg37 ls (lv_sub hl [0, 1, 2, 3, 4, 6] rfl)
      intro ls hl
      have hl : lv_has ls 9 [(0, .ref a_this), (1, .long x1), (3, .int y22), (4, .int y23), (5, .long r29), (8, .int y35)] := hl
      show W _ _ _ _ _ _ _ _ _ _ _ _ _ _ _ (F0 m 77 ls [.int v49])
      refine lv_istore (lv' := [(7, .int v49), (0, .ref a_this), (1, .long x1), (3, .int y22), (4, .int y23), (5, .long r29), (8, .int y35)]) hx hb dX8_holesOf_77 hl (by decide) rfl (fun ls hl => ?_)
      obtain ⟨x50, ex50, k33⟩ := hk_le k33
      refine lv_iinc (v := x50) (lv' := [(8, .int x50), (7, .int v49), (0, .ref a_this), (1, .long x1), (3, .int y22), (4, .int y23), (5, .long r29)]) hx hb dX8_holesOf_79 hl (k := 6) rfl (by rw [ex50]; rfl) (by decide) rfl (fun ls hl => ?_)
      refine lv_goto (tgt := 40) hx hb dX8_holesOf_82 (by decide) ?_
      exact hck33 (v49, x50) (Option.some.inj k33).symm ls (lv_sub hl [2, 3, 4, 5, 6, 1, 0] rfl)
    intro ls hl
    have hl : lv_has ls 9 [(0, .ref a_this), (1, .long x1), (3, .int y22), (4, .int y23), (7, .int z52)] := hl
    show W _ _ _ _ _ _ _ _ _ _ _ _ _ _ _ (F0 m 85 ls [])
    refine lv_iload_n hx hb dX8_holesOf_85 rfl (lv_at hl 2 rfl) ?_
    refine lv_iload hx hb dX8_holesOf_86 (lv_at hl 4 rfl) ?_
    obtain ⟨v57, g55, k21⟩ := hk_lf k21
    refine hk_joinR (nL := 9) (xs := fun (t9 : Int32) => (96, [(0, .ref a_this), (1, .long x1), (4, .int y23)], [.int t9, .int y22])) v57 (fun hjg55 => ?_) ?_
    · refine lv_if_eq (tgt := 95) hx hb dX8_holesOf_88 (by decide) (fun c56 => ?_) (fun c56 => ?_)
      · replace g55 := hk_ip c56 g55
        refine lv_iconst (v := (1 : Int32)) hx hb dX8_holesOf_95 (by decide) ?_
        subst g55
        exact hjg55 ls (lv_sub hl [0, 1, 3] rfl)
      replace g55 := hk_in c56 g55
      refine lv_iconst (v := (0 : Int32)) hx hb dX8_holesOf_91 (by decide) ?_
      refine lv_goto (tgt := 96) hx hb dX8_holesOf_92 (by decide) ?_
      subst g55
      exact hjg55 ls (lv_sub hl [0, 1, 3] rfl)
    intro ls hl
    have hl : lv_has ls 9 [(0, .ref a_this), (1, .long x1), (4, .int y23)] := hl
    show W _ _ _ _ _ _ _ _ _ _ _ _ _ _ _ (F0 m 96 ls [.int v57, .int y22])
    refine lv_iadd hx hb dX8_holesOf_96 ?_
    obtain ⟨x58, ex58, k21⟩ := hk_le k21
    refine hk_ti ex58 ?_
    refine lv_istore_n (lv' := [(3, .int x58), (0, .ref a_this), (1, .long x1), (4, .int y23)]) hx hb dX8_holesOf_97 rfl hl (by decide) rfl (fun ls hl => ?_)
    obtain ⟨x59, ex59, k21⟩ := hk_le k21
    refine lv_iinc (v := x59) (lv' := [(4, .int x59), (3, .int x58), (0, .ref a_this), (1, .long x1)]) hx hb dX8_holesOf_98 hl (k := 3) rfl (by rw [ex59]; rfl) (by decide) rfl (fun ls hl => ?_)
    refine lv_goto (tgt := 5) hx hb dX8_holesOf_101 (by decide) ?_
    exact hck21 (x58, x59) (Option.some.inj k21).symm ls (lv_sub hl [2, 3, 1, 0] rfl)
  intro ls hl
  have hl : lv_has ls 9 [(3, .int z61)] := hl
  show W _ _ _ _ _ _ _ _ _ _ _ _ _ _ _ (F0 m 104 ls [])
  refine lv_iload_n hx hb dX8_holesOf_104 rfl (lv_at hl 0 rfl) ?_
  subst hQ
  exact W.iret hx hb hr (fun t ht hW => ⟨_, rfl, Option.some.inj h, ht⟩) (fun _ h9 => by cases h9) dX8_holesOf_105
theorem zv_X8_holes : yX8_holes.cls = RX8 ∧ yX8_holes.cls ≠ "java/lang/invoke/MethodHandle" ∧ yX8_holes.cls ≠ "java/lang/invoke/VarHandle" ∧ (parseMethodDescriptor yX8_holes.desc).map (fun d => d.parameters.length) = some 1 := by decide +kernel
def f_X8_holes (c_this_figures : Nat → Int64) (c_this_near : Nat → Int64)  (x1 : Int32) : Option Int32 := hk_b1 (f_X8_isFigure x1) fun r21 => if r21 = 0 then (some (-1 : Int32)) else (hk_gd (hk_inb x1 8) (hk_b1 (f_X8_holesOf c_this_near (c_this_figures x1.toNatClampNeg)) fun r27 => some r27))
theorem zi_X8_holes_X8 : ∀ w ∈ u_ws RX8 TX8 23, w ∈ wsX8_holes := by decide +kernel
set_option maxHeartbeats 8000000 in
set_option maxRecDepth 100000 in
theorem c_X8_holes (l : Launch) (D : va_G) (cI cJ cZ cO : ClassId) (a_this a_this_near a_this_turned a_this_figures a_this_text a_this_sectors a_this_corners a_this_likes a_this_laid a_this_isMirrored a_this_places a_this_placeMany a_this_now a_this_firsts a_this_forms a_this_isKept a_this_keptFigures a_this_keptPieces a_this_keptLaid a_this_keptMirrored : Nat) (c_this_length : Int32) (c_this_doubles : Int32) (c_this_likeMany : Int32) (c_this_pieces : Int32) (c_this_figures : Nat → Int64) (c_this_near : Nat → Int64) (x1 : Int32) (rv : Int32) (hf : f_X8_holes c_this_figures c_this_near x1 = some rv) : Met l yX8_holes wsX8_holes ({ frames := 4, cells := 0, slots := 0, locals := 107 }) (va_Pc [.ref a_this, .int x1] (hkR D cI cJ cZ cO [(a_this, .inr (4, [.ref a_this_near, .ref a_this_turned, .ref a_this_figures, .ref a_this_text, .int c_this_length, .ref a_this_sectors, .ref a_this_corners, .int c_this_doubles, .ref a_this_likes, .int c_this_likeMany, .int c_this_pieces, .ref a_this_laid, .ref a_this_isMirrored, .ref a_this_places, .ref a_this_placeMany, .ref a_this_now, .ref a_this_firsts, .ref a_this_forms, .ref a_this_isKept, .ref a_this_keptFigures, .ref a_this_keptPieces, .ref a_this_keptLaid, .ref a_this_keptMirrored])), (a_this_figures, .inl (cJ, 8, .inr (.inl c_this_figures))), (a_this_near, .inl (cJ, 64, .inr (.inl c_this_near)))])) (vp_Si (fun r => r = rv)) 0 0 (fun _ => False) := by
  refine Met.ofW (cc := cX8_holes) (maxL := 2) (ret := (some .int)) (by decide) rfl ?_
  intro p e s m args below meth c s₁ B hml hv
  obtain ⟨rfl, hP, hK⟩ := hv
  have hx := B.exec
  have hb := B.bytes
  have hr := B.returns
  have hts := atoms_spec (ws := wsX8_holes) B.pre
  have hown : s.vm.findClass RX8 = some m.cls := findClass_of_methodNamed B.named
  have hlocks := B.notSynchronized
  have hN := hK.2
  have hl := lv_entry ([.ref a_this, .int x1]) (n := 2) (Nat.le_of_ble_eq_true rfl)
  rw [lg_entry_eq]
  generalize (lg_sl ([.ref a_this, .int x1]) ++ List.replicate (2 - (lg_sl ([.ref a_this, .int x1])).length) Slot.unset).toArray = ls at hl ⊢
  have hl : lv_has ls 2 [(0, .ref a_this), (1, .int x1)] := hl
  refine hk_Q (fun Q hQ => ?_)
  have h := hf
  unfold f_X8_holes at h
  refine lv_iload_n hx hb dX8_holes_0 rfl (lv_at hl 1 rfl) ?_
  obtain ⟨r21, hr22, h⟩ := hk_x1 h
  refine vp_callSi (W.runS (As := [.int x1]) (rest := []) ⟨hx, hb, hml, hown, hts⟩ (c_X8_isFigure l x1 _ hr22) (va_cwS 1 hts gX8_holes_X8_isFigure rfl rfl rfl zs_X8_isFigure ⟨Nat.le_of_ble_eq_true rfl, Nat.le_of_ble_eq_true rfl⟩) ⟨fun _ _ _ _ q => q, fun _ _ _ => ⟨rfl, trivial⟩⟩ rfl rfl hl.1 rfl (lv_room (Nat.le_of_ble_eq_true rfl)) dX8_holes_1 ⟨Nat.zero_le _, Nat.zero_le _⟩) (fun p24 e23 => ?_)
  rw [e23]
  refine lv_if_eq (tgt := 20) hx hb dX8_holes_4 (by decide) (fun c25 => ?_) (fun c25 => ?_)
  · replace h := hk_ip c25 h
    refine lv_iconst (v := (-1 : Int32)) hx hb dX8_holes_20 (by decide) ?_
    subst hQ
    exact W.iret hx hb hr (fun t ht hW => ⟨_, rfl, Option.some.inj h, ht⟩) (fun _ h9 => by cases h9) dX8_holes_21
  replace h := hk_in c25 h
  refine lv_aload_n hx hb dX8_holes_7 rfl (lv_at hl 0 rfl) ?_
  refine lv_aload_n hx hb dX8_holes_8 rfl (lv_at hl 0 rfl) ?_
  refine va_get (D := D) (ci := 4) (v := .ref a_this_figures) (C := RX8) (T := TX8) (N := 23) hx hb hts zi_X8_holes_X8 hown hK.1 hP 0 rfl rfl 2 (by decide) (hts (.fieldLink RX8 17 "HalfAndHalfAgainModel" "figures" "[J") (List.mem_of_getElem? (i := 1) rfl)) (fun _ h9 => h9) rfl dX8_holes_9 ?_
  refine lv_iload_n hx hb dX8_holes_12 rfl (lv_at hl 1 rfl) ?_
  obtain ⟨hi26, h⟩ := hk_ge h
  refine va_lald hx hb hK.1 hP 1 1 rfl rfl (hk_inb_of hi26) dX8_holes_13 ?_
  obtain ⟨r27, hr28, h⟩ := hk_x1 h
  refine vp_callSi (W.runV (As := [.long (c_this_figures x1.toNatClampNeg)]) (rest := []) ⟨hx, hb, hml, hown, hts⟩ (c_X8_holesOf l D cI cJ cZ cO a_this a_this_near a_this_turned a_this_figures a_this_text a_this_sectors a_this_corners a_this_likes a_this_laid a_this_isMirrored a_this_places a_this_placeMany a_this_now a_this_firsts a_this_forms a_this_isKept a_this_keptFigures a_this_keptPieces a_this_keptLaid a_this_keptMirrored c_this_length c_this_doubles c_this_likeMany c_this_pieces c_this_near (c_this_figures x1.toNatClampNeg) _ hr28) (cwV 1 hts gX8_holes_X8_holesOf rfl rfl rfl zv_X8_holesOf ⟨Nat.le_of_ble_eq_true rfl, Nat.le_of_ble_eq_true rfl⟩) (hk_preRV 4 rfl (hP.sub (ws' := [(a_this, .inr (4, [.ref a_this_near, .ref a_this_turned, .ref a_this_figures, .ref a_this_text, .int c_this_length, .ref a_this_sectors, .ref a_this_corners, .int c_this_doubles, .ref a_this_likes, .int c_this_likeMany, .int c_this_pieces, .ref a_this_laid, .ref a_this_isMirrored, .ref a_this_places, .ref a_this_placeMany, .ref a_this_now, .ref a_this_firsts, .ref a_this_forms, .ref a_this_isKept, .ref a_this_keptFigures, .ref a_this_keptPieces, .ref a_this_keptLaid, .ref a_this_keptMirrored])), (a_this_near, .inl (cJ, 64, .inr (.inl c_this_near)))]) [0, 2] rfl) hK rfl) rfl rfl hl.1 rfl (lv_room (Nat.le_of_ble_eq_true rfl)) dX8_holes_14 ⟨Nat.zero_le _, Nat.zero_le _⟩) (fun p30 e29 => ?_)
  rw [e29]
  refine lv_goto (tgt := 21) hx hb dX8_holes_17 (by decide) ?_
  subst hQ
  exact W.iret hx hb hr (fun t ht hW => ⟨_, rfl, Option.some.inj h, ht⟩) (fun _ h9 => by cases h9) dX8_holes_21
theorem zv_X8_edges : yX8_edges.cls = RX8 ∧ yX8_edges.cls ≠ "java/lang/invoke/MethodHandle" ∧ yX8_edges.cls ≠ "java/lang/invoke/VarHandle" ∧ (parseMethodDescriptor yX8_edges.desc).map (fun d => d.parameters.length) = some 2 := by decide +kernel
def st_X8_edges_14c (c_this_figures : Nat → Int64) (x1 : Int32) (x2 : Int32) (y27 : Int32) (y28 : Int32) : Option ((Int32 × Int32) ⊕ Int32) := if (64 : Int32) ≤ y28 then (some (.inr y27)) else (hk_gd (hk_inb x1 8) (hk_b1 (f_X8_has (c_this_figures x1.toNatClampNeg) y28) fun r31 => hk_let ((y28 - (hk_rem y28 (4 : Int32))) + (hk_rem (y28 + (1 : Int32)) (4 : Int32))) fun x35 => hk_b1 (f_X8_beside y28) fun r36 => hk_b1 (if x2 = 0 then (hk_b1 (if r31 = 0 then (some (0 : Int32)) else (if r36 = (-9 : Int32) then (some (1 : Int32)) else (hk_gd (hk_inb x1 8) (hk_b1 (f_X8_has (c_this_figures x1.toNatClampNeg) r36) fun r46 => if r46 = 0 then (some (1 : Int32)) else (some (0 : Int32)))))) fun v51 => hk_let (y27 + v51) fun x52 => some x52) else (hk_gd (hk_inb x1 8) (hk_b1 (f_X8_has (c_this_figures x1.toNatClampNeg) x35) fun r54 => hk_let (if r31 = r54 then ((0 : Int32)) else ((1 : Int32))) fun v60 => hk_let (y27 + v60) fun x61 => some x61))) fun v62 => hk_let (y28 + (1 : Int32)) fun x63 => some (.inl (v62, x63))))
def st_X8_edges_14 (c_this_figures : Nat → Int64) (x1 : Int32) (x2 : Int32) (t9 : (Int32 × Int32)) : Option ((Int32 × Int32) ⊕ Int32) := st_X8_edges_14c c_this_figures x1 x2 t9.1 t9.2
def f_X8_edges (c_this_figures : Nat → Int64)  (x1 : Int32) (x2 : Int32) : Option Int32 := hk_b1 (f_X8_isFigure x1) fun r21 => if r21 = 0 then (some (-1 : Int32)) else (hk_b1 (hk_wl (st_X8_edges_14 c_this_figures x1 x2) hkF ((0 : Int32), (0 : Int32))) fun z65 => some z65)
theorem zi_X8_edges_X8 : ∀ w ∈ u_ws RX8 TX8 23, w ∈ wsX8_edges := by decide +kernel
set_option maxHeartbeats 8000000 in
set_option maxRecDepth 100000 in
theorem c_X8_edges (l : Launch) (D : va_G) (cI cJ cZ cO : ClassId) (a_this a_this_near a_this_turned a_this_figures a_this_text a_this_sectors a_this_corners a_this_likes a_this_laid a_this_isMirrored a_this_places a_this_placeMany a_this_now a_this_firsts a_this_forms a_this_isKept a_this_keptFigures a_this_keptPieces a_this_keptLaid a_this_keptMirrored : Nat) (c_this_length : Int32) (c_this_doubles : Int32) (c_this_likeMany : Int32) (c_this_pieces : Int32) (c_this_figures : Nat → Int64) (x1 : Int32) (x2 : Int32) (rv : Int32) (hf : f_X8_edges c_this_figures x1 x2 = some rv) : Met l yX8_edges wsX8_edges ({ frames := 2, cells := 0, slots := 0, locals := 48 }) (va_Pc [.ref a_this, .int x1, .int x2] (hkR D cI cJ cZ cO [(a_this, .inr (4, [.ref a_this_near, .ref a_this_turned, .ref a_this_figures, .ref a_this_text, .int c_this_length, .ref a_this_sectors, .ref a_this_corners, .int c_this_doubles, .ref a_this_likes, .int c_this_likeMany, .int c_this_pieces, .ref a_this_laid, .ref a_this_isMirrored, .ref a_this_places, .ref a_this_placeMany, .ref a_this_now, .ref a_this_firsts, .ref a_this_forms, .ref a_this_isKept, .ref a_this_keptFigures, .ref a_this_keptPieces, .ref a_this_keptLaid, .ref a_this_keptMirrored])), (a_this_figures, .inl (cJ, 8, .inr (.inl c_this_figures)))])) (vp_Si (fun r => r = rv)) 0 0 (fun _ => False) := by
  refine Met.ofW (cc := cX8_edges) (maxL := 8) (ret := (some .int)) (by decide) rfl ?_
  intro p e s m args below meth c s₁ B hml hv
  obtain ⟨rfl, hP, hK⟩ := hv
  have hx := B.exec
  have hb := B.bytes
  have hr := B.returns
  have hts := atoms_spec (ws := wsX8_edges) B.pre
  have hown : s.vm.findClass RX8 = some m.cls := findClass_of_methodNamed B.named
  have hlocks := B.notSynchronized
  have hN := hK.2
  have hl := lv_entry ([.ref a_this, .int x1, .int x2]) (n := 8) (Nat.le_of_ble_eq_true rfl)
  rw [lg_entry_eq]
  generalize (lg_sl ([.ref a_this, .int x1, .int x2]) ++ List.replicate (8 - (lg_sl ([.ref a_this, .int x1, .int x2])).length) Slot.unset).toArray = ls at hl ⊢
  have hl : lv_has ls 8 [(0, .ref a_this), (1, .int x1), (2, .int x2)] := hl
  refine hk_Q (fun Q hQ => ?_)
  have h := hf
  unfold f_X8_edges at h
  refine lv_iload_n hx hb dX8_edges_0 rfl (lv_at hl 1 rfl) ?_
  obtain ⟨r21, hr22, h⟩ := hk_x1 h
  refine vp_callSi (W.runS (As := [.int x1]) (rest := []) ⟨hx, hb, hml, hown, hts⟩ (c_X8_isFigure l x1 _ hr22) (va_cwS 1 hts gX8_edges_X8_isFigure rfl rfl rfl zs_X8_isFigure ⟨Nat.le_of_ble_eq_true rfl, Nat.le_of_ble_eq_true rfl⟩) ⟨fun _ _ _ _ q => q, fun _ _ _ => ⟨rfl, trivial⟩⟩ rfl rfl hl.1 rfl (lv_room (Nat.le_of_ble_eq_true rfl)) dX8_edges_1 ⟨Nat.zero_le _, Nat.zero_le _⟩) (fun p24 e23 => ?_)
  rw [e23]
  refine lv_if_ne (tgt := 9) hx hb dX8_edges_4 (by decide) (fun c25 => ?_) (fun c25 => ?_)
  · replace h := hk_in c25 h
    refine lv_iconst (v := (0 : Int32)) hx hb dX8_edges_9 (by decide) ?_
    refine lv_istore_n (lv' := [(3, .int (0 : Int32)), (0, .ref a_this), (1, .int x1), (2, .int x2)]) hx hb dX8_edges_10 rfl hl (by decide) rfl (fun ls hl => ?_)
    refine lv_iconst (v := (0 : Int32)) hx hb dX8_edges_11 (by decide) ?_
    refine lv_istore (lv' := [(4, .int (0 : Int32)), (3, .int (0 : Int32)), (0, .ref a_this), (1, .int x1), (2, .int x2)]) hx hb dX8_edges_12 hl (by decide) rfl (fun ls hl => ?_)
    obtain ⟨z65, hr64, h⟩ := hk_x1 h
    refine hk_loopR (f := st_X8_edges_14 c_this_figures x1 x2) (hd := 14) (nL := 8) (lv := fun t9 => [(0, .ref a_this), (1, .int x1), (2, .int x2), (3, .int t9.1), (4, .int t9.2)]) (xs := fun t9 => (128, [(3, .int t9)], [])) ?_ hr64 ?_ (lv_sub hl [2, 3, 4, 1, 0] rfl)
    · intro t66 q67 k26 hck26 hqk26 ls hl
      obtain ⟨y27, y28⟩ := t66
      have k26 : st_X8_edges_14c c_this_figures x1 x2 y27 y28 = some q67 := k26
      unfold st_X8_edges_14c at k26
      have hl : lv_has ls 8 [(0, .ref a_this), (1, .int x1), (2, .int x2), (3, .int y27), (4, .int y28)] := hl
      refine lv_iload hx hb dX8_edges_14 (lv_at hl 4 rfl) ?_
      refine lv_bipush (v := (64 : Int32)) hx hb dX8_edges_16 (by decide) ?_
      refine lv_icmp_ge (tgt := 128) hx hb dX8_edges_18 (by decide) (fun c29 => ?_) (fun c29 => ?_)
      · replace k26 := hk_ip c29 k26
        exact hqk26 y27 (Option.some.inj k26).symm ls (lv_sub hl [3] rfl)
      replace k26 := hk_in c29 k26
      refine lv_aload_n hx hb dX8_edges_21 rfl (lv_at hl 0 rfl) ?_
      refine va_get (D := D) (ci := 4) (v := .ref a_this_figures) (C := RX8) (T := TX8) (N := 23) hx hb hts zi_X8_edges_X8 hown hK.1 hP 0 rfl rfl 2 (by decide) (hts (.fieldLink RX8 17 "HalfAndHalfAgainModel" "figures" "[J") (List.mem_of_getElem? (i := 1) rfl)) (fun _ h9 => h9) rfl dX8_edges_22 ?_
      refine lv_iload_n hx hb dX8_edges_25 rfl (lv_at hl 1 rfl) ?_
      obtain ⟨hi30, k26⟩ := hk_ge k26
      refine va_lald hx hb hK.1 hP 1 1 rfl rfl (hk_inb_of hi30) dX8_edges_26 ?_
      refine lv_iload hx hb dX8_edges_27 (lv_at hl 4 rfl) ?_
      obtain ⟨r31, hr32, k26⟩ := hk_x1 k26
      refine vp_callSi (W.runS (As := [.long (c_this_figures x1.toNatClampNeg), .int y28]) (rest := []) ⟨hx, hb, hml, hown, hts⟩ (c_X8_has l (c_this_figures x1.toNatClampNeg) y28 _ hr32) (va_cwS 2 hts gX8_edges_X8_has rfl rfl rfl zs_X8_has ⟨Nat.le_of_ble_eq_true rfl, Nat.le_of_ble_eq_true rfl⟩) ⟨fun _ _ _ _ q => q, fun _ _ _ => ⟨rfl, trivial⟩⟩ rfl rfl hl.1 rfl (lv_room (Nat.le_of_ble_eq_true rfl)) dX8_edges_29 ⟨Nat.zero_le _, Nat.zero_le _⟩) (fun p34 e33 => ?_)
      rw [e33]
      refine lv_istore (lv' := [(5, .int r31), (0, .ref a_this), (1, .int x1), (2, .int x2), (3, .int y27), (4, .int y28)]) hx hb dX8_edges_32 hl (by decide) rfl (fun ls hl => ?_)
      refine lv_iload hx hb dX8_edges_34 (lv_at hl 5 rfl) ?_
      refine lv_iload hx hb dX8_edges_36 (lv_at hl 5 rfl) ?_
      refine lv_iconst (v := (4 : Int32)) hx hb dX8_edges_38 (by decide) ?_
      refine lv_irem hx hb dX8_edges_39 (by decide) ?_
      refine hk_ti (y := (hk_rem y28 (4 : Int32))) rfl ?_
      refine lv_isub hx hb dX8_edges_40 ?_
      refine lv_iload hx hb dX8_edges_41 (lv_at hl 5 rfl) ?_
      refine lv_iconst (v := (1 : Int32)) hx hb dX8_edges_43 (by decide) ?_
      refine lv_iadd hx hb dX8_edges_44 ?_
      refine lv_iconst (v := (4 : Int32)) hx hb dX8_edges_45 (by decide) ?_
      refine lv_irem hx hb dX8_edges_46 (by decide) ?_
      refine hk_ti (y := (hk_rem (y28 + (1 : Int32)) (4 : Int32))) rfl ?_
      refine lv_iadd hx hb dX8_edges_47 ?_
      obtain ⟨x35, ex35, k26⟩ := hk_le k26
      refine hk_ti ex35 ?_
      refine lv_istore (lv' := [(6, .int x35), (5, .int r31), (0, .ref a_this), (1, .int x1), (2, .int x2), (3, .int y27), (4, .int y28)]) hx hb dX8_edges_48 hl (by decide) rfl (fun ls hl => ?_)
      refine lv_iload hx hb dX8_edges_50 (lv_at hl 6 rfl) ?_
      obtain ⟨r36, hr37, k26⟩ := hk_x1 k26
      refine vp_callSi (W.runS (As := [.int y28]) (rest := []) ⟨hx, hb, hml, hown, hts⟩ (c_X8_beside l y28 _ hr37) (va_cwS 1 hts gX8_edges_X8_beside rfl rfl rfl zs_X8_beside ⟨Nat.le_of_ble_eq_true rfl, Nat.le_of_ble_eq_true rfl⟩) ⟨fun _ _ _ _ q => q, fun _ _ _ => ⟨rfl, trivial⟩⟩ rfl rfl hl.1 rfl (lv_room (Nat.le_of_ble_eq_true rfl)) dX8_edges_52 ⟨Nat.zero_le _, Nat.zero_le _⟩) (fun p39 e38 => ?_)
      rw [e38]
      refine lv_istore (lv' := [(7, .int r36), (6, .int x35), (5, .int r31), (0, .ref a_this), (1, .int x1), (2, .int x2), (3, .int y27), (4, .int y28)]) hx hb dX8_edges_55 hl (by decide) rfl (fun ls hl => ?_)
      refine lv_iload_n hx hb dX8_edges_57 rfl (lv_at hl 5 rfl) ?_
      obtain ⟨v62, g40, k26⟩ := hk_x1 k26
      refine hk_joinR (nL := 8) (xs := fun (t9 : Int32) => (122, [(0, .ref a_this), (1, .int x1), (2, .int x2), (3, .int t9), (4, .int y28)], [])) v62 (fun hjg40 => ?_) ?_
      · refine lv_if_eq (tgt := 88) hx hb dX8_edges_58 (by decide) (fun c41 => ?_) (fun c41 => ?_)
        · replace g40 := hk_ip c41 g40
          refine lv_iload_n hx hb dX8_edges_88 rfl (lv_at hl 6 rfl) ?_
          refine lv_iload hx hb dX8_edges_89 (lv_at hl 2 rfl) ?_
          obtain ⟨v51, g42, g40⟩ := hk_x1 g40
          refine hk_joinR (nL := 8) (xs := fun (t9 : Int32) => (120, [(0, .ref a_this), (1, .int x1), (2, .int x2), (4, .int y28)], [.int t9, .int y27])) v51 (fun hjg42 => ?_) ?_
          · refine lv_if_eq (tgt := 119) hx hb dX8_edges_91 (by decide) (fun c43 => ?_) (fun c43 => ?_)
            · replace g42 := hk_ip c43 g42
              refine lv_iconst (v := (0 : Int32)) hx hb dX8_edges_119 (by decide) ?_
              have g42 := Option.some.inj g42
              subst g42
              exact hjg42 ls (lv_sub hl [3, 4, 5, 7] rfl)
            replace g42 := hk_in c43 g42
            refine lv_iload hx hb dX8_edges_94 (lv_at hl 0 rfl) ?_
            refine lv_bipush (v := (-9 : Int32)) hx hb dX8_edges_96 (by decide) ?_
            refine lv_icmp_eq (tgt := 115) hx hb dX8_edges_98 (by decide) (fun c44 => ?_) (fun c44 => ?_)
            · replace g42 := hk_ip c44 g42
              refine lv_iconst (v := (1 : Int32)) hx hb dX8_edges_115 (by decide) ?_
              refine lv_goto (tgt := 120) hx hb dX8_edges_116 (by decide) ?_
              have g42 := Option.some.inj g42
              subst g42
              exact hjg42 ls (lv_sub hl [3, 4, 5, 7] rfl)
            replace g42 := hk_in c44 g42
            refine lv_aload_n hx hb dX8_edges_101 rfl (lv_at hl 3 rfl) ?_
            refine va_get (D := D) (ci := 4) (v := .ref a_this_figures) (C := RX8) (T := TX8) (N := 23) hx hb hts zi_X8_edges_X8 hown hK.1 hP 0 rfl rfl 2 (by decide) (hts (.fieldLink RX8 17 "HalfAndHalfAgainModel" "figures" "[J") (List.mem_of_getElem? (i := 1) rfl)) (fun _ h9 => h9) rfl dX8_edges_102 ?_
            refine lv_iload_n hx hb dX8_edges_105 rfl (lv_at hl 4 rfl) ?_
            obtain ⟨hi45, g42⟩ := hk_ge g42
            refine va_lald hx hb hK.1 hP 1 1 rfl rfl (hk_inb_of hi45) dX8_edges_106 ?_
            refine lv_iload hx hb dX8_edges_107 (lv_at hl 0 rfl) ?_
            obtain ⟨r46, hr47, g42⟩ := hk_x1 g42
            refine vp_callSi (W.runS (As := [.long (c_this_figures x1.toNatClampNeg), .int r36]) (rest := [.int y27]) ⟨hx, hb, hml, hown, hts⟩ (c_X8_has l (c_this_figures x1.toNatClampNeg) r36 _ hr47) (va_cwS 2 hts gX8_edges_X8_has rfl rfl rfl zs_X8_has ⟨Nat.le_of_ble_eq_true rfl, Nat.le_of_ble_eq_true rfl⟩) ⟨fun _ _ _ _ q => q, fun _ _ _ => ⟨rfl, trivial⟩⟩ rfl rfl hl.1 rfl (lv_room (Nat.le_of_ble_eq_true rfl)) dX8_edges_109 ⟨Nat.zero_le _, Nat.zero_le _⟩) (fun p49 e48 => ?_)
            rw [e48]
            refine lv_if_ne (tgt := 119) hx hb dX8_edges_112 (by decide) (fun c50 => ?_) (fun c50 => ?_)
            · replace g42 := hk_in c50 g42
              refine lv_iconst (v := (0 : Int32)) hx hb dX8_edges_119 (by decide) ?_
              have g42 := Option.some.inj g42
              subst g42
              exact hjg42 ls (lv_sub hl [3, 4, 5, 7] rfl)
            replace g42 := hk_ip c50 g42
            refine lv_iconst (v := (1 : Int32)) hx hb dX8_edges_115 (by decide) ?_
            refine lv_goto (tgt := 120) hx hb dX8_edges_116 (by decide) ?_
            have g42 := Option.some.inj g42
            subst g42
            exact hjg42 ls (lv_sub hl [3, 4, 5, 7] rfl)
          intro ls hl
          have hl : lv_has ls 8 [(0, .ref a_this), (1, .int x1), (2, .int x2), (4, .int y28)] := hl
          show W _ _ _ _ _ _ _ _ _ _ _ _ _ _ _ (F0 m 120 ls [.int v51, .int y27])
          refine lv_iadd hx hb dX8_edges_120 ?_
          obtain ⟨x52, ex52, g40⟩ := hk_le g40
          refine hk_ti ex52 ?_
          refine lv_istore_n (lv' := [(3, .int x52), (0, .ref a_this), (1, .int x1), (2, .int x2), (4, .int y28)]) hx hb dX8_edges_121 rfl hl (by decide) rfl (fun ls hl => ?_)
          have g40 := Option.some.inj g40
          subst g40
          exact hjg40 ls (lv_sub hl [1, 2, 3, 0, 4] rfl)
        replace g40 := hk_in c41 g40
        refine lv_iload_n hx hb dX8_edges_61 rfl (lv_at hl 6 rfl) ?_
        refine lv_iload hx hb dX8_edges_62 (lv_at hl 2 rfl) ?_
        refine lv_aload_n hx hb dX8_edges_64 rfl (lv_at hl 3 rfl) ?_
        refine va_get (D := D) (ci := 4) (v := .ref a_this_figures) (C := RX8) (T := TX8) (N := 23) hx hb hts zi_X8_edges_X8 hown hK.1 hP 0 rfl rfl 2 (by decide) (hts (.fieldLink RX8 17 "HalfAndHalfAgainModel" "figures" "[J") (List.mem_of_getElem? (i := 1) rfl)) (fun _ h9 => h9) rfl dX8_edges_65 ?_
        refine lv_iload_n hx hb dX8_edges_68 rfl (lv_at hl 4 rfl) ?_
        obtain ⟨hi53, g40⟩ := hk_ge g40
        refine va_lald hx hb hK.1 hP 1 1 rfl rfl (hk_inb_of hi53) dX8_edges_69 ?_
        refine lv_iload hx hb dX8_edges_70 (lv_at hl 1 rfl) ?_
        obtain ⟨r54, hr55, g40⟩ := hk_x1 g40
        refine vp_callSi (W.runS (As := [.long (c_this_figures x1.toNatClampNeg), .int x35]) (rest := [.int r31, .int y27]) ⟨hx, hb, hml, hown, hts⟩ (c_X8_has l (c_this_figures x1.toNatClampNeg) x35 _ hr55) (va_cwS 2 hts gX8_edges_X8_has rfl rfl rfl zs_X8_has ⟨Nat.le_of_ble_eq_true rfl, Nat.le_of_ble_eq_true rfl⟩) ⟨fun _ _ _ _ q => q, fun _ _ _ => ⟨rfl, trivial⟩⟩ rfl rfl hl.1 rfl (lv_room (Nat.le_of_ble_eq_true rfl)) dX8_edges_72 ⟨Nat.zero_le _, Nat.zero_le _⟩) (fun p57 e56 => ?_)
        rw [e56]
        obtain ⟨v60, g58, g40⟩ := hk_lf g40
        refine hk_joinR (nL := 8) (xs := fun (t9 : Int32) => (83, [(0, .ref a_this), (1, .int x1), (2, .int x2), (4, .int y28)], [.int t9, .int y27])) v60 (fun hjg58 => ?_) ?_
        · refine lv_icmp_eq (tgt := 82) hx hb dX8_edges_75 (by decide) (fun c59 => ?_) (fun c59 => ?_)
          · replace g58 := hk_ip c59 g58
            refine lv_iconst (v := (0 : Int32)) hx hb dX8_edges_82 (by decide) ?_
            subst g58
            exact hjg58 ls (lv_sub hl [3, 4, 5, 7] rfl)
          replace g58 := hk_in c59 g58
          refine lv_iconst (v := (1 : Int32)) hx hb dX8_edges_78 (by decide) ?_
          refine lv_goto (tgt := 83) hx hb dX8_edges_79 (by decide) ?_
          subst g58
          exact hjg58 ls (lv_sub hl [3, 4, 5, 7] rfl)
        intro ls hl
        have hl : lv_has ls 8 [(0, .ref a_this), (1, .int x1), (2, .int x2), (4, .int y28)] := hl
        show W _ _ _ _ _ _ _ _ _ _ _ _ _ _ _ (F0 m 83 ls [.int v60, .int y27])
        refine lv_iadd hx hb dX8_edges_83 ?_
        obtain ⟨x61, ex61, g40⟩ := hk_le g40
        refine hk_ti ex61 ?_
        refine lv_istore_n (lv' := [(3, .int x61), (0, .ref a_this), (1, .int x1), (2, .int x2), (4, .int y28)]) hx hb dX8_edges_84 rfl hl (by decide) rfl (fun ls hl => ?_)
        refine lv_goto (tgt := 122) hx hb dX8_edges_85 (by decide) ?_
        have g40 := Option.some.inj g40
        subst g40
        exact hjg40 ls (lv_sub hl [1, 2, 3, 0, 4] rfl)
      intro ls hl
      have hl : lv_has ls 8 [(0, .ref a_this), (1, .int x1), (2, .int x2), (3, .int v62), (4, .int y28)] := hl
      show W _ _ _ _ _ _ _ _ _ _ _ _ _ _ _ (F0 m 122 ls [])
      obtain ⟨x63, ex63, k26⟩ := hk_le k26
      refine lv_iinc (v := x63) (lv' := [(4, .int x63), (0, .ref a_this), (1, .int x1), (2, .int x2), (3, .int v62)]) hx hb dX8_edges_122 hl (k := 4) rfl (by rw [ex63]; rfl) (by decide) rfl (fun ls hl => ?_)
      refine lv_goto (tgt := 14) hx hb dX8_edges_125 (by decide) ?_
      exact hck26 (v62, x63) (Option.some.inj k26).symm ls (lv_sub hl [1, 2, 3, 4, 0] rfl)
    intro ls hl
    have hl : lv_has ls 8 [(3, .int z65)] := hl
    show W _ _ _ _ _ _ _ _ _ _ _ _ _ _ _ (F0 m 128 ls [])
    refine lv_iload_n hx hb dX8_edges_128 rfl (lv_at hl 0 rfl) ?_
    subst hQ
    exact W.iret hx hb hr (fun t ht hW => ⟨_, rfl, Option.some.inj h, ht⟩) (fun _ h9 => by cases h9) dX8_edges_129
  replace h := hk_ip c25 h
  refine lv_iconst (v := (-1 : Int32)) hx hb dX8_edges_7 (by decide) ?_
  subst hQ
  exact W.iret hx hb hr (fun t ht hW => ⟨_, rfl, Option.some.inj h, ht⟩) (fun _ h9 => by cases h9) dX8_edges_8
theorem zv_X8_layCorner : yX8_layCorner.cls = RX8 ∧ yX8_layCorner.cls ≠ "java/lang/invoke/MethodHandle" ∧ yX8_layCorner.cls ≠ "java/lang/invoke/VarHandle" ∧ (parseMethodDescriptor yX8_layCorner.desc).map (fun d => d.parameters.length) = some 3 := by decide +kernel
def st_X8_layCorner_3c (x1 : Int64) (x3 : Int32) (x4 : Int32) (y22 : Int32) (w23 : Nat → Int32) : Option ((Int32 × (Nat → Int32)) ⊕ (Nat → Int32)) := if (8 : Int32) ≤ y22 then (some (.inr w23)) else (hk_let (y22 / (2 : Int32)) fun x25 => hk_let (if x25 = 0 then ((x3 - (1 : Int32))) else (if x25 = (3 : Int32) then ((x3 - (1 : Int32))) else (x3))) fun v29 => hk_let (if (2 : Int32) ≤ x25 then ((x4 - (1 : Int32))) else (x4)) fun v32 => hk_let (if (hk_rem y22 (2 : Int32)) = 0 then ((hk_rem (x25 + (3 : Int32)) (4 : Int32))) else ((hk_rem (x25 + (2 : Int32)) (4 : Int32)))) fun v35 => hk_b1 (f_X8_in (v29.toInt64) (0 : Int64) (3 : Int64)) fun r36 => hk_b1 (if r36 = 0 then (some (0 : Int32)) else (hk_b1 (f_X8_in (v32.toInt64) (0 : Int64) (3 : Int64)) fun r42 => if r42 = 0 then (some (0 : Int32)) else (hk_b1 (f_X8_has x1 ((((16 : Int32) * v29) + ((4 : Int32) * v32)) + v35)) fun r47 => if r47 = 0 then (some (0 : Int32)) else (some (1 : Int32))))) fun v52 => hk_gd (hk_inb y22 8) (hk_let (y22 + (1 : Int32)) fun x54 => some (.inl (x54, (upd w23 y22.toNatClampNeg (vp_nar .boolean v52))))))
def st_X8_layCorner_3 (x1 : Int64) (x3 : Int32) (x4 : Int32) (t9 : (Int32 × (Nat → Int32))) : Option ((Int32 × (Nat → Int32)) ⊕ (Nat → Int32)) := st_X8_layCorner_3c x1 x3 x4 t9.1 t9.2
def f_X8_layCorner (c_this_sectors : Nat → Int32)  (x1 : Int64) (x3 : Int32) (x4 : Int32) : Option (Nat → Int32) := hk_b1 (hk_wl (st_X8_layCorner_3 x1 x3 x4) hkF ((0 : Int32), c_this_sectors)) fun v56 => some v56
theorem zi_X8_layCorner_X8 : ∀ w ∈ u_ws RX8 TX8 23, w ∈ wsX8_layCorner := by decide +kernel
set_option maxHeartbeats 8000000 in
set_option maxRecDepth 100000 in
theorem c_X8_layCorner (l : Launch) (D : va_G) (cI cJ cZ cO : ClassId) (a_this a_this_near a_this_turned a_this_figures a_this_text a_this_sectors a_this_corners a_this_likes a_this_laid a_this_isMirrored a_this_places a_this_placeMany a_this_now a_this_firsts a_this_forms a_this_isKept a_this_keptFigures a_this_keptPieces a_this_keptLaid a_this_keptMirrored : Nat) (sz : Nat) (c_this_length : Int32) (c_this_doubles : Int32) (c_this_likeMany : Int32) (c_this_pieces : Int32) (c_this_sectors : Nat → Int32) (x1 : Int64) (x3 : Int32) (x4 : Int32) (u_this_sectors : Nat → Int32) (hf : f_X8_layCorner c_this_sectors x1 x3 x4 = some u_this_sectors) : Met l yX8_layCorner wsX8_layCorner ({ frames := 1, cells := 0, slots := 0, locals := 25 }) (va_Pc [.ref a_this, .long x1, .int x3, .int x4] (hkM D cI cJ cZ cO [(a_this, .inr (4, [.ref a_this_near, .ref a_this_turned, .ref a_this_figures, .ref a_this_text, .int c_this_length, .ref a_this_sectors, .ref a_this_corners, .int c_this_doubles, .ref a_this_likes, .int c_this_likeMany, .int c_this_pieces, .ref a_this_laid, .ref a_this_isMirrored, .ref a_this_places, .ref a_this_placeMany, .ref a_this_now, .ref a_this_firsts, .ref a_this_forms, .ref a_this_isKept, .ref a_this_keptFigures, .ref a_this_keptPieces, .ref a_this_keptLaid, .ref a_this_keptMirrored])), (a_this_sectors, .inl (cZ, 8, .inl c_this_sectors))] sz)) (va_Qv (fun (_ : Unit) => True) (fun _ t => va_P D vwCl [(a_this, .inr (4, [.ref a_this_near, .ref a_this_turned, .ref a_this_figures, .ref a_this_text, .int c_this_length, .ref a_this_sectors, .ref a_this_corners, .int c_this_doubles, .ref a_this_likes, .int c_this_likeMany, .int c_this_pieces, .ref a_this_laid, .ref a_this_isMirrored, .ref a_this_places, .ref a_this_placeMany, .ref a_this_now, .ref a_this_firsts, .ref a_this_forms, .ref a_this_isKept, .ref a_this_keptFigures, .ref a_this_keptPieces, .ref a_this_keptLaid, .ref a_this_keptMirrored])), (a_this_sectors, .inl (cZ, 8, .inl u_this_sectors))] t.heap ∧ va_D (va_A [(a_this, .inr (4, [.ref a_this_near, .ref a_this_turned, .ref a_this_figures, .ref a_this_text, .int c_this_length, .ref a_this_sectors, .ref a_this_corners, .int c_this_doubles, .ref a_this_likes, .int c_this_likeMany, .int c_this_pieces, .ref a_this_laid, .ref a_this_isMirrored, .ref a_this_places, .ref a_this_placeMany, .ref a_this_now, .ref a_this_firsts, .ref a_this_forms, .ref a_this_isKept, .ref a_this_keptFigures, .ref a_this_keptPieces, .ref a_this_keptLaid, .ref a_this_keptMirrored])), (a_this_sectors, .inl (cZ, 8, .inl c_this_sectors))] sz) [(a_this, .inr (4, [.ref a_this_near, .ref a_this_turned, .ref a_this_figures, .ref a_this_text, .int c_this_length, .ref a_this_sectors, .ref a_this_corners, .int c_this_doubles, .ref a_this_likes, .int c_this_likeMany, .int c_this_pieces, .ref a_this_laid, .ref a_this_isMirrored, .ref a_this_places, .ref a_this_placeMany, .ref a_this_now, .ref a_this_firsts, .ref a_this_forms, .ref a_this_isKept, .ref a_this_keptFigures, .ref a_this_keptPieces, .ref a_this_keptLaid, .ref a_this_keptMirrored])), (a_this_sectors, .inl (cZ, 8, .inl u_this_sectors))]) (va_A [(a_this, .inr (4, [.ref a_this_near, .ref a_this_turned, .ref a_this_figures, .ref a_this_text, .int c_this_length, .ref a_this_sectors, .ref a_this_corners, .int c_this_doubles, .ref a_this_likes, .int c_this_likeMany, .int c_this_pieces, .ref a_this_laid, .ref a_this_isMirrored, .ref a_this_places, .ref a_this_placeMany, .ref a_this_now, .ref a_this_firsts, .ref a_this_forms, .ref a_this_isKept, .ref a_this_keptFigures, .ref a_this_keptPieces, .ref a_this_keptLaid, .ref a_this_keptMirrored])), (a_this_sectors, .inl (cZ, 8, .inl c_this_sectors))] sz)) 0 0 (va_A [(a_this, .inr (4, [.ref a_this_near, .ref a_this_turned, .ref a_this_figures, .ref a_this_text, .int c_this_length, .ref a_this_sectors, .ref a_this_corners, .int c_this_doubles, .ref a_this_likes, .int c_this_likeMany, .int c_this_pieces, .ref a_this_laid, .ref a_this_isMirrored, .ref a_this_places, .ref a_this_placeMany, .ref a_this_now, .ref a_this_firsts, .ref a_this_forms, .ref a_this_isKept, .ref a_this_keptFigures, .ref a_this_keptPieces, .ref a_this_keptLaid, .ref a_this_keptMirrored])), (a_this_sectors, .inl (cZ, 8, .inl c_this_sectors))] sz) := by
  refine Met.ofW (cc := cX8_layCorner) (maxL := 10) (ret := none) (by decide) rfl ?_
  intro p e s m args below meth c s₁ B hml hv
  obtain ⟨rfl, hsz, hP, hK, hD0⟩ := hv
  have hx := B.exec
  have hb := B.bytes
  have hr := B.returns
  have hts := atoms_spec (ws := wsX8_layCorner) B.pre
  have hown : s.vm.findClass RX8 = some m.cls := findClass_of_methodNamed B.named
  have hlocks := B.notSynchronized
  have hN := hK.2
  subst hsz
  have hD := hD0.self (sz := s.heap.size)
  generalize hAe : va_A [(a_this, .inr (4, [.ref a_this_near, .ref a_this_turned, .ref a_this_figures, .ref a_this_text, .int c_this_length, .ref a_this_sectors, .ref a_this_corners, .int c_this_doubles, .ref a_this_likes, .int c_this_likeMany, .int c_this_pieces, .ref a_this_laid, .ref a_this_isMirrored, .ref a_this_places, .ref a_this_placeMany, .ref a_this_now, .ref a_this_firsts, .ref a_this_forms, .ref a_this_isKept, .ref a_this_keptFigures, .ref a_this_keptPieces, .ref a_this_keptLaid, .ref a_this_keptMirrored])), (a_this_sectors, .inl (cZ, 8, .inl c_this_sectors))] s.heap.size = A at hD ⊢
  have hA : ∀ q : Nat, s.heap.size ≤ q → A q := fun q h => by rw [← hAe]; exact Or.inr h
  have hS : va_S A s.heap s.heap [] := va_S.rf
  have hl := lv_entry ([.ref a_this, .long x1, .int x3, .int x4]) (n := 10) (Nat.le_of_ble_eq_true rfl)
  rw [lg_entry_eq]
  generalize (lg_sl ([.ref a_this, .long x1, .int x3, .int x4]) ++ List.replicate (10 - (lg_sl ([.ref a_this, .long x1, .int x3, .int x4])).length) Slot.unset).toArray = ls at hl ⊢
  have hl : lv_has ls 10 [(0, .ref a_this), (1, .long x1), (3, .int x3), (4, .int x4)] := hl
  refine hk_Q (fun Q hQ => ?_)
  have h := hf
  unfold f_X8_layCorner at h
  refine lv_iconst (v := (0 : Int32)) hx hb dX8_layCorner_0 (by decide) ?_
  refine lv_istore (lv' := [(5, .int (0 : Int32)), (0, .ref a_this), (1, .long x1), (3, .int x3), (4, .int x4)]) hx hb dX8_layCorner_1 hl (by decide) rfl (fun ls hl => ?_)
  obtain ⟨v56, hr55, h⟩ := hk_x1 h
  refine hk_loopM (f := st_X8_layCorner_3 x1 x3 x4) (hd := 3) (nL := 10) (lv := fun t9 => [(0, .ref a_this), (1, .long x1), (3, .int x3), (4, .int x4), (5, .int t9.1)]) (wf := fun t9 => [(a_this, .inr (4, [.ref a_this_near, .ref a_this_turned, .ref a_this_figures, .ref a_this_text, .int c_this_length, .ref a_this_sectors, .ref a_this_corners, .int c_this_doubles, .ref a_this_likes, .int c_this_likeMany, .int c_this_pieces, .ref a_this_laid, .ref a_this_isMirrored, .ref a_this_places, .ref a_this_placeMany, .ref a_this_now, .ref a_this_firsts, .ref a_this_forms, .ref a_this_isKept, .ref a_this_keptFigures, .ref a_this_keptPieces, .ref a_this_keptLaid, .ref a_this_keptMirrored])), (a_this_sectors, .inl (cZ, 8, .inl t9.2))]) (xs := fun t9 => (141, [], [], [(a_this, .inr (4, [.ref a_this_near, .ref a_this_turned, .ref a_this_figures, .ref a_this_text, .int c_this_length, .ref a_this_sectors, .ref a_this_corners, .int c_this_doubles, .ref a_this_likes, .int c_this_likeMany, .int c_this_pieces, .ref a_this_laid, .ref a_this_isMirrored, .ref a_this_places, .ref a_this_placeMany, .ref a_this_now, .ref a_this_firsts, .ref a_this_forms, .ref a_this_isKept, .ref a_this_keptFigures, .ref a_this_keptPieces, .ref a_this_keptLaid, .ref a_this_keptMirrored])), (a_this_sectors, .inl (cZ, 8, .inl t9))])) ?_ hr55 ?_ hP hD hS (lv_sub hl [1, 2, 3, 4, 0] rfl)
  · intro t57 q58 k21 hck21 hqk21 H locs ls hP hD hS hl
    obtain ⟨y22, w23⟩ := t57
    have k21 : st_X8_layCorner_3c x1 x3 x4 y22 w23 = some q58 := k21
    unfold st_X8_layCorner_3c at k21
    have hl : lv_has ls 10 [(0, .ref a_this), (1, .long x1), (3, .int x3), (4, .int x4), (5, .int y22)] := hl
    have hP : va_P D vwCl [(a_this, .inr (4, [.ref a_this_near, .ref a_this_turned, .ref a_this_figures, .ref a_this_text, .int c_this_length, .ref a_this_sectors, .ref a_this_corners, .int c_this_doubles, .ref a_this_likes, .int c_this_likeMany, .int c_this_pieces, .ref a_this_laid, .ref a_this_isMirrored, .ref a_this_places, .ref a_this_placeMany, .ref a_this_now, .ref a_this_firsts, .ref a_this_forms, .ref a_this_isKept, .ref a_this_keptFigures, .ref a_this_keptPieces, .ref a_this_keptLaid, .ref a_this_keptMirrored])), (a_this_sectors, .inl (cZ, 8, .inl w23))] H := hP
    have hD : va_D A [(a_this, .inr (4, [.ref a_this_near, .ref a_this_turned, .ref a_this_figures, .ref a_this_text, .int c_this_length, .ref a_this_sectors, .ref a_this_corners, .int c_this_doubles, .ref a_this_likes, .int c_this_likeMany, .int c_this_pieces, .ref a_this_laid, .ref a_this_isMirrored, .ref a_this_places, .ref a_this_placeMany, .ref a_this_now, .ref a_this_firsts, .ref a_this_forms, .ref a_this_isKept, .ref a_this_keptFigures, .ref a_this_keptPieces, .ref a_this_keptLaid, .ref a_this_keptMirrored])), (a_this_sectors, .inl (cZ, 8, .inl w23))] := hD
    refine lv_iload hx hb dX8_layCorner_3 (lv_at hl 4 rfl) ?_
    refine lv_bipush (v := (8 : Int32)) hx hb dX8_layCorner_5 (by decide) ?_
    refine lv_icmp_ge (tgt := 141) hx hb dX8_layCorner_7 (by decide) (fun c24 => ?_) (fun c24 => ?_)
    · replace k21 := hk_ip c24 k21
      exact hqk21 w23 (Option.some.inj k21).symm H locs ls hP hD hS (lv_sub hl [] rfl)
    replace k21 := hk_in c24 k21
    refine lv_iload hx hb dX8_layCorner_10 (lv_at hl 4 rfl) ?_
    refine lv_iconst (v := (2 : Int32)) hx hb dX8_layCorner_12 (by decide) ?_
    refine lv_idiv hx hb dX8_layCorner_13 (by decide) ?_
    obtain ⟨x25, ex25, k21⟩ := hk_le k21
    refine hk_ti ex25 ?_
    refine lv_istore (lv' := [(6, .int x25), (0, .ref a_this), (1, .long x1), (3, .int x3), (4, .int x4), (5, .int y22)]) hx hb dX8_layCorner_14 hl (by decide) rfl (fun ls hl => ?_)
    refine lv_iload hx hb dX8_layCorner_16 (lv_at hl 0 rfl) ?_
    obtain ⟨v29, g26, k21⟩ := hk_lf k21
    refine hk_joinR (nL := 10) (xs := fun (t9 : Int32) => (34, [(0, .ref a_this), (1, .long x1), (3, .int x3), (4, .int x4), (5, .int y22), (6, .int x25)], [.int t9])) v29 (fun hjg26 => ?_) ?_
    · refine lv_if_eq (tgt := 27) hx hb dX8_layCorner_18 (by decide) (fun c27 => ?_) (fun c27 => ?_)
      · replace g26 := hk_ip c27 g26
        refine lv_iload_n hx hb dX8_layCorner_27 rfl (lv_at hl 3 rfl) ?_
        refine lv_iconst (v := (1 : Int32)) hx hb dX8_layCorner_28 (by decide) ?_
        refine lv_isub hx hb dX8_layCorner_29 ?_
        refine lv_goto (tgt := 34) hx hb dX8_layCorner_30 (by decide) ?_
        subst g26
        exact hjg26 ls (lv_sub hl [1, 2, 3, 4, 5, 0] rfl)
      replace g26 := hk_in c27 g26
      refine lv_iload hx hb dX8_layCorner_21 (lv_at hl 0 rfl) ?_
      refine lv_iconst (v := (3 : Int32)) hx hb dX8_layCorner_23 (by decide) ?_
      refine lv_icmp_ne (tgt := 33) hx hb dX8_layCorner_24 (by decide) (fun c28 => ?_) (fun c28 => ?_)
      · replace g26 := hk_in c28 g26
        refine lv_iload_n hx hb dX8_layCorner_33 rfl (lv_at hl 3 rfl) ?_
        subst g26
        exact hjg26 ls (lv_sub hl [1, 2, 3, 4, 5, 0] rfl)
      replace g26 := hk_ip c28 g26
      refine lv_iload_n hx hb dX8_layCorner_27 rfl (lv_at hl 3 rfl) ?_
      refine lv_iconst (v := (1 : Int32)) hx hb dX8_layCorner_28 (by decide) ?_
      refine lv_isub hx hb dX8_layCorner_29 ?_
      refine lv_goto (tgt := 34) hx hb dX8_layCorner_30 (by decide) ?_
      subst g26
      exact hjg26 ls (lv_sub hl [1, 2, 3, 4, 5, 0] rfl)
    intro ls hl
    have hl : lv_has ls 10 [(0, .ref a_this), (1, .long x1), (3, .int x3), (4, .int x4), (5, .int y22), (6, .int x25)] := hl
    show W _ _ _ _ _ _ _ _ _ _ _ _ _ _ _ (F0 m 34 ls [.int v29])
    refine lv_istore (lv' := [(7, .int v29), (0, .ref a_this), (1, .long x1), (3, .int x3), (4, .int x4), (5, .int y22), (6, .int x25)]) hx hb dX8_layCorner_34 hl (by decide) rfl (fun ls hl => ?_)
    refine lv_iload hx hb dX8_layCorner_36 (lv_at hl 6 rfl) ?_
    refine lv_iconst (v := (2 : Int32)) hx hb dX8_layCorner_38 (by decide) ?_
    obtain ⟨v32, g30, k21⟩ := hk_lf k21
    refine hk_joinR (nL := 10) (xs := fun (t9 : Int32) => (51, [(0, .ref a_this), (1, .long x1), (3, .int x3), (4, .int x4), (5, .int y22), (6, .int x25), (7, .int v29)], [.int t9])) v32 (fun hjg30 => ?_) ?_
    · refine lv_icmp_ge (tgt := 47) hx hb dX8_layCorner_39 (by decide) (fun c31 => ?_) (fun c31 => ?_)
      · replace g30 := hk_ip c31 g30
        refine lv_iload hx hb dX8_layCorner_47 (lv_at hl 4 rfl) ?_
        refine lv_iconst (v := (1 : Int32)) hx hb dX8_layCorner_49 (by decide) ?_
        refine lv_isub hx hb dX8_layCorner_50 ?_
        subst g30
        exact hjg30 ls (lv_sub hl [1, 2, 3, 4, 5, 6, 0] rfl)
      replace g30 := hk_in c31 g30
      refine lv_iload hx hb dX8_layCorner_42 (lv_at hl 4 rfl) ?_
      refine lv_goto (tgt := 51) hx hb dX8_layCorner_44 (by decide) ?_
      subst g30
      exact hjg30 ls (lv_sub hl [1, 2, 3, 4, 5, 6, 0] rfl)
    intro ls hl
    have hl : lv_has ls 10 [(0, .ref a_this), (1, .long x1), (3, .int x3), (4, .int x4), (5, .int y22), (6, .int x25), (7, .int v29)] := hl
    show W _ _ _ _ _ _ _ _ _ _ _ _ _ _ _ (F0 m 51 ls [.int v32])
    refine lv_istore (lv' := [(8, .int v32), (0, .ref a_this), (1, .long x1), (3, .int x3), (4, .int x4), (5, .int y22), (6, .int x25), (7, .int v29)]) hx hb dX8_layCorner_51 hl (by decide) rfl (fun ls hl => ?_)
    refine lv_iload hx hb dX8_layCorner_53 (lv_at hl 5 rfl) ?_
    refine lv_iconst (v := (2 : Int32)) hx hb dX8_layCorner_55 (by decide) ?_
    refine lv_irem hx hb dX8_layCorner_56 (by decide) ?_
    refine hk_ti (y := (hk_rem y22 (2 : Int32))) rfl ?_
    obtain ⟨v35, g33, k21⟩ := hk_lf k21
    refine hk_joinR (nL := 10) (xs := fun (t9 : Int32) => (75, [(0, .ref a_this), (1, .long x1), (3, .int x3), (4, .int x4), (5, .int y22), (7, .int v29), (8, .int v32)], [.int t9])) v35 (fun hjg33 => ?_) ?_
    · refine lv_if_ne (tgt := 69) hx hb dX8_layCorner_57 (by decide) (fun c34 => ?_) (fun c34 => ?_)
      · replace g33 := hk_in c34 g33
        refine lv_iload hx hb dX8_layCorner_69 (lv_at hl 6 rfl) ?_
        refine lv_iconst (v := (2 : Int32)) hx hb dX8_layCorner_71 (by decide) ?_
        refine lv_iadd hx hb dX8_layCorner_72 ?_
        refine lv_iconst (v := (4 : Int32)) hx hb dX8_layCorner_73 (by decide) ?_
        refine lv_irem hx hb dX8_layCorner_74 (by decide) ?_
        refine hk_ti (y := (hk_rem (x25 + (2 : Int32)) (4 : Int32))) rfl ?_
        subst g33
        exact hjg33 ls (lv_sub hl [1, 2, 3, 4, 5, 7, 0] rfl)
      replace g33 := hk_ip c34 g33
      refine lv_iload hx hb dX8_layCorner_60 (lv_at hl 6 rfl) ?_
      refine lv_iconst (v := (3 : Int32)) hx hb dX8_layCorner_62 (by decide) ?_
      refine lv_iadd hx hb dX8_layCorner_63 ?_
      refine lv_iconst (v := (4 : Int32)) hx hb dX8_layCorner_64 (by decide) ?_
      refine lv_irem hx hb dX8_layCorner_65 (by decide) ?_
      refine hk_ti (y := (hk_rem (x25 + (3 : Int32)) (4 : Int32))) rfl ?_
      refine lv_goto (tgt := 75) hx hb dX8_layCorner_66 (by decide) ?_
      subst g33
      exact hjg33 ls (lv_sub hl [1, 2, 3, 4, 5, 7, 0] rfl)
    intro ls hl
    have hl : lv_has ls 10 [(0, .ref a_this), (1, .long x1), (3, .int x3), (4, .int x4), (5, .int y22), (7, .int v29), (8, .int v32)] := hl
    show W _ _ _ _ _ _ _ _ _ _ _ _ _ _ _ (F0 m 75 ls [.int v35])
    refine lv_istore (lv' := [(9, .int v35), (0, .ref a_this), (1, .long x1), (3, .int x3), (4, .int x4), (5, .int y22), (7, .int v29), (8, .int v32)]) hx hb dX8_layCorner_75 hl (by decide) rfl (fun ls hl => ?_)
    refine lv_aload_n hx hb dX8_layCorner_77 rfl (lv_at hl 1 rfl) ?_
    refine va_get (D := D) (ci := 4) (v := .ref a_this_sectors) (C := RX8) (T := TX8) (N := 23) hx hb hts zi_X8_layCorner_X8 hown hK.1 hP 0 rfl rfl 5 (by decide) (hts (.fieldLink RX8 23 "HalfAndHalfAgainModel" "sectors" "[Z") (List.mem_of_getElem? (i := 1) rfl)) (fun _ h9 => h9) rfl dX8_layCorner_78 ?_
    refine lv_iload hx hb dX8_layCorner_81 (lv_at hl 5 rfl) ?_
    refine lv_iload hx hb dX8_layCorner_83 (lv_at hl 6 rfl) ?_
    refine lv_i2l (v := (v29.toInt64)) hx hb dX8_layCorner_85 rfl ?_
    refine lv_lconst (v := (0 : Int64)) hx hb dX8_layCorner_86 (by decide) ?_
    refine lv_ldc2 (v := (3 : Int64)) hx hb hown (hts (.constantLong RX8 73 (3)) (List.mem_of_getElem? (i := 2) rfl)) dX8_layCorner_87 ?_
    obtain ⟨r36, hr37, k21⟩ := hk_x1 k21
    refine vp_callSi (W.runS (As := [.long (v29.toInt64), .long (0 : Int64), .long (3 : Int64)]) (rest := [.int y22, .ref a_this_sectors]) ⟨hx, hb, hml, hown, hts⟩ (c_X8_in l (v29.toInt64) (0 : Int64) (3 : Int64) _ hr37) (va_cwS 3 hts gX8_layCorner_X8_in rfl rfl rfl zs_X8_in ⟨Nat.le_of_ble_eq_true rfl, Nat.le_of_ble_eq_true rfl⟩) ⟨fun _ _ _ _ q => q, fun _ _ _ => ⟨rfl, trivial⟩⟩ rfl rfl hl.1 rfl (lv_room (Nat.le_of_ble_eq_true rfl)) dX8_layCorner_90 ⟨Nat.zero_le _, Nat.zero_le _⟩) (fun p39 e38 => ?_)
    rw [e38]
    obtain ⟨v52, g40, k21⟩ := hk_x1 k21
    refine hk_joinR (nL := 10) (xs := fun (t9 : Int32) => (134, [(0, .ref a_this), (1, .long x1), (3, .int x3), (4, .int x4), (5, .int y22)], [.int t9, .int y22, .ref a_this_sectors])) v52 (fun hjg40 => ?_) ?_
    · refine lv_if_eq (tgt := 133) hx hb dX8_layCorner_93 (by decide) (fun c41 => ?_) (fun c41 => ?_)
      · replace g40 := hk_ip c41 g40
        refine lv_iconst (v := (0 : Int32)) hx hb dX8_layCorner_133 (by decide) ?_
        have g40 := Option.some.inj g40
        subst g40
        exact hjg40 ls (lv_sub hl [1, 2, 3, 4, 5] rfl)
      replace g40 := hk_in c41 g40
      refine lv_iload hx hb dX8_layCorner_96 (lv_at hl 7 rfl) ?_
      refine lv_i2l (v := (v32.toInt64)) hx hb dX8_layCorner_98 rfl ?_
      refine lv_lconst (v := (0 : Int64)) hx hb dX8_layCorner_99 (by decide) ?_
      refine lv_ldc2 (v := (3 : Int64)) hx hb hown (hts (.constantLong RX8 73 (3)) (List.mem_of_getElem? (i := 2) rfl)) dX8_layCorner_100 ?_
      obtain ⟨r42, hr43, g40⟩ := hk_x1 g40
      refine vp_callSi (W.runS (As := [.long (v32.toInt64), .long (0 : Int64), .long (3 : Int64)]) (rest := [.int y22, .ref a_this_sectors]) ⟨hx, hb, hml, hown, hts⟩ (c_X8_in l (v32.toInt64) (0 : Int64) (3 : Int64) _ hr43) (va_cwS 3 hts gX8_layCorner_X8_in rfl rfl rfl zs_X8_in ⟨Nat.le_of_ble_eq_true rfl, Nat.le_of_ble_eq_true rfl⟩) ⟨fun _ _ _ _ q => q, fun _ _ _ => ⟨rfl, trivial⟩⟩ rfl rfl hl.1 rfl (lv_room (Nat.le_of_ble_eq_true rfl)) dX8_layCorner_103 ⟨Nat.zero_le _, Nat.zero_le _⟩) (fun p45 e44 => ?_)
      rw [e44]
      refine lv_if_eq (tgt := 133) hx hb dX8_layCorner_106 (by decide) (fun c46 => ?_) (fun c46 => ?_)
      · replace g40 := hk_ip c46 g40
        refine lv_iconst (v := (0 : Int32)) hx hb dX8_layCorner_133 (by decide) ?_
        have g40 := Option.some.inj g40
        subst g40
        exact hjg40 ls (lv_sub hl [1, 2, 3, 4, 5] rfl)
      replace g40 := hk_in c46 g40
      refine lv_lload_n hx hb dX8_layCorner_109 rfl (lv_at hl 2 rfl) ?_
      refine lv_bipush (v := (16 : Int32)) hx hb dX8_layCorner_110 (by decide) ?_
      refine lv_iload hx hb dX8_layCorner_112 (lv_at hl 6 rfl) ?_
      refine lv_imul hx hb dX8_layCorner_114 ?_
      refine lv_iconst (v := (4 : Int32)) hx hb dX8_layCorner_115 (by decide) ?_
      refine lv_iload hx hb dX8_layCorner_116 (lv_at hl 7 rfl) ?_
      refine lv_imul hx hb dX8_layCorner_118 ?_
      refine lv_iadd hx hb dX8_layCorner_119 ?_
      refine lv_iload hx hb dX8_layCorner_120 (lv_at hl 0 rfl) ?_
      refine lv_iadd hx hb dX8_layCorner_122 ?_
      obtain ⟨r47, hr48, g40⟩ := hk_x1 g40
      refine vp_callSi (W.runS (As := [.long x1, .int ((((16 : Int32) * v29) + ((4 : Int32) * v32)) + v35)]) (rest := [.int y22, .ref a_this_sectors]) ⟨hx, hb, hml, hown, hts⟩ (c_X8_has l x1 ((((16 : Int32) * v29) + ((4 : Int32) * v32)) + v35) _ hr48) (va_cwS 2 hts gX8_layCorner_X8_has rfl rfl rfl zs_X8_has ⟨Nat.le_of_ble_eq_true rfl, Nat.le_of_ble_eq_true rfl⟩) ⟨fun _ _ _ _ q => q, fun _ _ _ => ⟨rfl, trivial⟩⟩ rfl rfl hl.1 rfl (lv_room (Nat.le_of_ble_eq_true rfl)) dX8_layCorner_123 ⟨Nat.zero_le _, Nat.zero_le _⟩) (fun p50 e49 => ?_)
      rw [e49]
      refine lv_if_eq (tgt := 133) hx hb dX8_layCorner_126 (by decide) (fun c51 => ?_) (fun c51 => ?_)
      · replace g40 := hk_ip c51 g40
        refine lv_iconst (v := (0 : Int32)) hx hb dX8_layCorner_133 (by decide) ?_
        have g40 := Option.some.inj g40
        subst g40
        exact hjg40 ls (lv_sub hl [1, 2, 3, 4, 5] rfl)
      replace g40 := hk_in c51 g40
      refine lv_iconst (v := (1 : Int32)) hx hb dX8_layCorner_129 (by decide) ?_
      refine lv_goto (tgt := 134) hx hb dX8_layCorner_130 (by decide) ?_
      have g40 := Option.some.inj g40
      subst g40
      exact hjg40 ls (lv_sub hl [1, 2, 3, 4, 5] rfl)
    intro ls hl
    have hl : lv_has ls 10 [(0, .ref a_this), (1, .long x1), (3, .int x3), (4, .int x4), (5, .int y22)] := hl
    show W _ _ _ _ _ _ _ _ _ _ _ _ _ _ _ (F0 m 134 ls [.int v52, .int y22, .ref a_this_sectors])
    obtain ⟨hi53, k21⟩ := hk_ge k21
    refine va_zast hx hb hK.1 hP hD hS 1 2 rfl rfl (hk_inb_of hi53) dX8_layCorner_134 (fun H locs hP hD hS => ?_)
    have hP : va_P D vwCl [(a_this, .inr (4, [.ref a_this_near, .ref a_this_turned, .ref a_this_figures, .ref a_this_text, .int c_this_length, .ref a_this_sectors, .ref a_this_corners, .int c_this_doubles, .ref a_this_likes, .int c_this_likeMany, .int c_this_pieces, .ref a_this_laid, .ref a_this_isMirrored, .ref a_this_places, .ref a_this_placeMany, .ref a_this_now, .ref a_this_firsts, .ref a_this_forms, .ref a_this_isKept, .ref a_this_keptFigures, .ref a_this_keptPieces, .ref a_this_keptLaid, .ref a_this_keptMirrored])), (a_this_sectors, .inl (cZ, 8, .inl (upd w23 y22.toNatClampNeg (vp_nar .boolean v52))))] H := hP
    have hD : va_D A [(a_this, .inr (4, [.ref a_this_near, .ref a_this_turned, .ref a_this_figures, .ref a_this_text, .int c_this_length, .ref a_this_sectors, .ref a_this_corners, .int c_this_doubles, .ref a_this_likes, .int c_this_likeMany, .int c_this_pieces, .ref a_this_laid, .ref a_this_isMirrored, .ref a_this_places, .ref a_this_placeMany, .ref a_this_now, .ref a_this_firsts, .ref a_this_forms, .ref a_this_isKept, .ref a_this_keptFigures, .ref a_this_keptPieces, .ref a_this_keptLaid, .ref a_this_keptMirrored])), (a_this_sectors, .inl (cZ, 8, .inl (upd w23 y22.toNatClampNeg (vp_nar .boolean v52))))] := hD
    obtain ⟨x54, ex54, k21⟩ := hk_le k21
    refine lv_iinc (v := x54) (lv' := [(5, .int x54), (0, .ref a_this), (1, .long x1), (3, .int x3), (4, .int x4)]) hx hb dX8_layCorner_135 hl (k := 4) rfl (by rw [ex54]; rfl) (by decide) rfl (fun ls hl => ?_)
    refine lv_goto (tgt := 3) hx hb dX8_layCorner_138 (by decide) ?_
    exact hck21 (x54, (upd w23 y22.toNatClampNeg (vp_nar .boolean v52))) (Option.some.inj k21).symm H locs ls hP hD hS (lv_sub hl [1, 2, 3, 4, 0] rfl)
  intro H locs ls hP hD hS hl
  have hl : lv_has ls 10 [] := hl
  have hP : va_P D vwCl [(a_this, .inr (4, [.ref a_this_near, .ref a_this_turned, .ref a_this_figures, .ref a_this_text, .int c_this_length, .ref a_this_sectors, .ref a_this_corners, .int c_this_doubles, .ref a_this_likes, .int c_this_likeMany, .int c_this_pieces, .ref a_this_laid, .ref a_this_isMirrored, .ref a_this_places, .ref a_this_placeMany, .ref a_this_now, .ref a_this_firsts, .ref a_this_forms, .ref a_this_isKept, .ref a_this_keptFigures, .ref a_this_keptPieces, .ref a_this_keptLaid, .ref a_this_keptMirrored])), (a_this_sectors, .inl (cZ, 8, .inl v56))] H := hP
  have hD : va_D A [(a_this, .inr (4, [.ref a_this_near, .ref a_this_turned, .ref a_this_figures, .ref a_this_text, .int c_this_length, .ref a_this_sectors, .ref a_this_corners, .int c_this_doubles, .ref a_this_likes, .int c_this_likeMany, .int c_this_pieces, .ref a_this_laid, .ref a_this_isMirrored, .ref a_this_places, .ref a_this_placeMany, .ref a_this_now, .ref a_this_firsts, .ref a_this_forms, .ref a_this_isKept, .ref a_this_keptFigures, .ref a_this_keptPieces, .ref a_this_keptLaid, .ref a_this_keptMirrored])), (a_this_sectors, .inl (cZ, 8, .inl v56))] := hD
  show W _ _ _ _ _ _ _ _ _ _ _ _ _ _ _ (F0 m 141 ls [])
  subst hQ
  have h := Option.some.inj h
  subst h
  exact W.vret hx hb hr (fun t ht hW => ⟨⟨(), rfl, trivial, by rw [ht]; exact hP, hD⟩, hS.F ht⟩) hS.2.2 dX8_layCorner_141
theorem zv_X8_layMidst : yX8_layMidst.cls = RX8 ∧ yX8_layMidst.cls ≠ "java/lang/invoke/MethodHandle" ∧ yX8_layMidst.cls ≠ "java/lang/invoke/VarHandle" ∧ (parseMethodDescriptor yX8_layMidst.desc).map (fun d => d.parameters.length) = some 2 := by decide +kernel
def st_X8_layMidst_3c (x1 : Int64) (x3 : Int32) (y22 : Int32) (w23 : Nat → Int32) : Option ((Int32 × (Nat → Int32)) ⊕ (Nat → Int32)) := if (8 : Int32) ≤ y22 then (some (.inr w23)) else (hk_b1 (f_X8_has x1 (((4 : Int32) * x3) + (y22 / (2 : Int32)))) fun r25 => hk_gd (hk_inb y22 8) (hk_let (y22 + (1 : Int32)) fun x30 => some (.inl (x30, (upd w23 y22.toNatClampNeg (vp_nar .boolean r25))))))
def st_X8_layMidst_3 (x1 : Int64) (x3 : Int32) (t9 : (Int32 × (Nat → Int32))) : Option ((Int32 × (Nat → Int32)) ⊕ (Nat → Int32)) := st_X8_layMidst_3c x1 x3 t9.1 t9.2
def f_X8_layMidst (c_this_sectors : Nat → Int32)  (x1 : Int64) (x3 : Int32) : Option (Nat → Int32) := hk_b1 (hk_wl (st_X8_layMidst_3 x1 x3) hkF ((0 : Int32), c_this_sectors)) fun v32 => some v32
theorem zi_X8_layMidst_X8 : ∀ w ∈ u_ws RX8 TX8 23, w ∈ wsX8_layMidst := by decide +kernel
set_option maxHeartbeats 8000000 in
set_option maxRecDepth 100000 in
theorem c_X8_layMidst (l : Launch) (D : va_G) (cI cJ cZ cO : ClassId) (a_this a_this_near a_this_turned a_this_figures a_this_text a_this_sectors a_this_corners a_this_likes a_this_laid a_this_isMirrored a_this_places a_this_placeMany a_this_now a_this_firsts a_this_forms a_this_isKept a_this_keptFigures a_this_keptPieces a_this_keptLaid a_this_keptMirrored : Nat) (sz : Nat) (c_this_length : Int32) (c_this_doubles : Int32) (c_this_likeMany : Int32) (c_this_pieces : Int32) (c_this_sectors : Nat → Int32) (x1 : Int64) (x3 : Int32) (u_this_sectors : Nat → Int32) (hf : f_X8_layMidst c_this_sectors x1 x3 = some u_this_sectors) : Met l yX8_layMidst wsX8_layMidst ({ frames := 1, cells := 0, slots := 0, locals := 22 }) (va_Pc [.ref a_this, .long x1, .int x3] (hkM D cI cJ cZ cO [(a_this, .inr (4, [.ref a_this_near, .ref a_this_turned, .ref a_this_figures, .ref a_this_text, .int c_this_length, .ref a_this_sectors, .ref a_this_corners, .int c_this_doubles, .ref a_this_likes, .int c_this_likeMany, .int c_this_pieces, .ref a_this_laid, .ref a_this_isMirrored, .ref a_this_places, .ref a_this_placeMany, .ref a_this_now, .ref a_this_firsts, .ref a_this_forms, .ref a_this_isKept, .ref a_this_keptFigures, .ref a_this_keptPieces, .ref a_this_keptLaid, .ref a_this_keptMirrored])), (a_this_sectors, .inl (cZ, 8, .inl c_this_sectors))] sz)) (va_Qv (fun (_ : Unit) => True) (fun _ t => va_P D vwCl [(a_this, .inr (4, [.ref a_this_near, .ref a_this_turned, .ref a_this_figures, .ref a_this_text, .int c_this_length, .ref a_this_sectors, .ref a_this_corners, .int c_this_doubles, .ref a_this_likes, .int c_this_likeMany, .int c_this_pieces, .ref a_this_laid, .ref a_this_isMirrored, .ref a_this_places, .ref a_this_placeMany, .ref a_this_now, .ref a_this_firsts, .ref a_this_forms, .ref a_this_isKept, .ref a_this_keptFigures, .ref a_this_keptPieces, .ref a_this_keptLaid, .ref a_this_keptMirrored])), (a_this_sectors, .inl (cZ, 8, .inl u_this_sectors))] t.heap ∧ va_D (va_A [(a_this, .inr (4, [.ref a_this_near, .ref a_this_turned, .ref a_this_figures, .ref a_this_text, .int c_this_length, .ref a_this_sectors, .ref a_this_corners, .int c_this_doubles, .ref a_this_likes, .int c_this_likeMany, .int c_this_pieces, .ref a_this_laid, .ref a_this_isMirrored, .ref a_this_places, .ref a_this_placeMany, .ref a_this_now, .ref a_this_firsts, .ref a_this_forms, .ref a_this_isKept, .ref a_this_keptFigures, .ref a_this_keptPieces, .ref a_this_keptLaid, .ref a_this_keptMirrored])), (a_this_sectors, .inl (cZ, 8, .inl c_this_sectors))] sz) [(a_this, .inr (4, [.ref a_this_near, .ref a_this_turned, .ref a_this_figures, .ref a_this_text, .int c_this_length, .ref a_this_sectors, .ref a_this_corners, .int c_this_doubles, .ref a_this_likes, .int c_this_likeMany, .int c_this_pieces, .ref a_this_laid, .ref a_this_isMirrored, .ref a_this_places, .ref a_this_placeMany, .ref a_this_now, .ref a_this_firsts, .ref a_this_forms, .ref a_this_isKept, .ref a_this_keptFigures, .ref a_this_keptPieces, .ref a_this_keptLaid, .ref a_this_keptMirrored])), (a_this_sectors, .inl (cZ, 8, .inl u_this_sectors))]) (va_A [(a_this, .inr (4, [.ref a_this_near, .ref a_this_turned, .ref a_this_figures, .ref a_this_text, .int c_this_length, .ref a_this_sectors, .ref a_this_corners, .int c_this_doubles, .ref a_this_likes, .int c_this_likeMany, .int c_this_pieces, .ref a_this_laid, .ref a_this_isMirrored, .ref a_this_places, .ref a_this_placeMany, .ref a_this_now, .ref a_this_firsts, .ref a_this_forms, .ref a_this_isKept, .ref a_this_keptFigures, .ref a_this_keptPieces, .ref a_this_keptLaid, .ref a_this_keptMirrored])), (a_this_sectors, .inl (cZ, 8, .inl c_this_sectors))] sz)) 0 0 (va_A [(a_this, .inr (4, [.ref a_this_near, .ref a_this_turned, .ref a_this_figures, .ref a_this_text, .int c_this_length, .ref a_this_sectors, .ref a_this_corners, .int c_this_doubles, .ref a_this_likes, .int c_this_likeMany, .int c_this_pieces, .ref a_this_laid, .ref a_this_isMirrored, .ref a_this_places, .ref a_this_placeMany, .ref a_this_now, .ref a_this_firsts, .ref a_this_forms, .ref a_this_isKept, .ref a_this_keptFigures, .ref a_this_keptPieces, .ref a_this_keptLaid, .ref a_this_keptMirrored])), (a_this_sectors, .inl (cZ, 8, .inl c_this_sectors))] sz) := by
  refine Met.ofW (cc := cX8_layMidst) (maxL := 5) (ret := none) (by decide) rfl ?_
  intro p e s m args below meth c s₁ B hml hv
  obtain ⟨rfl, hsz, hP, hK, hD0⟩ := hv
  have hx := B.exec
  have hb := B.bytes
  have hr := B.returns
  have hts := atoms_spec (ws := wsX8_layMidst) B.pre
  have hown : s.vm.findClass RX8 = some m.cls := findClass_of_methodNamed B.named
  have hlocks := B.notSynchronized
  have hN := hK.2
  subst hsz
  have hD := hD0.self (sz := s.heap.size)
  generalize hAe : va_A [(a_this, .inr (4, [.ref a_this_near, .ref a_this_turned, .ref a_this_figures, .ref a_this_text, .int c_this_length, .ref a_this_sectors, .ref a_this_corners, .int c_this_doubles, .ref a_this_likes, .int c_this_likeMany, .int c_this_pieces, .ref a_this_laid, .ref a_this_isMirrored, .ref a_this_places, .ref a_this_placeMany, .ref a_this_now, .ref a_this_firsts, .ref a_this_forms, .ref a_this_isKept, .ref a_this_keptFigures, .ref a_this_keptPieces, .ref a_this_keptLaid, .ref a_this_keptMirrored])), (a_this_sectors, .inl (cZ, 8, .inl c_this_sectors))] s.heap.size = A at hD ⊢
  have hA : ∀ q : Nat, s.heap.size ≤ q → A q := fun q h => by rw [← hAe]; exact Or.inr h
  have hS : va_S A s.heap s.heap [] := va_S.rf
  have hl := lv_entry ([.ref a_this, .long x1, .int x3]) (n := 5) (Nat.le_of_ble_eq_true rfl)
  rw [lg_entry_eq]
  generalize (lg_sl ([.ref a_this, .long x1, .int x3]) ++ List.replicate (5 - (lg_sl ([.ref a_this, .long x1, .int x3])).length) Slot.unset).toArray = ls at hl ⊢
  have hl : lv_has ls 5 [(0, .ref a_this), (1, .long x1), (3, .int x3)] := hl
  refine hk_Q (fun Q hQ => ?_)
  have h := hf
  unfold f_X8_layMidst at h
  refine lv_iconst (v := (0 : Int32)) hx hb dX8_layMidst_0 (by decide) ?_
  refine lv_istore (lv' := [(4, .int (0 : Int32)), (0, .ref a_this), (1, .long x1), (3, .int x3)]) hx hb dX8_layMidst_1 hl (by decide) rfl (fun ls hl => ?_)
  obtain ⟨v32, hr31, h⟩ := hk_x1 h
  refine hk_loopM (f := st_X8_layMidst_3 x1 x3) (hd := 3) (nL := 5) (lv := fun t9 => [(0, .ref a_this), (1, .long x1), (3, .int x3), (4, .int t9.1)]) (wf := fun t9 => [(a_this, .inr (4, [.ref a_this_near, .ref a_this_turned, .ref a_this_figures, .ref a_this_text, .int c_this_length, .ref a_this_sectors, .ref a_this_corners, .int c_this_doubles, .ref a_this_likes, .int c_this_likeMany, .int c_this_pieces, .ref a_this_laid, .ref a_this_isMirrored, .ref a_this_places, .ref a_this_placeMany, .ref a_this_now, .ref a_this_firsts, .ref a_this_forms, .ref a_this_isKept, .ref a_this_keptFigures, .ref a_this_keptPieces, .ref a_this_keptLaid, .ref a_this_keptMirrored])), (a_this_sectors, .inl (cZ, 8, .inl t9.2))]) (xs := fun t9 => (35, [], [], [(a_this, .inr (4, [.ref a_this_near, .ref a_this_turned, .ref a_this_figures, .ref a_this_text, .int c_this_length, .ref a_this_sectors, .ref a_this_corners, .int c_this_doubles, .ref a_this_likes, .int c_this_likeMany, .int c_this_pieces, .ref a_this_laid, .ref a_this_isMirrored, .ref a_this_places, .ref a_this_placeMany, .ref a_this_now, .ref a_this_firsts, .ref a_this_forms, .ref a_this_isKept, .ref a_this_keptFigures, .ref a_this_keptPieces, .ref a_this_keptLaid, .ref a_this_keptMirrored])), (a_this_sectors, .inl (cZ, 8, .inl t9))])) ?_ hr31 ?_ hP hD hS (lv_sub hl [1, 2, 3, 0] rfl)
  · intro t33 q34 k21 hck21 hqk21 H locs ls hP hD hS hl
    obtain ⟨y22, w23⟩ := t33
    have k21 : st_X8_layMidst_3c x1 x3 y22 w23 = some q34 := k21
    unfold st_X8_layMidst_3c at k21
    have hl : lv_has ls 5 [(0, .ref a_this), (1, .long x1), (3, .int x3), (4, .int y22)] := hl
    have hP : va_P D vwCl [(a_this, .inr (4, [.ref a_this_near, .ref a_this_turned, .ref a_this_figures, .ref a_this_text, .int c_this_length, .ref a_this_sectors, .ref a_this_corners, .int c_this_doubles, .ref a_this_likes, .int c_this_likeMany, .int c_this_pieces, .ref a_this_laid, .ref a_this_isMirrored, .ref a_this_places, .ref a_this_placeMany, .ref a_this_now, .ref a_this_firsts, .ref a_this_forms, .ref a_this_isKept, .ref a_this_keptFigures, .ref a_this_keptPieces, .ref a_this_keptLaid, .ref a_this_keptMirrored])), (a_this_sectors, .inl (cZ, 8, .inl w23))] H := hP
    have hD : va_D A [(a_this, .inr (4, [.ref a_this_near, .ref a_this_turned, .ref a_this_figures, .ref a_this_text, .int c_this_length, .ref a_this_sectors, .ref a_this_corners, .int c_this_doubles, .ref a_this_likes, .int c_this_likeMany, .int c_this_pieces, .ref a_this_laid, .ref a_this_isMirrored, .ref a_this_places, .ref a_this_placeMany, .ref a_this_now, .ref a_this_firsts, .ref a_this_forms, .ref a_this_isKept, .ref a_this_keptFigures, .ref a_this_keptPieces, .ref a_this_keptLaid, .ref a_this_keptMirrored])), (a_this_sectors, .inl (cZ, 8, .inl w23))] := hD
    refine lv_iload hx hb dX8_layMidst_3 (lv_at hl 3 rfl) ?_
    refine lv_bipush (v := (8 : Int32)) hx hb dX8_layMidst_5 (by decide) ?_
    refine lv_icmp_ge (tgt := 35) hx hb dX8_layMidst_7 (by decide) (fun c24 => ?_) (fun c24 => ?_)
    · replace k21 := hk_ip c24 k21
      exact hqk21 w23 (Option.some.inj k21).symm H locs ls hP hD hS (lv_sub hl [] rfl)
    replace k21 := hk_in c24 k21
    refine lv_aload_n hx hb dX8_layMidst_10 rfl (lv_at hl 0 rfl) ?_
    refine va_get (D := D) (ci := 4) (v := .ref a_this_sectors) (C := RX8) (T := TX8) (N := 23) hx hb hts zi_X8_layMidst_X8 hown hK.1 hP 0 rfl rfl 5 (by decide) (hts (.fieldLink RX8 23 "HalfAndHalfAgainModel" "sectors" "[Z") (List.mem_of_getElem? (i := 1) rfl)) (fun _ h9 => h9) rfl dX8_layMidst_11 ?_
    refine lv_iload hx hb dX8_layMidst_14 (lv_at hl 3 rfl) ?_
    refine lv_lload_n hx hb dX8_layMidst_16 rfl (lv_at hl 1 rfl) ?_
    refine lv_iconst (v := (4 : Int32)) hx hb dX8_layMidst_17 (by decide) ?_
    refine lv_iload_n hx hb dX8_layMidst_18 rfl (lv_at hl 2 rfl) ?_
    refine lv_imul hx hb dX8_layMidst_19 ?_
    refine lv_iload hx hb dX8_layMidst_20 (lv_at hl 3 rfl) ?_
    refine lv_iconst (v := (2 : Int32)) hx hb dX8_layMidst_22 (by decide) ?_
    refine lv_idiv hx hb dX8_layMidst_23 (by decide) ?_
    refine lv_iadd hx hb dX8_layMidst_24 ?_
    obtain ⟨r25, hr26, k21⟩ := hk_x1 k21
    refine vp_callSi (W.runS (As := [.long x1, .int (((4 : Int32) * x3) + (y22 / (2 : Int32)))]) (rest := [.int y22, .ref a_this_sectors]) ⟨hx, hb, hml, hown, hts⟩ (c_X8_has l x1 (((4 : Int32) * x3) + (y22 / (2 : Int32))) _ hr26) (va_cwS 2 hts gX8_layMidst_X8_has rfl rfl rfl zs_X8_has ⟨Nat.le_of_ble_eq_true rfl, Nat.le_of_ble_eq_true rfl⟩) ⟨fun _ _ _ _ q => q, fun _ _ _ => ⟨rfl, trivial⟩⟩ rfl rfl hl.1 rfl (lv_room (Nat.le_of_ble_eq_true rfl)) dX8_layMidst_25 ⟨Nat.zero_le _, Nat.zero_le _⟩) (fun p28 e27 => ?_)
    rw [e27]
    obtain ⟨hi29, k21⟩ := hk_ge k21
    refine va_zast hx hb hK.1 hP hD hS 1 2 rfl rfl (hk_inb_of hi29) dX8_layMidst_28 (fun H locs hP hD hS => ?_)
    have hP : va_P D vwCl [(a_this, .inr (4, [.ref a_this_near, .ref a_this_turned, .ref a_this_figures, .ref a_this_text, .int c_this_length, .ref a_this_sectors, .ref a_this_corners, .int c_this_doubles, .ref a_this_likes, .int c_this_likeMany, .int c_this_pieces, .ref a_this_laid, .ref a_this_isMirrored, .ref a_this_places, .ref a_this_placeMany, .ref a_this_now, .ref a_this_firsts, .ref a_this_forms, .ref a_this_isKept, .ref a_this_keptFigures, .ref a_this_keptPieces, .ref a_this_keptLaid, .ref a_this_keptMirrored])), (a_this_sectors, .inl (cZ, 8, .inl (upd w23 y22.toNatClampNeg (vp_nar .boolean r25))))] H := hP
    have hD : va_D A [(a_this, .inr (4, [.ref a_this_near, .ref a_this_turned, .ref a_this_figures, .ref a_this_text, .int c_this_length, .ref a_this_sectors, .ref a_this_corners, .int c_this_doubles, .ref a_this_likes, .int c_this_likeMany, .int c_this_pieces, .ref a_this_laid, .ref a_this_isMirrored, .ref a_this_places, .ref a_this_placeMany, .ref a_this_now, .ref a_this_firsts, .ref a_this_forms, .ref a_this_isKept, .ref a_this_keptFigures, .ref a_this_keptPieces, .ref a_this_keptLaid, .ref a_this_keptMirrored])), (a_this_sectors, .inl (cZ, 8, .inl (upd w23 y22.toNatClampNeg (vp_nar .boolean r25))))] := hD
    obtain ⟨x30, ex30, k21⟩ := hk_le k21
    refine lv_iinc (v := x30) (lv' := [(4, .int x30), (0, .ref a_this), (1, .long x1), (3, .int x3)]) hx hb dX8_layMidst_29 hl (k := 3) rfl (by rw [ex30]; rfl) (by decide) rfl (fun ls hl => ?_)
    refine lv_goto (tgt := 3) hx hb dX8_layMidst_32 (by decide) ?_
    exact hck21 (x30, (upd w23 y22.toNatClampNeg (vp_nar .boolean r25))) (Option.some.inj k21).symm H locs ls hP hD hS (lv_sub hl [1, 2, 3, 0] rfl)
  intro H locs ls hP hD hS hl
  have hl : lv_has ls 5 [] := hl
  have hP : va_P D vwCl [(a_this, .inr (4, [.ref a_this_near, .ref a_this_turned, .ref a_this_figures, .ref a_this_text, .int c_this_length, .ref a_this_sectors, .ref a_this_corners, .int c_this_doubles, .ref a_this_likes, .int c_this_likeMany, .int c_this_pieces, .ref a_this_laid, .ref a_this_isMirrored, .ref a_this_places, .ref a_this_placeMany, .ref a_this_now, .ref a_this_firsts, .ref a_this_forms, .ref a_this_isKept, .ref a_this_keptFigures, .ref a_this_keptPieces, .ref a_this_keptLaid, .ref a_this_keptMirrored])), (a_this_sectors, .inl (cZ, 8, .inl v32))] H := hP
  have hD : va_D A [(a_this, .inr (4, [.ref a_this_near, .ref a_this_turned, .ref a_this_figures, .ref a_this_text, .int c_this_length, .ref a_this_sectors, .ref a_this_corners, .int c_this_doubles, .ref a_this_likes, .int c_this_likeMany, .int c_this_pieces, .ref a_this_laid, .ref a_this_isMirrored, .ref a_this_places, .ref a_this_placeMany, .ref a_this_now, .ref a_this_firsts, .ref a_this_forms, .ref a_this_isKept, .ref a_this_keptFigures, .ref a_this_keptPieces, .ref a_this_keptLaid, .ref a_this_keptMirrored])), (a_this_sectors, .inl (cZ, 8, .inl v32))] := hD
  show W _ _ _ _ _ _ _ _ _ _ _ _ _ _ _ (F0 m 35 ls [])
  subst hQ
  have h := Option.some.inj h
  subst h
  exact W.vret hx hb hr (fun t ht hW => ⟨⟨(), rfl, trivial, by rw [ht]; exact hP, hD⟩, hS.F ht⟩) hS.2.2 dX8_layMidst_35
theorem zv_X8_countArcs : yX8_countArcs.cls = RX8 ∧ yX8_countArcs.cls ≠ "java/lang/invoke/MethodHandle" ∧ yX8_countArcs.cls ≠ "java/lang/invoke/VarHandle" ∧ (parseMethodDescriptor yX8_countArcs.desc).map (fun d => d.parameters.length) = some 0 := by decide +kernel
def st_X8_countArcs_36c (c_this_sectors : Nat → Int32) (y23 : Int32) (y32 : Int32) : Option (Int32 ⊕ Int32) := if (8 : Int32) ≤ y32 then (some (.inr y32)) else (hk_gd (hk_inb (hk_rem (y23 + y32) (8 : Int32)) 8) (if (c_this_sectors (hk_rem (y23 + y32) (8 : Int32)).toNatClampNeg) = 0 then (some (.inr y32)) else (hk_let (y32 + (1 : Int32)) fun x36 => some (.inl x36))))
def st_X8_countArcs_36 (c_this_sectors : Nat → Int32) (y23 : Int32) (t9 : Int32) : Option (Int32 ⊕ Int32) := st_X8_countArcs_36c c_this_sectors y23 t9
def st_X8_countArcs_4c (c_this_sectors : Nat → Int32) (y22 : Int32) (y23 : Int32) (w24 : Nat → Int32) : Option ((Int32 × Int32 × (Nat → Int32)) ⊕ (Int32 × (Nat → Int32))) := if (8 : Int32) ≤ y23 then (some (.inr (y22, w24))) else (hk_gd (hk_inb y23 8) (hk_b2 (if (c_this_sectors y23.toNatClampNeg) = 0 then (some (y22, w24)) else (hk_gd (hk_inb (hk_rem (y23 + (7 : Int32)) (8 : Int32)) 8) (if (c_this_sectors (hk_rem (y23 + (7 : Int32)) (8 : Int32)).toNatClampNeg) = 0 then (hk_b1 (hk_wl (st_X8_countArcs_36 c_this_sectors y23) hkF (0 : Int32)) fun z38 => hk_let (y22 + (1 : Int32)) fun x41 => hk_let (if z38 = (4 : Int32) then ((0 : Int32)) else (z38)) fun v44 => hk_gd (hk_inb v44 9) (hk_gd (hk_inb v44 9) (some (x41, (upd w24 v44.toNatClampNeg ((w24 v44.toNatClampNeg) + (1 : Int32))))))) else (some (y22, w24))))) fun v47 v48 => hk_let (y23 + (1 : Int32)) fun x49 => some (.inl (v47, x49, v48))))
def st_X8_countArcs_4 (c_this_sectors : Nat → Int32) (t9 : (Int32 × Int32 × (Nat → Int32))) : Option ((Int32 × Int32 × (Nat → Int32)) ⊕ (Int32 × (Nat → Int32))) := st_X8_countArcs_4c c_this_sectors t9.1 t9.2.1 t9.2.2
def f_X8_countArcs (c_this_doubles : Int32) (c_this_sectors : Nat → Int32) (c_this_corners : Nat → Int32)   : Option (Int32 × (Nat → Int32)) := hk_b2 (hk_wl (st_X8_countArcs_4 c_this_sectors) hkF ((0 : Int32), (0 : Int32), c_this_corners)) fun z51 v52 => hk_let (if z51 ≤ (1 : Int32) then ((0 : Int32)) else ((1 : Int32))) fun v57 => hk_let (c_this_doubles + v57) fun x58 => some (x58, v52)
theorem zi_X8_countArcs_X8 : ∀ w ∈ u_ws RX8 TX8 23, w ∈ wsX8_countArcs := by decide +kernel
set_option maxHeartbeats 8000000 in
set_option maxRecDepth 100000 in
theorem c_X8_countArcs (l : Launch) (D : va_G) (cI cJ cZ cO : ClassId) (a_this a_this_near a_this_turned a_this_figures a_this_text a_this_sectors a_this_corners a_this_likes a_this_laid a_this_isMirrored a_this_places a_this_placeMany a_this_now a_this_firsts a_this_forms a_this_isKept a_this_keptFigures a_this_keptPieces a_this_keptLaid a_this_keptMirrored : Nat) (sz : Nat) (c_this_length : Int32) (c_this_doubles : Int32) (c_this_likeMany : Int32) (c_this_pieces : Int32) (c_this_sectors : Nat → Int32) (c_this_corners : Nat → Int32) (u_this_doubles : Int32) (u_this_corners : Nat → Int32) (hf : f_X8_countArcs c_this_doubles c_this_sectors c_this_corners = some (u_this_doubles, u_this_corners)) : Met l yX8_countArcs wsX8_countArcs ({ frames := 0, cells := 0, slots := 0, locals := 0 }) (va_Pc [.ref a_this] (hkM D cI cJ cZ cO [(a_this, .inr (4, [.ref a_this_near, .ref a_this_turned, .ref a_this_figures, .ref a_this_text, .int c_this_length, .ref a_this_sectors, .ref a_this_corners, .int c_this_doubles, .ref a_this_likes, .int c_this_likeMany, .int c_this_pieces, .ref a_this_laid, .ref a_this_isMirrored, .ref a_this_places, .ref a_this_placeMany, .ref a_this_now, .ref a_this_firsts, .ref a_this_forms, .ref a_this_isKept, .ref a_this_keptFigures, .ref a_this_keptPieces, .ref a_this_keptLaid, .ref a_this_keptMirrored])), (a_this_sectors, .inl (cZ, 8, .inl c_this_sectors)), (a_this_corners, .inl (cI, 9, .inl c_this_corners))] sz)) (va_Qv (fun (_ : Unit) => True) (fun _ t => va_P D vwCl [(a_this, .inr (4, [.ref a_this_near, .ref a_this_turned, .ref a_this_figures, .ref a_this_text, .int c_this_length, .ref a_this_sectors, .ref a_this_corners, .int u_this_doubles, .ref a_this_likes, .int c_this_likeMany, .int c_this_pieces, .ref a_this_laid, .ref a_this_isMirrored, .ref a_this_places, .ref a_this_placeMany, .ref a_this_now, .ref a_this_firsts, .ref a_this_forms, .ref a_this_isKept, .ref a_this_keptFigures, .ref a_this_keptPieces, .ref a_this_keptLaid, .ref a_this_keptMirrored])), (a_this_sectors, .inl (cZ, 8, .inl c_this_sectors)), (a_this_corners, .inl (cI, 9, .inl u_this_corners))] t.heap ∧ va_D (va_A [(a_this, .inr (4, [.ref a_this_near, .ref a_this_turned, .ref a_this_figures, .ref a_this_text, .int c_this_length, .ref a_this_sectors, .ref a_this_corners, .int c_this_doubles, .ref a_this_likes, .int c_this_likeMany, .int c_this_pieces, .ref a_this_laid, .ref a_this_isMirrored, .ref a_this_places, .ref a_this_placeMany, .ref a_this_now, .ref a_this_firsts, .ref a_this_forms, .ref a_this_isKept, .ref a_this_keptFigures, .ref a_this_keptPieces, .ref a_this_keptLaid, .ref a_this_keptMirrored])), (a_this_sectors, .inl (cZ, 8, .inl c_this_sectors)), (a_this_corners, .inl (cI, 9, .inl c_this_corners))] sz) [(a_this, .inr (4, [.ref a_this_near, .ref a_this_turned, .ref a_this_figures, .ref a_this_text, .int c_this_length, .ref a_this_sectors, .ref a_this_corners, .int u_this_doubles, .ref a_this_likes, .int c_this_likeMany, .int c_this_pieces, .ref a_this_laid, .ref a_this_isMirrored, .ref a_this_places, .ref a_this_placeMany, .ref a_this_now, .ref a_this_firsts, .ref a_this_forms, .ref a_this_isKept, .ref a_this_keptFigures, .ref a_this_keptPieces, .ref a_this_keptLaid, .ref a_this_keptMirrored])), (a_this_sectors, .inl (cZ, 8, .inl c_this_sectors)), (a_this_corners, .inl (cI, 9, .inl u_this_corners))]) (va_A [(a_this, .inr (4, [.ref a_this_near, .ref a_this_turned, .ref a_this_figures, .ref a_this_text, .int c_this_length, .ref a_this_sectors, .ref a_this_corners, .int c_this_doubles, .ref a_this_likes, .int c_this_likeMany, .int c_this_pieces, .ref a_this_laid, .ref a_this_isMirrored, .ref a_this_places, .ref a_this_placeMany, .ref a_this_now, .ref a_this_firsts, .ref a_this_forms, .ref a_this_isKept, .ref a_this_keptFigures, .ref a_this_keptPieces, .ref a_this_keptLaid, .ref a_this_keptMirrored])), (a_this_sectors, .inl (cZ, 8, .inl c_this_sectors)), (a_this_corners, .inl (cI, 9, .inl c_this_corners))] sz)) 0 0 (va_A [(a_this, .inr (4, [.ref a_this_near, .ref a_this_turned, .ref a_this_figures, .ref a_this_text, .int c_this_length, .ref a_this_sectors, .ref a_this_corners, .int c_this_doubles, .ref a_this_likes, .int c_this_likeMany, .int c_this_pieces, .ref a_this_laid, .ref a_this_isMirrored, .ref a_this_places, .ref a_this_placeMany, .ref a_this_now, .ref a_this_firsts, .ref a_this_forms, .ref a_this_isKept, .ref a_this_keptFigures, .ref a_this_keptPieces, .ref a_this_keptLaid, .ref a_this_keptMirrored])), (a_this_sectors, .inl (cZ, 8, .inl c_this_sectors)), (a_this_corners, .inl (cI, 9, .inl c_this_corners))] sz) := by
  refine Met.ofW (cc := cX8_countArcs) (maxL := 4) (ret := none) (by decide) rfl ?_
  intro p e s m args below meth c s₁ B hml hv
  obtain ⟨rfl, hsz, hP, hK, hD0⟩ := hv
  have hx := B.exec
  have hb := B.bytes
  have hr := B.returns
  have hts := atoms_spec (ws := wsX8_countArcs) B.pre
  have hown : s.vm.findClass RX8 = some m.cls := findClass_of_methodNamed B.named
  have hlocks := B.notSynchronized
  have hN := hK.2
  subst hsz
  have hD := hD0.self (sz := s.heap.size)
  generalize hAe : va_A [(a_this, .inr (4, [.ref a_this_near, .ref a_this_turned, .ref a_this_figures, .ref a_this_text, .int c_this_length, .ref a_this_sectors, .ref a_this_corners, .int c_this_doubles, .ref a_this_likes, .int c_this_likeMany, .int c_this_pieces, .ref a_this_laid, .ref a_this_isMirrored, .ref a_this_places, .ref a_this_placeMany, .ref a_this_now, .ref a_this_firsts, .ref a_this_forms, .ref a_this_isKept, .ref a_this_keptFigures, .ref a_this_keptPieces, .ref a_this_keptLaid, .ref a_this_keptMirrored])), (a_this_sectors, .inl (cZ, 8, .inl c_this_sectors)), (a_this_corners, .inl (cI, 9, .inl c_this_corners))] s.heap.size = A at hD ⊢
  have hA : ∀ q : Nat, s.heap.size ≤ q → A q := fun q h => by rw [← hAe]; exact Or.inr h
  have hS : va_S A s.heap s.heap [] := va_S.rf
  have hl := lv_entry ([.ref a_this]) (n := 4) (Nat.le_of_ble_eq_true rfl)
  rw [lg_entry_eq]
  generalize (lg_sl ([.ref a_this]) ++ List.replicate (4 - (lg_sl ([.ref a_this])).length) Slot.unset).toArray = ls at hl ⊢
  have hl : lv_has ls 4 [(0, .ref a_this)] := hl
  refine hk_Q (fun Q hQ => ?_)
  have h := hf
  unfold f_X8_countArcs at h
  refine lv_iconst (v := (0 : Int32)) hx hb dX8_countArcs_0 (by decide) ?_
  refine lv_istore_n (lv' := [(1, .int (0 : Int32)), (0, .ref a_this)]) hx hb dX8_countArcs_1 rfl hl (by decide) rfl (fun ls hl => ?_)
  refine lv_iconst (v := (0 : Int32)) hx hb dX8_countArcs_2 (by decide) ?_
  refine lv_istore_n (lv' := [(2, .int (0 : Int32)), (1, .int (0 : Int32)), (0, .ref a_this)]) hx hb dX8_countArcs_3 rfl hl (by decide) rfl (fun ls hl => ?_)
  obtain ⟨z51, v52, hr50, h⟩ := hk_x2 h
  refine hk_loopM (f := st_X8_countArcs_4 c_this_sectors) (hd := 4) (nL := 4) (lv := fun t9 => [(0, .ref a_this), (1, .int t9.1), (2, .int t9.2.1)]) (wf := fun t9 => [(a_this, .inr (4, [.ref a_this_near, .ref a_this_turned, .ref a_this_figures, .ref a_this_text, .int c_this_length, .ref a_this_sectors, .ref a_this_corners, .int c_this_doubles, .ref a_this_likes, .int c_this_likeMany, .int c_this_pieces, .ref a_this_laid, .ref a_this_isMirrored, .ref a_this_places, .ref a_this_placeMany, .ref a_this_now, .ref a_this_firsts, .ref a_this_forms, .ref a_this_isKept, .ref a_this_keptFigures, .ref a_this_keptPieces, .ref a_this_keptLaid, .ref a_this_keptMirrored])), (a_this_sectors, .inl (cZ, 8, .inl c_this_sectors)), (a_this_corners, .inl (cI, 9, .inl t9.2.2))]) (xs := fun t9 => (90, [(0, .ref a_this), (1, .int t9.1)], [], [(a_this, .inr (4, [.ref a_this_near, .ref a_this_turned, .ref a_this_figures, .ref a_this_text, .int c_this_length, .ref a_this_sectors, .ref a_this_corners, .int c_this_doubles, .ref a_this_likes, .int c_this_likeMany, .int c_this_pieces, .ref a_this_laid, .ref a_this_isMirrored, .ref a_this_places, .ref a_this_placeMany, .ref a_this_now, .ref a_this_firsts, .ref a_this_forms, .ref a_this_isKept, .ref a_this_keptFigures, .ref a_this_keptPieces, .ref a_this_keptLaid, .ref a_this_keptMirrored])), (a_this_sectors, .inl (cZ, 8, .inl c_this_sectors)), (a_this_corners, .inl (cI, 9, .inl t9.2))])) ?_ hr50 ?_ hP hD hS (lv_sub hl [2, 1, 0] rfl)
  · intro t53 q54 k21 hck21 hqk21 H locs ls hP hD hS hl
    obtain ⟨y22, y23, w24⟩ := t53
    have k21 : st_X8_countArcs_4c c_this_sectors y22 y23 w24 = some q54 := k21
    unfold st_X8_countArcs_4c at k21
    have hl : lv_has ls 4 [(0, .ref a_this), (1, .int y22), (2, .int y23)] := hl
    have hP : va_P D vwCl [(a_this, .inr (4, [.ref a_this_near, .ref a_this_turned, .ref a_this_figures, .ref a_this_text, .int c_this_length, .ref a_this_sectors, .ref a_this_corners, .int c_this_doubles, .ref a_this_likes, .int c_this_likeMany, .int c_this_pieces, .ref a_this_laid, .ref a_this_isMirrored, .ref a_this_places, .ref a_this_placeMany, .ref a_this_now, .ref a_this_firsts, .ref a_this_forms, .ref a_this_isKept, .ref a_this_keptFigures, .ref a_this_keptPieces, .ref a_this_keptLaid, .ref a_this_keptMirrored])), (a_this_sectors, .inl (cZ, 8, .inl c_this_sectors)), (a_this_corners, .inl (cI, 9, .inl w24))] H := hP
    have hD : va_D A [(a_this, .inr (4, [.ref a_this_near, .ref a_this_turned, .ref a_this_figures, .ref a_this_text, .int c_this_length, .ref a_this_sectors, .ref a_this_corners, .int c_this_doubles, .ref a_this_likes, .int c_this_likeMany, .int c_this_pieces, .ref a_this_laid, .ref a_this_isMirrored, .ref a_this_places, .ref a_this_placeMany, .ref a_this_now, .ref a_this_firsts, .ref a_this_forms, .ref a_this_isKept, .ref a_this_keptFigures, .ref a_this_keptPieces, .ref a_this_keptLaid, .ref a_this_keptMirrored])), (a_this_sectors, .inl (cZ, 8, .inl c_this_sectors)), (a_this_corners, .inl (cI, 9, .inl w24))] := hD
    refine lv_iload_n hx hb dX8_countArcs_4 rfl (lv_at hl 2 rfl) ?_
    refine lv_bipush (v := (8 : Int32)) hx hb dX8_countArcs_5 (by decide) ?_
    refine lv_icmp_ge (tgt := 90) hx hb dX8_countArcs_7 (by decide) (fun c25 => ?_) (fun c25 => ?_)
    · replace k21 := hk_ip c25 k21
      exact hqk21 (y22, w24) (Option.some.inj k21).symm H locs ls hP hD hS (lv_sub hl [0, 1] rfl)
    replace k21 := hk_in c25 k21
    refine lv_aload_n hx hb dX8_countArcs_10 rfl (lv_at hl 0 rfl) ?_
    refine va_get (D := D) (ci := 4) (v := .ref a_this_sectors) (C := RX8) (T := TX8) (N := 23) hx hb hts zi_X8_countArcs_X8 hown hK.1 hP 0 rfl rfl 5 (by decide) (hts (.fieldLink RX8 23 "HalfAndHalfAgainModel" "sectors" "[Z") (List.mem_of_getElem? (i := 1) rfl)) (fun _ h9 => h9) rfl dX8_countArcs_11 ?_
    refine lv_iload_n hx hb dX8_countArcs_14 rfl (lv_at hl 2 rfl) ?_
    obtain ⟨hi26, k21⟩ := hk_ge k21
    refine va_zald hx hb hK.1 hP 1 2 rfl rfl (hk_inb_of hi26) dX8_countArcs_15 ?_
    obtain ⟨v47, v48, g27, k21⟩ := hk_x2 k21
    refine hk_joinM (D := D) (cl := vwCl) (A := A) (H0 := s.heap) (nL := 4) (xs := fun (t9 : (Int32 × (Nat → Int32))) => (84, [(0, .ref a_this), (1, .int t9.1), (2, .int y23)], [], [(a_this, .inr (4, [.ref a_this_near, .ref a_this_turned, .ref a_this_figures, .ref a_this_text, .int c_this_length, .ref a_this_sectors, .ref a_this_corners, .int c_this_doubles, .ref a_this_likes, .int c_this_likeMany, .int c_this_pieces, .ref a_this_laid, .ref a_this_isMirrored, .ref a_this_places, .ref a_this_placeMany, .ref a_this_now, .ref a_this_firsts, .ref a_this_forms, .ref a_this_isKept, .ref a_this_keptFigures, .ref a_this_keptPieces, .ref a_this_keptLaid, .ref a_this_keptMirrored])), (a_this_sectors, .inl (cZ, 8, .inl c_this_sectors)), (a_this_corners, .inl (cI, 9, .inl t9.2))])) (v47, v48) (fun hjg27 => ?_) ?_
    · refine lv_if_eq (tgt := 84) hx hb dX8_countArcs_16 (by decide) (fun c28 => ?_) (fun c28 => ?_)
      · replace g27 := hk_ip c28 g27
        have g27 := Option.some.inj g27
        simp only [Prod.mk.injEq] at g27
        obtain ⟨rfl, rfl⟩ := g27
        exact hjg27 H locs ls hP hD hS (lv_sub hl [0, 1, 2] rfl)
      replace g27 := hk_in c28 g27
      refine lv_aload_n hx hb dX8_countArcs_19 rfl (lv_at hl 0 rfl) ?_
      refine va_get (D := D) (ci := 4) (v := .ref a_this_sectors) (C := RX8) (T := TX8) (N := 23) hx hb hts zi_X8_countArcs_X8 hown hK.1 hP 0 rfl rfl 5 (by decide) (hts (.fieldLink RX8 23 "HalfAndHalfAgainModel" "sectors" "[Z") (List.mem_of_getElem? (i := 1) rfl)) (fun _ h9 => h9) rfl dX8_countArcs_20 ?_
      refine lv_iload_n hx hb dX8_countArcs_23 rfl (lv_at hl 2 rfl) ?_
      refine lv_bipush (v := (7 : Int32)) hx hb dX8_countArcs_24 (by decide) ?_
      refine lv_iadd hx hb dX8_countArcs_26 ?_
      refine lv_bipush (v := (8 : Int32)) hx hb dX8_countArcs_27 (by decide) ?_
      refine lv_irem hx hb dX8_countArcs_29 (by decide) ?_
      refine hk_ti (y := (hk_rem (y23 + (7 : Int32)) (8 : Int32))) rfl ?_
      obtain ⟨hi29, g27⟩ := hk_ge g27
      refine va_zald hx hb hK.1 hP 1 2 rfl rfl (hk_inb_of hi29) dX8_countArcs_30 ?_
      refine lv_if_ne (tgt := 84) hx hb dX8_countArcs_31 (by decide) (fun c30 => ?_) (fun c30 => ?_)
      · replace g27 := hk_in c30 g27
        have g27 := Option.some.inj g27
        simp only [Prod.mk.injEq] at g27
        obtain ⟨rfl, rfl⟩ := g27
        exact hjg27 H locs ls hP hD hS (lv_sub hl [0, 1, 2] rfl)
      replace g27 := hk_ip c30 g27
      refine lv_iconst (v := (0 : Int32)) hx hb dX8_countArcs_34 (by decide) ?_
      refine lv_istore_n (lv' := [(3, .int (0 : Int32)), (0, .ref a_this), (1, .int y22), (2, .int y23)]) hx hb dX8_countArcs_35 rfl hl (by decide) rfl (fun ls hl => ?_)
      obtain ⟨z38, hr37, g27⟩ := hk_x1 g27
      refine hk_loopR (f := st_X8_countArcs_36 c_this_sectors y23) (hd := 36) (nL := 4) (lv := fun t9 => [(0, .ref a_this), (1, .int y22), (2, .int y23), (3, .int t9)]) (xs := fun t9 => (62, [(0, .ref a_this), (1, .int y22), (2, .int y23), (3, .int t9)], [])) ?_ hr37 ?_ (lv_sub hl [1, 2, 3, 0] rfl)
      · intro y32 q40 k31 hck31 hqk31 ls hl
        have k31 : st_X8_countArcs_36c c_this_sectors y23 y32 = some q40 := k31
        unfold st_X8_countArcs_36c at k31
        have hl : lv_has ls 4 [(0, .ref a_this), (1, .int y22), (2, .int y23), (3, .int y32)] := hl
        refine lv_iload_n hx hb dX8_countArcs_36 rfl (lv_at hl 3 rfl) ?_
        refine lv_bipush (v := (8 : Int32)) hx hb dX8_countArcs_37 (by decide) ?_
        refine lv_icmp_ge (tgt := 62) hx hb dX8_countArcs_39 (by decide) (fun c33 => ?_) (fun c33 => ?_)
        · replace k31 := hk_ip c33 k31
          exact hqk31 y32 (Option.some.inj k31).symm ls (lv_sub hl [0, 1, 2, 3] rfl)
        replace k31 := hk_in c33 k31
        refine lv_aload_n hx hb dX8_countArcs_42 rfl (lv_at hl 0 rfl) ?_
        refine va_get (D := D) (ci := 4) (v := .ref a_this_sectors) (C := RX8) (T := TX8) (N := 23) hx hb hts zi_X8_countArcs_X8 hown hK.1 hP 0 rfl rfl 5 (by decide) (hts (.fieldLink RX8 23 "HalfAndHalfAgainModel" "sectors" "[Z") (List.mem_of_getElem? (i := 1) rfl)) (fun _ h9 => h9) rfl dX8_countArcs_43 ?_
        refine lv_iload_n hx hb dX8_countArcs_46 rfl (lv_at hl 2 rfl) ?_
        refine lv_iload_n hx hb dX8_countArcs_47 rfl (lv_at hl 3 rfl) ?_
        refine lv_iadd hx hb dX8_countArcs_48 ?_
        refine lv_bipush (v := (8 : Int32)) hx hb dX8_countArcs_49 (by decide) ?_
        refine lv_irem hx hb dX8_countArcs_51 (by decide) ?_
        refine hk_ti (y := (hk_rem (y23 + y32) (8 : Int32))) rfl ?_
        obtain ⟨hi34, k31⟩ := hk_ge k31
        refine va_zald hx hb hK.1 hP 1 2 rfl rfl (hk_inb_of hi34) dX8_countArcs_52 ?_
        refine lv_if_eq (tgt := 62) hx hb dX8_countArcs_53 (by decide) (fun c35 => ?_) (fun c35 => ?_)
        · replace k31 := hk_ip c35 k31
          exact hqk31 y32 (Option.some.inj k31).symm ls (lv_sub hl [0, 1, 2, 3] rfl)
        replace k31 := hk_in c35 k31
        obtain ⟨x36, ex36, k31⟩ := hk_le k31
        refine lv_iinc (v := x36) (lv' := [(3, .int x36), (0, .ref a_this), (1, .int y22), (2, .int y23)]) hx hb dX8_countArcs_56 hl (k := 3) rfl (by rw [ex36]; rfl) (by decide) rfl (fun ls hl => ?_)
        refine lv_goto (tgt := 36) hx hb dX8_countArcs_59 (by decide) ?_
        exact hck31 x36 (Option.some.inj k31).symm ls (lv_sub hl [1, 2, 3, 0] rfl)
      intro ls hl
      have hl : lv_has ls 4 [(0, .ref a_this), (1, .int y22), (2, .int y23), (3, .int z38)] := hl
      show W _ _ _ _ _ _ _ _ _ _ _ _ _ _ _ (F0 m 62 ls [])
      obtain ⟨x41, ex41, g27⟩ := hk_le g27
      refine lv_iinc (v := x41) (lv' := [(1, .int x41), (0, .ref a_this), (2, .int y23), (3, .int z38)]) hx hb dX8_countArcs_62 hl (k := 1) rfl (by rw [ex41]; rfl) (by decide) rfl (fun ls hl => ?_)
      refine lv_aload_n hx hb dX8_countArcs_65 rfl (lv_at hl 1 rfl) ?_
      refine va_get (D := D) (ci := 4) (v := .ref a_this_corners) (C := RX8) (T := TX8) (N := 23) hx hb hts zi_X8_countArcs_X8 hown hK.1 hP 0 rfl rfl 6 (by decide) (hts (.fieldLink RX8 27 "HalfAndHalfAgainModel" "corners" "[I") (List.mem_of_getElem? (i := 2) rfl)) (fun _ h9 => h9) rfl dX8_countArcs_66 ?_
      refine lv_iload_n hx hb dX8_countArcs_69 rfl (lv_at hl 3 rfl) ?_
      refine lv_iconst (v := (4 : Int32)) hx hb dX8_countArcs_70 (by decide) ?_
      obtain ⟨v44, g42, g27⟩ := hk_lf g27
      refine hk_joinR (nL := 4) (xs := fun (t9 : Int32) => (79, [(0, .ref a_this), (1, .int x41), (2, .int y23)], [.int t9, .ref a_this_corners])) v44 (fun hjg42 => ?_) ?_
      · refine lv_icmp_ne (tgt := 78) hx hb dX8_countArcs_71 (by decide) (fun c43 => ?_) (fun c43 => ?_)
        · replace g42 := hk_in c43 g42
          refine lv_iload_n hx hb dX8_countArcs_78 rfl (lv_at hl 3 rfl) ?_
          subst g42
          exact hjg42 ls (lv_sub hl [1, 0, 2] rfl)
        replace g42 := hk_ip c43 g42
        refine lv_iconst (v := (0 : Int32)) hx hb dX8_countArcs_74 (by decide) ?_
        refine lv_goto (tgt := 79) hx hb dX8_countArcs_75 (by decide) ?_
        subst g42
        exact hjg42 ls (lv_sub hl [1, 0, 2] rfl)
      intro ls hl
      have hl : lv_has ls 4 [(0, .ref a_this), (1, .int x41), (2, .int y23)] := hl
      show W _ _ _ _ _ _ _ _ _ _ _ _ _ _ _ (F0 m 79 ls [.int v44, .ref a_this_corners])
      refine lv_dup2_11 hx hb dX8_countArcs_79 rfl rfl ?_
      obtain ⟨hi45, g27⟩ := hk_ge g27
      refine va_iald hx hb hK.1 hP 2 0 rfl rfl (hk_inb_of hi45) dX8_countArcs_80 ?_
      refine lv_iconst (v := (1 : Int32)) hx hb dX8_countArcs_81 (by decide) ?_
      refine lv_iadd hx hb dX8_countArcs_82 ?_
      obtain ⟨hi46, g27⟩ := hk_ge g27
      refine va_iast hx hb hK.1 hP hD hS 2 0 rfl rfl (hk_inb_of hi46) dX8_countArcs_83 (fun H locs hP hD hS => ?_)
      have hP : va_P D vwCl [(a_this, .inr (4, [.ref a_this_near, .ref a_this_turned, .ref a_this_figures, .ref a_this_text, .int c_this_length, .ref a_this_sectors, .ref a_this_corners, .int c_this_doubles, .ref a_this_likes, .int c_this_likeMany, .int c_this_pieces, .ref a_this_laid, .ref a_this_isMirrored, .ref a_this_places, .ref a_this_placeMany, .ref a_this_now, .ref a_this_firsts, .ref a_this_forms, .ref a_this_isKept, .ref a_this_keptFigures, .ref a_this_keptPieces, .ref a_this_keptLaid, .ref a_this_keptMirrored])), (a_this_sectors, .inl (cZ, 8, .inl c_this_sectors)), (a_this_corners, .inl (cI, 9, .inl (upd w24 v44.toNatClampNeg ((w24 v44.toNatClampNeg) + (1 : Int32)))))] H := hP
      have hD : va_D A [(a_this, .inr (4, [.ref a_this_near, .ref a_this_turned, .ref a_this_figures, .ref a_this_text, .int c_this_length, .ref a_this_sectors, .ref a_this_corners, .int c_this_doubles, .ref a_this_likes, .int c_this_likeMany, .int c_this_pieces, .ref a_this_laid, .ref a_this_isMirrored, .ref a_this_places, .ref a_this_placeMany, .ref a_this_now, .ref a_this_firsts, .ref a_this_forms, .ref a_this_isKept, .ref a_this_keptFigures, .ref a_this_keptPieces, .ref a_this_keptLaid, .ref a_this_keptMirrored])), (a_this_sectors, .inl (cZ, 8, .inl c_this_sectors)), (a_this_corners, .inl (cI, 9, .inl (upd w24 v44.toNatClampNeg ((w24 v44.toNatClampNeg) + (1 : Int32)))))] := hD
      have g27 := Option.some.inj g27
      simp only [Prod.mk.injEq] at g27
      obtain ⟨rfl, rfl⟩ := g27
      exact hjg27 H locs ls hP hD hS (lv_sub hl [0, 1, 2] rfl)
    intro H locs ls hP hD hS hl
    have hl : lv_has ls 4 [(0, .ref a_this), (1, .int v47), (2, .int y23)] := hl
    have hP : va_P D vwCl [(a_this, .inr (4, [.ref a_this_near, .ref a_this_turned, .ref a_this_figures, .ref a_this_text, .int c_this_length, .ref a_this_sectors, .ref a_this_corners, .int c_this_doubles, .ref a_this_likes, .int c_this_likeMany, .int c_this_pieces, .ref a_this_laid, .ref a_this_isMirrored, .ref a_this_places, .ref a_this_placeMany, .ref a_this_now, .ref a_this_firsts, .ref a_this_forms, .ref a_this_isKept, .ref a_this_keptFigures, .ref a_this_keptPieces, .ref a_this_keptLaid, .ref a_this_keptMirrored])), (a_this_sectors, .inl (cZ, 8, .inl c_this_sectors)), (a_this_corners, .inl (cI, 9, .inl v48))] H := hP
    have hD : va_D A [(a_this, .inr (4, [.ref a_this_near, .ref a_this_turned, .ref a_this_figures, .ref a_this_text, .int c_this_length, .ref a_this_sectors, .ref a_this_corners, .int c_this_doubles, .ref a_this_likes, .int c_this_likeMany, .int c_this_pieces, .ref a_this_laid, .ref a_this_isMirrored, .ref a_this_places, .ref a_this_placeMany, .ref a_this_now, .ref a_this_firsts, .ref a_this_forms, .ref a_this_isKept, .ref a_this_keptFigures, .ref a_this_keptPieces, .ref a_this_keptLaid, .ref a_this_keptMirrored])), (a_this_sectors, .inl (cZ, 8, .inl c_this_sectors)), (a_this_corners, .inl (cI, 9, .inl v48))] := hD
    show W _ _ _ _ _ _ _ _ _ _ _ _ _ _ _ (F0 m 84 ls [])
    obtain ⟨x49, ex49, k21⟩ := hk_le k21
    refine lv_iinc (v := x49) (lv' := [(2, .int x49), (0, .ref a_this), (1, .int v47)]) hx hb dX8_countArcs_84 hl (k := 2) rfl (by rw [ex49]; rfl) (by decide) rfl (fun ls hl => ?_)
    refine lv_goto (tgt := 4) hx hb dX8_countArcs_87 (by decide) ?_
    exact hck21 (v47, x49, v48) (Option.some.inj k21).symm H locs ls hP hD hS (lv_sub hl [1, 2, 0] rfl)
  intro H locs ls hP hD hS hl
  have hl : lv_has ls 4 [(0, .ref a_this), (1, .int z51)] := hl
  have hP : va_P D vwCl [(a_this, .inr (4, [.ref a_this_near, .ref a_this_turned, .ref a_this_figures, .ref a_this_text, .int c_this_length, .ref a_this_sectors, .ref a_this_corners, .int c_this_doubles, .ref a_this_likes, .int c_this_likeMany, .int c_this_pieces, .ref a_this_laid, .ref a_this_isMirrored, .ref a_this_places, .ref a_this_placeMany, .ref a_this_now, .ref a_this_firsts, .ref a_this_forms, .ref a_this_isKept, .ref a_this_keptFigures, .ref a_this_keptPieces, .ref a_this_keptLaid, .ref a_this_keptMirrored])), (a_this_sectors, .inl (cZ, 8, .inl c_this_sectors)), (a_this_corners, .inl (cI, 9, .inl v52))] H := hP
  have hD : va_D A [(a_this, .inr (4, [.ref a_this_near, .ref a_this_turned, .ref a_this_figures, .ref a_this_text, .int c_this_length, .ref a_this_sectors, .ref a_this_corners, .int c_this_doubles, .ref a_this_likes, .int c_this_likeMany, .int c_this_pieces, .ref a_this_laid, .ref a_this_isMirrored, .ref a_this_places, .ref a_this_placeMany, .ref a_this_now, .ref a_this_firsts, .ref a_this_forms, .ref a_this_isKept, .ref a_this_keptFigures, .ref a_this_keptPieces, .ref a_this_keptLaid, .ref a_this_keptMirrored])), (a_this_sectors, .inl (cZ, 8, .inl c_this_sectors)), (a_this_corners, .inl (cI, 9, .inl v52))] := hD
  show W _ _ _ _ _ _ _ _ _ _ _ _ _ _ _ (F0 m 90 ls [])
  refine lv_aload_n hx hb dX8_countArcs_90 rfl (lv_at hl 0 rfl) ?_
  refine lv_dup hx hb dX8_countArcs_91 rfl ?_
  refine va_get (D := D) (ci := 4) (v := .int c_this_doubles) (C := RX8) (T := TX8) (N := 23) hx hb hts zi_X8_countArcs_X8 hown hK.1 hP 0 rfl rfl 7 (by decide) (hts (.fieldLink RX8 137 "HalfAndHalfAgainModel" "doubles" "I") (List.mem_of_getElem? (i := 3) rfl)) (fun _ h9 => h9) rfl dX8_countArcs_92 ?_
  refine lv_iload_n hx hb dX8_countArcs_95 rfl (lv_at hl 1 rfl) ?_
  refine lv_iconst (v := (1 : Int32)) hx hb dX8_countArcs_96 (by decide) ?_
  obtain ⟨v57, g55, h⟩ := hk_lf h
  refine hk_joinR (nL := 4) (xs := fun (t9 : Int32) => (105, [], [.int t9, .int c_this_doubles, .ref a_this])) v57 (fun hjg55 => ?_) ?_
  · refine lv_icmp_le (tgt := 104) hx hb dX8_countArcs_97 (by decide) (fun c56 => ?_) (fun c56 => ?_)
    · replace g55 := hk_ip c56 g55
      refine lv_iconst (v := (0 : Int32)) hx hb dX8_countArcs_104 (by decide) ?_
      subst g55
      exact hjg55 ls (lv_sub hl [] rfl)
    replace g55 := hk_in c56 g55
    refine lv_iconst (v := (1 : Int32)) hx hb dX8_countArcs_100 (by decide) ?_
    refine lv_goto (tgt := 105) hx hb dX8_countArcs_101 (by decide) ?_
    subst g55
    exact hjg55 ls (lv_sub hl [] rfl)
  intro ls hl
  have hl : lv_has ls 4 [] := hl
  show W _ _ _ _ _ _ _ _ _ _ _ _ _ _ _ (F0 m 105 ls [.int v57, .int c_this_doubles, .ref a_this])
  refine lv_iadd hx hb dX8_countArcs_105 ?_
  obtain ⟨x58, ex58, h⟩ := hk_le h
  refine hk_ti ex58 ?_
  refine va_put (D := D) (ci := 4) (v := .int x58) (ty := .int) (C := RX8) (T := TX8) (N := 23) hx hb hts zi_X8_countArcs_X8 tyX8 tyX8_ok nmX8 hown hK.1 hP hD hS 0 rfl rfl 7 (by decide) (hts (.fieldLink RX8 137 "HalfAndHalfAgainModel" "doubles" "I") (List.mem_of_getElem? (i := 3) rfl)) (fun _ h9 => h9) rfl (by decide +kernel) rfl rfl (Nat.le_of_ble_eq_true rfl) dX8_countArcs_106 (fun H locs hP hD hS => ?_)
  have hP : va_P D vwCl [(a_this, .inr (4, [.ref a_this_near, .ref a_this_turned, .ref a_this_figures, .ref a_this_text, .int c_this_length, .ref a_this_sectors, .ref a_this_corners, .int x58, .ref a_this_likes, .int c_this_likeMany, .int c_this_pieces, .ref a_this_laid, .ref a_this_isMirrored, .ref a_this_places, .ref a_this_placeMany, .ref a_this_now, .ref a_this_firsts, .ref a_this_forms, .ref a_this_isKept, .ref a_this_keptFigures, .ref a_this_keptPieces, .ref a_this_keptLaid, .ref a_this_keptMirrored])), (a_this_sectors, .inl (cZ, 8, .inl c_this_sectors)), (a_this_corners, .inl (cI, 9, .inl v52))] H := hP
  have hD : va_D A [(a_this, .inr (4, [.ref a_this_near, .ref a_this_turned, .ref a_this_figures, .ref a_this_text, .int c_this_length, .ref a_this_sectors, .ref a_this_corners, .int x58, .ref a_this_likes, .int c_this_likeMany, .int c_this_pieces, .ref a_this_laid, .ref a_this_isMirrored, .ref a_this_places, .ref a_this_placeMany, .ref a_this_now, .ref a_this_firsts, .ref a_this_forms, .ref a_this_isKept, .ref a_this_keptFigures, .ref a_this_keptPieces, .ref a_this_keptLaid, .ref a_this_keptMirrored])), (a_this_sectors, .inl (cZ, 8, .inl c_this_sectors)), (a_this_corners, .inl (cI, 9, .inl v52))] := hD
  subst hQ
  have h := Option.some.inj h
  simp only [Prod.mk.injEq] at h
  obtain ⟨rfl, rfl⟩ := h
  exact W.vret hx hb hr (fun t ht hW => ⟨⟨(), rfl, trivial, by rw [ht]; exact hP, hD⟩, hS.F ht⟩) hS.2.2 dX8_countArcs_109
theorem zv_X8_layCorners : yX8_layCorners.cls = RX8 ∧ yX8_layCorners.cls ≠ "java/lang/invoke/MethodHandle" ∧ yX8_layCorners.cls ≠ "java/lang/invoke/VarHandle" ∧ (parseMethodDescriptor yX8_layCorners.desc).map (fun d => d.parameters.length) = some 1 := by decide +kernel
def st_X8_layCorners_2c  (y22 : Int32) (w23 : Nat → Int32) : Option ((Int32 × (Nat → Int32)) ⊕ (Nat → Int32)) := if (9 : Int32) ≤ y22 then (some (.inr w23)) else (hk_gd (hk_inb y22 9) (hk_let (y22 + (1 : Int32)) fun x26 => some (.inl (x26, (upd w23 y22.toNatClampNeg (0 : Int32))))))
def st_X8_layCorners_2  (t9 : (Int32 × (Nat → Int32))) : Option ((Int32 × (Nat → Int32)) ⊕ (Nat → Int32)) := st_X8_layCorners_2c  t9.1 t9.2
def st_X8_layCorners_28c (x1 : Int64) (y32 : Int32) (w33 : Int32) (w34 : Nat → Int32) (w35 : Nat → Int32) : Option ((Int32 × Int32 × (Nat → Int32) × (Nat → Int32)) ⊕ (Int32 × (Nat → Int32) × (Nat → Int32))) := if (25 : Int32) ≤ y32 then (some (.inr (w33, w34, w35))) else (hk_b1 (f_X8_layCorner w35 x1 (y32 / (5 : Int32)) (hk_rem y32 (5 : Int32))) fun u37 => hk_b2 (f_X8_countArcs w33 u37 w34) fun u40 u41 => hk_let (y32 + (1 : Int32)) fun x44 => some (.inl (x44, u40, u41, u37)))
def st_X8_layCorners_28 (x1 : Int64) (t9 : (Int32 × Int32 × (Nat → Int32) × (Nat → Int32))) : Option ((Int32 × Int32 × (Nat → Int32) × (Nat → Int32)) ⊕ (Int32 × (Nat → Int32) × (Nat → Int32))) := st_X8_layCorners_28c x1 t9.1 t9.2.1 t9.2.2.1 t9.2.2.2
def st_X8_layCorners_57c (x1 : Int64) (y52 : Int32) (w53 : Int32) (w54 : Nat → Int32) (w55 : Nat → Int32) : Option ((Int32 × Int32 × (Nat → Int32) × (Nat → Int32)) ⊕ (Int32 × (Nat → Int32) × (Nat → Int32))) := if (16 : Int32) ≤ y52 then (some (.inr (w53, w54, w55))) else (hk_b1 (f_X8_layMidst w55 x1 y52) fun u57 => hk_b2 (f_X8_countArcs w53 u57 w54) fun u60 u61 => hk_let (y52 + (1 : Int32)) fun x64 => some (.inl (x64, u60, u61, u57)))
def st_X8_layCorners_57 (x1 : Int64) (t9 : (Int32 × Int32 × (Nat → Int32) × (Nat → Int32))) : Option ((Int32 × Int32 × (Nat → Int32) × (Nat → Int32)) ⊕ (Int32 × (Nat → Int32) × (Nat → Int32))) := st_X8_layCorners_57c x1 t9.1 t9.2.1 t9.2.2.1 t9.2.2.2
def f_X8_layCorners (c_this_doubles : Int32) (c_this_corners : Nat → Int32) (c_this_sectors : Nat → Int32)  (x1 : Int64) : Option (Int32 × (Nat → Int32) × (Nat → Int32)) := hk_b1 (hk_wl (st_X8_layCorners_2) hkF ((0 : Int32), c_this_corners)) fun v28 => hk_b3 (hk_wl (st_X8_layCorners_28 x1) hkF ((0 : Int32), (0 : Int32), v28, c_this_sectors)) fun v46 v47 v48 => hk_b3 (hk_wl (st_X8_layCorners_57 x1) hkF ((0 : Int32), v46, v47, v48)) fun v66 v67 v68 => some (v66, v67, v68)
theorem zi_X8_layCorners_X8 : ∀ w ∈ u_ws RX8 TX8 23, w ∈ wsX8_layCorners := by decide +kernel
set_option maxHeartbeats 8000000 in
set_option maxRecDepth 100000 in
theorem c_X8_layCorners (l : Launch) (D : va_G) (cI cJ cZ cO : ClassId) (a_this a_this_near a_this_turned a_this_figures a_this_text a_this_sectors a_this_corners a_this_likes a_this_laid a_this_isMirrored a_this_places a_this_placeMany a_this_now a_this_firsts a_this_forms a_this_isKept a_this_keptFigures a_this_keptPieces a_this_keptLaid a_this_keptMirrored : Nat) (sz : Nat) (c_this_length : Int32) (c_this_doubles : Int32) (c_this_likeMany : Int32) (c_this_pieces : Int32) (c_this_corners : Nat → Int32) (c_this_sectors : Nat → Int32) (x1 : Int64) (u_this_doubles : Int32) (u_this_corners : Nat → Int32) (u_this_sectors : Nat → Int32) (hf : f_X8_layCorners c_this_doubles c_this_corners c_this_sectors x1 = some (u_this_doubles, u_this_corners, u_this_sectors)) : Met l yX8_layCorners wsX8_layCorners ({ frames := 2, cells := 0, slots := 0, locals := 54 }) (va_Pc [.ref a_this, .long x1] (hkM D cI cJ cZ cO [(a_this, .inr (4, [.ref a_this_near, .ref a_this_turned, .ref a_this_figures, .ref a_this_text, .int c_this_length, .ref a_this_sectors, .ref a_this_corners, .int c_this_doubles, .ref a_this_likes, .int c_this_likeMany, .int c_this_pieces, .ref a_this_laid, .ref a_this_isMirrored, .ref a_this_places, .ref a_this_placeMany, .ref a_this_now, .ref a_this_firsts, .ref a_this_forms, .ref a_this_isKept, .ref a_this_keptFigures, .ref a_this_keptPieces, .ref a_this_keptLaid, .ref a_this_keptMirrored])), (a_this_corners, .inl (cI, 9, .inl c_this_corners)), (a_this_sectors, .inl (cZ, 8, .inl c_this_sectors))] sz)) (va_Qv (fun (_ : Unit) => True) (fun _ t => va_P D vwCl [(a_this, .inr (4, [.ref a_this_near, .ref a_this_turned, .ref a_this_figures, .ref a_this_text, .int c_this_length, .ref a_this_sectors, .ref a_this_corners, .int u_this_doubles, .ref a_this_likes, .int c_this_likeMany, .int c_this_pieces, .ref a_this_laid, .ref a_this_isMirrored, .ref a_this_places, .ref a_this_placeMany, .ref a_this_now, .ref a_this_firsts, .ref a_this_forms, .ref a_this_isKept, .ref a_this_keptFigures, .ref a_this_keptPieces, .ref a_this_keptLaid, .ref a_this_keptMirrored])), (a_this_corners, .inl (cI, 9, .inl u_this_corners)), (a_this_sectors, .inl (cZ, 8, .inl u_this_sectors))] t.heap ∧ va_D (va_A [(a_this, .inr (4, [.ref a_this_near, .ref a_this_turned, .ref a_this_figures, .ref a_this_text, .int c_this_length, .ref a_this_sectors, .ref a_this_corners, .int c_this_doubles, .ref a_this_likes, .int c_this_likeMany, .int c_this_pieces, .ref a_this_laid, .ref a_this_isMirrored, .ref a_this_places, .ref a_this_placeMany, .ref a_this_now, .ref a_this_firsts, .ref a_this_forms, .ref a_this_isKept, .ref a_this_keptFigures, .ref a_this_keptPieces, .ref a_this_keptLaid, .ref a_this_keptMirrored])), (a_this_corners, .inl (cI, 9, .inl c_this_corners)), (a_this_sectors, .inl (cZ, 8, .inl c_this_sectors))] sz) [(a_this, .inr (4, [.ref a_this_near, .ref a_this_turned, .ref a_this_figures, .ref a_this_text, .int c_this_length, .ref a_this_sectors, .ref a_this_corners, .int u_this_doubles, .ref a_this_likes, .int c_this_likeMany, .int c_this_pieces, .ref a_this_laid, .ref a_this_isMirrored, .ref a_this_places, .ref a_this_placeMany, .ref a_this_now, .ref a_this_firsts, .ref a_this_forms, .ref a_this_isKept, .ref a_this_keptFigures, .ref a_this_keptPieces, .ref a_this_keptLaid, .ref a_this_keptMirrored])), (a_this_corners, .inl (cI, 9, .inl u_this_corners)), (a_this_sectors, .inl (cZ, 8, .inl u_this_sectors))]) (va_A [(a_this, .inr (4, [.ref a_this_near, .ref a_this_turned, .ref a_this_figures, .ref a_this_text, .int c_this_length, .ref a_this_sectors, .ref a_this_corners, .int c_this_doubles, .ref a_this_likes, .int c_this_likeMany, .int c_this_pieces, .ref a_this_laid, .ref a_this_isMirrored, .ref a_this_places, .ref a_this_placeMany, .ref a_this_now, .ref a_this_firsts, .ref a_this_forms, .ref a_this_isKept, .ref a_this_keptFigures, .ref a_this_keptPieces, .ref a_this_keptLaid, .ref a_this_keptMirrored])), (a_this_corners, .inl (cI, 9, .inl c_this_corners)), (a_this_sectors, .inl (cZ, 8, .inl c_this_sectors))] sz)) 0 0 (va_A [(a_this, .inr (4, [.ref a_this_near, .ref a_this_turned, .ref a_this_figures, .ref a_this_text, .int c_this_length, .ref a_this_sectors, .ref a_this_corners, .int c_this_doubles, .ref a_this_likes, .int c_this_likeMany, .int c_this_pieces, .ref a_this_laid, .ref a_this_isMirrored, .ref a_this_places, .ref a_this_placeMany, .ref a_this_now, .ref a_this_firsts, .ref a_this_forms, .ref a_this_isKept, .ref a_this_keptFigures, .ref a_this_keptPieces, .ref a_this_keptLaid, .ref a_this_keptMirrored])), (a_this_corners, .inl (cI, 9, .inl c_this_corners)), (a_this_sectors, .inl (cZ, 8, .inl c_this_sectors))] sz) := by
  refine Met.ofW (cc := cX8_layCorners) (maxL := 4) (ret := none) (by decide) rfl ?_
  intro p e s m args below meth c s₁ B hml hv
  obtain ⟨rfl, hsz, hP, hK, hD0⟩ := hv
  have hx := B.exec
  have hb := B.bytes
  have hr := B.returns
  have hts := atoms_spec (ws := wsX8_layCorners) B.pre
  have hown : s.vm.findClass RX8 = some m.cls := findClass_of_methodNamed B.named
  have hlocks := B.notSynchronized
  have hN := hK.2
  subst hsz
  have hD := hD0.self (sz := s.heap.size)
  generalize hAe : va_A [(a_this, .inr (4, [.ref a_this_near, .ref a_this_turned, .ref a_this_figures, .ref a_this_text, .int c_this_length, .ref a_this_sectors, .ref a_this_corners, .int c_this_doubles, .ref a_this_likes, .int c_this_likeMany, .int c_this_pieces, .ref a_this_laid, .ref a_this_isMirrored, .ref a_this_places, .ref a_this_placeMany, .ref a_this_now, .ref a_this_firsts, .ref a_this_forms, .ref a_this_isKept, .ref a_this_keptFigures, .ref a_this_keptPieces, .ref a_this_keptLaid, .ref a_this_keptMirrored])), (a_this_corners, .inl (cI, 9, .inl c_this_corners)), (a_this_sectors, .inl (cZ, 8, .inl c_this_sectors))] s.heap.size = A at hD ⊢
  have hA : ∀ q : Nat, s.heap.size ≤ q → A q := fun q h => by rw [← hAe]; exact Or.inr h
  have hS : va_S A s.heap s.heap [] := va_S.rf
  have hl := lv_entry ([.ref a_this, .long x1]) (n := 4) (Nat.le_of_ble_eq_true rfl)
  rw [lg_entry_eq]
  generalize (lg_sl ([.ref a_this, .long x1]) ++ List.replicate (4 - (lg_sl ([.ref a_this, .long x1])).length) Slot.unset).toArray = ls at hl ⊢
  have hl : lv_has ls 4 [(0, .ref a_this), (1, .long x1)] := hl
  refine hk_Q (fun Q hQ => ?_)
  have h := hf
  unfold f_X8_layCorners at h
  refine lv_iconst (v := (0 : Int32)) hx hb dX8_layCorners_0 (by decide) ?_
  refine lv_istore_n (lv' := [(3, .int (0 : Int32)), (0, .ref a_this), (1, .long x1)]) hx hb dX8_layCorners_1 rfl hl (by decide) rfl (fun ls hl => ?_)
  obtain ⟨v28, hr27, h⟩ := hk_x1 h
  refine hk_loopM (f := st_X8_layCorners_2) (hd := 2) (nL := 4) (lv := fun t9 => [(0, .ref a_this), (1, .long x1), (3, .int t9.1)]) (wf := fun t9 => [(a_this, .inr (4, [.ref a_this_near, .ref a_this_turned, .ref a_this_figures, .ref a_this_text, .int c_this_length, .ref a_this_sectors, .ref a_this_corners, .int c_this_doubles, .ref a_this_likes, .int c_this_likeMany, .int c_this_pieces, .ref a_this_laid, .ref a_this_isMirrored, .ref a_this_places, .ref a_this_placeMany, .ref a_this_now, .ref a_this_firsts, .ref a_this_forms, .ref a_this_isKept, .ref a_this_keptFigures, .ref a_this_keptPieces, .ref a_this_keptLaid, .ref a_this_keptMirrored])), (a_this_corners, .inl (cI, 9, .inl t9.2)), (a_this_sectors, .inl (cZ, 8, .inl c_this_sectors))]) (xs := fun t9 => (21, [(0, .ref a_this), (1, .long x1)], [], [(a_this, .inr (4, [.ref a_this_near, .ref a_this_turned, .ref a_this_figures, .ref a_this_text, .int c_this_length, .ref a_this_sectors, .ref a_this_corners, .int c_this_doubles, .ref a_this_likes, .int c_this_likeMany, .int c_this_pieces, .ref a_this_laid, .ref a_this_isMirrored, .ref a_this_places, .ref a_this_placeMany, .ref a_this_now, .ref a_this_firsts, .ref a_this_forms, .ref a_this_isKept, .ref a_this_keptFigures, .ref a_this_keptPieces, .ref a_this_keptLaid, .ref a_this_keptMirrored])), (a_this_corners, .inl (cI, 9, .inl t9)), (a_this_sectors, .inl (cZ, 8, .inl c_this_sectors))])) ?_ hr27 ?_ hP hD hS (lv_sub hl [1, 2, 0] rfl)
  · intro t29 q30 k21 hck21 hqk21 H locs ls hP hD hS hl
    obtain ⟨y22, w23⟩ := t29
    have k21 : st_X8_layCorners_2c  y22 w23 = some q30 := k21
    unfold st_X8_layCorners_2c at k21
    have hl : lv_has ls 4 [(0, .ref a_this), (1, .long x1), (3, .int y22)] := hl
    have hP : va_P D vwCl [(a_this, .inr (4, [.ref a_this_near, .ref a_this_turned, .ref a_this_figures, .ref a_this_text, .int c_this_length, .ref a_this_sectors, .ref a_this_corners, .int c_this_doubles, .ref a_this_likes, .int c_this_likeMany, .int c_this_pieces, .ref a_this_laid, .ref a_this_isMirrored, .ref a_this_places, .ref a_this_placeMany, .ref a_this_now, .ref a_this_firsts, .ref a_this_forms, .ref a_this_isKept, .ref a_this_keptFigures, .ref a_this_keptPieces, .ref a_this_keptLaid, .ref a_this_keptMirrored])), (a_this_corners, .inl (cI, 9, .inl w23)), (a_this_sectors, .inl (cZ, 8, .inl c_this_sectors))] H := hP
    have hD : va_D A [(a_this, .inr (4, [.ref a_this_near, .ref a_this_turned, .ref a_this_figures, .ref a_this_text, .int c_this_length, .ref a_this_sectors, .ref a_this_corners, .int c_this_doubles, .ref a_this_likes, .int c_this_likeMany, .int c_this_pieces, .ref a_this_laid, .ref a_this_isMirrored, .ref a_this_places, .ref a_this_placeMany, .ref a_this_now, .ref a_this_firsts, .ref a_this_forms, .ref a_this_isKept, .ref a_this_keptFigures, .ref a_this_keptPieces, .ref a_this_keptLaid, .ref a_this_keptMirrored])), (a_this_corners, .inl (cI, 9, .inl w23)), (a_this_sectors, .inl (cZ, 8, .inl c_this_sectors))] := hD
    refine lv_iload_n hx hb dX8_layCorners_2 rfl (lv_at hl 2 rfl) ?_
    refine lv_bipush (v := (9 : Int32)) hx hb dX8_layCorners_3 (by decide) ?_
    refine lv_icmp_ge (tgt := 21) hx hb dX8_layCorners_5 (by decide) (fun c24 => ?_) (fun c24 => ?_)
    · replace k21 := hk_ip c24 k21
      exact hqk21 w23 (Option.some.inj k21).symm H locs ls hP hD hS (lv_sub hl [0, 1] rfl)
    replace k21 := hk_in c24 k21
    refine lv_aload_n hx hb dX8_layCorners_8 rfl (lv_at hl 0 rfl) ?_
    refine va_get (D := D) (ci := 4) (v := .ref a_this_corners) (C := RX8) (T := TX8) (N := 23) hx hb hts zi_X8_layCorners_X8 hown hK.1 hP 0 rfl rfl 6 (by decide) (hts (.fieldLink RX8 27 "HalfAndHalfAgainModel" "corners" "[I") (List.mem_of_getElem? (i := 1) rfl)) (fun _ h9 => h9) rfl dX8_layCorners_9 ?_
    refine lv_iload_n hx hb dX8_layCorners_12 rfl (lv_at hl 2 rfl) ?_
    refine lv_iconst (v := (0 : Int32)) hx hb dX8_layCorners_13 (by decide) ?_
    obtain ⟨hi25, k21⟩ := hk_ge k21
    refine va_iast hx hb hK.1 hP hD hS 1 0 rfl rfl (hk_inb_of hi25) dX8_layCorners_14 (fun H locs hP hD hS => ?_)
    have hP : va_P D vwCl [(a_this, .inr (4, [.ref a_this_near, .ref a_this_turned, .ref a_this_figures, .ref a_this_text, .int c_this_length, .ref a_this_sectors, .ref a_this_corners, .int c_this_doubles, .ref a_this_likes, .int c_this_likeMany, .int c_this_pieces, .ref a_this_laid, .ref a_this_isMirrored, .ref a_this_places, .ref a_this_placeMany, .ref a_this_now, .ref a_this_firsts, .ref a_this_forms, .ref a_this_isKept, .ref a_this_keptFigures, .ref a_this_keptPieces, .ref a_this_keptLaid, .ref a_this_keptMirrored])), (a_this_corners, .inl (cI, 9, .inl (upd w23 y22.toNatClampNeg (0 : Int32)))), (a_this_sectors, .inl (cZ, 8, .inl c_this_sectors))] H := hP
    have hD : va_D A [(a_this, .inr (4, [.ref a_this_near, .ref a_this_turned, .ref a_this_figures, .ref a_this_text, .int c_this_length, .ref a_this_sectors, .ref a_this_corners, .int c_this_doubles, .ref a_this_likes, .int c_this_likeMany, .int c_this_pieces, .ref a_this_laid, .ref a_this_isMirrored, .ref a_this_places, .ref a_this_placeMany, .ref a_this_now, .ref a_this_firsts, .ref a_this_forms, .ref a_this_isKept, .ref a_this_keptFigures, .ref a_this_keptPieces, .ref a_this_keptLaid, .ref a_this_keptMirrored])), (a_this_corners, .inl (cI, 9, .inl (upd w23 y22.toNatClampNeg (0 : Int32)))), (a_this_sectors, .inl (cZ, 8, .inl c_this_sectors))] := hD
    obtain ⟨x26, ex26, k21⟩ := hk_le k21
    refine lv_iinc (v := x26) (lv' := [(3, .int x26), (0, .ref a_this), (1, .long x1)]) hx hb dX8_layCorners_15 hl (k := 2) rfl (by rw [ex26]; rfl) (by decide) rfl (fun ls hl => ?_)
    refine lv_goto (tgt := 2) hx hb dX8_layCorners_18 (by decide) ?_
    exact hck21 (x26, (upd w23 y22.toNatClampNeg (0 : Int32))) (Option.some.inj k21).symm H locs ls hP hD hS (lv_sub hl [1, 2, 0] rfl)
  intro H locs ls hP hD hS hl
  have hl : lv_has ls 4 [(0, .ref a_this), (1, .long x1)] := hl
  have hP : va_P D vwCl [(a_this, .inr (4, [.ref a_this_near, .ref a_this_turned, .ref a_this_figures, .ref a_this_text, .int c_this_length, .ref a_this_sectors, .ref a_this_corners, .int c_this_doubles, .ref a_this_likes, .int c_this_likeMany, .int c_this_pieces, .ref a_this_laid, .ref a_this_isMirrored, .ref a_this_places, .ref a_this_placeMany, .ref a_this_now, .ref a_this_firsts, .ref a_this_forms, .ref a_this_isKept, .ref a_this_keptFigures, .ref a_this_keptPieces, .ref a_this_keptLaid, .ref a_this_keptMirrored])), (a_this_corners, .inl (cI, 9, .inl v28)), (a_this_sectors, .inl (cZ, 8, .inl c_this_sectors))] H := hP
  have hD : va_D A [(a_this, .inr (4, [.ref a_this_near, .ref a_this_turned, .ref a_this_figures, .ref a_this_text, .int c_this_length, .ref a_this_sectors, .ref a_this_corners, .int c_this_doubles, .ref a_this_likes, .int c_this_likeMany, .int c_this_pieces, .ref a_this_laid, .ref a_this_isMirrored, .ref a_this_places, .ref a_this_placeMany, .ref a_this_now, .ref a_this_firsts, .ref a_this_forms, .ref a_this_isKept, .ref a_this_keptFigures, .ref a_this_keptPieces, .ref a_this_keptLaid, .ref a_this_keptMirrored])), (a_this_corners, .inl (cI, 9, .inl v28)), (a_this_sectors, .inl (cZ, 8, .inl c_this_sectors))] := hD
  show W _ _ _ _ _ _ _ _ _ _ _ _ _ _ _ (F0 m 21 ls [])
  refine lv_aload_n hx hb dX8_layCorners_21 rfl (lv_at hl 0 rfl) ?_
  refine lv_iconst (v := (0 : Int32)) hx hb dX8_layCorners_22 (by decide) ?_
  refine va_put (D := D) (ci := 4) (v := .int (0 : Int32)) (ty := .int) (C := RX8) (T := TX8) (N := 23) hx hb hts zi_X8_layCorners_X8 tyX8 tyX8_ok nmX8 hown hK.1 hP hD hS 0 rfl rfl 7 (by decide) (hts (.fieldLink RX8 137 "HalfAndHalfAgainModel" "doubles" "I") (List.mem_of_getElem? (i := 2) rfl)) (fun _ h9 => h9) rfl (by decide +kernel) rfl rfl (Nat.le_of_ble_eq_true rfl) dX8_layCorners_23 (fun H locs hP hD hS => ?_)
  have hP : va_P D vwCl [(a_this, .inr (4, [.ref a_this_near, .ref a_this_turned, .ref a_this_figures, .ref a_this_text, .int c_this_length, .ref a_this_sectors, .ref a_this_corners, .int (0 : Int32), .ref a_this_likes, .int c_this_likeMany, .int c_this_pieces, .ref a_this_laid, .ref a_this_isMirrored, .ref a_this_places, .ref a_this_placeMany, .ref a_this_now, .ref a_this_firsts, .ref a_this_forms, .ref a_this_isKept, .ref a_this_keptFigures, .ref a_this_keptPieces, .ref a_this_keptLaid, .ref a_this_keptMirrored])), (a_this_corners, .inl (cI, 9, .inl v28)), (a_this_sectors, .inl (cZ, 8, .inl c_this_sectors))] H := hP
  have hD : va_D A [(a_this, .inr (4, [.ref a_this_near, .ref a_this_turned, .ref a_this_figures, .ref a_this_text, .int c_this_length, .ref a_this_sectors, .ref a_this_corners, .int (0 : Int32), .ref a_this_likes, .int c_this_likeMany, .int c_this_pieces, .ref a_this_laid, .ref a_this_isMirrored, .ref a_this_places, .ref a_this_placeMany, .ref a_this_now, .ref a_this_firsts, .ref a_this_forms, .ref a_this_isKept, .ref a_this_keptFigures, .ref a_this_keptPieces, .ref a_this_keptLaid, .ref a_this_keptMirrored])), (a_this_corners, .inl (cI, 9, .inl v28)), (a_this_sectors, .inl (cZ, 8, .inl c_this_sectors))] := hD
  refine lv_iconst (v := (0 : Int32)) hx hb dX8_layCorners_26 (by decide) ?_
  refine lv_istore_n (lv' := [(3, .int (0 : Int32)), (0, .ref a_this), (1, .long x1)]) hx hb dX8_layCorners_27 rfl hl (by decide) rfl (fun ls hl => ?_)
  obtain ⟨v46, v47, v48, hr45, h⟩ := hk_x3 h
  refine hk_loopM (f := st_X8_layCorners_28 x1) (hd := 28) (nL := 4) (lv := fun t9 => [(0, .ref a_this), (1, .long x1), (3, .int t9.1)]) (wf := fun t9 => [(a_this, .inr (4, [.ref a_this_near, .ref a_this_turned, .ref a_this_figures, .ref a_this_text, .int c_this_length, .ref a_this_sectors, .ref a_this_corners, .int t9.2.1, .ref a_this_likes, .int c_this_likeMany, .int c_this_pieces, .ref a_this_laid, .ref a_this_isMirrored, .ref a_this_places, .ref a_this_placeMany, .ref a_this_now, .ref a_this_firsts, .ref a_this_forms, .ref a_this_isKept, .ref a_this_keptFigures, .ref a_this_keptPieces, .ref a_this_keptLaid, .ref a_this_keptMirrored])), (a_this_corners, .inl (cI, 9, .inl t9.2.2.1)), (a_this_sectors, .inl (cZ, 8, .inl t9.2.2.2))]) (xs := fun t9 => (55, [(0, .ref a_this), (1, .long x1)], [], [(a_this, .inr (4, [.ref a_this_near, .ref a_this_turned, .ref a_this_figures, .ref a_this_text, .int c_this_length, .ref a_this_sectors, .ref a_this_corners, .int t9.1, .ref a_this_likes, .int c_this_likeMany, .int c_this_pieces, .ref a_this_laid, .ref a_this_isMirrored, .ref a_this_places, .ref a_this_placeMany, .ref a_this_now, .ref a_this_firsts, .ref a_this_forms, .ref a_this_isKept, .ref a_this_keptFigures, .ref a_this_keptPieces, .ref a_this_keptLaid, .ref a_this_keptMirrored])), (a_this_corners, .inl (cI, 9, .inl t9.2.1)), (a_this_sectors, .inl (cZ, 8, .inl t9.2.2))])) ?_ hr45 ?_ hP hD hS (lv_sub hl [1, 2, 0] rfl)
  · intro t49 q50 k31 hck31 hqk31 H locs ls hP hD hS hl
    obtain ⟨y32, w33, w34, w35⟩ := t49
    have k31 : st_X8_layCorners_28c x1 y32 w33 w34 w35 = some q50 := k31
    unfold st_X8_layCorners_28c at k31
    have hl : lv_has ls 4 [(0, .ref a_this), (1, .long x1), (3, .int y32)] := hl
    have hP : va_P D vwCl [(a_this, .inr (4, [.ref a_this_near, .ref a_this_turned, .ref a_this_figures, .ref a_this_text, .int c_this_length, .ref a_this_sectors, .ref a_this_corners, .int w33, .ref a_this_likes, .int c_this_likeMany, .int c_this_pieces, .ref a_this_laid, .ref a_this_isMirrored, .ref a_this_places, .ref a_this_placeMany, .ref a_this_now, .ref a_this_firsts, .ref a_this_forms, .ref a_this_isKept, .ref a_this_keptFigures, .ref a_this_keptPieces, .ref a_this_keptLaid, .ref a_this_keptMirrored])), (a_this_corners, .inl (cI, 9, .inl w34)), (a_this_sectors, .inl (cZ, 8, .inl w35))] H := hP
    have hD : va_D A [(a_this, .inr (4, [.ref a_this_near, .ref a_this_turned, .ref a_this_figures, .ref a_this_text, .int c_this_length, .ref a_this_sectors, .ref a_this_corners, .int w33, .ref a_this_likes, .int c_this_likeMany, .int c_this_pieces, .ref a_this_laid, .ref a_this_isMirrored, .ref a_this_places, .ref a_this_placeMany, .ref a_this_now, .ref a_this_firsts, .ref a_this_forms, .ref a_this_isKept, .ref a_this_keptFigures, .ref a_this_keptPieces, .ref a_this_keptLaid, .ref a_this_keptMirrored])), (a_this_corners, .inl (cI, 9, .inl w34)), (a_this_sectors, .inl (cZ, 8, .inl w35))] := hD
    refine lv_iload_n hx hb dX8_layCorners_28 rfl (lv_at hl 2 rfl) ?_
    refine lv_bipush (v := (25 : Int32)) hx hb dX8_layCorners_29 (by decide) ?_
    refine lv_icmp_ge (tgt := 55) hx hb dX8_layCorners_31 (by decide) (fun c36 => ?_) (fun c36 => ?_)
    · replace k31 := hk_ip c36 k31
      exact hqk31 (w33, w34, w35) (Option.some.inj k31).symm H locs ls hP hD hS (lv_sub hl [0, 1] rfl)
    replace k31 := hk_in c36 k31
    refine lv_aload_n hx hb dX8_layCorners_34 rfl (lv_at hl 0 rfl) ?_
    refine lv_lload_n hx hb dX8_layCorners_35 rfl (lv_at hl 1 rfl) ?_
    refine lv_iload_n hx hb dX8_layCorners_36 rfl (lv_at hl 2 rfl) ?_
    refine lv_iconst (v := (5 : Int32)) hx hb dX8_layCorners_37 (by decide) ?_
    refine lv_idiv hx hb dX8_layCorners_38 (by decide) ?_
    refine lv_iload_n hx hb dX8_layCorners_39 rfl (lv_at hl 2 rfl) ?_
    refine lv_iconst (v := (5 : Int32)) hx hb dX8_layCorners_40 (by decide) ?_
    refine lv_irem hx hb dX8_layCorners_41 (by decide) ?_
    refine hk_ti (y := (hk_rem y32 (5 : Int32))) rfl ?_
    obtain ⟨u37, hr38, k31⟩ := hk_x1 k31
    have hPc := hP.sub (ws' := [(a_this, .inr (4, [.ref a_this_near, .ref a_this_turned, .ref a_this_figures, .ref a_this_text, .int c_this_length, .ref a_this_sectors, .ref a_this_corners, .int w33, .ref a_this_likes, .int c_this_likeMany, .int c_this_pieces, .ref a_this_laid, .ref a_this_isMirrored, .ref a_this_places, .ref a_this_placeMany, .ref a_this_now, .ref a_this_firsts, .ref a_this_forms, .ref a_this_isKept, .ref a_this_keptFigures, .ref a_this_keptPieces, .ref a_this_keptLaid, .ref a_this_keptMirrored])), (a_this_sectors, .inl (cZ, 8, .inl w35))]) [0, 2] rfl
    have hDc := hD.sub (ws' := [(a_this, .inr (4, [.ref a_this_near, .ref a_this_turned, .ref a_this_figures, .ref a_this_text, .int c_this_length, .ref a_this_sectors, .ref a_this_corners, .int w33, .ref a_this_likes, .int c_this_likeMany, .int c_this_pieces, .ref a_this_laid, .ref a_this_isMirrored, .ref a_this_places, .ref a_this_placeMany, .ref a_this_now, .ref a_this_firsts, .ref a_this_forms, .ref a_this_isKept, .ref a_this_keptFigures, .ref a_this_keptPieces, .ref a_this_keptLaid, .ref a_this_keptMirrored])), (a_this_sectors, .inl (cZ, 8, .inl w35))]) [0, 2] (by decide) rfl
    have hFc := va_free (wc := [(a_this, .inr (4, [.ref a_this_near, .ref a_this_turned, .ref a_this_figures, .ref a_this_text, .int c_this_length, .ref a_this_sectors, .ref a_this_corners, .int w33, .ref a_this_likes, .int c_this_likeMany, .int c_this_pieces, .ref a_this_laid, .ref a_this_isMirrored, .ref a_this_places, .ref a_this_placeMany, .ref a_this_now, .ref a_this_firsts, .ref a_this_forms, .ref a_this_isKept, .ref a_this_keptFigures, .ref a_this_keptPieces, .ref a_this_keptLaid, .ref a_this_keptMirrored])), (a_this_sectors, .inl (cZ, 8, .inl w35))]) hD hS hA [0, 2] rfl
    refine va_callv (va_runV (As := [.long x1, .int (y32 / (5 : Int32)), .int (hk_rem y32 (5 : Int32))]) (rest := []) ⟨hx, hb, hml, hown, hts⟩ (c_X8_layCorner l D cI cJ cZ cO a_this a_this_near a_this_turned a_this_figures a_this_text a_this_sectors a_this_corners a_this_likes a_this_laid a_this_isMirrored a_this_places a_this_placeMany a_this_now a_this_firsts a_this_forms a_this_isKept a_this_keptFigures a_this_keptPieces a_this_keptLaid a_this_keptMirrored H.size c_this_length w33 c_this_likeMany c_this_pieces w35 x1 (y32 / (5 : Int32)) (hk_rem y32 (5 : Int32)) _ hr38) (cwV 3 hts gX8_layCorners_X8_layCorner rfl rfl rfl zv_X8_layCorner ⟨Nat.le_of_ble_eq_true rfl, Nat.le_of_ble_eq_true rfl⟩) (hk_preMV 4 rfl hPc hDc hK rfl) rfl rfl hl.1 rfl (lv_room (Nat.le_of_ble_eq_true rfl)) dX8_layCorners_42 ⟨Nat.zero_le _, Nat.zero_le _⟩) hS (fun q _ h9 => hFc q h9) hFc (fun u9 t9 H1 locs ht hvm hw hB hz1 hk1 hS => ?_)
    obtain ⟨hP1, hD1⟩ := hB
    rw [ht] at hP1
    obtain ⟨hP, hD⟩ := va_join (wr := [(a_this_corners, .inl (cI, 9, .inl w34))]) (w1 := [(a_this, .inr (4, [.ref a_this_near, .ref a_this_turned, .ref a_this_figures, .ref a_this_text, .int c_this_length, .ref a_this_sectors, .ref a_this_corners, .int w33, .ref a_this_likes, .int c_this_likeMany, .int c_this_pieces, .ref a_this_laid, .ref a_this_isMirrored, .ref a_this_places, .ref a_this_placeMany, .ref a_this_now, .ref a_this_firsts, .ref a_this_forms, .ref a_this_isKept, .ref a_this_keptFigures, .ref a_this_keptPieces, .ref a_this_keptLaid, .ref a_this_keptMirrored])), (a_this_sectors, .inl (cZ, 8, .inl u37))]) hP hD [0, 2] [1] rfl rfl (by decide) (by decide) hk1 hFc hP1 hD1
    generalize H1 = H at hP hS ⊢
    have hP := hP.sub (ws' := [(a_this, .inr (4, [.ref a_this_near, .ref a_this_turned, .ref a_this_figures, .ref a_this_text, .int c_this_length, .ref a_this_sectors, .ref a_this_corners, .int w33, .ref a_this_likes, .int c_this_likeMany, .int c_this_pieces, .ref a_this_laid, .ref a_this_isMirrored, .ref a_this_places, .ref a_this_placeMany, .ref a_this_now, .ref a_this_firsts, .ref a_this_forms, .ref a_this_isKept, .ref a_this_keptFigures, .ref a_this_keptPieces, .ref a_this_keptLaid, .ref a_this_keptMirrored])), (a_this_corners, .inl (cI, 9, .inl w34)), (a_this_sectors, .inl (cZ, 8, .inl u37))]) [1, 0, 2] rfl
    have hD := hD.sub (ws' := [(a_this, .inr (4, [.ref a_this_near, .ref a_this_turned, .ref a_this_figures, .ref a_this_text, .int c_this_length, .ref a_this_sectors, .ref a_this_corners, .int w33, .ref a_this_likes, .int c_this_likeMany, .int c_this_pieces, .ref a_this_laid, .ref a_this_isMirrored, .ref a_this_places, .ref a_this_placeMany, .ref a_this_now, .ref a_this_firsts, .ref a_this_forms, .ref a_this_isKept, .ref a_this_keptFigures, .ref a_this_keptPieces, .ref a_this_keptLaid, .ref a_this_keptMirrored])), (a_this_corners, .inl (cI, 9, .inl w34)), (a_this_sectors, .inl (cZ, 8, .inl u37))]) [1, 0, 2] (by decide) rfl
    refine lv_aload_n hx hb dX8_layCorners_45 rfl (lv_at hl 0 rfl) ?_
    obtain ⟨u40, u41, hr42, k31⟩ := hk_x2 k31
    have hPc := hP.sub (ws' := [(a_this, .inr (4, [.ref a_this_near, .ref a_this_turned, .ref a_this_figures, .ref a_this_text, .int c_this_length, .ref a_this_sectors, .ref a_this_corners, .int w33, .ref a_this_likes, .int c_this_likeMany, .int c_this_pieces, .ref a_this_laid, .ref a_this_isMirrored, .ref a_this_places, .ref a_this_placeMany, .ref a_this_now, .ref a_this_firsts, .ref a_this_forms, .ref a_this_isKept, .ref a_this_keptFigures, .ref a_this_keptPieces, .ref a_this_keptLaid, .ref a_this_keptMirrored])), (a_this_sectors, .inl (cZ, 8, .inl u37)), (a_this_corners, .inl (cI, 9, .inl w34))]) [0, 2, 1] rfl
    have hDc := hD.sub (ws' := [(a_this, .inr (4, [.ref a_this_near, .ref a_this_turned, .ref a_this_figures, .ref a_this_text, .int c_this_length, .ref a_this_sectors, .ref a_this_corners, .int w33, .ref a_this_likes, .int c_this_likeMany, .int c_this_pieces, .ref a_this_laid, .ref a_this_isMirrored, .ref a_this_places, .ref a_this_placeMany, .ref a_this_now, .ref a_this_firsts, .ref a_this_forms, .ref a_this_isKept, .ref a_this_keptFigures, .ref a_this_keptPieces, .ref a_this_keptLaid, .ref a_this_keptMirrored])), (a_this_sectors, .inl (cZ, 8, .inl u37)), (a_this_corners, .inl (cI, 9, .inl w34))]) [0, 2, 1] (by decide) rfl
    have hFc := va_free (wc := [(a_this, .inr (4, [.ref a_this_near, .ref a_this_turned, .ref a_this_figures, .ref a_this_text, .int c_this_length, .ref a_this_sectors, .ref a_this_corners, .int w33, .ref a_this_likes, .int c_this_likeMany, .int c_this_pieces, .ref a_this_laid, .ref a_this_isMirrored, .ref a_this_places, .ref a_this_placeMany, .ref a_this_now, .ref a_this_firsts, .ref a_this_forms, .ref a_this_isKept, .ref a_this_keptFigures, .ref a_this_keptPieces, .ref a_this_keptLaid, .ref a_this_keptMirrored])), (a_this_sectors, .inl (cZ, 8, .inl u37)), (a_this_corners, .inl (cI, 9, .inl w34))]) hD hS hA [0, 2, 1] rfl
    refine va_callv (va_runV (As := []) (rest := []) ⟨hx, hb, hml, hown, hts⟩ (c_X8_countArcs l D cI cJ cZ cO a_this a_this_near a_this_turned a_this_figures a_this_text a_this_sectors a_this_corners a_this_likes a_this_laid a_this_isMirrored a_this_places a_this_placeMany a_this_now a_this_firsts a_this_forms a_this_isKept a_this_keptFigures a_this_keptPieces a_this_keptLaid a_this_keptMirrored H.size c_this_length w33 c_this_likeMany c_this_pieces u37 w34 _ _ hr42) (cwV 0 hts gX8_layCorners_X8_countArcs rfl rfl rfl zv_X8_countArcs ⟨Nat.le_of_ble_eq_true rfl, Nat.le_of_ble_eq_true rfl⟩) (hk_preMV 4 rfl hPc hDc hK rfl) rfl rfl hl.1 rfl (lv_room (Nat.le_of_ble_eq_true rfl)) dX8_layCorners_46 ⟨Nat.zero_le _, Nat.zero_le _⟩) hS (fun q _ h9 => hFc q h9) hFc (fun u9 t9 H1 locs ht hvm hw hB hz1 hk1 hS => ?_)
    obtain ⟨hP1, hD1⟩ := hB
    rw [ht] at hP1
    obtain ⟨hP, hD⟩ := va_join (wr := []) (w1 := [(a_this, .inr (4, [.ref a_this_near, .ref a_this_turned, .ref a_this_figures, .ref a_this_text, .int c_this_length, .ref a_this_sectors, .ref a_this_corners, .int u40, .ref a_this_likes, .int c_this_likeMany, .int c_this_pieces, .ref a_this_laid, .ref a_this_isMirrored, .ref a_this_places, .ref a_this_placeMany, .ref a_this_now, .ref a_this_firsts, .ref a_this_forms, .ref a_this_isKept, .ref a_this_keptFigures, .ref a_this_keptPieces, .ref a_this_keptLaid, .ref a_this_keptMirrored])), (a_this_sectors, .inl (cZ, 8, .inl u37)), (a_this_corners, .inl (cI, 9, .inl u41))]) hP hD [0, 2, 1] [] rfl rfl (by decide) (by decide) hk1 hFc hP1 hD1
    generalize H1 = H at hP hS ⊢
    have hP := hP.sub (ws' := [(a_this, .inr (4, [.ref a_this_near, .ref a_this_turned, .ref a_this_figures, .ref a_this_text, .int c_this_length, .ref a_this_sectors, .ref a_this_corners, .int u40, .ref a_this_likes, .int c_this_likeMany, .int c_this_pieces, .ref a_this_laid, .ref a_this_isMirrored, .ref a_this_places, .ref a_this_placeMany, .ref a_this_now, .ref a_this_firsts, .ref a_this_forms, .ref a_this_isKept, .ref a_this_keptFigures, .ref a_this_keptPieces, .ref a_this_keptLaid, .ref a_this_keptMirrored])), (a_this_corners, .inl (cI, 9, .inl u41)), (a_this_sectors, .inl (cZ, 8, .inl u37))]) [0, 2, 1] rfl
    have hD := hD.sub (ws' := [(a_this, .inr (4, [.ref a_this_near, .ref a_this_turned, .ref a_this_figures, .ref a_this_text, .int c_this_length, .ref a_this_sectors, .ref a_this_corners, .int u40, .ref a_this_likes, .int c_this_likeMany, .int c_this_pieces, .ref a_this_laid, .ref a_this_isMirrored, .ref a_this_places, .ref a_this_placeMany, .ref a_this_now, .ref a_this_firsts, .ref a_this_forms, .ref a_this_isKept, .ref a_this_keptFigures, .ref a_this_keptPieces, .ref a_this_keptLaid, .ref a_this_keptMirrored])), (a_this_corners, .inl (cI, 9, .inl u41)), (a_this_sectors, .inl (cZ, 8, .inl u37))]) [0, 2, 1] (by decide) rfl
    obtain ⟨x44, ex44, k31⟩ := hk_le k31
    refine lv_iinc (v := x44) (lv' := [(3, .int x44), (0, .ref a_this), (1, .long x1)]) hx hb dX8_layCorners_49 hl (k := 2) rfl (by rw [ex44]; rfl) (by decide) rfl (fun ls hl => ?_)
    refine lv_goto (tgt := 28) hx hb dX8_layCorners_52 (by decide) ?_
    exact hck31 (x44, u40, u41, u37) (Option.some.inj k31).symm H locs ls hP hD hS (lv_sub hl [1, 2, 0] rfl)
  intro H locs ls hP hD hS hl
  have hl : lv_has ls 4 [(0, .ref a_this), (1, .long x1)] := hl
  have hP : va_P D vwCl [(a_this, .inr (4, [.ref a_this_near, .ref a_this_turned, .ref a_this_figures, .ref a_this_text, .int c_this_length, .ref a_this_sectors, .ref a_this_corners, .int v46, .ref a_this_likes, .int c_this_likeMany, .int c_this_pieces, .ref a_this_laid, .ref a_this_isMirrored, .ref a_this_places, .ref a_this_placeMany, .ref a_this_now, .ref a_this_firsts, .ref a_this_forms, .ref a_this_isKept, .ref a_this_keptFigures, .ref a_this_keptPieces, .ref a_this_keptLaid, .ref a_this_keptMirrored])), (a_this_corners, .inl (cI, 9, .inl v47)), (a_this_sectors, .inl (cZ, 8, .inl v48))] H := hP
  have hD : va_D A [(a_this, .inr (4, [.ref a_this_near, .ref a_this_turned, .ref a_this_figures, .ref a_this_text, .int c_this_length, .ref a_this_sectors, .ref a_this_corners, .int v46, .ref a_this_likes, .int c_this_likeMany, .int c_this_pieces, .ref a_this_laid, .ref a_this_isMirrored, .ref a_this_places, .ref a_this_placeMany, .ref a_this_now, .ref a_this_firsts, .ref a_this_forms, .ref a_this_isKept, .ref a_this_keptFigures, .ref a_this_keptPieces, .ref a_this_keptLaid, .ref a_this_keptMirrored])), (a_this_corners, .inl (cI, 9, .inl v47)), (a_this_sectors, .inl (cZ, 8, .inl v48))] := hD
  show W _ _ _ _ _ _ _ _ _ _ _ _ _ _ _ (F0 m 55 ls [])
  refine lv_iconst (v := (0 : Int32)) hx hb dX8_layCorners_55 (by decide) ?_
  refine lv_istore_n (lv' := [(3, .int (0 : Int32)), (0, .ref a_this), (1, .long x1)]) hx hb dX8_layCorners_56 rfl hl (by decide) rfl (fun ls hl => ?_)
  obtain ⟨v66, v67, v68, hr65, h⟩ := hk_x3 h
  refine hk_loopM (f := st_X8_layCorners_57 x1) (hd := 57) (nL := 4) (lv := fun t9 => [(0, .ref a_this), (1, .long x1), (3, .int t9.1)]) (wf := fun t9 => [(a_this, .inr (4, [.ref a_this_near, .ref a_this_turned, .ref a_this_figures, .ref a_this_text, .int c_this_length, .ref a_this_sectors, .ref a_this_corners, .int t9.2.1, .ref a_this_likes, .int c_this_likeMany, .int c_this_pieces, .ref a_this_laid, .ref a_this_isMirrored, .ref a_this_places, .ref a_this_placeMany, .ref a_this_now, .ref a_this_firsts, .ref a_this_forms, .ref a_this_isKept, .ref a_this_keptFigures, .ref a_this_keptPieces, .ref a_this_keptLaid, .ref a_this_keptMirrored])), (a_this_corners, .inl (cI, 9, .inl t9.2.2.1)), (a_this_sectors, .inl (cZ, 8, .inl t9.2.2.2))]) (xs := fun t9 => (79, [], [], [(a_this, .inr (4, [.ref a_this_near, .ref a_this_turned, .ref a_this_figures, .ref a_this_text, .int c_this_length, .ref a_this_sectors, .ref a_this_corners, .int t9.1, .ref a_this_likes, .int c_this_likeMany, .int c_this_pieces, .ref a_this_laid, .ref a_this_isMirrored, .ref a_this_places, .ref a_this_placeMany, .ref a_this_now, .ref a_this_firsts, .ref a_this_forms, .ref a_this_isKept, .ref a_this_keptFigures, .ref a_this_keptPieces, .ref a_this_keptLaid, .ref a_this_keptMirrored])), (a_this_corners, .inl (cI, 9, .inl t9.2.1)), (a_this_sectors, .inl (cZ, 8, .inl t9.2.2))])) ?_ hr65 ?_ hP hD hS (lv_sub hl [1, 2, 0] rfl)
  · intro t69 q70 k51 hck51 hqk51 H locs ls hP hD hS hl
    obtain ⟨y52, w53, w54, w55⟩ := t69
    have k51 : st_X8_layCorners_57c x1 y52 w53 w54 w55 = some q70 := k51
    unfold st_X8_layCorners_57c at k51
    have hl : lv_has ls 4 [(0, .ref a_this), (1, .long x1), (3, .int y52)] := hl
    have hP : va_P D vwCl [(a_this, .inr (4, [.ref a_this_near, .ref a_this_turned, .ref a_this_figures, .ref a_this_text, .int c_this_length, .ref a_this_sectors, .ref a_this_corners, .int w53, .ref a_this_likes, .int c_this_likeMany, .int c_this_pieces, .ref a_this_laid, .ref a_this_isMirrored, .ref a_this_places, .ref a_this_placeMany, .ref a_this_now, .ref a_this_firsts, .ref a_this_forms, .ref a_this_isKept, .ref a_this_keptFigures, .ref a_this_keptPieces, .ref a_this_keptLaid, .ref a_this_keptMirrored])), (a_this_corners, .inl (cI, 9, .inl w54)), (a_this_sectors, .inl (cZ, 8, .inl w55))] H := hP
    have hD : va_D A [(a_this, .inr (4, [.ref a_this_near, .ref a_this_turned, .ref a_this_figures, .ref a_this_text, .int c_this_length, .ref a_this_sectors, .ref a_this_corners, .int w53, .ref a_this_likes, .int c_this_likeMany, .int c_this_pieces, .ref a_this_laid, .ref a_this_isMirrored, .ref a_this_places, .ref a_this_placeMany, .ref a_this_now, .ref a_this_firsts, .ref a_this_forms, .ref a_this_isKept, .ref a_this_keptFigures, .ref a_this_keptPieces, .ref a_this_keptLaid, .ref a_this_keptMirrored])), (a_this_corners, .inl (cI, 9, .inl w54)), (a_this_sectors, .inl (cZ, 8, .inl w55))] := hD
    refine lv_iload_n hx hb dX8_layCorners_57 rfl (lv_at hl 2 rfl) ?_
    refine lv_bipush (v := (16 : Int32)) hx hb dX8_layCorners_58 (by decide) ?_
    refine lv_icmp_ge (tgt := 79) hx hb dX8_layCorners_60 (by decide) (fun c56 => ?_) (fun c56 => ?_)
    · replace k51 := hk_ip c56 k51
      exact hqk51 (w53, w54, w55) (Option.some.inj k51).symm H locs ls hP hD hS (lv_sub hl [] rfl)
    replace k51 := hk_in c56 k51
    refine lv_aload_n hx hb dX8_layCorners_63 rfl (lv_at hl 0 rfl) ?_
    refine lv_lload_n hx hb dX8_layCorners_64 rfl (lv_at hl 1 rfl) ?_
    refine lv_iload_n hx hb dX8_layCorners_65 rfl (lv_at hl 2 rfl) ?_
    obtain ⟨u57, hr58, k51⟩ := hk_x1 k51
    have hPc := hP.sub (ws' := [(a_this, .inr (4, [.ref a_this_near, .ref a_this_turned, .ref a_this_figures, .ref a_this_text, .int c_this_length, .ref a_this_sectors, .ref a_this_corners, .int w53, .ref a_this_likes, .int c_this_likeMany, .int c_this_pieces, .ref a_this_laid, .ref a_this_isMirrored, .ref a_this_places, .ref a_this_placeMany, .ref a_this_now, .ref a_this_firsts, .ref a_this_forms, .ref a_this_isKept, .ref a_this_keptFigures, .ref a_this_keptPieces, .ref a_this_keptLaid, .ref a_this_keptMirrored])), (a_this_sectors, .inl (cZ, 8, .inl w55))]) [0, 2] rfl
    have hDc := hD.sub (ws' := [(a_this, .inr (4, [.ref a_this_near, .ref a_this_turned, .ref a_this_figures, .ref a_this_text, .int c_this_length, .ref a_this_sectors, .ref a_this_corners, .int w53, .ref a_this_likes, .int c_this_likeMany, .int c_this_pieces, .ref a_this_laid, .ref a_this_isMirrored, .ref a_this_places, .ref a_this_placeMany, .ref a_this_now, .ref a_this_firsts, .ref a_this_forms, .ref a_this_isKept, .ref a_this_keptFigures, .ref a_this_keptPieces, .ref a_this_keptLaid, .ref a_this_keptMirrored])), (a_this_sectors, .inl (cZ, 8, .inl w55))]) [0, 2] (by decide) rfl
    have hFc := va_free (wc := [(a_this, .inr (4, [.ref a_this_near, .ref a_this_turned, .ref a_this_figures, .ref a_this_text, .int c_this_length, .ref a_this_sectors, .ref a_this_corners, .int w53, .ref a_this_likes, .int c_this_likeMany, .int c_this_pieces, .ref a_this_laid, .ref a_this_isMirrored, .ref a_this_places, .ref a_this_placeMany, .ref a_this_now, .ref a_this_firsts, .ref a_this_forms, .ref a_this_isKept, .ref a_this_keptFigures, .ref a_this_keptPieces, .ref a_this_keptLaid, .ref a_this_keptMirrored])), (a_this_sectors, .inl (cZ, 8, .inl w55))]) hD hS hA [0, 2] rfl
    refine va_callv (va_runV (As := [.long x1, .int y52]) (rest := []) ⟨hx, hb, hml, hown, hts⟩ (c_X8_layMidst l D cI cJ cZ cO a_this a_this_near a_this_turned a_this_figures a_this_text a_this_sectors a_this_corners a_this_likes a_this_laid a_this_isMirrored a_this_places a_this_placeMany a_this_now a_this_firsts a_this_forms a_this_isKept a_this_keptFigures a_this_keptPieces a_this_keptLaid a_this_keptMirrored H.size c_this_length w53 c_this_likeMany c_this_pieces w55 x1 y52 _ hr58) (cwV 2 hts gX8_layCorners_X8_layMidst rfl rfl rfl zv_X8_layMidst ⟨Nat.le_of_ble_eq_true rfl, Nat.le_of_ble_eq_true rfl⟩) (hk_preMV 4 rfl hPc hDc hK rfl) rfl rfl hl.1 rfl (lv_room (Nat.le_of_ble_eq_true rfl)) dX8_layCorners_66 ⟨Nat.zero_le _, Nat.zero_le _⟩) hS (fun q _ h9 => hFc q h9) hFc (fun u9 t9 H1 locs ht hvm hw hB hz1 hk1 hS => ?_)
    obtain ⟨hP1, hD1⟩ := hB
    rw [ht] at hP1
    obtain ⟨hP, hD⟩ := va_join (wr := [(a_this_corners, .inl (cI, 9, .inl w54))]) (w1 := [(a_this, .inr (4, [.ref a_this_near, .ref a_this_turned, .ref a_this_figures, .ref a_this_text, .int c_this_length, .ref a_this_sectors, .ref a_this_corners, .int w53, .ref a_this_likes, .int c_this_likeMany, .int c_this_pieces, .ref a_this_laid, .ref a_this_isMirrored, .ref a_this_places, .ref a_this_placeMany, .ref a_this_now, .ref a_this_firsts, .ref a_this_forms, .ref a_this_isKept, .ref a_this_keptFigures, .ref a_this_keptPieces, .ref a_this_keptLaid, .ref a_this_keptMirrored])), (a_this_sectors, .inl (cZ, 8, .inl u57))]) hP hD [0, 2] [1] rfl rfl (by decide) (by decide) hk1 hFc hP1 hD1
    generalize H1 = H at hP hS ⊢
    have hP := hP.sub (ws' := [(a_this, .inr (4, [.ref a_this_near, .ref a_this_turned, .ref a_this_figures, .ref a_this_text, .int c_this_length, .ref a_this_sectors, .ref a_this_corners, .int w53, .ref a_this_likes, .int c_this_likeMany, .int c_this_pieces, .ref a_this_laid, .ref a_this_isMirrored, .ref a_this_places, .ref a_this_placeMany, .ref a_this_now, .ref a_this_firsts, .ref a_this_forms, .ref a_this_isKept, .ref a_this_keptFigures, .ref a_this_keptPieces, .ref a_this_keptLaid, .ref a_this_keptMirrored])), (a_this_corners, .inl (cI, 9, .inl w54)), (a_this_sectors, .inl (cZ, 8, .inl u57))]) [1, 0, 2] rfl
    have hD := hD.sub (ws' := [(a_this, .inr (4, [.ref a_this_near, .ref a_this_turned, .ref a_this_figures, .ref a_this_text, .int c_this_length, .ref a_this_sectors, .ref a_this_corners, .int w53, .ref a_this_likes, .int c_this_likeMany, .int c_this_pieces, .ref a_this_laid, .ref a_this_isMirrored, .ref a_this_places, .ref a_this_placeMany, .ref a_this_now, .ref a_this_firsts, .ref a_this_forms, .ref a_this_isKept, .ref a_this_keptFigures, .ref a_this_keptPieces, .ref a_this_keptLaid, .ref a_this_keptMirrored])), (a_this_corners, .inl (cI, 9, .inl w54)), (a_this_sectors, .inl (cZ, 8, .inl u57))]) [1, 0, 2] (by decide) rfl
    refine lv_aload_n hx hb dX8_layCorners_69 rfl (lv_at hl 0 rfl) ?_
    obtain ⟨u60, u61, hr62, k51⟩ := hk_x2 k51
    have hPc := hP.sub (ws' := [(a_this, .inr (4, [.ref a_this_near, .ref a_this_turned, .ref a_this_figures, .ref a_this_text, .int c_this_length, .ref a_this_sectors, .ref a_this_corners, .int w53, .ref a_this_likes, .int c_this_likeMany, .int c_this_pieces, .ref a_this_laid, .ref a_this_isMirrored, .ref a_this_places, .ref a_this_placeMany, .ref a_this_now, .ref a_this_firsts, .ref a_this_forms, .ref a_this_isKept, .ref a_this_keptFigures, .ref a_this_keptPieces, .ref a_this_keptLaid, .ref a_this_keptMirrored])), (a_this_sectors, .inl (cZ, 8, .inl u57)), (a_this_corners, .inl (cI, 9, .inl w54))]) [0, 2, 1] rfl
    have hDc := hD.sub (ws' := [(a_this, .inr (4, [.ref a_this_near, .ref a_this_turned, .ref a_this_figures, .ref a_this_text, .int c_this_length, .ref a_this_sectors, .ref a_this_corners, .int w53, .ref a_this_likes, .int c_this_likeMany, .int c_this_pieces, .ref a_this_laid, .ref a_this_isMirrored, .ref a_this_places, .ref a_this_placeMany, .ref a_this_now, .ref a_this_firsts, .ref a_this_forms, .ref a_this_isKept, .ref a_this_keptFigures, .ref a_this_keptPieces, .ref a_this_keptLaid, .ref a_this_keptMirrored])), (a_this_sectors, .inl (cZ, 8, .inl u57)), (a_this_corners, .inl (cI, 9, .inl w54))]) [0, 2, 1] (by decide) rfl
    have hFc := va_free (wc := [(a_this, .inr (4, [.ref a_this_near, .ref a_this_turned, .ref a_this_figures, .ref a_this_text, .int c_this_length, .ref a_this_sectors, .ref a_this_corners, .int w53, .ref a_this_likes, .int c_this_likeMany, .int c_this_pieces, .ref a_this_laid, .ref a_this_isMirrored, .ref a_this_places, .ref a_this_placeMany, .ref a_this_now, .ref a_this_firsts, .ref a_this_forms, .ref a_this_isKept, .ref a_this_keptFigures, .ref a_this_keptPieces, .ref a_this_keptLaid, .ref a_this_keptMirrored])), (a_this_sectors, .inl (cZ, 8, .inl u57)), (a_this_corners, .inl (cI, 9, .inl w54))]) hD hS hA [0, 2, 1] rfl
    refine va_callv (va_runV (As := []) (rest := []) ⟨hx, hb, hml, hown, hts⟩ (c_X8_countArcs l D cI cJ cZ cO a_this a_this_near a_this_turned a_this_figures a_this_text a_this_sectors a_this_corners a_this_likes a_this_laid a_this_isMirrored a_this_places a_this_placeMany a_this_now a_this_firsts a_this_forms a_this_isKept a_this_keptFigures a_this_keptPieces a_this_keptLaid a_this_keptMirrored H.size c_this_length w53 c_this_likeMany c_this_pieces u57 w54 _ _ hr62) (cwV 0 hts gX8_layCorners_X8_countArcs rfl rfl rfl zv_X8_countArcs ⟨Nat.le_of_ble_eq_true rfl, Nat.le_of_ble_eq_true rfl⟩) (hk_preMV 4 rfl hPc hDc hK rfl) rfl rfl hl.1 rfl (lv_room (Nat.le_of_ble_eq_true rfl)) dX8_layCorners_70 ⟨Nat.zero_le _, Nat.zero_le _⟩) hS (fun q _ h9 => hFc q h9) hFc (fun u9 t9 H1 locs ht hvm hw hB hz1 hk1 hS => ?_)
    obtain ⟨hP1, hD1⟩ := hB
    rw [ht] at hP1
    obtain ⟨hP, hD⟩ := va_join (wr := []) (w1 := [(a_this, .inr (4, [.ref a_this_near, .ref a_this_turned, .ref a_this_figures, .ref a_this_text, .int c_this_length, .ref a_this_sectors, .ref a_this_corners, .int u60, .ref a_this_likes, .int c_this_likeMany, .int c_this_pieces, .ref a_this_laid, .ref a_this_isMirrored, .ref a_this_places, .ref a_this_placeMany, .ref a_this_now, .ref a_this_firsts, .ref a_this_forms, .ref a_this_isKept, .ref a_this_keptFigures, .ref a_this_keptPieces, .ref a_this_keptLaid, .ref a_this_keptMirrored])), (a_this_sectors, .inl (cZ, 8, .inl u57)), (a_this_corners, .inl (cI, 9, .inl u61))]) hP hD [0, 2, 1] [] rfl rfl (by decide) (by decide) hk1 hFc hP1 hD1
    generalize H1 = H at hP hS ⊢
    have hP := hP.sub (ws' := [(a_this, .inr (4, [.ref a_this_near, .ref a_this_turned, .ref a_this_figures, .ref a_this_text, .int c_this_length, .ref a_this_sectors, .ref a_this_corners, .int u60, .ref a_this_likes, .int c_this_likeMany, .int c_this_pieces, .ref a_this_laid, .ref a_this_isMirrored, .ref a_this_places, .ref a_this_placeMany, .ref a_this_now, .ref a_this_firsts, .ref a_this_forms, .ref a_this_isKept, .ref a_this_keptFigures, .ref a_this_keptPieces, .ref a_this_keptLaid, .ref a_this_keptMirrored])), (a_this_corners, .inl (cI, 9, .inl u61)), (a_this_sectors, .inl (cZ, 8, .inl u57))]) [0, 2, 1] rfl
    have hD := hD.sub (ws' := [(a_this, .inr (4, [.ref a_this_near, .ref a_this_turned, .ref a_this_figures, .ref a_this_text, .int c_this_length, .ref a_this_sectors, .ref a_this_corners, .int u60, .ref a_this_likes, .int c_this_likeMany, .int c_this_pieces, .ref a_this_laid, .ref a_this_isMirrored, .ref a_this_places, .ref a_this_placeMany, .ref a_this_now, .ref a_this_firsts, .ref a_this_forms, .ref a_this_isKept, .ref a_this_keptFigures, .ref a_this_keptPieces, .ref a_this_keptLaid, .ref a_this_keptMirrored])), (a_this_corners, .inl (cI, 9, .inl u61)), (a_this_sectors, .inl (cZ, 8, .inl u57))]) [0, 2, 1] (by decide) rfl
    obtain ⟨x64, ex64, k51⟩ := hk_le k51
    refine lv_iinc (v := x64) (lv' := [(3, .int x64), (0, .ref a_this), (1, .long x1)]) hx hb dX8_layCorners_73 hl (k := 2) rfl (by rw [ex64]; rfl) (by decide) rfl (fun ls hl => ?_)
    refine lv_goto (tgt := 57) hx hb dX8_layCorners_76 (by decide) ?_
    exact hck51 (x64, u60, u61, u57) (Option.some.inj k51).symm H locs ls hP hD hS (lv_sub hl [1, 2, 0] rfl)
  intro H locs ls hP hD hS hl
  have hl : lv_has ls 4 [] := hl
  have hP : va_P D vwCl [(a_this, .inr (4, [.ref a_this_near, .ref a_this_turned, .ref a_this_figures, .ref a_this_text, .int c_this_length, .ref a_this_sectors, .ref a_this_corners, .int v66, .ref a_this_likes, .int c_this_likeMany, .int c_this_pieces, .ref a_this_laid, .ref a_this_isMirrored, .ref a_this_places, .ref a_this_placeMany, .ref a_this_now, .ref a_this_firsts, .ref a_this_forms, .ref a_this_isKept, .ref a_this_keptFigures, .ref a_this_keptPieces, .ref a_this_keptLaid, .ref a_this_keptMirrored])), (a_this_corners, .inl (cI, 9, .inl v67)), (a_this_sectors, .inl (cZ, 8, .inl v68))] H := hP
  have hD : va_D A [(a_this, .inr (4, [.ref a_this_near, .ref a_this_turned, .ref a_this_figures, .ref a_this_text, .int c_this_length, .ref a_this_sectors, .ref a_this_corners, .int v66, .ref a_this_likes, .int c_this_likeMany, .int c_this_pieces, .ref a_this_laid, .ref a_this_isMirrored, .ref a_this_places, .ref a_this_placeMany, .ref a_this_now, .ref a_this_firsts, .ref a_this_forms, .ref a_this_isKept, .ref a_this_keptFigures, .ref a_this_keptPieces, .ref a_this_keptLaid, .ref a_this_keptMirrored])), (a_this_corners, .inl (cI, 9, .inl v67)), (a_this_sectors, .inl (cZ, 8, .inl v68))] := hD
  show W _ _ _ _ _ _ _ _ _ _ _ _ _ _ _ (F0 m 79 ls [])
  subst hQ
  have h := Option.some.inj h
  simp only [Prod.mk.injEq] at h
  obtain ⟨rfl, rfl, rfl⟩ := h
  exact W.vret hx hb hr (fun t ht hW => ⟨⟨(), rfl, trivial, by rw [ht]; exact hP, hD⟩, hS.F ht⟩) hS.2.2 dX8_layCorners_79
