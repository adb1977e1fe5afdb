/-! walks printed by wip/whole/gen.py -/
theorem zv_X8_formOf : yX8_formOf.cls = RX8 ∧ yX8_formOf.cls ≠ "java/lang/invoke/MethodHandle" ∧ yX8_formOf.cls ≠ "java/lang/invoke/VarHandle" ∧ (parseMethodDescriptor yX8_formOf.desc).map (fun d => d.parameters.length) = some 1 := by decide +kernel
def f_X8_formOf (c_this_likeMany : Int32) (c_this_turned : Nat → Int32) (c_this_likes : Nat → Int64)  (x1 : Int64) : Option (Int64 × Int32 × (Nat → Int64)) := if x1 = (0 : Int64) then (some ((0 : Int64), c_this_likeMany, c_this_likes)) else (hk_b2 (f_X8_layLikes c_this_likeMany c_this_turned c_this_likes x1 (8 : Int32)) fun u22 u23 => hk_gd (hk_inb (0 : Int32) 400) (some ((u23 (0 : Int32).toNatClampNeg), u22, u23)))
theorem zi_X8_formOf_X8 : ∀ w ∈ u_ws RX8 TX8 23, w ∈ wsX8_formOf := by decide +kernel
set_option maxHeartbeats 8000000 in
set_option maxRecDepth 100000 in
theorem c_X8_formOf (l : Launch) (D : va_G) (cI cJ cZ cO : ClassId) (a_this a_this_near a_this_turned a_this_figures a_this_text a_this_sectors a_this_corners a_this_likes a_this_laid a_this_isMirrored a_this_places a_this_placeMany a_this_now a_this_firsts a_this_forms a_this_isKept a_this_keptFigures a_this_keptPieces a_this_keptLaid a_this_keptMirrored : Nat) (sz : Nat) (c_this_length : Int32) (c_this_doubles : Int32) (c_this_likeMany : Int32) (c_this_pieces : Int32) (c_this_turned : Nat → Int32) (c_this_likes : Nat → Int64) (x1 : Int64) (rv : Int64) (u_this_likeMany : Int32) (u_this_likes : Nat → Int64) (hf : f_X8_formOf c_this_likeMany c_this_turned c_this_likes x1 = some (rv, u_this_likeMany, u_this_likes)) : Met l yX8_formOf wsX8_formOf ({ frames := 3, cells := 0, slots := 0, locals := 78 }) (va_Pc [.ref a_this, .long x1] (hkM D cI cJ cZ cO [(a_this, .inr (4, [.ref a_this_near, .ref a_this_turned, .ref a_this_figures, .ref a_this_text, .int c_this_length, .ref a_this_sectors, .ref a_this_corners, .int c_this_doubles, .ref a_this_likes, .int c_this_likeMany, .int c_this_pieces, .ref a_this_laid, .ref a_this_isMirrored, .ref a_this_places, .ref a_this_placeMany, .ref a_this_now, .ref a_this_firsts, .ref a_this_forms, .ref a_this_isKept, .ref a_this_keptFigures, .ref a_this_keptPieces, .ref a_this_keptLaid, .ref a_this_keptMirrored])), (a_this_turned, .inl (cI, 512, .inl c_this_turned)), (a_this_likes, .inl (cJ, 400, .inr (.inl c_this_likes)))] sz)) (va_Ql (fun r (_ : Unit) => r = rv) (fun _ t => va_P D vwCl [(a_this, .inr (4, [.ref a_this_near, .ref a_this_turned, .ref a_this_figures, .ref a_this_text, .int c_this_length, .ref a_this_sectors, .ref a_this_corners, .int c_this_doubles, .ref a_this_likes, .int u_this_likeMany, .int c_this_pieces, .ref a_this_laid, .ref a_this_isMirrored, .ref a_this_places, .ref a_this_placeMany, .ref a_this_now, .ref a_this_firsts, .ref a_this_forms, .ref a_this_isKept, .ref a_this_keptFigures, .ref a_this_keptPieces, .ref a_this_keptLaid, .ref a_this_keptMirrored])), (a_this_turned, .inl (cI, 512, .inl c_this_turned)), (a_this_likes, .inl (cJ, 400, .inr (.inl u_this_likes)))] t.heap ∧ va_D (va_A [(a_this, .inr (4, [.ref a_this_near, .ref a_this_turned, .ref a_this_figures, .ref a_this_text, .int c_this_length, .ref a_this_sectors, .ref a_this_corners, .int c_this_doubles, .ref a_this_likes, .int c_this_likeMany, .int c_this_pieces, .ref a_this_laid, .ref a_this_isMirrored, .ref a_this_places, .ref a_this_placeMany, .ref a_this_now, .ref a_this_firsts, .ref a_this_forms, .ref a_this_isKept, .ref a_this_keptFigures, .ref a_this_keptPieces, .ref a_this_keptLaid, .ref a_this_keptMirrored])), (a_this_turned, .inl (cI, 512, .inl c_this_turned)), (a_this_likes, .inl (cJ, 400, .inr (.inl c_this_likes)))] sz) [(a_this, .inr (4, [.ref a_this_near, .ref a_this_turned, .ref a_this_figures, .ref a_this_text, .int c_this_length, .ref a_this_sectors, .ref a_this_corners, .int c_this_doubles, .ref a_this_likes, .int u_this_likeMany, .int c_this_pieces, .ref a_this_laid, .ref a_this_isMirrored, .ref a_this_places, .ref a_this_placeMany, .ref a_this_now, .ref a_this_firsts, .ref a_this_forms, .ref a_this_isKept, .ref a_this_keptFigures, .ref a_this_keptPieces, .ref a_this_keptLaid, .ref a_this_keptMirrored])), (a_this_turned, .inl (cI, 512, .inl c_this_turned)), (a_this_likes, .inl (cJ, 400, .inr (.inl u_this_likes)))]) (va_A [(a_this, .inr (4, [.ref a_this_near, .ref a_this_turned, .ref a_this_figures, .ref a_this_text, .int c_this_length, .ref a_this_sectors, .ref a_this_corners, .int c_this_doubles, .ref a_this_likes, .int c_this_likeMany, .int c_this_pieces, .ref a_this_laid, .ref a_this_isMirrored, .ref a_this_places, .ref a_this_placeMany, .ref a_this_now, .ref a_this_firsts, .ref a_this_forms, .ref a_this_isKept, .ref a_this_keptFigures, .ref a_this_keptPieces, .ref a_this_keptLaid, .ref a_this_keptMirrored])), (a_this_turned, .inl (cI, 512, .inl c_this_turned)), (a_this_likes, .inl (cJ, 400, .inr (.inl c_this_likes)))] sz)) 0 0 (va_A [(a_this, .inr (4, [.ref a_this_near, .ref a_this_turned, .ref a_this_figures, .ref a_this_text, .int c_this_length, .ref a_this_sectors, .ref a_this_corners, .int c_this_doubles, .ref a_this_likes, .int c_this_likeMany, .int c_this_pieces, .ref a_this_laid, .ref a_this_isMirrored, .ref a_this_places, .ref a_this_placeMany, .ref a_this_now, .ref a_this_firsts, .ref a_this_forms, .ref a_this_isKept, .ref a_this_keptFigures, .ref a_this_keptPieces, .ref a_this_keptLaid, .ref a_this_keptMirrored])), (a_this_turned, .inl (cI, 512, .inl c_this_turned)), (a_this_likes, .inl (cJ, 400, .inr (.inl c_this_likes)))] sz) := by
  refine Met.ofW (cc := cX8_formOf) (maxL := 3) (ret := (some .long)) (by decide) rfl ?_
  intro p e s m args below meth c s₁ B hml hv
  obtain ⟨rfl, hsz, hP, hK, hD0⟩ := hv
  have hx := B.exec
  have hb := B.bytes
  have hr := B.returns
  have hts := atoms_spec (ws := wsX8_formOf) B.pre
  have hown : s.vm.findClass RX8 = some m.cls := findClass_of_methodNamed B.named
  have hlocks := B.notSynchronized
  have hN := hK.2
  subst hsz
  have hD := hD0.self (sz := s.heap.size)
  generalize hAe : va_A [(a_this, .inr (4, [.ref a_this_near, .ref a_this_turned, .ref a_this_figures, .ref a_this_text, .int c_this_length, .ref a_this_sectors, .ref a_this_corners, .int c_this_doubles, .ref a_this_likes, .int c_this_likeMany, .int c_this_pieces, .ref a_this_laid, .ref a_this_isMirrored, .ref a_this_places, .ref a_this_placeMany, .ref a_this_now, .ref a_this_firsts, .ref a_this_forms, .ref a_this_isKept, .ref a_this_keptFigures, .ref a_this_keptPieces, .ref a_this_keptLaid, .ref a_this_keptMirrored])), (a_this_turned, .inl (cI, 512, .inl c_this_turned)), (a_this_likes, .inl (cJ, 400, .inr (.inl c_this_likes)))] s.heap.size = A at hD ⊢
  have hA : ∀ q : Nat, s.heap.size ≤ q → A q := fun q h => by rw [← hAe]; exact Or.inr h
  have hS : va_S A s.heap s.heap [] := va_S.rf
  have hl := lv_entry ([.ref a_this, .long x1]) (n := 3) (Nat.le_of_ble_eq_true rfl)
  rw [lg_entry_eq]
  generalize (lg_sl ([.ref a_this, .long x1]) ++ List.replicate (3 - (lg_sl ([.ref a_this, .long x1])).length) Slot.unset).toArray = ls at hl ⊢
  have hl : lv_has ls 3 [(0, .ref a_this), (1, .long x1)] := hl
  refine hk_Q (fun Q hQ => ?_)
  have h := hf
  unfold f_X8_formOf at h
  refine lv_lload_n hx hb dX8_formOf_0 rfl (lv_at hl 1 rfl) ?_
  refine lv_lconst (v := (0 : Int64)) hx hb dX8_formOf_1 (by decide) ?_
  refine hk_lcmp_ne (tgt := 8) hx hb dX8_formOf_2 dX8_formOf_3 (by decide) (fun c21 => ?_) (fun c21 => ?_)
  · replace h := hk_in c21 h
    refine lv_aload_n hx hb dX8_formOf_8 rfl (lv_at hl 0 rfl) ?_
    refine lv_lload_n hx hb dX8_formOf_9 rfl (lv_at hl 1 rfl) ?_
    refine lv_bipush (v := (8 : Int32)) hx hb dX8_formOf_10 (by decide) ?_
    obtain ⟨u22, u23, hr24, h⟩ := hk_x2 h
    have hPc := hP.sub (ws' := [(a_this, .inr (4, [.ref a_this_near, .ref a_this_turned, .ref a_this_figures, .ref a_this_text, .int c_this_length, .ref a_this_sectors, .ref a_this_corners, .int c_this_doubles, .ref a_this_likes, .int c_this_likeMany, .int c_this_pieces, .ref a_this_laid, .ref a_this_isMirrored, .ref a_this_places, .ref a_this_placeMany, .ref a_this_now, .ref a_this_firsts, .ref a_this_forms, .ref a_this_isKept, .ref a_this_keptFigures, .ref a_this_keptPieces, .ref a_this_keptLaid, .ref a_this_keptMirrored])), (a_this_turned, .inl (cI, 512, .inl c_this_turned)), (a_this_likes, .inl (cJ, 400, .inr (.inl c_this_likes)))]) [0, 1, 2] rfl
    have hDc := hD.sub (ws' := [(a_this, .inr (4, [.ref a_this_near, .ref a_this_turned, .ref a_this_figures, .ref a_this_text, .int c_this_length, .ref a_this_sectors, .ref a_this_corners, .int c_this_doubles, .ref a_this_likes, .int c_this_likeMany, .int c_this_pieces, .ref a_this_laid, .ref a_this_isMirrored, .ref a_this_places, .ref a_this_placeMany, .ref a_this_now, .ref a_this_firsts, .ref a_this_forms, .ref a_this_isKept, .ref a_this_keptFigures, .ref a_this_keptPieces, .ref a_this_keptLaid, .ref a_this_keptMirrored])), (a_this_turned, .inl (cI, 512, .inl c_this_turned)), (a_this_likes, .inl (cJ, 400, .inr (.inl c_this_likes)))]) [0, 1, 2] (by decide) rfl
    have hFc := va_free (wc := [(a_this, .inr (4, [.ref a_this_near, .ref a_this_turned, .ref a_this_figures, .ref a_this_text, .int c_this_length, .ref a_this_sectors, .ref a_this_corners, .int c_this_doubles, .ref a_this_likes, .int c_this_likeMany, .int c_this_pieces, .ref a_this_laid, .ref a_this_isMirrored, .ref a_this_places, .ref a_this_placeMany, .ref a_this_now, .ref a_this_firsts, .ref a_this_forms, .ref a_this_isKept, .ref a_this_keptFigures, .ref a_this_keptPieces, .ref a_this_keptLaid, .ref a_this_keptMirrored])), (a_this_turned, .inl (cI, 512, .inl c_this_turned)), (a_this_likes, .inl (cJ, 400, .inr (.inl c_this_likes)))]) hD hS hA [0, 1, 2] rfl
    refine va_callv (va_runV (As := [.long x1, .int (8 : Int32)]) (rest := []) ⟨hx, hb, hml, hown, hts⟩ (c_X8_layLikes l D cI cJ cZ cO a_this a_this_near a_this_turned a_this_figures a_this_text a_this_sectors a_this_corners a_this_likes a_this_laid a_this_isMirrored a_this_places a_this_placeMany a_this_now a_this_firsts a_this_forms a_this_isKept a_this_keptFigures a_this_keptPieces a_this_keptLaid a_this_keptMirrored s.heap.size c_this_length c_this_doubles c_this_likeMany c_this_pieces c_this_turned c_this_likes x1 (8 : Int32) _ _ hr24) (cwV 2 hts gX8_formOf_X8_layLikes rfl rfl rfl zv_X8_layLikes ⟨Nat.le_of_ble_eq_true rfl, Nat.le_of_ble_eq_true rfl⟩) (hk_preMV 4 rfl hPc hDc hK rfl) rfl rfl hl.1 rfl (lv_room (Nat.le_of_ble_eq_true rfl)) dX8_formOf_12 ⟨Nat.zero_le _, Nat.zero_le _⟩) hS (fun q _ h9 => hFc q h9) hFc (fun u9 t9 H1 locs ht hvm hw hB hz1 hk1 hS => ?_)
    obtain ⟨hP1, hD1⟩ := hB
    rw [ht] at hP1
    obtain ⟨hP, hD⟩ := va_join (wr := []) (w1 := [(a_this, .inr (4, [.ref a_this_near, .ref a_this_turned, .ref a_this_figures, .ref a_this_text, .int c_this_length, .ref a_this_sectors, .ref a_this_corners, .int c_this_doubles, .ref a_this_likes, .int u22, .int c_this_pieces, .ref a_this_laid, .ref a_this_isMirrored, .ref a_this_places, .ref a_this_placeMany, .ref a_this_now, .ref a_this_firsts, .ref a_this_forms, .ref a_this_isKept, .ref a_this_keptFigures, .ref a_this_keptPieces, .ref a_this_keptLaid, .ref a_this_keptMirrored])), (a_this_turned, .inl (cI, 512, .inl c_this_turned)), (a_this_likes, .inl (cJ, 400, .inr (.inl u23)))]) hP hD [0, 1, 2] [] rfl rfl (by decide) (by decide) hk1 hFc hP1 hD1
    generalize H1 = H at hP hS ⊢
    have hP := hP.sub (ws' := [(a_this, .inr (4, [.ref a_this_near, .ref a_this_turned, .ref a_this_figures, .ref a_this_text, .int c_this_length, .ref a_this_sectors, .ref a_this_corners, .int c_this_doubles, .ref a_this_likes, .int u22, .int c_this_pieces, .ref a_this_laid, .ref a_this_isMirrored, .ref a_this_places, .ref a_this_placeMany, .ref a_this_now, .ref a_this_firsts, .ref a_this_forms, .ref a_this_isKept, .ref a_this_keptFigures, .ref a_this_keptPieces, .ref a_this_keptLaid, .ref a_this_keptMirrored])), (a_this_turned, .inl (cI, 512, .inl c_this_turned)), (a_this_likes, .inl (cJ, 400, .inr (.inl u23)))]) [0, 1, 2] rfl
    have hD := hD.sub (ws' := [(a_this, .inr (4, [.ref a_this_near, .ref a_this_turned, .ref a_this_figures, .ref a_this_text, .int c_this_length, .ref a_this_sectors, .ref a_this_corners, .int c_this_doubles, .ref a_this_likes, .int u22, .int c_this_pieces, .ref a_this_laid, .ref a_this_isMirrored, .ref a_this_places, .ref a_this_placeMany, .ref a_this_now, .ref a_this_firsts, .ref a_this_forms, .ref a_this_isKept, .ref a_this_keptFigures, .ref a_this_keptPieces, .ref a_this_keptLaid, .ref a_this_keptMirrored])), (a_this_turned, .inl (cI, 512, .inl c_this_turned)), (a_this_likes, .inl (cJ, 400, .inr (.inl u23)))]) [0, 1, 2] (by decide) rfl
    refine lv_aload_n hx hb dX8_formOf_15 rfl (lv_at hl 0 rfl) ?_
    refine va_get (D := D) (ci := 4) (v := .ref a_this_likes) (C := RX8) (T := TX8) (N := 23) hx hb hts zi_X8_formOf_X8 hown hK.1 hP 0 rfl rfl 8 (by decide) (hts (.fieldLink RX8 30 "HalfAndHalfAgainModel" "likes" "[J") (List.mem_of_getElem? (i := 1) rfl)) (fun _ h9 => h9) rfl dX8_formOf_16 ?_
    refine lv_iconst (v := (0 : Int32)) hx hb dX8_formOf_19 (by decide) ?_
    obtain ⟨hi26, h⟩ := hk_ge h
    refine va_lald hx hb hK.1 hP 2 1 rfl rfl (hk_inb_of hi26) dX8_formOf_20 ?_
    subst hQ
    have h := Option.some.inj h
    simp only [Prod.mk.injEq] at h
    obtain ⟨rfl, rfl, rfl⟩ := h
    exact W.lret hx hb hr (fun t ht hW => ⟨⟨_, (), rfl, rfl, by rw [ht]; exact hP, hD⟩, hS.F ht⟩) hS.2.2 dX8_formOf_21
  replace h := hk_ip c21 h
  refine lv_lconst (v := (0 : Int64)) hx hb dX8_formOf_6 (by decide) ?_
  subst hQ
  have h := Option.some.inj h
  simp only [Prod.mk.injEq] at h
  obtain ⟨rfl, rfl, rfl⟩ := h
  exact W.lret hx hb hr (fun t ht hW => ⟨⟨_, (), rfl, rfl, by rw [ht]; exact hP, hD⟩, hS.F ht⟩) hS.2.2 dX8_formOf_7
theorem zv_X8_form : yX8_form.cls = RX8 ∧ yX8_form.cls ≠ "java/lang/invoke/MethodHandle" ∧ yX8_form.cls ≠ "java/lang/invoke/VarHandle" ∧ (parseMethodDescriptor yX8_form.desc).map (fun d => d.parameters.length) = some 1 := by decide +kernel
def f_X8_form (c_this_likeMany : Int32) (c_this_figures : Nat → Int64) (c_this_turned : Nat → Int32) (c_this_likes : Nat → Int64)  (x1 : Int32) : Option (Int64 × Int32 × (Nat → Int64)) := hk_b1 (f_X8_isFigure x1) fun r21 => if r21 = 0 then (some ((0 : Int64), c_this_likeMany, c_this_likes)) else (hk_gd (hk_inb x1 8) (hk_b3 (f_X8_formOf c_this_likeMany c_this_turned c_this_likes (c_this_figures x1.toNatClampNeg)) fun r27 u28 u29 => some (r27, u28, u29)))
theorem zi_X8_form_X8 : ∀ w ∈ u_ws RX8 TX8 23, w ∈ wsX8_form := by decide +kernel
set_option maxHeartbeats 8000000 in
set_option maxRecDepth 100000 in
theorem c_X8_form (l : Launch) (D : va_G) (cI cJ cZ cO : ClassId) (a_this a_this_near a_this_turned a_this_figures a_this_text a_this_sectors a_this_corners a_this_likes a_this_laid a_this_isMirrored a_this_places a_this_placeMany a_this_now a_this_firsts a_this_forms a_this_isKept a_this_keptFigures a_this_keptPieces a_this_keptLaid a_this_keptMirrored : Nat) (sz : Nat) (c_this_length : Int32) (c_this_doubles : Int32) (c_this_likeMany : Int32) (c_this_pieces : Int32) (c_this_figures : Nat → Int64) (c_this_turned : Nat → Int32) (c_this_likes : Nat → Int64) (x1 : Int32) (rv : Int64) (u_this_likeMany : Int32) (u_this_likes : Nat → Int64) (hf : f_X8_form c_this_likeMany c_this_figures c_this_turned c_this_likes x1 = some (rv, u_this_likeMany, u_this_likes)) : Met l yX8_form wsX8_form ({ frames := 4, cells := 0, slots := 0, locals := 100 }) (va_Pc [.ref a_this, .int x1] (hkM D cI cJ cZ cO [(a_this, .inr (4, [.ref a_this_near, .ref a_this_turned, .ref a_this_figures, .ref a_this_text, .int c_this_length, .ref a_this_sectors, .ref a_this_corners, .int c_this_doubles, .ref a_this_likes, .int c_this_likeMany, .int c_this_pieces, .ref a_this_laid, .ref a_this_isMirrored, .ref a_this_places, .ref a_this_placeMany, .ref a_this_now, .ref a_this_firsts, .ref a_this_forms, .ref a_this_isKept, .ref a_this_keptFigures, .ref a_this_keptPieces, .ref a_this_keptLaid, .ref a_this_keptMirrored])), (a_this_figures, .inl (cJ, 8, .inr (.inl c_this_figures))), (a_this_turned, .inl (cI, 512, .inl c_this_turned)), (a_this_likes, .inl (cJ, 400, .inr (.inl c_this_likes)))] sz)) (va_Ql (fun r (_ : Unit) => r = rv) (fun _ t => va_P D vwCl [(a_this, .inr (4, [.ref a_this_near, .ref a_this_turned, .ref a_this_figures, .ref a_this_text, .int c_this_length, .ref a_this_sectors, .ref a_this_corners, .int c_this_doubles, .ref a_this_likes, .int u_this_likeMany, .int c_this_pieces, .ref a_this_laid, .ref a_this_isMirrored, .ref a_this_places, .ref a_this_placeMany, .ref a_this_now, .ref a_this_firsts, .ref a_this_forms, .ref a_this_isKept, .ref a_this_keptFigures, .ref a_this_keptPieces, .ref a_this_keptLaid, .ref a_this_keptMirrored])), (a_this_figures, .inl (cJ, 8, .inr (.inl c_this_figures))), (a_this_turned, .inl (cI, 512, .inl c_this_turned)), (a_this_likes, .inl (cJ, 400, .inr (.inl u_this_likes)))] t.heap ∧ va_D (va_A [(a_this, .inr (4, [.ref a_this_near, .ref a_this_turned, .ref a_this_figures, .ref a_this_text, .int c_this_length, .ref a_this_sectors, .ref a_this_corners, .int c_this_doubles, .ref a_this_likes, .int c_this_likeMany, .int c_this_pieces, .ref a_this_laid, .ref a_this_isMirrored, .ref a_this_places, .ref a_this_placeMany, .ref a_this_now, .ref a_this_firsts, .ref a_this_forms, .ref a_this_isKept, .ref a_this_keptFigures, .ref a_this_keptPieces, .ref a_this_keptLaid, .ref a_this_keptMirrored])), (a_this_figures, .inl (cJ, 8, .inr (.inl c_this_figures))), (a_this_turned, .inl (cI, 512, .inl c_this_turned)), (a_this_likes, .inl (cJ, 400, .inr (.inl c_this_likes)))] sz) [(a_this, .inr (4, [.ref a_this_near, .ref a_this_turned, .ref a_this_figures, .ref a_this_text, .int c_this_length, .ref a_this_sectors, .ref a_this_corners, .int c_this_doubles, .ref a_this_likes, .int u_this_likeMany, .int c_this_pieces, .ref a_this_laid, .ref a_this_isMirrored, .ref a_this_places, .ref a_this_placeMany, .ref a_this_now, .ref a_this_firsts, .ref a_this_forms, .ref a_this_isKept, .ref a_this_keptFigures, .ref a_this_keptPieces, .ref a_this_keptLaid, .ref a_this_keptMirrored])), (a_this_figures, .inl (cJ, 8, .inr (.inl c_this_figures))), (a_this_turned, .inl (cI, 512, .inl c_this_turned)), (a_this_likes, .inl (cJ, 400, .inr (.inl u_this_likes)))]) (va_A [(a_this, .inr (4, [.ref a_this_near, .ref a_this_turned, .ref a_this_figures, .ref a_this_text, .int c_this_length, .ref a_this_sectors, .ref a_this_corners, .int c_this_doubles, .ref a_this_likes, .int c_this_likeMany, .int c_this_pieces, .ref a_this_laid, .ref a_this_isMirrored, .ref a_this_places, .ref a_this_placeMany, .ref a_this_now, .ref a_this_firsts, .ref a_this_forms, .ref a_this_isKept, .ref a_this_keptFigures, .ref a_this_keptPieces, .ref a_this_keptLaid, .ref a_this_keptMirrored])), (a_this_figures, .inl (cJ, 8, .inr (.inl c_this_figures))), (a_this_turned, .inl (cI, 512, .inl c_this_turned)), (a_this_likes, .inl (cJ, 400, .inr (.inl c_this_likes)))] sz)) 0 0 (va_A [(a_this, .inr (4, [.ref a_this_near, .ref a_this_turned, .ref a_this_figures, .ref a_this_text, .int c_this_length, .ref a_this_sectors, .ref a_this_corners, .int c_this_doubles, .ref a_this_likes, .int c_this_likeMany, .int c_this_pieces, .ref a_this_laid, .ref a_this_isMirrored, .ref a_this_places, .ref a_this_placeMany, .ref a_this_now, .ref a_this_firsts, .ref a_this_forms, .ref a_this_isKept, .ref a_this_keptFigures, .ref a_this_keptPieces, .ref a_this_keptLaid, .ref a_this_keptMirrored])), (a_this_figures, .inl (cJ, 8, .inr (.inl c_this_figures))), (a_this_turned, .inl (cI, 512, .inl c_this_turned)), (a_this_likes, .inl (cJ, 400, .inr (.inl c_this_likes)))] sz) := by
  refine Met.ofW (cc := cX8_form) (maxL := 2) (ret := (some .long)) (by decide) rfl ?_
  intro p e s m args below meth c s₁ B hml hv
  obtain ⟨rfl, hsz, hP, hK, hD0⟩ := hv
  have hx := B.exec
  have hb := B.bytes
  have hr := B.returns
  have hts := atoms_spec (ws := wsX8_form) B.pre
  have hown : s.vm.findClass RX8 = some m.cls := findClass_of_methodNamed B.named
  have hlocks := B.notSynchronized
  have hN := hK.2
  subst hsz
  have hD := hD0.self (sz := s.heap.size)
  generalize hAe : va_A [(a_this, .inr (4, [.ref a_this_near, .ref a_this_turned, .ref a_this_figures, .ref a_this_text, .int c_this_length, .ref a_this_sectors, .ref a_this_corners, .int c_this_doubles, .ref a_this_likes, .int c_this_likeMany, .int c_this_pieces, .ref a_this_laid, .ref a_this_isMirrored, .ref a_this_places, .ref a_this_placeMany, .ref a_this_now, .ref a_this_firsts, .ref a_this_forms, .ref a_this_isKept, .ref a_this_keptFigures, .ref a_this_keptPieces, .ref a_this_keptLaid, .ref a_this_keptMirrored])), (a_this_figures, .inl (cJ, 8, .inr (.inl c_this_figures))), (a_this_turned, .inl (cI, 512, .inl c_this_turned)), (a_this_likes, .inl (cJ, 400, .inr (.inl c_this_likes)))] s.heap.size = A at hD ⊢
  have hA : ∀ q : Nat, s.heap.size ≤ q → A q := fun q h => by rw [← hAe]; exact Or.inr h
  have hS : va_S A s.heap s.heap [] := va_S.rf
  have hl := lv_entry ([.ref a_this, .int x1]) (n := 2) (Nat.le_of_ble_eq_true rfl)
  rw [lg_entry_eq]
  generalize (lg_sl ([.ref a_this, .int x1]) ++ List.replicate (2 - (lg_sl ([.ref a_this, .int x1])).length) Slot.unset).toArray = ls at hl ⊢
  have hl : lv_has ls 2 [(0, .ref a_this), (1, .int x1)] := hl
  refine hk_Q (fun Q hQ => ?_)
  have h := hf
  unfold f_X8_form at h
  refine lv_iload_n hx hb dX8_form_0 rfl (lv_at hl 1 rfl) ?_
  obtain ⟨r21, hr22, h⟩ := hk_x1 h
  refine vp_callSi (W.runS (As := [.int x1]) (rest := []) ⟨hx, hb, hml, hown, hts⟩ (c_X8_isFigure l x1 _ hr22) (va_cwS 1 hts gX8_form_X8_isFigure rfl rfl rfl zs_X8_isFigure ⟨Nat.le_of_ble_eq_true rfl, Nat.le_of_ble_eq_true rfl⟩) ⟨fun _ _ _ _ q => q, fun _ _ _ => ⟨rfl, trivial⟩⟩ rfl rfl hl.1 rfl (lv_room (Nat.le_of_ble_eq_true rfl)) dX8_form_1 ⟨Nat.zero_le _, Nat.zero_le _⟩) (fun p24 e23 => ?_)
  rw [e23]
  refine lv_if_eq (tgt := 20) hx hb dX8_form_4 (by decide) (fun c25 => ?_) (fun c25 => ?_)
  · replace h := hk_ip c25 h
    refine lv_lconst (v := (0 : Int64)) hx hb dX8_form_20 (by decide) ?_
    subst hQ
    have h := Option.some.inj h
    simp only [Prod.mk.injEq] at h
    obtain ⟨rfl, rfl, rfl⟩ := h
    exact W.lret hx hb hr (fun t ht hW => ⟨⟨_, (), rfl, rfl, by rw [ht]; exact hP, hD⟩, hS.F ht⟩) hS.2.2 dX8_form_21
  replace h := hk_in c25 h
  refine lv_aload_n hx hb dX8_form_7 rfl (lv_at hl 0 rfl) ?_
  refine lv_aload_n hx hb dX8_form_8 rfl (lv_at hl 0 rfl) ?_
  refine va_get (D := D) (ci := 4) (v := .ref a_this_figures) (C := RX8) (T := TX8) (N := 23) hx hb hts zi_X8_form_X8 hown hK.1 hP 0 rfl rfl 2 (by decide) (hts (.fieldLink RX8 17 "HalfAndHalfAgainModel" "figures" "[J") (List.mem_of_getElem? (i := 1) rfl)) (fun _ h9 => h9) rfl dX8_form_9 ?_
  refine lv_iload_n hx hb dX8_form_12 rfl (lv_at hl 1 rfl) ?_
  obtain ⟨hi26, h⟩ := hk_ge h
  refine va_lald hx hb hK.1 hP 1 1 rfl rfl (hk_inb_of hi26) dX8_form_13 ?_
  obtain ⟨r27, u28, u29, hr30, h⟩ := hk_x3 h
  have hPc := hP.sub (ws' := [(a_this, .inr (4, [.ref a_this_near, .ref a_this_turned, .ref a_this_figures, .ref a_this_text, .int c_this_length, .ref a_this_sectors, .ref a_this_corners, .int c_this_doubles, .ref a_this_likes, .int c_this_likeMany, .int c_this_pieces, .ref a_this_laid, .ref a_this_isMirrored, .ref a_this_places, .ref a_this_placeMany, .ref a_this_now, .ref a_this_firsts, .ref a_this_forms, .ref a_this_isKept, .ref a_this_keptFigures, .ref a_this_keptPieces, .ref a_this_keptLaid, .ref a_this_keptMirrored])), (a_this_turned, .inl (cI, 512, .inl c_this_turned)), (a_this_likes, .inl (cJ, 400, .inr (.inl c_this_likes)))]) [0, 2, 3] rfl
  have hDc := hD.sub (ws' := [(a_this, .inr (4, [.ref a_this_near, .ref a_this_turned, .ref a_this_figures, .ref a_this_text, .int c_this_length, .ref a_this_sectors, .ref a_this_corners, .int c_this_doubles, .ref a_this_likes, .int c_this_likeMany, .int c_this_pieces, .ref a_this_laid, .ref a_this_isMirrored, .ref a_this_places, .ref a_this_placeMany, .ref a_this_now, .ref a_this_firsts, .ref a_this_forms, .ref a_this_isKept, .ref a_this_keptFigures, .ref a_this_keptPieces, .ref a_this_keptLaid, .ref a_this_keptMirrored])), (a_this_turned, .inl (cI, 512, .inl c_this_turned)), (a_this_likes, .inl (cJ, 400, .inr (.inl c_this_likes)))]) [0, 2, 3] (by decide) rfl
  have hFc := va_free (wc := [(a_this, .inr (4, [.ref a_this_near, .ref a_this_turned, .ref a_this_figures, .ref a_this_text, .int c_this_length, .ref a_this_sectors, .ref a_this_corners, .int c_this_doubles, .ref a_this_likes, .int c_this_likeMany, .int c_this_pieces, .ref a_this_laid, .ref a_this_isMirrored, .ref a_this_places, .ref a_this_placeMany, .ref a_this_now, .ref a_this_firsts, .ref a_this_forms, .ref a_this_isKept, .ref a_this_keptFigures, .ref a_this_keptPieces, .ref a_this_keptLaid, .ref a_this_keptMirrored])), (a_this_turned, .inl (cI, 512, .inl c_this_turned)), (a_this_likes, .inl (cJ, 400, .inr (.inl c_this_likes)))]) hD hS hA [0, 2, 3] rfl
  refine va_calll (va_runV (As := [.long (c_this_figures x1.toNatClampNeg)]) (rest := []) ⟨hx, hb, hml, hown, hts⟩ (c_X8_formOf l D cI cJ cZ cO a_this a_this_near a_this_turned a_this_figures a_this_text a_this_sectors a_this_corners a_this_likes a_this_laid a_this_isMirrored a_this_places a_this_placeMany a_this_now a_this_firsts a_this_forms a_this_isKept a_this_keptFigures a_this_keptPieces a_this_keptLaid a_this_keptMirrored s.heap.size c_this_length c_this_doubles c_this_likeMany c_this_pieces c_this_turned c_this_likes (c_this_figures x1.toNatClampNeg) _ _ _ hr30) (cwV 1 hts gX8_form_X8_formOf rfl rfl rfl zv_X8_formOf ⟨Nat.le_of_ble_eq_true rfl, Nat.le_of_ble_eq_true rfl⟩) (hk_preMV 4 rfl hPc hDc hK rfl) rfl rfl hl.1 rfl (lv_room (Nat.le_of_ble_eq_true rfl)) dX8_form_14 ⟨Nat.zero_le _, Nat.zero_le _⟩) hS (fun q _ h9 => hFc q h9) hFc (fun p31 u9 t9 H1 locs ht hvm hw hB hz1 hk1 hS => ?_)
  obtain ⟨hP1, hD1⟩ := hB
  rw [ht] at hP1
  rw [hw]
  obtain ⟨hP, hD⟩ := va_join (wr := [(a_this_figures, .inl (cJ, 8, .inr (.inl c_this_figures)))]) (w1 := [(a_this, .inr (4, [.ref a_this_near, .ref a_this_turned, .ref a_this_figures, .ref a_this_text, .int c_this_length, .ref a_this_sectors, .ref a_this_corners, .int c_this_doubles, .ref a_this_likes, .int u28, .int c_this_pieces, .ref a_this_laid, .ref a_this_isMirrored, .ref a_this_places, .ref a_this_placeMany, .ref a_this_now, .ref a_this_firsts, .ref a_this_forms, .ref a_this_isKept, .ref a_this_keptFigures, .ref a_this_keptPieces, .ref a_this_keptLaid, .ref a_this_keptMirrored])), (a_this_turned, .inl (cI, 512, .inl c_this_turned)), (a_this_likes, .inl (cJ, 400, .inr (.inl u29)))]) hP hD [0, 2, 3] [1] rfl rfl (by decide) (by decide) hk1 hFc hP1 hD1
  generalize H1 = H at hP hS ⊢
  have hP := hP.sub (ws' := [(a_this, .inr (4, [.ref a_this_near, .ref a_this_turned, .ref a_this_figures, .ref a_this_text, .int c_this_length, .ref a_this_sectors, .ref a_this_corners, .int c_this_doubles, .ref a_this_likes, .int u28, .int c_this_pieces, .ref a_this_laid, .ref a_this_isMirrored, .ref a_this_places, .ref a_this_placeMany, .ref a_this_now, .ref a_this_firsts, .ref a_this_forms, .ref a_this_isKept, .ref a_this_keptFigures, .ref a_this_keptPieces, .ref a_this_keptLaid, .ref a_this_keptMirrored])), (a_this_figures, .inl (cJ, 8, .inr (.inl c_this_figures))), (a_this_turned, .inl (cI, 512, .inl c_this_turned)), (a_this_likes, .inl (cJ, 400, .inr (.inl u29)))]) [1, 0, 2, 3] rfl
  have hD := hD.sub (ws' := [(a_this, .inr (4, [.ref a_this_near, .ref a_this_turned, .ref a_this_figures, .ref a_this_text, .int c_this_length, .ref a_this_sectors, .ref a_this_corners, .int c_this_doubles, .ref a_this_likes, .int u28, .int c_this_pieces, .ref a_this_laid, .ref a_this_isMirrored, .ref a_this_places, .ref a_this_placeMany, .ref a_this_now, .ref a_this_firsts, .ref a_this_forms, .ref a_this_isKept, .ref a_this_keptFigures, .ref a_this_keptPieces, .ref a_this_keptLaid, .ref a_this_keptMirrored])), (a_this_figures, .inl (cJ, 8, .inr (.inl c_this_figures))), (a_this_turned, .inl (cI, 512, .inl c_this_turned)), (a_this_likes, .inl (cJ, 400, .inr (.inl u29)))]) [1, 0, 2, 3] (by decide) rfl
  refine lv_goto (tgt := 21) hx hb dX8_form_17 (by decide) ?_
  subst hQ
  have h := Option.some.inj h
  simp only [Prod.mk.injEq] at h
  obtain ⟨rfl, rfl, rfl⟩ := h
  exact W.lret hx hb hr (fun t ht hW => ⟨⟨_, (), rfl, rfl, by rw [ht]; exact hP, hD⟩, hS.F ht⟩) hS.2.2 dX8_form_21
theorem zv_X8_like : yX8_like.cls = RX8 ∧ yX8_like.cls ≠ "java/lang/invoke/MethodHandle" ∧ yX8_like.cls ≠ "java/lang/invoke/VarHandle" ∧ (parseMethodDescriptor yX8_like.desc).map (fun d => d.parameters.length) = some 2 := by decide +kernel
def f_X8_like (c_this_likeMany : Int32) (c_this_figures : Nat → Int64) (c_this_turned : Nat → Int32) (c_this_likes : Nat → Int64)  (x1 : Int32) (x2 : Int32) : Option (Int32 × Int32 × (Nat → Int64)) := hk_b1 (f_X8_isFigure x1) fun r21 => if r21 = 0 then (some ((-1 : Int32), c_this_likeMany, c_this_likes)) else (hk_b1 (f_X8_isFigure x2) fun r26 => if r26 = 0 then (some ((-1 : Int32), c_this_likeMany, c_this_likes)) else (hk_gd (hk_inb x1 8) (hk_b3 (f_X8_formOf c_this_likeMany c_this_turned c_this_likes (c_this_figures x1.toNatClampNeg)) fun r32 u33 u34 => hk_gd (hk_inb x2 8) (hk_b3 (f_X8_formOf u33 c_this_turned u34 (c_this_figures x2.toNatClampNeg)) fun r38 u39 u40 => if r32 = r38 then (some ((1 : Int32), u39, u40)) else (some ((0 : Int32), u39, u40))))))
theorem zi_X8_like_X8 : ∀ w ∈ u_ws RX8 TX8 23, w ∈ wsX8_like := by decide +kernel
set_option maxHeartbeats 8000000 in
set_option maxRecDepth 100000 in
theorem c_X8_like (l : Launch) (D : va_G) (cI cJ cZ cO : ClassId) (a_this a_this_near a_this_turned a_this_figures a_this_text a_this_sectors a_this_corners a_this_likes a_this_laid a_this_isMirrored a_this_places a_this_placeMany a_this_now a_this_firsts a_this_forms a_this_isKept a_this_keptFigures a_this_keptPieces a_this_keptLaid a_this_keptMirrored : Nat) (sz : Nat) (c_this_length : Int32) (c_this_doubles : Int32) (c_this_likeMany : Int32) (c_this_pieces : Int32) (c_this_figures : Nat → Int64) (c_this_turned : Nat → Int32) (c_this_likes : Nat → Int64) (x1 : Int32) (x2 : Int32) (rv : Int32) (u_this_likeMany : Int32) (u_this_likes : Nat → Int64) (hf : f_X8_like c_this_likeMany c_this_figures c_this_turned c_this_likes x1 x2 = some (rv, u_this_likeMany, u_this_likes)) : Met l yX8_like wsX8_like ({ frames := 4, cells := 0, slots := 0, locals := 100 }) (va_Pc [.ref a_this, .int x1, .int x2] (hkM D cI cJ cZ cO [(a_this, .inr (4, [.ref a_this_near, .ref a_this_turned, .ref a_this_figures, .ref a_this_text, .int c_this_length, .ref a_this_sectors, .ref a_this_corners, .int c_this_doubles, .ref a_this_likes, .int c_this_likeMany, .int c_this_pieces, .ref a_this_laid, .ref a_this_isMirrored, .ref a_this_places, .ref a_this_placeMany, .ref a_this_now, .ref a_this_firsts, .ref a_this_forms, .ref a_this_isKept, .ref a_this_keptFigures, .ref a_this_keptPieces, .ref a_this_keptLaid, .ref a_this_keptMirrored])), (a_this_figures, .inl (cJ, 8, .inr (.inl c_this_figures))), (a_this_turned, .inl (cI, 512, .inl c_this_turned)), (a_this_likes, .inl (cJ, 400, .inr (.inl c_this_likes)))] sz)) (va_Qi (fun r (_ : Unit) => r = rv) (fun _ t => va_P D vwCl [(a_this, .inr (4, [.ref a_this_near, .ref a_this_turned, .ref a_this_figures, .ref a_this_text, .int c_this_length, .ref a_this_sectors, .ref a_this_corners, .int c_this_doubles, .ref a_this_likes, .int u_this_likeMany, .int c_this_pieces, .ref a_this_laid, .ref a_this_isMirrored, .ref a_this_places, .ref a_this_placeMany, .ref a_this_now, .ref a_this_firsts, .ref a_this_forms, .ref a_this_isKept, .ref a_this_keptFigures, .ref a_this_keptPieces, .ref a_this_keptLaid, .ref a_this_keptMirrored])), (a_this_figures, .inl (cJ, 8, .inr (.inl c_this_figures))), (a_this_turned, .inl (cI, 512, .inl c_this_turned)), (a_this_likes, .inl (cJ, 400, .inr (.inl u_this_likes)))] t.heap ∧ va_D (va_A [(a_this, .inr (4, [.ref a_this_near, .ref a_this_turned, .ref a_this_figures, .ref a_this_text, .int c_this_length, .ref a_this_sectors, .ref a_this_corners, .int c_this_doubles, .ref a_this_likes, .int c_this_likeMany, .int c_this_pieces, .ref a_this_laid, .ref a_this_isMirrored, .ref a_this_places, .ref a_this_placeMany, .ref a_this_now, .ref a_this_firsts, .ref a_this_forms, .ref a_this_isKept, .ref a_this_keptFigures, .ref a_this_keptPieces, .ref a_this_keptLaid, .ref a_this_keptMirrored])), (a_this_figures, .inl (cJ, 8, .inr (.inl c_this_figures))), (a_this_turned, .inl (cI, 512, .inl c_this_turned)), (a_this_likes, .inl (cJ, 400, .inr (.inl c_this_likes)))] sz) [(a_this, .inr (4, [.ref a_this_near, .ref a_this_turned, .ref a_this_figures, .ref a_this_text, .int c_this_length, .ref a_this_sectors, .ref a_this_corners, .int c_this_doubles, .ref a_this_likes, .int u_this_likeMany, .int c_this_pieces, .ref a_this_laid, .ref a_this_isMirrored, .ref a_this_places, .ref a_this_placeMany, .ref a_this_now, .ref a_this_firsts, .ref a_this_forms, .ref a_this_isKept, .ref a_this_keptFigures, .ref a_this_keptPieces, .ref a_this_keptLaid, .ref a_this_keptMirrored])), (a_this_figures, .inl (cJ, 8, .inr (.inl c_this_figures))), (a_this_turned, .inl (cI, 512, .inl c_this_turned)), (a_this_likes, .inl (cJ, 400, .inr (.inl u_this_likes)))]) (va_A [(a_this, .inr (4, [.ref a_this_near, .ref a_this_turned, .ref a_this_figures, .ref a_this_text, .int c_this_length, .ref a_this_sectors, .ref a_this_corners, .int c_this_doubles, .ref a_this_likes, .int c_this_likeMany, .int c_this_pieces, .ref a_this_laid, .ref a_this_isMirrored, .ref a_this_places, .ref a_this_placeMany, .ref a_this_now, .ref a_this_firsts, .ref a_this_forms, .ref a_this_isKept, .ref a_this_keptFigures, .ref a_this_keptPieces, .ref a_this_keptLaid, .ref a_this_keptMirrored])), (a_this_figures, .inl (cJ, 8, .inr (.inl c_this_figures))), (a_this_turned, .inl (cI, 512, .inl c_this_turned)), (a_this_likes, .inl (cJ, 400, .inr (.inl c_this_likes)))] sz)) 0 0 (va_A [(a_this, .inr (4, [.ref a_this_near, .ref a_this_turned, .ref a_this_figures, .ref a_this_text, .int c_this_length, .ref a_this_sectors, .ref a_this_corners, .int c_this_doubles, .ref a_this_likes, .int c_this_likeMany, .int c_this_pieces, .ref a_this_laid, .ref a_this_isMirrored, .ref a_this_places, .ref a_this_placeMany, .ref a_this_now, .ref a_this_firsts, .ref a_this_forms, .ref a_this_isKept, .ref a_this_keptFigures, .ref a_this_keptPieces, .ref a_this_keptLaid, .ref a_this_keptMirrored])), (a_this_figures, .inl (cJ, 8, .inr (.inl c_this_figures))), (a_this_turned, .inl (cI, 512, .inl c_this_turned)), (a_this_likes, .inl (cJ, 400, .inr (.inl c_this_likes)))] sz) := by
  refine Met.ofW (cc := cX8_like) (maxL := 3) (ret := (some .int)) (by decide) rfl ?_
  intro p e s m args below meth c s₁ B hml hv
  obtain ⟨rfl, hsz, hP, hK, hD0⟩ := hv
  have hx := B.exec
  have hb := B.bytes
  have hr := B.returns
  have hts := atoms_spec (ws := wsX8_like) B.pre
  have hown : s.vm.findClass RX8 = some m.cls := findClass_of_methodNamed B.named
  have hlocks := B.notSynchronized
  have hN := hK.2
  subst hsz
  have hD := hD0.self (sz := s.heap.size)
  generalize hAe : va_A [(a_this, .inr (4, [.ref a_this_near, .ref a_this_turned, .ref a_this_figures, .ref a_this_text, .int c_this_length, .ref a_this_sectors, .ref a_this_corners, .int c_this_doubles, .ref a_this_likes, .int c_this_likeMany, .int c_this_pieces, .ref a_this_laid, .ref a_this_isMirrored, .ref a_this_places, .ref a_this_placeMany, .ref a_this_now, .ref a_this_firsts, .ref a_this_forms, .ref a_this_isKept, .ref a_this_keptFigures, .ref a_this_keptPieces, .ref a_this_keptLaid, .ref a_this_keptMirrored])), (a_this_figures, .inl (cJ, 8, .inr (.inl c_this_figures))), (a_this_turned, .inl (cI, 512, .inl c_this_turned)), (a_this_likes, .inl (cJ, 400, .inr (.inl c_this_likes)))] s.heap.size = A at hD ⊢
  have hA : ∀ q : Nat, s.heap.size ≤ q → A q := fun q h => by rw [← hAe]; exact Or.inr h
  have hS : va_S A s.heap s.heap [] := va_S.rf
  have hl := lv_entry ([.ref a_this, .int x1, .int x2]) (n := 3) (Nat.le_of_ble_eq_true rfl)
  rw [lg_entry_eq]
  generalize (lg_sl ([.ref a_this, .int x1, .int x2]) ++ List.replicate (3 - (lg_sl ([.ref a_this, .int x1, .int x2])).length) Slot.unset).toArray = ls at hl ⊢
  have hl : lv_has ls 3 [(0, .ref a_this), (1, .int x1), (2, .int x2)] := hl
  refine hk_Q (fun Q hQ => ?_)
  have h := hf
  unfold f_X8_like at h
  refine lv_iload_n hx hb dX8_like_0 rfl (lv_at hl 1 rfl) ?_
  obtain ⟨r21, hr22, h⟩ := hk_x1 h
  refine vp_callSi (W.runS (As := [.int x1]) (rest := []) ⟨hx, hb, hml, hown, hts⟩ (c_X8_isFigure l x1 _ hr22) (va_cwS 1 hts gX8_like_X8_isFigure rfl rfl rfl zs_X8_isFigure ⟨Nat.le_of_ble_eq_true rfl, Nat.le_of_ble_eq_true rfl⟩) ⟨fun _ _ _ _ q => q, fun _ _ _ => ⟨rfl, trivial⟩⟩ rfl rfl hl.1 rfl (lv_room (Nat.le_of_ble_eq_true rfl)) dX8_like_1 ⟨Nat.zero_le _, Nat.zero_le _⟩) (fun p24 e23 => ?_)
  rw [e23]
  refine lv_if_eq (tgt := 14) hx hb dX8_like_4 (by decide) (fun c25 => ?_) (fun c25 => ?_)
  · replace h := hk_ip c25 h
    refine lv_iconst (v := (-1 : Int32)) hx hb dX8_like_14 (by decide) ?_
    subst hQ
    have h := Option.some.inj h
    simp only [Prod.mk.injEq] at h
    obtain ⟨rfl, rfl, rfl⟩ := h
    exact W.iret hx hb hr (fun t ht hW => ⟨⟨_, (), rfl, rfl, by rw [ht]; exact hP, hD⟩, hS.F ht⟩) hS.2.2 dX8_like_15
  replace h := hk_in c25 h
  refine lv_iload_n hx hb dX8_like_7 rfl (lv_at hl 2 rfl) ?_
  obtain ⟨r26, hr27, h⟩ := hk_x1 h
  refine vp_callSi (W.runS (As := [.int x2]) (rest := []) ⟨hx, hb, hml, hown, hts⟩ (c_X8_isFigure l x2 _ hr27) (va_cwS 1 hts gX8_like_X8_isFigure rfl rfl rfl zs_X8_isFigure ⟨Nat.le_of_ble_eq_true rfl, Nat.le_of_ble_eq_true rfl⟩) ⟨fun _ _ _ _ q => q, fun _ _ _ => ⟨rfl, trivial⟩⟩ rfl rfl hl.1 rfl (lv_room (Nat.le_of_ble_eq_true rfl)) dX8_like_8 ⟨Nat.zero_le _, Nat.zero_le _⟩) (fun p29 e28 => ?_)
  rw [e28]
  refine lv_if_ne (tgt := 16) hx hb dX8_like_11 (by decide) (fun c30 => ?_) (fun c30 => ?_)
  · replace h := hk_in c30 h
    refine lv_aload_n hx hb dX8_like_16 rfl (lv_at hl 0 rfl) ?_
    refine lv_aload_n hx hb dX8_like_17 rfl (lv_at hl 0 rfl) ?_
    refine va_get (D := D) (ci := 4) (v := .ref a_this_figures) (C := RX8) (T := TX8) (N := 23) hx hb hts zi_X8_like_X8 hown hK.1 hP 0 rfl rfl 2 (by decide) (hts (.fieldLink RX8 17 "HalfAndHalfAgainModel" "figures" "[J") (List.mem_of_getElem? (i := 1) rfl)) (fun _ h9 => h9) rfl dX8_like_18 ?_
    refine lv_iload_n hx hb dX8_like_21 rfl (lv_at hl 1 rfl) ?_
    obtain ⟨hi31, h⟩ := hk_ge h
    refine va_lald hx hb hK.1 hP 1 1 rfl rfl (hk_inb_of hi31) dX8_like_22 ?_
    obtain ⟨r32, u33, u34, hr35, h⟩ := hk_x3 h
    have hPc := hP.sub (ws' := [(a_this, .inr (4, [.ref a_this_near, .ref a_this_turned, .ref a_this_figures, .ref a_this_text, .int c_this_length, .ref a_this_sectors, .ref a_this_corners, .int c_this_doubles, .ref a_this_likes, .int c_this_likeMany, .int c_this_pieces, .ref a_this_laid, .ref a_this_isMirrored, .ref a_this_places, .ref a_this_placeMany, .ref a_this_now, .ref a_this_firsts, .ref a_this_forms, .ref a_this_isKept, .ref a_this_keptFigures, .ref a_this_keptPieces, .ref a_this_keptLaid, .ref a_this_keptMirrored])), (a_this_turned, .inl (cI, 512, .inl c_this_turned)), (a_this_likes, .inl (cJ, 400, .inr (.inl c_this_likes)))]) [0, 2, 3] rfl
    have hDc := hD.sub (ws' := [(a_this, .inr (4, [.ref a_this_near, .ref a_this_turned, .ref a_this_figures, .ref a_this_text, .int c_this_length, .ref a_this_sectors, .ref a_this_corners, .int c_this_doubles, .ref a_this_likes, .int c_this_likeMany, .int c_this_pieces, .ref a_this_laid, .ref a_this_isMirrored, .ref a_this_places, .ref a_this_placeMany, .ref a_this_now, .ref a_this_firsts, .ref a_this_forms, .ref a_this_isKept, .ref a_this_keptFigures, .ref a_this_keptPieces, .ref a_this_keptLaid, .ref a_this_keptMirrored])), (a_this_turned, .inl (cI, 512, .inl c_this_turned)), (a_this_likes, .inl (cJ, 400, .inr (.inl c_this_likes)))]) [0, 2, 3] (by decide) rfl
    have hFc := va_free (wc := [(a_this, .inr (4, [.ref a_this_near, .ref a_this_turned, .ref a_this_figures, .ref a_this_text, .int c_this_length, .ref a_this_sectors, .ref a_this_corners, .int c_this_doubles, .ref a_this_likes, .int c_this_likeMany, .int c_this_pieces, .ref a_this_laid, .ref a_this_isMirrored, .ref a_this_places, .ref a_this_placeMany, .ref a_this_now, .ref a_this_firsts, .ref a_this_forms, .ref a_this_isKept, .ref a_this_keptFigures, .ref a_this_keptPieces, .ref a_this_keptLaid, .ref a_this_keptMirrored])), (a_this_turned, .inl (cI, 512, .inl c_this_turned)), (a_this_likes, .inl (cJ, 400, .inr (.inl c_this_likes)))]) hD hS hA [0, 2, 3] rfl
    refine va_calll (va_runV (As := [.long (c_this_figures x1.toNatClampNeg)]) (rest := []) ⟨hx, hb, hml, hown, hts⟩ (c_X8_formOf l D cI cJ cZ cO a_this a_this_near a_this_turned a_this_figures a_this_text a_this_sectors a_this_corners a_this_likes a_this_laid a_this_isMirrored a_this_places a_this_placeMany a_this_now a_this_firsts a_this_forms a_this_isKept a_this_keptFigures a_this_keptPieces a_this_keptLaid a_this_keptMirrored s.heap.size c_this_length c_this_doubles c_this_likeMany c_this_pieces c_this_turned c_this_likes (c_this_figures x1.toNatClampNeg) _ _ _ hr35) (cwV 1 hts gX8_like_X8_formOf rfl rfl rfl zv_X8_formOf ⟨Nat.le_of_ble_eq_true rfl, Nat.le_of_ble_eq_true rfl⟩) (hk_preMV 4 rfl hPc hDc hK rfl) rfl rfl hl.1 rfl (lv_room (Nat.le_of_ble_eq_true rfl)) dX8_like_23 ⟨Nat.zero_le _, Nat.zero_le _⟩) hS (fun q _ h9 => hFc q h9) hFc (fun p36 u9 t9 H1 locs ht hvm hw hB hz1 hk1 hS => ?_)
    obtain ⟨hP1, hD1⟩ := hB
    rw [ht] at hP1
    rw [hw]
    obtain ⟨hP, hD⟩ := va_join (wr := [(a_this_figures, .inl (cJ, 8, .inr (.inl c_this_figures)))]) (w1 := [(a_this, .inr (4, [.ref a_this_near, .ref a_this_turned, .ref a_this_figures, .ref a_this_text, .int c_this_length, .ref a_this_sectors, .ref a_this_corners, .int c_this_doubles, .ref a_this_likes, .int u33, .int c_this_pieces, .ref a_this_laid, .ref a_this_isMirrored, .ref a_this_places, .ref a_this_placeMany, .ref a_this_now, .ref a_this_firsts, .ref a_this_forms, .ref a_this_isKept, .ref a_this_keptFigures, .ref a_this_keptPieces, .ref a_this_keptLaid, .ref a_this_keptMirrored])), (a_this_turned, .inl (cI, 512, .inl c_this_turned)), (a_this_likes, .inl (cJ, 400, .inr (.inl u34)))]) hP hD [0, 2, 3] [1] rfl rfl (by decide) (by decide) hk1 hFc hP1 hD1
    generalize H1 = H at hP hS ⊢
    have hP := hP.sub (ws' := [(a_this, .inr (4, [.ref a_this_near, .ref a_this_turned, .ref a_this_figures, .ref a_this_text, .int c_this_length, .ref a_this_sectors, .ref a_this_corners, .int c_this_doubles, .ref a_this_likes, .int u33, .int c_this_pieces, .ref a_this_laid, .ref a_this_isMirrored, .ref a_this_places, .ref a_this_placeMany, .ref a_this_now, .ref a_this_firsts, .ref a_this_forms, .ref a_this_isKept, .ref a_this_keptFigures, .ref a_this_keptPieces, .ref a_this_keptLaid, .ref a_this_keptMirrored])), (a_this_figures, .inl (cJ, 8, .inr (.inl c_this_figures))), (a_this_turned, .inl (cI, 512, .inl c_this_turned)), (a_this_likes, .inl (cJ, 400, .inr (.inl u34)))]) [1, 0, 2, 3] rfl
    have hD := hD.sub (ws' := [(a_this, .inr (4, [.ref a_this_near, .ref a_this_turned, .ref a_this_figures, .ref a_this_text, .int c_this_length, .ref a_this_sectors, .ref a_this_corners, .int c_this_doubles, .ref a_this_likes, .int u33, .int c_this_pieces, .ref a_this_laid, .ref a_this_isMirrored, .ref a_this_places, .ref a_this_placeMany, .ref a_this_now, .ref a_this_firsts, .ref a_this_forms, .ref a_this_isKept, .ref a_this_keptFigures, .ref a_this_keptPieces, .ref a_this_keptLaid, .ref a_this_keptMirrored])), (a_this_figures, .inl (cJ, 8, .inr (.inl c_this_figures))), (a_this_turned, .inl (cI, 512, .inl c_this_turned)), (a_this_likes, .inl (cJ, 400, .inr (.inl u34)))]) [1, 0, 2, 3] (by decide) rfl
    refine lv_aload_n hx hb dX8_like_26 rfl (lv_at hl 0 rfl) ?_
    refine lv_aload_n hx hb dX8_like_27 rfl (lv_at hl 0 rfl) ?_
    refine va_get (D := D) (ci := 4) (v := .ref a_this_figures) (C := RX8) (T := TX8) (N := 23) hx hb hts zi_X8_like_X8 hown hK.1 hP 0 rfl rfl 2 (by decide) (hts (.fieldLink RX8 17 "HalfAndHalfAgainModel" "figures" "[J") (List.mem_of_getElem? (i := 1) rfl)) (fun _ h9 => h9) rfl dX8_like_28 ?_
    refine lv_iload_n hx hb dX8_like_31 rfl (lv_at hl 2 rfl) ?_
    obtain ⟨hi37, h⟩ := hk_ge h
    refine va_lald hx hb hK.1 hP 1 1 rfl rfl (hk_inb_of hi37) dX8_like_32 ?_
    obtain ⟨r38, u39, u40, hr41, h⟩ := hk_x3 h
    have hPc := hP.sub (ws' := [(a_this, .inr (4, [.ref a_this_near, .ref a_this_turned, .ref a_this_figures, .ref a_this_text, .int c_this_length, .ref a_this_sectors, .ref a_this_corners, .int c_this_doubles, .ref a_this_likes, .int u33, .int c_this_pieces, .ref a_this_laid, .ref a_this_isMirrored, .ref a_this_places, .ref a_this_placeMany, .ref a_this_now, .ref a_this_firsts, .ref a_this_forms, .ref a_this_isKept, .ref a_this_keptFigures, .ref a_this_keptPieces, .ref a_this_keptLaid, .ref a_this_keptMirrored])), (a_this_turned, .inl (cI, 512, .inl c_this_turned)), (a_this_likes, .inl (cJ, 400, .inr (.inl u34)))]) [0, 2, 3] rfl
    have hDc := hD.sub (ws' := [(a_this, .inr (4, [.ref a_this_near, .ref a_this_turned, .ref a_this_figures, .ref a_this_text, .int c_this_length, .ref a_this_sectors, .ref a_this_corners, .int c_this_doubles, .ref a_this_likes, .int u33, .int c_this_pieces, .ref a_this_laid, .ref a_this_isMirrored, .ref a_this_places, .ref a_this_placeMany, .ref a_this_now, .ref a_this_firsts, .ref a_this_forms, .ref a_this_isKept, .ref a_this_keptFigures, .ref a_this_keptPieces, .ref a_this_keptLaid, .ref a_this_keptMirrored])), (a_this_turned, .inl (cI, 512, .inl c_this_turned)), (a_this_likes, .inl (cJ, 400, .inr (.inl u34)))]) [0, 2, 3] (by decide) rfl
    have hFc := va_free (wc := [(a_this, .inr (4, [.ref a_this_near, .ref a_this_turned, .ref a_this_figures, .ref a_this_text, .int c_this_length, .ref a_this_sectors, .ref a_this_corners, .int c_this_doubles, .ref a_this_likes, .int u33, .int c_this_pieces, .ref a_this_laid, .ref a_this_isMirrored, .ref a_this_places, .ref a_this_placeMany, .ref a_this_now, .ref a_this_firsts, .ref a_this_forms, .ref a_this_isKept, .ref a_this_keptFigures, .ref a_this_keptPieces, .ref a_this_keptLaid, .ref a_this_keptMirrored])), (a_this_turned, .inl (cI, 512, .inl c_this_turned)), (a_this_likes, .inl (cJ, 400, .inr (.inl u34)))]) hD hS hA [0, 2, 3] rfl
    refine va_calll (va_runV (As := [.long (c_this_figures x2.toNatClampNeg)]) (rest := [.long r32]) ⟨hx, hb, hml, hown, hts⟩ (c_X8_formOf l D cI cJ cZ cO a_this a_this_near a_this_turned a_this_figures a_this_text a_this_sectors a_this_corners a_this_likes a_this_laid a_this_isMirrored a_this_places a_this_placeMany a_this_now a_this_firsts a_this_forms a_this_isKept a_this_keptFigures a_this_keptPieces a_this_keptLaid a_this_keptMirrored H.size c_this_length c_this_doubles u33 c_this_pieces c_this_turned u34 (c_this_figures x2.toNatClampNeg) _ _ _ hr41) (cwV 1 hts gX8_like_X8_formOf rfl rfl rfl zv_X8_formOf ⟨Nat.le_of_ble_eq_true rfl, Nat.le_of_ble_eq_true rfl⟩) (hk_preMV 4 rfl hPc hDc hK rfl) rfl rfl hl.1 rfl (lv_room (Nat.le_of_ble_eq_true rfl)) dX8_like_33 ⟨Nat.zero_le _, Nat.zero_le _⟩) hS (fun q _ h9 => hFc q h9) hFc (fun p42 u9 t9 H1 locs ht hvm hw hB hz1 hk1 hS => ?_)
    obtain ⟨hP1, hD1⟩ := hB
    rw [ht] at hP1
    rw [hw]
    obtain ⟨hP, hD⟩ := va_join (wr := [(a_this_figures, .inl (cJ, 8, .inr (.inl c_this_figures)))]) (w1 := [(a_this, .inr (4, [.ref a_this_near, .ref a_this_turned, .ref a_this_figures, .ref a_this_text, .int c_this_length, .ref a_this_sectors, .ref a_this_corners, .int c_this_doubles, .ref a_this_likes, .int u39, .int c_this_pieces, .ref a_this_laid, .ref a_this_isMirrored, .ref a_this_places, .ref a_this_placeMany, .ref a_this_now, .ref a_this_firsts, .ref a_this_forms, .ref a_this_isKept, .ref a_this_keptFigures, .ref a_this_keptPieces, .ref a_this_keptLaid, .ref a_this_keptMirrored])), (a_this_turned, .inl (cI, 512, .inl c_this_turned)), (a_this_likes, .inl (cJ, 400, .inr (.inl u40)))]) hP hD [0, 2, 3] [1] rfl rfl (by decide) (by decide) hk1 hFc hP1 hD1
    generalize H1 = H at hP hS ⊢
    have hP := hP.sub (ws' := [(a_this, .inr (4, [.ref a_this_near, .ref a_this_turned, .ref a_this_figures, .ref a_this_text, .int c_this_length, .ref a_this_sectors, .ref a_this_corners, .int c_this_doubles, .ref a_this_likes, .int u39, .int c_this_pieces, .ref a_this_laid, .ref a_this_isMirrored, .ref a_this_places, .ref a_this_placeMany, .ref a_this_now, .ref a_this_firsts, .ref a_this_forms, .ref a_this_isKept, .ref a_this_keptFigures, .ref a_this_keptPieces, .ref a_this_keptLaid, .ref a_this_keptMirrored])), (a_this_figures, .inl (cJ, 8, .inr (.inl c_this_figures))), (a_this_turned, .inl (cI, 512, .inl c_this_turned)), (a_this_likes, .inl (cJ, 400, .inr (.inl u40)))]) [1, 0, 2, 3] rfl
    have hD := hD.sub (ws' := [(a_this, .inr (4, [.ref a_this_near, .ref a_this_turned, .ref a_this_figures, .ref a_this_text, .int c_this_length, .ref a_this_sectors, .ref a_this_corners, .int c_this_doubles, .ref a_this_likes, .int u39, .int c_this_pieces, .ref a_this_laid, .ref a_this_isMirrored, .ref a_this_places, .ref a_this_placeMany, .ref a_this_now, .ref a_this_firsts, .ref a_this_forms, .ref a_this_isKept, .ref a_this_keptFigures, .ref a_this_keptPieces, .ref a_this_keptLaid, .ref a_this_keptMirrored])), (a_this_figures, .inl (cJ, 8, .inr (.inl c_this_figures))), (a_this_turned, .inl (cI, 512, .inl c_this_turned)), (a_this_likes, .inl (cJ, 400, .inr (.inl u40)))]) [1, 0, 2, 3] (by decide) rfl
    refine hk_lcmp_ne (tgt := 44) hx hb dX8_like_36 dX8_like_37 (by decide) (fun c43 => ?_) (fun c43 => ?_)
    · replace h := hk_in c43 h
      refine lv_iconst (v := (0 : Int32)) hx hb dX8_like_44 (by decide) ?_
      subst hQ
      have h := Option.some.inj h
      simp only [Prod.mk.injEq] at h
      obtain ⟨rfl, rfl, rfl⟩ := h
      exact W.iret hx hb hr (fun t ht hW => ⟨⟨_, (), rfl, rfl, by rw [ht]; exact hP, hD⟩, hS.F ht⟩) hS.2.2 dX8_like_45
    replace h := hk_ip c43 h
    refine lv_iconst (v := (1 : Int32)) hx hb dX8_like_40 (by decide) ?_
    refine lv_goto (tgt := 45) hx hb dX8_like_41 (by decide) ?_
    subst hQ
    have h := Option.some.inj h
    simp only [Prod.mk.injEq] at h
    obtain ⟨rfl, rfl, rfl⟩ := h
    exact W.iret hx hb hr (fun t ht hW => ⟨⟨_, (), rfl, rfl, by rw [ht]; exact hP, hD⟩, hS.F ht⟩) hS.2.2 dX8_like_45
  replace h := hk_ip c30 h
  refine lv_iconst (v := (-1 : Int32)) hx hb dX8_like_14 (by decide) ?_
  subst hQ
  have h := Option.some.inj h
  simp only [Prod.mk.injEq] at h
  obtain ⟨rfl, rfl, rfl⟩ := h
  exact W.iret hx hb hr (fun t ht hW => ⟨⟨_, (), rfl, rfl, by rw [ht]; exact hP, hD⟩, hS.F ht⟩) hS.2.2 dX8_like_15
theorem zv_X8_itself : yX8_itself.cls = RX8 ∧ yX8_itself.cls ≠ "java/lang/invoke/MethodHandle" ∧ yX8_itself.cls ≠ "java/lang/invoke/VarHandle" ∧ (parseMethodDescriptor yX8_itself.desc).map (fun d => d.parameters.length) = some 1 := by decide +kernel
def st_X8_itself_38c (c_this_figures : Nat → Int64) (x1 : Int32) (r31 : Int64) (y36 : Int32) (y37 : Int32) : Option ((Int32 × Int32) ⊕ Int32) := if (49 : Int32) ≤ y37 then (some (.inr y36)) else (hk_b1 (if y36 = 0 then (hk_b1 (f_X8_stays r31 ((hk_rem y37 (7 : Int32)) - (3 : Int32)) ((y37 / (7 : Int32)) - (3 : Int32))) fun r41 => if r41 = 0 then (some (0 : Int32)) else (hk_b1 (f_X8_shifted r31 ((hk_rem y37 (7 : Int32)) - (3 : Int32)) ((y37 / (7 : Int32)) - (3 : Int32))) fun r46 => hk_gd (hk_inb x1 8) (if r46 = (c_this_figures x1.toNatClampNeg) then (some (1 : Int32)) else (some (0 : Int32))))) else (some (1 : Int32))) fun v52 => hk_let (y37 + (1 : Int32)) fun x53 => some (.inl (v52, x53)))
def st_X8_itself_38 (c_this_figures : Nat → Int64) (x1 : Int32) (r31 : Int64) (t9 : (Int32 × Int32)) : Option ((Int32 × Int32) ⊕ Int32) := st_X8_itself_38c c_this_figures x1 r31 t9.1 t9.2
def st_X8_itself_13c (c_this_figures : Nat → Int64) (c_this_turned : Nat → Int32) (x1 : Int32) (y27 : Int32) (y28 : Int32) : Option ((Int32 × Int32) ⊕ Int32) := if (8 : Int32) ≤ y28 then (some (.inr y27)) else (hk_gd (hk_inb x1 8) (hk_b1 (f_X8_turnedBy c_this_turned (c_this_figures x1.toNatClampNeg) y28) fun r31 => hk_b1 (hk_wl (st_X8_itself_38 c_this_figures x1 r31) hkF ((0 : Int32), (0 : Int32))) fun z55 => hk_let (if z55 = 0 then ((0 : Int32)) else ((1 : Int32))) fun v60 => hk_let (y27 + v60) fun x61 => hk_let (y28 + (1 : Int32)) fun x62 => some (.inl (x61, x62))))
def st_X8_itself_13 (c_this_figures : Nat → Int64) (c_this_turned : Nat → Int32) (x1 : Int32) (t9 : (Int32 × Int32)) : Option ((Int32 × Int32) ⊕ Int32) := st_X8_itself_13c c_this_figures c_this_turned x1 t9.1 t9.2
def f_X8_itself (c_this_figures : Nat → Int64) (c_this_turned : Nat → Int32)  (x1 : Int32) : Option Int32 := hk_b1 (f_X8_isFigure x1) fun r21 => if r21 = 0 then (some (-1 : Int32)) else (hk_b1 (hk_wl (st_X8_itself_13 c_this_figures c_this_turned x1) hkF ((0 : Int32), (0 : Int32))) fun z64 => some z64)
theorem zi_X8_itself_X8 : ∀ w ∈ u_ws RX8 TX8 23, w ∈ wsX8_itself := by decide +kernel
set_option maxHeartbeats 8000000 in
set_option maxRecDepth 100000 in
theorem c_X8_itself (l : Launch) (D : va_G) (cI cJ cZ cO : ClassId) (a_this a_this_near a_this_turned a_this_figures a_this_text a_this_sectors a_this_corners a_this_likes a_this_laid a_this_isMirrored a_this_places a_this_placeMany a_this_now a_this_firsts a_this_forms a_this_isKept a_this_keptFigures a_this_keptPieces a_this_keptLaid a_this_keptMirrored : Nat) (c_this_length : Int32) (c_this_doubles : Int32) (c_this_likeMany : Int32) (c_this_pieces : Int32) (c_this_figures : Nat → Int64) (c_this_turned : Nat → Int32) (x1 : Int32) (rv : Int32) (hf : f_X8_itself c_this_figures c_this_turned x1 = some rv) : Met l yX8_itself wsX8_itself ({ frames := 2, cells := 0, slots := 0, locals := 51 }) (va_Pc [.ref a_this, .int x1] (hkR D cI cJ cZ cO [(a_this, .inr (4, [.ref a_this_near, .ref a_this_turned, .ref a_this_figures, .ref a_this_text, .int c_this_length, .ref a_this_sectors, .ref a_this_corners, .int c_this_doubles, .ref a_this_likes, .int c_this_likeMany, .int c_this_pieces, .ref a_this_laid, .ref a_this_isMirrored, .ref a_this_places, .ref a_this_placeMany, .ref a_this_now, .ref a_this_firsts, .ref a_this_forms, .ref a_this_isKept, .ref a_this_keptFigures, .ref a_this_keptPieces, .ref a_this_keptLaid, .ref a_this_keptMirrored])), (a_this_figures, .inl (cJ, 8, .inr (.inl c_this_figures))), (a_this_turned, .inl (cI, 512, .inl c_this_turned))])) (vp_Si (fun r => r = rv)) 0 0 (fun _ => False) := by
  refine Met.ofW (cc := cX8_itself) (maxL := 8) (ret := (some .int)) (by decide) rfl ?_
  intro p e s m args below meth c s₁ B hml hv
  obtain ⟨rfl, hP, hK⟩ := hv
  have hx := B.exec
  have hb := B.bytes
  have hr := B.returns
  have hts := atoms_spec (ws := wsX8_itself) B.pre
  have hown : s.vm.findClass RX8 = some m.cls := findClass_of_methodNamed B.named
  have hlocks := B.notSynchronized
  have hN := hK.2
  have hl := lv_entry ([.ref a_this, .int x1]) (n := 8) (Nat.le_of_ble_eq_true rfl)
  rw [lg_entry_eq]
  generalize (lg_sl ([.ref a_this, .int x1]) ++ List.replicate (8 - (lg_sl ([.ref a_this, .int x1])).length) Slot.unset).toArray = ls at hl ⊢
  have hl : lv_has ls 8 [(0, .ref a_this), (1, .int x1)] := hl
  refine hk_Q (fun Q hQ => ?_)
  have h := hf
  unfold f_X8_itself at h
  refine lv_iload_n hx hb dX8_itself_0 rfl (lv_at hl 1 rfl) ?_
  obtain ⟨r21, hr22, h⟩ := hk_x1 h
  refine vp_callSi (W.runS (As := [.int x1]) (rest := []) ⟨hx, hb, hml, hown, hts⟩ (c_X8_isFigure l x1 _ hr22) (va_cwS 1 hts gX8_itself_X8_isFigure rfl rfl rfl zs_X8_isFigure ⟨Nat.le_of_ble_eq_true rfl, Nat.le_of_ble_eq_true rfl⟩) ⟨fun _ _ _ _ q => q, fun _ _ _ => ⟨rfl, trivial⟩⟩ rfl rfl hl.1 rfl (lv_room (Nat.le_of_ble_eq_true rfl)) dX8_itself_1 ⟨Nat.zero_le _, Nat.zero_le _⟩) (fun p24 e23 => ?_)
  rw [e23]
  refine lv_if_ne (tgt := 9) hx hb dX8_itself_4 (by decide) (fun c25 => ?_) (fun c25 => ?_)
  · replace h := hk_in c25 h
    refine lv_iconst (v := (0 : Int32)) hx hb dX8_itself_9 (by decide) ?_
    refine lv_istore_n (lv' := [(2, .int (0 : Int32)), (0, .ref a_this), (1, .int x1)]) hx hb dX8_itself_10 rfl hl (by decide) rfl (fun ls hl => ?_)
    refine lv_iconst (v := (0 : Int32)) hx hb dX8_itself_11 (by decide) ?_
    refine lv_istore_n (lv' := [(3, .int (0 : Int32)), (2, .int (0 : Int32)), (0, .ref a_this), (1, .int x1)]) hx hb dX8_itself_12 rfl hl (by decide) rfl (fun ls hl => ?_)
    obtain ⟨z64, hr63, h⟩ := hk_x1 h
    refine hk_loopR (f := st_X8_itself_13 c_this_figures c_this_turned x1) (hd := 13) (nL := 8) (lv := fun t9 => [(0, .ref a_this), (1, .int x1), (2, .int t9.1), (3, .int t9.2)]) (xs := fun t9 => (134, [(2, .int t9)], [])) ?_ hr63 ?_ (lv_sub hl [2, 3, 1, 0] rfl)
    · intro t65 q66 k26 hck26 hqk26 ls hl
      obtain ⟨y27, y28⟩ := t65
      have k26 : st_X8_itself_13c c_this_figures c_this_turned x1 y27 y28 = some q66 := k26
      unfold st_X8_itself_13c at k26
      have hl : lv_has ls 8 [(0, .ref a_this), (1, .int x1), (2, .int y27), (3, .int y28)] := hl
      refine lv_iload_n hx hb dX8_itself_13 rfl (lv_at hl 3 rfl) ?_
      refine lv_bipush (v := (8 : Int32)) hx hb dX8_itself_14 (by decide) ?_
      refine lv_icmp_ge (tgt := 134) hx hb dX8_itself_16 (by decide) (fun c29 => ?_) (fun c29 => ?_)
      · replace k26 := hk_ip c29 k26
        exact hqk26 y27 (Option.some.inj k26).symm ls (lv_sub hl [2] rfl)
      replace k26 := hk_in c29 k26
      refine lv_aload_n hx hb dX8_itself_19 rfl (lv_at hl 0 rfl) ?_
      refine lv_aload_n hx hb dX8_itself_20 rfl (lv_at hl 0 rfl) ?_
      refine va_get (D := D) (ci := 4) (v := .ref a_this_figures) (C := RX8) (T := TX8) (N := 23) hx hb hts zi_X8_itself_X8 hown hK.1 hP 0 rfl rfl 2 (by decide) (hts (.fieldLink RX8 17 "HalfAndHalfAgainModel" "figures" "[J") (List.mem_of_getElem? (i := 1) rfl)) (fun _ h9 => h9) rfl dX8_itself_21 ?_
      refine lv_iload_n hx hb dX8_itself_24 rfl (lv_at hl 1 rfl) ?_
      obtain ⟨hi30, k26⟩ := hk_ge k26
      refine va_lald hx hb hK.1 hP 1 1 rfl rfl (hk_inb_of hi30) dX8_itself_25 ?_
      refine lv_iload_n hx hb dX8_itself_26 rfl (lv_at hl 3 rfl) ?_
      obtain ⟨r31, hr32, k26⟩ := hk_x1 k26
      refine vp_callSl (W.runV (As := [.long (c_this_figures x1.toNatClampNeg), .int y28]) (rest := []) ⟨hx, hb, hml, hown, hts⟩ (c_X8_turnedBy l D cI cJ cZ cO a_this a_this_near a_this_turned a_this_figures a_this_text a_this_sectors a_this_corners a_this_likes a_this_laid a_this_isMirrored a_this_places a_this_placeMany a_this_now a_this_firsts a_this_forms a_this_isKept a_this_keptFigures a_this_keptPieces a_this_keptLaid a_this_keptMirrored c_this_length c_this_doubles c_this_likeMany c_this_pieces c_this_turned (c_this_figures x1.toNatClampNeg) y28 _ hr32) (cwV 2 hts gX8_itself_X8_turnedBy rfl rfl rfl zv_X8_turnedBy ⟨Nat.le_of_ble_eq_true rfl, Nat.le_of_ble_eq_true rfl⟩) (hk_preRV 4 rfl (hP.sub (ws' := [(a_this, .inr (4, [.ref a_this_near, .ref a_this_turned, .ref a_this_figures, .ref a_this_text, .int c_this_length, .ref a_this_sectors, .ref a_this_corners, .int c_this_doubles, .ref a_this_likes, .int c_this_likeMany, .int c_this_pieces, .ref a_this_laid, .ref a_this_isMirrored, .ref a_this_places, .ref a_this_placeMany, .ref a_this_now, .ref a_this_firsts, .ref a_this_forms, .ref a_this_isKept, .ref a_this_keptFigures, .ref a_this_keptPieces, .ref a_this_keptLaid, .ref a_this_keptMirrored])), (a_this_turned, .inl (cI, 512, .inl c_this_turned))]) [0, 2] rfl) hK rfl) rfl rfl hl.1 rfl (lv_room (Nat.le_of_ble_eq_true rfl)) dX8_itself_27 ⟨Nat.zero_le _, Nat.zero_le _⟩) (fun p34 e33 => ?_)
      rw [e33]
      refine lv_lstore (lv' := [(4, .long r31), (0, .ref a_this), (1, .int x1), (2, .int y27), (3, .int y28)]) hx hb dX8_itself_30 hl (by decide) rfl (fun ls hl => ?_)
      refine lv_iconst (v := (0 : Int32)) hx hb dX8_itself_32 (by decide) ?_
      refine lv_istore (lv' := [(6, .int (0 : Int32)), (4, .long r31), (0, .ref a_this), (1, .int x1), (2, .int y27), (3, .int y28)]) hx hb dX8_itself_33 hl (by decide) rfl (fun ls hl => ?_)
      refine lv_iconst (v := (0 : Int32)) hx hb dX8_itself_35 (by decide) ?_
      refine lv_istore (lv' := [(7, .int (0 : Int32)), (6, .int (0 : Int32)), (4, .long r31), (0, .ref a_this), (1, .int x1), (2, .int y27), (3, .int y28)]) hx hb dX8_itself_36 hl (by decide) rfl (fun ls hl => ?_)
      obtain ⟨z55, hr54, k26⟩ := hk_x1 k26
      refine hk_loopR (f := st_X8_itself_38 c_this_figures x1 r31) (hd := 38) (nL := 8) (lv := fun t9 => [(0, .ref a_this), (1, .int x1), (2, .int y27), (3, .int y28), (4, .long r31), (6, .int t9.1), (7, .int t9.2)]) (xs := fun t9 => (115, [(0, .ref a_this), (1, .int x1), (2, .int y27), (3, .int y28), (6, .int t9)], [])) ?_ hr54 ?_ (lv_sub hl [3, 4, 5, 6, 2, 1, 0] rfl)
      · intro t56 q57 k35 hck35 hqk35 ls hl
        obtain ⟨y36, y37⟩ := t56
        have k35 : st_X8_itself_38c c_this_figures x1 r31 y36 y37 = some q57 := k35
        unfold st_X8_itself_38c at k35
        have hl : lv_has ls 8 [(0, .ref a_this), (1, .int x1), (2, .int y27), (3, .int y28), (4, .long r31), (6, .int y36), (7, .int y37)] := hl
        refine lv_iload hx hb dX8_itself_38 (lv_at hl 6 rfl) ?_
        refine lv_bipush (v := (49 : Int32)) hx hb dX8_itself_40 (by decide) ?_
        refine lv_icmp_ge (tgt := 115) hx hb dX8_itself_42 (by decide) (fun c38 => ?_) (fun c38 => ?_)
        · replace k35 := hk_ip c38 k35
          exact hqk35 y36 (Option.some.inj k35).symm ls (lv_sub hl [0, 1, 2, 3, 5] rfl)
        replace k35 := hk_in c38 k35
        refine lv_iload hx hb dX8_itself_45 (lv_at hl 5 rfl) ?_
        obtain ⟨v52, g39, k35⟩ := hk_x1 k35
        refine hk_joinR (nL := 8) (xs := fun (t9 : Int32) => (107, [(0, .ref a_this), (1, .int x1), (2, .int y27), (3, .int y28), (4, .long r31), (7, .int y37)], [.int t9])) v52 (fun hjg39 => ?_) ?_
        · refine lv_if_ne (tgt := 102) hx hb dX8_itself_47 (by decide) (fun c40 => ?_) (fun c40 => ?_)
          · replace g39 := hk_in c40 g39
            refine lv_iconst (v := (1 : Int32)) hx hb dX8_itself_102 (by decide) ?_
            refine lv_goto (tgt := 107) hx hb dX8_itself_103 (by decide) ?_
            have g39 := Option.some.inj g39
            subst g39
            exact hjg39 ls (lv_sub hl [0, 1, 2, 3, 4, 6] rfl)
          replace g39 := hk_ip c40 g39
          refine lv_aload_n hx hb dX8_itself_50 rfl (lv_at hl 0 rfl) ?_
          refine lv_lload hx hb dX8_itself_51 (lv_at hl 4 rfl) ?_
          refine lv_iload hx hb dX8_itself_53 (lv_at hl 6 rfl) ?_
          refine lv_bipush (v := (7 : Int32)) hx hb dX8_itself_55 (by decide) ?_
          refine lv_irem hx hb dX8_itself_57 (by decide) ?_
          refine hk_ti (y := (hk_rem y37 (7 : Int32))) rfl ?_
          refine lv_iconst (v := (3 : Int32)) hx hb dX8_itself_58 (by decide) ?_
          refine lv_isub hx hb dX8_itself_59 ?_
          refine lv_iload hx hb dX8_itself_60 (lv_at hl 6 rfl) ?_
          refine lv_bipush (v := (7 : Int32)) hx hb dX8_itself_62 (by decide) ?_
          refine lv_idiv hx hb dX8_itself_64 (by decide) ?_
          refine lv_iconst (v := (3 : Int32)) hx hb dX8_itself_65 (by decide) ?_
          refine lv_isub hx hb dX8_itself_66 ?_
          obtain ⟨r41, hr42, g39⟩ := hk_x1 g39
          refine vp_callSi (W.runV (As := [.long r31, .int ((hk_rem y37 (7 : Int32)) - (3 : Int32)), .int ((y37 / (7 : Int32)) - (3 : Int32))]) (rest := []) ⟨hx, hb, hml, hown, hts⟩ (c_X8_stays l D cI cJ cZ cO a_this a_this_near a_this_turned a_this_figures a_this_text a_this_sectors a_this_corners a_this_likes a_this_laid a_this_isMirrored a_this_places a_this_placeMany a_this_now a_this_firsts a_this_forms a_this_isKept a_this_keptFigures a_this_keptPieces a_this_keptLaid a_this_keptMirrored c_this_length c_this_doubles c_this_likeMany c_this_pieces r31 ((hk_rem y37 (7 : Int32)) - (3 : Int32)) ((y37 / (7 : Int32)) - (3 : Int32)) _ hr42) (cwV 3 hts gX8_itself_X8_stays rfl rfl rfl zv_X8_stays ⟨Nat.le_of_ble_eq_true rfl, Nat.le_of_ble_eq_true rfl⟩) (hk_preRV 4 rfl (hP.sub (ws' := [(a_this, .inr (4, [.ref a_this_near, .ref a_this_turned, .ref a_this_figures, .ref a_this_text, .int c_this_length, .ref a_this_sectors, .ref a_this_corners, .int c_this_doubles, .ref a_this_likes, .int c_this_likeMany, .int c_this_pieces, .ref a_this_laid, .ref a_this_isMirrored, .ref a_this_places, .ref a_this_placeMany, .ref a_this_now, .ref a_this_firsts, .ref a_this_forms, .ref a_this_isKept, .ref a_this_keptFigures, .ref a_this_keptPieces, .ref a_this_keptLaid, .ref a_this_keptMirrored]))]) [0] rfl) hK rfl) rfl rfl hl.1 rfl (lv_room (Nat.le_of_ble_eq_true rfl)) dX8_itself_67 ⟨Nat.zero_le _, Nat.zero_le _⟩) (fun p44 e43 => ?_)
          rw [e43]
          refine lv_if_eq (tgt := 106) hx hb dX8_itself_70 (by decide) (fun c45 => ?_) (fun c45 => ?_)
          · replace g39 := hk_ip c45 g39
            refine lv_iconst (v := (0 : Int32)) hx hb dX8_itself_106 (by decide) ?_
            have g39 := Option.some.inj g39
            subst g39
            exact hjg39 ls (lv_sub hl [0, 1, 2, 3, 4, 6] rfl)
          replace g39 := hk_in c45 g39
          refine lv_lload hx hb dX8_itself_73 (lv_at hl 4 rfl) ?_
          refine lv_iload hx hb dX8_itself_75 (lv_at hl 6 rfl) ?_
          refine lv_bipush (v := (7 : Int32)) hx hb dX8_itself_77 (by decide) ?_
          refine lv_irem hx hb dX8_itself_79 (by decide) ?_
          refine hk_ti (y := (hk_rem y37 (7 : Int32))) rfl ?_
          refine lv_iconst (v := (3 : Int32)) hx hb dX8_itself_80 (by decide) ?_
          refine lv_isub hx hb dX8_itself_81 ?_
          refine lv_iload hx hb dX8_itself_82 (lv_at hl 6 rfl) ?_
          refine lv_bipush (v := (7 : Int32)) hx hb dX8_itself_84 (by decide) ?_
          refine lv_idiv hx hb dX8_itself_86 (by decide) ?_
          refine lv_iconst (v := (3 : Int32)) hx hb dX8_itself_87 (by decide) ?_
          refine lv_isub hx hb dX8_itself_88 ?_
          obtain ⟨r46, hr47, g39⟩ := hk_x1 g39
          refine vp_callSl (W.runS (As := [.long r31, .int ((hk_rem y37 (7 : Int32)) - (3 : Int32)), .int ((y37 / (7 : Int32)) - (3 : Int32))]) (rest := []) ⟨hx, hb, hml, hown, hts⟩ (c_X8_shifted l r31 ((hk_rem y37 (7 : Int32)) - (3 : Int32)) ((y37 / (7 : Int32)) - (3 : Int32)) _ hr47) (va_cwS 3 hts gX8_itself_X8_shifted rfl rfl rfl zs_X8_shifted ⟨Nat.le_of_ble_eq_true rfl, Nat.le_of_ble_eq_true rfl⟩) ⟨fun _ _ _ _ q => q, fun _ _ _ => ⟨rfl, trivial⟩⟩ rfl rfl hl.1 rfl (lv_room (Nat.le_of_ble_eq_true rfl)) dX8_itself_89 ⟨Nat.zero_le _, Nat.zero_le _⟩) (fun p49 e48 => ?_)
          rw [e48]
          refine lv_aload_n hx hb dX8_itself_92 rfl (lv_at hl 0 rfl) ?_
          refine va_get (D := D) (ci := 4) (v := .ref a_this_figures) (C := RX8) (T := TX8) (N := 23) hx hb hts zi_X8_itself_X8 hown hK.1 hP 0 rfl rfl 2 (by decide) (hts (.fieldLink RX8 17 "HalfAndHalfAgainModel" "figures" "[J") (List.mem_of_getElem? (i := 1) rfl)) (fun _ h9 => h9) rfl dX8_itself_93 ?_
          refine lv_iload_n hx hb dX8_itself_96 rfl (lv_at hl 1 rfl) ?_
          obtain ⟨hi50, g39⟩ := hk_ge g39
          refine va_lald hx hb hK.1 hP 1 1 rfl rfl (hk_inb_of hi50) dX8_itself_97 ?_
          refine hk_lcmp_ne (tgt := 106) hx hb dX8_itself_98 dX8_itself_99 (by decide) (fun c51 => ?_) (fun c51 => ?_)
          · replace g39 := hk_in c51 g39
            refine lv_iconst (v := (0 : Int32)) hx hb dX8_itself_106 (by decide) ?_
            have g39 := Option.some.inj g39
            subst g39
            exact hjg39 ls (lv_sub hl [0, 1, 2, 3, 4, 6] rfl)
          replace g39 := hk_ip c51 g39
          refine lv_iconst (v := (1 : Int32)) hx hb dX8_itself_102 (by decide) ?_
          refine lv_goto (tgt := 107) hx hb dX8_itself_103 (by decide) ?_
          have g39 := Option.some.inj g39
          subst g39
          exact hjg39 ls (lv_sub hl [0, 1, 2, 3, 4, 6] rfl)
        intro ls hl
        have hl : lv_has ls 8 [(0, .ref a_this), (1, .int x1), (2, .int y27), (3, .int y28), (4, .long r31), (7, .int y37)] := hl
        show W _ _ _ _ _ _ _ _ _ _ _ _ _ _ _ (F0 m 107 ls [.int v52])
        refine lv_istore (lv' := [(6, .int v52), (0, .ref a_this), (1, .int x1), (2, .int y27), (3, .int y28), (4, .long r31), (7, .int y37)]) hx hb dX8_itself_107 hl (by decide) rfl (fun ls hl => ?_)
        obtain ⟨x53, ex53, k35⟩ := hk_le k35
        refine lv_iinc (v := x53) (lv' := [(7, .int x53), (6, .int v52), (0, .ref a_this), (1, .int x1), (2, .int y27), (3, .int y28), (4, .long r31)]) hx hb dX8_itself_109 hl (k := 6) rfl (by rw [ex53]; rfl) (by decide) rfl (fun ls hl => ?_)
        refine lv_goto (tgt := 38) hx hb dX8_itself_112 (by decide) ?_
        exact hck35 (v52, x53) (Option.some.inj k35).symm ls (lv_sub hl [2, 3, 4, 5, 6, 1, 0] rfl)
      intro ls hl
      have hl : lv_has ls 8 [(0, .ref a_this), (1, .int x1), (2, .int y27), (3, .int y28), (6, .int z55)] := hl
      show W _ _ _ _ _ _ _ _ _ _ _ _ _ _ _ (F0 m 115 ls [])
      refine lv_iload_n hx hb dX8_itself_115 rfl (lv_at hl 2 rfl) ?_
      refine lv_iload hx hb dX8_itself_116 (lv_at hl 4 rfl) ?_
      obtain ⟨v60, g58, k26⟩ := hk_lf k26
      refine hk_joinR (nL := 8) (xs := fun (t9 : Int32) => (126, [(0, .ref a_this), (1, .int x1), (3, .int y28)], [.int t9, .int y27])) v60 (fun hjg58 => ?_) ?_
      · refine lv_if_eq (tgt := 125) hx hb dX8_itself_118 (by decide) (fun c59 => ?_) (fun c59 => ?_)
        · replace g58 := hk_ip c59 g58
          refine lv_iconst (v := (0 : Int32)) hx hb dX8_itself_125 (by decide) ?_
          subst g58
          exact hjg58 ls (lv_sub hl [0, 1, 3] rfl)
        replace g58 := hk_in c59 g58
        refine lv_iconst (v := (1 : Int32)) hx hb dX8_itself_121 (by decide) ?_
        refine lv_goto (tgt := 126) hx hb dX8_itself_122 (by decide) ?_
        subst g58
        exact hjg58 ls (lv_sub hl [0, 1, 3] rfl)
      intro ls hl
      have hl : lv_has ls 8 [(0, .ref a_this), (1, .int x1), (3, .int y28)] := hl
      show W _ _ _ _ _ _ _ _ _ _ _ _ _ _ _ (F0 m 126 ls [.int v60, .int y27])
      refine lv_iadd hx hb dX8_itself_126 ?_
      obtain ⟨x61, ex61, k26⟩ := hk_le k26
      refine hk_ti ex61 ?_
      refine lv_istore_n (lv' := [(2, .int x61), (0, .ref a_this), (1, .int x1), (3, .int y28)]) hx hb dX8_itself_127 rfl hl (by decide) rfl (fun ls hl => ?_)
      obtain ⟨x62, ex62, k26⟩ := hk_le k26
      refine lv_iinc (v := x62) (lv' := [(3, .int x62), (2, .int x61), (0, .ref a_this), (1, .int x1)]) hx hb dX8_itself_128 hl (k := 3) rfl (by rw [ex62]; rfl) (by decide) rfl (fun ls hl => ?_)
      refine lv_goto (tgt := 13) hx hb dX8_itself_131 (by decide) ?_
      exact hck26 (x61, x62) (Option.some.inj k26).symm ls (lv_sub hl [2, 3, 1, 0] rfl)
    intro ls hl
    have hl : lv_has ls 8 [(2, .int z64)] := hl
    show W _ _ _ _ _ _ _ _ _ _ _ _ _ _ _ (F0 m 134 ls [])
    refine lv_iload_n hx hb dX8_itself_134 rfl (lv_at hl 0 rfl) ?_
    subst hQ
    exact W.iret hx hb hr (fun t ht hW => ⟨_, rfl, Option.some.inj h, ht⟩) (fun _ h9 => by cases h9) dX8_itself_135
  replace h := hk_ip c25 h
  refine lv_iconst (v := (-1 : Int32)) hx hb dX8_itself_7 (by decide) ?_
  subst hQ
  exact W.iret hx hb hr (fun t ht hW => ⟨_, rfl, Option.some.inj h, ht⟩) (fun _ h9 => by cases h9) dX8_itself_8
theorem zv_X8_both : yX8_both.cls = RX8 ∧ yX8_both.cls ≠ "java/lang/invoke/MethodHandle" ∧ yX8_both.cls ≠ "java/lang/invoke/VarHandle" ∧ (parseMethodDescriptor yX8_both.desc).map (fun d => d.parameters.length) = some 4 := by decide +kernel
def f_X8_both (c_this_figures : Nat → Int64)  (x1 : Int32) (x2 : Int32) (x3 : Int32) (x4 : Int32) : Option (Int32 × (Nat → Int64)) := hk_b1 (f_X8_isFigure x1) fun r21 => if r21 = 0 then (some ((-1 : Int32), c_this_figures)) else (hk_b1 (f_X8_isFigure x3) fun r26 => if r26 = 0 then (some ((-1 : Int32), c_this_figures)) else (hk_b1 (f_X8_isFigure x4) fun r31 => if r31 = 0 then (some ((-1 : Int32), c_this_figures)) else (hk_b1 (f_X8_in (x2.toInt64) (0 : Int64) (3 : Int64)) fun r36 => if r36 = 0 then (some ((-2 : Int32), c_this_figures)) else (hk_gd (hk_inb x3 8) (hk_let (c_this_figures x3.toNatClampNeg) fun x42 => hk_gd (hk_inb x4 8) (hk_let (c_this_figures x4.toNatClampNeg) fun x44 => hk_let (if x2 = 0 then ((x42 ||| x44)) else (if x2 = (1 : Int32) then ((x42 &&& x44)) else (if x2 = (2 : Int32) then ((x42 &&& (x44 ^^^ (-1 : Int64)))) else ((x42 ^^^ x44))))) fun v49 => hk_gd (hk_inb x1 8) (hk_gd (hk_inb x1 8) (hk_b1 (f_X8_ones ((vp_updL c_this_figures x1.toNatClampNeg v49) x1.toNatClampNeg)) fun r52 => some (r52, (vp_updL c_this_figures x1.toNatClampNeg v49))))))))))
theorem zi_X8_both_X8 : ∀ w ∈ u_ws RX8 TX8 23, w ∈ wsX8_both := by decide +kernel
set_option maxHeartbeats 8000000 in
set_option maxRecDepth 100000 in
theorem c_X8_both (l : Launch) (D : va_G) (cI cJ cZ cO : ClassId) (a_this a_this_near a_this_turned a_this_figures a_this_text a_this_sectors a_this_corners a_this_likes a_this_laid a_this_isMirrored a_this_places a_this_placeMany a_this_now a_this_firsts a_this_forms a_this_isKept a_this_keptFigures a_this_keptPieces a_this_keptLaid a_this_keptMirrored : Nat) (sz : Nat) (c_this_length : Int32) (c_this_doubles : Int32) (c_this_likeMany : Int32) (c_this_pieces : Int32) (c_this_figures : Nat → Int64) (x1 : Int32) (x2 : Int32) (x3 : Int32) (x4 : Int32) (rv : Int32) (u_this_figures : Nat → Int64) (hf : f_X8_both c_this_figures x1 x2 x3 x4 = some (rv, u_this_figures)) : Met l yX8_both wsX8_both ({ frames := 2, cells := 0, slots := 0, locals := 45 }) (va_Pc [.ref a_this, .int x1, .int x2, .int x3, .int x4] (hkM D cI cJ cZ cO [(a_this, .inr (4, [.ref a_this_near, .ref a_this_turned, .ref a_this_figures, .ref a_this_text, .int c_this_length, .ref a_this_sectors, .ref a_this_corners, .int c_this_doubles, .ref a_this_likes, .int c_this_likeMany, .int c_this_pieces, .ref a_this_laid, .ref a_this_isMirrored, .ref a_this_places, .ref a_this_placeMany, .ref a_this_now, .ref a_this_firsts, .ref a_this_forms, .ref a_this_isKept, .ref a_this_keptFigures, .ref a_this_keptPieces, .ref a_this_keptLaid, .ref a_this_keptMirrored])), (a_this_figures, .inl (cJ, 8, .inr (.inl c_this_figures)))] sz)) (va_Qi (fun r (_ : Unit) => r = rv) (fun _ t => va_P D vwCl [(a_this, .inr (4, [.ref a_this_near, .ref a_this_turned, .ref a_this_figures, .ref a_this_text, .int c_this_length, .ref a_this_sectors, .ref a_this_corners, .int c_this_doubles, .ref a_this_likes, .int c_this_likeMany, .int c_this_pieces, .ref a_this_laid, .ref a_this_isMirrored, .ref a_this_places, .ref a_this_placeMany, .ref a_this_now, .ref a_this_firsts, .ref a_this_forms, .ref a_this_isKept, .ref a_this_keptFigures, .ref a_this_keptPieces, .ref a_this_keptLaid, .ref a_this_keptMirrored])), (a_this_figures, .inl (cJ, 8, .inr (.inl u_this_figures)))] t.heap ∧ va_D (va_A [(a_this, .inr (4, [.ref a_this_near, .ref a_this_turned, .ref a_this_figures, .ref a_this_text, .int c_this_length, .ref a_this_sectors, .ref a_this_corners, .int c_this_doubles, .ref a_this_likes, .int c_this_likeMany, .int c_this_pieces, .ref a_this_laid, .ref a_this_isMirrored, .ref a_this_places, .ref a_this_placeMany, .ref a_this_now, .ref a_this_firsts, .ref a_this_forms, .ref a_this_isKept, .ref a_this_keptFigures, .ref a_this_keptPieces, .ref a_this_keptLaid, .ref a_this_keptMirrored])), (a_this_figures, .inl (cJ, 8, .inr (.inl c_this_figures)))] sz) [(a_this, .inr (4, [.ref a_this_near, .ref a_this_turned, .ref a_this_figures, .ref a_this_text, .int c_this_length, .ref a_this_sectors, .ref a_this_corners, .int c_this_doubles, .ref a_this_likes, .int c_this_likeMany, .int c_this_pieces, .ref a_this_laid, .ref a_this_isMirrored, .ref a_this_places, .ref a_this_placeMany, .ref a_this_now, .ref a_this_firsts, .ref a_this_forms, .ref a_this_isKept, .ref a_this_keptFigures, .ref a_this_keptPieces, .ref a_this_keptLaid, .ref a_this_keptMirrored])), (a_this_figures, .inl (cJ, 8, .inr (.inl u_this_figures)))]) (va_A [(a_this, .inr (4, [.ref a_this_near, .ref a_this_turned, .ref a_this_figures, .ref a_this_text, .int c_this_length, .ref a_this_sectors, .ref a_this_corners, .int c_this_doubles, .ref a_this_likes, .int c_this_likeMany, .int c_this_pieces, .ref a_this_laid, .ref a_this_isMirrored, .ref a_this_places, .ref a_this_placeMany, .ref a_this_now, .ref a_this_firsts, .ref a_this_forms, .ref a_this_isKept, .ref a_this_keptFigures, .ref a_this_keptPieces, .ref a_this_keptLaid, .ref a_this_keptMirrored])), (a_this_figures, .inl (cJ, 8, .inr (.inl c_this_figures)))] sz)) 0 0 (va_A [(a_this, .inr (4, [.ref a_this_near, .ref a_this_turned, .ref a_this_figures, .ref a_this_text, .int c_this_length, .ref a_this_sectors, .ref a_this_corners, .int c_this_doubles, .ref a_this_likes, .int c_this_likeMany, .int c_this_pieces, .ref a_this_laid, .ref a_this_isMirrored, .ref a_this_places, .ref a_this_placeMany, .ref a_this_now, .ref a_this_firsts, .ref a_this_forms, .ref a_this_isKept, .ref a_this_keptFigures, .ref a_this_keptPieces, .ref a_this_keptLaid, .ref a_this_keptMirrored])), (a_this_figures, .inl (cJ, 8, .inr (.inl c_this_figures)))] sz) := by
  refine Met.ofW (cc := cX8_both) (maxL := 9) (ret := (some .int)) (by decide) rfl ?_
  intro p e s m args below meth c s₁ B hml hv
  obtain ⟨rfl, hsz, hP, hK, hD0⟩ := hv
  have hx := B.exec
  have hb := B.bytes
  have hr := B.returns
  have hts := atoms_spec (ws := wsX8_both) B.pre
  have hown : s.vm.findClass RX8 = some m.cls := findClass_of_methodNamed B.named
  have hlocks := B.notSynchronized
  have hN := hK.2
  subst hsz
  have hD := hD0.self (sz := s.heap.size)
  generalize hAe : va_A [(a_this, .inr (4, [.ref a_this_near, .ref a_this_turned, .ref a_this_figures, .ref a_this_text, .int c_this_length, .ref a_this_sectors, .ref a_this_corners, .int c_this_doubles, .ref a_this_likes, .int c_this_likeMany, .int c_this_pieces, .ref a_this_laid, .ref a_this_isMirrored, .ref a_this_places, .ref a_this_placeMany, .ref a_this_now, .ref a_this_firsts, .ref a_this_forms, .ref a_this_isKept, .ref a_this_keptFigures, .ref a_this_keptPieces, .ref a_this_keptLaid, .ref a_this_keptMirrored])), (a_this_figures, .inl (cJ, 8, .inr (.inl c_this_figures)))] s.heap.size = A at hD ⊢
  have hA : ∀ q : Nat, s.heap.size ≤ q → A q := fun q h => by rw [← hAe]; exact Or.inr h
  have hS : va_S A s.heap s.heap [] := va_S.rf
  have hl := lv_entry ([.ref a_this, .int x1, .int x2, .int x3, .int x4]) (n := 9) (Nat.le_of_ble_eq_true rfl)
  rw [lg_entry_eq]
  generalize (lg_sl ([.ref a_this, .int x1, .int x2, .int x3, .int x4]) ++ List.replicate (9 - (lg_sl ([.ref a_this, .int x1, .int x2, .int x3, .int x4])).length) Slot.unset).toArray = ls at hl ⊢
  have hl : lv_has ls 9 [(0, .ref a_this), (1, .int x1), (2, .int x2), (3, .int x3), (4, .int x4)] := hl
  refine hk_Q (fun Q hQ => ?_)
  have h := hf
  unfold f_X8_both at h
  refine lv_iload_n hx hb dX8_both_0 rfl (lv_at hl 1 rfl) ?_
  obtain ⟨r21, hr22, h⟩ := hk_x1 h
  refine vp_callSi (W.runS (As := [.int x1]) (rest := []) ⟨hx, hb, hml, hown, hts⟩ (c_X8_isFigure l x1 _ hr22) (va_cwS 1 hts gX8_both_X8_isFigure rfl rfl rfl zs_X8_isFigure ⟨Nat.le_of_ble_eq_true rfl, Nat.le_of_ble_eq_true rfl⟩) ⟨fun _ _ _ _ q => q, fun _ _ _ => ⟨rfl, trivial⟩⟩ rfl rfl hl.1 rfl (lv_room (Nat.le_of_ble_eq_true rfl)) dX8_both_1 ⟨Nat.zero_le _, Nat.zero_le _⟩) (fun p24 e23 => ?_)
  rw [e23]
  refine lv_if_eq (tgt := 22) hx hb dX8_both_4 (by decide) (fun c25 => ?_) (fun c25 => ?_)
  · replace h := hk_ip c25 h
    refine lv_iconst (v := (-1 : Int32)) hx hb dX8_both_22 (by decide) ?_
    subst hQ
    have h := Option.some.inj h
    simp only [Prod.mk.injEq] at h
    obtain ⟨rfl, rfl⟩ := h
    exact W.iret hx hb hr (fun t ht hW => ⟨⟨_, (), rfl, rfl, by rw [ht]; exact hP, hD⟩, hS.F ht⟩) hS.2.2 dX8_both_23
  replace h := hk_in c25 h
  refine lv_iload_n hx hb dX8_both_7 rfl (lv_at hl 3 rfl) ?_
  obtain ⟨r26, hr27, h⟩ := hk_x1 h
  refine vp_callSi (W.runS (As := [.int x3]) (rest := []) ⟨hx, hb, hml, hown, hts⟩ (c_X8_isFigure l x3 _ hr27) (va_cwS 1 hts gX8_both_X8_isFigure rfl rfl rfl zs_X8_isFigure ⟨Nat.le_of_ble_eq_true rfl, Nat.le_of_ble_eq_true rfl⟩) ⟨fun _ _ _ _ q => q, fun _ _ _ => ⟨rfl, trivial⟩⟩ rfl rfl hl.1 rfl (lv_room (Nat.le_of_ble_eq_true rfl)) dX8_both_8 ⟨Nat.zero_le _, Nat.zero_le _⟩) (fun p29 e28 => ?_)
  rw [e28]
  refine lv_if_eq (tgt := 22) hx hb dX8_both_11 (by decide) (fun c30 => ?_) (fun c30 => ?_)
  · replace h := hk_ip c30 h
    refine lv_iconst (v := (-1 : Int32)) hx hb dX8_both_22 (by decide) ?_
    subst hQ
    have h := Option.some.inj h
    simp only [Prod.mk.injEq] at h
    obtain ⟨rfl, rfl⟩ := h
    exact W.iret hx hb hr (fun t ht hW => ⟨⟨_, (), rfl, rfl, by rw [ht]; exact hP, hD⟩, hS.F ht⟩) hS.2.2 dX8_both_23
  replace h := hk_in c30 h
  refine lv_iload hx hb dX8_both_14 (lv_at hl 4 rfl) ?_
  obtain ⟨r31, hr32, h⟩ := hk_x1 h
  refine vp_callSi (W.runS (As := [.int x4]) (rest := []) ⟨hx, hb, hml, hown, hts⟩ (c_X8_isFigure l x4 _ hr32) (va_cwS 1 hts gX8_both_X8_isFigure rfl rfl rfl zs_X8_isFigure ⟨Nat.le_of_ble_eq_true rfl, Nat.le_of_ble_eq_true rfl⟩) ⟨fun _ _ _ _ q => q, fun _ _ _ => ⟨rfl, trivial⟩⟩ rfl rfl hl.1 rfl (lv_room (Nat.le_of_ble_eq_true rfl)) dX8_both_16 ⟨Nat.zero_le _, Nat.zero_le _⟩) (fun p34 e33 => ?_)
  rw [e33]
  refine lv_if_ne (tgt := 24) hx hb dX8_both_19 (by decide) (fun c35 => ?_) (fun c35 => ?_)
  · replace h := hk_in c35 h
    refine lv_iload_n hx hb dX8_both_24 rfl (lv_at hl 2 rfl) ?_
    refine lv_i2l (v := (x2.toInt64)) hx hb dX8_both_25 rfl ?_
    refine lv_lconst (v := (0 : Int64)) hx hb dX8_both_26 (by decide) ?_
    refine lv_ldc2 (v := (3 : Int64)) hx hb hown (hts (.constantLong RX8 73 (3)) (List.mem_of_getElem? (i := 1) rfl)) dX8_both_27 ?_
    obtain ⟨r36, hr37, h⟩ := hk_x1 h
    refine vp_callSi (W.runS (As := [.long (x2.toInt64), .long (0 : Int64), .long (3 : Int64)]) (rest := []) ⟨hx, hb, hml, hown, hts⟩ (c_X8_in l (x2.toInt64) (0 : Int64) (3 : Int64) _ hr37) (va_cwS 3 hts gX8_both_X8_in rfl rfl rfl zs_X8_in ⟨Nat.le_of_ble_eq_true rfl, Nat.le_of_ble_eq_true rfl⟩) ⟨fun _ _ _ _ q => q, fun _ _ _ => ⟨rfl, trivial⟩⟩ rfl rfl hl.1 rfl (lv_room (Nat.le_of_ble_eq_true rfl)) dX8_both_30 ⟨Nat.zero_le _, Nat.zero_le _⟩) (fun p39 e38 => ?_)
    rw [e38]
    refine lv_if_ne (tgt := 39) hx hb dX8_both_33 (by decide) (fun c40 => ?_) (fun c40 => ?_)
    · replace h := hk_in c40 h
      refine lv_aload_n hx hb dX8_both_39 rfl (lv_at hl 0 rfl) ?_
      refine va_get (D := D) (ci := 4) (v := .ref a_this_figures) (C := RX8) (T := TX8) (N := 23) hx hb hts zi_X8_both_X8 hown hK.1 hP 0 rfl rfl 2 (by decide) (hts (.fieldLink RX8 17 "HalfAndHalfAgainModel" "figures" "[J") (List.mem_of_getElem? (i := 2) rfl)) (fun _ h9 => h9) rfl dX8_both_40 ?_
      refine lv_iload_n hx hb dX8_both_43 rfl (lv_at hl 3 rfl) ?_
      obtain ⟨hi41, h⟩ := hk_ge h
      refine va_lald hx hb hK.1 hP 1 1 rfl rfl (hk_inb_of hi41) dX8_both_44 ?_
      obtain ⟨x42, ex42, h⟩ := hk_le h
      refine hk_tl ex42 ?_
      refine lv_lstore (lv' := [(5, .long x42), (0, .ref a_this), (1, .int x1), (2, .int x2), (3, .int x3), (4, .int x4)]) hx hb dX8_both_45 hl (by decide) rfl (fun ls hl => ?_)
      refine lv_aload_n hx hb dX8_both_47 rfl (lv_at hl 1 rfl) ?_
      refine va_get (D := D) (ci := 4) (v := .ref a_this_figures) (C := RX8) (T := TX8) (N := 23) hx hb hts zi_X8_both_X8 hown hK.1 hP 0 rfl rfl 2 (by decide) (hts (.fieldLink RX8 17 "HalfAndHalfAgainModel" "figures" "[J") (List.mem_of_getElem? (i := 2) rfl)) (fun _ h9 => h9) rfl dX8_both_48 ?_
      refine lv_iload hx hb dX8_both_51 (lv_at hl 5 rfl) ?_
      obtain ⟨hi43, h⟩ := hk_ge h
      refine va_lald hx hb hK.1 hP 1 1 rfl rfl (hk_inb_of hi43) dX8_both_53 ?_
      obtain ⟨x44, ex44, h⟩ := hk_le h
      refine hk_tl ex44 ?_
      refine lv_lstore (lv' := [(7, .long x44), (5, .long x42), (0, .ref a_this), (1, .int x1), (2, .int x2), (3, .int x3), (4, .int x4)]) hx hb dX8_both_54 hl (by decide) rfl (fun ls hl => ?_)
      refine lv_aload_n hx hb dX8_both_56 rfl (lv_at hl 2 rfl) ?_
      refine va_get (D := D) (ci := 4) (v := .ref a_this_figures) (C := RX8) (T := TX8) (N := 23) hx hb hts zi_X8_both_X8 hown hK.1 hP 0 rfl rfl 2 (by decide) (hts (.fieldLink RX8 17 "HalfAndHalfAgainModel" "figures" "[J") (List.mem_of_getElem? (i := 2) rfl)) (fun _ h9 => h9) rfl dX8_both_57 ?_
      refine lv_iload_n hx hb dX8_both_60 rfl (lv_at hl 3 rfl) ?_
      refine lv_iload_n hx hb dX8_both_61 rfl (lv_at hl 4 rfl) ?_
      obtain ⟨v49, g45, h⟩ := hk_lf h
      refine hk_joinR (nL := 9) (xs := fun (t9 : Int64) => (108, [(0, .ref a_this), (1, .int x1)], [.long t9, .int x1, .ref a_this_figures])) v49 (fun hjg45 => ?_) ?_
      · refine lv_if_ne (tgt := 73) hx hb dX8_both_62 (by decide) (fun c46 => ?_) (fun c46 => ?_)
        · replace g45 := hk_in c46 g45
          refine lv_iload_n hx hb dX8_both_73 rfl (lv_at hl 4 rfl) ?_
          refine lv_iconst (v := (1 : Int32)) hx hb dX8_both_74 (by decide) ?_
          refine lv_icmp_ne (tgt := 86) hx hb dX8_both_75 (by decide) (fun c47 => ?_) (fun c47 => ?_)
          · replace g45 := hk_in c47 g45
            refine lv_iload_n hx hb dX8_both_86 rfl (lv_at hl 4 rfl) ?_
            refine lv_iconst (v := (2 : Int32)) hx hb dX8_both_87 (by decide) ?_
            refine lv_icmp_ne (tgt := 103) hx hb dX8_both_88 (by decide) (fun c48 => ?_) (fun c48 => ?_)
            · replace g45 := hk_in c48 g45
              refine lv_lload hx hb dX8_both_103 (lv_at hl 1 rfl) ?_
              refine lv_lload hx hb dX8_both_105 (lv_at hl 0 rfl) ?_
              refine lv_lxor hx hb dX8_both_107 ?_
              subst g45
              exact hjg45 ls (lv_sub hl [2, 3] rfl)
            replace g45 := hk_ip c48 g45
            refine lv_lload hx hb dX8_both_91 (lv_at hl 1 rfl) ?_
            refine lv_lload hx hb dX8_both_93 (lv_at hl 0 rfl) ?_
            refine lv_ldc2 (v := (-1 : Int64)) hx hb hown (hts (.constantLong RX8 118 (-1)) (List.mem_of_getElem? (i := 3) rfl)) dX8_both_95 ?_
            refine lv_lxor hx hb dX8_both_98 ?_
            refine lv_land hx hb dX8_both_99 ?_
            refine lv_goto (tgt := 108) hx hb dX8_both_100 (by decide) ?_
            subst g45
            exact hjg45 ls (lv_sub hl [2, 3] rfl)
          replace g45 := hk_ip c47 g45
          refine lv_lload hx hb dX8_both_78 (lv_at hl 1 rfl) ?_
          refine lv_lload hx hb dX8_both_80 (lv_at hl 0 rfl) ?_
          refine lv_land hx hb dX8_both_82 ?_
          refine lv_goto (tgt := 108) hx hb dX8_both_83 (by decide) ?_
          subst g45
          exact hjg45 ls (lv_sub hl [2, 3] rfl)
        replace g45 := hk_ip c46 g45
        refine lv_lload hx hb dX8_both_65 (lv_at hl 1 rfl) ?_
        refine lv_lload hx hb dX8_both_67 (lv_at hl 0 rfl) ?_
        refine lv_lor hx hb dX8_both_69 ?_
        refine lv_goto (tgt := 108) hx hb dX8_both_70 (by decide) ?_
        subst g45
        exact hjg45 ls (lv_sub hl [2, 3] rfl)
      intro ls hl
      have hl : lv_has ls 9 [(0, .ref a_this), (1, .int x1)] := hl
      show W _ _ _ _ _ _ _ _ _ _ _ _ _ _ _ (F0 m 108 ls [.long v49, .int x1, .ref a_this_figures])
      obtain ⟨hi50, h⟩ := hk_ge h
      refine va_last hx hb hK.1 hP hD hS 1 1 rfl rfl (hk_inb_of hi50) dX8_both_108 (fun H locs hP hD hS => ?_)
      have hP : va_P D vwCl [(a_this, .inr (4, [.ref a_this_near, .ref a_this_turned, .ref a_this_figures, .ref a_this_text, .int c_this_length, .ref a_this_sectors, .ref a_this_corners, .int c_this_doubles, .ref a_this_likes, .int c_this_likeMany, .int c_this_pieces, .ref a_this_laid, .ref a_this_isMirrored, .ref a_this_places, .ref a_this_placeMany, .ref a_this_now, .ref a_this_firsts, .ref a_this_forms, .ref a_this_isKept, .ref a_this_keptFigures, .ref a_this_keptPieces, .ref a_this_keptLaid, .ref a_this_keptMirrored])), (a_this_figures, .inl (cJ, 8, .inr (.inl (vp_updL c_this_figures x1.toNatClampNeg v49))))] H := hP
      have hD : va_D A [(a_this, .inr (4, [.ref a_this_near, .ref a_this_turned, .ref a_this_figures, .ref a_this_text, .int c_this_length, .ref a_this_sectors, .ref a_this_corners, .int c_this_doubles, .ref a_this_likes, .int c_this_likeMany, .int c_this_pieces, .ref a_this_laid, .ref a_this_isMirrored, .ref a_this_places, .ref a_this_placeMany, .ref a_this_now, .ref a_this_firsts, .ref a_this_forms, .ref a_this_isKept, .ref a_this_keptFigures, .ref a_this_keptPieces, .ref a_this_keptLaid, .ref a_this_keptMirrored])), (a_this_figures, .inl (cJ, 8, .inr (.inl (vp_updL c_this_figures x1.toNatClampNeg v49))))] := hD
      refine lv_aload_n hx hb dX8_both_109 rfl (lv_at hl 0 rfl) ?_
      refine va_get (D := D) (ci := 4) (v := .ref a_this_figures) (C := RX8) (T := TX8) (N := 23) hx hb hts zi_X8_both_X8 hown hK.1 hP 0 rfl rfl 2 (by decide) (hts (.fieldLink RX8 17 "HalfAndHalfAgainModel" "figures" "[J") (List.mem_of_getElem? (i := 2) rfl)) (fun _ h9 => h9) rfl dX8_both_110 ?_
      refine lv_iload_n hx hb dX8_both_113 rfl (lv_at hl 1 rfl) ?_
      obtain ⟨hi51, h⟩ := hk_ge h
      refine va_lald hx hb hK.1 hP 1 1 rfl rfl (hk_inb_of hi51) dX8_both_114 ?_
      obtain ⟨r52, hr53, h⟩ := hk_x1 h
      refine vp_callSi (W.runS (As := [.long ((vp_updL c_this_figures x1.toNatClampNeg v49) x1.toNatClampNeg)]) (rest := []) ⟨hx, hb, hml, hown, hts⟩ (c_X8_ones l ((vp_updL c_this_figures x1.toNatClampNeg v49) x1.toNatClampNeg) _ hr53) (va_cwS 1 hts gX8_both_X8_ones rfl rfl rfl zs_X8_ones ⟨Nat.le_of_ble_eq_true rfl, Nat.le_of_ble_eq_true rfl⟩) ⟨fun _ _ _ _ q => q, fun _ _ _ => ⟨rfl, trivial⟩⟩ rfl rfl hl.1 rfl (lv_room (Nat.le_of_ble_eq_true rfl)) dX8_both_115 ⟨Nat.zero_le _, Nat.zero_le _⟩) (fun p55 e54 => ?_)
      rw [e54]
      subst hQ
      have h := Option.some.inj h
      simp only [Prod.mk.injEq] at h
      obtain ⟨rfl, rfl⟩ := h
      exact W.iret hx hb hr (fun t ht hW => ⟨⟨_, (), rfl, rfl, by rw [ht]; exact hP, hD⟩, hS.F ht⟩) hS.2.2 dX8_both_118
    replace h := hk_ip c40 h
    refine lv_bipush (v := (-2 : Int32)) hx hb dX8_both_36 (by decide) ?_
    subst hQ
    have h := Option.some.inj h
    simp only [Prod.mk.injEq] at h
    obtain ⟨rfl, rfl⟩ := h
    exact W.iret hx hb hr (fun t ht hW => ⟨⟨_, (), rfl, rfl, by rw [ht]; exact hP, hD⟩, hS.F ht⟩) hS.2.2 dX8_both_38
  replace h := hk_ip c35 h
  refine lv_iconst (v := (-1 : Int32)) hx hb dX8_both_22 (by decide) ?_
  subst hQ
  have h := Option.some.inj h
  simp only [Prod.mk.injEq] at h
  obtain ⟨rfl, rfl⟩ := h
  exact W.iret hx hb hr (fun t ht hW => ⟨⟨_, (), rfl, rfl, by rw [ht]; exact hP, hD⟩, hS.F ht⟩) hS.2.2 dX8_both_23
theorem zs_X8_isLine : yX8_isLine.cls ≠ "java/lang/invoke/MethodHandle" ∧ yX8_isLine.cls ≠ "java/lang/invoke/VarHandle" ∧ (parseMethodDescriptor yX8_isLine.desc).map (fun d => d.parameters.length) = some 2 := by decide +kernel
def f_X8_isLine   (x0 : Int32) (x1 : Int32) : Option Int32 := hk_b1 (f_X8_in (x0.toInt64) (0 : Int64) (3 : Int64)) fun r21 => if r21 = 0 then (some (0 : Int32)) else (if (2 : Int32) ≤ x0 then (if x0 = (2 : Int32) then (hk_b1 (f_X8_in (x1.toInt64) (-4 : Int64) (4 : Int64)) fun r33 => if r33 = 0 then (some (0 : Int32)) else (some (1 : Int32))) else (hk_b1 (f_X8_in (x1.toInt64) (0 : Int64) (8 : Int64)) fun r28 => if r28 = 0 then (some (0 : Int32)) else (some (1 : Int32)))) else (hk_b1 (f_X8_in (x1.toInt64) (0 : Int64) (4 : Int64)) fun r38 => if r38 = 0 then (some (0 : Int32)) else (some (1 : Int32))))
set_option maxHeartbeats 8000000 in
set_option maxRecDepth 100000 in
theorem c_X8_isLine (l : Launch) (x0 : Int32) (x1 : Int32) (rv : Int32) (hf : f_X8_isLine x0 x1 = some rv) : Met l yX8_isLine wsX8_isLine ({ frames := 1, cells := 0, slots := 0, locals := 25 }) (va_Pc [.int x0, .int x1] (fun _ => True)) (vp_Si (fun r => r = rv)) 0 0 (fun _ => False) := by
  refine Met.ofW (cc := cX8_isLine) (maxL := 2) (ret := (some .boolean)) (by decide) rfl ?_
  intro p e s m args below meth c s₁ B hml hv
  obtain ⟨rfl, -⟩ := hv
  have hx := B.exec
  have hb := B.bytes
  have hr := B.returns
  have hts := atoms_spec (ws := wsX8_isLine) B.pre
  have hown : s.vm.findClass RX8 = some m.cls := findClass_of_methodNamed B.named
  have hlocks := B.notSynchronized
  have hl := lv_entry ([.int x0, .int x1]) (n := 2) (Nat.le_of_ble_eq_true rfl)
  rw [lg_entry_eq]
  generalize (lg_sl ([.int x0, .int x1]) ++ List.replicate (2 - (lg_sl ([.int x0, .int x1])).length) Slot.unset).toArray = ls at hl ⊢
  have hl : lv_has ls 2 [(0, .int x0), (1, .int x1)] := hl
  refine hk_Q (fun Q hQ => ?_)
  have h := hf
  unfold f_X8_isLine at h
  refine lv_iload_n hx hb dX8_isLine_0 rfl (lv_at hl 0 rfl) ?_
  refine lv_i2l (v := (x0.toInt64)) hx hb dX8_isLine_1 rfl ?_
  refine lv_lconst (v := (0 : Int64)) hx hb dX8_isLine_2 (by decide) ?_
  refine lv_ldc2 (v := (3 : Int64)) hx hb hown (hts (.constantLong RX8 73 (3)) (List.mem_of_getElem? (i := 1) rfl)) dX8_isLine_3 ?_
  obtain ⟨r21, hr22, h⟩ := hk_x1 h
  refine vp_callSi (W.runS (As := [.long (x0.toInt64), .long (0 : Int64), .long (3 : Int64)]) (rest := []) ⟨hx, hb, hml, hown, hts⟩ (c_X8_in l (x0.toInt64) (0 : Int64) (3 : Int64) _ hr22) (va_cwS 3 hts gX8_isLine_X8_in rfl rfl rfl zs_X8_in ⟨Nat.le_of_ble_eq_true rfl, Nat.le_of_ble_eq_true rfl⟩) ⟨fun _ _ _ _ q => q, fun _ _ _ => ⟨rfl, trivial⟩⟩ rfl rfl hl.1 rfl (lv_room (Nat.le_of_ble_eq_true rfl)) dX8_isLine_6 ⟨Nat.zero_le _, Nat.zero_le _⟩) (fun p24 e23 => ?_)
  rw [e23]
  refine lv_if_eq (tgt := 70) hx hb dX8_isLine_9 (by decide) (fun c25 => ?_) (fun c25 => ?_)
  · replace h := hk_ip c25 h
    refine lv_iconst (v := (0 : Int32)) hx hb dX8_isLine_70 (by decide) ?_
    subst hQ
    exact W.zret hx hb hr rfl (fun t ht hW => ⟨_, rfl, Option.some.inj h, ht⟩) (fun _ h9 => by cases h9) dX8_isLine_71
  replace h := hk_in c25 h
  refine lv_iload_n hx hb dX8_isLine_12 rfl (lv_at hl 0 rfl) ?_
  refine lv_iconst (v := (2 : Int32)) hx hb dX8_isLine_13 (by decide) ?_
  refine lv_icmp_ge (tgt := 32) hx hb dX8_isLine_14 (by decide) (fun c26 => ?_) (fun c26 => ?_)
  · replace h := hk_ip c26 h
    refine lv_iload_n hx hb dX8_isLine_32 rfl (lv_at hl 0 rfl) ?_
    refine lv_iconst (v := (2 : Int32)) hx hb dX8_isLine_33 (by decide) ?_
    refine lv_icmp_ne (tgt := 54) hx hb dX8_isLine_34 (by decide) (fun c27 => ?_) (fun c27 => ?_)
    · replace h := hk_in c27 h
      refine lv_iload_n hx hb dX8_isLine_54 rfl (lv_at hl 1 rfl) ?_
      refine lv_i2l (v := (x1.toInt64)) hx hb dX8_isLine_55 rfl ?_
      refine lv_lconst (v := (0 : Int64)) hx hb dX8_isLine_56 (by decide) ?_
      refine lv_ldc2 (v := (8 : Int64)) hx hb hown (hts (.constantLong RX8 83 (8)) (List.mem_of_getElem? (i := 4) rfl)) dX8_isLine_57 ?_
      obtain ⟨r28, hr29, h⟩ := hk_x1 h
      refine vp_callSi (W.runS (As := [.long (x1.toInt64), .long (0 : Int64), .long (8 : Int64)]) (rest := []) ⟨hx, hb, hml, hown, hts⟩ (c_X8_in l (x1.toInt64) (0 : Int64) (8 : Int64) _ hr29) (va_cwS 3 hts gX8_isLine_X8_in rfl rfl rfl zs_X8_in ⟨Nat.le_of_ble_eq_true rfl, Nat.le_of_ble_eq_true rfl⟩) ⟨fun _ _ _ _ q => q, fun _ _ _ => ⟨rfl, trivial⟩⟩ rfl rfl hl.1 rfl (lv_room (Nat.le_of_ble_eq_true rfl)) dX8_isLine_60 ⟨Nat.zero_le _, Nat.zero_le _⟩) (fun p31 e30 => ?_)
      rw [e30]
      refine lv_if_eq (tgt := 70) hx hb dX8_isLine_63 (by decide) (fun c32 => ?_) (fun c32 => ?_)
      · replace h := hk_ip c32 h
        refine lv_iconst (v := (0 : Int32)) hx hb dX8_isLine_70 (by decide) ?_
        subst hQ
        exact W.zret hx hb hr rfl (fun t ht hW => ⟨_, rfl, Option.some.inj h, ht⟩) (fun _ h9 => by cases h9) dX8_isLine_71
      replace h := hk_in c32 h
      refine lv_iconst (v := (1 : Int32)) hx hb dX8_isLine_66 (by decide) ?_
      refine lv_goto (tgt := 71) hx hb dX8_isLine_67 (by decide) ?_
      subst hQ
      exact W.zret hx hb hr rfl (fun t ht hW => ⟨_, rfl, Option.some.inj h, ht⟩) (fun _ h9 => by cases h9) dX8_isLine_71
    replace h := hk_ip c27 h
    refine lv_iload_n hx hb dX8_isLine_37 rfl (lv_at hl 1 rfl) ?_
    refine lv_i2l (v := (x1.toInt64)) hx hb dX8_isLine_38 rfl ?_
    refine lv_ldc2 (v := (-4 : Int64)) hx hb hown (hts (.constantLong RX8 187 (-4)) (List.mem_of_getElem? (i := 3) rfl)) dX8_isLine_39 ?_
    refine lv_ldc2 (v := (4 : Int64)) hx hb hown (hts (.constantLong RX8 185 (4)) (List.mem_of_getElem? (i := 2) rfl)) dX8_isLine_42 ?_
    obtain ⟨r33, hr34, h⟩ := hk_x1 h
    refine vp_callSi (W.runS (As := [.long (x1.toInt64), .long (-4 : Int64), .long (4 : Int64)]) (rest := []) ⟨hx, hb, hml, hown, hts⟩ (c_X8_in l (x1.toInt64) (-4 : Int64) (4 : Int64) _ hr34) (va_cwS 3 hts gX8_isLine_X8_in rfl rfl rfl zs_X8_in ⟨Nat.le_of_ble_eq_true rfl, Nat.le_of_ble_eq_true rfl⟩) ⟨fun _ _ _ _ q => q, fun _ _ _ => ⟨rfl, trivial⟩⟩ rfl rfl hl.1 rfl (lv_room (Nat.le_of_ble_eq_true rfl)) dX8_isLine_45 ⟨Nat.zero_le _, Nat.zero_le _⟩) (fun p36 e35 => ?_)
    rw [e35]
    refine lv_if_eq (tgt := 70) hx hb dX8_isLine_48 (by decide) (fun c37 => ?_) (fun c37 => ?_)
    · replace h := hk_ip c37 h
      refine lv_iconst (v := (0 : Int32)) hx hb dX8_isLine_70 (by decide) ?_
      subst hQ
      exact W.zret hx hb hr rfl (fun t ht hW => ⟨_, rfl, Option.some.inj h, ht⟩) (fun _ h9 => by cases h9) dX8_isLine_71
    replace h := hk_in c37 h
    refine lv_goto (tgt := 66) hx hb dX8_isLine_51 (by decide) ?_
    refine lv_iconst (v := (1 : Int32)) hx hb dX8_isLine_66 (by decide) ?_
    refine lv_goto (tgt := 71) hx hb dX8_isLine_67 (by decide) ?_
    subst hQ
    exact W.zret hx hb hr rfl (fun t ht hW => ⟨_, rfl, Option.some.inj h, ht⟩) (fun _ h9 => by cases h9) dX8_isLine_71
  replace h := hk_in c26 h
  refine lv_iload_n hx hb dX8_isLine_17 rfl (lv_at hl 1 rfl) ?_
  refine lv_i2l (v := (x1.toInt64)) hx hb dX8_isLine_18 rfl ?_
  refine lv_lconst (v := (0 : Int64)) hx hb dX8_isLine_19 (by decide) ?_
  refine lv_ldc2 (v := (4 : Int64)) hx hb hown (hts (.constantLong RX8 185 (4)) (List.mem_of_getElem? (i := 2) rfl)) dX8_isLine_20 ?_
  obtain ⟨r38, hr39, h⟩ := hk_x1 h
  refine vp_callSi (W.runS (As := [.long (x1.toInt64), .long (0 : Int64), .long (4 : Int64)]) (rest := []) ⟨hx, hb, hml, hown, hts⟩ (c_X8_in l (x1.toInt64) (0 : Int64) (4 : Int64) _ hr39) (va_cwS 3 hts gX8_isLine_X8_in rfl rfl rfl zs_X8_in ⟨Nat.le_of_ble_eq_true rfl, Nat.le_of_ble_eq_true rfl⟩) ⟨fun _ _ _ _ q => q, fun _ _ _ => ⟨rfl, trivial⟩⟩ rfl rfl hl.1 rfl (lv_room (Nat.le_of_ble_eq_true rfl)) dX8_isLine_23 ⟨Nat.zero_le _, Nat.zero_le _⟩) (fun p41 e40 => ?_)
  rw [e40]
  refine lv_if_eq (tgt := 70) hx hb dX8_isLine_26 (by decide) (fun c42 => ?_) (fun c42 => ?_)
  · replace h := hk_ip c42 h
    refine lv_iconst (v := (0 : Int32)) hx hb dX8_isLine_70 (by decide) ?_
    subst hQ
    exact W.zret hx hb hr rfl (fun t ht hW => ⟨_, rfl, Option.some.inj h, ht⟩) (fun _ h9 => by cases h9) dX8_isLine_71
  replace h := hk_in c42 h
  refine lv_goto (tgt := 66) hx hb dX8_isLine_29 (by decide) ?_
  refine lv_iconst (v := (1 : Int32)) hx hb dX8_isLine_66 (by decide) ?_
  refine lv_goto (tgt := 71) hx hb dX8_isLine_67 (by decide) ?_
  subst hQ
  exact W.zret hx hb hr rfl (fun t ht hW => ⟨_, rfl, Option.some.inj h, ht⟩) (fun _ h9 => by cases h9) dX8_isLine_71
theorem zs_X8_aheadOf : yX8_aheadOf.cls ≠ "java/lang/invoke/MethodHandle" ∧ yX8_aheadOf.cls ≠ "java/lang/invoke/VarHandle" ∧ (parseMethodDescriptor yX8_aheadOf.desc).map (fun d => d.parameters.length) = some 2 := by decide +kernel
def st_X8_aheadOf_5c (x0 : Int32) (x1 : Int32) (y22 : Int64) (y23 : Int32) : Option ((Int64 × Int32) ⊕ Int64) := if (64 : Int32) ≤ y23 then (some (.inr y22)) else (hk_let (hk_rem y23 (4 : Int32)) fun x25 => hk_let (if x25 = 0 then ((1 : Int32)) else (if x25 = (2 : Int32) then ((5 : Int32)) else ((3 : Int32)))) fun v29 => hk_let (((6 : Int32) * (y23 / (16 : Int32))) + v29) fun x30 => hk_let (if x25 = (3 : Int32) then ((1 : Int32)) else (if x25 = (1 : Int32) then ((5 : Int32)) else ((3 : Int32)))) fun v34 => hk_let (((6 : Int32) * (hk_rem (y23 / (4 : Int32)) (4 : Int32))) + v34) fun x35 => hk_let (if x0 = 0 then (x30) else (if x0 = (1 : Int32) then (x35) else (if x0 = (2 : Int32) then ((x35 - x30)) else ((x35 + x30))))) fun v40 => hk_let (if ((6 : Int32) * x1) ≤ v40 then ((0 : Int64)) else ((hk_shl (1 : Int64) y23))) fun v43 => hk_let (y22 ||| v43) fun x44 => hk_let (y23 + (1 : Int32)) fun x45 => some (.inl (x44, x45)))
def st_X8_aheadOf_5 (x0 : Int32) (x1 : Int32) (t9 : (Int64 × Int32)) : Option ((Int64 × Int32) ⊕ Int64) := st_X8_aheadOf_5c x0 x1 t9.1 t9.2
def f_X8_aheadOf   (x0 : Int32) (x1 : Int32) : Option Int64 := hk_b1 (hk_wl (st_X8_aheadOf_5 x0 x1) hkF ((0 : Int64), (0 : Int32))) fun z47 => some z47
set_option maxHeartbeats 8000000 in
set_option maxRecDepth 100000 in
theorem c_X8_aheadOf (l : Launch) (x0 : Int32) (x1 : Int32) (rv : Int64) (hf : f_X8_aheadOf x0 x1 = some rv) : Met l yX8_aheadOf wsX8_aheadOf ({ frames := 0, cells := 0, slots := 0, locals := 0 }) (va_Pc [.int x0, .int x1] (fun _ => True)) (vp_Sl (fun r => r = rv)) 0 0 (fun _ => False) := by
  refine Met.ofW (cc := cX8_aheadOf) (maxL := 9) (ret := (some .long)) (by decide) rfl ?_
  intro p e s m args below meth c s₁ B hml hv
  obtain ⟨rfl, -⟩ := hv
  have hx := B.exec
  have hb := B.bytes
  have hr := B.returns
  have hts := atoms_spec (ws := wsX8_aheadOf) B.pre
  have hown : s.vm.findClass RX8 = some m.cls := findClass_of_methodNamed B.named
  have hlocks := B.notSynchronized
  have hl := lv_entry ([.int x0, .int x1]) (n := 9) (Nat.le_of_ble_eq_true rfl)
  rw [lg_entry_eq]
  generalize (lg_sl ([.int x0, .int x1]) ++ List.replicate (9 - (lg_sl ([.int x0, .int x1])).length) Slot.unset).toArray = ls at hl ⊢
  have hl : lv_has ls 9 [(0, .int x0), (1, .int x1)] := hl
  refine hk_Q (fun Q hQ => ?_)
  have h := hf
  unfold f_X8_aheadOf at h
  refine lv_lconst (v := (0 : Int64)) hx hb dX8_aheadOf_0 (by decide) ?_
  refine lv_lstore_n (lv' := [(2, .long (0 : Int64)), (0, .int x0), (1, .int x1)]) hx hb dX8_aheadOf_1 rfl hl (by decide) rfl (fun ls hl => ?_)
  refine lv_iconst (v := (0 : Int32)) hx hb dX8_aheadOf_2 (by decide) ?_
  refine lv_istore (lv' := [(4, .int (0 : Int32)), (2, .long (0 : Int64)), (0, .int x0), (1, .int x1)]) hx hb dX8_aheadOf_3 hl (by decide) rfl (fun ls hl => ?_)
  obtain ⟨z47, hr46, h⟩ := hk_x1 h
  refine hk_loopR (f := st_X8_aheadOf_5 x0 x1) (hd := 5) (nL := 9) (lv := fun t9 => [(0, .int x0), (1, .int x1), (2, .long t9.1), (4, .int t9.2)]) (xs := fun t9 => (147, [(2, .long t9)], [])) ?_ hr46 ?_ (lv_sub hl [2, 3, 1, 0] rfl)
  · intro t48 q49 k21 hck21 hqk21 ls hl
    obtain ⟨y22, y23⟩ := t48
    have k21 : st_X8_aheadOf_5c x0 x1 y22 y23 = some q49 := k21
    unfold st_X8_aheadOf_5c at k21
    have hl : lv_has ls 9 [(0, .int x0), (1, .int x1), (2, .long y22), (4, .int y23)] := hl
    refine lv_iload hx hb dX8_aheadOf_5 (lv_at hl 3 rfl) ?_
    refine lv_bipush (v := (64 : Int32)) hx hb dX8_aheadOf_7 (by decide) ?_
    refine lv_icmp_ge (tgt := 147) hx hb dX8_aheadOf_9 (by decide) (fun c24 => ?_) (fun c24 => ?_)
    · replace k21 := hk_ip c24 k21
      exact hqk21 y22 (Option.some.inj k21).symm ls (lv_sub hl [2] rfl)
    replace k21 := hk_in c24 k21
    refine lv_iload hx hb dX8_aheadOf_12 (lv_at hl 3 rfl) ?_
    refine lv_iconst (v := (4 : Int32)) hx hb dX8_aheadOf_14 (by decide) ?_
    refine lv_irem hx hb dX8_aheadOf_15 (by decide) ?_
    refine hk_ti (y := (hk_rem y23 (4 : Int32))) rfl ?_
    obtain ⟨x25, ex25, k21⟩ := hk_le k21
    refine hk_ti ex25 ?_
    refine lv_istore (lv' := [(5, .int x25), (0, .int x0), (1, .int x1), (2, .long y22), (4, .int y23)]) hx hb dX8_aheadOf_16 hl (by decide) rfl (fun ls hl => ?_)
    refine lv_bipush (v := (6 : Int32)) hx hb dX8_aheadOf_18 (by decide) ?_
    refine lv_iload hx hb dX8_aheadOf_20 (lv_at hl 4 rfl) ?_
    refine lv_bipush (v := (16 : Int32)) hx hb dX8_aheadOf_22 (by decide) ?_
    refine lv_idiv hx hb dX8_aheadOf_24 (by decide) ?_
    refine lv_imul hx hb dX8_aheadOf_25 ?_
    refine lv_iload hx hb dX8_aheadOf_26 (lv_at hl 0 rfl) ?_
    obtain ⟨v29, g26, k21⟩ := hk_lf k21
    refine hk_joinR (nL := 9) (xs := fun (t9 : Int32) => (46, [(0, .int x0), (1, .int x1), (2, .long y22), (4, .int y23), (5, .int x25)], [.int t9, .int ((6 : Int32) * (y23 / (16 : Int32)))])) v29 (fun hjg26 => ?_) ?_
    · refine lv_if_ne (tgt := 35) hx hb dX8_aheadOf_28 (by decide) (fun c27 => ?_) (fun c27 => ?_)
      · replace g26 := hk_in c27 g26
        refine lv_iload hx hb dX8_aheadOf_35 (lv_at hl 0 rfl) ?_
        refine lv_iconst (v := (2 : Int32)) hx hb dX8_aheadOf_37 (by decide) ?_
        refine lv_icmp_ne (tgt := 45) hx hb dX8_aheadOf_38 (by decide) (fun c28 => ?_) (fun c28 => ?_)
        · replace g26 := hk_in c28 g26
          refine lv_iconst (v := (3 : Int32)) hx hb dX8_aheadOf_45 (by decide) ?_
          subst g26
          exact hjg26 ls (lv_sub hl [1, 2, 3, 4, 0] rfl)
        replace g26 := hk_ip c28 g26
        refine lv_iconst (v := (5 : Int32)) hx hb dX8_aheadOf_41 (by decide) ?_
        refine lv_goto (tgt := 46) hx hb dX8_aheadOf_42 (by decide) ?_
        subst g26
        exact hjg26 ls (lv_sub hl [1, 2, 3, 4, 0] rfl)
      replace g26 := hk_ip c27 g26
      refine lv_iconst (v := (1 : Int32)) hx hb dX8_aheadOf_31 (by decide) ?_
      refine lv_goto (tgt := 46) hx hb dX8_aheadOf_32 (by decide) ?_
      subst g26
      exact hjg26 ls (lv_sub hl [1, 2, 3, 4, 0] rfl)
    intro ls hl
    have hl : lv_has ls 9 [(0, .int x0), (1, .int x1), (2, .long y22), (4, .int y23), (5, .int x25)] := hl
    show W _ _ _ _ _ _ _ _ _ _ _ _ _ _ _ (F0 m 46 ls [.int v29, .int ((6 : Int32) * (y23 / (16 : Int32)))])
    refine lv_iadd hx hb dX8_aheadOf_46 ?_
    obtain ⟨x30, ex30, k21⟩ := hk_le k21
    refine hk_ti ex30 ?_
    refine lv_istore (lv' := [(6, .int x30), (0, .int x0), (1, .int x1), (2, .long y22), (4, .int y23), (5, .int x25)]) hx hb dX8_aheadOf_47 hl (by decide) rfl (fun ls hl => ?_)
    refine lv_bipush (v := (6 : Int32)) hx hb dX8_aheadOf_49 (by decide) ?_
    refine lv_iload hx hb dX8_aheadOf_51 (lv_at hl 4 rfl) ?_
    refine lv_iconst (v := (4 : Int32)) hx hb dX8_aheadOf_53 (by decide) ?_
    refine lv_idiv hx hb dX8_aheadOf_54 (by decide) ?_
    refine lv_iconst (v := (4 : Int32)) hx hb dX8_aheadOf_55 (by decide) ?_
    refine lv_irem hx hb dX8_aheadOf_56 (by decide) ?_
    refine hk_ti (y := (hk_rem (y23 / (4 : Int32)) (4 : Int32))) rfl ?_
    refine lv_imul hx hb dX8_aheadOf_57 ?_
    refine lv_iload hx hb dX8_aheadOf_58 (lv_at hl 5 rfl) ?_
    refine lv_iconst (v := (3 : Int32)) hx hb dX8_aheadOf_60 (by decide) ?_
    obtain ⟨v34, g31, k21⟩ := hk_lf k21
    refine hk_joinR (nL := 9) (xs := fun (t9 : Int32) => (79, [(0, .int x0), (1, .int x1), (2, .long y22), (4, .int y23), (6, .int x30)], [.int t9, .int ((6 : Int32) * (hk_rem (y23 / (4 : Int32)) (4 : Int32)))])) v34 (fun hjg31 => ?_) ?_
    · refine lv_icmp_ne (tgt := 68) hx hb dX8_aheadOf_61 (by decide) (fun c32 => ?_) (fun c32 => ?_)
      · replace g31 := hk_in c32 g31
        refine lv_iload hx hb dX8_aheadOf_68 (lv_at hl 5 rfl) ?_
        refine lv_iconst (v := (1 : Int32)) hx hb dX8_aheadOf_70 (by decide) ?_
        refine lv_icmp_ne (tgt := 78) hx hb dX8_aheadOf_71 (by decide) (fun c33 => ?_) (fun c33 => ?_)
        · replace g31 := hk_in c33 g31
          refine lv_iconst (v := (3 : Int32)) hx hb dX8_aheadOf_78 (by decide) ?_
          subst g31
          exact hjg31 ls (lv_sub hl [1, 2, 3, 4, 0] rfl)
        replace g31 := hk_ip c33 g31
        refine lv_iconst (v := (5 : Int32)) hx hb dX8_aheadOf_74 (by decide) ?_
        refine lv_goto (tgt := 79) hx hb dX8_aheadOf_75 (by decide) ?_
        subst g31
        exact hjg31 ls (lv_sub hl [1, 2, 3, 4, 0] rfl)
      replace g31 := hk_ip c32 g31
      refine lv_iconst (v := (1 : Int32)) hx hb dX8_aheadOf_64 (by decide) ?_
      refine lv_goto (tgt := 79) hx hb dX8_aheadOf_65 (by decide) ?_
      subst g31
      exact hjg31 ls (lv_sub hl [1, 2, 3, 4, 0] rfl)
    intro ls hl
    have hl : lv_has ls 9 [(0, .int x0), (1, .int x1), (2, .long y22), (4, .int y23), (6, .int x30)] := hl
    show W _ _ _ _ _ _ _ _ _ _ _ _ _ _ _ (F0 m 79 ls [.int v34, .int ((6 : Int32) * (hk_rem (y23 / (4 : Int32)) (4 : Int32)))])
    refine lv_iadd hx hb dX8_aheadOf_79 ?_
    obtain ⟨x35, ex35, k21⟩ := hk_le k21
    refine hk_ti ex35 ?_
    refine lv_istore (lv' := [(7, .int x35), (0, .int x0), (1, .int x1), (2, .long y22), (4, .int y23), (6, .int x30)]) hx hb dX8_aheadOf_80 hl (by decide) rfl (fun ls hl => ?_)
    refine lv_iload_n hx hb dX8_aheadOf_82 rfl (lv_at hl 1 rfl) ?_
    obtain ⟨v40, g36, k21⟩ := hk_lf k21
    refine hk_joinR (nL := 9) (xs := fun (t9 : Int32) => (119, [(0, .int x0), (1, .int x1), (2, .long y22), (4, .int y23)], [.int t9])) v40 (fun hjg36 => ?_) ?_
    · refine lv_if_ne (tgt := 91) hx hb dX8_aheadOf_83 (by decide) (fun c37 => ?_) (fun c37 => ?_)
      · replace g36 := hk_in c37 g36
        refine lv_iload_n hx hb dX8_aheadOf_91 rfl (lv_at hl 1 rfl) ?_
        refine lv_iconst (v := (1 : Int32)) hx hb dX8_aheadOf_92 (by decide) ?_
        refine lv_icmp_ne (tgt := 101) hx hb dX8_aheadOf_93 (by decide) (fun c38 => ?_) (fun c38 => ?_)
        · replace g36 := hk_in c38 g36
          refine lv_iload_n hx hb dX8_aheadOf_101 rfl (lv_at hl 1 rfl) ?_
          refine lv_iconst (v := (2 : Int32)) hx hb dX8_aheadOf_102 (by decide) ?_
          refine lv_icmp_ne (tgt := 114) hx hb dX8_aheadOf_103 (by decide) (fun c39 => ?_) (fun c39 => ?_)
          · replace g36 := hk_in c39 g36
            refine lv_iload hx hb dX8_aheadOf_114 (lv_at hl 0 rfl) ?_
            refine lv_iload hx hb dX8_aheadOf_116 (lv_at hl 5 rfl) ?_
            refine lv_iadd hx hb dX8_aheadOf_118 ?_
            subst g36
            exact hjg36 ls (lv_sub hl [1, 2, 3, 4] rfl)
          replace g36 := hk_ip c39 g36
          refine lv_iload hx hb dX8_aheadOf_106 (lv_at hl 0 rfl) ?_
          refine lv_iload hx hb dX8_aheadOf_108 (lv_at hl 5 rfl) ?_
          refine lv_isub hx hb dX8_aheadOf_110 ?_
          refine lv_goto (tgt := 119) hx hb dX8_aheadOf_111 (by decide) ?_
          subst g36
          exact hjg36 ls (lv_sub hl [1, 2, 3, 4] rfl)
        replace g36 := hk_ip c38 g36
        refine lv_iload hx hb dX8_aheadOf_96 (lv_at hl 0 rfl) ?_
        refine lv_goto (tgt := 119) hx hb dX8_aheadOf_98 (by decide) ?_
        subst g36
        exact hjg36 ls (lv_sub hl [1, 2, 3, 4] rfl)
      replace g36 := hk_ip c37 g36
      refine lv_iload hx hb dX8_aheadOf_86 (lv_at hl 5 rfl) ?_
      refine lv_goto (tgt := 119) hx hb dX8_aheadOf_88 (by decide) ?_
      subst g36
      exact hjg36 ls (lv_sub hl [1, 2, 3, 4] rfl)
    intro ls hl
    have hl : lv_has ls 9 [(0, .int x0), (1, .int x1), (2, .long y22), (4, .int y23)] := hl
    show W _ _ _ _ _ _ _ _ _ _ _ _ _ _ _ (F0 m 119 ls [.int v40])
    refine lv_istore (lv' := [(8, .int v40), (0, .int x0), (1, .int x1), (2, .long y22), (4, .int y23)]) hx hb dX8_aheadOf_119 hl (by decide) rfl (fun ls hl => ?_)
    refine lv_lload_n hx hb dX8_aheadOf_121 rfl (lv_at hl 3 rfl) ?_
    refine lv_iload hx hb dX8_aheadOf_122 (lv_at hl 0 rfl) ?_
    refine lv_bipush (v := (6 : Int32)) hx hb dX8_aheadOf_124 (by decide) ?_
    refine lv_iload_n hx hb dX8_aheadOf_126 rfl (lv_at hl 2 rfl) ?_
    refine lv_imul hx hb dX8_aheadOf_127 ?_
    obtain ⟨v43, g41, k21⟩ := hk_lf k21
    refine hk_joinR (nL := 9) (xs := fun (t9 : Int64) => (139, [(0, .int x0), (1, .int x1), (4, .int y23)], [.long t9, .long y22])) v43 (fun hjg41 => ?_) ?_
    · refine lv_icmp_ge (tgt := 138) hx hb dX8_aheadOf_128 (by decide) (fun c42 => ?_) (fun c42 => ?_)
      · replace g41 := hk_ip c42 g41
        refine lv_lconst (v := (0 : Int64)) hx hb dX8_aheadOf_138 (by decide) ?_
        subst g41
        exact hjg41 ls (lv_sub hl [1, 2, 4] rfl)
      replace g41 := hk_in c42 g41
      refine lv_lconst (v := (1 : Int64)) hx hb dX8_aheadOf_131 (by decide) ?_
      refine lv_iload hx hb dX8_aheadOf_132 (lv_at hl 4 rfl) ?_
      refine lv_lshl (v := (hk_shl (1 : Int64) y23)) hx hb dX8_aheadOf_134 rfl ?_
      refine lv_goto (tgt := 139) hx hb dX8_aheadOf_135 (by decide) ?_
      subst g41
      exact hjg41 ls (lv_sub hl [1, 2, 4] rfl)
    intro ls hl
    have hl : lv_has ls 9 [(0, .int x0), (1, .int x1), (4, .int y23)] := hl
    show W _ _ _ _ _ _ _ _ _ _ _ _ _ _ _ (F0 m 139 ls [.long v43, .long y22])
    refine lv_lor hx hb dX8_aheadOf_139 ?_
    obtain ⟨x44, ex44, k21⟩ := hk_le k21
    refine hk_tl ex44 ?_
    refine lv_lstore_n (lv' := [(2, .long x44), (0, .int x0), (1, .int x1), (4, .int y23)]) hx hb dX8_aheadOf_140 rfl hl (by decide) rfl (fun ls hl => ?_)
    obtain ⟨x45, ex45, k21⟩ := hk_le k21
    refine lv_iinc (v := x45) (lv' := [(4, .int x45), (2, .long x44), (0, .int x0), (1, .int x1)]) hx hb dX8_aheadOf_141 hl (k := 3) rfl (by rw [ex45]; rfl) (by decide) rfl (fun ls hl => ?_)
    refine lv_goto (tgt := 5) hx hb dX8_aheadOf_144 (by decide) ?_
    exact hck21 (x44, x45) (Option.some.inj k21).symm ls (lv_sub hl [2, 3, 1, 0] rfl)
  intro ls hl
  have hl : lv_has ls 9 [(2, .long z47)] := hl
  show W _ _ _ _ _ _ _ _ _ _ _ _ _ _ _ (F0 m 147 ls [])
  refine lv_lload_n hx hb dX8_aheadOf_147 rfl (lv_at hl 0 rfl) ?_
  subst hQ
  exact W.lret hx hb hr (fun t ht hW => ⟨_, rfl, Option.some.inj h, ht⟩) (fun _ h9 => by cases h9) dX8_aheadOf_148
theorem zv_X8_ahead : yX8_ahead.cls = RX8 ∧ yX8_ahead.cls ≠ "java/lang/invoke/MethodHandle" ∧ yX8_ahead.cls ≠ "java/lang/invoke/VarHandle" ∧ (parseMethodDescriptor yX8_ahead.desc).map (fun d => d.parameters.length) = some 3 := by decide +kernel
def f_X8_ahead (c_this_figures : Nat → Int64)  (x1 : Int32) (x2 : Int32) (x3 : Int32) : Option Int32 := hk_b1 (f_X8_isFigure x1) fun r21 => if r21 = 0 then (some (-1 : Int32)) else (hk_b1 (f_X8_isLine x2 x3) fun r26 => if r26 = 0 then (some (-2 : Int32)) else (hk_gd (hk_inb x1 8) (hk_b1 (f_X8_aheadOf x2 x3) fun r32 => hk_b1 (f_X8_ones ((c_this_figures x1.toNatClampNeg) &&& r32)) fun r36 => some r36)))
theorem zi_X8_ahead_X8 : ∀ w ∈ u_ws RX8 TX8 23, w ∈ wsX8_ahead := by decide +kernel
set_option maxHeartbeats 8000000 in
set_option maxRecDepth 100000 in
theorem c_X8_ahead (l : Launch) (D : va_G) (cI cJ cZ cO : ClassId) (a_this a_this_near a_this_turned a_this_figures a_this_text a_this_sectors a_this_corners a_this_likes a_this_laid a_this_isMirrored a_this_places a_this_placeMany a_this_now a_this_firsts a_this_forms a_this_isKept a_this_keptFigures a_this_keptPieces a_this_keptLaid a_this_keptMirrored : Nat) (c_this_length : Int32) (c_this_doubles : Int32) (c_this_likeMany : Int32) (c_this_pieces : Int32) (c_this_figures : Nat → Int64) (x1 : Int32) (x2 : Int32) (x3 : Int32) (rv : Int32) (hf : f_X8_ahead c_this_figures x1 x2 x3 = some rv) : Met l yX8_ahead wsX8_ahead ({ frames := 2, cells := 0, slots := 0, locals := 46 }) (va_Pc [.ref a_this, .int x1, .int x2, .int x3] (hkR D cI cJ cZ cO [(a_this, .inr (4, [.ref a_this_near, .ref a_this_turned, .ref a_this_figures, .ref a_this_text, .int c_this_length, .ref a_this_sectors, .ref a_this_corners, .int c_this_doubles, .ref a_this_likes, .int c_this_likeMany, .int c_this_pieces, .ref a_this_laid, .ref a_this_isMirrored, .ref a_this_places, .ref a_this_placeMany, .ref a_this_now, .ref a_this_firsts, .ref a_this_forms, .ref a_this_isKept, .ref a_this_keptFigures, .ref a_this_keptPieces, .ref a_this_keptLaid, .ref a_this_keptMirrored])), (a_this_figures, .inl (cJ, 8, .inr (.inl c_this_figures)))])) (vp_Si (fun r => r = rv)) 0 0 (fun _ => False) := by
  refine Met.ofW (cc := cX8_ahead) (maxL := 4) (ret := (some .int)) (by decide) rfl ?_
  intro p e s m args below meth c s₁ B hml hv
  obtain ⟨rfl, hP, hK⟩ := hv
  have hx := B.exec
  have hb := B.bytes
  have hr := B.returns
  have hts := atoms_spec (ws := wsX8_ahead) B.pre
  have hown : s.vm.findClass RX8 = some m.cls := findClass_of_methodNamed B.named
  have hlocks := B.notSynchronized
  have hN := hK.2
  have hl := lv_entry ([.ref a_this, .int x1, .int x2, .int x3]) (n := 4) (Nat.le_of_ble_eq_true rfl)
  rw [lg_entry_eq]
  generalize (lg_sl ([.ref a_this, .int x1, .int x2, .int x3]) ++ List.replicate (4 - (lg_sl ([.ref a_this, .int x1, .int x2, .int x3])).length) Slot.unset).toArray = ls at hl ⊢
  have hl : lv_has ls 4 [(0, .ref a_this), (1, .int x1), (2, .int x2), (3, .int x3)] := hl
  refine hk_Q (fun Q hQ => ?_)
  have h := hf
  unfold f_X8_ahead at h
  refine lv_iload_n hx hb dX8_ahead_0 rfl (lv_at hl 1 rfl) ?_
  obtain ⟨r21, hr22, h⟩ := hk_x1 h
  refine vp_callSi (W.runS (As := [.int x1]) (rest := []) ⟨hx, hb, hml, hown, hts⟩ (c_X8_isFigure l x1 _ hr22) (va_cwS 1 hts gX8_ahead_X8_isFigure rfl rfl rfl zs_X8_isFigure ⟨Nat.le_of_ble_eq_true rfl, Nat.le_of_ble_eq_true rfl⟩) ⟨fun _ _ _ _ q => q, fun _ _ _ => ⟨rfl, trivial⟩⟩ rfl rfl hl.1 rfl (lv_room (Nat.le_of_ble_eq_true rfl)) dX8_ahead_1 ⟨Nat.zero_le _, Nat.zero_le _⟩) (fun p24 e23 => ?_)
  rw [e23]
  refine lv_if_ne (tgt := 9) hx hb dX8_ahead_4 (by decide) (fun c25 => ?_) (fun c25 => ?_)
  · replace h := hk_in c25 h
    refine lv_iload_n hx hb dX8_ahead_9 rfl (lv_at hl 2 rfl) ?_
    refine lv_iload_n hx hb dX8_ahead_10 rfl (lv_at hl 3 rfl) ?_
    obtain ⟨r26, hr27, h⟩ := hk_x1 h
    refine vp_callSi (W.runS (As := [.int x2, .int x3]) (rest := []) ⟨hx, hb, hml, hown, hts⟩ (c_X8_isLine l x2 x3 _ hr27) (va_cwS 2 hts gX8_ahead_X8_isLine rfl rfl rfl zs_X8_isLine ⟨Nat.le_of_ble_eq_true rfl, Nat.le_of_ble_eq_true rfl⟩) ⟨fun _ _ _ _ q => q, fun _ _ _ => ⟨rfl, trivial⟩⟩ rfl rfl hl.1 rfl (lv_room (Nat.le_of_ble_eq_true rfl)) dX8_ahead_11 ⟨Nat.zero_le _, Nat.zero_le _⟩) (fun p29 e28 => ?_)
    rw [e28]
    refine lv_if_eq (tgt := 35) hx hb dX8_ahead_14 (by decide) (fun c30 => ?_) (fun c30 => ?_)
    · replace h := hk_ip c30 h
      refine lv_bipush (v := (-2 : Int32)) hx hb dX8_ahead_35 (by decide) ?_
      subst hQ
      exact W.iret hx hb hr (fun t ht hW => ⟨_, rfl, Option.some.inj h, ht⟩) (fun _ h9 => by cases h9) dX8_ahead_37
    replace h := hk_in c30 h
    refine lv_aload_n hx hb dX8_ahead_17 rfl (lv_at hl 0 rfl) ?_
    refine va_get (D := D) (ci := 4) (v := .ref a_this_figures) (C := RX8) (T := TX8) (N := 23) hx hb hts zi_X8_ahead_X8 hown hK.1 hP 0 rfl rfl 2 (by decide) (hts (.fieldLink RX8 17 "HalfAndHalfAgainModel" "figures" "[J") (List.mem_of_getElem? (i := 1) rfl)) (fun _ h9 => h9) rfl dX8_ahead_18 ?_
    refine lv_iload_n hx hb dX8_ahead_21 rfl (lv_at hl 1 rfl) ?_
    obtain ⟨hi31, h⟩ := hk_ge h
    refine va_lald hx hb hK.1 hP 1 1 rfl rfl (hk_inb_of hi31) dX8_ahead_22 ?_
    refine lv_iload_n hx hb dX8_ahead_23 rfl (lv_at hl 2 rfl) ?_
    refine lv_iload_n hx hb dX8_ahead_24 rfl (lv_at hl 3 rfl) ?_
    obtain ⟨r32, hr33, h⟩ := hk_x1 h
    refine vp_callSl (W.runS (As := [.int x2, .int x3]) (rest := [.long (c_this_figures x1.toNatClampNeg)]) ⟨hx, hb, hml, hown, hts⟩ (c_X8_aheadOf l x2 x3 _ hr33) (va_cwS 2 hts gX8_ahead_X8_aheadOf rfl rfl rfl zs_X8_aheadOf ⟨Nat.le_of_ble_eq_true rfl, Nat.le_of_ble_eq_true rfl⟩) ⟨fun _ _ _ _ q => q, fun _ _ _ => ⟨rfl, trivial⟩⟩ rfl rfl hl.1 rfl (lv_room (Nat.le_of_ble_eq_true rfl)) dX8_ahead_25 ⟨Nat.zero_le _, Nat.zero_le _⟩) (fun p35 e34 => ?_)
    rw [e34]
    refine lv_land hx hb dX8_ahead_28 ?_
    obtain ⟨r36, hr37, h⟩ := hk_x1 h
    refine vp_callSi (W.runS (As := [.long ((c_this_figures x1.toNatClampNeg) &&& r32)]) (rest := []) ⟨hx, hb, hml, hown, hts⟩ (c_X8_ones l ((c_this_figures x1.toNatClampNeg) &&& r32) _ hr37) (va_cwS 1 hts gX8_ahead_X8_ones rfl rfl rfl zs_X8_ones ⟨Nat.le_of_ble_eq_true rfl, Nat.le_of_ble_eq_true rfl⟩) ⟨fun _ _ _ _ q => q, fun _ _ _ => ⟨rfl, trivial⟩⟩ rfl rfl hl.1 rfl (lv_room (Nat.le_of_ble_eq_true rfl)) dX8_ahead_29 ⟨Nat.zero_le _, Nat.zero_le _⟩) (fun p39 e38 => ?_)
    rw [e38]
    refine lv_goto (tgt := 37) hx hb dX8_ahead_32 (by decide) ?_
    subst hQ
    exact W.iret hx hb hr (fun t ht hW => ⟨_, rfl, Option.some.inj h, ht⟩) (fun _ h9 => by cases h9) dX8_ahead_37
  replace h := hk_ip c25 h
  refine lv_iconst (v := (-1 : Int32)) hx hb dX8_ahead_7 (by decide) ?_
  subst hQ
  exact W.iret hx hb hr (fun t ht hW => ⟨_, rfl, Option.some.inj h, ht⟩) (fun _ h9 => by cases h9) dX8_ahead_8
theorem zv_X8_cut : yX8_cut.cls = RX8 ∧ yX8_cut.cls ≠ "java/lang/invoke/MethodHandle" ∧ yX8_cut.cls ≠ "java/lang/invoke/VarHandle" ∧ (parseMethodDescriptor yX8_cut.desc).map (fun d => d.parameters.length) = some 3 := by decide +kernel
def f_X8_cut (c_this_figures : Nat → Int64) (c_this_near : Nat → Int64)  (x1 : Int32) (x2 : Int32) (x3 : Int32) : Option Int32 := hk_b1 (f_X8_isFigure x1) fun r21 => if r21 = 0 then (some (-1 : Int32)) else (hk_b1 (f_X8_isLine x2 x3) fun r26 => if r26 = 0 then (some (-2 : Int32)) else (hk_b1 (f_X8_aheadOf x2 x3) fun r31 => hk_gd (hk_inb x1 8) (hk_b1 (f_X8_partsOf c_this_near ((c_this_figures x1.toNatClampNeg) &&& r31)) fun r36 => hk_gd (hk_inb x1 8) (hk_b1 (f_X8_partsOf c_this_near ((c_this_figures x1.toNatClampNeg) &&& (r31 ^^^ (-1 : Int64)))) fun r41 => some (r36 + r41)))))
theorem zi_X8_cut_X8 : ∀ w ∈ u_ws RX8 TX8 23, w ∈ wsX8_cut := by decide +kernel
set_option maxHeartbeats 8000000 in
set_option maxRecDepth 100000 in
theorem c_X8_cut (l : Launch) (D : va_G) (cI cJ cZ cO : ClassId) (a_this a_this_near a_this_turned a_this_figures a_this_text a_this_sectors a_this_corners a_this_likes a_this_laid a_this_isMirrored a_this_places a_this_placeMany a_this_now a_this_firsts a_this_forms a_this_isKept a_this_keptFigures a_this_keptPieces a_this_keptLaid a_this_keptMirrored : Nat) (c_this_length : Int32) (c_this_doubles : Int32) (c_this_likeMany : Int32) (c_this_pieces : Int32) (c_this_figures : Nat → Int64) (c_this_near : Nat → Int64) (x1 : Int32) (x2 : Int32) (x3 : Int32) (rv : Int32) (hf : f_X8_cut c_this_figures c_this_near x1 x2 x3 = some rv) : Met l yX8_cut wsX8_cut ({ frames := 4, cells := 0, slots := 0, locals := 102 }) (va_Pc [.ref a_this, .int x1, .int x2, .int x3] (hkR D cI cJ cZ cO [(a_this, .inr (4, [.ref a_this_near, .ref a_this_turned, .ref a_this_figures, .ref a_this_text, .int c_this_length, .ref a_this_sectors, .ref a_this_corners, .int c_this_doubles, .ref a_this_likes, .int c_this_likeMany, .int c_this_pieces, .ref a_this_laid, .ref a_this_isMirrored, .ref a_this_places, .ref a_this_placeMany, .ref a_this_now, .ref a_this_firsts, .ref a_this_forms, .ref a_this_isKept, .ref a_this_keptFigures, .ref a_this_keptPieces, .ref a_this_keptLaid, .ref a_this_keptMirrored])), (a_this_figures, .inl (cJ, 8, .inr (.inl c_this_figures))), (a_this_near, .inl (cJ, 64, .inr (.inl c_this_near)))])) (vp_Si (fun r => r = rv)) 0 0 (fun _ => False) := by
  refine Met.ofW (cc := cX8_cut) (maxL := 6) (ret := (some .int)) (by decide) rfl ?_
  intro p e s m args below meth c s₁ B hml hv
  obtain ⟨rfl, hP, hK⟩ := hv
  have hx := B.exec
  have hb := B.bytes
  have hr := B.returns
  have hts := atoms_spec (ws := wsX8_cut) B.pre
  have hown : s.vm.findClass RX8 = some m.cls := findClass_of_methodNamed B.named
  have hlocks := B.notSynchronized
  have hN := hK.2
  have hl := lv_entry ([.ref a_this, .int x1, .int x2, .int x3]) (n := 6) (Nat.le_of_ble_eq_true rfl)
  rw [lg_entry_eq]
  generalize (lg_sl ([.ref a_this, .int x1, .int x2, .int x3]) ++ List.replicate (6 - (lg_sl ([.ref a_this, .int x1, .int x2, .int x3])).length) Slot.unset).toArray = ls at hl ⊢
  have hl : lv_has ls 6 [(0, .ref a_this), (1, .int x1), (2, .int x2), (3, .int x3)] := hl
  refine hk_Q (fun Q hQ => ?_)
  have h := hf
  unfold f_X8_cut at h
  refine lv_iload_n hx hb dX8_cut_0 rfl (lv_at hl 1 rfl) ?_
  obtain ⟨r21, hr22, h⟩ := hk_x1 h
  refine vp_callSi (W.runS (As := [.int x1]) (rest := []) ⟨hx, hb, hml, hown, hts⟩ (c_X8_isFigure l x1 _ hr22) (va_cwS 1 hts gX8_cut_X8_isFigure rfl rfl rfl zs_X8_isFigure ⟨Nat.le_of_ble_eq_true rfl, Nat.le_of_ble_eq_true rfl⟩) ⟨fun _ _ _ _ q => q, fun _ _ _ => ⟨rfl, trivial⟩⟩ rfl rfl hl.1 rfl (lv_room (Nat.le_of_ble_eq_true rfl)) dX8_cut_1 ⟨Nat.zero_le _, Nat.zero_le _⟩) (fun p24 e23 => ?_)
  rw [e23]
  refine lv_if_ne (tgt := 9) hx hb dX8_cut_4 (by decide) (fun c25 => ?_) (fun c25 => ?_)
  · replace h := hk_in c25 h
    refine lv_iload_n hx hb dX8_cut_9 rfl (lv_at hl 2 rfl) ?_
    refine lv_iload_n hx hb dX8_cut_10 rfl (lv_at hl 3 rfl) ?_
    obtain ⟨r26, hr27, h⟩ := hk_x1 h
    refine vp_callSi (W.runS (As := [.int x2, .int x3]) (rest := []) ⟨hx, hb, hml, hown, hts⟩ (c_X8_isLine l x2 x3 _ hr27) (va_cwS 2 hts gX8_cut_X8_isLine rfl rfl rfl zs_X8_isLine ⟨Nat.le_of_ble_eq_true rfl, Nat.le_of_ble_eq_true rfl⟩) ⟨fun _ _ _ _ q => q, fun _ _ _ => ⟨rfl, trivial⟩⟩ rfl rfl hl.1 rfl (lv_room (Nat.le_of_ble_eq_true rfl)) dX8_cut_11 ⟨Nat.zero_le _, Nat.zero_le _⟩) (fun p29 e28 => ?_)
    rw [e28]
    refine lv_if_ne (tgt := 20) hx hb dX8_cut_14 (by decide) (fun c30 => ?_) (fun c30 => ?_)
    · replace h := hk_in c30 h
      refine lv_iload_n hx hb dX8_cut_20 rfl (lv_at hl 2 rfl) ?_
      refine lv_iload_n hx hb dX8_cut_21 rfl (lv_at hl 3 rfl) ?_
      obtain ⟨r31, hr32, h⟩ := hk_x1 h
      refine vp_callSl (W.runS (As := [.int x2, .int x3]) (rest := []) ⟨hx, hb, hml, hown, hts⟩ (c_X8_aheadOf l x2 x3 _ hr32) (va_cwS 2 hts gX8_cut_X8_aheadOf rfl rfl rfl zs_X8_aheadOf ⟨Nat.le_of_ble_eq_true rfl, Nat.le_of_ble_eq_true rfl⟩) ⟨fun _ _ _ _ q => q, fun _ _ _ => ⟨rfl, trivial⟩⟩ rfl rfl hl.1 rfl (lv_room (Nat.le_of_ble_eq_true rfl)) dX8_cut_22 ⟨Nat.zero_le _, Nat.zero_le _⟩) (fun p34 e33 => ?_)
      rw [e33]
      refine lv_lstore (lv' := [(4, .long r31), (0, .ref a_this), (1, .int x1), (2, .int x2), (3, .int x3)]) hx hb dX8_cut_25 hl (by decide) rfl (fun ls hl => ?_)
      refine lv_aload_n hx hb dX8_cut_27 rfl (lv_at hl 1 rfl) ?_
      refine lv_aload_n hx hb dX8_cut_28 rfl (lv_at hl 1 rfl) ?_
      refine va_get (D := D) (ci := 4) (v := .ref a_this_figures) (C := RX8) (T := TX8) (N := 23) hx hb hts zi_X8_cut_X8 hown hK.1 hP 0 rfl rfl 2 (by decide) (hts (.fieldLink RX8 17 "HalfAndHalfAgainModel" "figures" "[J") (List.mem_of_getElem? (i := 1) rfl)) (fun _ h9 => h9) rfl dX8_cut_29 ?_
      refine lv_iload_n hx hb dX8_cut_32 rfl (lv_at hl 2 rfl) ?_
      obtain ⟨hi35, h⟩ := hk_ge h
      refine va_lald hx hb hK.1 hP 1 1 rfl rfl (hk_inb_of hi35) dX8_cut_33 ?_
      refine lv_lload hx hb dX8_cut_34 (lv_at hl 0 rfl) ?_
      refine lv_land hx hb dX8_cut_36 ?_
      obtain ⟨r36, hr37, h⟩ := hk_x1 h
      refine vp_callSi (W.runV (As := [.long ((c_this_figures x1.toNatClampNeg) &&& r31)]) (rest := []) ⟨hx, hb, hml, hown, hts⟩ (c_X8_partsOf l D cI cJ cZ cO a_this a_this_near a_this_turned a_this_figures a_this_text a_this_sectors a_this_corners a_this_likes a_this_laid a_this_isMirrored a_this_places a_this_placeMany a_this_now a_this_firsts a_this_forms a_this_isKept a_this_keptFigures a_this_keptPieces a_this_keptLaid a_this_keptMirrored c_this_length c_this_doubles c_this_likeMany c_this_pieces c_this_near ((c_this_figures x1.toNatClampNeg) &&& r31) _ hr37) (cwV 1 hts gX8_cut_X8_partsOf rfl rfl rfl zv_X8_partsOf ⟨Nat.le_of_ble_eq_true rfl, Nat.le_of_ble_eq_true rfl⟩) (hk_preRV 4 rfl (hP.sub (ws' := [(a_this, .inr (4, [.ref a_this_near, .ref a_this_turned, .ref a_this_figures, .ref a_this_text, .int c_this_length, .ref a_this_sectors, .ref a_this_corners, .int c_this_doubles, .ref a_this_likes, .int c_this_likeMany, .int c_this_pieces, .ref a_this_laid, .ref a_this_isMirrored, .ref a_this_places, .ref a_this_placeMany, .ref a_this_now, .ref a_this_firsts, .ref a_this_forms, .ref a_this_isKept, .ref a_this_keptFigures, .ref a_this_keptPieces, .ref a_this_keptLaid, .ref a_this_keptMirrored])), (a_this_near, .inl (cJ, 64, .inr (.inl c_this_near)))]) [0, 2] rfl) hK rfl) rfl rfl hl.1 rfl (lv_room (Nat.le_of_ble_eq_true rfl)) dX8_cut_37 ⟨Nat.zero_le _, Nat.zero_le _⟩) (fun p39 e38 => ?_)
      rw [e38]
      refine lv_aload_n hx hb dX8_cut_40 rfl (lv_at hl 1 rfl) ?_
      refine lv_aload_n hx hb dX8_cut_41 rfl (lv_at hl 1 rfl) ?_
      refine va_get (D := D) (ci := 4) (v := .ref a_this_figures) (C := RX8) (T := TX8) (N := 23) hx hb hts zi_X8_cut_X8 hown hK.1 hP 0 rfl rfl 2 (by decide) (hts (.fieldLink RX8 17 "HalfAndHalfAgainModel" "figures" "[J") (List.mem_of_getElem? (i := 1) rfl)) (fun _ h9 => h9) rfl dX8_cut_42 ?_
      refine lv_iload_n hx hb dX8_cut_45 rfl (lv_at hl 2 rfl) ?_
      obtain ⟨hi40, h⟩ := hk_ge h
      refine va_lald hx hb hK.1 hP 1 1 rfl rfl (hk_inb_of hi40) dX8_cut_46 ?_
      refine lv_lload hx hb dX8_cut_47 (lv_at hl 0 rfl) ?_
      refine lv_ldc2 (v := (-1 : Int64)) hx hb hown (hts (.constantLong RX8 118 (-1)) (List.mem_of_getElem? (i := 2) rfl)) dX8_cut_49 ?_
      refine lv_lxor hx hb dX8_cut_52 ?_
      refine lv_land hx hb dX8_cut_53 ?_
      obtain ⟨r41, hr42, h⟩ := hk_x1 h
      refine vp_callSi (W.runV (As := [.long ((c_this_figures x1.toNatClampNeg) &&& (r31 ^^^ (-1 : Int64)))]) (rest := [.int r36]) ⟨hx, hb, hml, hown, hts⟩ (c_X8_partsOf l D cI cJ cZ cO a_this a_this_near a_this_turned a_this_figures a_this_text a_this_sectors a_this_corners a_this_likes a_this_laid a_this_isMirrored a_this_places a_this_placeMany a_this_now a_this_firsts a_this_forms a_this_isKept a_this_keptFigures a_this_keptPieces a_this_keptLaid a_this_keptMirrored c_this_length c_this_doubles c_this_likeMany c_this_pieces c_this_near ((c_this_figures x1.toNatClampNeg) &&& (r31 ^^^ (-1 : Int64))) _ hr42) (cwV 1 hts gX8_cut_X8_partsOf rfl rfl rfl zv_X8_partsOf ⟨Nat.le_of_ble_eq_true rfl, Nat.le_of_ble_eq_true rfl⟩) (hk_preRV 4 rfl (hP.sub (ws' := [(a_this, .inr (4, [.ref a_this_near, .ref a_this_turned, .ref a_this_figures, .ref a_this_text, .int c_this_length, .ref a_this_sectors, .ref a_this_corners, .int c_this_doubles, .ref a_this_likes, .int c_this_likeMany, .int c_this_pieces, .ref a_this_laid, .ref a_this_isMirrored, .ref a_this_places, .ref a_this_placeMany, .ref a_this_now, .ref a_this_firsts, .ref a_this_forms, .ref a_this_isKept, .ref a_this_keptFigures, .ref a_this_keptPieces, .ref a_this_keptLaid, .ref a_this_keptMirrored])), (a_this_near, .inl (cJ, 64, .inr (.inl c_this_near)))]) [0, 2] rfl) hK rfl) rfl rfl hl.1 rfl (lv_room (Nat.le_of_ble_eq_true rfl)) dX8_cut_54 ⟨Nat.zero_le _, Nat.zero_le _⟩) (fun p44 e43 => ?_)
      rw [e43]
      refine lv_iadd hx hb dX8_cut_57 ?_
      subst hQ
      exact W.iret hx hb hr (fun t ht hW => ⟨_, rfl, Option.some.inj h, ht⟩) (fun _ h9 => by cases h9) dX8_cut_58
    replace h := hk_ip c30 h
    refine lv_bipush (v := (-2 : Int32)) hx hb dX8_cut_17 (by decide) ?_
    subst hQ
    exact W.iret hx hb hr (fun t ht hW => ⟨_, rfl, Option.some.inj h, ht⟩) (fun _ h9 => by cases h9) dX8_cut_19
  replace h := hk_ip c25 h
  refine lv_iconst (v := (-1 : Int32)) hx hb dX8_cut_7 (by decide) ?_
  subst hQ
  exact W.iret hx hb hr (fun t ht hW => ⟨_, rfl, Option.some.inj h, ht⟩) (fun _ h9 => by cases h9) dX8_cut_8
theorem zv_X8_halves : yX8_halves.cls = RX8 ∧ yX8_halves.cls ≠ "java/lang/invoke/MethodHandle" ∧ yX8_halves.cls ≠ "java/lang/invoke/VarHandle" ∧ (parseMethodDescriptor yX8_halves.desc).map (fun d => d.parameters.length) = some 1 := by decide +kernel
def st_X8_halves_33c (c_this_figures : Nat → Int64) (x1 : Int32) (y28 : Int32) (y33 : Int32) (y34 : Int32) : Option ((Int32 × Int32) ⊕ Int32) := if (9 : Int32) ≤ y34 then (some (.inr y33)) else (hk_b1 (f_X8_isLine y28 y34) fun r36 => hk_b1 (if r36 = 0 then (some (0 : Int32)) else (hk_gd (hk_inb x1 8) (hk_b1 (f_X8_aheadOf y28 y34) fun r43 => hk_b1 (f_X8_ones ((c_this_figures x1.toNatClampNeg) &&& r43)) fun r47 => hk_gd (hk_inb x1 8) (hk_b1 (f_X8_ones (c_this_figures x1.toNatClampNeg)) fun r52 => if ((2 : Int32) * r47) = r52 then (some (1 : Int32)) else (some (0 : Int32)))))) fun v57 => hk_let (y33 + v57) fun x58 => hk_let (y34 + (1 : Int32)) fun x59 => some (.inl (x58, x59)))
def st_X8_halves_33 (c_this_figures : Nat → Int64) (x1 : Int32) (y28 : Int32) (t9 : (Int32 × Int32)) : Option ((Int32 × Int32) ⊕ Int32) := st_X8_halves_33c c_this_figures x1 y28 t9.1 t9.2
def st_X8_halves_13c (c_this_figures : Nat → Int64) (x1 : Int32) (y27 : Int32) (y28 : Int32) : Option ((Int32 × Int32) ⊕ Int32) := if (4 : Int32) ≤ y28 then (some (.inr y27)) else (hk_gd (hk_inb x1 8) (if (c_this_figures x1.toNatClampNeg) = (0 : Int64) then (some (.inr y27)) else (hk_b1 (hk_wl (st_X8_halves_33 c_this_figures x1 y28) hkF (y27, (-4 : Int32))) fun z61 => hk_let (y28 + (1 : Int32)) fun x64 => some (.inl (z61, x64)))))
def st_X8_halves_13 (c_this_figures : Nat → Int64) (x1 : Int32) (t9 : (Int32 × Int32)) : Option ((Int32 × Int32) ⊕ Int32) := st_X8_halves_13c c_this_figures x1 t9.1 t9.2
def f_X8_halves (c_this_figures : Nat → Int64)  (x1 : Int32) : Option Int32 := hk_b1 (f_X8_isFigure x1) fun r21 => if r21 = 0 then (some (-1 : Int32)) else (hk_b1 (hk_wl (st_X8_halves_13 c_this_figures x1) hkF ((0 : Int32), (0 : Int32))) fun z66 => some z66)
theorem zi_X8_halves_X8 : ∀ w ∈ u_ws RX8 TX8 23, w ∈ wsX8_halves := by decide +kernel
set_option maxHeartbeats 8000000 in
set_option maxRecDepth 100000 in
theorem c_X8_halves (l : Launch) (D : va_G) (cI cJ cZ cO : ClassId) (a_this a_this_near a_this_turned a_this_figures a_this_text a_this_sectors a_this_corners a_this_likes a_this_laid a_this_isMirrored a_this_places a_this_placeMany a_this_now a_this_firsts a_this_forms a_this_isKept a_this_keptFigures a_this_keptPieces a_this_keptLaid a_this_keptMirrored : Nat) (c_this_length : Int32) (c_this_doubles : Int32) (c_this_likeMany : Int32) (c_this_pieces : Int32) (c_this_figures : Nat → Int64) (x1 : Int32) (rv : Int32) (hf : f_X8_halves c_this_figures x1 = some rv) : Met l yX8_halves wsX8_halves ({ frames := 2, cells := 0, slots := 0, locals := 46 }) (va_Pc [.ref a_this, .int x1] (hkR D cI cJ cZ cO [(a_this, .inr (4, [.ref a_this_near, .ref a_this_turned, .ref a_this_figures, .ref a_this_text, .int c_this_length, .ref a_this_sectors, .ref a_this_corners, .int c_this_doubles, .ref a_this_likes, .int c_this_likeMany, .int c_this_pieces, .ref a_this_laid, .ref a_this_isMirrored, .ref a_this_places, .ref a_this_placeMany, .ref a_this_now, .ref a_this_firsts, .ref a_this_forms, .ref a_this_isKept, .ref a_this_keptFigures, .ref a_this_keptPieces, .ref a_this_keptLaid, .ref a_this_keptMirrored])), (a_this_figures, .inl (cJ, 8, .inr (.inl c_this_figures)))])) (vp_Si (fun r => r = rv)) 0 0 (fun _ => False) := by
  refine Met.ofW (cc := cX8_halves) (maxL := 5) (ret := (some .int)) (by decide) rfl ?_
  intro p e s m args below meth c s₁ B hml hv
  obtain ⟨rfl, hP, hK⟩ := hv
  have hx := B.exec
  have hb := B.bytes
  have hr := B.returns
  have hts := atoms_spec (ws := wsX8_halves) B.pre
  have hown : s.vm.findClass RX8 = some m.cls := findClass_of_methodNamed B.named
  have hlocks := B.notSynchronized
  have hN := hK.2
  have hl := lv_entry ([.ref a_this, .int x1]) (n := 5) (Nat.le_of_ble_eq_true rfl)
  rw [lg_entry_eq]
  generalize (lg_sl ([.ref a_this, .int x1]) ++ List.replicate (5 - (lg_sl ([.ref a_this, .int x1])).length) Slot.unset).toArray = ls at hl ⊢
  have hl : lv_has ls 5 [(0, .ref a_this), (1, .int x1)] := hl
  refine hk_Q (fun Q hQ => ?_)
  have h := hf
  unfold f_X8_halves at h
  refine lv_iload_n hx hb dX8_halves_0 rfl (lv_at hl 1 rfl) ?_
  obtain ⟨r21, hr22, h⟩ := hk_x1 h
  refine vp_callSi (W.runS (As := [.int x1]) (rest := []) ⟨hx, hb, hml, hown, hts⟩ (c_X8_isFigure l x1 _ hr22) (va_cwS 1 hts gX8_halves_X8_isFigure rfl rfl rfl zs_X8_isFigure ⟨Nat.le_of_ble_eq_true rfl, Nat.le_of_ble_eq_true rfl⟩) ⟨fun _ _ _ _ q => q, fun _ _ _ => ⟨rfl, trivial⟩⟩ rfl rfl hl.1 rfl (lv_room (Nat.le_of_ble_eq_true rfl)) dX8_halves_1 ⟨Nat.zero_le _, Nat.zero_le _⟩) (fun p24 e23 => ?_)
  rw [e23]
  refine lv_if_ne (tgt := 9) hx hb dX8_halves_4 (by decide) (fun c25 => ?_) (fun c25 => ?_)
  · replace h := hk_in c25 h
    refine lv_iconst (v := (0 : Int32)) hx hb dX8_halves_9 (by decide) ?_
    refine lv_istore_n (lv' := [(2, .int (0 : Int32)), (0, .ref a_this), (1, .int x1)]) hx hb dX8_halves_10 rfl hl (by decide) rfl (fun ls hl => ?_)
    refine lv_iconst (v := (0 : Int32)) hx hb dX8_halves_11 (by decide) ?_
    refine lv_istore_n (lv' := [(3, .int (0 : Int32)), (2, .int (0 : Int32)), (0, .ref a_this), (1, .int x1)]) hx hb dX8_halves_12 rfl hl (by decide) rfl (fun ls hl => ?_)
    obtain ⟨z66, hr65, h⟩ := hk_x1 h
    refine hk_loopR (f := st_X8_halves_13 c_this_figures x1) (hd := 13) (nL := 5) (lv := fun t9 => [(0, .ref a_this), (1, .int x1), (2, .int t9.1), (3, .int t9.2)]) (xs := fun t9 => (99, [(2, .int t9)], [])) ?_ hr65 ?_ (lv_sub hl [2, 3, 1, 0] rfl)
    · intro t67 q68 k26 hck26 hqk26 ls hl
      obtain ⟨y27, y28⟩ := t67
      have k26 : st_X8_halves_13c c_this_figures x1 y27 y28 = some q68 := k26
      unfold st_X8_halves_13c at k26
      have hl : lv_has ls 5 [(0, .ref a_this), (1, .int x1), (2, .int y27), (3, .int y28)] := hl
      refine lv_iload_n hx hb dX8_halves_13 rfl (lv_at hl 3 rfl) ?_
      refine lv_iconst (v := (4 : Int32)) hx hb dX8_halves_14 (by decide) ?_
      refine lv_icmp_ge (tgt := 99) hx hb dX8_halves_15 (by decide) (fun c29 => ?_) (fun c29 => ?_)
      · replace k26 := hk_ip c29 k26
        exact hqk26 y27 (Option.some.inj k26).symm ls (lv_sub hl [2] rfl)
      replace k26 := hk_in c29 k26
      refine lv_aload_n hx hb dX8_halves_18 rfl (lv_at hl 0 rfl) ?_
      refine va_get (D := D) (ci := 4) (v := .ref a_this_figures) (C := RX8) (T := TX8) (N := 23) hx hb hts zi_X8_halves_X8 hown hK.1 hP 0 rfl rfl 2 (by decide) (hts (.fieldLink RX8 17 "HalfAndHalfAgainModel" "figures" "[J") (List.mem_of_getElem? (i := 1) rfl)) (fun _ h9 => h9) rfl dX8_halves_19 ?_
      refine lv_iload_n hx hb dX8_halves_22 rfl (lv_at hl 1 rfl) ?_
      obtain ⟨hi30, k26⟩ := hk_ge k26
      refine va_lald hx hb hK.1 hP 1 1 rfl rfl (hk_inb_of hi30) dX8_halves_23 ?_
      refine lv_lconst (v := (0 : Int64)) hx hb dX8_halves_24 (by decide) ?_
      refine hk_lcmp_eq (tgt := 99) hx hb dX8_halves_25 dX8_halves_26 (by decide) (fun c31 => ?_) (fun c31 => ?_)
      · replace k26 := hk_ip c31 k26
        exact hqk26 y27 (Option.some.inj k26).symm ls (lv_sub hl [2] rfl)
      replace k26 := hk_in c31 k26
      refine lv_bipush (v := (-4 : Int32)) hx hb dX8_halves_29 (by decide) ?_
      refine lv_istore (lv' := [(4, .int (-4 : Int32)), (0, .ref a_this), (1, .int x1), (2, .int y27), (3, .int y28)]) hx hb dX8_halves_31 hl (by decide) rfl (fun ls hl => ?_)
      obtain ⟨z61, hr60, k26⟩ := hk_x1 k26
      refine hk_loopR (f := st_X8_halves_33 c_this_figures x1 y28) (hd := 33) (nL := 5) (lv := fun t9 => [(0, .ref a_this), (1, .int x1), (2, .int t9.1), (3, .int y28), (4, .int t9.2)]) (xs := fun t9 => (93, [(0, .ref a_this), (1, .int x1), (2, .int t9), (3, .int y28)], [])) ?_ hr60 ?_ (lv_sub hl [1, 2, 3, 4, 0] rfl)
      · intro t62 q63 k32 hck32 hqk32 ls hl
        obtain ⟨y33, y34⟩ := t62
        have k32 : st_X8_halves_33c c_this_figures x1 y28 y33 y34 = some q63 := k32
        unfold st_X8_halves_33c at k32
        have hl : lv_has ls 5 [(0, .ref a_this), (1, .int x1), (2, .int y33), (3, .int y28), (4, .int y34)] := hl
        refine lv_iload hx hb dX8_halves_33 (lv_at hl 4 rfl) ?_
        refine lv_bipush (v := (9 : Int32)) hx hb dX8_halves_35 (by decide) ?_
        refine lv_icmp_ge (tgt := 93) hx hb dX8_halves_37 (by decide) (fun c35 => ?_) (fun c35 => ?_)
        · replace k32 := hk_ip c35 k32
          exact hqk32 y33 (Option.some.inj k32).symm ls (lv_sub hl [0, 1, 2, 3] rfl)
        replace k32 := hk_in c35 k32
        refine lv_iload_n hx hb dX8_halves_40 rfl (lv_at hl 2 rfl) ?_
        refine lv_iload_n hx hb dX8_halves_41 rfl (lv_at hl 3 rfl) ?_
        refine lv_iload hx hb dX8_halves_42 (lv_at hl 4 rfl) ?_
        obtain ⟨r36, hr37, k32⟩ := hk_x1 k32
        refine vp_callSi (W.runS (As := [.int y28, .int y34]) (rest := [.int y33]) ⟨hx, hb, hml, hown, hts⟩ (c_X8_isLine l y28 y34 _ hr37) (va_cwS 2 hts gX8_halves_X8_isLine rfl rfl rfl zs_X8_isLine ⟨Nat.le_of_ble_eq_true rfl, Nat.le_of_ble_eq_true rfl⟩) ⟨fun _ _ _ _ q => q, fun _ _ _ => ⟨rfl, trivial⟩⟩ rfl rfl hl.1 rfl (lv_room (Nat.le_of_ble_eq_true rfl)) dX8_halves_44 ⟨Nat.zero_le _, Nat.zero_le _⟩) (fun p39 e38 => ?_)
        rw [e38]
        obtain ⟨v57, g40, k32⟩ := hk_x1 k32
        refine hk_joinR (nL := 5) (xs := fun (t9 : Int32) => (85, [(0, .ref a_this), (1, .int x1), (3, .int y28), (4, .int y34)], [.int t9, .int y33])) v57 (fun hjg40 => ?_) ?_
        · refine lv_if_eq (tgt := 84) hx hb dX8_halves_47 (by decide) (fun c41 => ?_) (fun c41 => ?_)
          · replace g40 := hk_ip c41 g40
            refine lv_iconst (v := (0 : Int32)) hx hb dX8_halves_84 (by decide) ?_
            have g40 := Option.some.inj g40
            subst g40
            exact hjg40 ls (lv_sub hl [0, 1, 3, 4] rfl)
          replace g40 := hk_in c41 g40
          refine lv_iconst (v := (2 : Int32)) hx hb dX8_halves_50 (by decide) ?_
          refine lv_aload_n hx hb dX8_halves_51 rfl (lv_at hl 0 rfl) ?_
          refine va_get (D := D) (ci := 4) (v := .ref a_this_figures) (C := RX8) (T := TX8) (N := 23) hx hb hts zi_X8_halves_X8 hown hK.1 hP 0 rfl rfl 2 (by decide) (hts (.fieldLink RX8 17 "HalfAndHalfAgainModel" "figures" "[J") (List.mem_of_getElem? (i := 1) rfl)) (fun _ h9 => h9) rfl dX8_halves_52 ?_
          refine lv_iload_n hx hb dX8_halves_55 rfl (lv_at hl 1 rfl) ?_
          obtain ⟨hi42, g40⟩ := hk_ge g40
          refine va_lald hx hb hK.1 hP 1 1 rfl rfl (hk_inb_of hi42) dX8_halves_56 ?_
          refine lv_iload_n hx hb dX8_halves_57 rfl (lv_at hl 3 rfl) ?_
          refine lv_iload hx hb dX8_halves_58 (lv_at hl 4 rfl) ?_
          obtain ⟨r43, hr44, g40⟩ := hk_x1 g40
          refine vp_callSl (W.runS (As := [.int y28, .int y34]) (rest := [.long (c_this_figures x1.toNatClampNeg), .int (2 : Int32), .int y33]) ⟨hx, hb, hml, hown, hts⟩ (c_X8_aheadOf l y28 y34 _ hr44) (va_cwS 2 hts gX8_halves_X8_aheadOf rfl rfl rfl zs_X8_aheadOf ⟨Nat.le_of_ble_eq_true rfl, Nat.le_of_ble_eq_true rfl⟩) ⟨fun _ _ _ _ q => q, fun _ _ _ => ⟨rfl, trivial⟩⟩ rfl rfl hl.1 rfl (lv_room (Nat.le_of_ble_eq_true rfl)) dX8_halves_60 ⟨Nat.zero_le _, Nat.zero_le _⟩) (fun p46 e45 => ?_)
          rw [e45]
          refine lv_land hx hb dX8_halves_63 ?_
          obtain ⟨r47, hr48, g40⟩ := hk_x1 g40
          refine vp_callSi (W.runS (As := [.long ((c_this_figures x1.toNatClampNeg) &&& r43)]) (rest := [.int (2 : Int32), .int y33]) ⟨hx, hb, hml, hown, hts⟩ (c_X8_ones l ((c_this_figures x1.toNatClampNeg) &&& r43) _ hr48) (va_cwS 1 hts gX8_halves_X8_ones rfl rfl rfl zs_X8_ones ⟨Nat.le_of_ble_eq_true rfl, Nat.le_of_ble_eq_true rfl⟩) ⟨fun _ _ _ _ q => q, fun _ _ _ => ⟨rfl, trivial⟩⟩ rfl rfl hl.1 rfl (lv_room (Nat.le_of_ble_eq_true rfl)) dX8_halves_64 ⟨Nat.zero_le _, Nat.zero_le _⟩) (fun p50 e49 => ?_)
          rw [e49]
          refine lv_imul hx hb dX8_halves_67 ?_
          refine lv_aload_n hx hb dX8_halves_68 rfl (lv_at hl 0 rfl) ?_
          refine va_get (D := D) (ci := 4) (v := .ref a_this_figures) (C := RX8) (T := TX8) (N := 23) hx hb hts zi_X8_halves_X8 hown hK.1 hP 0 rfl rfl 2 (by decide) (hts (.fieldLink RX8 17 "HalfAndHalfAgainModel" "figures" "[J") (List.mem_of_getElem? (i := 1) rfl)) (fun _ h9 => h9) rfl dX8_halves_69 ?_
          refine lv_iload_n hx hb dX8_halves_72 rfl (lv_at hl 1 rfl) ?_
          obtain ⟨hi51, g40⟩ := hk_ge g40
          refine va_lald hx hb hK.1 hP 1 1 rfl rfl (hk_inb_of hi51) dX8_halves_73 ?_
          obtain ⟨r52, hr53, g40⟩ := hk_x1 g40
          refine vp_callSi (W.runS (As := [.long (c_this_figures x1.toNatClampNeg)]) (rest := [.int ((2 : Int32) * r47), .int y33]) ⟨hx, hb, hml, hown, hts⟩ (c_X8_ones l (c_this_figures x1.toNatClampNeg) _ hr53) (va_cwS 1 hts gX8_halves_X8_ones rfl rfl rfl zs_X8_ones ⟨Nat.le_of_ble_eq_true rfl, Nat.le_of_ble_eq_true rfl⟩) ⟨fun _ _ _ _ q => q, fun _ _ _ => ⟨rfl, trivial⟩⟩ rfl rfl hl.1 rfl (lv_room (Nat.le_of_ble_eq_true rfl)) dX8_halves_74 ⟨Nat.zero_le _, Nat.zero_le _⟩) (fun p55 e54 => ?_)
          rw [e54]
          refine lv_icmp_ne (tgt := 84) hx hb dX8_halves_77 (by decide) (fun c56 => ?_) (fun c56 => ?_)
          · replace g40 := hk_in c56 g40
            refine lv_iconst (v := (0 : Int32)) hx hb dX8_halves_84 (by decide) ?_
            have g40 := Option.some.inj g40
            subst g40
            exact hjg40 ls (lv_sub hl [0, 1, 3, 4] rfl)
          replace g40 := hk_ip c56 g40
          refine lv_iconst (v := (1 : Int32)) hx hb dX8_halves_80 (by decide) ?_
          refine lv_goto (tgt := 85) hx hb dX8_halves_81 (by decide) ?_
          have g40 := Option.some.inj g40
          subst g40
          exact hjg40 ls (lv_sub hl [0, 1, 3, 4] rfl)
        intro ls hl
        have hl : lv_has ls 5 [(0, .ref a_this), (1, .int x1), (3, .int y28), (4, .int y34)] := hl
        show W _ _ _ _ _ _ _ _ _ _ _ _ _ _ _ (F0 m 85 ls [.int v57, .int y33])
        refine lv_iadd hx hb dX8_halves_85 ?_
        obtain ⟨x58, ex58, k32⟩ := hk_le k32
        refine hk_ti ex58 ?_
        refine lv_istore_n (lv' := [(2, .int x58), (0, .ref a_this), (1, .int x1), (3, .int y28), (4, .int y34)]) hx hb dX8_halves_86 rfl hl (by decide) rfl (fun ls hl => ?_)
        obtain ⟨x59, ex59, k32⟩ := hk_le k32
        refine lv_iinc (v := x59) (lv' := [(4, .int x59), (2, .int x58), (0, .ref a_this), (1, .int x1), (3, .int y28)]) hx hb dX8_halves_87 hl (k := 4) rfl (by rw [ex59]; rfl) (by decide) rfl (fun ls hl => ?_)
        refine lv_goto (tgt := 33) hx hb dX8_halves_90 (by decide) ?_
        exact hck32 (x58, x59) (Option.some.inj k32).symm ls (lv_sub hl [2, 3, 1, 4, 0] rfl)
      intro ls hl
      have hl : lv_has ls 5 [(0, .ref a_this), (1, .int x1), (2, .int z61), (3, .int y28)] := hl
      show W _ _ _ _ _ _ _ _ _ _ _ _ _ _ _ (F0 m 93 ls [])
      obtain ⟨x64, ex64, k26⟩ := hk_le k26
      refine lv_iinc (v := x64) (lv' := [(3, .int x64), (0, .ref a_this), (1, .int x1), (2, .int z61)]) hx hb dX8_halves_93 hl (k := 3) rfl (by rw [ex64]; rfl) (by decide) rfl (fun ls hl => ?_)
      refine lv_goto (tgt := 13) hx hb dX8_halves_96 (by decide) ?_
      exact hck26 (z61, x64) (Option.some.inj k26).symm ls (lv_sub hl [1, 2, 3, 0] rfl)
    intro ls hl
    have hl : lv_has ls 5 [(2, .int z66)] := hl
    show W _ _ _ _ _ _ _ _ _ _ _ _ _ _ _ (F0 m 99 ls [])
    refine lv_iload_n hx hb dX8_halves_99 rfl (lv_at hl 0 rfl) ?_
    subst hQ
    exact W.iret hx hb hr (fun t ht hW => ⟨_, rfl, Option.some.inj h, ht⟩) (fun _ h9 => by cases h9) dX8_halves_100
  replace h := hk_ip c25 h
  refine lv_iconst (v := (-1 : Int32)) hx hb dX8_halves_7 (by decide) ?_
  subst hQ
  exact W.iret hx hb hr (fun t ht hW => ⟨_, rfl, Option.some.inj h, ht⟩) (fun _ h9 => by cases h9) dX8_halves_8
theorem zv_X8_split : yX8_split.cls = RX8 ∧ yX8_split.cls ≠ "java/lang/invoke/MethodHandle" ∧ yX8_split.cls ≠ "java/lang/invoke/VarHandle" ∧ (parseMethodDescriptor yX8_split.desc).map (fun d => d.parameters.length) = some 4 := by decide +kernel
def f_X8_split (c_this_figures : Nat → Int64)  (x1 : Int32) (x2 : Int32) (x3 : Int32) (x4 : Int32) : Option (Int32 × (Nat → Int64)) := hk_b1 (f_X8_isFigure x1) fun r21 => if r21 = 0 then (some ((-1 : Int32), c_this_figures)) else (hk_b1 (f_X8_isFigure x4) fun r26 => if r26 = 0 then (some ((-1 : Int32), c_this_figures)) else (hk_b1 (f_X8_isLine x2 x3) fun r31 => if r31 = 0 then (some ((-2 : Int32), c_this_figures)) else (if x1 = x4 then (some ((-3 : Int32), c_this_figures)) else (hk_b1 (f_X8_aheadOf x2 x3) fun r37 => hk_gd (hk_inb x1 8) (hk_gd (hk_inb x4 8) (hk_gd (hk_inb x1 8) (hk_gd (hk_inb x1 8) (hk_gd (hk_inb x4 8) (hk_b1 (f_X8_ones ((vp_updL (vp_updL c_this_figures x4.toNatClampNeg ((c_this_figures x1.toNatClampNeg) &&& (r37 ^^^ (-1 : Int64)))) x1.toNatClampNeg (((vp_updL c_this_figures x4.toNatClampNeg ((c_this_figures x1.toNatClampNeg) &&& (r37 ^^^ (-1 : Int64)))) x1.toNatClampNeg) &&& r37)) x4.toNatClampNeg)) fun r46 => some (r46, (vp_updL (vp_updL c_this_figures x4.toNatClampNeg ((c_this_figures x1.toNatClampNeg) &&& (r37 ^^^ (-1 : Int64)))) x1.toNatClampNeg (((vp_updL c_this_figures x4.toNatClampNeg ((c_this_figures x1.toNatClampNeg) &&& (r37 ^^^ (-1 : Int64)))) x1.toNatClampNeg) &&& r37))))))))))))
theorem zi_X8_split_X8 : ∀ w ∈ u_ws RX8 TX8 23, w ∈ wsX8_split := by decide +kernel
set_option maxHeartbeats 8000000 in
set_option maxRecDepth 100000 in
theorem c_X8_split (l : Launch) (D : va_G) (cI cJ cZ cO : ClassId) (a_this a_this_near a_this_turned a_this_figures a_this_text a_this_sectors a_this_corners a_this_likes a_this_laid a_this_isMirrored a_this_places a_this_placeMany a_this_now a_this_firsts a_this_forms a_this_isKept a_this_keptFigures a_this_keptPieces a_this_keptLaid a_this_keptMirrored : Nat) (sz : Nat) (c_this_length : Int32) (c_this_doubles : Int32) (c_this_likeMany : Int32) (c_this_pieces : Int32) (c_this_figures : Nat → Int64) (x1 : Int32) (x2 : Int32) (x3 : Int32) (x4 : Int32) (rv : Int32) (u_this_figures : Nat → Int64) (hf : f_X8_split c_this_figures x1 x2 x3 x4 = some (rv, u_this_figures)) : Met l yX8_split wsX8_split ({ frames := 2, cells := 0, slots := 0, locals := 46 }) (va_Pc [.ref a_this, .int x1, .int x2, .int x3, .int x4] (hkM D cI cJ cZ cO [(a_this, .inr (4, [.ref a_this_near, .ref a_this_turned, .ref a_this_figures, .ref a_this_text, .int c_this_length, .ref a_this_sectors, .ref a_this_corners, .int c_this_doubles, .ref a_this_likes, .int c_this_likeMany, .int c_this_pieces, .ref a_this_laid, .ref a_this_isMirrored, .ref a_this_places, .ref a_this_placeMany, .ref a_this_now, .ref a_this_firsts, .ref a_this_forms, .ref a_this_isKept, .ref a_this_keptFigures, .ref a_this_keptPieces, .ref a_this_keptLaid, .ref a_this_keptMirrored])), (a_this_figures, .inl (cJ, 8, .inr (.inl c_this_figures)))] sz)) (va_Qi (fun r (_ : Unit) => r = rv) (fun _ t => va_P D vwCl [(a_this, .inr (4, [.ref a_this_near, .ref a_this_turned, .ref a_this_figures, .ref a_this_text, .int c_this_length, .ref a_this_sectors, .ref a_this_corners, .int c_this_doubles, .ref a_this_likes, .int c_this_likeMany, .int c_this_pieces, .ref a_this_laid, .ref a_this_isMirrored, .ref a_this_places, .ref a_this_placeMany, .ref a_this_now, .ref a_this_firsts, .ref a_this_forms, .ref a_this_isKept, .ref a_this_keptFigures, .ref a_this_keptPieces, .ref a_this_keptLaid, .ref a_this_keptMirrored])), (a_this_figures, .inl (cJ, 8, .inr (.inl u_this_figures)))] t.heap ∧ va_D (va_A [(a_this, .inr (4, [.ref a_this_near, .ref a_this_turned, .ref a_this_figures, .ref a_this_text, .int c_this_length, .ref a_this_sectors, .ref a_this_corners, .int c_this_doubles, .ref a_this_likes, .int c_this_likeMany, .int c_this_pieces, .ref a_this_laid, .ref a_this_isMirrored, .ref a_this_places, .ref a_this_placeMany, .ref a_this_now, .ref a_this_firsts, .ref a_this_forms, .ref a_this_isKept, .ref a_this_keptFigures, .ref a_this_keptPieces, .ref a_this_keptLaid, .ref a_this_keptMirrored])), (a_this_figures, .inl (cJ, 8, .inr (.inl c_this_figures)))] sz) [(a_this, .inr (4, [.ref a_this_near, .ref a_this_turned, .ref a_this_figures, .ref a_this_text, .int c_this_length, .ref a_this_sectors, .ref a_this_corners, .int c_this_doubles, .ref a_this_likes, .int c_this_likeMany, .int c_this_pieces, .ref a_this_laid, .ref a_this_isMirrored, .ref a_this_places, .ref a_this_placeMany, .ref a_this_now, .ref a_this_firsts, .ref a_this_forms, .ref a_this_isKept, .ref a_this_keptFigures, .ref a_this_keptPieces, .ref a_this_keptLaid, .ref a_this_keptMirrored])), (a_this_figures, .inl (cJ, 8, .inr (.inl u_this_figures)))]) (va_A [(a_this, .inr (4, [.ref a_this_near, .ref a_this_turned, .ref a_this_figures, .ref a_this_text, .int c_this_length, .ref a_this_sectors, .ref a_this_corners, .int c_this_doubles, .ref a_this_likes, .int c_this_likeMany, .int c_this_pieces, .ref a_this_laid, .ref a_this_isMirrored, .ref a_this_places, .ref a_this_placeMany, .ref a_this_now, .ref a_this_firsts, .ref a_this_forms, .ref a_this_isKept, .ref a_this_keptFigures, .ref a_this_keptPieces, .ref a_this_keptLaid, .ref a_this_keptMirrored])), (a_this_figures, .inl (cJ, 8, .inr (.inl c_this_figures)))] sz)) 0 0 (va_A [(a_this, .inr (4, [.ref a_this_near, .ref a_this_turned, .ref a_this_figures, .ref a_this_text, .int c_this_length, .ref a_this_sectors, .ref a_this_corners, .int c_this_doubles, .ref a_this_likes, .int c_this_likeMany, .int c_this_pieces, .ref a_this_laid, .ref a_this_isMirrored, .ref a_this_places, .ref a_this_placeMany, .ref a_this_now, .ref a_this_firsts, .ref a_this_forms, .ref a_this_isKept, .ref a_this_keptFigures, .ref a_this_keptPieces, .ref a_this_keptLaid, .ref a_this_keptMirrored])), (a_this_figures, .inl (cJ, 8, .inr (.inl c_this_figures)))] sz) := by
  refine Met.ofW (cc := cX8_split) (maxL := 7) (ret := (some .int)) (by decide) rfl ?_
  intro p e s m args below meth c s₁ B hml hv
  obtain ⟨rfl, hsz, hP, hK, hD0⟩ := hv
  have hx := B.exec
  have hb := B.bytes
  have hr := B.returns
  have hts := atoms_spec (ws := wsX8_split) B.pre
  have hown : s.vm.findClass RX8 = some m.cls := findClass_of_methodNamed B.named
  have hlocks := B.notSynchronized
  have hN := hK.2
  subst hsz
  have hD := hD0.self (sz := s.heap.size)
  generalize hAe : va_A [(a_this, .inr (4, [.ref a_this_near, .ref a_this_turned, .ref a_this_figures, .ref a_this_text, .int c_this_length, .ref a_this_sectors, .ref a_this_corners, .int c_this_doubles, .ref a_this_likes, .int c_this_likeMany, .int c_this_pieces, .ref a_this_laid, .ref a_this_isMirrored, .ref a_this_places, .ref a_this_placeMany, .ref a_this_now, .ref a_this_firsts, .ref a_this_forms, .ref a_this_isKept, .ref a_this_keptFigures, .ref a_this_keptPieces, .ref a_this_keptLaid, .ref a_this_keptMirrored])), (a_this_figures, .inl (cJ, 8, .inr (.inl c_this_figures)))] s.heap.size = A at hD ⊢
  have hA : ∀ q : Nat, s.heap.size ≤ q → A q := fun q h => by rw [← hAe]; exact Or.inr h
  have hS : va_S A s.heap s.heap [] := va_S.rf
  have hl := lv_entry ([.ref a_this, .int x1, .int x2, .int x3, .int x4]) (n := 7) (Nat.le_of_ble_eq_true rfl)
  rw [lg_entry_eq]
  generalize (lg_sl ([.ref a_this, .int x1, .int x2, .int x3, .int x4]) ++ List.replicate (7 - (lg_sl ([.ref a_this, .int x1, .int x2, .int x3, .int x4])).length) Slot.unset).toArray = ls at hl ⊢
  have hl : lv_has ls 7 [(0, .ref a_this), (1, .int x1), (2, .int x2), (3, .int x3), (4, .int x4)] := hl
  refine hk_Q (fun Q hQ => ?_)
  have h := hf
  unfold f_X8_split at h
  refine lv_iload_n hx hb dX8_split_0 rfl (lv_at hl 1 rfl) ?_
  obtain ⟨r21, hr22, h⟩ := hk_x1 h
  refine vp_callSi (W.runS (As := [.int x1]) (rest := []) ⟨hx, hb, hml, hown, hts⟩ (c_X8_isFigure l x1 _ hr22) (va_cwS 1 hts gX8_split_X8_isFigure rfl rfl rfl zs_X8_isFigure ⟨Nat.le_of_ble_eq_true rfl, Nat.le_of_ble_eq_true rfl⟩) ⟨fun _ _ _ _ q => q, fun _ _ _ => ⟨rfl, trivial⟩⟩ rfl rfl hl.1 rfl (lv_room (Nat.le_of_ble_eq_true rfl)) dX8_split_1 ⟨Nat.zero_le _, Nat.zero_le _⟩) (fun p24 e23 => ?_)
  rw [e23]
  refine lv_if_eq (tgt := 15) hx hb dX8_split_4 (by decide) (fun c25 => ?_) (fun c25 => ?_)
  · replace h := hk_ip c25 h
    refine lv_iconst (v := (-1 : Int32)) hx hb dX8_split_15 (by decide) ?_
    subst hQ
    have h := Option.some.inj h
    simp only [Prod.mk.injEq] at h
    obtain ⟨rfl, rfl⟩ := h
    exact W.iret hx hb hr (fun t ht hW => ⟨⟨_, (), rfl, rfl, by rw [ht]; exact hP, hD⟩, hS.F ht⟩) hS.2.2 dX8_split_16
  replace h := hk_in c25 h
  refine lv_iload hx hb dX8_split_7 (lv_at hl 4 rfl) ?_
  obtain ⟨r26, hr27, h⟩ := hk_x1 h
  refine vp_callSi (W.runS (As := [.int x4]) (rest := []) ⟨hx, hb, hml, hown, hts⟩ (c_X8_isFigure l x4 _ hr27) (va_cwS 1 hts gX8_split_X8_isFigure rfl rfl rfl zs_X8_isFigure ⟨Nat.le_of_ble_eq_true rfl, Nat.le_of_ble_eq_true rfl⟩) ⟨fun _ _ _ _ q => q, fun _ _ _ => ⟨rfl, trivial⟩⟩ rfl rfl hl.1 rfl (lv_room (Nat.le_of_ble_eq_true rfl)) dX8_split_9 ⟨Nat.zero_le _, Nat.zero_le _⟩) (fun p29 e28 => ?_)
  rw [e28]
  refine lv_if_ne (tgt := 17) hx hb dX8_split_12 (by decide) (fun c30 => ?_) (fun c30 => ?_)
  · replace h := hk_in c30 h
    refine lv_iload_n hx hb dX8_split_17 rfl (lv_at hl 2 rfl) ?_
    refine lv_iload_n hx hb dX8_split_18 rfl (lv_at hl 3 rfl) ?_
    obtain ⟨r31, hr32, h⟩ := hk_x1 h
    refine vp_callSi (W.runS (As := [.int x2, .int x3]) (rest := []) ⟨hx, hb, hml, hown, hts⟩ (c_X8_isLine l x2 x3 _ hr32) (va_cwS 2 hts gX8_split_X8_isLine rfl rfl rfl zs_X8_isLine ⟨Nat.le_of_ble_eq_true rfl, Nat.le_of_ble_eq_true rfl⟩) ⟨fun _ _ _ _ q => q, fun _ _ _ => ⟨rfl, trivial⟩⟩ rfl rfl hl.1 rfl (lv_room (Nat.le_of_ble_eq_true rfl)) dX8_split_19 ⟨Nat.zero_le _, Nat.zero_le _⟩) (fun p34 e33 => ?_)
    rw [e33]
    refine lv_if_ne (tgt := 28) hx hb dX8_split_22 (by decide) (fun c35 => ?_) (fun c35 => ?_)
    · replace h := hk_in c35 h
      refine lv_iload_n hx hb dX8_split_28 rfl (lv_at hl 1 rfl) ?_
      refine lv_iload hx hb dX8_split_29 (lv_at hl 4 rfl) ?_
      refine lv_icmp_ne (tgt := 37) hx hb dX8_split_31 (by decide) (fun c36 => ?_) (fun c36 => ?_)
      · replace h := hk_in c36 h
        refine lv_iload_n hx hb dX8_split_37 rfl (lv_at hl 2 rfl) ?_
        refine lv_iload_n hx hb dX8_split_38 rfl (lv_at hl 3 rfl) ?_
        obtain ⟨r37, hr38, h⟩ := hk_x1 h
        refine vp_callSl (W.runS (As := [.int x2, .int x3]) (rest := []) ⟨hx, hb, hml, hown, hts⟩ (c_X8_aheadOf l x2 x3 _ hr38) (va_cwS 2 hts gX8_split_X8_aheadOf rfl rfl rfl zs_X8_aheadOf ⟨Nat.le_of_ble_eq_true rfl, Nat.le_of_ble_eq_true rfl⟩) ⟨fun _ _ _ _ q => q, fun _ _ _ => ⟨rfl, trivial⟩⟩ rfl rfl hl.1 rfl (lv_room (Nat.le_of_ble_eq_true rfl)) dX8_split_39 ⟨Nat.zero_le _, Nat.zero_le _⟩) (fun p40 e39 => ?_)
        rw [e39]
        refine lv_lstore (lv' := [(5, .long r37), (0, .ref a_this), (1, .int x1), (2, .int x2), (3, .int x3), (4, .int x4)]) hx hb dX8_split_42 hl (by decide) rfl (fun ls hl => ?_)
        refine lv_aload_n hx hb dX8_split_44 rfl (lv_at hl 1 rfl) ?_
        refine va_get (D := D) (ci := 4) (v := .ref a_this_figures) (C := RX8) (T := TX8) (N := 23) hx hb hts zi_X8_split_X8 hown hK.1 hP 0 rfl rfl 2 (by decide) (hts (.fieldLink RX8 17 "HalfAndHalfAgainModel" "figures" "[J") (List.mem_of_getElem? (i := 1) rfl)) (fun _ h9 => h9) rfl dX8_split_45 ?_
        refine lv_iload hx hb dX8_split_48 (lv_at hl 5 rfl) ?_
        refine lv_aload_n hx hb dX8_split_50 rfl (lv_at hl 1 rfl) ?_
        refine va_get (D := D) (ci := 4) (v := .ref a_this_figures) (C := RX8) (T := TX8) (N := 23) hx hb hts zi_X8_split_X8 hown hK.1 hP 0 rfl rfl 2 (by decide) (hts (.fieldLink RX8 17 "HalfAndHalfAgainModel" "figures" "[J") (List.mem_of_getElem? (i := 1) rfl)) (fun _ h9 => h9) rfl dX8_split_51 ?_
        refine lv_iload_n hx hb dX8_split_54 rfl (lv_at hl 2 rfl) ?_
        obtain ⟨hi41, h⟩ := hk_ge h
        refine va_lald hx hb hK.1 hP 1 1 rfl rfl (hk_inb_of hi41) dX8_split_55 ?_
        refine lv_lload hx hb dX8_split_56 (lv_at hl 0 rfl) ?_
        refine lv_ldc2 (v := (-1 : Int64)) hx hb hown (hts (.constantLong RX8 118 (-1)) (List.mem_of_getElem? (i := 2) rfl)) dX8_split_58 ?_
        refine lv_lxor hx hb dX8_split_61 ?_
        refine lv_land hx hb dX8_split_62 ?_
        obtain ⟨hi42, h⟩ := hk_ge h
        refine va_last hx hb hK.1 hP hD hS 1 1 rfl rfl (hk_inb_of hi42) dX8_split_63 (fun H locs hP hD hS => ?_)
        have hP : va_P D vwCl [(a_this, .inr (4, [.ref a_this_near, .ref a_this_turned, .ref a_this_figures, .ref a_this_text, .int c_this_length, .ref a_this_sectors, .ref a_this_corners, .int c_this_doubles, .ref a_this_likes, .int c_this_likeMany, .int c_this_pieces, .ref a_this_laid, .ref a_this_isMirrored, .ref a_this_places, .ref a_this_placeMany, .ref a_this_now, .ref a_this_firsts, .ref a_this_forms, .ref a_this_isKept, .ref a_this_keptFigures, .ref a_this_keptPieces, .ref a_this_keptLaid, .ref a_this_keptMirrored])), (a_this_figures, .inl (cJ, 8, .inr (.inl (vp_updL c_this_figures x4.toNatClampNeg ((c_this_figures x1.toNatClampNeg) &&& (r37 ^^^ (-1 : Int64)))))))] H := hP
        have hD : va_D A [(a_this, .inr (4, [.ref a_this_near, .ref a_this_turned, .ref a_this_figures, .ref a_this_text, .int c_this_length, .ref a_this_sectors, .ref a_this_corners, .int c_this_doubles, .ref a_this_likes, .int c_this_likeMany, .int c_this_pieces, .ref a_this_laid, .ref a_this_isMirrored, .ref a_this_places, .ref a_this_placeMany, .ref a_this_now, .ref a_this_firsts, .ref a_this_forms, .ref a_this_isKept, .ref a_this_keptFigures, .ref a_this_keptPieces, .ref a_this_keptLaid, .ref a_this_keptMirrored])), (a_this_figures, .inl (cJ, 8, .inr (.inl (vp_updL c_this_figures x4.toNatClampNeg ((c_this_figures x1.toNatClampNeg) &&& (r37 ^^^ (-1 : Int64)))))))] := hD
        refine lv_aload_n hx hb dX8_split_64 rfl (lv_at hl 1 rfl) ?_
        refine va_get (D := D) (ci := 4) (v := .ref a_this_figures) (C := RX8) (T := TX8) (N := 23) hx hb hts zi_X8_split_X8 hown hK.1 hP 0 rfl rfl 2 (by decide) (hts (.fieldLink RX8 17 "HalfAndHalfAgainModel" "figures" "[J") (List.mem_of_getElem? (i := 1) rfl)) (fun _ h9 => h9) rfl dX8_split_65 ?_
        refine lv_iload_n hx hb dX8_split_68 rfl (lv_at hl 2 rfl) ?_
        refine lv_dup2_11 hx hb dX8_split_69 rfl rfl ?_
        obtain ⟨hi43, h⟩ := hk_ge h
        refine va_lald hx hb hK.1 hP 1 1 rfl rfl (hk_inb_of hi43) dX8_split_70 ?_
        refine lv_lload hx hb dX8_split_71 (lv_at hl 0 rfl) ?_
        refine lv_land hx hb dX8_split_73 ?_
        obtain ⟨hi44, h⟩ := hk_ge h
        refine va_last hx hb hK.1 hP hD hS 1 1 rfl rfl (hk_inb_of hi44) dX8_split_74 (fun H locs hP hD hS => ?_)
        have hP : va_P D vwCl [(a_this, .inr (4, [.ref a_this_near, .ref a_this_turned, .ref a_this_figures, .ref a_this_text, .int c_this_length, .ref a_this_sectors, .ref a_this_corners, .int c_this_doubles, .ref a_this_likes, .int c_this_likeMany, .int c_this_pieces, .ref a_this_laid, .ref a_this_isMirrored, .ref a_this_places, .ref a_this_placeMany, .ref a_this_now, .ref a_this_firsts, .ref a_this_forms, .ref a_this_isKept, .ref a_this_keptFigures, .ref a_this_keptPieces, .ref a_this_keptLaid, .ref a_this_keptMirrored])), (a_this_figures, .inl (cJ, 8, .inr (.inl (vp_updL (vp_updL c_this_figures x4.toNatClampNeg ((c_this_figures x1.toNatClampNeg) &&& (r37 ^^^ (-1 : Int64)))) x1.toNatClampNeg (((vp_updL c_this_figures x4.toNatClampNeg ((c_this_figures x1.toNatClampNeg) &&& (r37 ^^^ (-1 : Int64)))) x1.toNatClampNeg) &&& r37)))))] H := hP
        have hD : va_D A [(a_this, .inr (4, [.ref a_this_near, .ref a_this_turned, .ref a_this_figures, .ref a_this_text, .int c_this_length, .ref a_this_sectors, .ref a_this_corners, .int c_this_doubles, .ref a_this_likes, .int c_this_likeMany, .int c_this_pieces, .ref a_this_laid, .ref a_this_isMirrored, .ref a_this_places, .ref a_this_placeMany, .ref a_this_now, .ref a_this_firsts, .ref a_this_forms, .ref a_this_isKept, .ref a_this_keptFigures, .ref a_this_keptPieces, .ref a_this_keptLaid, .ref a_this_keptMirrored])), (a_this_figures, .inl (cJ, 8, .inr (.inl (vp_updL (vp_updL c_this_figures x4.toNatClampNeg ((c_this_figures x1.toNatClampNeg) &&& (r37 ^^^ (-1 : Int64)))) x1.toNatClampNeg (((vp_updL c_this_figures x4.toNatClampNeg ((c_this_figures x1.toNatClampNeg) &&& (r37 ^^^ (-1 : Int64)))) x1.toNatClampNeg) &&& r37)))))] := hD
        refine lv_aload_n hx hb dX8_split_75 rfl (lv_at hl 1 rfl) ?_
        refine va_get (D := D) (ci := 4) (v := .ref a_this_figures) (C := RX8) (T := TX8) (N := 23) hx hb hts zi_X8_split_X8 hown hK.1 hP 0 rfl rfl 2 (by decide) (hts (.fieldLink RX8 17 "HalfAndHalfAgainModel" "figures" "[J") (List.mem_of_getElem? (i := 1) rfl)) (fun _ h9 => h9) rfl dX8_split_76 ?_
        refine lv_iload hx hb dX8_split_79 (lv_at hl 5 rfl) ?_
        obtain ⟨hi45, h⟩ := hk_ge h
        refine va_lald hx hb hK.1 hP 1 1 rfl rfl (hk_inb_of hi45) dX8_split_81 ?_
        obtain ⟨r46, hr47, h⟩ := hk_x1 h
        refine vp_callSi (W.runS (As := [.long ((vp_updL (vp_updL c_this_figures x4.toNatClampNeg ((c_this_figures x1.toNatClampNeg) &&& (r37 ^^^ (-1 : Int64)))) x1.toNatClampNeg (((vp_updL c_this_figures x4.toNatClampNeg ((c_this_figures x1.toNatClampNeg) &&& (r37 ^^^ (-1 : Int64)))) x1.toNatClampNeg) &&& r37)) x4.toNatClampNeg)]) (rest := []) ⟨hx, hb, hml, hown, hts⟩ (c_X8_ones l ((vp_updL (vp_updL c_this_figures x4.toNatClampNeg ((c_this_figures x1.toNatClampNeg) &&& (r37 ^^^ (-1 : Int64)))) x1.toNatClampNeg (((vp_updL c_this_figures x4.toNatClampNeg ((c_this_figures x1.toNatClampNeg) &&& (r37 ^^^ (-1 : Int64)))) x1.toNatClampNeg) &&& r37)) x4.toNatClampNeg) _ hr47) (va_cwS 1 hts gX8_split_X8_ones rfl rfl rfl zs_X8_ones ⟨Nat.le_of_ble_eq_true rfl, Nat.le_of_ble_eq_true rfl⟩) ⟨fun _ _ _ _ q => q, fun _ _ _ => ⟨rfl, trivial⟩⟩ rfl rfl hl.1 rfl (lv_room (Nat.le_of_ble_eq_true rfl)) dX8_split_82 ⟨Nat.zero_le _, Nat.zero_le _⟩) (fun p49 e48 => ?_)
        rw [e48]
        subst hQ
        have h := Option.some.inj h
        simp only [Prod.mk.injEq] at h
        obtain ⟨rfl, rfl⟩ := h
        exact W.iret hx hb hr (fun t ht hW => ⟨⟨_, (), rfl, rfl, by rw [ht]; exact hP, hD⟩, hS.F ht⟩) hS.2.2 dX8_split_85
      replace h := hk_ip c36 h
      refine lv_bipush (v := (-3 : Int32)) hx hb dX8_split_34 (by decide) ?_
      subst hQ
      have h := Option.some.inj h
      simp only [Prod.mk.injEq] at h
      obtain ⟨rfl, rfl⟩ := h
      exact W.iret hx hb hr (fun t ht hW => ⟨⟨_, (), rfl, rfl, by rw [ht]; exact hP, hD⟩, hS.F ht⟩) hS.2.2 dX8_split_36
    replace h := hk_ip c35 h
    refine lv_bipush (v := (-2 : Int32)) hx hb dX8_split_25 (by decide) ?_
    subst hQ
    have h := Option.some.inj h
    simp only [Prod.mk.injEq] at h
    obtain ⟨rfl, rfl⟩ := h
    exact W.iret hx hb hr (fun t ht hW => ⟨⟨_, (), rfl, rfl, by rw [ht]; exact hP, hD⟩, hS.F ht⟩) hS.2.2 dX8_split_27
  replace h := hk_ip c30 h
  refine lv_iconst (v := (-1 : Int32)) hx hb dX8_split_15 (by decide) ?_
  subst hQ
  have h := Option.some.inj h
  simp only [Prod.mk.injEq] at h
  obtain ⟨rfl, rfl⟩ := h
  exact W.iret hx hb hr (fun t ht hW => ⟨⟨_, (), rfl, rfl, by rw [ht]; exact hP, hD⟩, hS.F ht⟩) hS.2.2 dX8_split_16
