/-! walks printed by wip/whole/gen.py -/
theorem zv_X8_part : yX8_part.cls = RX8 ∧ yX8_part.cls ≠ "java/lang/invoke/MethodHandle" ∧ yX8_part.cls ≠ "java/lang/invoke/VarHandle" ∧ (parseMethodDescriptor yX8_part.desc).map (fun d => d.parameters.length) = some 3 := by decide +kernel
def f_X8_part (c_this_figures : Nat → Int64) (c_this_near : Nat → Int64)  (x1 : Int32) (x2 : Int32) (x3 : Int32) : Option (Int32 × (Nat → Int64)) := hk_b1 (f_X8_isFigure x1) fun r21 => if r21 = 0 then (some ((-1 : Int32), c_this_figures)) else (hk_b1 (f_X8_isFigure x2) fun r26 => if r26 = 0 then (some ((-1 : Int32), c_this_figures)) else (hk_b1 (if 0 ≤ x3 then (hk_gd (hk_inb x2 8) (hk_b1 (f_X8_partOf c_this_near (c_this_figures x2.toNatClampNeg) x3) fun r34 => some r34)) else (some (0 : Int64))) fun v38 => if v38 = (0 : Int64) then (some ((-3 : Int32), c_this_figures)) else (hk_gd (hk_inb x1 8) (hk_b1 (f_X8_ones v38) fun r41 => some (r41, (vp_updL c_this_figures x1.toNatClampNeg v38))))))
theorem zi_X8_part_X8 : ∀ w ∈ u_ws RX8 TX8 23, w ∈ wsX8_part := by decide +kernel
set_option maxHeartbeats 8000000 in
set_option maxRecDepth 100000 in
theorem c_X8_part (l : Launch) (D : va_G) (cI cJ cZ cO : ClassId) (a_this a_this_near a_this_turned a_this_figures a_this_text a_this_sectors a_this_corners a_this_likes a_this_laid a_this_isMirrored a_this_places a_this_placeMany a_this_now a_this_firsts a_this_forms a_this_isKept a_this_keptFigures a_this_keptPieces a_this_keptLaid a_this_keptMirrored : Nat) (sz : Nat) (c_this_length : Int32) (c_this_doubles : Int32) (c_this_likeMany : Int32) (c_this_pieces : Int32) (c_this_figures : Nat → Int64) (c_this_near : Nat → Int64) (x1 : Int32) (x2 : Int32) (x3 : Int32) (rv : Int32) (u_this_figures : Nat → Int64) (hf : f_X8_part c_this_figures c_this_near x1 x2 x3 = some (rv, u_this_figures)) : Met l yX8_part wsX8_part ({ frames := 3, cells := 0, slots := 0, locals := 79 }) (va_Pc [.ref a_this, .int x1, .int x2, .int x3] (hkM D cI cJ cZ cO [(a_this, .inr (4, [.ref a_this_near, .ref a_this_turned, .ref a_this_figures, .ref a_this_text, .int c_this_length, .ref a_this_sectors, .ref a_this_corners, .int c_this_doubles, .ref a_this_likes, .int c_this_likeMany, .int c_this_pieces, .ref a_this_laid, .ref a_this_isMirrored, .ref a_this_places, .ref a_this_placeMany, .ref a_this_now, .ref a_this_firsts, .ref a_this_forms, .ref a_this_isKept, .ref a_this_keptFigures, .ref a_this_keptPieces, .ref a_this_keptLaid, .ref a_this_keptMirrored])), (a_this_figures, .inl (cJ, 8, .inr (.inl c_this_figures))), (a_this_near, .inl (cJ, 64, .inr (.inl c_this_near)))] sz)) (va_Qi (fun r (_ : Unit) => r = rv) (fun _ t => va_P D vwCl [(a_this, .inr (4, [.ref a_this_near, .ref a_this_turned, .ref a_this_figures, .ref a_this_text, .int c_this_length, .ref a_this_sectors, .ref a_this_corners, .int c_this_doubles, .ref a_this_likes, .int c_this_likeMany, .int c_this_pieces, .ref a_this_laid, .ref a_this_isMirrored, .ref a_this_places, .ref a_this_placeMany, .ref a_this_now, .ref a_this_firsts, .ref a_this_forms, .ref a_this_isKept, .ref a_this_keptFigures, .ref a_this_keptPieces, .ref a_this_keptLaid, .ref a_this_keptMirrored])), (a_this_figures, .inl (cJ, 8, .inr (.inl u_this_figures))), (a_this_near, .inl (cJ, 64, .inr (.inl c_this_near)))] t.heap ∧ va_D (va_A [(a_this, .inr (4, [.ref a_this_near, .ref a_this_turned, .ref a_this_figures, .ref a_this_text, .int c_this_length, .ref a_this_sectors, .ref a_this_corners, .int c_this_doubles, .ref a_this_likes, .int c_this_likeMany, .int c_this_pieces, .ref a_this_laid, .ref a_this_isMirrored, .ref a_this_places, .ref a_this_placeMany, .ref a_this_now, .ref a_this_firsts, .ref a_this_forms, .ref a_this_isKept, .ref a_this_keptFigures, .ref a_this_keptPieces, .ref a_this_keptLaid, .ref a_this_keptMirrored])), (a_this_figures, .inl (cJ, 8, .inr (.inl c_this_figures))), (a_this_near, .inl (cJ, 64, .inr (.inl c_this_near)))] sz) [(a_this, .inr (4, [.ref a_this_near, .ref a_this_turned, .ref a_this_figures, .ref a_this_text, .int c_this_length, .ref a_this_sectors, .ref a_this_corners, .int c_this_doubles, .ref a_this_likes, .int c_this_likeMany, .int c_this_pieces, .ref a_this_laid, .ref a_this_isMirrored, .ref a_this_places, .ref a_this_placeMany, .ref a_this_now, .ref a_this_firsts, .ref a_this_forms, .ref a_this_isKept, .ref a_this_keptFigures, .ref a_this_keptPieces, .ref a_this_keptLaid, .ref a_this_keptMirrored])), (a_this_figures, .inl (cJ, 8, .inr (.inl u_this_figures))), (a_this_near, .inl (cJ, 64, .inr (.inl c_this_near)))]) (va_A [(a_this, .inr (4, [.ref a_this_near, .ref a_this_turned, .ref a_this_figures, .ref a_this_text, .int c_this_length, .ref a_this_sectors, .ref a_this_corners, .int c_this_doubles, .ref a_this_likes, .int c_this_likeMany, .int c_this_pieces, .ref a_this_laid, .ref a_this_isMirrored, .ref a_this_places, .ref a_this_placeMany, .ref a_this_now, .ref a_this_firsts, .ref a_this_forms, .ref a_this_isKept, .ref a_this_keptFigures, .ref a_this_keptPieces, .ref a_this_keptLaid, .ref a_this_keptMirrored])), (a_this_figures, .inl (cJ, 8, .inr (.inl c_this_figures))), (a_this_near, .inl (cJ, 64, .inr (.inl c_this_near)))] sz)) 0 0 (va_A [(a_this, .inr (4, [.ref a_this_near, .ref a_this_turned, .ref a_this_figures, .ref a_this_text, .int c_this_length, .ref a_this_sectors, .ref a_this_corners, .int c_this_doubles, .ref a_this_likes, .int c_this_likeMany, .int c_this_pieces, .ref a_this_laid, .ref a_this_isMirrored, .ref a_this_places, .ref a_this_placeMany, .ref a_this_now, .ref a_this_firsts, .ref a_this_forms, .ref a_this_isKept, .ref a_this_keptFigures, .ref a_this_keptPieces, .ref a_this_keptLaid, .ref a_this_keptMirrored])), (a_this_figures, .inl (cJ, 8, .inr (.inl c_this_figures))), (a_this_near, .inl (cJ, 64, .inr (.inl c_this_near)))] sz) := by
  refine Met.ofW (cc := cX8_part) (maxL := 6) (ret := (some .int)) (by decide) rfl ?_
  intro p e s m args below meth c s₁ B hml hv
  obtain ⟨rfl, hsz, hP, hK, hD0⟩ := hv
  have hx := B.exec
  have hb := B.bytes
  have hr := B.returns
  have hts := atoms_spec (ws := wsX8_part) B.pre
  have hown : s.vm.findClass RX8 = some m.cls := findClass_of_methodNamed B.named
  have hlocks := B.notSynchronized
  have hN := hK.2
  subst hsz
  have hD := hD0.self (sz := s.heap.size)
  generalize hAe : va_A [(a_this, .inr (4, [.ref a_this_near, .ref a_this_turned, .ref a_this_figures, .ref a_this_text, .int c_this_length, .ref a_this_sectors, .ref a_this_corners, .int c_this_doubles, .ref a_this_likes, .int c_this_likeMany, .int c_this_pieces, .ref a_this_laid, .ref a_this_isMirrored, .ref a_this_places, .ref a_this_placeMany, .ref a_this_now, .ref a_this_firsts, .ref a_this_forms, .ref a_this_isKept, .ref a_this_keptFigures, .ref a_this_keptPieces, .ref a_this_keptLaid, .ref a_this_keptMirrored])), (a_this_figures, .inl (cJ, 8, .inr (.inl c_this_figures))), (a_this_near, .inl (cJ, 64, .inr (.inl c_this_near)))] s.heap.size = A at hD ⊢
  have hA : ∀ q : Nat, s.heap.size ≤ q → A q := fun q h => by rw [← hAe]; exact Or.inr h
  have hS : va_S A s.heap s.heap [] := va_S.rf
  have hl := lv_entry ([.ref a_this, .int x1, .int x2, .int x3]) (n := 6) (Nat.le_of_ble_eq_true rfl)
  rw [lg_entry_eq]
  generalize (lg_sl ([.ref a_this, .int x1, .int x2, .int x3]) ++ List.replicate (6 - (lg_sl ([.ref a_this, .int x1, .int x2, .int x3])).length) Slot.unset).toArray = ls at hl ⊢
  have hl : lv_has ls 6 [(0, .ref a_this), (1, .int x1), (2, .int x2), (3, .int x3)] := hl
  refine hk_Q (fun Q hQ => ?_)
  have h := hf
  unfold f_X8_part at h
  refine lv_iload_n hx hb dX8_part_0 rfl (lv_at hl 1 rfl) ?_
  obtain ⟨r21, hr22, h⟩ := hk_x1 h
  refine vp_callSi (W.runS (As := [.int x1]) (rest := []) ⟨hx, hb, hml, hown, hts⟩ (c_X8_isFigure l x1 _ hr22) (va_cwS 1 hts gX8_part_X8_isFigure rfl rfl rfl zs_X8_isFigure ⟨Nat.le_of_ble_eq_true rfl, Nat.le_of_ble_eq_true rfl⟩) ⟨fun _ _ _ _ q => q, fun _ _ _ => ⟨rfl, trivial⟩⟩ rfl rfl hl.1 rfl (lv_room (Nat.le_of_ble_eq_true rfl)) dX8_part_1 ⟨Nat.zero_le _, Nat.zero_le _⟩) (fun p24 e23 => ?_)
  rw [e23]
  refine lv_if_eq (tgt := 14) hx hb dX8_part_4 (by decide) (fun c25 => ?_) (fun c25 => ?_)
  · replace h := hk_ip c25 h
    refine lv_iconst (v := (-1 : Int32)) hx hb dX8_part_14 (by decide) ?_
    subst hQ
    have h := Option.some.inj h
    simp only [Prod.mk.injEq] at h
    obtain ⟨rfl, rfl⟩ := h
    exact W.iret hx hb hr (fun t ht hW => ⟨⟨_, (), rfl, rfl, by rw [ht]; exact hP, hD⟩, hS.F ht⟩) hS.2.2 dX8_part_15
  replace h := hk_in c25 h
  refine lv_iload_n hx hb dX8_part_7 rfl (lv_at hl 2 rfl) ?_
  obtain ⟨r26, hr27, h⟩ := hk_x1 h
  refine vp_callSi (W.runS (As := [.int x2]) (rest := []) ⟨hx, hb, hml, hown, hts⟩ (c_X8_isFigure l x2 _ hr27) (va_cwS 1 hts gX8_part_X8_isFigure rfl rfl rfl zs_X8_isFigure ⟨Nat.le_of_ble_eq_true rfl, Nat.le_of_ble_eq_true rfl⟩) ⟨fun _ _ _ _ q => q, fun _ _ _ => ⟨rfl, trivial⟩⟩ rfl rfl hl.1 rfl (lv_room (Nat.le_of_ble_eq_true rfl)) dX8_part_8 ⟨Nat.zero_le _, Nat.zero_le _⟩) (fun p29 e28 => ?_)
  rw [e28]
  refine lv_if_ne (tgt := 16) hx hb dX8_part_11 (by decide) (fun c30 => ?_) (fun c30 => ?_)
  · replace h := hk_in c30 h
    refine lv_iload_n hx hb dX8_part_16 rfl (lv_at hl 3 rfl) ?_
    obtain ⟨v38, g31, h⟩ := hk_x1 h
    refine hk_joinR (nL := 6) (xs := fun (t9 : Int64) => (35, [(0, .ref a_this), (1, .int x1)], [.long t9])) v38 (fun hjg31 => ?_) ?_
    · refine lv_if_ge (tgt := 24) hx hb dX8_part_17 (by decide) (fun c32 => ?_) (fun c32 => ?_)
      · replace g31 := hk_ip c32 g31
        refine lv_aload_n hx hb dX8_part_24 rfl (lv_at hl 0 rfl) ?_
        refine lv_aload_n hx hb dX8_part_25 rfl (lv_at hl 0 rfl) ?_
        refine va_get (D := D) (ci := 4) (v := .ref a_this_figures) (C := RX8) (T := TX8) (N := 23) hx hb hts zi_X8_part_X8 hown hK.1 hP 0 rfl rfl 2 (by decide) (hts (.fieldLink RX8 17 "HalfAndHalfAgainModel" "figures" "[J") (List.mem_of_getElem? (i := 1) rfl)) (fun _ h9 => h9) rfl dX8_part_26 ?_
        refine lv_iload_n hx hb dX8_part_29 rfl (lv_at hl 2 rfl) ?_
        obtain ⟨hi33, g31⟩ := hk_ge g31
        refine va_lald hx hb hK.1 hP 1 1 rfl rfl (hk_inb_of hi33) dX8_part_30 ?_
        refine lv_iload_n hx hb dX8_part_31 rfl (lv_at hl 3 rfl) ?_
        obtain ⟨r34, hr35, g31⟩ := hk_x1 g31
        refine vp_callSl (W.runV (As := [.long (c_this_figures x2.toNatClampNeg), .int x3]) (rest := []) ⟨hx, hb, hml, hown, hts⟩ (c_X8_partOf l D cI cJ cZ cO a_this a_this_near a_this_turned a_this_figures a_this_text a_this_sectors a_this_corners a_this_likes a_this_laid a_this_isMirrored a_this_places a_this_placeMany a_this_now a_this_firsts a_this_forms a_this_isKept a_this_keptFigures a_this_keptPieces a_this_keptLaid a_this_keptMirrored c_this_length c_this_doubles c_this_likeMany c_this_pieces c_this_near (c_this_figures x2.toNatClampNeg) x3 _ hr35) (cwV 2 hts gX8_part_X8_partOf rfl rfl rfl zv_X8_partOf ⟨Nat.le_of_ble_eq_true rfl, Nat.le_of_ble_eq_true rfl⟩) (hk_preRV 4 rfl (hP.sub (ws' := [(a_this, .inr (4, [.ref a_this_near, .ref a_this_turned, .ref a_this_figures, .ref a_this_text, .int c_this_length, .ref a_this_sectors, .ref a_this_corners, .int c_this_doubles, .ref a_this_likes, .int c_this_likeMany, .int c_this_pieces, .ref a_this_laid, .ref a_this_isMirrored, .ref a_this_places, .ref a_this_placeMany, .ref a_this_now, .ref a_this_firsts, .ref a_this_forms, .ref a_this_isKept, .ref a_this_keptFigures, .ref a_this_keptPieces, .ref a_this_keptLaid, .ref a_this_keptMirrored])), (a_this_near, .inl (cJ, 64, .inr (.inl c_this_near)))]) [0, 2] rfl) hK rfl) rfl rfl hl.1 rfl (lv_room (Nat.le_of_ble_eq_true rfl)) dX8_part_32 ⟨Nat.zero_le _, Nat.zero_le _⟩) (fun p37 e36 => ?_)
        rw [e36]
        have g31 := Option.some.inj g31
        subst g31
        exact hjg31 ls (lv_sub hl [0, 1] rfl)
      replace g31 := hk_in c32 g31
      refine lv_lconst (v := (0 : Int64)) hx hb dX8_part_20 (by decide) ?_
      refine lv_goto (tgt := 35) hx hb dX8_part_21 (by decide) ?_
      have g31 := Option.some.inj g31
      subst g31
      exact hjg31 ls (lv_sub hl [0, 1] rfl)
    intro ls hl
    have hl : lv_has ls 6 [(0, .ref a_this), (1, .int x1)] := hl
    show W _ _ _ _ _ _ _ _ _ _ _ _ _ _ _ (F0 m 35 ls [.long v38])
    refine lv_lstore (lv' := [(4, .long v38), (0, .ref a_this), (1, .int x1)]) hx hb dX8_part_35 hl (by decide) rfl (fun ls hl => ?_)
    refine lv_lload hx hb dX8_part_37 (lv_at hl 0 rfl) ?_
    refine lv_lconst (v := (0 : Int64)) hx hb dX8_part_39 (by decide) ?_
    refine hk_lcmp_ne (tgt := 47) hx hb dX8_part_40 dX8_part_41 (by decide) (fun c39 => ?_) (fun c39 => ?_)
    · replace h := hk_in c39 h
      refine lv_aload_n hx hb dX8_part_47 rfl (lv_at hl 1 rfl) ?_
      refine va_get (D := D) (ci := 4) (v := .ref a_this_figures) (C := RX8) (T := TX8) (N := 23) hx hb hts zi_X8_part_X8 hown hK.1 hP 0 rfl rfl 2 (by decide) (hts (.fieldLink RX8 17 "HalfAndHalfAgainModel" "figures" "[J") (List.mem_of_getElem? (i := 1) rfl)) (fun _ h9 => h9) rfl dX8_part_48 ?_
      refine lv_iload_n hx hb dX8_part_51 rfl (lv_at hl 2 rfl) ?_
      refine lv_lload hx hb dX8_part_52 (lv_at hl 0 rfl) ?_
      obtain ⟨hi40, h⟩ := hk_ge h
      refine va_last hx hb hK.1 hP hD hS 1 1 rfl rfl (hk_inb_of hi40) dX8_part_54 (fun H locs hP hD hS => ?_)
      have hP : va_P D vwCl [(a_this, .inr (4, [.ref a_this_near, .ref a_this_turned, .ref a_this_figures, .ref a_this_text, .int c_this_length, .ref a_this_sectors, .ref a_this_corners, .int c_this_doubles, .ref a_this_likes, .int c_this_likeMany, .int c_this_pieces, .ref a_this_laid, .ref a_this_isMirrored, .ref a_this_places, .ref a_this_placeMany, .ref a_this_now, .ref a_this_firsts, .ref a_this_forms, .ref a_this_isKept, .ref a_this_keptFigures, .ref a_this_keptPieces, .ref a_this_keptLaid, .ref a_this_keptMirrored])), (a_this_figures, .inl (cJ, 8, .inr (.inl (vp_updL c_this_figures x1.toNatClampNeg v38)))), (a_this_near, .inl (cJ, 64, .inr (.inl c_this_near)))] H := hP
      have hD : va_D A [(a_this, .inr (4, [.ref a_this_near, .ref a_this_turned, .ref a_this_figures, .ref a_this_text, .int c_this_length, .ref a_this_sectors, .ref a_this_corners, .int c_this_doubles, .ref a_this_likes, .int c_this_likeMany, .int c_this_pieces, .ref a_this_laid, .ref a_this_isMirrored, .ref a_this_places, .ref a_this_placeMany, .ref a_this_now, .ref a_this_firsts, .ref a_this_forms, .ref a_this_isKept, .ref a_this_keptFigures, .ref a_this_keptPieces, .ref a_this_keptLaid, .ref a_this_keptMirrored])), (a_this_figures, .inl (cJ, 8, .inr (.inl (vp_updL c_this_figures x1.toNatClampNeg v38)))), (a_this_near, .inl (cJ, 64, .inr (.inl c_this_near)))] := hD
      refine lv_lload hx hb dX8_part_55 (lv_at hl 0 rfl) ?_
      obtain ⟨r41, hr42, h⟩ := hk_x1 h
      refine vp_callSi (W.runS (As := [.long v38]) (rest := []) ⟨hx, hb, hml, hown, hts⟩ (c_X8_ones l v38 _ hr42) (va_cwS 1 hts gX8_part_X8_ones rfl rfl rfl zs_X8_ones ⟨Nat.le_of_ble_eq_true rfl, Nat.le_of_ble_eq_true rfl⟩) ⟨fun _ _ _ _ q => q, fun _ _ _ => ⟨rfl, trivial⟩⟩ rfl rfl hl.1 rfl (lv_room (Nat.le_of_ble_eq_true rfl)) dX8_part_57 ⟨Nat.zero_le _, Nat.zero_le _⟩) (fun p44 e43 => ?_)
      rw [e43]
      subst hQ
      have h := Option.some.inj h
      simp only [Prod.mk.injEq] at h
      obtain ⟨rfl, rfl⟩ := h
      exact W.iret hx hb hr (fun t ht hW => ⟨⟨_, (), rfl, rfl, by rw [ht]; exact hP, hD⟩, hS.F ht⟩) hS.2.2 dX8_part_60
    replace h := hk_ip c39 h
    refine lv_bipush (v := (-3 : Int32)) hx hb dX8_part_44 (by decide) ?_
    subst hQ
    have h := Option.some.inj h
    simp only [Prod.mk.injEq] at h
    obtain ⟨rfl, rfl⟩ := h
    exact W.iret hx hb hr (fun t ht hW => ⟨⟨_, (), rfl, rfl, by rw [ht]; exact hP, hD⟩, hS.F ht⟩) hS.2.2 dX8_part_46
  replace h := hk_ip c30 h
  refine lv_iconst (v := (-1 : Int32)) hx hb dX8_part_14 (by decide) ?_
  subst hQ
  have h := Option.some.inj h
  simp only [Prod.mk.injEq] at h
  obtain ⟨rfl, rfl⟩ := h
  exact W.iret hx hb hr (fun t ht hW => ⟨⟨_, (), rfl, rfl, by rw [ht]; exact hP, hD⟩, hS.F ht⟩) hS.2.2 dX8_part_15
theorem zv_X8_isPiece : yX8_isPiece.cls = RX8 ∧ yX8_isPiece.cls ≠ "java/lang/invoke/MethodHandle" ∧ yX8_isPiece.cls ≠ "java/lang/invoke/VarHandle" ∧ (parseMethodDescriptor yX8_isPiece.desc).map (fun d => d.parameters.length) = some 1 := by decide +kernel
def f_X8_isPiece (c_this_pieces : Int32)  (x1 : Int32) : Option Int32 := hk_b1 (f_X8_in (x1.toInt64) (0 : Int64) (((c_this_pieces - (1 : Int32))).toInt64)) fun r21 => hk_gd (hk_isb r21) (some r21)
theorem zi_X8_isPiece_X8 : ∀ w ∈ u_ws RX8 TX8 23, w ∈ wsX8_isPiece := by decide +kernel
set_option maxHeartbeats 8000000 in
set_option maxRecDepth 100000 in
theorem c_X8_isPiece (l : Launch) (D : va_G) (cI cJ cZ cO : ClassId) (a_this a_this_near a_this_turned a_this_figures a_this_text a_this_sectors a_this_corners a_this_likes a_this_laid a_this_isMirrored a_this_places a_this_placeMany a_this_now a_this_firsts a_this_forms a_this_isKept a_this_keptFigures a_this_keptPieces a_this_keptLaid a_this_keptMirrored : Nat) (c_this_length : Int32) (c_this_doubles : Int32) (c_this_likeMany : Int32) (c_this_pieces : Int32) (x1 : Int32) (rv : Int32) (hf : f_X8_isPiece c_this_pieces x1 = some rv) : Met l yX8_isPiece wsX8_isPiece ({ frames := 1, cells := 0, slots := 0, locals := 25 }) (va_Pc [.ref a_this, .int x1] (hkR D cI cJ cZ cO [(a_this, .inr (4, [.ref a_this_near, .ref a_this_turned, .ref a_this_figures, .ref a_this_text, .int c_this_length, .ref a_this_sectors, .ref a_this_corners, .int c_this_doubles, .ref a_this_likes, .int c_this_likeMany, .int c_this_pieces, .ref a_this_laid, .ref a_this_isMirrored, .ref a_this_places, .ref a_this_placeMany, .ref a_this_now, .ref a_this_firsts, .ref a_this_forms, .ref a_this_isKept, .ref a_this_keptFigures, .ref a_this_keptPieces, .ref a_this_keptLaid, .ref a_this_keptMirrored]))])) (vp_Si (fun r => r = rv)) 0 0 (fun _ => False) := by
  refine Met.ofW (cc := cX8_isPiece) (maxL := 2) (ret := (some .boolean)) (by decide) rfl ?_
  intro p e s m args below meth c s₁ B hml hv
  obtain ⟨rfl, hP, hK⟩ := hv
  have hx := B.exec
  have hb := B.bytes
  have hr := B.returns
  have hts := atoms_spec (ws := wsX8_isPiece) B.pre
  have hown : s.vm.findClass RX8 = some m.cls := findClass_of_methodNamed B.named
  have hlocks := B.notSynchronized
  have hN := hK.2
  have hl := lv_entry ([.ref a_this, .int x1]) (n := 2) (Nat.le_of_ble_eq_true rfl)
  rw [lg_entry_eq]
  generalize (lg_sl ([.ref a_this, .int x1]) ++ List.replicate (2 - (lg_sl ([.ref a_this, .int x1])).length) Slot.unset).toArray = ls at hl ⊢
  have hl : lv_has ls 2 [(0, .ref a_this), (1, .int x1)] := hl
  refine hk_Q (fun Q hQ => ?_)
  have h := hf
  unfold f_X8_isPiece at h
  refine lv_iload_n hx hb dX8_isPiece_0 rfl (lv_at hl 1 rfl) ?_
  refine lv_i2l (v := (x1.toInt64)) hx hb dX8_isPiece_1 rfl ?_
  refine lv_lconst (v := (0 : Int64)) hx hb dX8_isPiece_2 (by decide) ?_
  refine lv_aload_n hx hb dX8_isPiece_3 rfl (lv_at hl 0 rfl) ?_
  refine va_get (D := D) (ci := 4) (v := .int c_this_pieces) (C := RX8) (T := TX8) (N := 23) hx hb hts zi_X8_isPiece_X8 hown hK.1 hP 0 rfl rfl 10 (by decide) (hts (.fieldLink RX8 197 "HalfAndHalfAgainModel" "pieces" "I") (List.mem_of_getElem? (i := 1) rfl)) (fun _ h9 => h9) rfl dX8_isPiece_4 ?_
  refine lv_iconst (v := (1 : Int32)) hx hb dX8_isPiece_7 (by decide) ?_
  refine lv_isub hx hb dX8_isPiece_8 ?_
  refine lv_i2l (v := (((c_this_pieces - (1 : Int32))).toInt64)) hx hb dX8_isPiece_9 rfl ?_
  obtain ⟨r21, hr22, h⟩ := hk_x1 h
  refine vp_callSi (W.runS (As := [.long (x1.toInt64), .long (0 : Int64), .long (((c_this_pieces - (1 : Int32))).toInt64)]) (rest := []) ⟨hx, hb, hml, hown, hts⟩ (c_X8_in l (x1.toInt64) (0 : Int64) (((c_this_pieces - (1 : Int32))).toInt64) _ hr22) (va_cwS 3 hts gX8_isPiece_X8_in rfl rfl rfl zs_X8_in ⟨Nat.le_of_ble_eq_true rfl, Nat.le_of_ble_eq_true rfl⟩) ⟨fun _ _ _ _ q => q, fun _ _ _ => ⟨rfl, trivial⟩⟩ rfl rfl hl.1 rfl (lv_room (Nat.le_of_ble_eq_true rfl)) dX8_isPiece_10 ⟨Nat.zero_le _, Nat.zero_le _⟩) (fun p24 e23 => ?_)
  rw [e23]
  obtain ⟨hz25, h⟩ := hk_ge h
  subst hQ
  exact W.zret hx hb hr (hk_isb_of hz25) (fun t ht hW => ⟨_, rfl, Option.some.inj h, ht⟩) (fun _ h9 => by cases h9) dX8_isPiece_13
theorem zv_X8_lay : yX8_lay.cls = RX8 ∧ yX8_lay.cls ≠ "java/lang/invoke/MethodHandle" ∧ yX8_lay.cls ≠ "java/lang/invoke/VarHandle" ∧ (parseMethodDescriptor yX8_lay.desc).map (fun d => d.parameters.length) = some 2 := by decide +kernel
def f_X8_lay (c_this_pieces : Int32) (c_this_figures : Nat → Int64) (c_this_laid : Nat → Int64) (c_this_isMirrored : Nat → Int32)  (x1 : Int32) (x2 : Int32) : Option (Int32 × Int32 × (Nat → Int64) × (Nat → Int32)) := hk_b1 (f_X8_isFigure x1) fun r21 => if r21 = 0 then (some ((-1 : Int32), c_this_pieces, c_this_laid, c_this_isMirrored)) else (hk_gd (hk_inb x1 8) (if (c_this_figures x1.toNatClampNeg) = (0 : Int64) then (some ((-3 : Int32), c_this_pieces, c_this_laid, c_this_isMirrored)) else (if c_this_pieces = (4 : Int32) then (some ((-4 : Int32), c_this_pieces, c_this_laid, c_this_isMirrored)) else (hk_gd (hk_inb x1 8) (hk_gd (hk_inb c_this_pieces 4) (hk_gd (hk_inb c_this_pieces 4) (hk_let (c_this_pieces + (1 : Int32)) fun x32 => some ((x32 - (1 : Int32)), x32, (vp_updL c_this_laid c_this_pieces.toNatClampNeg (c_this_figures x1.toNatClampNeg)), (upd c_this_isMirrored c_this_pieces.toNatClampNeg (vp_nar .boolean x2))))))))))
theorem zi_X8_lay_X8 : ∀ w ∈ u_ws RX8 TX8 23, w ∈ wsX8_lay := by decide +kernel
set_option maxHeartbeats 8000000 in
set_option maxRecDepth 100000 in
theorem c_X8_lay (l : Launch) (D : va_G) (cI cJ cZ cO : ClassId) (a_this a_this_near a_this_turned a_this_figures a_this_text a_this_sectors a_this_corners a_this_likes a_this_laid a_this_isMirrored a_this_places a_this_placeMany a_this_now a_this_firsts a_this_forms a_this_isKept a_this_keptFigures a_this_keptPieces a_this_keptLaid a_this_keptMirrored : Nat) (sz : Nat) (c_this_length : Int32) (c_this_doubles : Int32) (c_this_likeMany : Int32) (c_this_pieces : Int32) (c_this_figures : Nat → Int64) (c_this_laid : Nat → Int64) (c_this_isMirrored : Nat → Int32) (x1 : Int32) (x2 : Int32) (rv : Int32) (u_this_pieces : Int32) (u_this_laid : Nat → Int64) (u_this_isMirrored : Nat → Int32) (hf : f_X8_lay c_this_pieces c_this_figures c_this_laid c_this_isMirrored x1 x2 = some (rv, u_this_pieces, u_this_laid, u_this_isMirrored)) : Met l yX8_lay wsX8_lay ({ frames := 2, cells := 0, slots := 0, locals := 45 }) (va_Pc [.ref a_this, .int x1, .int x2] (hkM D cI cJ cZ cO [(a_this, .inr (4, [.ref a_this_near, .ref a_this_turned, .ref a_this_figures, .ref a_this_text, .int c_this_length, .ref a_this_sectors, .ref a_this_corners, .int c_this_doubles, .ref a_this_likes, .int c_this_likeMany, .int c_this_pieces, .ref a_this_laid, .ref a_this_isMirrored, .ref a_this_places, .ref a_this_placeMany, .ref a_this_now, .ref a_this_firsts, .ref a_this_forms, .ref a_this_isKept, .ref a_this_keptFigures, .ref a_this_keptPieces, .ref a_this_keptLaid, .ref a_this_keptMirrored])), (a_this_figures, .inl (cJ, 8, .inr (.inl c_this_figures))), (a_this_laid, .inl (cJ, 4, .inr (.inl c_this_laid))), (a_this_isMirrored, .inl (cZ, 4, .inl c_this_isMirrored))] sz)) (va_Qi (fun r (_ : Unit) => r = rv) (fun _ t => va_P D vwCl [(a_this, .inr (4, [.ref a_this_near, .ref a_this_turned, .ref a_this_figures, .ref a_this_text, .int c_this_length, .ref a_this_sectors, .ref a_this_corners, .int c_this_doubles, .ref a_this_likes, .int c_this_likeMany, .int u_this_pieces, .ref a_this_laid, .ref a_this_isMirrored, .ref a_this_places, .ref a_this_placeMany, .ref a_this_now, .ref a_this_firsts, .ref a_this_forms, .ref a_this_isKept, .ref a_this_keptFigures, .ref a_this_keptPieces, .ref a_this_keptLaid, .ref a_this_keptMirrored])), (a_this_figures, .inl (cJ, 8, .inr (.inl c_this_figures))), (a_this_laid, .inl (cJ, 4, .inr (.inl u_this_laid))), (a_this_isMirrored, .inl (cZ, 4, .inl u_this_isMirrored))] t.heap ∧ va_D (va_A [(a_this, .inr (4, [.ref a_this_near, .ref a_this_turned, .ref a_this_figures, .ref a_this_text, .int c_this_length, .ref a_this_sectors, .ref a_this_corners, .int c_this_doubles, .ref a_this_likes, .int c_this_likeMany, .int c_this_pieces, .ref a_this_laid, .ref a_this_isMirrored, .ref a_this_places, .ref a_this_placeMany, .ref a_this_now, .ref a_this_firsts, .ref a_this_forms, .ref a_this_isKept, .ref a_this_keptFigures, .ref a_this_keptPieces, .ref a_this_keptLaid, .ref a_this_keptMirrored])), (a_this_figures, .inl (cJ, 8, .inr (.inl c_this_figures))), (a_this_laid, .inl (cJ, 4, .inr (.inl c_this_laid))), (a_this_isMirrored, .inl (cZ, 4, .inl c_this_isMirrored))] sz) [(a_this, .inr (4, [.ref a_this_near, .ref a_this_turned, .ref a_this_figures, .ref a_this_text, .int c_this_length, .ref a_this_sectors, .ref a_this_corners, .int c_this_doubles, .ref a_this_likes, .int c_this_likeMany, .int u_this_pieces, .ref a_this_laid, .ref a_this_isMirrored, .ref a_this_places, .ref a_this_placeMany, .ref a_this_now, .ref a_this_firsts, .ref a_this_forms, .ref a_this_isKept, .ref a_this_keptFigures, .ref a_this_keptPieces, .ref a_this_keptLaid, .ref a_this_keptMirrored])), (a_this_figures, .inl (cJ, 8, .inr (.inl c_this_figures))), (a_this_laid, .inl (cJ, 4, .inr (.inl u_this_laid))), (a_this_isMirrored, .inl (cZ, 4, .inl u_this_isMirrored))]) (va_A [(a_this, .inr (4, [.ref a_this_near, .ref a_this_turned, .ref a_this_figures, .ref a_this_text, .int c_this_length, .ref a_this_sectors, .ref a_this_corners, .int c_this_doubles, .ref a_this_likes, .int c_this_likeMany, .int c_this_pieces, .ref a_this_laid, .ref a_this_isMirrored, .ref a_this_places, .ref a_this_placeMany, .ref a_this_now, .ref a_this_firsts, .ref a_this_forms, .ref a_this_isKept, .ref a_this_keptFigures, .ref a_this_keptPieces, .ref a_this_keptLaid, .ref a_this_keptMirrored])), (a_this_figures, .inl (cJ, 8, .inr (.inl c_this_figures))), (a_this_laid, .inl (cJ, 4, .inr (.inl c_this_laid))), (a_this_isMirrored, .inl (cZ, 4, .inl c_this_isMirrored))] sz)) 0 0 (va_A [(a_this, .inr (4, [.ref a_this_near, .ref a_this_turned, .ref a_this_figures, .ref a_this_text, .int c_this_length, .ref a_this_sectors, .ref a_this_corners, .int c_this_doubles, .ref a_this_likes, .int c_this_likeMany, .int c_this_pieces, .ref a_this_laid, .ref a_this_isMirrored, .ref a_this_places, .ref a_this_placeMany, .ref a_this_now, .ref a_this_firsts, .ref a_this_forms, .ref a_this_isKept, .ref a_this_keptFigures, .ref a_this_keptPieces, .ref a_this_keptLaid, .ref a_this_keptMirrored])), (a_this_figures, .inl (cJ, 8, .inr (.inl c_this_figures))), (a_this_laid, .inl (cJ, 4, .inr (.inl c_this_laid))), (a_this_isMirrored, .inl (cZ, 4, .inl c_this_isMirrored))] sz) := by
  refine Met.ofW (cc := cX8_lay) (maxL := 3) (ret := (some .int)) (by decide) rfl ?_
  intro p e s m args below meth c s₁ B hml hv
  obtain ⟨rfl, hsz, hP, hK, hD0⟩ := hv
  have hx := B.exec
  have hb := B.bytes
  have hr := B.returns
  have hts := atoms_spec (ws := wsX8_lay) B.pre
  have hown : s.vm.findClass RX8 = some m.cls := findClass_of_methodNamed B.named
  have hlocks := B.notSynchronized
  have hN := hK.2
  subst hsz
  have hD := hD0.self (sz := s.heap.size)
  generalize hAe : va_A [(a_this, .inr (4, [.ref a_this_near, .ref a_this_turned, .ref a_this_figures, .ref a_this_text, .int c_this_length, .ref a_this_sectors, .ref a_this_corners, .int c_this_doubles, .ref a_this_likes, .int c_this_likeMany, .int c_this_pieces, .ref a_this_laid, .ref a_this_isMirrored, .ref a_this_places, .ref a_this_placeMany, .ref a_this_now, .ref a_this_firsts, .ref a_this_forms, .ref a_this_isKept, .ref a_this_keptFigures, .ref a_this_keptPieces, .ref a_this_keptLaid, .ref a_this_keptMirrored])), (a_this_figures, .inl (cJ, 8, .inr (.inl c_this_figures))), (a_this_laid, .inl (cJ, 4, .inr (.inl c_this_laid))), (a_this_isMirrored, .inl (cZ, 4, .inl c_this_isMirrored))] s.heap.size = A at hD ⊢
  have hA : ∀ q : Nat, s.heap.size ≤ q → A q := fun q h => by rw [← hAe]; exact Or.inr h
  have hS : va_S A s.heap s.heap [] := va_S.rf
  have hl := lv_entry ([.ref a_this, .int x1, .int x2]) (n := 3) (Nat.le_of_ble_eq_true rfl)
  rw [lg_entry_eq]
  generalize (lg_sl ([.ref a_this, .int x1, .int x2]) ++ List.replicate (3 - (lg_sl ([.ref a_this, .int x1, .int x2])).length) Slot.unset).toArray = ls at hl ⊢
  have hl : lv_has ls 3 [(0, .ref a_this), (1, .int x1), (2, .int x2)] := hl
  refine hk_Q (fun Q hQ => ?_)
  have h := hf
  unfold f_X8_lay at h
  refine lv_iload_n hx hb dX8_lay_0 rfl (lv_at hl 1 rfl) ?_
  obtain ⟨r21, hr22, h⟩ := hk_x1 h
  refine vp_callSi (W.runS (As := [.int x1]) (rest := []) ⟨hx, hb, hml, hown, hts⟩ (c_X8_isFigure l x1 _ hr22) (va_cwS 1 hts gX8_lay_X8_isFigure rfl rfl rfl zs_X8_isFigure ⟨Nat.le_of_ble_eq_true rfl, Nat.le_of_ble_eq_true rfl⟩) ⟨fun _ _ _ _ q => q, fun _ _ _ => ⟨rfl, trivial⟩⟩ rfl rfl hl.1 rfl (lv_room (Nat.le_of_ble_eq_true rfl)) dX8_lay_1 ⟨Nat.zero_le _, Nat.zero_le _⟩) (fun p24 e23 => ?_)
  rw [e23]
  refine lv_if_ne (tgt := 9) hx hb dX8_lay_4 (by decide) (fun c25 => ?_) (fun c25 => ?_)
  · replace h := hk_in c25 h
    refine lv_aload_n hx hb dX8_lay_9 rfl (lv_at hl 0 rfl) ?_
    refine va_get (D := D) (ci := 4) (v := .ref a_this_figures) (C := RX8) (T := TX8) (N := 23) hx hb hts zi_X8_lay_X8 hown hK.1 hP 0 rfl rfl 2 (by decide) (hts (.fieldLink RX8 17 "HalfAndHalfAgainModel" "figures" "[J") (List.mem_of_getElem? (i := 1) rfl)) (fun _ h9 => h9) rfl dX8_lay_10 ?_
    refine lv_iload_n hx hb dX8_lay_13 rfl (lv_at hl 1 rfl) ?_
    obtain ⟨hi26, h⟩ := hk_ge h
    refine va_lald hx hb hK.1 hP 1 1 rfl rfl (hk_inb_of hi26) dX8_lay_14 ?_
    refine lv_lconst (v := (0 : Int64)) hx hb dX8_lay_15 (by decide) ?_
    refine hk_lcmp_ne (tgt := 23) hx hb dX8_lay_16 dX8_lay_17 (by decide) (fun c27 => ?_) (fun c27 => ?_)
    · replace h := hk_in c27 h
      refine lv_aload_n hx hb dX8_lay_23 rfl (lv_at hl 0 rfl) ?_
      refine va_get (D := D) (ci := 4) (v := .int c_this_pieces) (C := RX8) (T := TX8) (N := 23) hx hb hts zi_X8_lay_X8 hown hK.1 hP 0 rfl rfl 10 (by decide) (hts (.fieldLink RX8 197 "HalfAndHalfAgainModel" "pieces" "I") (List.mem_of_getElem? (i := 2) rfl)) (fun _ h9 => h9) rfl dX8_lay_24 ?_
      refine lv_iconst (v := (4 : Int32)) hx hb dX8_lay_27 (by decide) ?_
      refine lv_icmp_ne (tgt := 34) hx hb dX8_lay_28 (by decide) (fun c28 => ?_) (fun c28 => ?_)
      · replace h := hk_in c28 h
        refine lv_aload_n hx hb dX8_lay_34 rfl (lv_at hl 0 rfl) ?_
        refine va_get (D := D) (ci := 4) (v := .ref a_this_laid) (C := RX8) (T := TX8) (N := 23) hx hb hts zi_X8_lay_X8 hown hK.1 hP 0 rfl rfl 11 (by decide) (hts (.fieldLink RX8 33 "HalfAndHalfAgainModel" "laid" "[J") (List.mem_of_getElem? (i := 3) rfl)) (fun _ h9 => h9) rfl dX8_lay_35 ?_
        refine lv_aload_n hx hb dX8_lay_38 rfl (lv_at hl 0 rfl) ?_
        refine va_get (D := D) (ci := 4) (v := .int c_this_pieces) (C := RX8) (T := TX8) (N := 23) hx hb hts zi_X8_lay_X8 hown hK.1 hP 0 rfl rfl 10 (by decide) (hts (.fieldLink RX8 197 "HalfAndHalfAgainModel" "pieces" "I") (List.mem_of_getElem? (i := 2) rfl)) (fun _ h9 => h9) rfl dX8_lay_39 ?_
        refine lv_aload_n hx hb dX8_lay_42 rfl (lv_at hl 0 rfl) ?_
        refine va_get (D := D) (ci := 4) (v := .ref a_this_figures) (C := RX8) (T := TX8) (N := 23) hx hb hts zi_X8_lay_X8 hown hK.1 hP 0 rfl rfl 2 (by decide) (hts (.fieldLink RX8 17 "HalfAndHalfAgainModel" "figures" "[J") (List.mem_of_getElem? (i := 1) rfl)) (fun _ h9 => h9) rfl dX8_lay_43 ?_
        refine lv_iload_n hx hb dX8_lay_46 rfl (lv_at hl 1 rfl) ?_
        obtain ⟨hi29, h⟩ := hk_ge h
        refine va_lald hx hb hK.1 hP 1 1 rfl rfl (hk_inb_of hi29) dX8_lay_47 ?_
        obtain ⟨hi30, h⟩ := hk_ge h
        refine va_last hx hb hK.1 hP hD hS 2 1 rfl rfl (hk_inb_of hi30) dX8_lay_48 (fun H locs hP hD hS => ?_)
        have hP : va_P D vwCl [(a_this, .inr (4, [.ref a_this_near, .ref a_this_turned, .ref a_this_figures, .ref a_this_text, .int c_this_length, .ref a_this_sectors, .ref a_this_corners, .int c_this_doubles, .ref a_this_likes, .int c_this_likeMany, .int c_this_pieces, .ref a_this_laid, .ref a_this_isMirrored, .ref a_this_places, .ref a_this_placeMany, .ref a_this_now, .ref a_this_firsts, .ref a_this_forms, .ref a_this_isKept, .ref a_this_keptFigures, .ref a_this_keptPieces, .ref a_this_keptLaid, .ref a_this_keptMirrored])), (a_this_figures, .inl (cJ, 8, .inr (.inl c_this_figures))), (a_this_laid, .inl (cJ, 4, .inr (.inl (vp_updL c_this_laid c_this_pieces.toNatClampNeg (c_this_figures x1.toNatClampNeg))))), (a_this_isMirrored, .inl (cZ, 4, .inl c_this_isMirrored))] H := hP
        have hD : va_D A [(a_this, .inr (4, [.ref a_this_near, .ref a_this_turned, .ref a_this_figures, .ref a_this_text, .int c_this_length, .ref a_this_sectors, .ref a_this_corners, .int c_this_doubles, .ref a_this_likes, .int c_this_likeMany, .int c_this_pieces, .ref a_this_laid, .ref a_this_isMirrored, .ref a_this_places, .ref a_this_placeMany, .ref a_this_now, .ref a_this_firsts, .ref a_this_forms, .ref a_this_isKept, .ref a_this_keptFigures, .ref a_this_keptPieces, .ref a_this_keptLaid, .ref a_this_keptMirrored])), (a_this_figures, .inl (cJ, 8, .inr (.inl c_this_figures))), (a_this_laid, .inl (cJ, 4, .inr (.inl (vp_updL c_this_laid c_this_pieces.toNatClampNeg (c_this_figures x1.toNatClampNeg))))), (a_this_isMirrored, .inl (cZ, 4, .inl c_this_isMirrored))] := hD
        refine lv_aload_n hx hb dX8_lay_49 rfl (lv_at hl 0 rfl) ?_
        refine va_get (D := D) (ci := 4) (v := .ref a_this_isMirrored) (C := RX8) (T := TX8) (N := 23) hx hb hts zi_X8_lay_X8 hown hK.1 hP 0 rfl rfl 12 (by decide) (hts (.fieldLink RX8 36 "HalfAndHalfAgainModel" "isMirrored" "[Z") (List.mem_of_getElem? (i := 4) rfl)) (fun _ h9 => h9) rfl dX8_lay_50 ?_
        refine lv_aload_n hx hb dX8_lay_53 rfl (lv_at hl 0 rfl) ?_
        refine va_get (D := D) (ci := 4) (v := .int c_this_pieces) (C := RX8) (T := TX8) (N := 23) hx hb hts zi_X8_lay_X8 hown hK.1 hP 0 rfl rfl 10 (by decide) (hts (.fieldLink RX8 197 "HalfAndHalfAgainModel" "pieces" "I") (List.mem_of_getElem? (i := 2) rfl)) (fun _ h9 => h9) rfl dX8_lay_54 ?_
        refine lv_iload_n hx hb dX8_lay_57 rfl (lv_at hl 2 rfl) ?_
        obtain ⟨hi31, h⟩ := hk_ge h
        refine va_zast hx hb hK.1 hP hD hS 3 2 rfl rfl (hk_inb_of hi31) dX8_lay_58 (fun H locs hP hD hS => ?_)
        have hP : va_P D vwCl [(a_this, .inr (4, [.ref a_this_near, .ref a_this_turned, .ref a_this_figures, .ref a_this_text, .int c_this_length, .ref a_this_sectors, .ref a_this_corners, .int c_this_doubles, .ref a_this_likes, .int c_this_likeMany, .int c_this_pieces, .ref a_this_laid, .ref a_this_isMirrored, .ref a_this_places, .ref a_this_placeMany, .ref a_this_now, .ref a_this_firsts, .ref a_this_forms, .ref a_this_isKept, .ref a_this_keptFigures, .ref a_this_keptPieces, .ref a_this_keptLaid, .ref a_this_keptMirrored])), (a_this_figures, .inl (cJ, 8, .inr (.inl c_this_figures))), (a_this_laid, .inl (cJ, 4, .inr (.inl (vp_updL c_this_laid c_this_pieces.toNatClampNeg (c_this_figures x1.toNatClampNeg))))), (a_this_isMirrored, .inl (cZ, 4, .inl (upd c_this_isMirrored c_this_pieces.toNatClampNeg (vp_nar .boolean x2))))] H := hP
        have hD : va_D A [(a_this, .inr (4, [.ref a_this_near, .ref a_this_turned, .ref a_this_figures, .ref a_this_text, .int c_this_length, .ref a_this_sectors, .ref a_this_corners, .int c_this_doubles, .ref a_this_likes, .int c_this_likeMany, .int c_this_pieces, .ref a_this_laid, .ref a_this_isMirrored, .ref a_this_places, .ref a_this_placeMany, .ref a_this_now, .ref a_this_firsts, .ref a_this_forms, .ref a_this_isKept, .ref a_this_keptFigures, .ref a_this_keptPieces, .ref a_this_keptLaid, .ref a_this_keptMirrored])), (a_this_figures, .inl (cJ, 8, .inr (.inl c_this_figures))), (a_this_laid, .inl (cJ, 4, .inr (.inl (vp_updL c_this_laid c_this_pieces.toNatClampNeg (c_this_figures x1.toNatClampNeg))))), (a_this_isMirrored, .inl (cZ, 4, .inl (upd c_this_isMirrored c_this_pieces.toNatClampNeg (vp_nar .boolean x2))))] := hD
        refine lv_aload_n hx hb dX8_lay_59 rfl (lv_at hl 0 rfl) ?_
        refine lv_dup hx hb dX8_lay_60 rfl ?_
        refine va_get (D := D) (ci := 4) (v := .int c_this_pieces) (C := RX8) (T := TX8) (N := 23) hx hb hts zi_X8_lay_X8 hown hK.1 hP 0 rfl rfl 10 (by decide) (hts (.fieldLink RX8 197 "HalfAndHalfAgainModel" "pieces" "I") (List.mem_of_getElem? (i := 2) rfl)) (fun _ h9 => h9) rfl dX8_lay_61 ?_
        refine lv_iconst (v := (1 : Int32)) hx hb dX8_lay_64 (by decide) ?_
        refine lv_iadd hx hb dX8_lay_65 ?_
        obtain ⟨x32, ex32, h⟩ := hk_le h
        refine hk_ti ex32 ?_
        refine va_put (D := D) (ci := 4) (v := .int x32) (ty := .int) (C := RX8) (T := TX8) (N := 23) hx hb hts zi_X8_lay_X8 tyX8 tyX8_ok nmX8 hown hK.1 hP hD hS 0 rfl rfl 10 (by decide) (hts (.fieldLink RX8 197 "HalfAndHalfAgainModel" "pieces" "I") (List.mem_of_getElem? (i := 2) rfl)) (fun _ h9 => h9) rfl (by decide +kernel) rfl rfl (Nat.le_of_ble_eq_true rfl) dX8_lay_66 (fun H locs hP hD hS => ?_)
        have hP : va_P D vwCl [(a_this, .inr (4, [.ref a_this_near, .ref a_this_turned, .ref a_this_figures, .ref a_this_text, .int c_this_length, .ref a_this_sectors, .ref a_this_corners, .int c_this_doubles, .ref a_this_likes, .int c_this_likeMany, .int x32, .ref a_this_laid, .ref a_this_isMirrored, .ref a_this_places, .ref a_this_placeMany, .ref a_this_now, .ref a_this_firsts, .ref a_this_forms, .ref a_this_isKept, .ref a_this_keptFigures, .ref a_this_keptPieces, .ref a_this_keptLaid, .ref a_this_keptMirrored])), (a_this_figures, .inl (cJ, 8, .inr (.inl c_this_figures))), (a_this_laid, .inl (cJ, 4, .inr (.inl (vp_updL c_this_laid c_this_pieces.toNatClampNeg (c_this_figures x1.toNatClampNeg))))), (a_this_isMirrored, .inl (cZ, 4, .inl (upd c_this_isMirrored c_this_pieces.toNatClampNeg (vp_nar .boolean x2))))] H := hP
        have hD : va_D A [(a_this, .inr (4, [.ref a_this_near, .ref a_this_turned, .ref a_this_figures, .ref a_this_text, .int c_this_length, .ref a_this_sectors, .ref a_this_corners, .int c_this_doubles, .ref a_this_likes, .int c_this_likeMany, .int x32, .ref a_this_laid, .ref a_this_isMirrored, .ref a_this_places, .ref a_this_placeMany, .ref a_this_now, .ref a_this_firsts, .ref a_this_forms, .ref a_this_isKept, .ref a_this_keptFigures, .ref a_this_keptPieces, .ref a_this_keptLaid, .ref a_this_keptMirrored])), (a_this_figures, .inl (cJ, 8, .inr (.inl c_this_figures))), (a_this_laid, .inl (cJ, 4, .inr (.inl (vp_updL c_this_laid c_this_pieces.toNatClampNeg (c_this_figures x1.toNatClampNeg))))), (a_this_isMirrored, .inl (cZ, 4, .inl (upd c_this_isMirrored c_this_pieces.toNatClampNeg (vp_nar .boolean x2))))] := hD
        refine lv_aload_n hx hb dX8_lay_69 rfl (lv_at hl 0 rfl) ?_
        refine va_get (D := D) (ci := 4) (v := .int x32) (C := RX8) (T := TX8) (N := 23) hx hb hts zi_X8_lay_X8 hown hK.1 hP 0 rfl rfl 10 (by decide) (hts (.fieldLink RX8 197 "HalfAndHalfAgainModel" "pieces" "I") (List.mem_of_getElem? (i := 2) rfl)) (fun _ h9 => h9) rfl dX8_lay_70 ?_
        refine lv_iconst (v := (1 : Int32)) hx hb dX8_lay_73 (by decide) ?_
        refine lv_isub hx hb dX8_lay_74 ?_
        subst hQ
        have h := Option.some.inj h
        simp only [Prod.mk.injEq] at h
        obtain ⟨rfl, rfl, rfl, rfl⟩ := h
        exact W.iret hx hb hr (fun t ht hW => ⟨⟨_, (), rfl, rfl, by rw [ht]; exact hP, hD⟩, hS.F ht⟩) hS.2.2 dX8_lay_75
      replace h := hk_ip c28 h
      refine lv_bipush (v := (-4 : Int32)) hx hb dX8_lay_31 (by decide) ?_
      subst hQ
      have h := Option.some.inj h
      simp only [Prod.mk.injEq] at h
      obtain ⟨rfl, rfl, rfl, rfl⟩ := h
      exact W.iret hx hb hr (fun t ht hW => ⟨⟨_, (), rfl, rfl, by rw [ht]; exact hP, hD⟩, hS.F ht⟩) hS.2.2 dX8_lay_33
    replace h := hk_ip c27 h
    refine lv_bipush (v := (-3 : Int32)) hx hb dX8_lay_20 (by decide) ?_
    subst hQ
    have h := Option.some.inj h
    simp only [Prod.mk.injEq] at h
    obtain ⟨rfl, rfl, rfl, rfl⟩ := h
    exact W.iret hx hb hr (fun t ht hW => ⟨⟨_, (), rfl, rfl, by rw [ht]; exact hP, hD⟩, hS.F ht⟩) hS.2.2 dX8_lay_22
  replace h := hk_ip c25 h
  refine lv_iconst (v := (-1 : Int32)) hx hb dX8_lay_7 (by decide) ?_
  subst hQ
  have h := Option.some.inj h
  simp only [Prod.mk.injEq] at h
  obtain ⟨rfl, rfl, rfl, rfl⟩ := h
  exact W.iret hx hb hr (fun t ht hW => ⟨⟨_, (), rfl, rfl, by rw [ht]; exact hP, hD⟩, hS.F ht⟩) hS.2.2 dX8_lay_8
theorem zv_X8_lift : yX8_lift.cls = RX8 ∧ yX8_lift.cls ≠ "java/lang/invoke/MethodHandle" ∧ yX8_lift.cls ≠ "java/lang/invoke/VarHandle" ∧ (parseMethodDescriptor yX8_lift.desc).map (fun d => d.parameters.length) = some 0 := by decide +kernel
def f_X8_lift (c_this_pieces : Int32)   : Option (Int32 × Int32) := if c_this_pieces = 0 then (some ((-3 : Int32), c_this_pieces)) else (hk_let (c_this_pieces - (1 : Int32)) fun x22 => some (x22, x22))
theorem zi_X8_lift_X8 : ∀ w ∈ u_ws RX8 TX8 23, w ∈ wsX8_lift := by decide +kernel
set_option maxHeartbeats 8000000 in
set_option maxRecDepth 100000 in
theorem c_X8_lift (l : Launch) (D : va_G) (cI cJ cZ cO : ClassId) (a_this a_this_near a_this_turned a_this_figures a_this_text a_this_sectors a_this_corners a_this_likes a_this_laid a_this_isMirrored a_this_places a_this_placeMany a_this_now a_this_firsts a_this_forms a_this_isKept a_this_keptFigures a_this_keptPieces a_this_keptLaid a_this_keptMirrored : Nat) (sz : Nat) (c_this_length : Int32) (c_this_doubles : Int32) (c_this_likeMany : Int32) (c_this_pieces : Int32) (rv : Int32) (u_this_pieces : Int32) (hf : f_X8_lift c_this_pieces = some (rv, u_this_pieces)) : Met l yX8_lift wsX8_lift ({ frames := 0, cells := 0, slots := 0, locals := 0 }) (va_Pc [.ref a_this] (hkM D cI cJ cZ cO [(a_this, .inr (4, [.ref a_this_near, .ref a_this_turned, .ref a_this_figures, .ref a_this_text, .int c_this_length, .ref a_this_sectors, .ref a_this_corners, .int c_this_doubles, .ref a_this_likes, .int c_this_likeMany, .int c_this_pieces, .ref a_this_laid, .ref a_this_isMirrored, .ref a_this_places, .ref a_this_placeMany, .ref a_this_now, .ref a_this_firsts, .ref a_this_forms, .ref a_this_isKept, .ref a_this_keptFigures, .ref a_this_keptPieces, .ref a_this_keptLaid, .ref a_this_keptMirrored]))] sz)) (va_Qi (fun r (_ : Unit) => r = rv) (fun _ t => va_P D vwCl [(a_this, .inr (4, [.ref a_this_near, .ref a_this_turned, .ref a_this_figures, .ref a_this_text, .int c_this_length, .ref a_this_sectors, .ref a_this_corners, .int c_this_doubles, .ref a_this_likes, .int c_this_likeMany, .int u_this_pieces, .ref a_this_laid, .ref a_this_isMirrored, .ref a_this_places, .ref a_this_placeMany, .ref a_this_now, .ref a_this_firsts, .ref a_this_forms, .ref a_this_isKept, .ref a_this_keptFigures, .ref a_this_keptPieces, .ref a_this_keptLaid, .ref a_this_keptMirrored]))] t.heap ∧ va_D (va_A [(a_this, .inr (4, [.ref a_this_near, .ref a_this_turned, .ref a_this_figures, .ref a_this_text, .int c_this_length, .ref a_this_sectors, .ref a_this_corners, .int c_this_doubles, .ref a_this_likes, .int c_this_likeMany, .int c_this_pieces, .ref a_this_laid, .ref a_this_isMirrored, .ref a_this_places, .ref a_this_placeMany, .ref a_this_now, .ref a_this_firsts, .ref a_this_forms, .ref a_this_isKept, .ref a_this_keptFigures, .ref a_this_keptPieces, .ref a_this_keptLaid, .ref a_this_keptMirrored]))] sz) [(a_this, .inr (4, [.ref a_this_near, .ref a_this_turned, .ref a_this_figures, .ref a_this_text, .int c_this_length, .ref a_this_sectors, .ref a_this_corners, .int c_this_doubles, .ref a_this_likes, .int c_this_likeMany, .int u_this_pieces, .ref a_this_laid, .ref a_this_isMirrored, .ref a_this_places, .ref a_this_placeMany, .ref a_this_now, .ref a_this_firsts, .ref a_this_forms, .ref a_this_isKept, .ref a_this_keptFigures, .ref a_this_keptPieces, .ref a_this_keptLaid, .ref a_this_keptMirrored]))]) (va_A [(a_this, .inr (4, [.ref a_this_near, .ref a_this_turned, .ref a_this_figures, .ref a_this_text, .int c_this_length, .ref a_this_sectors, .ref a_this_corners, .int c_this_doubles, .ref a_this_likes, .int c_this_likeMany, .int c_this_pieces, .ref a_this_laid, .ref a_this_isMirrored, .ref a_this_places, .ref a_this_placeMany, .ref a_this_now, .ref a_this_firsts, .ref a_this_forms, .ref a_this_isKept, .ref a_this_keptFigures, .ref a_this_keptPieces, .ref a_this_keptLaid, .ref a_this_keptMirrored]))] sz)) 0 0 (va_A [(a_this, .inr (4, [.ref a_this_near, .ref a_this_turned, .ref a_this_figures, .ref a_this_text, .int c_this_length, .ref a_this_sectors, .ref a_this_corners, .int c_this_doubles, .ref a_this_likes, .int c_this_likeMany, .int c_this_pieces, .ref a_this_laid, .ref a_this_isMirrored, .ref a_this_places, .ref a_this_placeMany, .ref a_this_now, .ref a_this_firsts, .ref a_this_forms, .ref a_this_isKept, .ref a_this_keptFigures, .ref a_this_keptPieces, .ref a_this_keptLaid, .ref a_this_keptMirrored]))] sz) := by
  refine Met.ofW (cc := cX8_lift) (maxL := 1) (ret := (some .int)) (by decide) rfl ?_
  intro p e s m args below meth c s₁ B hml hv
  obtain ⟨rfl, hsz, hP, hK, hD0⟩ := hv
  have hx := B.exec
  have hb := B.bytes
  have hr := B.returns
  have hts := atoms_spec (ws := wsX8_lift) B.pre
  have hown : s.vm.findClass RX8 = some m.cls := findClass_of_methodNamed B.named
  have hlocks := B.notSynchronized
  have hN := hK.2
  subst hsz
  have hD := hD0.self (sz := s.heap.size)
  generalize hAe : va_A [(a_this, .inr (4, [.ref a_this_near, .ref a_this_turned, .ref a_this_figures, .ref a_this_text, .int c_this_length, .ref a_this_sectors, .ref a_this_corners, .int c_this_doubles, .ref a_this_likes, .int c_this_likeMany, .int c_this_pieces, .ref a_this_laid, .ref a_this_isMirrored, .ref a_this_places, .ref a_this_placeMany, .ref a_this_now, .ref a_this_firsts, .ref a_this_forms, .ref a_this_isKept, .ref a_this_keptFigures, .ref a_this_keptPieces, .ref a_this_keptLaid, .ref a_this_keptMirrored]))] s.heap.size = A at hD ⊢
  have hA : ∀ q : Nat, s.heap.size ≤ q → A q := fun q h => by rw [← hAe]; exact Or.inr h
  have hS : va_S A s.heap s.heap [] := va_S.rf
  have hl := lv_entry ([.ref a_this]) (n := 1) (Nat.le_of_ble_eq_true rfl)
  rw [lg_entry_eq]
  generalize (lg_sl ([.ref a_this]) ++ List.replicate (1 - (lg_sl ([.ref a_this])).length) Slot.unset).toArray = ls at hl ⊢
  have hl : lv_has ls 1 [(0, .ref a_this)] := hl
  refine hk_Q (fun Q hQ => ?_)
  have h := hf
  unfold f_X8_lift at h
  refine lv_aload_n hx hb dX8_lift_0 rfl (lv_at hl 0 rfl) ?_
  refine va_get (D := D) (ci := 4) (v := .int c_this_pieces) (C := RX8) (T := TX8) (N := 23) hx hb hts zi_X8_lift_X8 hown hK.1 hP 0 rfl rfl 10 (by decide) (hts (.fieldLink RX8 197 "HalfAndHalfAgainModel" "pieces" "I") (List.mem_of_getElem? (i := 1) rfl)) (fun _ h9 => h9) rfl dX8_lift_1 ?_
  refine lv_if_ne (tgt := 10) hx hb dX8_lift_4 (by decide) (fun c21 => ?_) (fun c21 => ?_)
  · replace h := hk_in c21 h
    refine lv_aload_n hx hb dX8_lift_10 rfl (lv_at hl 0 rfl) ?_
    refine lv_dup hx hb dX8_lift_11 rfl ?_
    refine va_get (D := D) (ci := 4) (v := .int c_this_pieces) (C := RX8) (T := TX8) (N := 23) hx hb hts zi_X8_lift_X8 hown hK.1 hP 0 rfl rfl 10 (by decide) (hts (.fieldLink RX8 197 "HalfAndHalfAgainModel" "pieces" "I") (List.mem_of_getElem? (i := 1) rfl)) (fun _ h9 => h9) rfl dX8_lift_12 ?_
    refine lv_iconst (v := (1 : Int32)) hx hb dX8_lift_15 (by decide) ?_
    refine lv_isub hx hb dX8_lift_16 ?_
    obtain ⟨x22, ex22, h⟩ := hk_le h
    refine hk_ti ex22 ?_
    refine va_put (D := D) (ci := 4) (v := .int x22) (ty := .int) (C := RX8) (T := TX8) (N := 23) hx hb hts zi_X8_lift_X8 tyX8 tyX8_ok nmX8 hown hK.1 hP hD hS 0 rfl rfl 10 (by decide) (hts (.fieldLink RX8 197 "HalfAndHalfAgainModel" "pieces" "I") (List.mem_of_getElem? (i := 1) rfl)) (fun _ h9 => h9) rfl (by decide +kernel) rfl rfl (Nat.le_of_ble_eq_true rfl) dX8_lift_17 (fun H locs hP hD hS => ?_)
    have hP : va_P D vwCl [(a_this, .inr (4, [.ref a_this_near, .ref a_this_turned, .ref a_this_figures, .ref a_this_text, .int c_this_length, .ref a_this_sectors, .ref a_this_corners, .int c_this_doubles, .ref a_this_likes, .int c_this_likeMany, .int x22, .ref a_this_laid, .ref a_this_isMirrored, .ref a_this_places, .ref a_this_placeMany, .ref a_this_now, .ref a_this_firsts, .ref a_this_forms, .ref a_this_isKept, .ref a_this_keptFigures, .ref a_this_keptPieces, .ref a_this_keptLaid, .ref a_this_keptMirrored]))] H := hP
    have hD : va_D A [(a_this, .inr (4, [.ref a_this_near, .ref a_this_turned, .ref a_this_figures, .ref a_this_text, .int c_this_length, .ref a_this_sectors, .ref a_this_corners, .int c_this_doubles, .ref a_this_likes, .int c_this_likeMany, .int x22, .ref a_this_laid, .ref a_this_isMirrored, .ref a_this_places, .ref a_this_placeMany, .ref a_this_now, .ref a_this_firsts, .ref a_this_forms, .ref a_this_isKept, .ref a_this_keptFigures, .ref a_this_keptPieces, .ref a_this_keptLaid, .ref a_this_keptMirrored]))] := hD
    refine lv_aload_n hx hb dX8_lift_20 rfl (lv_at hl 0 rfl) ?_
    refine va_get (D := D) (ci := 4) (v := .int x22) (C := RX8) (T := TX8) (N := 23) hx hb hts zi_X8_lift_X8 hown hK.1 hP 0 rfl rfl 10 (by decide) (hts (.fieldLink RX8 197 "HalfAndHalfAgainModel" "pieces" "I") (List.mem_of_getElem? (i := 1) rfl)) (fun _ h9 => h9) rfl dX8_lift_21 ?_
    subst hQ
    have h := Option.some.inj h
    simp only [Prod.mk.injEq] at h
    obtain ⟨rfl, rfl⟩ := h
    exact W.iret hx hb hr (fun t ht hW => ⟨⟨_, (), rfl, rfl, by rw [ht]; exact hP, hD⟩, hS.F ht⟩) hS.2.2 dX8_lift_24
  replace h := hk_ip c21 h
  refine lv_bipush (v := (-3 : Int32)) hx hb dX8_lift_7 (by decide) ?_
  subst hQ
  have h := Option.some.inj h
  simp only [Prod.mk.injEq] at h
  obtain ⟨rfl, rfl⟩ := h
  exact W.iret hx hb hr (fun t ht hW => ⟨⟨_, (), rfl, rfl, by rw [ht]; exact hP, hD⟩, hS.F ht⟩) hS.2.2 dX8_lift_9
theorem zv_X8_piece : yX8_piece.cls = RX8 ∧ yX8_piece.cls ≠ "java/lang/invoke/MethodHandle" ∧ yX8_piece.cls ≠ "java/lang/invoke/VarHandle" ∧ (parseMethodDescriptor yX8_piece.desc).map (fun d => d.parameters.length) = some 1 := by decide +kernel
def f_X8_piece (c_this_pieces : Int32) (c_this_laid : Nat → Int64)  (x1 : Int32) : Option Int64 := hk_b1 (f_X8_isPiece c_this_pieces x1) fun r21 => if r21 = 0 then (some (0 : Int64)) else (hk_gd (hk_inb x1 4) (some (c_this_laid x1.toNatClampNeg)))
theorem zi_X8_piece_X8 : ∀ w ∈ u_ws RX8 TX8 23, w ∈ wsX8_piece := by decide +kernel
set_option maxHeartbeats 8000000 in
set_option maxRecDepth 100000 in
theorem c_X8_piece (l : Launch) (D : va_G) (cI cJ cZ cO : ClassId) (a_this a_this_near a_this_turned a_this_figures a_this_text a_this_sectors a_this_corners a_this_likes a_this_laid a_this_isMirrored a_this_places a_this_placeMany a_this_now a_this_firsts a_this_forms a_this_isKept a_this_keptFigures a_this_keptPieces a_this_keptLaid a_this_keptMirrored : Nat) (c_this_length : Int32) (c_this_doubles : Int32) (c_this_likeMany : Int32) (c_this_pieces : Int32) (c_this_laid : Nat → Int64) (x1 : Int32) (rv : Int64) (hf : f_X8_piece c_this_pieces c_this_laid x1 = some rv) : Met l yX8_piece wsX8_piece ({ frames := 2, cells := 0, slots := 0, locals := 46 }) (va_Pc [.ref a_this, .int x1] (hkR D cI cJ cZ cO [(a_this, .inr (4, [.ref a_this_near, .ref a_this_turned, .ref a_this_figures, .ref a_this_text, .int c_this_length, .ref a_this_sectors, .ref a_this_corners, .int c_this_doubles, .ref a_this_likes, .int c_this_likeMany, .int c_this_pieces, .ref a_this_laid, .ref a_this_isMirrored, .ref a_this_places, .ref a_this_placeMany, .ref a_this_now, .ref a_this_firsts, .ref a_this_forms, .ref a_this_isKept, .ref a_this_keptFigures, .ref a_this_keptPieces, .ref a_this_keptLaid, .ref a_this_keptMirrored])), (a_this_laid, .inl (cJ, 4, .inr (.inl c_this_laid)))])) (vp_Sl (fun r => r = rv)) 0 0 (fun _ => False) := by
  refine Met.ofW (cc := cX8_piece) (maxL := 2) (ret := (some .long)) (by decide) rfl ?_
  intro p e s m args below meth c s₁ B hml hv
  obtain ⟨rfl, hP, hK⟩ := hv
  have hx := B.exec
  have hb := B.bytes
  have hr := B.returns
  have hts := atoms_spec (ws := wsX8_piece) B.pre
  have hown : s.vm.findClass RX8 = some m.cls := findClass_of_methodNamed B.named
  have hlocks := B.notSynchronized
  have hN := hK.2
  have hl := lv_entry ([.ref a_this, .int x1]) (n := 2) (Nat.le_of_ble_eq_true rfl)
  rw [lg_entry_eq]
  generalize (lg_sl ([.ref a_this, .int x1]) ++ List.replicate (2 - (lg_sl ([.ref a_this, .int x1])).length) Slot.unset).toArray = ls at hl ⊢
  have hl : lv_has ls 2 [(0, .ref a_this), (1, .int x1)] := hl
  refine hk_Q (fun Q hQ => ?_)
  have h := hf
  unfold f_X8_piece at h
  refine lv_aload_n hx hb dX8_piece_0 rfl (lv_at hl 0 rfl) ?_
  refine lv_iload_n hx hb dX8_piece_1 rfl (lv_at hl 1 rfl) ?_
  obtain ⟨r21, hr22, h⟩ := hk_x1 h
  refine vp_callSi (W.runV (As := [.int x1]) (rest := []) ⟨hx, hb, hml, hown, hts⟩ (c_X8_isPiece l D cI cJ cZ cO a_this a_this_near a_this_turned a_this_figures a_this_text a_this_sectors a_this_corners a_this_likes a_this_laid a_this_isMirrored a_this_places a_this_placeMany a_this_now a_this_firsts a_this_forms a_this_isKept a_this_keptFigures a_this_keptPieces a_this_keptLaid a_this_keptMirrored c_this_length c_this_doubles c_this_likeMany c_this_pieces x1 _ hr22) (cwV 1 hts gX8_piece_X8_isPiece rfl rfl rfl zv_X8_isPiece ⟨Nat.le_of_ble_eq_true rfl, Nat.le_of_ble_eq_true rfl⟩) (hk_preRV 4 rfl (hP.sub (ws' := [(a_this, .inr (4, [.ref a_this_near, .ref a_this_turned, .ref a_this_figures, .ref a_this_text, .int c_this_length, .ref a_this_sectors, .ref a_this_corners, .int c_this_doubles, .ref a_this_likes, .int c_this_likeMany, .int c_this_pieces, .ref a_this_laid, .ref a_this_isMirrored, .ref a_this_places, .ref a_this_placeMany, .ref a_this_now, .ref a_this_firsts, .ref a_this_forms, .ref a_this_isKept, .ref a_this_keptFigures, .ref a_this_keptPieces, .ref a_this_keptLaid, .ref a_this_keptMirrored]))]) [0] rfl) hK rfl) rfl rfl hl.1 rfl (lv_room (Nat.le_of_ble_eq_true rfl)) dX8_piece_2 ⟨Nat.zero_le _, Nat.zero_le _⟩) (fun p24 e23 => ?_)
  rw [e23]
  refine lv_if_eq (tgt := 17) hx hb dX8_piece_5 (by decide) (fun c25 => ?_) (fun c25 => ?_)
  · replace h := hk_ip c25 h
    refine lv_lconst (v := (0 : Int64)) hx hb dX8_piece_17 (by decide) ?_
    subst hQ
    exact W.lret hx hb hr (fun t ht hW => ⟨_, rfl, Option.some.inj h, ht⟩) (fun _ h9 => by cases h9) dX8_piece_18
  replace h := hk_in c25 h
  refine lv_aload_n hx hb dX8_piece_8 rfl (lv_at hl 0 rfl) ?_
  refine va_get (D := D) (ci := 4) (v := .ref a_this_laid) (C := RX8) (T := TX8) (N := 23) hx hb hts zi_X8_piece_X8 hown hK.1 hP 0 rfl rfl 11 (by decide) (hts (.fieldLink RX8 33 "HalfAndHalfAgainModel" "laid" "[J") (List.mem_of_getElem? (i := 1) rfl)) (fun _ h9 => h9) rfl dX8_piece_9 ?_
  refine lv_iload_n hx hb dX8_piece_12 rfl (lv_at hl 1 rfl) ?_
  obtain ⟨hi26, h⟩ := hk_ge h
  refine va_lald hx hb hK.1 hP 1 1 rfl rfl (hk_inb_of hi26) dX8_piece_13 ?_
  refine lv_goto (tgt := 18) hx hb dX8_piece_14 (by decide) ?_
  subst hQ
  exact W.lret hx hb hr (fun t ht hW => ⟨_, rfl, Option.some.inj h, ht⟩) (fun _ h9 => by cases h9) dX8_piece_18
theorem zv_X8_layPlaces : yX8_layPlaces.cls = RX8 ∧ yX8_layPlaces.cls ≠ "java/lang/invoke/MethodHandle" ∧ yX8_layPlaces.cls ≠ "java/lang/invoke/VarHandle" ∧ (parseMethodDescriptor yX8_layPlaces.desc).map (fun d => d.parameters.length) = some 2 := by decide +kernel
def st_X8_layPlaces_35c (x1 : Int32) (x2 : Int64) (u26 : Int32) (u27 : Nat → Int64) (y32 : Int32) (w33 : Nat → Int32) (w34 : Nat → Int64) : Option ((Int32 × (Nat → Int32) × (Nat → Int64)) ⊕ ((Nat → Int32) × (Nat → Int64))) := if u26 ≤ y32 then (some (.inr (w33, w34))) else (hk_gd (hk_inb y32 400) (hk_b2 (if ((u27 y32.toNatClampNeg) &&& (x2 ^^^ (-1 : Int64))) = (0 : Int64) then (hk_gd (hk_inb x1 4) (hk_gd (hk_inb y32 400) (hk_gd (hk_inb (((400 : Int32) * x1) + (w33 x1.toNatClampNeg)) 1600) (hk_gd (hk_inb x1 4) (hk_gd (hk_inb x1 4) (some ((upd w33 x1.toNatClampNeg ((w33 x1.toNatClampNeg) + (1 : Int32))), (vp_updL w34 (((400 : Int32) * x1) + (w33 x1.toNatClampNeg)).toNatClampNeg (u27 y32.toNatClampNeg))))))))) else (some (w33, w34))) fun v44 v45 => hk_let (y32 + (1 : Int32)) fun x46 => some (.inl (x46, v44, v45))))
def st_X8_layPlaces_35 (x1 : Int32) (x2 : Int64) (u26 : Int32) (u27 : Nat → Int64) (t9 : (Int32 × (Nat → Int32) × (Nat → Int64))) : Option ((Int32 × (Nat → Int32) × (Nat → Int64)) ⊕ ((Nat → Int32) × (Nat → Int64))) := st_X8_layPlaces_35c x1 x2 u26 u27 t9.1 t9.2.1 t9.2.2
def f_X8_layPlaces (c_this_likeMany : Int32) (c_this_laid : Nat → Int64) (c_this_isMirrored : Nat → Int32) (c_this_turned : Nat → Int32) (c_this_likes : Nat → Int64) (c_this_placeMany : Nat → Int32) (c_this_places : Nat → Int64)  (x1 : Int32) (x2 : Int64) : Option (Int32 × (Nat → Int64) × (Nat → Int32) × (Nat → Int64)) := hk_gd (hk_inb x1 4) (hk_gd (hk_inb x1 4) (hk_let (if (c_this_isMirrored x1.toNatClampNeg) = 0 then ((4 : Int32)) else ((8 : Int32))) fun v25 => hk_b2 (f_X8_layLikes c_this_likeMany c_this_turned c_this_likes (c_this_laid x1.toNatClampNeg) v25) fun u26 u27 => hk_gd (hk_inb x1 4) (hk_b2 (hk_wl (st_X8_layPlaces_35 x1 x2 u26 u27) hkF ((0 : Int32), (upd c_this_placeMany x1.toNatClampNeg (0 : Int32)), c_this_places)) fun v48 v49 => some (u26, u27, v48, v49))))
theorem zi_X8_layPlaces_X8 : ∀ w ∈ u_ws RX8 TX8 23, w ∈ wsX8_layPlaces := by decide +kernel
set_option maxHeartbeats 8000000 in
set_option maxRecDepth 100000 in
theorem c_X8_layPlaces (l : Launch) (D : va_G) (cI cJ cZ cO : ClassId) (a_this a_this_near a_this_turned a_this_figures a_this_text a_this_sectors a_this_corners a_this_likes a_this_laid a_this_isMirrored a_this_places a_this_placeMany a_this_now a_this_firsts a_this_forms a_this_isKept a_this_keptFigures a_this_keptPieces a_this_keptLaid a_this_keptMirrored : Nat) (sz : Nat) (c_this_length : Int32) (c_this_doubles : Int32) (c_this_likeMany : Int32) (c_this_pieces : Int32) (c_this_laid : Nat → Int64) (c_this_isMirrored : Nat → Int32) (c_this_turned : Nat → Int32) (c_this_likes : Nat → Int64) (c_this_placeMany : Nat → Int32) (c_this_places : Nat → Int64) (x1 : Int32) (x2 : Int64) (u_this_likeMany : Int32) (u_this_likes : Nat → Int64) (u_this_placeMany : Nat → Int32) (u_this_places : Nat → Int64) (hf : f_X8_layPlaces c_this_likeMany c_this_laid c_this_isMirrored c_this_turned c_this_likes c_this_placeMany c_this_places x1 x2 = some (u_this_likeMany, u_this_likes, u_this_placeMany, u_this_places)) : Met l yX8_layPlaces wsX8_layPlaces ({ frames := 3, cells := 0, slots := 0, locals := 78 }) (va_Pc [.ref a_this, .int x1, .long x2] (hkM D cI cJ cZ cO [(a_this, .inr (4, [.ref a_this_near, .ref a_this_turned, .ref a_this_figures, .ref a_this_text, .int c_this_length, .ref a_this_sectors, .ref a_this_corners, .int c_this_doubles, .ref a_this_likes, .int c_this_likeMany, .int c_this_pieces, .ref a_this_laid, .ref a_this_isMirrored, .ref a_this_places, .ref a_this_placeMany, .ref a_this_now, .ref a_this_firsts, .ref a_this_forms, .ref a_this_isKept, .ref a_this_keptFigures, .ref a_this_keptPieces, .ref a_this_keptLaid, .ref a_this_keptMirrored])), (a_this_laid, .inl (cJ, 4, .inr (.inl c_this_laid))), (a_this_isMirrored, .inl (cZ, 4, .inl c_this_isMirrored)), (a_this_turned, .inl (cI, 512, .inl c_this_turned)), (a_this_likes, .inl (cJ, 400, .inr (.inl c_this_likes))), (a_this_placeMany, .inl (cI, 4, .inl c_this_placeMany)), (a_this_places, .inl (cJ, 1600, .inr (.inl c_this_places)))] sz)) (va_Qv (fun (_ : Unit) => True) (fun _ t => va_P D vwCl [(a_this, .inr (4, [.ref a_this_near, .ref a_this_turned, .ref a_this_figures, .ref a_this_text, .int c_this_length, .ref a_this_sectors, .ref a_this_corners, .int c_this_doubles, .ref a_this_likes, .int u_this_likeMany, .int c_this_pieces, .ref a_this_laid, .ref a_this_isMirrored, .ref a_this_places, .ref a_this_placeMany, .ref a_this_now, .ref a_this_firsts, .ref a_this_forms, .ref a_this_isKept, .ref a_this_keptFigures, .ref a_this_keptPieces, .ref a_this_keptLaid, .ref a_this_keptMirrored])), (a_this_laid, .inl (cJ, 4, .inr (.inl c_this_laid))), (a_this_isMirrored, .inl (cZ, 4, .inl c_this_isMirrored)), (a_this_turned, .inl (cI, 512, .inl c_this_turned)), (a_this_likes, .inl (cJ, 400, .inr (.inl u_this_likes))), (a_this_placeMany, .inl (cI, 4, .inl u_this_placeMany)), (a_this_places, .inl (cJ, 1600, .inr (.inl u_this_places)))] t.heap ∧ va_D (va_A [(a_this, .inr (4, [.ref a_this_near, .ref a_this_turned, .ref a_this_figures, .ref a_this_text, .int c_this_length, .ref a_this_sectors, .ref a_this_corners, .int c_this_doubles, .ref a_this_likes, .int c_this_likeMany, .int c_this_pieces, .ref a_this_laid, .ref a_this_isMirrored, .ref a_this_places, .ref a_this_placeMany, .ref a_this_now, .ref a_this_firsts, .ref a_this_forms, .ref a_this_isKept, .ref a_this_keptFigures, .ref a_this_keptPieces, .ref a_this_keptLaid, .ref a_this_keptMirrored])), (a_this_laid, .inl (cJ, 4, .inr (.inl c_this_laid))), (a_this_isMirrored, .inl (cZ, 4, .inl c_this_isMirrored)), (a_this_turned, .inl (cI, 512, .inl c_this_turned)), (a_this_likes, .inl (cJ, 400, .inr (.inl c_this_likes))), (a_this_placeMany, .inl (cI, 4, .inl c_this_placeMany)), (a_this_places, .inl (cJ, 1600, .inr (.inl c_this_places)))] sz) [(a_this, .inr (4, [.ref a_this_near, .ref a_this_turned, .ref a_this_figures, .ref a_this_text, .int c_this_length, .ref a_this_sectors, .ref a_this_corners, .int c_this_doubles, .ref a_this_likes, .int u_this_likeMany, .int c_this_pieces, .ref a_this_laid, .ref a_this_isMirrored, .ref a_this_places, .ref a_this_placeMany, .ref a_this_now, .ref a_this_firsts, .ref a_this_forms, .ref a_this_isKept, .ref a_this_keptFigures, .ref a_this_keptPieces, .ref a_this_keptLaid, .ref a_this_keptMirrored])), (a_this_laid, .inl (cJ, 4, .inr (.inl c_this_laid))), (a_this_isMirrored, .inl (cZ, 4, .inl c_this_isMirrored)), (a_this_turned, .inl (cI, 512, .inl c_this_turned)), (a_this_likes, .inl (cJ, 400, .inr (.inl u_this_likes))), (a_this_placeMany, .inl (cI, 4, .inl u_this_placeMany)), (a_this_places, .inl (cJ, 1600, .inr (.inl u_this_places)))]) (va_A [(a_this, .inr (4, [.ref a_this_near, .ref a_this_turned, .ref a_this_figures, .ref a_this_text, .int c_this_length, .ref a_this_sectors, .ref a_this_corners, .int c_this_doubles, .ref a_this_likes, .int c_this_likeMany, .int c_this_pieces, .ref a_this_laid, .ref a_this_isMirrored, .ref a_this_places, .ref a_this_placeMany, .ref a_this_now, .ref a_this_firsts, .ref a_this_forms, .ref a_this_isKept, .ref a_this_keptFigures, .ref a_this_keptPieces, .ref a_this_keptLaid, .ref a_this_keptMirrored])), (a_this_laid, .inl (cJ, 4, .inr (.inl c_this_laid))), (a_this_isMirrored, .inl (cZ, 4, .inl c_this_isMirrored)), (a_this_turned, .inl (cI, 512, .inl c_this_turned)), (a_this_likes, .inl (cJ, 400, .inr (.inl c_this_likes))), (a_this_placeMany, .inl (cI, 4, .inl c_this_placeMany)), (a_this_places, .inl (cJ, 1600, .inr (.inl c_this_places)))] sz)) 0 0 (va_A [(a_this, .inr (4, [.ref a_this_near, .ref a_this_turned, .ref a_this_figures, .ref a_this_text, .int c_this_length, .ref a_this_sectors, .ref a_this_corners, .int c_this_doubles, .ref a_this_likes, .int c_this_likeMany, .int c_this_pieces, .ref a_this_laid, .ref a_this_isMirrored, .ref a_this_places, .ref a_this_placeMany, .ref a_this_now, .ref a_this_firsts, .ref a_this_forms, .ref a_this_isKept, .ref a_this_keptFigures, .ref a_this_keptPieces, .ref a_this_keptLaid, .ref a_this_keptMirrored])), (a_this_laid, .inl (cJ, 4, .inr (.inl c_this_laid))), (a_this_isMirrored, .inl (cZ, 4, .inl c_this_isMirrored)), (a_this_turned, .inl (cI, 512, .inl c_this_turned)), (a_this_likes, .inl (cJ, 400, .inr (.inl c_this_likes))), (a_this_placeMany, .inl (cI, 4, .inl c_this_placeMany)), (a_this_places, .inl (cJ, 1600, .inr (.inl c_this_places)))] sz) := by
  refine Met.ofW (cc := cX8_layPlaces) (maxL := 5) (ret := none) (by decide) rfl ?_
  intro p e s m args below meth c s₁ B hml hv
  obtain ⟨rfl, hsz, hP, hK, hD0⟩ := hv
  have hx := B.exec
  have hb := B.bytes
  have hr := B.returns
  have hts := atoms_spec (ws := wsX8_layPlaces) B.pre
  have hown : s.vm.findClass RX8 = some m.cls := findClass_of_methodNamed B.named
  have hlocks := B.notSynchronized
  have hN := hK.2
  subst hsz
  have hD := hD0.self (sz := s.heap.size)
  generalize hAe : va_A [(a_this, .inr (4, [.ref a_this_near, .ref a_this_turned, .ref a_this_figures, .ref a_this_text, .int c_this_length, .ref a_this_sectors, .ref a_this_corners, .int c_this_doubles, .ref a_this_likes, .int c_this_likeMany, .int c_this_pieces, .ref a_this_laid, .ref a_this_isMirrored, .ref a_this_places, .ref a_this_placeMany, .ref a_this_now, .ref a_this_firsts, .ref a_this_forms, .ref a_this_isKept, .ref a_this_keptFigures, .ref a_this_keptPieces, .ref a_this_keptLaid, .ref a_this_keptMirrored])), (a_this_laid, .inl (cJ, 4, .inr (.inl c_this_laid))), (a_this_isMirrored, .inl (cZ, 4, .inl c_this_isMirrored)), (a_this_turned, .inl (cI, 512, .inl c_this_turned)), (a_this_likes, .inl (cJ, 400, .inr (.inl c_this_likes))), (a_this_placeMany, .inl (cI, 4, .inl c_this_placeMany)), (a_this_places, .inl (cJ, 1600, .inr (.inl c_this_places)))] s.heap.size = A at hD ⊢
  have hA : ∀ q : Nat, s.heap.size ≤ q → A q := fun q h => by rw [← hAe]; exact Or.inr h
  have hS : va_S A s.heap s.heap [] := va_S.rf
  have hl := lv_entry ([.ref a_this, .int x1, .long x2]) (n := 5) (Nat.le_of_ble_eq_true rfl)
  rw [lg_entry_eq]
  generalize (lg_sl ([.ref a_this, .int x1, .long x2]) ++ List.replicate (5 - (lg_sl ([.ref a_this, .int x1, .long x2])).length) Slot.unset).toArray = ls at hl ⊢
  have hl : lv_has ls 5 [(0, .ref a_this), (1, .int x1), (2, .long x2)] := hl
  refine hk_Q (fun Q hQ => ?_)
  have h := hf
  unfold f_X8_layPlaces at h
  refine lv_aload_n hx hb dX8_layPlaces_0 rfl (lv_at hl 0 rfl) ?_
  refine lv_aload_n hx hb dX8_layPlaces_1 rfl (lv_at hl 0 rfl) ?_
  refine va_get (D := D) (ci := 4) (v := .ref a_this_laid) (C := RX8) (T := TX8) (N := 23) hx hb hts zi_X8_layPlaces_X8 hown hK.1 hP 0 rfl rfl 11 (by decide) (hts (.fieldLink RX8 33 "HalfAndHalfAgainModel" "laid" "[J") (List.mem_of_getElem? (i := 1) rfl)) (fun _ h9 => h9) rfl dX8_layPlaces_2 ?_
  refine lv_iload_n hx hb dX8_layPlaces_5 rfl (lv_at hl 1 rfl) ?_
  obtain ⟨hi21, h⟩ := hk_ge h
  refine va_lald hx hb hK.1 hP 1 1 rfl rfl (hk_inb_of hi21) dX8_layPlaces_6 ?_
  refine lv_aload_n hx hb dX8_layPlaces_7 rfl (lv_at hl 0 rfl) ?_
  refine va_get (D := D) (ci := 4) (v := .ref a_this_isMirrored) (C := RX8) (T := TX8) (N := 23) hx hb hts zi_X8_layPlaces_X8 hown hK.1 hP 0 rfl rfl 12 (by decide) (hts (.fieldLink RX8 36 "HalfAndHalfAgainModel" "isMirrored" "[Z") (List.mem_of_getElem? (i := 2) rfl)) (fun _ h9 => h9) rfl dX8_layPlaces_8 ?_
  refine lv_iload_n hx hb dX8_layPlaces_11 rfl (lv_at hl 1 rfl) ?_
  obtain ⟨hi22, h⟩ := hk_ge h
  refine va_zald hx hb hK.1 hP 2 2 rfl rfl (hk_inb_of hi22) dX8_layPlaces_12 ?_
  obtain ⟨v25, g23, h⟩ := hk_lf h
  refine hk_joinR (nL := 5) (xs := fun (t9 : Int32) => (22, [(0, .ref a_this), (1, .int x1), (2, .long x2)], [.int t9, .long (c_this_laid x1.toNatClampNeg), .ref a_this])) v25 (fun hjg23 => ?_) ?_
  · refine lv_if_eq (tgt := 21) hx hb dX8_layPlaces_13 (by decide) (fun c24 => ?_) (fun c24 => ?_)
    · replace g23 := hk_ip c24 g23
      refine lv_iconst (v := (4 : Int32)) hx hb dX8_layPlaces_21 (by decide) ?_
      subst g23
      exact hjg23 ls (lv_sub hl [0, 1, 2] rfl)
    replace g23 := hk_in c24 g23
    refine lv_bipush (v := (8 : Int32)) hx hb dX8_layPlaces_16 (by decide) ?_
    refine lv_goto (tgt := 22) hx hb dX8_layPlaces_18 (by decide) ?_
    subst g23
    exact hjg23 ls (lv_sub hl [0, 1, 2] rfl)
  intro ls hl
  have hl : lv_has ls 5 [(0, .ref a_this), (1, .int x1), (2, .long x2)] := hl
  show W _ _ _ _ _ _ _ _ _ _ _ _ _ _ _ (F0 m 22 ls [.int v25, .long (c_this_laid x1.toNatClampNeg), .ref a_this])
  obtain ⟨u26, u27, hr28, h⟩ := hk_x2 h
  have hPc := hP.sub (ws' := [(a_this, .inr (4, [.ref a_this_near, .ref a_this_turned, .ref a_this_figures, .ref a_this_text, .int c_this_length, .ref a_this_sectors, .ref a_this_corners, .int c_this_doubles, .ref a_this_likes, .int c_this_likeMany, .int c_this_pieces, .ref a_this_laid, .ref a_this_isMirrored, .ref a_this_places, .ref a_this_placeMany, .ref a_this_now, .ref a_this_firsts, .ref a_this_forms, .ref a_this_isKept, .ref a_this_keptFigures, .ref a_this_keptPieces, .ref a_this_keptLaid, .ref a_this_keptMirrored])), (a_this_turned, .inl (cI, 512, .inl c_this_turned)), (a_this_likes, .inl (cJ, 400, .inr (.inl c_this_likes)))]) [0, 3, 4] rfl
  have hDc := hD.sub (ws' := [(a_this, .inr (4, [.ref a_this_near, .ref a_this_turned, .ref a_this_figures, .ref a_this_text, .int c_this_length, .ref a_this_sectors, .ref a_this_corners, .int c_this_doubles, .ref a_this_likes, .int c_this_likeMany, .int c_this_pieces, .ref a_this_laid, .ref a_this_isMirrored, .ref a_this_places, .ref a_this_placeMany, .ref a_this_now, .ref a_this_firsts, .ref a_this_forms, .ref a_this_isKept, .ref a_this_keptFigures, .ref a_this_keptPieces, .ref a_this_keptLaid, .ref a_this_keptMirrored])), (a_this_turned, .inl (cI, 512, .inl c_this_turned)), (a_this_likes, .inl (cJ, 400, .inr (.inl c_this_likes)))]) [0, 3, 4] (by decide) rfl
  have hFc := va_free (wc := [(a_this, .inr (4, [.ref a_this_near, .ref a_this_turned, .ref a_this_figures, .ref a_this_text, .int c_this_length, .ref a_this_sectors, .ref a_this_corners, .int c_this_doubles, .ref a_this_likes, .int c_this_likeMany, .int c_this_pieces, .ref a_this_laid, .ref a_this_isMirrored, .ref a_this_places, .ref a_this_placeMany, .ref a_this_now, .ref a_this_firsts, .ref a_this_forms, .ref a_this_isKept, .ref a_this_keptFigures, .ref a_this_keptPieces, .ref a_this_keptLaid, .ref a_this_keptMirrored])), (a_this_turned, .inl (cI, 512, .inl c_this_turned)), (a_this_likes, .inl (cJ, 400, .inr (.inl c_this_likes)))]) hD hS hA [0, 3, 4] rfl
  refine va_callv (va_runV (As := [.long (c_this_laid x1.toNatClampNeg), .int v25]) (rest := []) ⟨hx, hb, hml, hown, hts⟩ (c_X8_layLikes l D cI cJ cZ cO a_this a_this_near a_this_turned a_this_figures a_this_text a_this_sectors a_this_corners a_this_likes a_this_laid a_this_isMirrored a_this_places a_this_placeMany a_this_now a_this_firsts a_this_forms a_this_isKept a_this_keptFigures a_this_keptPieces a_this_keptLaid a_this_keptMirrored s.heap.size c_this_length c_this_doubles c_this_likeMany c_this_pieces c_this_turned c_this_likes (c_this_laid x1.toNatClampNeg) v25 _ _ hr28) (cwV 2 hts gX8_layPlaces_X8_layLikes rfl rfl rfl zv_X8_layLikes ⟨Nat.le_of_ble_eq_true rfl, Nat.le_of_ble_eq_true rfl⟩) (hk_preMV 4 rfl hPc hDc hK rfl) rfl rfl hl.1 rfl (lv_room (Nat.le_of_ble_eq_true rfl)) dX8_layPlaces_22 ⟨Nat.zero_le _, Nat.zero_le _⟩) hS (fun q _ h9 => hFc q h9) hFc (fun u9 t9 H1 locs ht hvm hw hB hz1 hk1 hS => ?_)
  obtain ⟨hP1, hD1⟩ := hB
  rw [ht] at hP1
  obtain ⟨hP, hD⟩ := va_join (wr := [(a_this_laid, .inl (cJ, 4, .inr (.inl c_this_laid))), (a_this_isMirrored, .inl (cZ, 4, .inl c_this_isMirrored)), (a_this_placeMany, .inl (cI, 4, .inl c_this_placeMany)), (a_this_places, .inl (cJ, 1600, .inr (.inl c_this_places)))]) (w1 := [(a_this, .inr (4, [.ref a_this_near, .ref a_this_turned, .ref a_this_figures, .ref a_this_text, .int c_this_length, .ref a_this_sectors, .ref a_this_corners, .int c_this_doubles, .ref a_this_likes, .int u26, .int c_this_pieces, .ref a_this_laid, .ref a_this_isMirrored, .ref a_this_places, .ref a_this_placeMany, .ref a_this_now, .ref a_this_firsts, .ref a_this_forms, .ref a_this_isKept, .ref a_this_keptFigures, .ref a_this_keptPieces, .ref a_this_keptLaid, .ref a_this_keptMirrored])), (a_this_turned, .inl (cI, 512, .inl c_this_turned)), (a_this_likes, .inl (cJ, 400, .inr (.inl u27)))]) hP hD [0, 3, 4] [1, 2, 5, 6] rfl rfl (by decide) (by decide) hk1 hFc hP1 hD1
  generalize H1 = H at hP hS ⊢
  have hP := hP.sub (ws' := [(a_this, .inr (4, [.ref a_this_near, .ref a_this_turned, .ref a_this_figures, .ref a_this_text, .int c_this_length, .ref a_this_sectors, .ref a_this_corners, .int c_this_doubles, .ref a_this_likes, .int u26, .int c_this_pieces, .ref a_this_laid, .ref a_this_isMirrored, .ref a_this_places, .ref a_this_placeMany, .ref a_this_now, .ref a_this_firsts, .ref a_this_forms, .ref a_this_isKept, .ref a_this_keptFigures, .ref a_this_keptPieces, .ref a_this_keptLaid, .ref a_this_keptMirrored])), (a_this_laid, .inl (cJ, 4, .inr (.inl c_this_laid))), (a_this_isMirrored, .inl (cZ, 4, .inl c_this_isMirrored)), (a_this_turned, .inl (cI, 512, .inl c_this_turned)), (a_this_likes, .inl (cJ, 400, .inr (.inl u27))), (a_this_placeMany, .inl (cI, 4, .inl c_this_placeMany)), (a_this_places, .inl (cJ, 1600, .inr (.inl c_this_places)))]) [4, 0, 1, 5, 6, 2, 3] rfl
  have hD := hD.sub (ws' := [(a_this, .inr (4, [.ref a_this_near, .ref a_this_turned, .ref a_this_figures, .ref a_this_text, .int c_this_length, .ref a_this_sectors, .ref a_this_corners, .int c_this_doubles, .ref a_this_likes, .int u26, .int c_this_pieces, .ref a_this_laid, .ref a_this_isMirrored, .ref a_this_places, .ref a_this_placeMany, .ref a_this_now, .ref a_this_firsts, .ref a_this_forms, .ref a_this_isKept, .ref a_this_keptFigures, .ref a_this_keptPieces, .ref a_this_keptLaid, .ref a_this_keptMirrored])), (a_this_laid, .inl (cJ, 4, .inr (.inl c_this_laid))), (a_this_isMirrored, .inl (cZ, 4, .inl c_this_isMirrored)), (a_this_turned, .inl (cI, 512, .inl c_this_turned)), (a_this_likes, .inl (cJ, 400, .inr (.inl u27))), (a_this_placeMany, .inl (cI, 4, .inl c_this_placeMany)), (a_this_places, .inl (cJ, 1600, .inr (.inl c_this_places)))]) [4, 0, 1, 5, 6, 2, 3] (by decide) rfl
  refine lv_aload_n hx hb dX8_layPlaces_25 rfl (lv_at hl 0 rfl) ?_
  refine va_get (D := D) (ci := 4) (v := .ref a_this_placeMany) (C := RX8) (T := TX8) (N := 23) hx hb hts zi_X8_layPlaces_X8 hown hK.1 hP 0 rfl rfl 14 (by decide) (hts (.fieldLink RX8 42 "HalfAndHalfAgainModel" "placeMany" "[I") (List.mem_of_getElem? (i := 3) rfl)) (fun _ h9 => h9) rfl dX8_layPlaces_26 ?_
  refine lv_iload_n hx hb dX8_layPlaces_29 rfl (lv_at hl 1 rfl) ?_
  refine lv_iconst (v := (0 : Int32)) hx hb dX8_layPlaces_30 (by decide) ?_
  obtain ⟨hi30, h⟩ := hk_ge h
  refine va_iast hx hb hK.1 hP hD hS 5 0 rfl rfl (hk_inb_of hi30) dX8_layPlaces_31 (fun H locs hP hD hS => ?_)
  have hP : va_P D vwCl [(a_this, .inr (4, [.ref a_this_near, .ref a_this_turned, .ref a_this_figures, .ref a_this_text, .int c_this_length, .ref a_this_sectors, .ref a_this_corners, .int c_this_doubles, .ref a_this_likes, .int u26, .int c_this_pieces, .ref a_this_laid, .ref a_this_isMirrored, .ref a_this_places, .ref a_this_placeMany, .ref a_this_now, .ref a_this_firsts, .ref a_this_forms, .ref a_this_isKept, .ref a_this_keptFigures, .ref a_this_keptPieces, .ref a_this_keptLaid, .ref a_this_keptMirrored])), (a_this_laid, .inl (cJ, 4, .inr (.inl c_this_laid))), (a_this_isMirrored, .inl (cZ, 4, .inl c_this_isMirrored)), (a_this_turned, .inl (cI, 512, .inl c_this_turned)), (a_this_likes, .inl (cJ, 400, .inr (.inl u27))), (a_this_placeMany, .inl (cI, 4, .inl (upd c_this_placeMany x1.toNatClampNeg (0 : Int32)))), (a_this_places, .inl (cJ, 1600, .inr (.inl c_this_places)))] H := hP
  have hD : va_D A [(a_this, .inr (4, [.ref a_this_near, .ref a_this_turned, .ref a_this_figures, .ref a_this_text, .int c_this_length, .ref a_this_sectors, .ref a_this_corners, .int c_this_doubles, .ref a_this_likes, .int u26, .int c_this_pieces, .ref a_this_laid, .ref a_this_isMirrored, .ref a_this_places, .ref a_this_placeMany, .ref a_this_now, .ref a_this_firsts, .ref a_this_forms, .ref a_this_isKept, .ref a_this_keptFigures, .ref a_this_keptPieces, .ref a_this_keptLaid, .ref a_this_keptMirrored])), (a_this_laid, .inl (cJ, 4, .inr (.inl c_this_laid))), (a_this_isMirrored, .inl (cZ, 4, .inl c_this_isMirrored)), (a_this_turned, .inl (cI, 512, .inl c_this_turned)), (a_this_likes, .inl (cJ, 400, .inr (.inl u27))), (a_this_placeMany, .inl (cI, 4, .inl (upd c_this_placeMany x1.toNatClampNeg (0 : Int32)))), (a_this_places, .inl (cJ, 1600, .inr (.inl c_this_places)))] := hD
  refine lv_iconst (v := (0 : Int32)) hx hb dX8_layPlaces_32 (by decide) ?_
  refine lv_istore (lv' := [(4, .int (0 : Int32)), (0, .ref a_this), (1, .int x1), (2, .long x2)]) hx hb dX8_layPlaces_33 hl (by decide) rfl (fun ls hl => ?_)
  obtain ⟨v48, v49, hr47, h⟩ := hk_x2 h
  refine hk_loopM (f := st_X8_layPlaces_35 x1 x2 u26 u27) (hd := 35) (nL := 5) (lv := fun t9 => [(0, .ref a_this), (1, .int x1), (2, .long x2), (4, .int t9.1)]) (wf := fun t9 => [(a_this, .inr (4, [.ref a_this_near, .ref a_this_turned, .ref a_this_figures, .ref a_this_text, .int c_this_length, .ref a_this_sectors, .ref a_this_corners, .int c_this_doubles, .ref a_this_likes, .int u26, .int c_this_pieces, .ref a_this_laid, .ref a_this_isMirrored, .ref a_this_places, .ref a_this_placeMany, .ref a_this_now, .ref a_this_firsts, .ref a_this_forms, .ref a_this_isKept, .ref a_this_keptFigures, .ref a_this_keptPieces, .ref a_this_keptLaid, .ref a_this_keptMirrored])), (a_this_laid, .inl (cJ, 4, .inr (.inl c_this_laid))), (a_this_isMirrored, .inl (cZ, 4, .inl c_this_isMirrored)), (a_this_turned, .inl (cI, 512, .inl c_this_turned)), (a_this_likes, .inl (cJ, 400, .inr (.inl u27))), (a_this_placeMany, .inl (cI, 4, .inl t9.2.1)), (a_this_places, .inl (cJ, 1600, .inr (.inl t9.2.2)))]) (xs := fun t9 => (102, [], [], [(a_this, .inr (4, [.ref a_this_near, .ref a_this_turned, .ref a_this_figures, .ref a_this_text, .int c_this_length, .ref a_this_sectors, .ref a_this_corners, .int c_this_doubles, .ref a_this_likes, .int u26, .int c_this_pieces, .ref a_this_laid, .ref a_this_isMirrored, .ref a_this_places, .ref a_this_placeMany, .ref a_this_now, .ref a_this_firsts, .ref a_this_forms, .ref a_this_isKept, .ref a_this_keptFigures, .ref a_this_keptPieces, .ref a_this_keptLaid, .ref a_this_keptMirrored])), (a_this_laid, .inl (cJ, 4, .inr (.inl c_this_laid))), (a_this_isMirrored, .inl (cZ, 4, .inl c_this_isMirrored)), (a_this_turned, .inl (cI, 512, .inl c_this_turned)), (a_this_likes, .inl (cJ, 400, .inr (.inl u27))), (a_this_placeMany, .inl (cI, 4, .inl t9.1)), (a_this_places, .inl (cJ, 1600, .inr (.inl t9.2)))])) ?_ hr47 ?_ hP hD hS (lv_sub hl [1, 2, 3, 0] rfl)
  · intro t50 q51 k31 hck31 hqk31 H locs ls hP hD hS hl
    obtain ⟨y32, w33, w34⟩ := t50
    have k31 : st_X8_layPlaces_35c x1 x2 u26 u27 y32 w33 w34 = some q51 := k31
    unfold st_X8_layPlaces_35c at k31
    have hl : lv_has ls 5 [(0, .ref a_this), (1, .int x1), (2, .long x2), (4, .int y32)] := hl
    have hP : va_P D vwCl [(a_this, .inr (4, [.ref a_this_near, .ref a_this_turned, .ref a_this_figures, .ref a_this_text, .int c_this_length, .ref a_this_sectors, .ref a_this_corners, .int c_this_doubles, .ref a_this_likes, .int u26, .int c_this_pieces, .ref a_this_laid, .ref a_this_isMirrored, .ref a_this_places, .ref a_this_placeMany, .ref a_this_now, .ref a_this_firsts, .ref a_this_forms, .ref a_this_isKept, .ref a_this_keptFigures, .ref a_this_keptPieces, .ref a_this_keptLaid, .ref a_this_keptMirrored])), (a_this_laid, .inl (cJ, 4, .inr (.inl c_this_laid))), (a_this_isMirrored, .inl (cZ, 4, .inl c_this_isMirrored)), (a_this_turned, .inl (cI, 512, .inl c_this_turned)), (a_this_likes, .inl (cJ, 400, .inr (.inl u27))), (a_this_placeMany, .inl (cI, 4, .inl w33)), (a_this_places, .inl (cJ, 1600, .inr (.inl w34)))] H := hP
    have hD : va_D A [(a_this, .inr (4, [.ref a_this_near, .ref a_this_turned, .ref a_this_figures, .ref a_this_text, .int c_this_length, .ref a_this_sectors, .ref a_this_corners, .int c_this_doubles, .ref a_this_likes, .int u26, .int c_this_pieces, .ref a_this_laid, .ref a_this_isMirrored, .ref a_this_places, .ref a_this_placeMany, .ref a_this_now, .ref a_this_firsts, .ref a_this_forms, .ref a_this_isKept, .ref a_this_keptFigures, .ref a_this_keptPieces, .ref a_this_keptLaid, .ref a_this_keptMirrored])), (a_this_laid, .inl (cJ, 4, .inr (.inl c_this_laid))), (a_this_isMirrored, .inl (cZ, 4, .inl c_this_isMirrored)), (a_this_turned, .inl (cI, 512, .inl c_this_turned)), (a_this_likes, .inl (cJ, 400, .inr (.inl u27))), (a_this_placeMany, .inl (cI, 4, .inl w33)), (a_this_places, .inl (cJ, 1600, .inr (.inl w34)))] := hD
    refine lv_iload hx hb dX8_layPlaces_35 (lv_at hl 3 rfl) ?_
    refine lv_aload_n hx hb dX8_layPlaces_37 rfl (lv_at hl 0 rfl) ?_
    refine va_get (D := D) (ci := 4) (v := .int u26) (C := RX8) (T := TX8) (N := 23) hx hb hts zi_X8_layPlaces_X8 hown hK.1 hP 0 rfl rfl 9 (by decide) (hts (.fieldLink RX8 168 "HalfAndHalfAgainModel" "likeMany" "I") (List.mem_of_getElem? (i := 4) rfl)) (fun _ h9 => h9) rfl dX8_layPlaces_38 ?_
    refine lv_icmp_ge (tgt := 102) hx hb dX8_layPlaces_41 (by decide) (fun c35 => ?_) (fun c35 => ?_)
    · replace k31 := hk_ip c35 k31
      exact hqk31 (w33, w34) (Option.some.inj k31).symm H locs ls hP hD hS (lv_sub hl [] rfl)
    replace k31 := hk_in c35 k31
    refine lv_aload_n hx hb dX8_layPlaces_44 rfl (lv_at hl 0 rfl) ?_
    refine va_get (D := D) (ci := 4) (v := .ref a_this_likes) (C := RX8) (T := TX8) (N := 23) hx hb hts zi_X8_layPlaces_X8 hown hK.1 hP 0 rfl rfl 8 (by decide) (hts (.fieldLink RX8 30 "HalfAndHalfAgainModel" "likes" "[J") (List.mem_of_getElem? (i := 5) rfl)) (fun _ h9 => h9) rfl dX8_layPlaces_45 ?_
    refine lv_iload hx hb dX8_layPlaces_48 (lv_at hl 3 rfl) ?_
    obtain ⟨hi36, k31⟩ := hk_ge k31
    refine va_lald hx hb hK.1 hP 4 1 rfl rfl (hk_inb_of hi36) dX8_layPlaces_50 ?_
    refine lv_lload_n hx hb dX8_layPlaces_51 rfl (lv_at hl 2 rfl) ?_
    refine lv_ldc2 (v := (-1 : Int64)) hx hb hown (hts (.constantLong RX8 118 (-1)) (List.mem_of_getElem? (i := 6) rfl)) dX8_layPlaces_52 ?_
    refine lv_lxor hx hb dX8_layPlaces_55 ?_
    refine lv_land hx hb dX8_layPlaces_56 ?_
    refine lv_lconst (v := (0 : Int64)) hx hb dX8_layPlaces_57 (by decide) ?_
    obtain ⟨v44, v45, g37, k31⟩ := hk_x2 k31
    refine hk_joinM (D := D) (cl := vwCl) (A := A) (H0 := s.heap) (nL := 5) (xs := fun (t9 : ((Nat → Int32) × (Nat → Int64))) => (96, [(0, .ref a_this), (1, .int x1), (2, .long x2), (4, .int y32)], [], [(a_this, .inr (4, [.ref a_this_near, .ref a_this_turned, .ref a_this_figures, .ref a_this_text, .int c_this_length, .ref a_this_sectors, .ref a_this_corners, .int c_this_doubles, .ref a_this_likes, .int u26, .int c_this_pieces, .ref a_this_laid, .ref a_this_isMirrored, .ref a_this_places, .ref a_this_placeMany, .ref a_this_now, .ref a_this_firsts, .ref a_this_forms, .ref a_this_isKept, .ref a_this_keptFigures, .ref a_this_keptPieces, .ref a_this_keptLaid, .ref a_this_keptMirrored])), (a_this_laid, .inl (cJ, 4, .inr (.inl c_this_laid))), (a_this_isMirrored, .inl (cZ, 4, .inl c_this_isMirrored)), (a_this_turned, .inl (cI, 512, .inl c_this_turned)), (a_this_likes, .inl (cJ, 400, .inr (.inl u27))), (a_this_placeMany, .inl (cI, 4, .inl t9.1)), (a_this_places, .inl (cJ, 1600, .inr (.inl t9.2)))])) (v44, v45) (fun hjg37 => ?_) ?_
    · refine hk_lcmp_ne (tgt := 96) hx hb dX8_layPlaces_58 dX8_layPlaces_59 (by decide) (fun c38 => ?_) (fun c38 => ?_)
      · replace g37 := hk_in c38 g37
        have g37 := Option.some.inj g37
        simp only [Prod.mk.injEq] at g37
        obtain ⟨rfl, rfl⟩ := g37
        exact hjg37 H locs ls hP hD hS (lv_sub hl [0, 1, 2, 3] rfl)
      replace g37 := hk_ip c38 g37
      refine lv_aload_n hx hb dX8_layPlaces_62 rfl (lv_at hl 0 rfl) ?_
      refine va_get (D := D) (ci := 4) (v := .ref a_this_places) (C := RX8) (T := TX8) (N := 23) hx hb hts zi_X8_layPlaces_X8 hown hK.1 hP 0 rfl rfl 13 (by decide) (hts (.fieldLink RX8 39 "HalfAndHalfAgainModel" "places" "[J") (List.mem_of_getElem? (i := 7) rfl)) (fun _ h9 => h9) rfl dX8_layPlaces_63 ?_
      refine lv_sipush (v := (400 : Int32)) hx hb dX8_layPlaces_66 (by decide) ?_
      refine lv_iload_n hx hb dX8_layPlaces_69 rfl (lv_at hl 1 rfl) ?_
      refine lv_imul hx hb dX8_layPlaces_70 ?_
      refine lv_aload_n hx hb dX8_layPlaces_71 rfl (lv_at hl 0 rfl) ?_
      refine va_get (D := D) (ci := 4) (v := .ref a_this_placeMany) (C := RX8) (T := TX8) (N := 23) hx hb hts zi_X8_layPlaces_X8 hown hK.1 hP 0 rfl rfl 14 (by decide) (hts (.fieldLink RX8 42 "HalfAndHalfAgainModel" "placeMany" "[I") (List.mem_of_getElem? (i := 3) rfl)) (fun _ h9 => h9) rfl dX8_layPlaces_72 ?_
      refine lv_iload_n hx hb dX8_layPlaces_75 rfl (lv_at hl 1 rfl) ?_
      obtain ⟨hi39, g37⟩ := hk_ge g37
      refine va_iald hx hb hK.1 hP 5 0 rfl rfl (hk_inb_of hi39) dX8_layPlaces_76 ?_
      refine lv_iadd hx hb dX8_layPlaces_77 ?_
      refine lv_aload_n hx hb dX8_layPlaces_78 rfl (lv_at hl 0 rfl) ?_
      refine va_get (D := D) (ci := 4) (v := .ref a_this_likes) (C := RX8) (T := TX8) (N := 23) hx hb hts zi_X8_layPlaces_X8 hown hK.1 hP 0 rfl rfl 8 (by decide) (hts (.fieldLink RX8 30 "HalfAndHalfAgainModel" "likes" "[J") (List.mem_of_getElem? (i := 5) rfl)) (fun _ h9 => h9) rfl dX8_layPlaces_79 ?_
      refine lv_iload hx hb dX8_layPlaces_82 (lv_at hl 3 rfl) ?_
      obtain ⟨hi40, g37⟩ := hk_ge g37
      refine va_lald hx hb hK.1 hP 4 1 rfl rfl (hk_inb_of hi40) dX8_layPlaces_84 ?_
      obtain ⟨hi41, g37⟩ := hk_ge g37
      refine va_last hx hb hK.1 hP hD hS 6 1 rfl rfl (hk_inb_of hi41) dX8_layPlaces_85 (fun H locs hP hD hS => ?_)
      have hP : va_P D vwCl [(a_this, .inr (4, [.ref a_this_near, .ref a_this_turned, .ref a_this_figures, .ref a_this_text, .int c_this_length, .ref a_this_sectors, .ref a_this_corners, .int c_this_doubles, .ref a_this_likes, .int u26, .int c_this_pieces, .ref a_this_laid, .ref a_this_isMirrored, .ref a_this_places, .ref a_this_placeMany, .ref a_this_now, .ref a_this_firsts, .ref a_this_forms, .ref a_this_isKept, .ref a_this_keptFigures, .ref a_this_keptPieces, .ref a_this_keptLaid, .ref a_this_keptMirrored])), (a_this_laid, .inl (cJ, 4, .inr (.inl c_this_laid))), (a_this_isMirrored, .inl (cZ, 4, .inl c_this_isMirrored)), (a_this_turned, .inl (cI, 512, .inl c_this_turned)), (a_this_likes, .inl (cJ, 400, .inr (.inl u27))), (a_this_placeMany, .inl (cI, 4, .inl w33)), (a_this_places, .inl (cJ, 1600, .inr (.inl (vp_updL w34 (((400 : Int32) * x1) + (w33 x1.toNatClampNeg)).toNatClampNeg (u27 y32.toNatClampNeg)))))] H := hP
      have hD : va_D A [(a_this, .inr (4, [.ref a_this_near, .ref a_this_turned, .ref a_this_figures, .ref a_this_text, .int c_this_length, .ref a_this_sectors, .ref a_this_corners, .int c_this_doubles, .ref a_this_likes, .int u26, .int c_this_pieces, .ref a_this_laid, .ref a_this_isMirrored, .ref a_this_places, .ref a_this_placeMany, .ref a_this_now, .ref a_this_firsts, .ref a_this_forms, .ref a_this_isKept, .ref a_this_keptFigures, .ref a_this_keptPieces, .ref a_this_keptLaid, .ref a_this_keptMirrored])), (a_this_laid, .inl (cJ, 4, .inr (.inl c_this_laid))), (a_this_isMirrored, .inl (cZ, 4, .inl c_this_isMirrored)), (a_this_turned, .inl (cI, 512, .inl c_this_turned)), (a_this_likes, .inl (cJ, 400, .inr (.inl u27))), (a_this_placeMany, .inl (cI, 4, .inl w33)), (a_this_places, .inl (cJ, 1600, .inr (.inl (vp_updL w34 (((400 : Int32) * x1) + (w33 x1.toNatClampNeg)).toNatClampNeg (u27 y32.toNatClampNeg)))))] := hD
      refine lv_aload_n hx hb dX8_layPlaces_86 rfl (lv_at hl 0 rfl) ?_
      refine va_get (D := D) (ci := 4) (v := .ref a_this_placeMany) (C := RX8) (T := TX8) (N := 23) hx hb hts zi_X8_layPlaces_X8 hown hK.1 hP 0 rfl rfl 14 (by decide) (hts (.fieldLink RX8 42 "HalfAndHalfAgainModel" "placeMany" "[I") (List.mem_of_getElem? (i := 3) rfl)) (fun _ h9 => h9) rfl dX8_layPlaces_87 ?_
      refine lv_iload_n hx hb dX8_layPlaces_90 rfl (lv_at hl 1 rfl) ?_
      refine lv_dup2_11 hx hb dX8_layPlaces_91 rfl rfl ?_
      obtain ⟨hi42, g37⟩ := hk_ge g37
      refine va_iald hx hb hK.1 hP 5 0 rfl rfl (hk_inb_of hi42) dX8_layPlaces_92 ?_
      refine lv_iconst (v := (1 : Int32)) hx hb dX8_layPlaces_93 (by decide) ?_
      refine lv_iadd hx hb dX8_layPlaces_94 ?_
      obtain ⟨hi43, g37⟩ := hk_ge g37
      refine va_iast hx hb hK.1 hP hD hS 5 0 rfl rfl (hk_inb_of hi43) dX8_layPlaces_95 (fun H locs hP hD hS => ?_)
      have hP : va_P D vwCl [(a_this, .inr (4, [.ref a_this_near, .ref a_this_turned, .ref a_this_figures, .ref a_this_text, .int c_this_length, .ref a_this_sectors, .ref a_this_corners, .int c_this_doubles, .ref a_this_likes, .int u26, .int c_this_pieces, .ref a_this_laid, .ref a_this_isMirrored, .ref a_this_places, .ref a_this_placeMany, .ref a_this_now, .ref a_this_firsts, .ref a_this_forms, .ref a_this_isKept, .ref a_this_keptFigures, .ref a_this_keptPieces, .ref a_this_keptLaid, .ref a_this_keptMirrored])), (a_this_laid, .inl (cJ, 4, .inr (.inl c_this_laid))), (a_this_isMirrored, .inl (cZ, 4, .inl c_this_isMirrored)), (a_this_turned, .inl (cI, 512, .inl c_this_turned)), (a_this_likes, .inl (cJ, 400, .inr (.inl u27))), (a_this_placeMany, .inl (cI, 4, .inl (upd w33 x1.toNatClampNeg ((w33 x1.toNatClampNeg) + (1 : Int32))))), (a_this_places, .inl (cJ, 1600, .inr (.inl (vp_updL w34 (((400 : Int32) * x1) + (w33 x1.toNatClampNeg)).toNatClampNeg (u27 y32.toNatClampNeg)))))] H := hP
      have hD : va_D A [(a_this, .inr (4, [.ref a_this_near, .ref a_this_turned, .ref a_this_figures, .ref a_this_text, .int c_this_length, .ref a_this_sectors, .ref a_this_corners, .int c_this_doubles, .ref a_this_likes, .int u26, .int c_this_pieces, .ref a_this_laid, .ref a_this_isMirrored, .ref a_this_places, .ref a_this_placeMany, .ref a_this_now, .ref a_this_firsts, .ref a_this_forms, .ref a_this_isKept, .ref a_this_keptFigures, .ref a_this_keptPieces, .ref a_this_keptLaid, .ref a_this_keptMirrored])), (a_this_laid, .inl (cJ, 4, .inr (.inl c_this_laid))), (a_this_isMirrored, .inl (cZ, 4, .inl c_this_isMirrored)), (a_this_turned, .inl (cI, 512, .inl c_this_turned)), (a_this_likes, .inl (cJ, 400, .inr (.inl u27))), (a_this_placeMany, .inl (cI, 4, .inl (upd w33 x1.toNatClampNeg ((w33 x1.toNatClampNeg) + (1 : Int32))))), (a_this_places, .inl (cJ, 1600, .inr (.inl (vp_updL w34 (((400 : Int32) * x1) + (w33 x1.toNatClampNeg)).toNatClampNeg (u27 y32.toNatClampNeg)))))] := hD
      have g37 := Option.some.inj g37
      simp only [Prod.mk.injEq] at g37
      obtain ⟨rfl, rfl⟩ := g37
      exact hjg37 H locs ls hP hD hS (lv_sub hl [0, 1, 2, 3] rfl)
    intro H locs ls hP hD hS hl
    have hl : lv_has ls 5 [(0, .ref a_this), (1, .int x1), (2, .long x2), (4, .int y32)] := hl
    have hP : va_P D vwCl [(a_this, .inr (4, [.ref a_this_near, .ref a_this_turned, .ref a_this_figures, .ref a_this_text, .int c_this_length, .ref a_this_sectors, .ref a_this_corners, .int c_this_doubles, .ref a_this_likes, .int u26, .int c_this_pieces, .ref a_this_laid, .ref a_this_isMirrored, .ref a_this_places, .ref a_this_placeMany, .ref a_this_now, .ref a_this_firsts, .ref a_this_forms, .ref a_this_isKept, .ref a_this_keptFigures, .ref a_this_keptPieces, .ref a_this_keptLaid, .ref a_this_keptMirrored])), (a_this_laid, .inl (cJ, 4, .inr (.inl c_this_laid))), (a_this_isMirrored, .inl (cZ, 4, .inl c_this_isMirrored)), (a_this_turned, .inl (cI, 512, .inl c_this_turned)), (a_this_likes, .inl (cJ, 400, .inr (.inl u27))), (a_this_placeMany, .inl (cI, 4, .inl v44)), (a_this_places, .inl (cJ, 1600, .inr (.inl v45)))] H := hP
    have hD : va_D A [(a_this, .inr (4, [.ref a_this_near, .ref a_this_turned, .ref a_this_figures, .ref a_this_text, .int c_this_length, .ref a_this_sectors, .ref a_this_corners, .int c_this_doubles, .ref a_this_likes, .int u26, .int c_this_pieces, .ref a_this_laid, .ref a_this_isMirrored, .ref a_this_places, .ref a_this_placeMany, .ref a_this_now, .ref a_this_firsts, .ref a_this_forms, .ref a_this_isKept, .ref a_this_keptFigures, .ref a_this_keptPieces, .ref a_this_keptLaid, .ref a_this_keptMirrored])), (a_this_laid, .inl (cJ, 4, .inr (.inl c_this_laid))), (a_this_isMirrored, .inl (cZ, 4, .inl c_this_isMirrored)), (a_this_turned, .inl (cI, 512, .inl c_this_turned)), (a_this_likes, .inl (cJ, 400, .inr (.inl u27))), (a_this_placeMany, .inl (cI, 4, .inl v44)), (a_this_places, .inl (cJ, 1600, .inr (.inl v45)))] := hD
    show W _ _ _ _ _ _ _ _ _ _ _ _ _ _ _ (F0 m 96 ls [])
    obtain ⟨x46, ex46, k31⟩ := hk_le k31
    refine lv_iinc (v := x46) (lv' := [(4, .int x46), (0, .ref a_this), (1, .int x1), (2, .long x2)]) hx hb dX8_layPlaces_96 hl (k := 3) rfl (by rw [ex46]; rfl) (by decide) rfl (fun ls hl => ?_)
    refine lv_goto (tgt := 35) hx hb dX8_layPlaces_99 (by decide) ?_
    exact hck31 (x46, v44, v45) (Option.some.inj k31).symm H locs ls hP hD hS (lv_sub hl [1, 2, 3, 0] rfl)
  intro H locs ls hP hD hS hl
  have hl : lv_has ls 5 [] := hl
  have hP : va_P D vwCl [(a_this, .inr (4, [.ref a_this_near, .ref a_this_turned, .ref a_this_figures, .ref a_this_text, .int c_this_length, .ref a_this_sectors, .ref a_this_corners, .int c_this_doubles, .ref a_this_likes, .int u26, .int c_this_pieces, .ref a_this_laid, .ref a_this_isMirrored, .ref a_this_places, .ref a_this_placeMany, .ref a_this_now, .ref a_this_firsts, .ref a_this_forms, .ref a_this_isKept, .ref a_this_keptFigures, .ref a_this_keptPieces, .ref a_this_keptLaid, .ref a_this_keptMirrored])), (a_this_laid, .inl (cJ, 4, .inr (.inl c_this_laid))), (a_this_isMirrored, .inl (cZ, 4, .inl c_this_isMirrored)), (a_this_turned, .inl (cI, 512, .inl c_this_turned)), (a_this_likes, .inl (cJ, 400, .inr (.inl u27))), (a_this_placeMany, .inl (cI, 4, .inl v48)), (a_this_places, .inl (cJ, 1600, .inr (.inl v49)))] H := hP
  have hD : va_D A [(a_this, .inr (4, [.ref a_this_near, .ref a_this_turned, .ref a_this_figures, .ref a_this_text, .int c_this_length, .ref a_this_sectors, .ref a_this_corners, .int c_this_doubles, .ref a_this_likes, .int u26, .int c_this_pieces, .ref a_this_laid, .ref a_this_isMirrored, .ref a_this_places, .ref a_this_placeMany, .ref a_this_now, .ref a_this_firsts, .ref a_this_forms, .ref a_this_isKept, .ref a_this_keptFigures, .ref a_this_keptPieces, .ref a_this_keptLaid, .ref a_this_keptMirrored])), (a_this_laid, .inl (cJ, 4, .inr (.inl c_this_laid))), (a_this_isMirrored, .inl (cZ, 4, .inl c_this_isMirrored)), (a_this_turned, .inl (cI, 512, .inl c_this_turned)), (a_this_likes, .inl (cJ, 400, .inr (.inl u27))), (a_this_placeMany, .inl (cI, 4, .inl v48)), (a_this_places, .inl (cJ, 1600, .inr (.inl v49)))] := hD
  show W _ _ _ _ _ _ _ _ _ _ _ _ _ _ _ (F0 m 102 ls [])
  subst hQ
  have h := Option.some.inj h
  simp only [Prod.mk.injEq] at h
  obtain ⟨rfl, rfl, rfl, rfl⟩ := h
  exact W.vret hx hb hr (fun t ht hW => ⟨⟨(), rfl, trivial, by rw [ht]; exact hP, hD⟩, hS.F ht⟩) hS.2.2 dX8_layPlaces_102
theorem zv_X8_places : yX8_places.cls = RX8 ∧ yX8_places.cls ≠ "java/lang/invoke/MethodHandle" ∧ yX8_places.cls ≠ "java/lang/invoke/VarHandle" ∧ (parseMethodDescriptor yX8_places.desc).map (fun d => d.parameters.length) = some 2 := by decide +kernel
def f_X8_places (c_this_likeMany : Int32) (c_this_pieces : Int32) (c_this_figures : Nat → Int64) (c_this_laid : Nat → Int64) (c_this_isMirrored : Nat → Int32) (c_this_turned : Nat → Int32) (c_this_likes : Nat → Int64) (c_this_placeMany : Nat → Int32) (c_this_places : Nat → Int64)  (x1 : Int32) (x2 : Int32) : Option (Int32 × Int32 × (Nat → Int64) × (Nat → Int32) × (Nat → Int64)) := hk_b1 (f_X8_isPiece c_this_pieces x1) fun r21 => if r21 = 0 then (some ((-1 : Int32), c_this_likeMany, c_this_likes, c_this_placeMany, c_this_places)) else (hk_b1 (f_X8_isFigure x2) fun r26 => if r26 = 0 then (some ((-1 : Int32), c_this_likeMany, c_this_likes, c_this_placeMany, c_this_places)) else (hk_gd (hk_inb x2 8) (hk_b4 (f_X8_layPlaces c_this_likeMany c_this_laid c_this_isMirrored c_this_turned c_this_likes c_this_placeMany c_this_places x1 (c_this_figures x2.toNatClampNeg)) fun u32 u33 u34 u35 => hk_gd (hk_inb x1 4) (some ((u34 x1.toNatClampNeg), u32, u33, u34, u35)))))
theorem zi_X8_places_X8 : ∀ w ∈ u_ws RX8 TX8 23, w ∈ wsX8_places := by decide +kernel
set_option maxHeartbeats 8000000 in
set_option maxRecDepth 100000 in
theorem c_X8_places (l : Launch) (D : va_G) (cI cJ cZ cO : ClassId) (a_this a_this_near a_this_turned a_this_figures a_this_text a_this_sectors a_this_corners a_this_likes a_this_laid a_this_isMirrored a_this_places a_this_placeMany a_this_now a_this_firsts a_this_forms a_this_isKept a_this_keptFigures a_this_keptPieces a_this_keptLaid a_this_keptMirrored : Nat) (sz : Nat) (c_this_length : Int32) (c_this_doubles : Int32) (c_this_likeMany : Int32) (c_this_pieces : Int32) (c_this_figures : Nat → Int64) (c_this_laid : Nat → Int64) (c_this_isMirrored : Nat → Int32) (c_this_turned : Nat → Int32) (c_this_likes : Nat → Int64) (c_this_placeMany : Nat → Int32) (c_this_places : Nat → Int64) (x1 : Int32) (x2 : Int32) (rv : Int32) (u_this_likeMany : Int32) (u_this_likes : Nat → Int64) (u_this_placeMany : Nat → Int32) (u_this_places : Nat → Int64) (hf : f_X8_places c_this_likeMany c_this_pieces c_this_figures c_this_laid c_this_isMirrored c_this_turned c_this_likes c_this_placeMany c_this_places x1 x2 = some (rv, u_this_likeMany, u_this_likes, u_this_placeMany, u_this_places)) : Met l yX8_places wsX8_places ({ frames := 4, cells := 0, slots := 0, locals := 102 }) (va_Pc [.ref a_this, .int x1, .int x2] (hkM D cI cJ cZ cO [(a_this, .inr (4, [.ref a_this_near, .ref a_this_turned, .ref a_this_figures, .ref a_this_text, .int c_this_length, .ref a_this_sectors, .ref a_this_corners, .int c_this_doubles, .ref a_this_likes, .int c_this_likeMany, .int c_this_pieces, .ref a_this_laid, .ref a_this_isMirrored, .ref a_this_places, .ref a_this_placeMany, .ref a_this_now, .ref a_this_firsts, .ref a_this_forms, .ref a_this_isKept, .ref a_this_keptFigures, .ref a_this_keptPieces, .ref a_this_keptLaid, .ref a_this_keptMirrored])), (a_this_figures, .inl (cJ, 8, .inr (.inl c_this_figures))), (a_this_laid, .inl (cJ, 4, .inr (.inl c_this_laid))), (a_this_isMirrored, .inl (cZ, 4, .inl c_this_isMirrored)), (a_this_turned, .inl (cI, 512, .inl c_this_turned)), (a_this_likes, .inl (cJ, 400, .inr (.inl c_this_likes))), (a_this_placeMany, .inl (cI, 4, .inl c_this_placeMany)), (a_this_places, .inl (cJ, 1600, .inr (.inl c_this_places)))] sz)) (va_Qi (fun r (_ : Unit) => r = rv) (fun _ t => va_P D vwCl [(a_this, .inr (4, [.ref a_this_near, .ref a_this_turned, .ref a_this_figures, .ref a_this_text, .int c_this_length, .ref a_this_sectors, .ref a_this_corners, .int c_this_doubles, .ref a_this_likes, .int u_this_likeMany, .int c_this_pieces, .ref a_this_laid, .ref a_this_isMirrored, .ref a_this_places, .ref a_this_placeMany, .ref a_this_now, .ref a_this_firsts, .ref a_this_forms, .ref a_this_isKept, .ref a_this_keptFigures, .ref a_this_keptPieces, .ref a_this_keptLaid, .ref a_this_keptMirrored])), (a_this_figures, .inl (cJ, 8, .inr (.inl c_this_figures))), (a_this_laid, .inl (cJ, 4, .inr (.inl c_this_laid))), (a_this_isMirrored, .inl (cZ, 4, .inl c_this_isMirrored)), (a_this_turned, .inl (cI, 512, .inl c_this_turned)), (a_this_likes, .inl (cJ, 400, .inr (.inl u_this_likes))), (a_this_placeMany, .inl (cI, 4, .inl u_this_placeMany)), (a_this_places, .inl (cJ, 1600, .inr (.inl u_this_places)))] t.heap ∧ va_D (va_A [(a_this, .inr (4, [.ref a_this_near, .ref a_this_turned, .ref a_this_figures, .ref a_this_text, .int c_this_length, .ref a_this_sectors, .ref a_this_corners, .int c_this_doubles, .ref a_this_likes, .int c_this_likeMany, .int c_this_pieces, .ref a_this_laid, .ref a_this_isMirrored, .ref a_this_places, .ref a_this_placeMany, .ref a_this_now, .ref a_this_firsts, .ref a_this_forms, .ref a_this_isKept, .ref a_this_keptFigures, .ref a_this_keptPieces, .ref a_this_keptLaid, .ref a_this_keptMirrored])), (a_this_figures, .inl (cJ, 8, .inr (.inl c_this_figures))), (a_this_laid, .inl (cJ, 4, .inr (.inl c_this_laid))), (a_this_isMirrored, .inl (cZ, 4, .inl c_this_isMirrored)), (a_this_turned, .inl (cI, 512, .inl c_this_turned)), (a_this_likes, .inl (cJ, 400, .inr (.inl c_this_likes))), (a_this_placeMany, .inl (cI, 4, .inl c_this_placeMany)), (a_this_places, .inl (cJ, 1600, .inr (.inl c_this_places)))] sz) [(a_this, .inr (4, [.ref a_this_near, .ref a_this_turned, .ref a_this_figures, .ref a_this_text, .int c_this_length, .ref a_this_sectors, .ref a_this_corners, .int c_this_doubles, .ref a_this_likes, .int u_this_likeMany, .int c_this_pieces, .ref a_this_laid, .ref a_this_isMirrored, .ref a_this_places, .ref a_this_placeMany, .ref a_this_now, .ref a_this_firsts, .ref a_this_forms, .ref a_this_isKept, .ref a_this_keptFigures, .ref a_this_keptPieces, .ref a_this_keptLaid, .ref a_this_keptMirrored])), (a_this_figures, .inl (cJ, 8, .inr (.inl c_this_figures))), (a_this_laid, .inl (cJ, 4, .inr (.inl c_this_laid))), (a_this_isMirrored, .inl (cZ, 4, .inl c_this_isMirrored)), (a_this_turned, .inl (cI, 512, .inl c_this_turned)), (a_this_likes, .inl (cJ, 400, .inr (.inl u_this_likes))), (a_this_placeMany, .inl (cI, 4, .inl u_this_placeMany)), (a_this_places, .inl (cJ, 1600, .inr (.inl u_this_places)))]) (va_A [(a_this, .inr (4, [.ref a_this_near, .ref a_this_turned, .ref a_this_figures, .ref a_this_text, .int c_this_length, .ref a_this_sectors, .ref a_this_corners, .int c_this_doubles, .ref a_this_likes, .int c_this_likeMany, .int c_this_pieces, .ref a_this_laid, .ref a_this_isMirrored, .ref a_this_places, .ref a_this_placeMany, .ref a_this_now, .ref a_this_firsts, .ref a_this_forms, .ref a_this_isKept, .ref a_this_keptFigures, .ref a_this_keptPieces, .ref a_this_keptLaid, .ref a_this_keptMirrored])), (a_this_figures, .inl (cJ, 8, .inr (.inl c_this_figures))), (a_this_laid, .inl (cJ, 4, .inr (.inl c_this_laid))), (a_this_isMirrored, .inl (cZ, 4, .inl c_this_isMirrored)), (a_this_turned, .inl (cI, 512, .inl c_this_turned)), (a_this_likes, .inl (cJ, 400, .inr (.inl c_this_likes))), (a_this_placeMany, .inl (cI, 4, .inl c_this_placeMany)), (a_this_places, .inl (cJ, 1600, .inr (.inl c_this_places)))] sz)) 0 0 (va_A [(a_this, .inr (4, [.ref a_this_near, .ref a_this_turned, .ref a_this_figures, .ref a_this_text, .int c_this_length, .ref a_this_sectors, .ref a_this_corners, .int c_this_doubles, .ref a_this_likes, .int c_this_likeMany, .int c_this_pieces, .ref a_this_laid, .ref a_this_isMirrored, .ref a_this_places, .ref a_this_placeMany, .ref a_this_now, .ref a_this_firsts, .ref a_this_forms, .ref a_this_isKept, .ref a_this_keptFigures, .ref a_this_keptPieces, .ref a_this_keptLaid, .ref a_this_keptMirrored])), (a_this_figures, .inl (cJ, 8, .inr (.inl c_this_figures))), (a_this_laid, .inl (cJ, 4, .inr (.inl c_this_laid))), (a_this_isMirrored, .inl (cZ, 4, .inl c_this_isMirrored)), (a_this_turned, .inl (cI, 512, .inl c_this_turned)), (a_this_likes, .inl (cJ, 400, .inr (.inl c_this_likes))), (a_this_placeMany, .inl (cI, 4, .inl c_this_placeMany)), (a_this_places, .inl (cJ, 1600, .inr (.inl c_this_places)))] sz) := by
  refine Met.ofW (cc := cX8_places) (maxL := 3) (ret := (some .int)) (by decide) rfl ?_
  intro p e s m args below meth c s₁ B hml hv
  obtain ⟨rfl, hsz, hP, hK, hD0⟩ := hv
  have hx := B.exec
  have hb := B.bytes
  have hr := B.returns
  have hts := atoms_spec (ws := wsX8_places) B.pre
  have hown : s.vm.findClass RX8 = some m.cls := findClass_of_methodNamed B.named
  have hlocks := B.notSynchronized
  have hN := hK.2
  subst hsz
  have hD := hD0.self (sz := s.heap.size)
  generalize hAe : va_A [(a_this, .inr (4, [.ref a_this_near, .ref a_this_turned, .ref a_this_figures, .ref a_this_text, .int c_this_length, .ref a_this_sectors, .ref a_this_corners, .int c_this_doubles, .ref a_this_likes, .int c_this_likeMany, .int c_this_pieces, .ref a_this_laid, .ref a_this_isMirrored, .ref a_this_places, .ref a_this_placeMany, .ref a_this_now, .ref a_this_firsts, .ref a_this_forms, .ref a_this_isKept, .ref a_this_keptFigures, .ref a_this_keptPieces, .ref a_this_keptLaid, .ref a_this_keptMirrored])), (a_this_figures, .inl (cJ, 8, .inr (.inl c_this_figures))), (a_this_laid, .inl (cJ, 4, .inr (.inl c_this_laid))), (a_this_isMirrored, .inl (cZ, 4, .inl c_this_isMirrored)), (a_this_turned, .inl (cI, 512, .inl c_this_turned)), (a_this_likes, .inl (cJ, 400, .inr (.inl c_this_likes))), (a_this_placeMany, .inl (cI, 4, .inl c_this_placeMany)), (a_this_places, .inl (cJ, 1600, .inr (.inl c_this_places)))] s.heap.size = A at hD ⊢
  have hA : ∀ q : Nat, s.heap.size ≤ q → A q := fun q h => by rw [← hAe]; exact Or.inr h
  have hS : va_S A s.heap s.heap [] := va_S.rf
  have hl := lv_entry ([.ref a_this, .int x1, .int x2]) (n := 3) (Nat.le_of_ble_eq_true rfl)
  rw [lg_entry_eq]
  generalize (lg_sl ([.ref a_this, .int x1, .int x2]) ++ List.replicate (3 - (lg_sl ([.ref a_this, .int x1, .int x2])).length) Slot.unset).toArray = ls at hl ⊢
  have hl : lv_has ls 3 [(0, .ref a_this), (1, .int x1), (2, .int x2)] := hl
  refine hk_Q (fun Q hQ => ?_)
  have h := hf
  unfold f_X8_places at h
  refine lv_aload_n hx hb dX8_places_0 rfl (lv_at hl 0 rfl) ?_
  refine lv_iload_n hx hb dX8_places_1 rfl (lv_at hl 1 rfl) ?_
  obtain ⟨r21, hr22, h⟩ := hk_x1 h
  refine vp_callSi (W.runV (As := [.int x1]) (rest := []) ⟨hx, hb, hml, hown, hts⟩ (c_X8_isPiece l D cI cJ cZ cO a_this a_this_near a_this_turned a_this_figures a_this_text a_this_sectors a_this_corners a_this_likes a_this_laid a_this_isMirrored a_this_places a_this_placeMany a_this_now a_this_firsts a_this_forms a_this_isKept a_this_keptFigures a_this_keptPieces a_this_keptLaid a_this_keptMirrored c_this_length c_this_doubles c_this_likeMany c_this_pieces x1 _ hr22) (cwV 1 hts gX8_places_X8_isPiece rfl rfl rfl zv_X8_isPiece ⟨Nat.le_of_ble_eq_true rfl, Nat.le_of_ble_eq_true rfl⟩) (hk_preRV 4 rfl (hP.sub (ws' := [(a_this, .inr (4, [.ref a_this_near, .ref a_this_turned, .ref a_this_figures, .ref a_this_text, .int c_this_length, .ref a_this_sectors, .ref a_this_corners, .int c_this_doubles, .ref a_this_likes, .int c_this_likeMany, .int c_this_pieces, .ref a_this_laid, .ref a_this_isMirrored, .ref a_this_places, .ref a_this_placeMany, .ref a_this_now, .ref a_this_firsts, .ref a_this_forms, .ref a_this_isKept, .ref a_this_keptFigures, .ref a_this_keptPieces, .ref a_this_keptLaid, .ref a_this_keptMirrored]))]) [0] rfl) hK rfl) rfl rfl hl.1 rfl (lv_room (Nat.le_of_ble_eq_true rfl)) dX8_places_2 ⟨Nat.zero_le _, Nat.zero_le _⟩) (fun p24 e23 => ?_)
  rw [e23]
  refine lv_if_eq (tgt := 15) hx hb dX8_places_5 (by decide) (fun c25 => ?_) (fun c25 => ?_)
  · replace h := hk_ip c25 h
    refine lv_iconst (v := (-1 : Int32)) hx hb dX8_places_15 (by decide) ?_
    subst hQ
    have h := Option.some.inj h
    simp only [Prod.mk.injEq] at h
    obtain ⟨rfl, rfl, rfl, rfl, rfl⟩ := h
    exact W.iret hx hb hr (fun t ht hW => ⟨⟨_, (), rfl, rfl, by rw [ht]; exact hP, hD⟩, hS.F ht⟩) hS.2.2 dX8_places_16
  replace h := hk_in c25 h
  refine lv_iload_n hx hb dX8_places_8 rfl (lv_at hl 2 rfl) ?_
  obtain ⟨r26, hr27, h⟩ := hk_x1 h
  refine vp_callSi (W.runS (As := [.int x2]) (rest := []) ⟨hx, hb, hml, hown, hts⟩ (c_X8_isFigure l x2 _ hr27) (va_cwS 1 hts gX8_places_X8_isFigure rfl rfl rfl zs_X8_isFigure ⟨Nat.le_of_ble_eq_true rfl, Nat.le_of_ble_eq_true rfl⟩) ⟨fun _ _ _ _ q => q, fun _ _ _ => ⟨rfl, trivial⟩⟩ rfl rfl hl.1 rfl (lv_room (Nat.le_of_ble_eq_true rfl)) dX8_places_9 ⟨Nat.zero_le _, Nat.zero_le _⟩) (fun p29 e28 => ?_)
  rw [e28]
  refine lv_if_ne (tgt := 17) hx hb dX8_places_12 (by decide) (fun c30 => ?_) (fun c30 => ?_)
  · replace h := hk_in c30 h
    refine lv_aload_n hx hb dX8_places_17 rfl (lv_at hl 0 rfl) ?_
    refine lv_iload_n hx hb dX8_places_18 rfl (lv_at hl 1 rfl) ?_
    refine lv_aload_n hx hb dX8_places_19 rfl (lv_at hl 0 rfl) ?_
    refine va_get (D := D) (ci := 4) (v := .ref a_this_figures) (C := RX8) (T := TX8) (N := 23) hx hb hts zi_X8_places_X8 hown hK.1 hP 0 rfl rfl 2 (by decide) (hts (.fieldLink RX8 17 "HalfAndHalfAgainModel" "figures" "[J") (List.mem_of_getElem? (i := 1) rfl)) (fun _ h9 => h9) rfl dX8_places_20 ?_
    refine lv_iload_n hx hb dX8_places_23 rfl (lv_at hl 2 rfl) ?_
    obtain ⟨hi31, h⟩ := hk_ge h
    refine va_lald hx hb hK.1 hP 1 1 rfl rfl (hk_inb_of hi31) dX8_places_24 ?_
    obtain ⟨u32, u33, u34, u35, hr36, h⟩ := hk_x4 h
    have hPc := hP.sub (ws' := [(a_this, .inr (4, [.ref a_this_near, .ref a_this_turned, .ref a_this_figures, .ref a_this_text, .int c_this_length, .ref a_this_sectors, .ref a_this_corners, .int c_this_doubles, .ref a_this_likes, .int c_this_likeMany, .int c_this_pieces, .ref a_this_laid, .ref a_this_isMirrored, .ref a_this_places, .ref a_this_placeMany, .ref a_this_now, .ref a_this_firsts, .ref a_this_forms, .ref a_this_isKept, .ref a_this_keptFigures, .ref a_this_keptPieces, .ref a_this_keptLaid, .ref a_this_keptMirrored])), (a_this_laid, .inl (cJ, 4, .inr (.inl c_this_laid))), (a_this_isMirrored, .inl (cZ, 4, .inl c_this_isMirrored)), (a_this_turned, .inl (cI, 512, .inl c_this_turned)), (a_this_likes, .inl (cJ, 400, .inr (.inl c_this_likes))), (a_this_placeMany, .inl (cI, 4, .inl c_this_placeMany)), (a_this_places, .inl (cJ, 1600, .inr (.inl c_this_places)))]) [0, 2, 3, 4, 5, 6, 7] rfl
    have hDc := hD.sub (ws' := [(a_this, .inr (4, [.ref a_this_near, .ref a_this_turned, .ref a_this_figures, .ref a_this_text, .int c_this_length, .ref a_this_sectors, .ref a_this_corners, .int c_this_doubles, .ref a_this_likes, .int c_this_likeMany, .int c_this_pieces, .ref a_this_laid, .ref a_this_isMirrored, .ref a_this_places, .ref a_this_placeMany, .ref a_this_now, .ref a_this_firsts, .ref a_this_forms, .ref a_this_isKept, .ref a_this_keptFigures, .ref a_this_keptPieces, .ref a_this_keptLaid, .ref a_this_keptMirrored])), (a_this_laid, .inl (cJ, 4, .inr (.inl c_this_laid))), (a_this_isMirrored, .inl (cZ, 4, .inl c_this_isMirrored)), (a_this_turned, .inl (cI, 512, .inl c_this_turned)), (a_this_likes, .inl (cJ, 400, .inr (.inl c_this_likes))), (a_this_placeMany, .inl (cI, 4, .inl c_this_placeMany)), (a_this_places, .inl (cJ, 1600, .inr (.inl c_this_places)))]) [0, 2, 3, 4, 5, 6, 7] (by decide) rfl
    have hFc := va_free (wc := [(a_this, .inr (4, [.ref a_this_near, .ref a_this_turned, .ref a_this_figures, .ref a_this_text, .int c_this_length, .ref a_this_sectors, .ref a_this_corners, .int c_this_doubles, .ref a_this_likes, .int c_this_likeMany, .int c_this_pieces, .ref a_this_laid, .ref a_this_isMirrored, .ref a_this_places, .ref a_this_placeMany, .ref a_this_now, .ref a_this_firsts, .ref a_this_forms, .ref a_this_isKept, .ref a_this_keptFigures, .ref a_this_keptPieces, .ref a_this_keptLaid, .ref a_this_keptMirrored])), (a_this_laid, .inl (cJ, 4, .inr (.inl c_this_laid))), (a_this_isMirrored, .inl (cZ, 4, .inl c_this_isMirrored)), (a_this_turned, .inl (cI, 512, .inl c_this_turned)), (a_this_likes, .inl (cJ, 400, .inr (.inl c_this_likes))), (a_this_placeMany, .inl (cI, 4, .inl c_this_placeMany)), (a_this_places, .inl (cJ, 1600, .inr (.inl c_this_places)))]) hD hS hA [0, 2, 3, 4, 5, 6, 7] rfl
    refine va_callv (va_runV (As := [.int x1, .long (c_this_figures x2.toNatClampNeg)]) (rest := []) ⟨hx, hb, hml, hown, hts⟩ (c_X8_layPlaces l D cI cJ cZ cO a_this a_this_near a_this_turned a_this_figures a_this_text a_this_sectors a_this_corners a_this_likes a_this_laid a_this_isMirrored a_this_places a_this_placeMany a_this_now a_this_firsts a_this_forms a_this_isKept a_this_keptFigures a_this_keptPieces a_this_keptLaid a_this_keptMirrored s.heap.size c_this_length c_this_doubles c_this_likeMany c_this_pieces c_this_laid c_this_isMirrored c_this_turned c_this_likes c_this_placeMany c_this_places x1 (c_this_figures x2.toNatClampNeg) _ _ _ _ hr36) (cwV 2 hts gX8_places_X8_layPlaces rfl rfl rfl zv_X8_layPlaces ⟨Nat.le_of_ble_eq_true rfl, Nat.le_of_ble_eq_true rfl⟩) (hk_preMV 4 rfl hPc hDc hK rfl) rfl rfl hl.1 rfl (lv_room (Nat.le_of_ble_eq_true rfl)) dX8_places_25 ⟨Nat.zero_le _, Nat.zero_le _⟩) hS (fun q _ h9 => hFc q h9) hFc (fun u9 t9 H1 locs ht hvm hw hB hz1 hk1 hS => ?_)
    obtain ⟨hP1, hD1⟩ := hB
    rw [ht] at hP1
    obtain ⟨hP, hD⟩ := va_join (wr := [(a_this_figures, .inl (cJ, 8, .inr (.inl c_this_figures)))]) (w1 := [(a_this, .inr (4, [.ref a_this_near, .ref a_this_turned, .ref a_this_figures, .ref a_this_text, .int c_this_length, .ref a_this_sectors, .ref a_this_corners, .int c_this_doubles, .ref a_this_likes, .int u32, .int c_this_pieces, .ref a_this_laid, .ref a_this_isMirrored, .ref a_this_places, .ref a_this_placeMany, .ref a_this_now, .ref a_this_firsts, .ref a_this_forms, .ref a_this_isKept, .ref a_this_keptFigures, .ref a_this_keptPieces, .ref a_this_keptLaid, .ref a_this_keptMirrored])), (a_this_laid, .inl (cJ, 4, .inr (.inl c_this_laid))), (a_this_isMirrored, .inl (cZ, 4, .inl c_this_isMirrored)), (a_this_turned, .inl (cI, 512, .inl c_this_turned)), (a_this_likes, .inl (cJ, 400, .inr (.inl u33))), (a_this_placeMany, .inl (cI, 4, .inl u34)), (a_this_places, .inl (cJ, 1600, .inr (.inl u35)))]) hP hD [0, 2, 3, 4, 5, 6, 7] [1] rfl rfl (by decide) (by decide) hk1 hFc hP1 hD1
    generalize H1 = H at hP hS ⊢
    have hP := hP.sub (ws' := [(a_this, .inr (4, [.ref a_this_near, .ref a_this_turned, .ref a_this_figures, .ref a_this_text, .int c_this_length, .ref a_this_sectors, .ref a_this_corners, .int c_this_doubles, .ref a_this_likes, .int u32, .int c_this_pieces, .ref a_this_laid, .ref a_this_isMirrored, .ref a_this_places, .ref a_this_placeMany, .ref a_this_now, .ref a_this_firsts, .ref a_this_forms, .ref a_this_isKept, .ref a_this_keptFigures, .ref a_this_keptPieces, .ref a_this_keptLaid, .ref a_this_keptMirrored])), (a_this_figures, .inl (cJ, 8, .inr (.inl c_this_figures))), (a_this_laid, .inl (cJ, 4, .inr (.inl c_this_laid))), (a_this_isMirrored, .inl (cZ, 4, .inl c_this_isMirrored)), (a_this_turned, .inl (cI, 512, .inl c_this_turned)), (a_this_likes, .inl (cJ, 400, .inr (.inl u33))), (a_this_placeMany, .inl (cI, 4, .inl u34)), (a_this_places, .inl (cJ, 1600, .inr (.inl u35)))]) [1, 0, 2, 3, 4, 5, 6, 7] rfl
    have hD := hD.sub (ws' := [(a_this, .inr (4, [.ref a_this_near, .ref a_this_turned, .ref a_this_figures, .ref a_this_text, .int c_this_length, .ref a_this_sectors, .ref a_this_corners, .int c_this_doubles, .ref a_this_likes, .int u32, .int c_this_pieces, .ref a_this_laid, .ref a_this_isMirrored, .ref a_this_places, .ref a_this_placeMany, .ref a_this_now, .ref a_this_firsts, .ref a_this_forms, .ref a_this_isKept, .ref a_this_keptFigures, .ref a_this_keptPieces, .ref a_this_keptLaid, .ref a_this_keptMirrored])), (a_this_figures, .inl (cJ, 8, .inr (.inl c_this_figures))), (a_this_laid, .inl (cJ, 4, .inr (.inl c_this_laid))), (a_this_isMirrored, .inl (cZ, 4, .inl c_this_isMirrored)), (a_this_turned, .inl (cI, 512, .inl c_this_turned)), (a_this_likes, .inl (cJ, 400, .inr (.inl u33))), (a_this_placeMany, .inl (cI, 4, .inl u34)), (a_this_places, .inl (cJ, 1600, .inr (.inl u35)))]) [1, 0, 2, 3, 4, 5, 6, 7] (by decide) rfl
    refine lv_aload_n hx hb dX8_places_28 rfl (lv_at hl 0 rfl) ?_
    refine va_get (D := D) (ci := 4) (v := .ref a_this_placeMany) (C := RX8) (T := TX8) (N := 23) hx hb hts zi_X8_places_X8 hown hK.1 hP 0 rfl rfl 14 (by decide) (hts (.fieldLink RX8 42 "HalfAndHalfAgainModel" "placeMany" "[I") (List.mem_of_getElem? (i := 2) rfl)) (fun _ h9 => h9) rfl dX8_places_29 ?_
    refine lv_iload_n hx hb dX8_places_32 rfl (lv_at hl 1 rfl) ?_
    obtain ⟨hi38, h⟩ := hk_ge h
    refine va_iald hx hb hK.1 hP 6 0 rfl rfl (hk_inb_of hi38) dX8_places_33 ?_
    subst hQ
    have h := Option.some.inj h
    simp only [Prod.mk.injEq] at h
    obtain ⟨rfl, rfl, rfl, rfl, rfl⟩ := h
    exact W.iret hx hb hr (fun t ht hW => ⟨⟨_, (), rfl, rfl, by rw [ht]; exact hP, hD⟩, hS.F ht⟩) hS.2.2 dX8_places_34
  replace h := hk_ip c30 h
  refine lv_iconst (v := (-1 : Int32)) hx hb dX8_places_15 (by decide) ?_
  subst hQ
  have h := Option.some.inj h
  simp only [Prod.mk.injEq] at h
  obtain ⟨rfl, rfl, rfl, rfl, rfl⟩ := h
  exact W.iret hx hb hr (fun t ht hW => ⟨⟨_, (), rfl, rfl, by rw [ht]; exact hP, hD⟩, hS.F ht⟩) hS.2.2 dX8_places_16
theorem zv_X8_place : yX8_place.cls = RX8 ∧ yX8_place.cls ≠ "java/lang/invoke/MethodHandle" ∧ yX8_place.cls ≠ "java/lang/invoke/VarHandle" ∧ (parseMethodDescriptor yX8_place.desc).map (fun d => d.parameters.length) = some 2 := by decide +kernel
def f_X8_place (c_this_likeMany : Int32) (c_this_pieces : Int32) (c_this_figures : Nat → Int64) (c_this_laid : Nat → Int64) (c_this_isMirrored : Nat → Int32) (c_this_turned : Nat → Int32) (c_this_likes : Nat → Int64) (c_this_placeMany : Nat → Int32) (c_this_places : Nat → Int64)  (x1 : Int32) (x2 : Int32) : Option (Int64 × Int32 × (Nat → Int64) × (Nat → Int32) × (Nat → Int64)) := hk_b1 (f_X8_isPiece c_this_pieces x1) fun r21 => if r21 = 0 then (some ((0 : Int64), c_this_likeMany, c_this_likes, c_this_placeMany, c_this_places)) else (hk_b1 (f_X8_isFigure x2) fun r26 => if r26 = 0 then (some ((0 : Int64), c_this_likeMany, c_this_likes, c_this_placeMany, c_this_places)) else (hk_gd (hk_inb x2 8) (hk_b4 (f_X8_layPlaces c_this_likeMany c_this_laid c_this_isMirrored c_this_turned c_this_likes c_this_placeMany c_this_places x1 (c_this_figures x2.toNatClampNeg)) fun u32 u33 u34 u35 => hk_gd (hk_inb x1 4) (if (u34 x1.toNatClampNeg) = 0 then (some ((0 : Int64), u32, u33, u34, u35)) else (hk_gd (hk_inb ((400 : Int32) * x1) 1600) (some ((u35 ((400 : Int32) * x1).toNatClampNeg), u32, u33, u34, u35)))))))
theorem zi_X8_place_X8 : ∀ w ∈ u_ws RX8 TX8 23, w ∈ wsX8_place := by decide +kernel
set_option maxHeartbeats 8000000 in
set_option maxRecDepth 100000 in
theorem c_X8_place (l : Launch) (D : va_G) (cI cJ cZ cO : ClassId) (a_this a_this_near a_this_turned a_this_figures a_this_text a_this_sectors a_this_corners a_this_likes a_this_laid a_this_isMirrored a_this_places a_this_placeMany a_this_now a_this_firsts a_this_forms a_this_isKept a_this_keptFigures a_this_keptPieces a_this_keptLaid a_this_keptMirrored : Nat) (sz : Nat) (c_this_length : Int32) (c_this_doubles : Int32) (c_this_likeMany : Int32) (c_this_pieces : Int32) (c_this_figures : Nat → Int64) (c_this_laid : Nat → Int64) (c_this_isMirrored : Nat → Int32) (c_this_turned : Nat → Int32) (c_this_likes : Nat → Int64) (c_this_placeMany : Nat → Int32) (c_this_places : Nat → Int64) (x1 : Int32) (x2 : Int32) (rv : Int64) (u_this_likeMany : Int32) (u_this_likes : Nat → Int64) (u_this_placeMany : Nat → Int32) (u_this_places : Nat → Int64) (hf : f_X8_place c_this_likeMany c_this_pieces c_this_figures c_this_laid c_this_isMirrored c_this_turned c_this_likes c_this_placeMany c_this_places x1 x2 = some (rv, u_this_likeMany, u_this_likes, u_this_placeMany, u_this_places)) : Met l yX8_place wsX8_place ({ frames := 4, cells := 0, slots := 0, locals := 102 }) (va_Pc [.ref a_this, .int x1, .int x2] (hkM D cI cJ cZ cO [(a_this, .inr (4, [.ref a_this_near, .ref a_this_turned, .ref a_this_figures, .ref a_this_text, .int c_this_length, .ref a_this_sectors, .ref a_this_corners, .int c_this_doubles, .ref a_this_likes, .int c_this_likeMany, .int c_this_pieces, .ref a_this_laid, .ref a_this_isMirrored, .ref a_this_places, .ref a_this_placeMany, .ref a_this_now, .ref a_this_firsts, .ref a_this_forms, .ref a_this_isKept, .ref a_this_keptFigures, .ref a_this_keptPieces, .ref a_this_keptLaid, .ref a_this_keptMirrored])), (a_this_figures, .inl (cJ, 8, .inr (.inl c_this_figures))), (a_this_laid, .inl (cJ, 4, .inr (.inl c_this_laid))), (a_this_isMirrored, .inl (cZ, 4, .inl c_this_isMirrored)), (a_this_turned, .inl (cI, 512, .inl c_this_turned)), (a_this_likes, .inl (cJ, 400, .inr (.inl c_this_likes))), (a_this_placeMany, .inl (cI, 4, .inl c_this_placeMany)), (a_this_places, .inl (cJ, 1600, .inr (.inl c_this_places)))] sz)) (va_Ql (fun r (_ : Unit) => r = rv) (fun _ t => va_P D vwCl [(a_this, .inr (4, [.ref a_this_near, .ref a_this_turned, .ref a_this_figures, .ref a_this_text, .int c_this_length, .ref a_this_sectors, .ref a_this_corners, .int c_this_doubles, .ref a_this_likes, .int u_this_likeMany, .int c_this_pieces, .ref a_this_laid, .ref a_this_isMirrored, .ref a_this_places, .ref a_this_placeMany, .ref a_this_now, .ref a_this_firsts, .ref a_this_forms, .ref a_this_isKept, .ref a_this_keptFigures, .ref a_this_keptPieces, .ref a_this_keptLaid, .ref a_this_keptMirrored])), (a_this_figures, .inl (cJ, 8, .inr (.inl c_this_figures))), (a_this_laid, .inl (cJ, 4, .inr (.inl c_this_laid))), (a_this_isMirrored, .inl (cZ, 4, .inl c_this_isMirrored)), (a_this_turned, .inl (cI, 512, .inl c_this_turned)), (a_this_likes, .inl (cJ, 400, .inr (.inl u_this_likes))), (a_this_placeMany, .inl (cI, 4, .inl u_this_placeMany)), (a_this_places, .inl (cJ, 1600, .inr (.inl u_this_places)))] t.heap ∧ va_D (va_A [(a_this, .inr (4, [.ref a_this_near, .ref a_this_turned, .ref a_this_figures, .ref a_this_text, .int c_this_length, .ref a_this_sectors, .ref a_this_corners, .int c_this_doubles, .ref a_this_likes, .int c_this_likeMany, .int c_this_pieces, .ref a_this_laid, .ref a_this_isMirrored, .ref a_this_places, .ref a_this_placeMany, .ref a_this_now, .ref a_this_firsts, .ref a_this_forms, .ref a_this_isKept, .ref a_this_keptFigures, .ref a_this_keptPieces, .ref a_this_keptLaid, .ref a_this_keptMirrored])), (a_this_figures, .inl (cJ, 8, .inr (.inl c_this_figures))), (a_this_laid, .inl (cJ, 4, .inr (.inl c_this_laid))), (a_this_isMirrored, .inl (cZ, 4, .inl c_this_isMirrored)), (a_this_turned, .inl (cI, 512, .inl c_this_turned)), (a_this_likes, .inl (cJ, 400, .inr (.inl c_this_likes))), (a_this_placeMany, .inl (cI, 4, .inl c_this_placeMany)), (a_this_places, .inl (cJ, 1600, .inr (.inl c_this_places)))] sz) [(a_this, .inr (4, [.ref a_this_near, .ref a_this_turned, .ref a_this_figures, .ref a_this_text, .int c_this_length, .ref a_this_sectors, .ref a_this_corners, .int c_this_doubles, .ref a_this_likes, .int u_this_likeMany, .int c_this_pieces, .ref a_this_laid, .ref a_this_isMirrored, .ref a_this_places, .ref a_this_placeMany, .ref a_this_now, .ref a_this_firsts, .ref a_this_forms, .ref a_this_isKept, .ref a_this_keptFigures, .ref a_this_keptPieces, .ref a_this_keptLaid, .ref a_this_keptMirrored])), (a_this_figures, .inl (cJ, 8, .inr (.inl c_this_figures))), (a_this_laid, .inl (cJ, 4, .inr (.inl c_this_laid))), (a_this_isMirrored, .inl (cZ, 4, .inl c_this_isMirrored)), (a_this_turned, .inl (cI, 512, .inl c_this_turned)), (a_this_likes, .inl (cJ, 400, .inr (.inl u_this_likes))), (a_this_placeMany, .inl (cI, 4, .inl u_this_placeMany)), (a_this_places, .inl (cJ, 1600, .inr (.inl u_this_places)))]) (va_A [(a_this, .inr (4, [.ref a_this_near, .ref a_this_turned, .ref a_this_figures, .ref a_this_text, .int c_this_length, .ref a_this_sectors, .ref a_this_corners, .int c_this_doubles, .ref a_this_likes, .int c_this_likeMany, .int c_this_pieces, .ref a_this_laid, .ref a_this_isMirrored, .ref a_this_places, .ref a_this_placeMany, .ref a_this_now, .ref a_this_firsts, .ref a_this_forms, .ref a_this_isKept, .ref a_this_keptFigures, .ref a_this_keptPieces, .ref a_this_keptLaid, .ref a_this_keptMirrored])), (a_this_figures, .inl (cJ, 8, .inr (.inl c_this_figures))), (a_this_laid, .inl (cJ, 4, .inr (.inl c_this_laid))), (a_this_isMirrored, .inl (cZ, 4, .inl c_this_isMirrored)), (a_this_turned, .inl (cI, 512, .inl c_this_turned)), (a_this_likes, .inl (cJ, 400, .inr (.inl c_this_likes))), (a_this_placeMany, .inl (cI, 4, .inl c_this_placeMany)), (a_this_places, .inl (cJ, 1600, .inr (.inl c_this_places)))] sz)) 0 0 (va_A [(a_this, .inr (4, [.ref a_this_near, .ref a_this_turned, .ref a_this_figures, .ref a_this_text, .int c_this_length, .ref a_this_sectors, .ref a_this_corners, .int c_this_doubles, .ref a_this_likes, .int c_this_likeMany, .int c_this_pieces, .ref a_this_laid, .ref a_this_isMirrored, .ref a_this_places, .ref a_this_placeMany, .ref a_this_now, .ref a_this_firsts, .ref a_this_forms, .ref a_this_isKept, .ref a_this_keptFigures, .ref a_this_keptPieces, .ref a_this_keptLaid, .ref a_this_keptMirrored])), (a_this_figures, .inl (cJ, 8, .inr (.inl c_this_figures))), (a_this_laid, .inl (cJ, 4, .inr (.inl c_this_laid))), (a_this_isMirrored, .inl (cZ, 4, .inl c_this_isMirrored)), (a_this_turned, .inl (cI, 512, .inl c_this_turned)), (a_this_likes, .inl (cJ, 400, .inr (.inl c_this_likes))), (a_this_placeMany, .inl (cI, 4, .inl c_this_placeMany)), (a_this_places, .inl (cJ, 1600, .inr (.inl c_this_places)))] sz) := by
  refine Met.ofW (cc := cX8_place) (maxL := 3) (ret := (some .long)) (by decide) rfl ?_
  intro p e s m args below meth c s₁ B hml hv
  obtain ⟨rfl, hsz, hP, hK, hD0⟩ := hv
  have hx := B.exec
  have hb := B.bytes
  have hr := B.returns
  have hts := atoms_spec (ws := wsX8_place) B.pre
  have hown : s.vm.findClass RX8 = some m.cls := findClass_of_methodNamed B.named
  have hlocks := B.notSynchronized
  have hN := hK.2
  subst hsz
  have hD := hD0.self (sz := s.heap.size)
  generalize hAe : va_A [(a_this, .inr (4, [.ref a_this_near, .ref a_this_turned, .ref a_this_figures, .ref a_this_text, .int c_this_length, .ref a_this_sectors, .ref a_this_corners, .int c_this_doubles, .ref a_this_likes, .int c_this_likeMany, .int c_this_pieces, .ref a_this_laid, .ref a_this_isMirrored, .ref a_this_places, .ref a_this_placeMany, .ref a_this_now, .ref a_this_firsts, .ref a_this_forms, .ref a_this_isKept, .ref a_this_keptFigures, .ref a_this_keptPieces, .ref a_this_keptLaid, .ref a_this_keptMirrored])), (a_this_figures, .inl (cJ, 8, .inr (.inl c_this_figures))), (a_this_laid, .inl (cJ, 4, .inr (.inl c_this_laid))), (a_this_isMirrored, .inl (cZ, 4, .inl c_this_isMirrored)), (a_this_turned, .inl (cI, 512, .inl c_this_turned)), (a_this_likes, .inl (cJ, 400, .inr (.inl c_this_likes))), (a_this_placeMany, .inl (cI, 4, .inl c_this_placeMany)), (a_this_places, .inl (cJ, 1600, .inr (.inl c_this_places)))] s.heap.size = A at hD ⊢
  have hA : ∀ q : Nat, s.heap.size ≤ q → A q := fun q h => by rw [← hAe]; exact Or.inr h
  have hS : va_S A s.heap s.heap [] := va_S.rf
  have hl := lv_entry ([.ref a_this, .int x1, .int x2]) (n := 3) (Nat.le_of_ble_eq_true rfl)
  rw [lg_entry_eq]
  generalize (lg_sl ([.ref a_this, .int x1, .int x2]) ++ List.replicate (3 - (lg_sl ([.ref a_this, .int x1, .int x2])).length) Slot.unset).toArray = ls at hl ⊢
  have hl : lv_has ls 3 [(0, .ref a_this), (1, .int x1), (2, .int x2)] := hl
  refine hk_Q (fun Q hQ => ?_)
  have h := hf
  unfold f_X8_place at h
  refine lv_aload_n hx hb dX8_place_0 rfl (lv_at hl 0 rfl) ?_
  refine lv_iload_n hx hb dX8_place_1 rfl (lv_at hl 1 rfl) ?_
  obtain ⟨r21, hr22, h⟩ := hk_x1 h
  refine vp_callSi (W.runV (As := [.int x1]) (rest := []) ⟨hx, hb, hml, hown, hts⟩ (c_X8_isPiece l D cI cJ cZ cO a_this a_this_near a_this_turned a_this_figures a_this_text a_this_sectors a_this_corners a_this_likes a_this_laid a_this_isMirrored a_this_places a_this_placeMany a_this_now a_this_firsts a_this_forms a_this_isKept a_this_keptFigures a_this_keptPieces a_this_keptLaid a_this_keptMirrored c_this_length c_this_doubles c_this_likeMany c_this_pieces x1 _ hr22) (cwV 1 hts gX8_place_X8_isPiece rfl rfl rfl zv_X8_isPiece ⟨Nat.le_of_ble_eq_true rfl, Nat.le_of_ble_eq_true rfl⟩) (hk_preRV 4 rfl (hP.sub (ws' := [(a_this, .inr (4, [.ref a_this_near, .ref a_this_turned, .ref a_this_figures, .ref a_this_text, .int c_this_length, .ref a_this_sectors, .ref a_this_corners, .int c_this_doubles, .ref a_this_likes, .int c_this_likeMany, .int c_this_pieces, .ref a_this_laid, .ref a_this_isMirrored, .ref a_this_places, .ref a_this_placeMany, .ref a_this_now, .ref a_this_firsts, .ref a_this_forms, .ref a_this_isKept, .ref a_this_keptFigures, .ref a_this_keptPieces, .ref a_this_keptLaid, .ref a_this_keptMirrored]))]) [0] rfl) hK rfl) rfl rfl hl.1 rfl (lv_room (Nat.le_of_ble_eq_true rfl)) dX8_place_2 ⟨Nat.zero_le _, Nat.zero_le _⟩) (fun p24 e23 => ?_)
  rw [e23]
  refine lv_if_eq (tgt := 15) hx hb dX8_place_5 (by decide) (fun c25 => ?_) (fun c25 => ?_)
  · replace h := hk_ip c25 h
    refine lv_lconst (v := (0 : Int64)) hx hb dX8_place_15 (by decide) ?_
    subst hQ
    have h := Option.some.inj h
    simp only [Prod.mk.injEq] at h
    obtain ⟨rfl, rfl, rfl, rfl, rfl⟩ := h
    exact W.lret hx hb hr (fun t ht hW => ⟨⟨_, (), rfl, rfl, by rw [ht]; exact hP, hD⟩, hS.F ht⟩) hS.2.2 dX8_place_16
  replace h := hk_in c25 h
  refine lv_iload_n hx hb dX8_place_8 rfl (lv_at hl 2 rfl) ?_
  obtain ⟨r26, hr27, h⟩ := hk_x1 h
  refine vp_callSi (W.runS (As := [.int x2]) (rest := []) ⟨hx, hb, hml, hown, hts⟩ (c_X8_isFigure l x2 _ hr27) (va_cwS 1 hts gX8_place_X8_isFigure rfl rfl rfl zs_X8_isFigure ⟨Nat.le_of_ble_eq_true rfl, Nat.le_of_ble_eq_true rfl⟩) ⟨fun _ _ _ _ q => q, fun _ _ _ => ⟨rfl, trivial⟩⟩ rfl rfl hl.1 rfl (lv_room (Nat.le_of_ble_eq_true rfl)) dX8_place_9 ⟨Nat.zero_le _, Nat.zero_le _⟩) (fun p29 e28 => ?_)
  rw [e28]
  refine lv_if_ne (tgt := 17) hx hb dX8_place_12 (by decide) (fun c30 => ?_) (fun c30 => ?_)
  · replace h := hk_in c30 h
    refine lv_aload_n hx hb dX8_place_17 rfl (lv_at hl 0 rfl) ?_
    refine lv_iload_n hx hb dX8_place_18 rfl (lv_at hl 1 rfl) ?_
    refine lv_aload_n hx hb dX8_place_19 rfl (lv_at hl 0 rfl) ?_
    refine va_get (D := D) (ci := 4) (v := .ref a_this_figures) (C := RX8) (T := TX8) (N := 23) hx hb hts zi_X8_place_X8 hown hK.1 hP 0 rfl rfl 2 (by decide) (hts (.fieldLink RX8 17 "HalfAndHalfAgainModel" "figures" "[J") (List.mem_of_getElem? (i := 1) rfl)) (fun _ h9 => h9) rfl dX8_place_20 ?_
    refine lv_iload_n hx hb dX8_place_23 rfl (lv_at hl 2 rfl) ?_
    obtain ⟨hi31, h⟩ := hk_ge h
    refine va_lald hx hb hK.1 hP 1 1 rfl rfl (hk_inb_of hi31) dX8_place_24 ?_
    obtain ⟨u32, u33, u34, u35, hr36, h⟩ := hk_x4 h
    have hPc := hP.sub (ws' := [(a_this, .inr (4, [.ref a_this_near, .ref a_this_turned, .ref a_this_figures, .ref a_this_text, .int c_this_length, .ref a_this_sectors, .ref a_this_corners, .int c_this_doubles, .ref a_this_likes, .int c_this_likeMany, .int c_this_pieces, .ref a_this_laid, .ref a_this_isMirrored, .ref a_this_places, .ref a_this_placeMany, .ref a_this_now, .ref a_this_firsts, .ref a_this_forms, .ref a_this_isKept, .ref a_this_keptFigures, .ref a_this_keptPieces, .ref a_this_keptLaid, .ref a_this_keptMirrored])), (a_this_laid, .inl (cJ, 4, .inr (.inl c_this_laid))), (a_this_isMirrored, .inl (cZ, 4, .inl c_this_isMirrored)), (a_this_turned, .inl (cI, 512, .inl c_this_turned)), (a_this_likes, .inl (cJ, 400, .inr (.inl c_this_likes))), (a_this_placeMany, .inl (cI, 4, .inl c_this_placeMany)), (a_this_places, .inl (cJ, 1600, .inr (.inl c_this_places)))]) [0, 2, 3, 4, 5, 6, 7] rfl
    have hDc := hD.sub (ws' := [(a_this, .inr (4, [.ref a_this_near, .ref a_this_turned, .ref a_this_figures, .ref a_this_text, .int c_this_length, .ref a_this_sectors, .ref a_this_corners, .int c_this_doubles, .ref a_this_likes, .int c_this_likeMany, .int c_this_pieces, .ref a_this_laid, .ref a_this_isMirrored, .ref a_this_places, .ref a_this_placeMany, .ref a_this_now, .ref a_this_firsts, .ref a_this_forms, .ref a_this_isKept, .ref a_this_keptFigures, .ref a_this_keptPieces, .ref a_this_keptLaid, .ref a_this_keptMirrored])), (a_this_laid, .inl (cJ, 4, .inr (.inl c_this_laid))), (a_this_isMirrored, .inl (cZ, 4, .inl c_this_isMirrored)), (a_this_turned, .inl (cI, 512, .inl c_this_turned)), (a_this_likes, .inl (cJ, 400, .inr (.inl c_this_likes))), (a_this_placeMany, .inl (cI, 4, .inl c_this_placeMany)), (a_this_places, .inl (cJ, 1600, .inr (.inl c_this_places)))]) [0, 2, 3, 4, 5, 6, 7] (by decide) rfl
    have hFc := va_free (wc := [(a_this, .inr (4, [.ref a_this_near, .ref a_this_turned, .ref a_this_figures, .ref a_this_text, .int c_this_length, .ref a_this_sectors, .ref a_this_corners, .int c_this_doubles, .ref a_this_likes, .int c_this_likeMany, .int c_this_pieces, .ref a_this_laid, .ref a_this_isMirrored, .ref a_this_places, .ref a_this_placeMany, .ref a_this_now, .ref a_this_firsts, .ref a_this_forms, .ref a_this_isKept, .ref a_this_keptFigures, .ref a_this_keptPieces, .ref a_this_keptLaid, .ref a_this_keptMirrored])), (a_this_laid, .inl (cJ, 4, .inr (.inl c_this_laid))), (a_this_isMirrored, .inl (cZ, 4, .inl c_this_isMirrored)), (a_this_turned, .inl (cI, 512, .inl c_this_turned)), (a_this_likes, .inl (cJ, 400, .inr (.inl c_this_likes))), (a_this_placeMany, .inl (cI, 4, .inl c_this_placeMany)), (a_this_places, .inl (cJ, 1600, .inr (.inl c_this_places)))]) hD hS hA [0, 2, 3, 4, 5, 6, 7] rfl
    refine va_callv (va_runV (As := [.int x1, .long (c_this_figures x2.toNatClampNeg)]) (rest := []) ⟨hx, hb, hml, hown, hts⟩ (c_X8_layPlaces l D cI cJ cZ cO a_this a_this_near a_this_turned a_this_figures a_this_text a_this_sectors a_this_corners a_this_likes a_this_laid a_this_isMirrored a_this_places a_this_placeMany a_this_now a_this_firsts a_this_forms a_this_isKept a_this_keptFigures a_this_keptPieces a_this_keptLaid a_this_keptMirrored s.heap.size c_this_length c_this_doubles c_this_likeMany c_this_pieces c_this_laid c_this_isMirrored c_this_turned c_this_likes c_this_placeMany c_this_places x1 (c_this_figures x2.toNatClampNeg) _ _ _ _ hr36) (cwV 2 hts gX8_place_X8_layPlaces rfl rfl rfl zv_X8_layPlaces ⟨Nat.le_of_ble_eq_true rfl, Nat.le_of_ble_eq_true rfl⟩) (hk_preMV 4 rfl hPc hDc hK rfl) rfl rfl hl.1 rfl (lv_room (Nat.le_of_ble_eq_true rfl)) dX8_place_25 ⟨Nat.zero_le _, Nat.zero_le _⟩) hS (fun q _ h9 => hFc q h9) hFc (fun u9 t9 H1 locs ht hvm hw hB hz1 hk1 hS => ?_)
    obtain ⟨hP1, hD1⟩ := hB
    rw [ht] at hP1
    obtain ⟨hP, hD⟩ := va_join (wr := [(a_this_figures, .inl (cJ, 8, .inr (.inl c_this_figures)))]) (w1 := [(a_this, .inr (4, [.ref a_this_near, .ref a_this_turned, .ref a_this_figures, .ref a_this_text, .int c_this_length, .ref a_this_sectors, .ref a_this_corners, .int c_this_doubles, .ref a_this_likes, .int u32, .int c_this_pieces, .ref a_this_laid, .ref a_this_isMirrored, .ref a_this_places, .ref a_this_placeMany, .ref a_this_now, .ref a_this_firsts, .ref a_this_forms, .ref a_this_isKept, .ref a_this_keptFigures, .ref a_this_keptPieces, .ref a_this_keptLaid, .ref a_this_keptMirrored])), (a_this_laid, .inl (cJ, 4, .inr (.inl c_this_laid))), (a_this_isMirrored, .inl (cZ, 4, .inl c_this_isMirrored)), (a_this_turned, .inl (cI, 512, .inl c_this_turned)), (a_this_likes, .inl (cJ, 400, .inr (.inl u33))), (a_this_placeMany, .inl (cI, 4, .inl u34)), (a_this_places, .inl (cJ, 1600, .inr (.inl u35)))]) hP hD [0, 2, 3, 4, 5, 6, 7] [1] rfl rfl (by decide) (by decide) hk1 hFc hP1 hD1
    generalize H1 = H at hP hS ⊢
    have hP := hP.sub (ws' := [(a_this, .inr (4, [.ref a_this_near, .ref a_this_turned, .ref a_this_figures, .ref a_this_text, .int c_this_length, .ref a_this_sectors, .ref a_this_corners, .int c_this_doubles, .ref a_this_likes, .int u32, .int c_this_pieces, .ref a_this_laid, .ref a_this_isMirrored, .ref a_this_places, .ref a_this_placeMany, .ref a_this_now, .ref a_this_firsts, .ref a_this_forms, .ref a_this_isKept, .ref a_this_keptFigures, .ref a_this_keptPieces, .ref a_this_keptLaid, .ref a_this_keptMirrored])), (a_this_figures, .inl (cJ, 8, .inr (.inl c_this_figures))), (a_this_laid, .inl (cJ, 4, .inr (.inl c_this_laid))), (a_this_isMirrored, .inl (cZ, 4, .inl c_this_isMirrored)), (a_this_turned, .inl (cI, 512, .inl c_this_turned)), (a_this_likes, .inl (cJ, 400, .inr (.inl u33))), (a_this_placeMany, .inl (cI, 4, .inl u34)), (a_this_places, .inl (cJ, 1600, .inr (.inl u35)))]) [1, 0, 2, 3, 4, 5, 6, 7] rfl
    have hD := hD.sub (ws' := [(a_this, .inr (4, [.ref a_this_near, .ref a_this_turned, .ref a_this_figures, .ref a_this_text, .int c_this_length, .ref a_this_sectors, .ref a_this_corners, .int c_this_doubles, .ref a_this_likes, .int u32, .int c_this_pieces, .ref a_this_laid, .ref a_this_isMirrored, .ref a_this_places, .ref a_this_placeMany, .ref a_this_now, .ref a_this_firsts, .ref a_this_forms, .ref a_this_isKept, .ref a_this_keptFigures, .ref a_this_keptPieces, .ref a_this_keptLaid, .ref a_this_keptMirrored])), (a_this_figures, .inl (cJ, 8, .inr (.inl c_this_figures))), (a_this_laid, .inl (cJ, 4, .inr (.inl c_this_laid))), (a_this_isMirrored, .inl (cZ, 4, .inl c_this_isMirrored)), (a_this_turned, .inl (cI, 512, .inl c_this_turned)), (a_this_likes, .inl (cJ, 400, .inr (.inl u33))), (a_this_placeMany, .inl (cI, 4, .inl u34)), (a_this_places, .inl (cJ, 1600, .inr (.inl u35)))]) [1, 0, 2, 3, 4, 5, 6, 7] (by decide) rfl
    refine lv_aload_n hx hb dX8_place_28 rfl (lv_at hl 0 rfl) ?_
    refine va_get (D := D) (ci := 4) (v := .ref a_this_placeMany) (C := RX8) (T := TX8) (N := 23) hx hb hts zi_X8_place_X8 hown hK.1 hP 0 rfl rfl 14 (by decide) (hts (.fieldLink RX8 42 "HalfAndHalfAgainModel" "placeMany" "[I") (List.mem_of_getElem? (i := 2) rfl)) (fun _ h9 => h9) rfl dX8_place_29 ?_
    refine lv_iload_n hx hb dX8_place_32 rfl (lv_at hl 1 rfl) ?_
    obtain ⟨hi38, h⟩ := hk_ge h
    refine va_iald hx hb hK.1 hP 6 0 rfl rfl (hk_inb_of hi38) dX8_place_33 ?_
    refine lv_if_ne (tgt := 41) hx hb dX8_place_34 (by decide) (fun c39 => ?_) (fun c39 => ?_)
    · replace h := hk_in c39 h
      refine lv_aload_n hx hb dX8_place_41 rfl (lv_at hl 0 rfl) ?_
      refine va_get (D := D) (ci := 4) (v := .ref a_this_places) (C := RX8) (T := TX8) (N := 23) hx hb hts zi_X8_place_X8 hown hK.1 hP 0 rfl rfl 13 (by decide) (hts (.fieldLink RX8 39 "HalfAndHalfAgainModel" "places" "[J") (List.mem_of_getElem? (i := 3) rfl)) (fun _ h9 => h9) rfl dX8_place_42 ?_
      refine lv_sipush (v := (400 : Int32)) hx hb dX8_place_45 (by decide) ?_
      refine lv_iload_n hx hb dX8_place_48 rfl (lv_at hl 1 rfl) ?_
      refine lv_imul hx hb dX8_place_49 ?_
      obtain ⟨hi40, h⟩ := hk_ge h
      refine va_lald hx hb hK.1 hP 7 1 rfl rfl (hk_inb_of hi40) dX8_place_50 ?_
      subst hQ
      have h := Option.some.inj h
      simp only [Prod.mk.injEq] at h
      obtain ⟨rfl, rfl, rfl, rfl, rfl⟩ := h
      exact W.lret hx hb hr (fun t ht hW => ⟨⟨_, (), rfl, rfl, by rw [ht]; exact hP, hD⟩, hS.F ht⟩) hS.2.2 dX8_place_51
    replace h := hk_ip c39 h
    refine lv_lconst (v := (0 : Int64)) hx hb dX8_place_37 (by decide) ?_
    refine lv_goto (tgt := 51) hx hb dX8_place_38 (by decide) ?_
    subst hQ
    have h := Option.some.inj h
    simp only [Prod.mk.injEq] at h
    obtain ⟨rfl, rfl, rfl, rfl, rfl⟩ := h
    exact W.lret hx hb hr (fun t ht hW => ⟨⟨_, (), rfl, rfl, by rw [ht]; exact hP, hD⟩, hS.F ht⟩) hS.2.2 dX8_place_51
  replace h := hk_ip c30 h
  refine lv_lconst (v := (0 : Int64)) hx hb dX8_place_15 (by decide) ?_
  subst hQ
  have h := Option.some.inj h
  simp only [Prod.mk.injEq] at h
  obtain ⟨rfl, rfl, rfl, rfl, rfl⟩ := h
  exact W.lret hx hb hr (fun t ht hW => ⟨⟨_, (), rfl, rfl, by rw [ht]; exact hP, hD⟩, hS.F ht⟩) hS.2.2 dX8_place_16
theorem zv_X8_leftBy : yX8_leftBy.cls = RX8 ∧ yX8_leftBy.cls ≠ "java/lang/invoke/MethodHandle" ∧ yX8_leftBy.cls ≠ "java/lang/invoke/VarHandle" ∧ (parseMethodDescriptor yX8_leftBy.desc).map (fun d => d.parameters.length) = some 2 := by decide +kernel
def st_X8_leftBy_6c (c_this_places : Nat → Int64) (c_this_now : Nat → Int32) (x3 : Int32) (y22 : Int64) (y23 : Int32) : Option ((Int64 × Int32) ⊕ Int64) := if x3 ≤ y23 then (some (.inr y22)) else (hk_gd (hk_inb y23 4) (hk_gd (hk_inb (((400 : Int32) * y23) + (c_this_now y23.toNatClampNeg)) 1600) (hk_let (y22 &&& ((c_this_places (((400 : Int32) * y23) + (c_this_now y23.toNatClampNeg)).toNatClampNeg) ^^^ (-1 : Int64))) fun x27 => hk_let (y23 + (1 : Int32)) fun x28 => some (.inl (x27, x28)))))
def st_X8_leftBy_6 (c_this_places : Nat → Int64) (c_this_now : Nat → Int32) (x3 : Int32) (t9 : (Int64 × Int32)) : Option ((Int64 × Int32) ⊕ Int64) := st_X8_leftBy_6c c_this_places c_this_now x3 t9.1 t9.2
def f_X8_leftBy (c_this_places : Nat → Int64) (c_this_now : Nat → Int32)  (x1 : Int64) (x3 : Int32) : Option Int64 := hk_b1 (hk_wl (st_X8_leftBy_6 c_this_places c_this_now x3) hkF (x1, (0 : Int32))) fun z30 => some z30
theorem zi_X8_leftBy_X8 : ∀ w ∈ u_ws RX8 TX8 23, w ∈ wsX8_leftBy := by decide +kernel
set_option maxHeartbeats 8000000 in
set_option maxRecDepth 100000 in
theorem c_X8_leftBy (l : Launch) (D : va_G) (cI cJ cZ cO : ClassId) (a_this a_this_near a_this_turned a_this_figures a_this_text a_this_sectors a_this_corners a_this_likes a_this_laid a_this_isMirrored a_this_places a_this_placeMany a_this_now a_this_firsts a_this_forms a_this_isKept a_this_keptFigures a_this_keptPieces a_this_keptLaid a_this_keptMirrored : Nat) (c_this_length : Int32) (c_this_doubles : Int32) (c_this_likeMany : Int32) (c_this_pieces : Int32) (c_this_places : Nat → Int64) (c_this_now : Nat → Int32) (x1 : Int64) (x3 : Int32) (rv : Int64) (hf : f_X8_leftBy c_this_places c_this_now x1 x3 = some rv) : Met l yX8_leftBy wsX8_leftBy ({ frames := 0, cells := 0, slots := 0, locals := 0 }) (va_Pc [.ref a_this, .long x1, .int x3] (hkR D cI cJ cZ cO [(a_this, .inr (4, [.ref a_this_near, .ref a_this_turned, .ref a_this_figures, .ref a_this_text, .int c_this_length, .ref a_this_sectors, .ref a_this_corners, .int c_this_doubles, .ref a_this_likes, .int c_this_likeMany, .int c_this_pieces, .ref a_this_laid, .ref a_this_isMirrored, .ref a_this_places, .ref a_this_placeMany, .ref a_this_now, .ref a_this_firsts, .ref a_this_forms, .ref a_this_isKept, .ref a_this_keptFigures, .ref a_this_keptPieces, .ref a_this_keptLaid, .ref a_this_keptMirrored])), (a_this_places, .inl (cJ, 1600, .inr (.inl c_this_places))), (a_this_now, .inl (cI, 4, .inl c_this_now))])) (vp_Sl (fun r => r = rv)) 0 0 (fun _ => False) := by
  refine Met.ofW (cc := cX8_leftBy) (maxL := 7) (ret := (some .long)) (by decide) rfl ?_
  intro p e s m args below meth c s₁ B hml hv
  obtain ⟨rfl, hP, hK⟩ := hv
  have hx := B.exec
  have hb := B.bytes
  have hr := B.returns
  have hts := atoms_spec (ws := wsX8_leftBy) B.pre
  have hown : s.vm.findClass RX8 = some m.cls := findClass_of_methodNamed B.named
  have hlocks := B.notSynchronized
  have hN := hK.2
  have hl := lv_entry ([.ref a_this, .long x1, .int x3]) (n := 7) (Nat.le_of_ble_eq_true rfl)
  rw [lg_entry_eq]
  generalize (lg_sl ([.ref a_this, .long x1, .int x3]) ++ List.replicate (7 - (lg_sl ([.ref a_this, .long x1, .int x3])).length) Slot.unset).toArray = ls at hl ⊢
  have hl : lv_has ls 7 [(0, .ref a_this), (1, .long x1), (3, .int x3)] := hl
  refine hk_Q (fun Q hQ => ?_)
  have h := hf
  unfold f_X8_leftBy at h
  refine lv_lload_n hx hb dX8_leftBy_0 rfl (lv_at hl 1 rfl) ?_
  refine lv_lstore (lv' := [(4, .long x1), (0, .ref a_this), (1, .long x1), (3, .int x3)]) hx hb dX8_leftBy_1 hl (by decide) rfl (fun ls hl => ?_)
  refine lv_iconst (v := (0 : Int32)) hx hb dX8_leftBy_3 (by decide) ?_
  refine lv_istore (lv' := [(6, .int (0 : Int32)), (4, .long x1), (0, .ref a_this), (1, .long x1), (3, .int x3)]) hx hb dX8_leftBy_4 hl (by decide) rfl (fun ls hl => ?_)
  obtain ⟨z30, hr29, h⟩ := hk_x1 h
  refine hk_loopR (f := st_X8_leftBy_6 c_this_places c_this_now x3) (hd := 6) (nL := 7) (lv := fun t9 => [(0, .ref a_this), (3, .int x3), (4, .long t9.1), (6, .int t9.2)]) (xs := fun t9 => (46, [(4, .long t9)], [])) ?_ hr29 ?_ (lv_sub hl [2, 4, 1, 0] rfl)
  · intro t31 q32 k21 hck21 hqk21 ls hl
    obtain ⟨y22, y23⟩ := t31
    have k21 : st_X8_leftBy_6c c_this_places c_this_now x3 y22 y23 = some q32 := k21
    unfold st_X8_leftBy_6c at k21
    have hl : lv_has ls 7 [(0, .ref a_this), (3, .int x3), (4, .long y22), (6, .int y23)] := hl
    refine lv_iload hx hb dX8_leftBy_6 (lv_at hl 3 rfl) ?_
    refine lv_iload_n hx hb dX8_leftBy_8 rfl (lv_at hl 1 rfl) ?_
    refine lv_icmp_ge (tgt := 46) hx hb dX8_leftBy_9 (by decide) (fun c24 => ?_) (fun c24 => ?_)
    · replace k21 := hk_ip c24 k21
      exact hqk21 y22 (Option.some.inj k21).symm ls (lv_sub hl [2] rfl)
    replace k21 := hk_in c24 k21
    refine lv_lload hx hb dX8_leftBy_12 (lv_at hl 2 rfl) ?_
    refine lv_aload_n hx hb dX8_leftBy_14 rfl (lv_at hl 0 rfl) ?_
    refine va_get (D := D) (ci := 4) (v := .ref a_this_places) (C := RX8) (T := TX8) (N := 23) hx hb hts zi_X8_leftBy_X8 hown hK.1 hP 0 rfl rfl 13 (by decide) (hts (.fieldLink RX8 39 "HalfAndHalfAgainModel" "places" "[J") (List.mem_of_getElem? (i := 1) rfl)) (fun _ h9 => h9) rfl dX8_leftBy_15 ?_
    refine lv_sipush (v := (400 : Int32)) hx hb dX8_leftBy_18 (by decide) ?_
    refine lv_iload hx hb dX8_leftBy_21 (lv_at hl 3 rfl) ?_
    refine lv_imul hx hb dX8_leftBy_23 ?_
    refine lv_aload_n hx hb dX8_leftBy_24 rfl (lv_at hl 0 rfl) ?_
    refine va_get (D := D) (ci := 4) (v := .ref a_this_now) (C := RX8) (T := TX8) (N := 23) hx hb hts zi_X8_leftBy_X8 hown hK.1 hP 0 rfl rfl 15 (by decide) (hts (.fieldLink RX8 45 "HalfAndHalfAgainModel" "now" "[I") (List.mem_of_getElem? (i := 2) rfl)) (fun _ h9 => h9) rfl dX8_leftBy_25 ?_
    refine lv_iload hx hb dX8_leftBy_28 (lv_at hl 3 rfl) ?_
    obtain ⟨hi25, k21⟩ := hk_ge k21
    refine va_iald hx hb hK.1 hP 2 0 rfl rfl (hk_inb_of hi25) dX8_leftBy_30 ?_
    refine lv_iadd hx hb dX8_leftBy_31 ?_
    obtain ⟨hi26, k21⟩ := hk_ge k21
    refine va_lald hx hb hK.1 hP 1 1 rfl rfl (hk_inb_of hi26) dX8_leftBy_32 ?_
    refine lv_ldc2 (v := (-1 : Int64)) hx hb hown (hts (.constantLong RX8 118 (-1)) (List.mem_of_getElem? (i := 3) rfl)) dX8_leftBy_33 ?_
    refine lv_lxor hx hb dX8_leftBy_36 ?_
    refine lv_land hx hb dX8_leftBy_37 ?_
    obtain ⟨x27, ex27, k21⟩ := hk_le k21
    refine hk_tl ex27 ?_
    refine lv_lstore (lv' := [(4, .long x27), (0, .ref a_this), (3, .int x3), (6, .int y23)]) hx hb dX8_leftBy_38 hl (by decide) rfl (fun ls hl => ?_)
    obtain ⟨x28, ex28, k21⟩ := hk_le k21
    refine lv_iinc (v := x28) (lv' := [(6, .int x28), (4, .long x27), (0, .ref a_this), (3, .int x3)]) hx hb dX8_leftBy_40 hl (k := 3) rfl (by rw [ex28]; rfl) (by decide) rfl (fun ls hl => ?_)
    refine lv_goto (tgt := 6) hx hb dX8_leftBy_43 (by decide) ?_
    exact hck21 (x27, x28) (Option.some.inj k21).symm ls (lv_sub hl [2, 3, 1, 0] rfl)
  intro ls hl
  have hl : lv_has ls 7 [(4, .long z30)] := hl
  show W _ _ _ _ _ _ _ _ _ _ _ _ _ _ _ (F0 m 46 ls [])
  refine lv_lload hx hb dX8_leftBy_46 (lv_at hl 0 rfl) ?_
  subst hQ
  exact W.lret hx hb hr (fun t ht hW => ⟨_, rfl, Option.some.inj h, ht⟩) (fun _ h9 => by cases h9) dX8_leftBy_48
theorem zv_X8_layWays : yX8_layWays.cls = RX8 ∧ yX8_layWays.cls ≠ "java/lang/invoke/MethodHandle" ∧ yX8_layWays.cls ≠ "java/lang/invoke/VarHandle" ∧ (parseMethodDescriptor yX8_layWays.desc).map (fun d => d.parameters.length) = some 1 := by decide +kernel
def st_X8_layWays_5c (c_this_pieces : Int32) (c_this_laid : Nat → Int64) (c_this_isMirrored : Nat → Int32) (c_this_turned : Nat → Int32) (x1 : Int64) (y22 : Int32) (y23 : Int32) (w24 : Int32) (w25 : Nat → Int64) (w26 : Nat → Int32) (w27 : Nat → Int64) (w28 : Nat → Int64) : Option ((Int32 × Int32 × Int32 × (Nat → Int64) × (Nat → Int32) × (Nat → Int64) × (Nat → Int64)) ⊕ (Int32 × Int32 × (Nat → Int64) × (Nat → Int32) × (Nat → Int64) × (Nat → Int64))) := if c_this_pieces ≤ y23 then (some (.inr (y22, w24, w25, w26, w27, w28))) else (hk_b4 (f_X8_layPlaces w24 c_this_laid c_this_isMirrored c_this_turned w25 w26 w27 y23 x1) fun u30 u31 u32 u33 => hk_gd (hk_inb y23 4) (hk_b1 (f_X8_ones (c_this_laid y23.toNatClampNeg)) fun r37 => hk_let (y22 + r37) fun x41 => hk_gd (hk_inb y23 4) (hk_let (y23 + (1 : Int32)) fun x43 => some (.inl (x41, x43, u30, u31, u32, u33, (vp_updL w28 y23.toNatClampNeg (0 : Int64)))))))
def st_X8_layWays_5 (c_this_pieces : Int32) (c_this_laid : Nat → Int64) (c_this_isMirrored : Nat → Int32) (c_this_turned : Nat → Int32) (x1 : Int64) (t9 : (Int32 × Int32 × Int32 × (Nat → Int64) × (Nat → Int32) × (Nat → Int64) × (Nat → Int64))) : Option ((Int32 × Int32 × Int32 × (Nat → Int64) × (Nat → Int32) × (Nat → Int64) × (Nat → Int64)) ⊕ (Int32 × Int32 × (Nat → Int64) × (Nat → Int32) × (Nat → Int64) × (Nat → Int64))) := st_X8_layWays_5c c_this_pieces c_this_laid c_this_isMirrored c_this_turned x1 t9.1 t9.2.1 t9.2.2.1 t9.2.2.2.1 t9.2.2.2.2.1 t9.2.2.2.2.2.1 t9.2.2.2.2.2.2
def st_X8_layWays_109c (v48 : Nat → Int32) (v49 : Nat → Int64) (y64 : Int32) (r68 : Int64) (w73 : Nat → Int32) : Option ((Nat → Int32) ⊕ (Nat → Int32)) := hk_gd (hk_inb y64 4) (hk_gd (hk_inb y64 4) (if (v48 y64.toNatClampNeg) ≤ (w73 y64.toNatClampNeg) then (some (.inr w73)) else (hk_gd (hk_inb y64 4) (hk_gd (hk_inb (((400 : Int32) * y64) + (w73 y64.toNatClampNeg)) 1600) (if ((v49 (((400 : Int32) * y64) + (w73 y64.toNatClampNeg)).toNatClampNeg) &&& (r68 ^^^ (-1 : Int64))) = (0 : Int64) then (some (.inr w73)) else (hk_gd (hk_inb y64 4) (hk_gd (hk_inb y64 4) (some (.inl (upd w73 y64.toNatClampNeg ((w73 y64.toNatClampNeg) + (1 : Int32))))))))))))
def st_X8_layWays_109 (v48 : Nat → Int32) (v49 : Nat → Int64) (y64 : Int32) (r68 : Int64) (t9 : (Nat → Int32)) : Option ((Nat → Int32) ⊕ (Nat → Int32)) := st_X8_layWays_109c v48 v49 y64 r68 t9
def st_X8_layWays_224c (c_this_pieces : Int32) (v49 : Nat → Int64) (y63 : Int32) (v83 : Nat → Int32) (y94 : Int32) (w95 : Nat → Int64) : Option ((Int32 × (Nat → Int64)) ⊕ (Nat → Int64)) := if c_this_pieces ≤ y94 then (some (.inr w95)) else (if y63 = 0 then (hk_gd (hk_inb y94 4) (hk_gd (hk_inb (((400 : Int32) * y94) + (v83 y94.toNatClampNeg)) 1600) (hk_gd (hk_inb y94 4) (hk_let (y94 + (1 : Int32)) fun x101 => some (.inl (x101, (vp_updL w95 y94.toNatClampNeg (v49 (((400 : Int32) * y94) + (v83 y94.toNatClampNeg)).toNatClampNeg)))))))) else (some (.inr w95)))
def st_X8_layWays_224 (c_this_pieces : Int32) (v49 : Nat → Int64) (y63 : Int32) (v83 : Nat → Int32) (t9 : (Int32 × (Nat → Int64))) : Option ((Int32 × (Nat → Int64)) ⊕ (Nat → Int64)) := st_X8_layWays_224c c_this_pieces v49 y63 v83 t9.1 t9.2
def st_X8_layWays_95c (c_this_pieces : Int32) (x1 : Int64) (v48 : Nat → Int32) (v49 : Nat → Int64) (y63 : Int32) (y64 : Int32) (w65 : Nat → Int64) (w66 : Nat → Int32) : Option ((Int32 × Int32 × (Nat → Int64) × (Nat → Int32)) ⊕ (Int32 × (Nat → Int64) × (Nat → Int32))) := if y64 < 0 then (some (.inr (y63, w65, w66))) else (hk_b1 (f_X8_leftBy v49 w66 x1 y64) fun r68 => hk_b1 (hk_wl (st_X8_layWays_109 v48 v49 y64 r68) hkF w66) fun v83 => hk_gd (hk_inb y64 4) (hk_gd (hk_inb y64 4) (hk_b4 (if (v83 y64.toNatClampNeg) = (v48 y64.toNatClampNeg) then (hk_let (y64 + (-1 : Int32)) fun x109 => if x109 < 0 then (some (y63, x109, w65, v83)) else (hk_gd (hk_inb x109 4) (hk_gd (hk_inb x109 4) (some (y63, x109, w65, (upd v83 x109.toNatClampNeg ((v83 x109.toNatClampNeg) + (1 : Int32)))))))) else (if y64 = (c_this_pieces - (1 : Int32)) then (hk_b1 (hk_wl (st_X8_layWays_224 c_this_pieces v49 y63 v83) hkF ((0 : Int32), w65)) fun v103 => hk_let (y63 + (1 : Int32)) fun x106 => hk_gd (hk_inb y64 4) (hk_gd (hk_inb y64 4) (some (x106, y64, v103, (upd v83 y64.toNatClampNeg ((v83 y64.toNatClampNeg) + (1 : Int32))))))) else (hk_let (y64 + (1 : Int32)) fun x91 => hk_gd (hk_inb x91 4) (some (y63, x91, w65, (upd v83 x91.toNatClampNeg (0 : Int32))))))) fun v113 v114 v115 v116 => some (.inl (v113, v114, v115, v116)))))
def st_X8_layWays_95 (c_this_pieces : Int32) (x1 : Int64) (v48 : Nat → Int32) (v49 : Nat → Int64) (t9 : (Int32 × Int32 × (Nat → Int64) × (Nat → Int32))) : Option ((Int32 × Int32 × (Nat → Int64) × (Nat → Int32)) ⊕ (Int32 × (Nat → Int64) × (Nat → Int32))) := st_X8_layWays_95c c_this_pieces x1 v48 v49 t9.1 t9.2.1 t9.2.2.1 t9.2.2.2
def f_X8_layWays (c_this_likeMany : Int32) (c_this_pieces : Int32) (c_this_laid : Nat → Int64) (c_this_isMirrored : Nat → Int32) (c_this_turned : Nat → Int32) (c_this_likes : Nat → Int64) (c_this_placeMany : Nat → Int32) (c_this_places : Nat → Int64) (c_this_firsts : Nat → Int64) (c_this_now : Nat → Int32)  (x1 : Int64) : Option (Int32 × Int32 × (Nat → Int64) × (Nat → Int32) × (Nat → Int64) × (Nat → Int64) × (Nat → Int32)) := hk_b6 (hk_wl (st_X8_layWays_5 c_this_pieces c_this_laid c_this_isMirrored c_this_turned x1) hkF ((0 : Int32), (0 : Int32), c_this_likeMany, c_this_likes, c_this_placeMany, c_this_places, c_this_firsts)) fun z45 v46 v47 v48 v49 v50 => if c_this_pieces = 0 then (if x1 = (0 : Int64) then (if c_this_pieces = 0 then (some ((1 : Int32), v46, v47, v48, v49, v50, c_this_now)) else (some ((0 : Int32), v46, v47, v48, v49, v50, c_this_now))) else (some ((0 : Int32), v46, v47, v48, v49, v50, c_this_now))) else (hk_b1 (f_X8_ones x1) fun r56 => if z45 = r56 then (hk_gd (hk_inb (0 : Int32) 4) (hk_b3 (hk_wl (st_X8_layWays_95 c_this_pieces x1 v48 v49) hkF ((0 : Int32), (0 : Int32), v50, (upd c_this_now (0 : Int32).toNatClampNeg (0 : Int32)))) fun z118 v119 v120 => some (z118, v46, v47, v48, v49, v119, v120))) else (if x1 = (0 : Int64) then (if c_this_pieces = 0 then (some ((1 : Int32), v46, v47, v48, v49, v50, c_this_now)) else (some ((0 : Int32), v46, v47, v48, v49, v50, c_this_now))) else (some ((0 : Int32), v46, v47, v48, v49, v50, c_this_now))))
theorem zi_X8_layWays_X8 : ∀ w ∈ u_ws RX8 TX8 23, w ∈ wsX8_layWays := by decide +kernel
set_option maxHeartbeats 8000000 in
set_option maxRecDepth 100000 in
theorem c_X8_layWays (l : Launch) (D : va_G) (cI cJ cZ cO : ClassId) (a_this a_this_near a_this_turned a_this_figures a_this_text a_this_sectors a_this_corners a_this_likes a_this_laid a_this_isMirrored a_this_places a_this_placeMany a_this_now a_this_firsts a_this_forms a_this_isKept a_this_keptFigures a_this_keptPieces a_this_keptLaid a_this_keptMirrored : Nat) (sz : Nat) (c_this_length : Int32) (c_this_doubles : Int32) (c_this_likeMany : Int32) (c_this_pieces : Int32) (c_this_laid : Nat → Int64) (c_this_isMirrored : Nat → Int32) (c_this_turned : Nat → Int32) (c_this_likes : Nat → Int64) (c_this_placeMany : Nat → Int32) (c_this_places : Nat → Int64) (c_this_firsts : Nat → Int64) (c_this_now : Nat → Int32) (x1 : Int64) (rv : Int32) (u_this_likeMany : Int32) (u_this_likes : Nat → Int64) (u_this_placeMany : Nat → Int32) (u_this_places : Nat → Int64) (u_this_firsts : Nat → Int64) (u_this_now : Nat → Int32) (hf : f_X8_layWays c_this_likeMany c_this_pieces c_this_laid c_this_isMirrored c_this_turned c_this_likes c_this_placeMany c_this_places c_this_firsts c_this_now x1 = some (rv, u_this_likeMany, u_this_likes, u_this_placeMany, u_this_places, u_this_firsts, u_this_now)) : Met l yX8_layWays wsX8_layWays ({ frames := 4, cells := 0, slots := 0, locals := 102 }) (va_Pc [.ref a_this, .long x1] (hkM D cI cJ cZ cO [(a_this, .inr (4, [.ref a_this_near, .ref a_this_turned, .ref a_this_figures, .ref a_this_text, .int c_this_length, .ref a_this_sectors, .ref a_this_corners, .int c_this_doubles, .ref a_this_likes, .int c_this_likeMany, .int c_this_pieces, .ref a_this_laid, .ref a_this_isMirrored, .ref a_this_places, .ref a_this_placeMany, .ref a_this_now, .ref a_this_firsts, .ref a_this_forms, .ref a_this_isKept, .ref a_this_keptFigures, .ref a_this_keptPieces, .ref a_this_keptLaid, .ref a_this_keptMirrored])), (a_this_laid, .inl (cJ, 4, .inr (.inl c_this_laid))), (a_this_isMirrored, .inl (cZ, 4, .inl c_this_isMirrored)), (a_this_turned, .inl (cI, 512, .inl c_this_turned)), (a_this_likes, .inl (cJ, 400, .inr (.inl c_this_likes))), (a_this_placeMany, .inl (cI, 4, .inl c_this_placeMany)), (a_this_places, .inl (cJ, 1600, .inr (.inl c_this_places))), (a_this_firsts, .inl (cJ, 4, .inr (.inl c_this_firsts))), (a_this_now, .inl (cI, 4, .inl c_this_now))] sz)) (va_Qi (fun r (_ : Unit) => r = rv) (fun _ t => va_P D vwCl [(a_this, .inr (4, [.ref a_this_near, .ref a_this_turned, .ref a_this_figures, .ref a_this_text, .int c_this_length, .ref a_this_sectors, .ref a_this_corners, .int c_this_doubles, .ref a_this_likes, .int u_this_likeMany, .int c_this_pieces, .ref a_this_laid, .ref a_this_isMirrored, .ref a_this_places, .ref a_this_placeMany, .ref a_this_now, .ref a_this_firsts, .ref a_this_forms, .ref a_this_isKept, .ref a_this_keptFigures, .ref a_this_keptPieces, .ref a_this_keptLaid, .ref a_this_keptMirrored])), (a_this_laid, .inl (cJ, 4, .inr (.inl c_this_laid))), (a_this_isMirrored, .inl (cZ, 4, .inl c_this_isMirrored)), (a_this_turned, .inl (cI, 512, .inl c_this_turned)), (a_this_likes, .inl (cJ, 400, .inr (.inl u_this_likes))), (a_this_placeMany, .inl (cI, 4, .inl u_this_placeMany)), (a_this_places, .inl (cJ, 1600, .inr (.inl u_this_places))), (a_this_firsts, .inl (cJ, 4, .inr (.inl u_this_firsts))), (a_this_now, .inl (cI, 4, .inl u_this_now))] t.heap ∧ va_D (va_A [(a_this, .inr (4, [.ref a_this_near, .ref a_this_turned, .ref a_this_figures, .ref a_this_text, .int c_this_length, .ref a_this_sectors, .ref a_this_corners, .int c_this_doubles, .ref a_this_likes, .int c_this_likeMany, .int c_this_pieces, .ref a_this_laid, .ref a_this_isMirrored, .ref a_this_places, .ref a_this_placeMany, .ref a_this_now, .ref a_this_firsts, .ref a_this_forms, .ref a_this_isKept, .ref a_this_keptFigures, .ref a_this_keptPieces, .ref a_this_keptLaid, .ref a_this_keptMirrored])), (a_this_laid, .inl (cJ, 4, .inr (.inl c_this_laid))), (a_this_isMirrored, .inl (cZ, 4, .inl c_this_isMirrored)), (a_this_turned, .inl (cI, 512, .inl c_this_turned)), (a_this_likes, .inl (cJ, 400, .inr (.inl c_this_likes))), (a_this_placeMany, .inl (cI, 4, .inl c_this_placeMany)), (a_this_places, .inl (cJ, 1600, .inr (.inl c_this_places))), (a_this_firsts, .inl (cJ, 4, .inr (.inl c_this_firsts))), (a_this_now, .inl (cI, 4, .inl c_this_now))] sz) [(a_this, .inr (4, [.ref a_this_near, .ref a_this_turned, .ref a_this_figures, .ref a_this_text, .int c_this_length, .ref a_this_sectors, .ref a_this_corners, .int c_this_doubles, .ref a_this_likes, .int u_this_likeMany, .int c_this_pieces, .ref a_this_laid, .ref a_this_isMirrored, .ref a_this_places, .ref a_this_placeMany, .ref a_this_now, .ref a_this_firsts, .ref a_this_forms, .ref a_this_isKept, .ref a_this_keptFigures, .ref a_this_keptPieces, .ref a_this_keptLaid, .ref a_this_keptMirrored])), (a_this_laid, .inl (cJ, 4, .inr (.inl c_this_laid))), (a_this_isMirrored, .inl (cZ, 4, .inl c_this_isMirrored)), (a_this_turned, .inl (cI, 512, .inl c_this_turned)), (a_this_likes, .inl (cJ, 400, .inr (.inl u_this_likes))), (a_this_placeMany, .inl (cI, 4, .inl u_this_placeMany)), (a_this_places, .inl (cJ, 1600, .inr (.inl u_this_places))), (a_this_firsts, .inl (cJ, 4, .inr (.inl u_this_firsts))), (a_this_now, .inl (cI, 4, .inl u_this_now))]) (va_A [(a_this, .inr (4, [.ref a_this_near, .ref a_this_turned, .ref a_this_figures, .ref a_this_text, .int c_this_length, .ref a_this_sectors, .ref a_this_corners, .int c_this_doubles, .ref a_this_likes, .int c_this_likeMany, .int c_this_pieces, .ref a_this_laid, .ref a_this_isMirrored, .ref a_this_places, .ref a_this_placeMany, .ref a_this_now, .ref a_this_firsts, .ref a_this_forms, .ref a_this_isKept, .ref a_this_keptFigures, .ref a_this_keptPieces, .ref a_this_keptLaid, .ref a_this_keptMirrored])), (a_this_laid, .inl (cJ, 4, .inr (.inl c_this_laid))), (a_this_isMirrored, .inl (cZ, 4, .inl c_this_isMirrored)), (a_this_turned, .inl (cI, 512, .inl c_this_turned)), (a_this_likes, .inl (cJ, 400, .inr (.inl c_this_likes))), (a_this_placeMany, .inl (cI, 4, .inl c_this_placeMany)), (a_this_places, .inl (cJ, 1600, .inr (.inl c_this_places))), (a_this_firsts, .inl (cJ, 4, .inr (.inl c_this_firsts))), (a_this_now, .inl (cI, 4, .inl c_this_now))] sz)) 0 0 (va_A [(a_this, .inr (4, [.ref a_this_near, .ref a_this_turned, .ref a_this_figures, .ref a_this_text, .int c_this_length, .ref a_this_sectors, .ref a_this_corners, .int c_this_doubles, .ref a_this_likes, .int c_this_likeMany, .int c_this_pieces, .ref a_this_laid, .ref a_this_isMirrored, .ref a_this_places, .ref a_this_placeMany, .ref a_this_now, .ref a_this_firsts, .ref a_this_forms, .ref a_this_isKept, .ref a_this_keptFigures, .ref a_this_keptPieces, .ref a_this_keptLaid, .ref a_this_keptMirrored])), (a_this_laid, .inl (cJ, 4, .inr (.inl c_this_laid))), (a_this_isMirrored, .inl (cZ, 4, .inl c_this_isMirrored)), (a_this_turned, .inl (cI, 512, .inl c_this_turned)), (a_this_likes, .inl (cJ, 400, .inr (.inl c_this_likes))), (a_this_placeMany, .inl (cI, 4, .inl c_this_placeMany)), (a_this_places, .inl (cJ, 1600, .inr (.inl c_this_places))), (a_this_firsts, .inl (cJ, 4, .inr (.inl c_this_firsts))), (a_this_now, .inl (cI, 4, .inl c_this_now))] sz) := by
  refine Met.ofW (cc := cX8_layWays) (maxL := 9) (ret := (some .int)) (by decide) rfl ?_
  intro p e s m args below meth c s₁ B hml hv
  obtain ⟨rfl, hsz, hP, hK, hD0⟩ := hv
  have hx := B.exec
  have hb := B.bytes
  have hr := B.returns
  have hts := atoms_spec (ws := wsX8_layWays) B.pre
  have hown : s.vm.findClass RX8 = some m.cls := findClass_of_methodNamed B.named
  have hlocks := B.notSynchronized
  have hN := hK.2
  subst hsz
  have hD := hD0.self (sz := s.heap.size)
  generalize hAe : va_A [(a_this, .inr (4, [.ref a_this_near, .ref a_this_turned, .ref a_this_figures, .ref a_this_text, .int c_this_length, .ref a_this_sectors, .ref a_this_corners, .int c_this_doubles, .ref a_this_likes, .int c_this_likeMany, .int c_this_pieces, .ref a_this_laid, .ref a_this_isMirrored, .ref a_this_places, .ref a_this_placeMany, .ref a_this_now, .ref a_this_firsts, .ref a_this_forms, .ref a_this_isKept, .ref a_this_keptFigures, .ref a_this_keptPieces, .ref a_this_keptLaid, .ref a_this_keptMirrored])), (a_this_laid, .inl (cJ, 4, .inr (.inl c_this_laid))), (a_this_isMirrored, .inl (cZ, 4, .inl c_this_isMirrored)), (a_this_turned, .inl (cI, 512, .inl c_this_turned)), (a_this_likes, .inl (cJ, 400, .inr (.inl c_this_likes))), (a_this_placeMany, .inl (cI, 4, .inl c_this_placeMany)), (a_this_places, .inl (cJ, 1600, .inr (.inl c_this_places))), (a_this_firsts, .inl (cJ, 4, .inr (.inl c_this_firsts))), (a_this_now, .inl (cI, 4, .inl c_this_now))] s.heap.size = A at hD ⊢
  have hA : ∀ q : Nat, s.heap.size ≤ q → A q := fun q h => by rw [← hAe]; exact Or.inr h
  have hS : va_S A s.heap s.heap [] := va_S.rf
  have hl := lv_entry ([.ref a_this, .long x1]) (n := 9) (Nat.le_of_ble_eq_true rfl)
  rw [lg_entry_eq]
  generalize (lg_sl ([.ref a_this, .long x1]) ++ List.replicate (9 - (lg_sl ([.ref a_this, .long x1])).length) Slot.unset).toArray = ls at hl ⊢
  have hl : lv_has ls 9 [(0, .ref a_this), (1, .long x1)] := hl
  refine hk_Q (fun Q hQ => ?_)
  have h := hf
  unfold f_X8_layWays at h
  refine lv_iconst (v := (0 : Int32)) hx hb dX8_layWays_0 (by decide) ?_
  refine lv_istore_n (lv' := [(3, .int (0 : Int32)), (0, .ref a_this), (1, .long x1)]) hx hb dX8_layWays_1 rfl hl (by decide) rfl (fun ls hl => ?_)
  refine lv_iconst (v := (0 : Int32)) hx hb dX8_layWays_2 (by decide) ?_
  refine lv_istore (lv' := [(4, .int (0 : Int32)), (3, .int (0 : Int32)), (0, .ref a_this), (1, .long x1)]) hx hb dX8_layWays_3 hl (by decide) rfl (fun ls hl => ?_)
  obtain ⟨z45, v46, v47, v48, v49, v50, hr44, h⟩ := hk_x6 h
  refine hk_loopM (f := st_X8_layWays_5 c_this_pieces c_this_laid c_this_isMirrored c_this_turned x1) (hd := 5) (nL := 9) (lv := fun t9 => [(0, .ref a_this), (1, .long x1), (3, .int t9.1), (4, .int t9.2.1)]) (wf := fun t9 => [(a_this, .inr (4, [.ref a_this_near, .ref a_this_turned, .ref a_this_figures, .ref a_this_text, .int c_this_length, .ref a_this_sectors, .ref a_this_corners, .int c_this_doubles, .ref a_this_likes, .int t9.2.2.1, .int c_this_pieces, .ref a_this_laid, .ref a_this_isMirrored, .ref a_this_places, .ref a_this_placeMany, .ref a_this_now, .ref a_this_firsts, .ref a_this_forms, .ref a_this_isKept, .ref a_this_keptFigures, .ref a_this_keptPieces, .ref a_this_keptLaid, .ref a_this_keptMirrored])), (a_this_laid, .inl (cJ, 4, .inr (.inl c_this_laid))), (a_this_isMirrored, .inl (cZ, 4, .inl c_this_isMirrored)), (a_this_turned, .inl (cI, 512, .inl c_this_turned)), (a_this_likes, .inl (cJ, 400, .inr (.inl t9.2.2.2.1))), (a_this_placeMany, .inl (cI, 4, .inl t9.2.2.2.2.1)), (a_this_places, .inl (cJ, 1600, .inr (.inl t9.2.2.2.2.2.1))), (a_this_firsts, .inl (cJ, 4, .inr (.inl t9.2.2.2.2.2.2))), (a_this_now, .inl (cI, 4, .inl c_this_now))]) (xs := fun t9 => (48, [(0, .ref a_this), (1, .long x1), (3, .int t9.1)], [], [(a_this, .inr (4, [.ref a_this_near, .ref a_this_turned, .ref a_this_figures, .ref a_this_text, .int c_this_length, .ref a_this_sectors, .ref a_this_corners, .int c_this_doubles, .ref a_this_likes, .int t9.2.1, .int c_this_pieces, .ref a_this_laid, .ref a_this_isMirrored, .ref a_this_places, .ref a_this_placeMany, .ref a_this_now, .ref a_this_firsts, .ref a_this_forms, .ref a_this_isKept, .ref a_this_keptFigures, .ref a_this_keptPieces, .ref a_this_keptLaid, .ref a_this_keptMirrored])), (a_this_laid, .inl (cJ, 4, .inr (.inl c_this_laid))), (a_this_isMirrored, .inl (cZ, 4, .inl c_this_isMirrored)), (a_this_turned, .inl (cI, 512, .inl c_this_turned)), (a_this_likes, .inl (cJ, 400, .inr (.inl t9.2.2.1))), (a_this_placeMany, .inl (cI, 4, .inl t9.2.2.2.1)), (a_this_places, .inl (cJ, 1600, .inr (.inl t9.2.2.2.2.1))), (a_this_firsts, .inl (cJ, 4, .inr (.inl t9.2.2.2.2.2))), (a_this_now, .inl (cI, 4, .inl c_this_now))])) ?_ hr44 ?_ hP hD hS (lv_sub hl [2, 3, 1, 0] rfl)
  · intro t51 q52 k21 hck21 hqk21 H locs ls hP hD hS hl
    obtain ⟨y22, y23, w24, w25, w26, w27, w28⟩ := t51
    have k21 : st_X8_layWays_5c c_this_pieces c_this_laid c_this_isMirrored c_this_turned x1 y22 y23 w24 w25 w26 w27 w28 = some q52 := k21
    unfold st_X8_layWays_5c at k21
    have hl : lv_has ls 9 [(0, .ref a_this), (1, .long x1), (3, .int y22), (4, .int y23)] := hl
    have hP : va_P D vwCl [(a_this, .inr (4, [.ref a_this_near, .ref a_this_turned, .ref a_this_figures, .ref a_this_text, .int c_this_length, .ref a_this_sectors, .ref a_this_corners, .int c_this_doubles, .ref a_this_likes, .int w24, .int c_this_pieces, .ref a_this_laid, .ref a_this_isMirrored, .ref a_this_places, .ref a_this_placeMany, .ref a_this_now, .ref a_this_firsts, .ref a_this_forms, .ref a_this_isKept, .ref a_this_keptFigures, .ref a_this_keptPieces, .ref a_this_keptLaid, .ref a_this_keptMirrored])), (a_this_laid, .inl (cJ, 4, .inr (.inl c_this_laid))), (a_this_isMirrored, .inl (cZ, 4, .inl c_this_isMirrored)), (a_this_turned, .inl (cI, 512, .inl c_this_turned)), (a_this_likes, .inl (cJ, 400, .inr (.inl w25))), (a_this_placeMany, .inl (cI, 4, .inl w26)), (a_this_places, .inl (cJ, 1600, .inr (.inl w27))), (a_this_firsts, .inl (cJ, 4, .inr (.inl w28))), (a_this_now, .inl (cI, 4, .inl c_this_now))] H := hP
    have hD : va_D A [(a_this, .inr (4, [.ref a_this_near, .ref a_this_turned, .ref a_this_figures, .ref a_this_text, .int c_this_length, .ref a_this_sectors, .ref a_this_corners, .int c_this_doubles, .ref a_this_likes, .int w24, .int c_this_pieces, .ref a_this_laid, .ref a_this_isMirrored, .ref a_this_places, .ref a_this_placeMany, .ref a_this_now, .ref a_this_firsts, .ref a_this_forms, .ref a_this_isKept, .ref a_this_keptFigures, .ref a_this_keptPieces, .ref a_this_keptLaid, .ref a_this_keptMirrored])), (a_this_laid, .inl (cJ, 4, .inr (.inl c_this_laid))), (a_this_isMirrored, .inl (cZ, 4, .inl c_this_isMirrored)), (a_this_turned, .inl (cI, 512, .inl c_this_turned)), (a_this_likes, .inl (cJ, 400, .inr (.inl w25))), (a_this_placeMany, .inl (cI, 4, .inl w26)), (a_this_places, .inl (cJ, 1600, .inr (.inl w27))), (a_this_firsts, .inl (cJ, 4, .inr (.inl w28))), (a_this_now, .inl (cI, 4, .inl c_this_now))] := hD
    refine lv_iload hx hb dX8_layWays_5 (lv_at hl 3 rfl) ?_
    refine lv_aload_n hx hb dX8_layWays_7 rfl (lv_at hl 0 rfl) ?_
    refine va_get (D := D) (ci := 4) (v := .int c_this_pieces) (C := RX8) (T := TX8) (N := 23) hx hb hts zi_X8_layWays_X8 hown hK.1 hP 0 rfl rfl 10 (by decide) (hts (.fieldLink RX8 197 "HalfAndHalfAgainModel" "pieces" "I") (List.mem_of_getElem? (i := 1) rfl)) (fun _ h9 => h9) rfl dX8_layWays_8 ?_
    refine lv_icmp_ge (tgt := 48) hx hb dX8_layWays_11 (by decide) (fun c29 => ?_) (fun c29 => ?_)
    · replace k21 := hk_ip c29 k21
      exact hqk21 (y22, w24, w25, w26, w27, w28) (Option.some.inj k21).symm H locs ls hP hD hS (lv_sub hl [0, 1, 2] rfl)
    replace k21 := hk_in c29 k21
    refine lv_aload_n hx hb dX8_layWays_14 rfl (lv_at hl 0 rfl) ?_
    refine lv_iload hx hb dX8_layWays_15 (lv_at hl 3 rfl) ?_
    refine lv_lload_n hx hb dX8_layWays_17 rfl (lv_at hl 1 rfl) ?_
    obtain ⟨u30, u31, u32, u33, hr34, k21⟩ := hk_x4 k21
    have hPc := hP.sub (ws' := [(a_this, .inr (4, [.ref a_this_near, .ref a_this_turned, .ref a_this_figures, .ref a_this_text, .int c_this_length, .ref a_this_sectors, .ref a_this_corners, .int c_this_doubles, .ref a_this_likes, .int w24, .int c_this_pieces, .ref a_this_laid, .ref a_this_isMirrored, .ref a_this_places, .ref a_this_placeMany, .ref a_this_now, .ref a_this_firsts, .ref a_this_forms, .ref a_this_isKept, .ref a_this_keptFigures, .ref a_this_keptPieces, .ref a_this_keptLaid, .ref a_this_keptMirrored])), (a_this_laid, .inl (cJ, 4, .inr (.inl c_this_laid))), (a_this_isMirrored, .inl (cZ, 4, .inl c_this_isMirrored)), (a_this_turned, .inl (cI, 512, .inl c_this_turned)), (a_this_likes, .inl (cJ, 400, .inr (.inl w25))), (a_this_placeMany, .inl (cI, 4, .inl w26)), (a_this_places, .inl (cJ, 1600, .inr (.inl w27)))]) [0, 1, 2, 3, 4, 5, 6] rfl
    have hDc := hD.sub (ws' := [(a_this, .inr (4, [.ref a_this_near, .ref a_this_turned, .ref a_this_figures, .ref a_this_text, .int c_this_length, .ref a_this_sectors, .ref a_this_corners, .int c_this_doubles, .ref a_this_likes, .int w24, .int c_this_pieces, .ref a_this_laid, .ref a_this_isMirrored, .ref a_this_places, .ref a_this_placeMany, .ref a_this_now, .ref a_this_firsts, .ref a_this_forms, .ref a_this_isKept, .ref a_this_keptFigures, .ref a_this_keptPieces, .ref a_this_keptLaid, .ref a_this_keptMirrored])), (a_this_laid, .inl (cJ, 4, .inr (.inl c_this_laid))), (a_this_isMirrored, .inl (cZ, 4, .inl c_this_isMirrored)), (a_this_turned, .inl (cI, 512, .inl c_this_turned)), (a_this_likes, .inl (cJ, 400, .inr (.inl w25))), (a_this_placeMany, .inl (cI, 4, .inl w26)), (a_this_places, .inl (cJ, 1600, .inr (.inl w27)))]) [0, 1, 2, 3, 4, 5, 6] (by decide) rfl
    have hFc := va_free (wc := [(a_this, .inr (4, [.ref a_this_near, .ref a_this_turned, .ref a_this_figures, .ref a_this_text, .int c_this_length, .ref a_this_sectors, .ref a_this_corners, .int c_this_doubles, .ref a_this_likes, .int w24, .int c_this_pieces, .ref a_this_laid, .ref a_this_isMirrored, .ref a_this_places, .ref a_this_placeMany, .ref a_this_now, .ref a_this_firsts, .ref a_this_forms, .ref a_this_isKept, .ref a_this_keptFigures, .ref a_this_keptPieces, .ref a_this_keptLaid, .ref a_this_keptMirrored])), (a_this_laid, .inl (cJ, 4, .inr (.inl c_this_laid))), (a_this_isMirrored, .inl (cZ, 4, .inl c_this_isMirrored)), (a_this_turned, .inl (cI, 512, .inl c_this_turned)), (a_this_likes, .inl (cJ, 400, .inr (.inl w25))), (a_this_placeMany, .inl (cI, 4, .inl w26)), (a_this_places, .inl (cJ, 1600, .inr (.inl w27)))]) hD hS hA [0, 1, 2, 3, 4, 5, 6] rfl
    refine va_callv (va_runV (As := [.int y23, .long x1]) (rest := []) ⟨hx, hb, hml, hown, hts⟩ (c_X8_layPlaces l D cI cJ cZ cO a_this a_this_near a_this_turned a_this_figures a_this_text a_this_sectors a_this_corners a_this_likes a_this_laid a_this_isMirrored a_this_places a_this_placeMany a_this_now a_this_firsts a_this_forms a_this_isKept a_this_keptFigures a_this_keptPieces a_this_keptLaid a_this_keptMirrored H.size c_this_length c_this_doubles w24 c_this_pieces c_this_laid c_this_isMirrored c_this_turned w25 w26 w27 y23 x1 _ _ _ _ hr34) (cwV 2 hts gX8_layWays_X8_layPlaces rfl rfl rfl zv_X8_layPlaces ⟨Nat.le_of_ble_eq_true rfl, Nat.le_of_ble_eq_true rfl⟩) (hk_preMV 4 rfl hPc hDc hK rfl) rfl rfl hl.1 rfl (lv_room (Nat.le_of_ble_eq_true rfl)) dX8_layWays_18 ⟨Nat.zero_le _, Nat.zero_le _⟩) hS (fun q _ h9 => hFc q h9) hFc (fun u9 t9 H1 locs ht hvm hw hB hz1 hk1 hS => ?_)
    obtain ⟨hP1, hD1⟩ := hB
    rw [ht] at hP1
    obtain ⟨hP, hD⟩ := va_join (wr := [(a_this_firsts, .inl (cJ, 4, .inr (.inl w28))), (a_this_now, .inl (cI, 4, .inl c_this_now))]) (w1 := [(a_this, .inr (4, [.ref a_this_near, .ref a_this_turned, .ref a_this_figures, .ref a_this_text, .int c_this_length, .ref a_this_sectors, .ref a_this_corners, .int c_this_doubles, .ref a_this_likes, .int u30, .int c_this_pieces, .ref a_this_laid, .ref a_this_isMirrored, .ref a_this_places, .ref a_this_placeMany, .ref a_this_now, .ref a_this_firsts, .ref a_this_forms, .ref a_this_isKept, .ref a_this_keptFigures, .ref a_this_keptPieces, .ref a_this_keptLaid, .ref a_this_keptMirrored])), (a_this_laid, .inl (cJ, 4, .inr (.inl c_this_laid))), (a_this_isMirrored, .inl (cZ, 4, .inl c_this_isMirrored)), (a_this_turned, .inl (cI, 512, .inl c_this_turned)), (a_this_likes, .inl (cJ, 400, .inr (.inl u31))), (a_this_placeMany, .inl (cI, 4, .inl u32)), (a_this_places, .inl (cJ, 1600, .inr (.inl u33)))]) hP hD [0, 1, 2, 3, 4, 5, 6] [7, 8] rfl rfl (by decide) (by decide) hk1 hFc hP1 hD1
    generalize H1 = H at hP hS ⊢
    have hP := hP.sub (ws' := [(a_this, .inr (4, [.ref a_this_near, .ref a_this_turned, .ref a_this_figures, .ref a_this_text, .int c_this_length, .ref a_this_sectors, .ref a_this_corners, .int c_this_doubles, .ref a_this_likes, .int u30, .int c_this_pieces, .ref a_this_laid, .ref a_this_isMirrored, .ref a_this_places, .ref a_this_placeMany, .ref a_this_now, .ref a_this_firsts, .ref a_this_forms, .ref a_this_isKept, .ref a_this_keptFigures, .ref a_this_keptPieces, .ref a_this_keptLaid, .ref a_this_keptMirrored])), (a_this_laid, .inl (cJ, 4, .inr (.inl c_this_laid))), (a_this_isMirrored, .inl (cZ, 4, .inl c_this_isMirrored)), (a_this_turned, .inl (cI, 512, .inl c_this_turned)), (a_this_likes, .inl (cJ, 400, .inr (.inl u31))), (a_this_placeMany, .inl (cI, 4, .inl u32)), (a_this_places, .inl (cJ, 1600, .inr (.inl u33))), (a_this_firsts, .inl (cJ, 4, .inr (.inl w28))), (a_this_now, .inl (cI, 4, .inl c_this_now))]) [2, 3, 4, 5, 6, 7, 8, 0, 1] rfl
    have hD := hD.sub (ws' := [(a_this, .inr (4, [.ref a_this_near, .ref a_this_turned, .ref a_this_figures, .ref a_this_text, .int c_this_length, .ref a_this_sectors, .ref a_this_corners, .int c_this_doubles, .ref a_this_likes, .int u30, .int c_this_pieces, .ref a_this_laid, .ref a_this_isMirrored, .ref a_this_places, .ref a_this_placeMany, .ref a_this_now, .ref a_this_firsts, .ref a_this_forms, .ref a_this_isKept, .ref a_this_keptFigures, .ref a_this_keptPieces, .ref a_this_keptLaid, .ref a_this_keptMirrored])), (a_this_laid, .inl (cJ, 4, .inr (.inl c_this_laid))), (a_this_isMirrored, .inl (cZ, 4, .inl c_this_isMirrored)), (a_this_turned, .inl (cI, 512, .inl c_this_turned)), (a_this_likes, .inl (cJ, 400, .inr (.inl u31))), (a_this_placeMany, .inl (cI, 4, .inl u32)), (a_this_places, .inl (cJ, 1600, .inr (.inl u33))), (a_this_firsts, .inl (cJ, 4, .inr (.inl w28))), (a_this_now, .inl (cI, 4, .inl c_this_now))]) [2, 3, 4, 5, 6, 7, 8, 0, 1] (by decide) rfl
    refine lv_iload_n hx hb dX8_layWays_21 rfl (lv_at hl 2 rfl) ?_
    refine lv_aload_n hx hb dX8_layWays_22 rfl (lv_at hl 0 rfl) ?_
    refine va_get (D := D) (ci := 4) (v := .ref a_this_laid) (C := RX8) (T := TX8) (N := 23) hx hb hts zi_X8_layWays_X8 hown hK.1 hP 0 rfl rfl 11 (by decide) (hts (.fieldLink RX8 33 "HalfAndHalfAgainModel" "laid" "[J") (List.mem_of_getElem? (i := 2) rfl)) (fun _ h9 => h9) rfl dX8_layWays_23 ?_
    refine lv_iload hx hb dX8_layWays_26 (lv_at hl 3 rfl) ?_
    obtain ⟨hi36, k21⟩ := hk_ge k21
    refine va_lald hx hb hK.1 hP 1 1 rfl rfl (hk_inb_of hi36) dX8_layWays_28 ?_
    obtain ⟨r37, hr38, k21⟩ := hk_x1 k21
    refine vp_callSi (W.runS (As := [.long (c_this_laid y23.toNatClampNeg)]) (rest := [.int y22]) ⟨hx, hb, hml, hown, hts⟩ (c_X8_ones l (c_this_laid y23.toNatClampNeg) _ hr38) (va_cwS 1 hts gX8_layWays_X8_ones rfl rfl rfl zs_X8_ones ⟨Nat.le_of_ble_eq_true rfl, Nat.le_of_ble_eq_true rfl⟩) ⟨fun _ _ _ _ q => q, fun _ _ _ => ⟨rfl, trivial⟩⟩ rfl rfl hl.1 rfl (lv_room (Nat.le_of_ble_eq_true rfl)) dX8_layWays_29 ⟨Nat.zero_le _, Nat.zero_le _⟩) (fun p40 e39 => ?_)
    rw [e39]
    refine lv_iadd hx hb dX8_layWays_32 ?_
    obtain ⟨x41, ex41, k21⟩ := hk_le k21
    refine hk_ti ex41 ?_
    refine lv_istore_n (lv' := [(3, .int x41), (0, .ref a_this), (1, .long x1), (4, .int y23)]) hx hb dX8_layWays_33 rfl hl (by decide) rfl (fun ls hl => ?_)
    refine lv_aload_n hx hb dX8_layWays_34 rfl (lv_at hl 1 rfl) ?_
    refine va_get (D := D) (ci := 4) (v := .ref a_this_firsts) (C := RX8) (T := TX8) (N := 23) hx hb hts zi_X8_layWays_X8 hown hK.1 hP 0 rfl rfl 16 (by decide) (hts (.fieldLink RX8 48 "HalfAndHalfAgainModel" "firsts" "[J") (List.mem_of_getElem? (i := 3) rfl)) (fun _ h9 => h9) rfl dX8_layWays_35 ?_
    refine lv_iload hx hb dX8_layWays_38 (lv_at hl 3 rfl) ?_
    refine lv_lconst (v := (0 : Int64)) hx hb dX8_layWays_40 (by decide) ?_
    obtain ⟨hi42, k21⟩ := hk_ge k21
    refine va_last hx hb hK.1 hP hD hS 7 1 rfl rfl (hk_inb_of hi42) dX8_layWays_41 (fun H locs hP hD hS => ?_)
    have hP : va_P D vwCl [(a_this, .inr (4, [.ref a_this_near, .ref a_this_turned, .ref a_this_figures, .ref a_this_text, .int c_this_length, .ref a_this_sectors, .ref a_this_corners, .int c_this_doubles, .ref a_this_likes, .int u30, .int c_this_pieces, .ref a_this_laid, .ref a_this_isMirrored, .ref a_this_places, .ref a_this_placeMany, .ref a_this_now, .ref a_this_firsts, .ref a_this_forms, .ref a_this_isKept, .ref a_this_keptFigures, .ref a_this_keptPieces, .ref a_this_keptLaid, .ref a_this_keptMirrored])), (a_this_laid, .inl (cJ, 4, .inr (.inl c_this_laid))), (a_this_isMirrored, .inl (cZ, 4, .inl c_this_isMirrored)), (a_this_turned, .inl (cI, 512, .inl c_this_turned)), (a_this_likes, .inl (cJ, 400, .inr (.inl u31))), (a_this_placeMany, .inl (cI, 4, .inl u32)), (a_this_places, .inl (cJ, 1600, .inr (.inl u33))), (a_this_firsts, .inl (cJ, 4, .inr (.inl (vp_updL w28 y23.toNatClampNeg (0 : Int64))))), (a_this_now, .inl (cI, 4, .inl c_this_now))] H := hP
    have hD : va_D A [(a_this, .inr (4, [.ref a_this_near, .ref a_this_turned, .ref a_this_figures, .ref a_this_text, .int c_this_length, .ref a_this_sectors, .ref a_this_corners, .int c_this_doubles, .ref a_this_likes, .int u30, .int c_this_pieces, .ref a_this_laid, .ref a_this_isMirrored, .ref a_this_places, .ref a_this_placeMany, .ref a_this_now, .ref a_this_firsts, .ref a_this_forms, .ref a_this_isKept, .ref a_this_keptFigures, .ref a_this_keptPieces, .ref a_this_keptLaid, .ref a_this_keptMirrored])), (a_this_laid, .inl (cJ, 4, .inr (.inl c_this_laid))), (a_this_isMirrored, .inl (cZ, 4, .inl c_this_isMirrored)), (a_this_turned, .inl (cI, 512, .inl c_this_turned)), (a_this_likes, .inl (cJ, 400, .inr (.inl u31))), (a_this_placeMany, .inl (cI, 4, .inl u32)), (a_this_places, .inl (cJ, 1600, .inr (.inl u33))), (a_this_firsts, .inl (cJ, 4, .inr (.inl (vp_updL w28 y23.toNatClampNeg (0 : Int64))))), (a_this_now, .inl (cI, 4, .inl c_this_now))] := hD
    obtain ⟨x43, ex43, k21⟩ := hk_le k21
    refine lv_iinc (v := x43) (lv' := [(4, .int x43), (3, .int x41), (0, .ref a_this), (1, .long x1)]) hx hb dX8_layWays_42 hl (k := 3) rfl (by rw [ex43]; rfl) (by decide) rfl (fun ls hl => ?_)
    refine lv_goto (tgt := 5) hx hb dX8_layWays_45 (by decide) ?_
    exact hck21 (x41, x43, u30, u31, u32, u33, (vp_updL w28 y23.toNatClampNeg (0 : Int64))) (Option.some.inj k21).symm H locs ls hP hD hS (lv_sub hl [2, 3, 1, 0] rfl)
  intro H locs ls hP hD hS hl
  have hl : lv_has ls 9 [(0, .ref a_this), (1, .long x1), (3, .int z45)] := hl
  have hP : va_P D vwCl [(a_this, .inr (4, [.ref a_this_near, .ref a_this_turned, .ref a_this_figures, .ref a_this_text, .int c_this_length, .ref a_this_sectors, .ref a_this_corners, .int c_this_doubles, .ref a_this_likes, .int v46, .int c_this_pieces, .ref a_this_laid, .ref a_this_isMirrored, .ref a_this_places, .ref a_this_placeMany, .ref a_this_now, .ref a_this_firsts, .ref a_this_forms, .ref a_this_isKept, .ref a_this_keptFigures, .ref a_this_keptPieces, .ref a_this_keptLaid, .ref a_this_keptMirrored])), (a_this_laid, .inl (cJ, 4, .inr (.inl c_this_laid))), (a_this_isMirrored, .inl (cZ, 4, .inl c_this_isMirrored)), (a_this_turned, .inl (cI, 512, .inl c_this_turned)), (a_this_likes, .inl (cJ, 400, .inr (.inl v47))), (a_this_placeMany, .inl (cI, 4, .inl v48)), (a_this_places, .inl (cJ, 1600, .inr (.inl v49))), (a_this_firsts, .inl (cJ, 4, .inr (.inl v50))), (a_this_now, .inl (cI, 4, .inl c_this_now))] H := hP
  have hD : va_D A [(a_this, .inr (4, [.ref a_this_near, .ref a_this_turned, .ref a_this_figures, .ref a_this_text, .int c_this_length, .ref a_this_sectors, .ref a_this_corners, .int c_this_doubles, .ref a_this_likes, .int v46, .int c_this_pieces, .ref a_this_laid, .ref a_this_isMirrored, .ref a_this_places, .ref a_this_placeMany, .ref a_this_now, .ref a_this_firsts, .ref a_this_forms, .ref a_this_isKept, .ref a_this_keptFigures, .ref a_this_keptPieces, .ref a_this_keptLaid, .ref a_this_keptMirrored])), (a_this_laid, .inl (cJ, 4, .inr (.inl c_this_laid))), (a_this_isMirrored, .inl (cZ, 4, .inl c_this_isMirrored)), (a_this_turned, .inl (cI, 512, .inl c_this_turned)), (a_this_likes, .inl (cJ, 400, .inr (.inl v47))), (a_this_placeMany, .inl (cI, 4, .inl v48)), (a_this_places, .inl (cJ, 1600, .inr (.inl v49))), (a_this_firsts, .inl (cJ, 4, .inr (.inl v50))), (a_this_now, .inl (cI, 4, .inl c_this_now))] := hD
  show W _ _ _ _ _ _ _ _ _ _ _ _ _ _ _ (F0 m 48 ls [])
  refine lv_aload_n hx hb dX8_layWays_48 rfl (lv_at hl 0 rfl) ?_
  refine va_get (D := D) (ci := 4) (v := .int c_this_pieces) (C := RX8) (T := TX8) (N := 23) hx hb hts zi_X8_layWays_X8 hown hK.1 hP 0 rfl rfl 10 (by decide) (hts (.fieldLink RX8 197 "HalfAndHalfAgainModel" "pieces" "I") (List.mem_of_getElem? (i := 1) rfl)) (fun _ h9 => h9) rfl dX8_layWays_49 ?_
  refine lv_if_eq (tgt := 63) hx hb dX8_layWays_52 (by decide) (fun c53 => ?_) (fun c53 => ?_)
  · replace h := hk_ip c53 h
    refine lv_lload_n hx hb dX8_layWays_63 rfl (lv_at hl 1 rfl) ?_
    refine lv_lconst (v := (0 : Int64)) hx hb dX8_layWays_64 (by decide) ?_
    refine hk_lcmp_ne (tgt := 80) hx hb dX8_layWays_65 dX8_layWays_66 (by decide) (fun c54 => ?_) (fun c54 => ?_)
    · replace h := hk_in c54 h
      refine lv_iconst (v := (0 : Int32)) hx hb dX8_layWays_80 (by decide) ?_
      subst hQ
      have h := Option.some.inj h
      simp only [Prod.mk.injEq] at h
      obtain ⟨rfl, rfl, rfl, rfl, rfl, rfl, rfl⟩ := h
      exact W.iret hx hb hr (fun t ht hW => ⟨⟨_, (), rfl, rfl, by rw [ht]; exact hP, hD⟩, hS.F ht⟩) hS.2.2 dX8_layWays_81
    replace h := hk_ip c54 h
    refine lv_aload_n hx hb dX8_layWays_69 rfl (lv_at hl 0 rfl) ?_
    refine va_get (D := D) (ci := 4) (v := .int c_this_pieces) (C := RX8) (T := TX8) (N := 23) hx hb hts zi_X8_layWays_X8 hown hK.1 hP 0 rfl rfl 10 (by decide) (hts (.fieldLink RX8 197 "HalfAndHalfAgainModel" "pieces" "I") (List.mem_of_getElem? (i := 1) rfl)) (fun _ h9 => h9) rfl dX8_layWays_70 ?_
    refine lv_if_ne (tgt := 80) hx hb dX8_layWays_73 (by decide) (fun c55 => ?_) (fun c55 => ?_)
    · replace h := hk_in c55 h
      refine lv_iconst (v := (0 : Int32)) hx hb dX8_layWays_80 (by decide) ?_
      subst hQ
      have h := Option.some.inj h
      simp only [Prod.mk.injEq] at h
      obtain ⟨rfl, rfl, rfl, rfl, rfl, rfl, rfl⟩ := h
      exact W.iret hx hb hr (fun t ht hW => ⟨⟨_, (), rfl, rfl, by rw [ht]; exact hP, hD⟩, hS.F ht⟩) hS.2.2 dX8_layWays_81
    replace h := hk_ip c55 h
    refine lv_iconst (v := (1 : Int32)) hx hb dX8_layWays_76 (by decide) ?_
    refine lv_goto (tgt := 81) hx hb dX8_layWays_77 (by decide) ?_
    subst hQ
    have h := Option.some.inj h
    simp only [Prod.mk.injEq] at h
    obtain ⟨rfl, rfl, rfl, rfl, rfl, rfl, rfl⟩ := h
    exact W.iret hx hb hr (fun t ht hW => ⟨⟨_, (), rfl, rfl, by rw [ht]; exact hP, hD⟩, hS.F ht⟩) hS.2.2 dX8_layWays_81
  replace h := hk_in c53 h
  refine lv_iload_n hx hb dX8_layWays_55 rfl (lv_at hl 2 rfl) ?_
  refine lv_lload_n hx hb dX8_layWays_56 rfl (lv_at hl 1 rfl) ?_
  obtain ⟨r56, hr57, h⟩ := hk_x1 h
  refine vp_callSi (W.runS (As := [.long x1]) (rest := [.int z45]) ⟨hx, hb, hml, hown, hts⟩ (c_X8_ones l x1 _ hr57) (va_cwS 1 hts gX8_layWays_X8_ones rfl rfl rfl zs_X8_ones ⟨Nat.le_of_ble_eq_true rfl, Nat.le_of_ble_eq_true rfl⟩) ⟨fun _ _ _ _ q => q, fun _ _ _ => ⟨rfl, trivial⟩⟩ rfl rfl hl.1 rfl (lv_room (Nat.le_of_ble_eq_true rfl)) dX8_layWays_57 ⟨Nat.zero_le _, Nat.zero_le _⟩) (fun p59 e58 => ?_)
  rw [e58]
  refine lv_icmp_eq (tgt := 82) hx hb dX8_layWays_60 (by decide) (fun c60 => ?_) (fun c60 => ?_)
  · replace h := hk_ip c60 h
    refine lv_iconst (v := (0 : Int32)) hx hb dX8_layWays_82 (by decide) ?_
    refine lv_istore (lv' := [(4, .int (0 : Int32)), (0, .ref a_this), (1, .long x1), (3, .int z45)]) hx hb dX8_layWays_83 hl (by decide) rfl (fun ls hl => ?_)
    refine lv_iconst (v := (0 : Int32)) hx hb dX8_layWays_85 (by decide) ?_
    refine lv_istore (lv' := [(5, .int (0 : Int32)), (4, .int (0 : Int32)), (0, .ref a_this), (1, .long x1), (3, .int z45)]) hx hb dX8_layWays_86 hl (by decide) rfl (fun ls hl => ?_)
    refine lv_aload_n hx hb dX8_layWays_88 rfl (lv_at hl 2 rfl) ?_
    refine va_get (D := D) (ci := 4) (v := .ref a_this_now) (C := RX8) (T := TX8) (N := 23) hx hb hts zi_X8_layWays_X8 hown hK.1 hP 0 rfl rfl 15 (by decide) (hts (.fieldLink RX8 45 "HalfAndHalfAgainModel" "now" "[I") (List.mem_of_getElem? (i := 4) rfl)) (fun _ h9 => h9) rfl dX8_layWays_89 ?_
    refine lv_iconst (v := (0 : Int32)) hx hb dX8_layWays_92 (by decide) ?_
    refine lv_iconst (v := (0 : Int32)) hx hb dX8_layWays_93 (by decide) ?_
    obtain ⟨hi61, h⟩ := hk_ge h
    refine va_iast hx hb hK.1 hP hD hS 8 0 rfl rfl (hk_inb_of hi61) dX8_layWays_94 (fun H locs hP hD hS => ?_)
    have hP : va_P D vwCl [(a_this, .inr (4, [.ref a_this_near, .ref a_this_turned, .ref a_this_figures, .ref a_this_text, .int c_this_length, .ref a_this_sectors, .ref a_this_corners, .int c_this_doubles, .ref a_this_likes, .int v46, .int c_this_pieces, .ref a_this_laid, .ref a_this_isMirrored, .ref a_this_places, .ref a_this_placeMany, .ref a_this_now, .ref a_this_firsts, .ref a_this_forms, .ref a_this_isKept, .ref a_this_keptFigures, .ref a_this_keptPieces, .ref a_this_keptLaid, .ref a_this_keptMirrored])), (a_this_laid, .inl (cJ, 4, .inr (.inl c_this_laid))), (a_this_isMirrored, .inl (cZ, 4, .inl c_this_isMirrored)), (a_this_turned, .inl (cI, 512, .inl c_this_turned)), (a_this_likes, .inl (cJ, 400, .inr (.inl v47))), (a_this_placeMany, .inl (cI, 4, .inl v48)), (a_this_places, .inl (cJ, 1600, .inr (.inl v49))), (a_this_firsts, .inl (cJ, 4, .inr (.inl v50))), (a_this_now, .inl (cI, 4, .inl (upd c_this_now (0 : Int32).toNatClampNeg (0 : Int32))))] H := hP
    have hD : va_D A [(a_this, .inr (4, [.ref a_this_near, .ref a_this_turned, .ref a_this_figures, .ref a_this_text, .int c_this_length, .ref a_this_sectors, .ref a_this_corners, .int c_this_doubles, .ref a_this_likes, .int v46, .int c_this_pieces, .ref a_this_laid, .ref a_this_isMirrored, .ref a_this_places, .ref a_this_placeMany, .ref a_this_now, .ref a_this_firsts, .ref a_this_forms, .ref a_this_isKept, .ref a_this_keptFigures, .ref a_this_keptPieces, .ref a_this_keptLaid, .ref a_this_keptMirrored])), (a_this_laid, .inl (cJ, 4, .inr (.inl c_this_laid))), (a_this_isMirrored, .inl (cZ, 4, .inl c_this_isMirrored)), (a_this_turned, .inl (cI, 512, .inl c_this_turned)), (a_this_likes, .inl (cJ, 400, .inr (.inl v47))), (a_this_placeMany, .inl (cI, 4, .inl v48)), (a_this_places, .inl (cJ, 1600, .inr (.inl v49))), (a_this_firsts, .inl (cJ, 4, .inr (.inl v50))), (a_this_now, .inl (cI, 4, .inl (upd c_this_now (0 : Int32).toNatClampNeg (0 : Int32))))] := hD
    obtain ⟨z118, v119, v120, hr117, h⟩ := hk_x3 h
    refine hk_loopM (f := st_X8_layWays_95 c_this_pieces x1 v48 v49) (hd := 95) (nL := 9) (lv := fun t9 => [(0, .ref a_this), (1, .long x1), (4, .int t9.1), (5, .int t9.2.1)]) (wf := fun t9 => [(a_this, .inr (4, [.ref a_this_near, .ref a_this_turned, .ref a_this_figures, .ref a_this_text, .int c_this_length, .ref a_this_sectors, .ref a_this_corners, .int c_this_doubles, .ref a_this_likes, .int v46, .int c_this_pieces, .ref a_this_laid, .ref a_this_isMirrored, .ref a_this_places, .ref a_this_placeMany, .ref a_this_now, .ref a_this_firsts, .ref a_this_forms, .ref a_this_isKept, .ref a_this_keptFigures, .ref a_this_keptPieces, .ref a_this_keptLaid, .ref a_this_keptMirrored])), (a_this_laid, .inl (cJ, 4, .inr (.inl c_this_laid))), (a_this_isMirrored, .inl (cZ, 4, .inl c_this_isMirrored)), (a_this_turned, .inl (cI, 512, .inl c_this_turned)), (a_this_likes, .inl (cJ, 400, .inr (.inl v47))), (a_this_placeMany, .inl (cI, 4, .inl v48)), (a_this_places, .inl (cJ, 1600, .inr (.inl v49))), (a_this_firsts, .inl (cJ, 4, .inr (.inl t9.2.2.1))), (a_this_now, .inl (cI, 4, .inl t9.2.2.2))]) (xs := fun t9 => (301, [(4, .int t9.1)], [], [(a_this, .inr (4, [.ref a_this_near, .ref a_this_turned, .ref a_this_figures, .ref a_this_text, .int c_this_length, .ref a_this_sectors, .ref a_this_corners, .int c_this_doubles, .ref a_this_likes, .int v46, .int c_this_pieces, .ref a_this_laid, .ref a_this_isMirrored, .ref a_this_places, .ref a_this_placeMany, .ref a_this_now, .ref a_this_firsts, .ref a_this_forms, .ref a_this_isKept, .ref a_this_keptFigures, .ref a_this_keptPieces, .ref a_this_keptLaid, .ref a_this_keptMirrored])), (a_this_laid, .inl (cJ, 4, .inr (.inl c_this_laid))), (a_this_isMirrored, .inl (cZ, 4, .inl c_this_isMirrored)), (a_this_turned, .inl (cI, 512, .inl c_this_turned)), (a_this_likes, .inl (cJ, 400, .inr (.inl v47))), (a_this_placeMany, .inl (cI, 4, .inl v48)), (a_this_places, .inl (cJ, 1600, .inr (.inl v49))), (a_this_firsts, .inl (cJ, 4, .inr (.inl t9.2.1))), (a_this_now, .inl (cI, 4, .inl t9.2.2))])) ?_ hr117 ?_ hP hD hS (lv_sub hl [2, 3, 1, 0] rfl)
    · intro t121 q122 k62 hck62 hqk62 H locs ls hP hD hS hl
      obtain ⟨y63, y64, w65, w66⟩ := t121
      have k62 : st_X8_layWays_95c c_this_pieces x1 v48 v49 y63 y64 w65 w66 = some q122 := k62
      unfold st_X8_layWays_95c at k62
      have hl : lv_has ls 9 [(0, .ref a_this), (1, .long x1), (4, .int y63), (5, .int y64)] := hl
      have hP : va_P D vwCl [(a_this, .inr (4, [.ref a_this_near, .ref a_this_turned, .ref a_this_figures, .ref a_this_text, .int c_this_length, .ref a_this_sectors, .ref a_this_corners, .int c_this_doubles, .ref a_this_likes, .int v46, .int c_this_pieces, .ref a_this_laid, .ref a_this_isMirrored, .ref a_this_places, .ref a_this_placeMany, .ref a_this_now, .ref a_this_firsts, .ref a_this_forms, .ref a_this_isKept, .ref a_this_keptFigures, .ref a_this_keptPieces, .ref a_this_keptLaid, .ref a_this_keptMirrored])), (a_this_laid, .inl (cJ, 4, .inr (.inl c_this_laid))), (a_this_isMirrored, .inl (cZ, 4, .inl c_this_isMirrored)), (a_this_turned, .inl (cI, 512, .inl c_this_turned)), (a_this_likes, .inl (cJ, 400, .inr (.inl v47))), (a_this_placeMany, .inl (cI, 4, .inl v48)), (a_this_places, .inl (cJ, 1600, .inr (.inl v49))), (a_this_firsts, .inl (cJ, 4, .inr (.inl w65))), (a_this_now, .inl (cI, 4, .inl w66))] H := hP
      have hD : va_D A [(a_this, .inr (4, [.ref a_this_near, .ref a_this_turned, .ref a_this_figures, .ref a_this_text, .int c_this_length, .ref a_this_sectors, .ref a_this_corners, .int c_this_doubles, .ref a_this_likes, .int v46, .int c_this_pieces, .ref a_this_laid, .ref a_this_isMirrored, .ref a_this_places, .ref a_this_placeMany, .ref a_this_now, .ref a_this_firsts, .ref a_this_forms, .ref a_this_isKept, .ref a_this_keptFigures, .ref a_this_keptPieces, .ref a_this_keptLaid, .ref a_this_keptMirrored])), (a_this_laid, .inl (cJ, 4, .inr (.inl c_this_laid))), (a_this_isMirrored, .inl (cZ, 4, .inl c_this_isMirrored)), (a_this_turned, .inl (cI, 512, .inl c_this_turned)), (a_this_likes, .inl (cJ, 400, .inr (.inl v47))), (a_this_placeMany, .inl (cI, 4, .inl v48)), (a_this_places, .inl (cJ, 1600, .inr (.inl v49))), (a_this_firsts, .inl (cJ, 4, .inr (.inl w65))), (a_this_now, .inl (cI, 4, .inl w66))] := hD
      refine lv_iload hx hb dX8_layWays_95 (lv_at hl 3 rfl) ?_
      refine lv_if_lt (tgt := 301) hx hb dX8_layWays_97 (by decide) (fun c67 => ?_) (fun c67 => ?_)
      · replace k62 := hk_ip c67 k62
        exact hqk62 (y63, w65, w66) (Option.some.inj k62).symm H locs ls hP hD hS (lv_sub hl [2] rfl)
      replace k62 := hk_in c67 k62
      refine lv_aload_n hx hb dX8_layWays_100 rfl (lv_at hl 0 rfl) ?_
      refine lv_lload_n hx hb dX8_layWays_101 rfl (lv_at hl 1 rfl) ?_
      refine lv_iload hx hb dX8_layWays_102 (lv_at hl 3 rfl) ?_
      obtain ⟨r68, hr69, k62⟩ := hk_x1 k62
      refine vp_callSl (W.runV (As := [.long x1, .int y64]) (rest := []) ⟨hx, hb, hml, hown, hts⟩ (c_X8_leftBy l D cI cJ cZ cO a_this a_this_near a_this_turned a_this_figures a_this_text a_this_sectors a_this_corners a_this_likes a_this_laid a_this_isMirrored a_this_places a_this_placeMany a_this_now a_this_firsts a_this_forms a_this_isKept a_this_keptFigures a_this_keptPieces a_this_keptLaid a_this_keptMirrored c_this_length c_this_doubles v46 c_this_pieces v49 w66 x1 y64 _ hr69) (cwV 2 hts gX8_layWays_X8_leftBy rfl rfl rfl zv_X8_leftBy ⟨Nat.le_of_ble_eq_true rfl, Nat.le_of_ble_eq_true rfl⟩) (hk_preRV 4 rfl (hP.sub (ws' := [(a_this, .inr (4, [.ref a_this_near, .ref a_this_turned, .ref a_this_figures, .ref a_this_text, .int c_this_length, .ref a_this_sectors, .ref a_this_corners, .int c_this_doubles, .ref a_this_likes, .int v46, .int c_this_pieces, .ref a_this_laid, .ref a_this_isMirrored, .ref a_this_places, .ref a_this_placeMany, .ref a_this_now, .ref a_this_firsts, .ref a_this_forms, .ref a_this_isKept, .ref a_this_keptFigures, .ref a_this_keptPieces, .ref a_this_keptLaid, .ref a_this_keptMirrored])), (a_this_places, .inl (cJ, 1600, .inr (.inl v49))), (a_this_now, .inl (cI, 4, .inl w66))]) [0, 6, 8] rfl) hK rfl) rfl rfl hl.1 rfl (lv_room (Nat.le_of_ble_eq_true rfl)) dX8_layWays_104 ⟨Nat.zero_le _, Nat.zero_le _⟩) (fun p71 e70 => ?_)
      rw [e70]
      refine lv_lstore (lv' := [(6, .long r68), (0, .ref a_this), (1, .long x1), (4, .int y63), (5, .int y64)]) hx hb dX8_layWays_107 hl (by decide) rfl (fun ls hl => ?_)
      obtain ⟨v83, hr82, k62⟩ := hk_x1 k62
      refine hk_loopM (f := st_X8_layWays_109 v48 v49 y64 r68) (hd := 109) (nL := 9) (lv := fun t9 => [(0, .ref a_this), (1, .long x1), (4, .int y63), (5, .int y64), (6, .long r68)]) (wf := fun t9 => [(a_this, .inr (4, [.ref a_this_near, .ref a_this_turned, .ref a_this_figures, .ref a_this_text, .int c_this_length, .ref a_this_sectors, .ref a_this_corners, .int c_this_doubles, .ref a_this_likes, .int v46, .int c_this_pieces, .ref a_this_laid, .ref a_this_isMirrored, .ref a_this_places, .ref a_this_placeMany, .ref a_this_now, .ref a_this_firsts, .ref a_this_forms, .ref a_this_isKept, .ref a_this_keptFigures, .ref a_this_keptPieces, .ref a_this_keptLaid, .ref a_this_keptMirrored])), (a_this_laid, .inl (cJ, 4, .inr (.inl c_this_laid))), (a_this_isMirrored, .inl (cZ, 4, .inl c_this_isMirrored)), (a_this_turned, .inl (cI, 512, .inl c_this_turned)), (a_this_likes, .inl (cJ, 400, .inr (.inl v47))), (a_this_placeMany, .inl (cI, 4, .inl v48)), (a_this_places, .inl (cJ, 1600, .inr (.inl v49))), (a_this_firsts, .inl (cJ, 4, .inr (.inl w65))), (a_this_now, .inl (cI, 4, .inl t9))]) (xs := fun t9 => (171, [(0, .ref a_this), (1, .long x1), (4, .int y63), (5, .int y64)], [], [(a_this, .inr (4, [.ref a_this_near, .ref a_this_turned, .ref a_this_figures, .ref a_this_text, .int c_this_length, .ref a_this_sectors, .ref a_this_corners, .int c_this_doubles, .ref a_this_likes, .int v46, .int c_this_pieces, .ref a_this_laid, .ref a_this_isMirrored, .ref a_this_places, .ref a_this_placeMany, .ref a_this_now, .ref a_this_firsts, .ref a_this_forms, .ref a_this_isKept, .ref a_this_keptFigures, .ref a_this_keptPieces, .ref a_this_keptLaid, .ref a_this_keptMirrored])), (a_this_laid, .inl (cJ, 4, .inr (.inl c_this_laid))), (a_this_isMirrored, .inl (cZ, 4, .inl c_this_isMirrored)), (a_this_turned, .inl (cI, 512, .inl c_this_turned)), (a_this_likes, .inl (cJ, 400, .inr (.inl v47))), (a_this_placeMany, .inl (cI, 4, .inl v48)), (a_this_places, .inl (cJ, 1600, .inr (.inl v49))), (a_this_firsts, .inl (cJ, 4, .inr (.inl w65))), (a_this_now, .inl (cI, 4, .inl t9))])) ?_ hr82 ?_ hP hD hS (lv_sub hl [1, 2, 3, 4, 0] rfl)
      · intro w73 q85 k72 hck72 hqk72 H locs ls hP hD hS hl
        have k72 : st_X8_layWays_109c v48 v49 y64 r68 w73 = some q85 := k72
        unfold st_X8_layWays_109c at k72
        have hl : lv_has ls 9 [(0, .ref a_this), (1, .long x1), (4, .int y63), (5, .int y64), (6, .long r68)] := hl
        have hP : va_P D vwCl [(a_this, .inr (4, [.ref a_this_near, .ref a_this_turned, .ref a_this_figures, .ref a_this_text, .int c_this_length, .ref a_this_sectors, .ref a_this_corners, .int c_this_doubles, .ref a_this_likes, .int v46, .int c_this_pieces, .ref a_this_laid, .ref a_this_isMirrored, .ref a_this_places, .ref a_this_placeMany, .ref a_this_now, .ref a_this_firsts, .ref a_this_forms, .ref a_this_isKept, .ref a_this_keptFigures, .ref a_this_keptPieces, .ref a_this_keptLaid, .ref a_this_keptMirrored])), (a_this_laid, .inl (cJ, 4, .inr (.inl c_this_laid))), (a_this_isMirrored, .inl (cZ, 4, .inl c_this_isMirrored)), (a_this_turned, .inl (cI, 512, .inl c_this_turned)), (a_this_likes, .inl (cJ, 400, .inr (.inl v47))), (a_this_placeMany, .inl (cI, 4, .inl v48)), (a_this_places, .inl (cJ, 1600, .inr (.inl v49))), (a_this_firsts, .inl (cJ, 4, .inr (.inl w65))), (a_this_now, .inl (cI, 4, .inl w73))] H := hP
        have hD : va_D A [(a_this, .inr (4, [.ref a_this_near, .ref a_this_turned, .ref a_this_figures, .ref a_this_text, .int c_this_length, .ref a_this_sectors, .ref a_this_corners, .int c_this_doubles, .ref a_this_likes, .int v46, .int c_this_pieces, .ref a_this_laid, .ref a_this_isMirrored, .ref a_this_places, .ref a_this_placeMany, .ref a_this_now, .ref a_this_firsts, .ref a_this_forms, .ref a_this_isKept, .ref a_this_keptFigures, .ref a_this_keptPieces, .ref a_this_keptLaid, .ref a_this_keptMirrored])), (a_this_laid, .inl (cJ, 4, .inr (.inl c_this_laid))), (a_this_isMirrored, .inl (cZ, 4, .inl c_this_isMirrored)), (a_this_turned, .inl (cI, 512, .inl c_this_turned)), (a_this_likes, .inl (cJ, 400, .inr (.inl v47))), (a_this_placeMany, .inl (cI, 4, .inl v48)), (a_this_places, .inl (cJ, 1600, .inr (.inl v49))), (a_this_firsts, .inl (cJ, 4, .inr (.inl w65))), (a_this_now, .inl (cI, 4, .inl w73))] := hD
        refine lv_aload_n hx hb dX8_layWays_109 rfl (lv_at hl 0 rfl) ?_
        refine va_get (D := D) (ci := 4) (v := .ref a_this_now) (C := RX8) (T := TX8) (N := 23) hx hb hts zi_X8_layWays_X8 hown hK.1 hP 0 rfl rfl 15 (by decide) (hts (.fieldLink RX8 45 "HalfAndHalfAgainModel" "now" "[I") (List.mem_of_getElem? (i := 4) rfl)) (fun _ h9 => h9) rfl dX8_layWays_110 ?_
        refine lv_iload hx hb dX8_layWays_113 (lv_at hl 3 rfl) ?_
        obtain ⟨hi74, k72⟩ := hk_ge k72
        refine va_iald hx hb hK.1 hP 8 0 rfl rfl (hk_inb_of hi74) dX8_layWays_115 ?_
        refine lv_aload_n hx hb dX8_layWays_116 rfl (lv_at hl 0 rfl) ?_
        refine va_get (D := D) (ci := 4) (v := .ref a_this_placeMany) (C := RX8) (T := TX8) (N := 23) hx hb hts zi_X8_layWays_X8 hown hK.1 hP 0 rfl rfl 14 (by decide) (hts (.fieldLink RX8 42 "HalfAndHalfAgainModel" "placeMany" "[I") (List.mem_of_getElem? (i := 5) rfl)) (fun _ h9 => h9) rfl dX8_layWays_117 ?_
        refine lv_iload hx hb dX8_layWays_120 (lv_at hl 3 rfl) ?_
        obtain ⟨hi75, k72⟩ := hk_ge k72
        refine va_iald hx hb hK.1 hP 5 0 rfl rfl (hk_inb_of hi75) dX8_layWays_122 ?_
        refine lv_icmp_ge (tgt := 171) hx hb dX8_layWays_123 (by decide) (fun c76 => ?_) (fun c76 => ?_)
        · replace k72 := hk_ip c76 k72
          exact hqk72 w73 (Option.some.inj k72).symm H locs ls hP hD hS (lv_sub hl [0, 1, 2, 3] rfl)
        replace k72 := hk_in c76 k72
        refine lv_aload_n hx hb dX8_layWays_126 rfl (lv_at hl 0 rfl) ?_
        refine va_get (D := D) (ci := 4) (v := .ref a_this_places) (C := RX8) (T := TX8) (N := 23) hx hb hts zi_X8_layWays_X8 hown hK.1 hP 0 rfl rfl 13 (by decide) (hts (.fieldLink RX8 39 "HalfAndHalfAgainModel" "places" "[J") (List.mem_of_getElem? (i := 6) rfl)) (fun _ h9 => h9) rfl dX8_layWays_127 ?_
        refine lv_sipush (v := (400 : Int32)) hx hb dX8_layWays_130 (by decide) ?_
        refine lv_iload hx hb dX8_layWays_133 (lv_at hl 3 rfl) ?_
        refine lv_imul hx hb dX8_layWays_135 ?_
        refine lv_aload_n hx hb dX8_layWays_136 rfl (lv_at hl 0 rfl) ?_
        refine va_get (D := D) (ci := 4) (v := .ref a_this_now) (C := RX8) (T := TX8) (N := 23) hx hb hts zi_X8_layWays_X8 hown hK.1 hP 0 rfl rfl 15 (by decide) (hts (.fieldLink RX8 45 "HalfAndHalfAgainModel" "now" "[I") (List.mem_of_getElem? (i := 4) rfl)) (fun _ h9 => h9) rfl dX8_layWays_137 ?_
        refine lv_iload hx hb dX8_layWays_140 (lv_at hl 3 rfl) ?_
        obtain ⟨hi77, k72⟩ := hk_ge k72
        refine va_iald hx hb hK.1 hP 8 0 rfl rfl (hk_inb_of hi77) dX8_layWays_142 ?_
        refine lv_iadd hx hb dX8_layWays_143 ?_
        obtain ⟨hi78, k72⟩ := hk_ge k72
        refine va_lald hx hb hK.1 hP 6 1 rfl rfl (hk_inb_of hi78) dX8_layWays_144 ?_
        refine lv_lload hx hb dX8_layWays_145 (lv_at hl 4 rfl) ?_
        refine lv_ldc2 (v := (-1 : Int64)) hx hb hown (hts (.constantLong RX8 118 (-1)) (List.mem_of_getElem? (i := 7) rfl)) dX8_layWays_147 ?_
        refine lv_lxor hx hb dX8_layWays_150 ?_
        refine lv_land hx hb dX8_layWays_151 ?_
        refine lv_lconst (v := (0 : Int64)) hx hb dX8_layWays_152 (by decide) ?_
        refine hk_lcmp_eq (tgt := 171) hx hb dX8_layWays_153 dX8_layWays_154 (by decide) (fun c79 => ?_) (fun c79 => ?_)
        · replace k72 := hk_ip c79 k72
          exact hqk72 w73 (Option.some.inj k72).symm H locs ls hP hD hS (lv_sub hl [0, 1, 2, 3] rfl)
        replace k72 := hk_in c79 k72
        refine lv_aload_n hx hb dX8_layWays_157 rfl (lv_at hl 0 rfl) ?_
        refine va_get (D := D) (ci := 4) (v := .ref a_this_now) (C := RX8) (T := TX8) (N := 23) hx hb hts zi_X8_layWays_X8 hown hK.1 hP 0 rfl rfl 15 (by decide) (hts (.fieldLink RX8 45 "HalfAndHalfAgainModel" "now" "[I") (List.mem_of_getElem? (i := 4) rfl)) (fun _ h9 => h9) rfl dX8_layWays_158 ?_
        refine lv_iload hx hb dX8_layWays_161 (lv_at hl 3 rfl) ?_
        refine lv_dup2_11 hx hb dX8_layWays_163 rfl rfl ?_
        obtain ⟨hi80, k72⟩ := hk_ge k72
        refine va_iald hx hb hK.1 hP 8 0 rfl rfl (hk_inb_of hi80) dX8_layWays_164 ?_
        refine lv_iconst (v := (1 : Int32)) hx hb dX8_layWays_165 (by decide) ?_
        refine lv_iadd hx hb dX8_layWays_166 ?_
        obtain ⟨hi81, k72⟩ := hk_ge k72
        refine va_iast hx hb hK.1 hP hD hS 8 0 rfl rfl (hk_inb_of hi81) dX8_layWays_167 (fun H locs hP hD hS => ?_)
        have hP : va_P D vwCl [(a_this, .inr (4, [.ref a_this_near, .ref a_this_turned, .ref a_this_figures, .ref a_this_text, .int c_this_length, .ref a_this_sectors, .ref a_this_corners, .int c_this_doubles, .ref a_this_likes, .int v46, .int c_this_pieces, .ref a_this_laid, .ref a_this_isMirrored, .ref a_this_places, .ref a_this_placeMany, .ref a_this_now, .ref a_this_firsts, .ref a_this_forms, .ref a_this_isKept, .ref a_this_keptFigures, .ref a_this_keptPieces, .ref a_this_keptLaid, .ref a_this_keptMirrored])), (a_this_laid, .inl (cJ, 4, .inr (.inl c_this_laid))), (a_this_isMirrored, .inl (cZ, 4, .inl c_this_isMirrored)), (a_this_turned, .inl (cI, 512, .inl c_this_turned)), (a_this_likes, .inl (cJ, 400, .inr (.inl v47))), (a_this_placeMany, .inl (cI, 4, .inl v48)), (a_this_places, .inl (cJ, 1600, .inr (.inl v49))), (a_this_firsts, .inl (cJ, 4, .inr (.inl w65))), (a_this_now, .inl (cI, 4, .inl (upd w73 y64.toNatClampNeg ((w73 y64.toNatClampNeg) + (1 : Int32)))))] H := hP
        have hD : va_D A [(a_this, .inr (4, [.ref a_this_near, .ref a_this_turned, .ref a_this_figures, .ref a_this_text, .int c_this_length, .ref a_this_sectors, .ref a_this_corners, .int c_this_doubles, .ref a_this_likes, .int v46, .int c_this_pieces, .ref a_this_laid, .ref a_this_isMirrored, .ref a_this_places, .ref a_this_placeMany, .ref a_this_now, .ref a_this_firsts, .ref a_this_forms, .ref a_this_isKept, .ref a_this_keptFigures, .ref a_this_keptPieces, .ref a_this_keptLaid, .ref a_this_keptMirrored])), (a_this_laid, .inl (cJ, 4, .inr (.inl c_this_laid))), (a_this_isMirrored, .inl (cZ, 4, .inl c_this_isMirrored)), (a_this_turned, .inl (cI, 512, .inl c_this_turned)), (a_this_likes, .inl (cJ, 400, .inr (.inl v47))), (a_this_placeMany, .inl (cI, 4, .inl v48)), (a_this_places, .inl (cJ, 1600, .inr (.inl v49))), (a_this_firsts, .inl (cJ, 4, .inr (.inl w65))), (a_this_now, .inl (cI, 4, .inl (upd w73 y64.toNatClampNeg ((w73 y64.toNatClampNeg) + (1 : Int32)))))] := hD
        refine lv_goto (tgt := 109) hx hb dX8_layWays_168 (by decide) ?_
        exact hck72 (upd w73 y64.toNatClampNeg ((w73 y64.toNatClampNeg) + (1 : Int32))) (Option.some.inj k72).symm H locs ls hP hD hS (lv_sub hl [0, 1, 2, 3, 4] rfl)
      intro H locs ls hP hD hS hl
      have hl : lv_has ls 9 [(0, .ref a_this), (1, .long x1), (4, .int y63), (5, .int y64)] := hl
      have hP : va_P D vwCl [(a_this, .inr (4, [.ref a_this_near, .ref a_this_turned, .ref a_this_figures, .ref a_this_text, .int c_this_length, .ref a_this_sectors, .ref a_this_corners, .int c_this_doubles, .ref a_this_likes, .int v46, .int c_this_pieces, .ref a_this_laid, .ref a_this_isMirrored, .ref a_this_places, .ref a_this_placeMany, .ref a_this_now, .ref a_this_firsts, .ref a_this_forms, .ref a_this_isKept, .ref a_this_keptFigures, .ref a_this_keptPieces, .ref a_this_keptLaid, .ref a_this_keptMirrored])), (a_this_laid, .inl (cJ, 4, .inr (.inl c_this_laid))), (a_this_isMirrored, .inl (cZ, 4, .inl c_this_isMirrored)), (a_this_turned, .inl (cI, 512, .inl c_this_turned)), (a_this_likes, .inl (cJ, 400, .inr (.inl v47))), (a_this_placeMany, .inl (cI, 4, .inl v48)), (a_this_places, .inl (cJ, 1600, .inr (.inl v49))), (a_this_firsts, .inl (cJ, 4, .inr (.inl w65))), (a_this_now, .inl (cI, 4, .inl v83))] H := hP
      have hD : va_D A [(a_this, .inr (4, [.ref a_this_near, .ref a_this_turned, .ref a_this_figures, .ref a_this_text, .int c_this_length, .ref a_this_sectors, .ref a_this_corners, .int c_this_doubles, .ref a_this_likes, .int v46, .int c_this_pieces, .ref a_this_laid, .ref a_this_isMirrored, .ref a_this_places, .ref a_this_placeMany, .ref a_this_now, .ref a_this_firsts, .ref a_this_forms, .ref a_this_isKept, .ref a_this_keptFigures, .ref a_this_keptPieces, .ref a_this_keptLaid, .ref a_this_keptMirrored])), (a_this_laid, .inl (cJ, 4, .inr (.inl c_this_laid))), (a_this_isMirrored, .inl (cZ, 4, .inl c_this_isMirrored)), (a_this_turned, .inl (cI, 512, .inl c_this_turned)), (a_this_likes, .inl (cJ, 400, .inr (.inl v47))), (a_this_placeMany, .inl (cI, 4, .inl v48)), (a_this_places, .inl (cJ, 1600, .inr (.inl v49))), (a_this_firsts, .inl (cJ, 4, .inr (.inl w65))), (a_this_now, .inl (cI, 4, .inl v83))] := hD
      show W _ _ _ _ _ _ _ _ _ _ _ _ _ _ _ (F0 m 171 ls [])
      refine lv_aload_n hx hb dX8_layWays_171 rfl (lv_at hl 0 rfl) ?_
      refine va_get (D := D) (ci := 4) (v := .ref a_this_now) (C := RX8) (T := TX8) (N := 23) hx hb hts zi_X8_layWays_X8 hown hK.1 hP 0 rfl rfl 15 (by decide) (hts (.fieldLink RX8 45 "HalfAndHalfAgainModel" "now" "[I") (List.mem_of_getElem? (i := 4) rfl)) (fun _ h9 => h9) rfl dX8_layWays_172 ?_
      refine lv_iload hx hb dX8_layWays_175 (lv_at hl 3 rfl) ?_
      obtain ⟨hi86, k62⟩ := hk_ge k62
      refine va_iald hx hb hK.1 hP 8 0 rfl rfl (hk_inb_of hi86) dX8_layWays_177 ?_
      refine lv_aload_n hx hb dX8_layWays_178 rfl (lv_at hl 0 rfl) ?_
      refine va_get (D := D) (ci := 4) (v := .ref a_this_placeMany) (C := RX8) (T := TX8) (N := 23) hx hb hts zi_X8_layWays_X8 hown hK.1 hP 0 rfl rfl 14 (by decide) (hts (.fieldLink RX8 42 "HalfAndHalfAgainModel" "placeMany" "[I") (List.mem_of_getElem? (i := 5) rfl)) (fun _ h9 => h9) rfl dX8_layWays_179 ?_
      refine lv_iload hx hb dX8_layWays_182 (lv_at hl 3 rfl) ?_
      obtain ⟨hi87, k62⟩ := hk_ge k62
      refine va_iald hx hb hK.1 hP 5 0 rfl rfl (hk_inb_of hi87) dX8_layWays_184 ?_
      obtain ⟨v113, v114, v115, v116, g88, k62⟩ := hk_x4 k62
      refine hk_joinM (D := D) (cl := vwCl) (A := A) (H0 := s.heap) (nL := 9) (xs := fun (t9 : (Int32 × Int32 × (Nat → Int64) × (Nat → Int32))) => (298, [(0, .ref a_this), (1, .long x1), (4, .int t9.1), (5, .int t9.2.1)], [], [(a_this, .inr (4, [.ref a_this_near, .ref a_this_turned, .ref a_this_figures, .ref a_this_text, .int c_this_length, .ref a_this_sectors, .ref a_this_corners, .int c_this_doubles, .ref a_this_likes, .int v46, .int c_this_pieces, .ref a_this_laid, .ref a_this_isMirrored, .ref a_this_places, .ref a_this_placeMany, .ref a_this_now, .ref a_this_firsts, .ref a_this_forms, .ref a_this_isKept, .ref a_this_keptFigures, .ref a_this_keptPieces, .ref a_this_keptLaid, .ref a_this_keptMirrored])), (a_this_laid, .inl (cJ, 4, .inr (.inl c_this_laid))), (a_this_isMirrored, .inl (cZ, 4, .inl c_this_isMirrored)), (a_this_turned, .inl (cI, 512, .inl c_this_turned)), (a_this_likes, .inl (cJ, 400, .inr (.inl v47))), (a_this_placeMany, .inl (cI, 4, .inl v48)), (a_this_places, .inl (cJ, 1600, .inr (.inl v49))), (a_this_firsts, .inl (cJ, 4, .inr (.inl t9.2.2.1))), (a_this_now, .inl (cI, 4, .inl t9.2.2.2))])) (v113, v114, v115, v116) (fun hjg88 => ?_) ?_
      · refine lv_icmp_ne (tgt := 210) hx hb dX8_layWays_185 (by decide) (fun c89 => ?_) (fun c89 => ?_)
        · replace g88 := hk_in c89 g88
          refine lv_iload hx hb dX8_layWays_210 (lv_at hl 3 rfl) ?_
          refine lv_aload_n hx hb dX8_layWays_212 rfl (lv_at hl 0 rfl) ?_
          refine va_get (D := D) (ci := 4) (v := .int c_this_pieces) (C := RX8) (T := TX8) (N := 23) hx hb hts zi_X8_layWays_X8 hown hK.1 hP 0 rfl rfl 10 (by decide) (hts (.fieldLink RX8 197 "HalfAndHalfAgainModel" "pieces" "I") (List.mem_of_getElem? (i := 1) rfl)) (fun _ h9 => h9) rfl dX8_layWays_213 ?_
          refine lv_iconst (v := (1 : Int32)) hx hb dX8_layWays_216 (by decide) ?_
          refine lv_isub hx hb dX8_layWays_217 ?_
          refine lv_icmp_ne (tgt := 287) hx hb dX8_layWays_218 (by decide) (fun c90 => ?_) (fun c90 => ?_)
          · replace g88 := hk_in c90 g88
            obtain ⟨x91, ex91, g88⟩ := hk_le g88
            refine lv_iinc (v := x91) (lv' := [(5, .int x91), (0, .ref a_this), (1, .long x1), (4, .int y63)]) hx hb dX8_layWays_287 hl (k := 3) rfl (by rw [ex91]; rfl) (by decide) rfl (fun ls hl => ?_)
            refine lv_aload_n hx hb dX8_layWays_290 rfl (lv_at hl 1 rfl) ?_
            refine va_get (D := D) (ci := 4) (v := .ref a_this_now) (C := RX8) (T := TX8) (N := 23) hx hb hts zi_X8_layWays_X8 hown hK.1 hP 0 rfl rfl 15 (by decide) (hts (.fieldLink RX8 45 "HalfAndHalfAgainModel" "now" "[I") (List.mem_of_getElem? (i := 4) rfl)) (fun _ h9 => h9) rfl dX8_layWays_291 ?_
            refine lv_iload hx hb dX8_layWays_294 (lv_at hl 0 rfl) ?_
            refine lv_iconst (v := (0 : Int32)) hx hb dX8_layWays_296 (by decide) ?_
            obtain ⟨hi92, g88⟩ := hk_ge g88
            refine va_iast hx hb hK.1 hP hD hS 8 0 rfl rfl (hk_inb_of hi92) dX8_layWays_297 (fun H locs hP hD hS => ?_)
            have hP : va_P D vwCl [(a_this, .inr (4, [.ref a_this_near, .ref a_this_turned, .ref a_this_figures, .ref a_this_text, .int c_this_length, .ref a_this_sectors, .ref a_this_corners, .int c_this_doubles, .ref a_this_likes, .int v46, .int c_this_pieces, .ref a_this_laid, .ref a_this_isMirrored, .ref a_this_places, .ref a_this_placeMany, .ref a_this_now, .ref a_this_firsts, .ref a_this_forms, .ref a_this_isKept, .ref a_this_keptFigures, .ref a_this_keptPieces, .ref a_this_keptLaid, .ref a_this_keptMirrored])), (a_this_laid, .inl (cJ, 4, .inr (.inl c_this_laid))), (a_this_isMirrored, .inl (cZ, 4, .inl c_this_isMirrored)), (a_this_turned, .inl (cI, 512, .inl c_this_turned)), (a_this_likes, .inl (cJ, 400, .inr (.inl v47))), (a_this_placeMany, .inl (cI, 4, .inl v48)), (a_this_places, .inl (cJ, 1600, .inr (.inl v49))), (a_this_firsts, .inl (cJ, 4, .inr (.inl w65))), (a_this_now, .inl (cI, 4, .inl (upd v83 x91.toNatClampNeg (0 : Int32))))] H := hP
            have hD : va_D A [(a_this, .inr (4, [.ref a_this_near, .ref a_this_turned, .ref a_this_figures, .ref a_this_text, .int c_this_length, .ref a_this_sectors, .ref a_this_corners, .int c_this_doubles, .ref a_this_likes, .int v46, .int c_this_pieces, .ref a_this_laid, .ref a_this_isMirrored, .ref a_this_places, .ref a_this_placeMany, .ref a_this_now, .ref a_this_firsts, .ref a_this_forms, .ref a_this_isKept, .ref a_this_keptFigures, .ref a_this_keptPieces, .ref a_this_keptLaid, .ref a_this_keptMirrored])), (a_this_laid, .inl (cJ, 4, .inr (.inl c_this_laid))), (a_this_isMirrored, .inl (cZ, 4, .inl c_this_isMirrored)), (a_this_turned, .inl (cI, 512, .inl c_this_turned)), (a_this_likes, .inl (cJ, 400, .inr (.inl v47))), (a_this_placeMany, .inl (cI, 4, .inl v48)), (a_this_places, .inl (cJ, 1600, .inr (.inl v49))), (a_this_firsts, .inl (cJ, 4, .inr (.inl w65))), (a_this_now, .inl (cI, 4, .inl (upd v83 x91.toNatClampNeg (0 : Int32))))] := hD
            have g88 := Option.some.inj g88
            simp only [Prod.mk.injEq] at g88
            obtain ⟨rfl, rfl, rfl, rfl⟩ := g88
            exact hjg88 H locs ls hP hD hS (lv_sub hl [1, 2, 3, 0] rfl)
          replace g88 := hk_ip c90 g88
          refine lv_iconst (v := (0 : Int32)) hx hb dX8_layWays_221 (by decide) ?_
          refine lv_istore (lv' := [(8, .int (0 : Int32)), (0, .ref a_this), (1, .long x1), (4, .int y63), (5, .int y64)]) hx hb dX8_layWays_222 hl (by decide) rfl (fun ls hl => ?_)
          obtain ⟨v103, hr102, g88⟩ := hk_x1 g88
          refine hk_loopM (f := st_X8_layWays_224 c_this_pieces v49 y63 v83) (hd := 224) (nL := 9) (lv := fun t9 => [(0, .ref a_this), (1, .long x1), (4, .int y63), (5, .int y64), (8, .int t9.1)]) (wf := fun t9 => [(a_this, .inr (4, [.ref a_this_near, .ref a_this_turned, .ref a_this_figures, .ref a_this_text, .int c_this_length, .ref a_this_sectors, .ref a_this_corners, .int c_this_doubles, .ref a_this_likes, .int v46, .int c_this_pieces, .ref a_this_laid, .ref a_this_isMirrored, .ref a_this_places, .ref a_this_placeMany, .ref a_this_now, .ref a_this_firsts, .ref a_this_forms, .ref a_this_isKept, .ref a_this_keptFigures, .ref a_this_keptPieces, .ref a_this_keptLaid, .ref a_this_keptMirrored])), (a_this_laid, .inl (cJ, 4, .inr (.inl c_this_laid))), (a_this_isMirrored, .inl (cZ, 4, .inl c_this_isMirrored)), (a_this_turned, .inl (cI, 512, .inl c_this_turned)), (a_this_likes, .inl (cJ, 400, .inr (.inl v47))), (a_this_placeMany, .inl (cI, 4, .inl v48)), (a_this_places, .inl (cJ, 1600, .inr (.inl v49))), (a_this_firsts, .inl (cJ, 4, .inr (.inl t9.2))), (a_this_now, .inl (cI, 4, .inl v83))]) (xs := fun t9 => (270, [(0, .ref a_this), (1, .long x1), (4, .int y63), (5, .int y64)], [], [(a_this, .inr (4, [.ref a_this_near, .ref a_this_turned, .ref a_this_figures, .ref a_this_text, .int c_this_length, .ref a_this_sectors, .ref a_this_corners, .int c_this_doubles, .ref a_this_likes, .int v46, .int c_this_pieces, .ref a_this_laid, .ref a_this_isMirrored, .ref a_this_places, .ref a_this_placeMany, .ref a_this_now, .ref a_this_firsts, .ref a_this_forms, .ref a_this_isKept, .ref a_this_keptFigures, .ref a_this_keptPieces, .ref a_this_keptLaid, .ref a_this_keptMirrored])), (a_this_laid, .inl (cJ, 4, .inr (.inl c_this_laid))), (a_this_isMirrored, .inl (cZ, 4, .inl c_this_isMirrored)), (a_this_turned, .inl (cI, 512, .inl c_this_turned)), (a_this_likes, .inl (cJ, 400, .inr (.inl v47))), (a_this_placeMany, .inl (cI, 4, .inl v48)), (a_this_places, .inl (cJ, 1600, .inr (.inl v49))), (a_this_firsts, .inl (cJ, 4, .inr (.inl t9))), (a_this_now, .inl (cI, 4, .inl v83))])) ?_ hr102 ?_ hP hD hS (lv_sub hl [1, 2, 3, 4, 0] rfl)
          · intro t104 q105 k93 hck93 hqk93 H locs ls hP hD hS hl
            obtain ⟨y94, w95⟩ := t104
            have k93 : st_X8_layWays_224c c_this_pieces v49 y63 v83 y94 w95 = some q105 := k93
            unfold st_X8_layWays_224c at k93
            have hl : lv_has ls 9 [(0, .ref a_this), (1, .long x1), (4, .int y63), (5, .int y64), (8, .int y94)] := hl
            have hP : va_P D vwCl [(a_this, .inr (4, [.ref a_this_near, .ref a_this_turned, .ref a_this_figures, .ref a_this_text, .int c_this_length, .ref a_this_sectors, .ref a_this_corners, .int c_this_doubles, .ref a_this_likes, .int v46, .int c_this_pieces, .ref a_this_laid, .ref a_this_isMirrored, .ref a_this_places, .ref a_this_placeMany, .ref a_this_now, .ref a_this_firsts, .ref a_this_forms, .ref a_this_isKept, .ref a_this_keptFigures, .ref a_this_keptPieces, .ref a_this_keptLaid, .ref a_this_keptMirrored])), (a_this_laid, .inl (cJ, 4, .inr (.inl c_this_laid))), (a_this_isMirrored, .inl (cZ, 4, .inl c_this_isMirrored)), (a_this_turned, .inl (cI, 512, .inl c_this_turned)), (a_this_likes, .inl (cJ, 400, .inr (.inl v47))), (a_this_placeMany, .inl (cI, 4, .inl v48)), (a_this_places, .inl (cJ, 1600, .inr (.inl v49))), (a_this_firsts, .inl (cJ, 4, .inr (.inl w95))), (a_this_now, .inl (cI, 4, .inl v83))] H := hP
            have hD : va_D A [(a_this, .inr (4, [.ref a_this_near, .ref a_this_turned, .ref a_this_figures, .ref a_this_text, .int c_this_length, .ref a_this_sectors, .ref a_this_corners, .int c_this_doubles, .ref a_this_likes, .int v46, .int c_this_pieces, .ref a_this_laid, .ref a_this_isMirrored, .ref a_this_places, .ref a_this_placeMany, .ref a_this_now, .ref a_this_firsts, .ref a_this_forms, .ref a_this_isKept, .ref a_this_keptFigures, .ref a_this_keptPieces, .ref a_this_keptLaid, .ref a_this_keptMirrored])), (a_this_laid, .inl (cJ, 4, .inr (.inl c_this_laid))), (a_this_isMirrored, .inl (cZ, 4, .inl c_this_isMirrored)), (a_this_turned, .inl (cI, 512, .inl c_this_turned)), (a_this_likes, .inl (cJ, 400, .inr (.inl v47))), (a_this_placeMany, .inl (cI, 4, .inl v48)), (a_this_places, .inl (cJ, 1600, .inr (.inl v49))), (a_this_firsts, .inl (cJ, 4, .inr (.inl w95))), (a_this_now, .inl (cI, 4, .inl v83))] := hD
            refine lv_iload hx hb dX8_layWays_224 (lv_at hl 4 rfl) ?_
            refine lv_aload_n hx hb dX8_layWays_226 rfl (lv_at hl 0 rfl) ?_
            refine va_get (D := D) (ci := 4) (v := .int c_this_pieces) (C := RX8) (T := TX8) (N := 23) hx hb hts zi_X8_layWays_X8 hown hK.1 hP 0 rfl rfl 10 (by decide) (hts (.fieldLink RX8 197 "HalfAndHalfAgainModel" "pieces" "I") (List.mem_of_getElem? (i := 1) rfl)) (fun _ h9 => h9) rfl dX8_layWays_227 ?_
            refine lv_icmp_ge (tgt := 270) hx hb dX8_layWays_230 (by decide) (fun c96 => ?_) (fun c96 => ?_)
            · replace k93 := hk_ip c96 k93
              exact hqk93 w95 (Option.some.inj k93).symm H locs ls hP hD hS (lv_sub hl [0, 1, 2, 3] rfl)
            replace k93 := hk_in c96 k93
            refine lv_iload hx hb dX8_layWays_233 (lv_at hl 2 rfl) ?_
            refine lv_if_ne (tgt := 270) hx hb dX8_layWays_235 (by decide) (fun c97 => ?_) (fun c97 => ?_)
            · replace k93 := hk_in c97 k93
              exact hqk93 w95 (Option.some.inj k93).symm H locs ls hP hD hS (lv_sub hl [0, 1, 2, 3] rfl)
            replace k93 := hk_ip c97 k93
            refine lv_aload_n hx hb dX8_layWays_238 rfl (lv_at hl 0 rfl) ?_
            refine va_get (D := D) (ci := 4) (v := .ref a_this_firsts) (C := RX8) (T := TX8) (N := 23) hx hb hts zi_X8_layWays_X8 hown hK.1 hP 0 rfl rfl 16 (by decide) (hts (.fieldLink RX8 48 "HalfAndHalfAgainModel" "firsts" "[J") (List.mem_of_getElem? (i := 3) rfl)) (fun _ h9 => h9) rfl dX8_layWays_239 ?_
            refine lv_iload hx hb dX8_layWays_242 (lv_at hl 4 rfl) ?_
            refine lv_aload_n hx hb dX8_layWays_244 rfl (lv_at hl 0 rfl) ?_
            refine va_get (D := D) (ci := 4) (v := .ref a_this_places) (C := RX8) (T := TX8) (N := 23) hx hb hts zi_X8_layWays_X8 hown hK.1 hP 0 rfl rfl 13 (by decide) (hts (.fieldLink RX8 39 "HalfAndHalfAgainModel" "places" "[J") (List.mem_of_getElem? (i := 6) rfl)) (fun _ h9 => h9) rfl dX8_layWays_245 ?_
            refine lv_sipush (v := (400 : Int32)) hx hb dX8_layWays_248 (by decide) ?_
            refine lv_iload hx hb dX8_layWays_251 (lv_at hl 4 rfl) ?_
            refine lv_imul hx hb dX8_layWays_253 ?_
            refine lv_aload_n hx hb dX8_layWays_254 rfl (lv_at hl 0 rfl) ?_
            refine va_get (D := D) (ci := 4) (v := .ref a_this_now) (C := RX8) (T := TX8) (N := 23) hx hb hts zi_X8_layWays_X8 hown hK.1 hP 0 rfl rfl 15 (by decide) (hts (.fieldLink RX8 45 "HalfAndHalfAgainModel" "now" "[I") (List.mem_of_getElem? (i := 4) rfl)) (fun _ h9 => h9) rfl dX8_layWays_255 ?_
            refine lv_iload hx hb dX8_layWays_258 (lv_at hl 4 rfl) ?_
            obtain ⟨hi98, k93⟩ := hk_ge k93
            refine va_iald hx hb hK.1 hP 8 0 rfl rfl (hk_inb_of hi98) dX8_layWays_260 ?_
            refine lv_iadd hx hb dX8_layWays_261 ?_
            obtain ⟨hi99, k93⟩ := hk_ge k93
            refine va_lald hx hb hK.1 hP 6 1 rfl rfl (hk_inb_of hi99) dX8_layWays_262 ?_
            obtain ⟨hi100, k93⟩ := hk_ge k93
            refine va_last hx hb hK.1 hP hD hS 7 1 rfl rfl (hk_inb_of hi100) dX8_layWays_263 (fun H locs hP hD hS => ?_)
            have hP : va_P D vwCl [(a_this, .inr (4, [.ref a_this_near, .ref a_this_turned, .ref a_this_figures, .ref a_this_text, .int c_this_length, .ref a_this_sectors, .ref a_this_corners, .int c_this_doubles, .ref a_this_likes, .int v46, .int c_this_pieces, .ref a_this_laid, .ref a_this_isMirrored, .ref a_this_places, .ref a_this_placeMany, .ref a_this_now, .ref a_this_firsts, .ref a_this_forms, .ref a_this_isKept, .ref a_this_keptFigures, .ref a_this_keptPieces, .ref a_this_keptLaid, .ref a_this_keptMirrored])), (a_this_laid, .inl (cJ, 4, .inr (.inl c_this_laid))), (a_this_isMirrored, .inl (cZ, 4, .inl c_this_isMirrored)), (a_this_turned, .inl (cI, 512, .inl c_this_turned)), (a_this_likes, .inl (cJ, 400, .inr (.inl v47))), (a_this_placeMany, .inl (cI, 4, .inl v48)), (a_this_places, .inl (cJ, 1600, .inr (.inl v49))), (a_this_firsts, .inl (cJ, 4, .inr (.inl (vp_updL w95 y94.toNatClampNeg (v49 (((400 : Int32) * y94) + (v83 y94.toNatClampNeg)).toNatClampNeg))))), (a_this_now, .inl (cI, 4, .inl v83))] H := hP
            have hD : va_D A [(a_this, .inr (4, [.ref a_this_near, .ref a_this_turned, .ref a_this_figures, .ref a_this_text, .int c_this_length, .ref a_this_sectors, .ref a_this_corners, .int c_this_doubles, .ref a_this_likes, .int v46, .int c_this_pieces, .ref a_this_laid, .ref a_this_isMirrored, .ref a_this_places, .ref a_this_placeMany, .ref a_this_now, .ref a_this_firsts, .ref a_this_forms, .ref a_this_isKept, .ref a_this_keptFigures, .ref a_this_keptPieces, .ref a_this_keptLaid, .ref a_this_keptMirrored])), (a_this_laid, .inl (cJ, 4, .inr (.inl c_this_laid))), (a_this_isMirrored, .inl (cZ, 4, .inl c_this_isMirrored)), (a_this_turned, .inl (cI, 512, .inl c_this_turned)), (a_this_likes, .inl (cJ, 400, .inr (.inl v47))), (a_this_placeMany, .inl (cI, 4, .inl v48)), (a_this_places, .inl (cJ, 1600, .inr (.inl v49))), (a_this_firsts, .inl (cJ, 4, .inr (.inl (vp_updL w95 y94.toNatClampNeg (v49 (((400 : Int32) * y94) + (v83 y94.toNatClampNeg)).toNatClampNeg))))), (a_this_now, .inl (cI, 4, .inl v83))] := hD
            obtain ⟨x101, ex101, k93⟩ := hk_le k93
            refine lv_iinc (v := x101) (lv' := [(8, .int x101), (0, .ref a_this), (1, .long x1), (4, .int y63), (5, .int y64)]) hx hb dX8_layWays_264 hl (k := 4) rfl (by rw [ex101]; rfl) (by decide) rfl (fun ls hl => ?_)
            refine lv_goto (tgt := 224) hx hb dX8_layWays_267 (by decide) ?_
            exact hck93 (x101, (vp_updL w95 y94.toNatClampNeg (v49 (((400 : Int32) * y94) + (v83 y94.toNatClampNeg)).toNatClampNeg))) (Option.some.inj k93).symm H locs ls hP hD hS (lv_sub hl [1, 2, 3, 4, 0] rfl)
          intro H locs ls hP hD hS hl
          have hl : lv_has ls 9 [(0, .ref a_this), (1, .long x1), (4, .int y63), (5, .int y64)] := hl
          have hP : va_P D vwCl [(a_this, .inr (4, [.ref a_this_near, .ref a_this_turned, .ref a_this_figures, .ref a_this_text, .int c_this_length, .ref a_this_sectors, .ref a_this_corners, .int c_this_doubles, .ref a_this_likes, .int v46, .int c_this_pieces, .ref a_this_laid, .ref a_this_isMirrored, .ref a_this_places, .ref a_this_placeMany, .ref a_this_now, .ref a_this_firsts, .ref a_this_forms, .ref a_this_isKept, .ref a_this_keptFigures, .ref a_this_keptPieces, .ref a_this_keptLaid, .ref a_this_keptMirrored])), (a_this_laid, .inl (cJ, 4, .inr (.inl c_this_laid))), (a_this_isMirrored, .inl (cZ, 4, .inl c_this_isMirrored)), (a_this_turned, .inl (cI, 512, .inl c_this_turned)), (a_this_likes, .inl (cJ, 400, .inr (.inl v47))), (a_this_placeMany, .inl (cI, 4, .inl v48)), (a_this_places, .inl (cJ, 1600, .inr (.inl v49))), (a_this_firsts, .inl (cJ, 4, .inr (.inl v103))), (a_this_now, .inl (cI, 4, .inl v83))] H := hP
          have hD : va_D A [(a_this, .inr (4, [.ref a_this_near, .ref a_this_turned, .ref a_this_figures, .ref a_this_text, .int c_this_length, .ref a_this_sectors, .ref a_this_corners, .int c_this_doubles, .ref a_this_likes, .int v46, .int c_this_pieces, .ref a_this_laid, .ref a_this_isMirrored, .ref a_this_places, .ref a_this_placeMany, .ref a_this_now, .ref a_this_firsts, .ref a_this_forms, .ref a_this_isKept, .ref a_this_keptFigures, .ref a_this_keptPieces, .ref a_this_keptLaid, .ref a_this_keptMirrored])), (a_this_laid, .inl (cJ, 4, .inr (.inl c_this_laid))), (a_this_isMirrored, .inl (cZ, 4, .inl c_this_isMirrored)), (a_this_turned, .inl (cI, 512, .inl c_this_turned)), (a_this_likes, .inl (cJ, 400, .inr (.inl v47))), (a_this_placeMany, .inl (cI, 4, .inl v48)), (a_this_places, .inl (cJ, 1600, .inr (.inl v49))), (a_this_firsts, .inl (cJ, 4, .inr (.inl v103))), (a_this_now, .inl (cI, 4, .inl v83))] := hD
          show W _ _ _ _ _ _ _ _ _ _ _ _ _ _ _ (F0 m 270 ls [])
          obtain ⟨x106, ex106, g88⟩ := hk_le g88
          refine lv_iinc (v := x106) (lv' := [(4, .int x106), (0, .ref a_this), (1, .long x1), (5, .int y64)]) hx hb dX8_layWays_270 hl (k := 2) rfl (by rw [ex106]; rfl) (by decide) rfl (fun ls hl => ?_)
          refine lv_aload_n hx hb dX8_layWays_273 rfl (lv_at hl 1 rfl) ?_
          refine va_get (D := D) (ci := 4) (v := .ref a_this_now) (C := RX8) (T := TX8) (N := 23) hx hb hts zi_X8_layWays_X8 hown hK.1 hP 0 rfl rfl 15 (by decide) (hts (.fieldLink RX8 45 "HalfAndHalfAgainModel" "now" "[I") (List.mem_of_getElem? (i := 4) rfl)) (fun _ h9 => h9) rfl dX8_layWays_274 ?_
          refine lv_iload hx hb dX8_layWays_277 (lv_at hl 3 rfl) ?_
          refine lv_dup2_11 hx hb dX8_layWays_279 rfl rfl ?_
          obtain ⟨hi107, g88⟩ := hk_ge g88
          refine va_iald hx hb hK.1 hP 8 0 rfl rfl (hk_inb_of hi107) dX8_layWays_280 ?_
          refine lv_iconst (v := (1 : Int32)) hx hb dX8_layWays_281 (by decide) ?_
          refine lv_iadd hx hb dX8_layWays_282 ?_
          obtain ⟨hi108, g88⟩ := hk_ge g88
          refine va_iast hx hb hK.1 hP hD hS 8 0 rfl rfl (hk_inb_of hi108) dX8_layWays_283 (fun H locs hP hD hS => ?_)
          have hP : va_P D vwCl [(a_this, .inr (4, [.ref a_this_near, .ref a_this_turned, .ref a_this_figures, .ref a_this_text, .int c_this_length, .ref a_this_sectors, .ref a_this_corners, .int c_this_doubles, .ref a_this_likes, .int v46, .int c_this_pieces, .ref a_this_laid, .ref a_this_isMirrored, .ref a_this_places, .ref a_this_placeMany, .ref a_this_now, .ref a_this_firsts, .ref a_this_forms, .ref a_this_isKept, .ref a_this_keptFigures, .ref a_this_keptPieces, .ref a_this_keptLaid, .ref a_this_keptMirrored])), (a_this_laid, .inl (cJ, 4, .inr (.inl c_this_laid))), (a_this_isMirrored, .inl (cZ, 4, .inl c_this_isMirrored)), (a_this_turned, .inl (cI, 512, .inl c_this_turned)), (a_this_likes, .inl (cJ, 400, .inr (.inl v47))), (a_this_placeMany, .inl (cI, 4, .inl v48)), (a_this_places, .inl (cJ, 1600, .inr (.inl v49))), (a_this_firsts, .inl (cJ, 4, .inr (.inl v103))), (a_this_now, .inl (cI, 4, .inl (upd v83 y64.toNatClampNeg ((v83 y64.toNatClampNeg) + (1 : Int32)))))] H := hP
          have hD : va_D A [(a_this, .inr (4, [.ref a_this_near, .ref a_this_turned, .ref a_this_figures, .ref a_this_text, .int c_this_length, .ref a_this_sectors, .ref a_this_corners, .int c_this_doubles, .ref a_this_likes, .int v46, .int c_this_pieces, .ref a_this_laid, .ref a_this_isMirrored, .ref a_this_places, .ref a_this_placeMany, .ref a_this_now, .ref a_this_firsts, .ref a_this_forms, .ref a_this_isKept, .ref a_this_keptFigures, .ref a_this_keptPieces, .ref a_this_keptLaid, .ref a_this_keptMirrored])), (a_this_laid, .inl (cJ, 4, .inr (.inl c_this_laid))), (a_this_isMirrored, .inl (cZ, 4, .inl c_this_isMirrored)), (a_this_turned, .inl (cI, 512, .inl c_this_turned)), (a_this_likes, .inl (cJ, 400, .inr (.inl v47))), (a_this_placeMany, .inl (cI, 4, .inl v48)), (a_this_places, .inl (cJ, 1600, .inr (.inl v49))), (a_this_firsts, .inl (cJ, 4, .inr (.inl v103))), (a_this_now, .inl (cI, 4, .inl (upd v83 y64.toNatClampNeg ((v83 y64.toNatClampNeg) + (1 : Int32)))))] := hD
          refine lv_goto (tgt := 298) hx hb dX8_layWays_284 (by decide) ?_
          have g88 := Option.some.inj g88
          simp only [Prod.mk.injEq] at g88
          obtain ⟨rfl, rfl, rfl, rfl⟩ := g88
          exact hjg88 H locs ls hP hD hS (lv_sub hl [1, 2, 0, 3] rfl)
        replace g88 := hk_ip c89 g88
        obtain ⟨x109, ex109, g88⟩ := hk_le g88
        refine lv_iinc (v := x109) (lv' := [(5, .int x109), (0, .ref a_this), (1, .long x1), (4, .int y63)]) hx hb dX8_layWays_188 hl (k := 3) rfl (by rw [ex109]; rfl) (by decide) rfl (fun ls hl => ?_)
        refine lv_iload hx hb dX8_layWays_191 (lv_at hl 0 rfl) ?_
        refine lv_if_lt (tgt := 298) hx hb dX8_layWays_193 (by decide) (fun c110 => ?_) (fun c110 => ?_)
        · replace g88 := hk_ip c110 g88
          have g88 := Option.some.inj g88
          simp only [Prod.mk.injEq] at g88
          obtain ⟨rfl, rfl, rfl, rfl⟩ := g88
          exact hjg88 H locs ls hP hD hS (lv_sub hl [1, 2, 3, 0] rfl)
        replace g88 := hk_in c110 g88
        refine lv_aload_n hx hb dX8_layWays_196 rfl (lv_at hl 1 rfl) ?_
        refine va_get (D := D) (ci := 4) (v := .ref a_this_now) (C := RX8) (T := TX8) (N := 23) hx hb hts zi_X8_layWays_X8 hown hK.1 hP 0 rfl rfl 15 (by decide) (hts (.fieldLink RX8 45 "HalfAndHalfAgainModel" "now" "[I") (List.mem_of_getElem? (i := 4) rfl)) (fun _ h9 => h9) rfl dX8_layWays_197 ?_
        refine lv_iload hx hb dX8_layWays_200 (lv_at hl 0 rfl) ?_
        refine lv_dup2_11 hx hb dX8_layWays_202 rfl rfl ?_
        obtain ⟨hi111, g88⟩ := hk_ge g88
        refine va_iald hx hb hK.1 hP 8 0 rfl rfl (hk_inb_of hi111) dX8_layWays_203 ?_
        refine lv_iconst (v := (1 : Int32)) hx hb dX8_layWays_204 (by decide) ?_
        refine lv_iadd hx hb dX8_layWays_205 ?_
        obtain ⟨hi112, g88⟩ := hk_ge g88
        refine va_iast hx hb hK.1 hP hD hS 8 0 rfl rfl (hk_inb_of hi112) dX8_layWays_206 (fun H locs hP hD hS => ?_)
        have hP : va_P D vwCl [(a_this, .inr (4, [.ref a_this_near, .ref a_this_turned, .ref a_this_figures, .ref a_this_text, .int c_this_length, .ref a_this_sectors, .ref a_this_corners, .int c_this_doubles, .ref a_this_likes, .int v46, .int c_this_pieces, .ref a_this_laid, .ref a_this_isMirrored, .ref a_this_places, .ref a_this_placeMany, .ref a_this_now, .ref a_this_firsts, .ref a_this_forms, .ref a_this_isKept, .ref a_this_keptFigures, .ref a_this_keptPieces, .ref a_this_keptLaid, .ref a_this_keptMirrored])), (a_this_laid, .inl (cJ, 4, .inr (.inl c_this_laid))), (a_this_isMirrored, .inl (cZ, 4, .inl c_this_isMirrored)), (a_this_turned, .inl (cI, 512, .inl c_this_turned)), (a_this_likes, .inl (cJ, 400, .inr (.inl v47))), (a_this_placeMany, .inl (cI, 4, .inl v48)), (a_this_places, .inl (cJ, 1600, .inr (.inl v49))), (a_this_firsts, .inl (cJ, 4, .inr (.inl w65))), (a_this_now, .inl (cI, 4, .inl (upd v83 x109.toNatClampNeg ((v83 x109.toNatClampNeg) + (1 : Int32)))))] H := hP
        have hD : va_D A [(a_this, .inr (4, [.ref a_this_near, .ref a_this_turned, .ref a_this_figures, .ref a_this_text, .int c_this_length, .ref a_this_sectors, .ref a_this_corners, .int c_this_doubles, .ref a_this_likes, .int v46, .int c_this_pieces, .ref a_this_laid, .ref a_this_isMirrored, .ref a_this_places, .ref a_this_placeMany, .ref a_this_now, .ref a_this_firsts, .ref a_this_forms, .ref a_this_isKept, .ref a_this_keptFigures, .ref a_this_keptPieces, .ref a_this_keptLaid, .ref a_this_keptMirrored])), (a_this_laid, .inl (cJ, 4, .inr (.inl c_this_laid))), (a_this_isMirrored, .inl (cZ, 4, .inl c_this_isMirrored)), (a_this_turned, .inl (cI, 512, .inl c_this_turned)), (a_this_likes, .inl (cJ, 400, .inr (.inl v47))), (a_this_placeMany, .inl (cI, 4, .inl v48)), (a_this_places, .inl (cJ, 1600, .inr (.inl v49))), (a_this_firsts, .inl (cJ, 4, .inr (.inl w65))), (a_this_now, .inl (cI, 4, .inl (upd v83 x109.toNatClampNeg ((v83 x109.toNatClampNeg) + (1 : Int32)))))] := hD
        refine lv_goto (tgt := 298) hx hb dX8_layWays_207 (by decide) ?_
        have g88 := Option.some.inj g88
        simp only [Prod.mk.injEq] at g88
        obtain ⟨rfl, rfl, rfl, rfl⟩ := g88
        exact hjg88 H locs ls hP hD hS (lv_sub hl [1, 2, 3, 0] rfl)
      intro H locs ls hP hD hS hl
      have hl : lv_has ls 9 [(0, .ref a_this), (1, .long x1), (4, .int v113), (5, .int v114)] := hl
      have hP : va_P D vwCl [(a_this, .inr (4, [.ref a_this_near, .ref a_this_turned, .ref a_this_figures, .ref a_this_text, .int c_this_length, .ref a_this_sectors, .ref a_this_corners, .int c_this_doubles, .ref a_this_likes, .int v46, .int c_this_pieces, .ref a_this_laid, .ref a_this_isMirrored, .ref a_this_places, .ref a_this_placeMany, .ref a_this_now, .ref a_this_firsts, .ref a_this_forms, .ref a_this_isKept, .ref a_this_keptFigures, .ref a_this_keptPieces, .ref a_this_keptLaid, .ref a_this_keptMirrored])), (a_this_laid, .inl (cJ, 4, .inr (.inl c_this_laid))), (a_this_isMirrored, .inl (cZ, 4, .inl c_this_isMirrored)), (a_this_turned, .inl (cI, 512, .inl c_this_turned)), (a_this_likes, .inl (cJ, 400, .inr (.inl v47))), (a_this_placeMany, .inl (cI, 4, .inl v48)), (a_this_places, .inl (cJ, 1600, .inr (.inl v49))), (a_this_firsts, .inl (cJ, 4, .inr (.inl v115))), (a_this_now, .inl (cI, 4, .inl v116))] H := hP
      have hD : va_D A [(a_this, .inr (4, [.ref a_this_near, .ref a_this_turned, .ref a_this_figures, .ref a_this_text, .int c_this_length, .ref a_this_sectors, .ref a_this_corners, .int c_this_doubles, .ref a_this_likes, .int v46, .int c_this_pieces, .ref a_this_laid, .ref a_this_isMirrored, .ref a_this_places, .ref a_this_placeMany, .ref a_this_now, .ref a_this_firsts, .ref a_this_forms, .ref a_this_isKept, .ref a_this_keptFigures, .ref a_this_keptPieces, .ref a_this_keptLaid, .ref a_this_keptMirrored])), (a_this_laid, .inl (cJ, 4, .inr (.inl c_this_laid))), (a_this_isMirrored, .inl (cZ, 4, .inl c_this_isMirrored)), (a_this_turned, .inl (cI, 512, .inl c_this_turned)), (a_this_likes, .inl (cJ, 400, .inr (.inl v47))), (a_this_placeMany, .inl (cI, 4, .inl v48)), (a_this_places, .inl (cJ, 1600, .inr (.inl v49))), (a_this_firsts, .inl (cJ, 4, .inr (.inl v115))), (a_this_now, .inl (cI, 4, .inl v116))] := hD
      show W _ _ _ _ _ _ _ _ _ _ _ _ _ _ _ (F0 m 298 ls [])
      refine lv_goto (tgt := 95) hx hb dX8_layWays_298 (by decide) ?_
      exact hck62 (v113, v114, v115, v116) (Option.some.inj k62).symm H locs ls hP hD hS (lv_sub hl [0, 1, 2, 3] rfl)
    intro H locs ls hP hD hS hl
    have hl : lv_has ls 9 [(4, .int z118)] := hl
    have hP : va_P D vwCl [(a_this, .inr (4, [.ref a_this_near, .ref a_this_turned, .ref a_this_figures, .ref a_this_text, .int c_this_length, .ref a_this_sectors, .ref a_this_corners, .int c_this_doubles, .ref a_this_likes, .int v46, .int c_this_pieces, .ref a_this_laid, .ref a_this_isMirrored, .ref a_this_places, .ref a_this_placeMany, .ref a_this_now, .ref a_this_firsts, .ref a_this_forms, .ref a_this_isKept, .ref a_this_keptFigures, .ref a_this_keptPieces, .ref a_this_keptLaid, .ref a_this_keptMirrored])), (a_this_laid, .inl (cJ, 4, .inr (.inl c_this_laid))), (a_this_isMirrored, .inl (cZ, 4, .inl c_this_isMirrored)), (a_this_turned, .inl (cI, 512, .inl c_this_turned)), (a_this_likes, .inl (cJ, 400, .inr (.inl v47))), (a_this_placeMany, .inl (cI, 4, .inl v48)), (a_this_places, .inl (cJ, 1600, .inr (.inl v49))), (a_this_firsts, .inl (cJ, 4, .inr (.inl v119))), (a_this_now, .inl (cI, 4, .inl v120))] H := hP
    have hD : va_D A [(a_this, .inr (4, [.ref a_this_near, .ref a_this_turned, .ref a_this_figures, .ref a_this_text, .int c_this_length, .ref a_this_sectors, .ref a_this_corners, .int c_this_doubles, .ref a_this_likes, .int v46, .int c_this_pieces, .ref a_this_laid, .ref a_this_isMirrored, .ref a_this_places, .ref a_this_placeMany, .ref a_this_now, .ref a_this_firsts, .ref a_this_forms, .ref a_this_isKept, .ref a_this_keptFigures, .ref a_this_keptPieces, .ref a_this_keptLaid, .ref a_this_keptMirrored])), (a_this_laid, .inl (cJ, 4, .inr (.inl c_this_laid))), (a_this_isMirrored, .inl (cZ, 4, .inl c_this_isMirrored)), (a_this_turned, .inl (cI, 512, .inl c_this_turned)), (a_this_likes, .inl (cJ, 400, .inr (.inl v47))), (a_this_placeMany, .inl (cI, 4, .inl v48)), (a_this_places, .inl (cJ, 1600, .inr (.inl v49))), (a_this_firsts, .inl (cJ, 4, .inr (.inl v119))), (a_this_now, .inl (cI, 4, .inl v120))] := hD
    show W _ _ _ _ _ _ _ _ _ _ _ _ _ _ _ (F0 m 301 ls [])
    refine lv_iload hx hb dX8_layWays_301 (lv_at hl 0 rfl) ?_
    subst hQ
    have h := Option.some.inj h
    simp only [Prod.mk.injEq] at h
    obtain ⟨rfl, rfl, rfl, rfl, rfl, rfl, rfl⟩ := h
    exact W.iret hx hb hr (fun t ht hW => ⟨⟨_, (), rfl, rfl, by rw [ht]; exact hP, hD⟩, hS.F ht⟩) hS.2.2 dX8_layWays_303
  replace h := hk_in c60 h
  refine lv_lload_n hx hb dX8_layWays_63 rfl (lv_at hl 1 rfl) ?_
  refine lv_lconst (v := (0 : Int64)) hx hb dX8_layWays_64 (by decide) ?_
  refine hk_lcmp_ne (tgt := 80) hx hb dX8_layWays_65 dX8_layWays_66 (by decide) (fun c123 => ?_) (fun c123 => ?_)
  · replace h := hk_in c123 h
    refine lv_iconst (v := (0 : Int32)) hx hb dX8_layWays_80 (by decide) ?_
    subst hQ
    have h := Option.some.inj h
    simp only [Prod.mk.injEq] at h
    obtain ⟨rfl, rfl, rfl, rfl, rfl, rfl, rfl⟩ := h
    exact W.iret hx hb hr (fun t ht hW => ⟨⟨_, (), rfl, rfl, by rw [ht]; exact hP, hD⟩, hS.F ht⟩) hS.2.2 dX8_layWays_81
  replace h := hk_ip c123 h
  refine lv_aload_n hx hb dX8_layWays_69 rfl (lv_at hl 0 rfl) ?_
  refine va_get (D := D) (ci := 4) (v := .int c_this_pieces) (C := RX8) (T := TX8) (N := 23) hx hb hts zi_X8_layWays_X8 hown hK.1 hP 0 rfl rfl 10 (by decide) (hts (.fieldLink RX8 197 "HalfAndHalfAgainModel" "pieces" "I") (List.mem_of_getElem? (i := 1) rfl)) (fun _ h9 => h9) rfl dX8_layWays_70 ?_
  refine lv_if_ne (tgt := 80) hx hb dX8_layWays_73 (by decide) (fun c124 => ?_) (fun c124 => ?_)
  · replace h := hk_in c124 h
    refine lv_iconst (v := (0 : Int32)) hx hb dX8_layWays_80 (by decide) ?_
    subst hQ
    have h := Option.some.inj h
    simp only [Prod.mk.injEq] at h
    obtain ⟨rfl, rfl, rfl, rfl, rfl, rfl, rfl⟩ := h
    exact W.iret hx hb hr (fun t ht hW => ⟨⟨_, (), rfl, rfl, by rw [ht]; exact hP, hD⟩, hS.F ht⟩) hS.2.2 dX8_layWays_81
  replace h := hk_ip c124 h
  refine lv_iconst (v := (1 : Int32)) hx hb dX8_layWays_76 (by decide) ?_
  refine lv_goto (tgt := 81) hx hb dX8_layWays_77 (by decide) ?_
  subst hQ
  have h := Option.some.inj h
  simp only [Prod.mk.injEq] at h
  obtain ⟨rfl, rfl, rfl, rfl, rfl, rfl, rfl⟩ := h
  exact W.iret hx hb hr (fun t ht hW => ⟨⟨_, (), rfl, rfl, by rw [ht]; exact hP, hD⟩, hS.F ht⟩) hS.2.2 dX8_layWays_81
