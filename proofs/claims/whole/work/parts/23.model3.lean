/-! walks printed by wip/whole/gen.py -/
theorem zv_X8_corners : yX8_corners.cls = RX8 ∧ yX8_corners.cls ≠ "java/lang/invoke/MethodHandle" ∧ yX8_corners.cls ≠ "java/lang/invoke/VarHandle" ∧ (parseMethodDescriptor yX8_corners.desc).map (fun d => d.parameters.length) = some 2 := by decide +kernel
def st_X8_corners_39c (u33 : Nat → Int32) (y38 : Int32) (y39 : Int32) : Option ((Int32 × Int32) ⊕ Int32) := if (8 : Int32) ≤ y39 then (some (.inr y38)) else (hk_gd (hk_inb y39 9) (hk_let (y38 + (u33 y39.toNatClampNeg)) fun x42 => hk_let (y39 + (1 : Int32)) fun x43 => some (.inl (x42, x43))))
def st_X8_corners_39 (u33 : Nat → Int32) (t9 : (Int32 × Int32)) : Option ((Int32 × Int32) ⊕ Int32) := st_X8_corners_39c u33 t9.1 t9.2
def f_X8_corners (c_this_doubles : Int32) (c_this_figures : Nat → Int64) (c_this_corners : Nat → Int32) (c_this_sectors : Nat → Int32)  (x1 : Int32) (x2 : Int32) : Option (Int32 × Int32 × (Nat → Int32) × (Nat → Int32)) := hk_b1 (f_X8_isFigure x1) fun r21 => if r21 = 0 then (some ((-1 : Int32), c_this_doubles, c_this_corners, c_this_sectors)) else (hk_b1 (f_X8_in (x2.toInt64) (0 : Int64) (7 : Int64)) fun r26 => if r26 = 0 then (some ((-2 : Int32), c_this_doubles, c_this_corners, c_this_sectors)) else (hk_gd (hk_inb x1 8) (hk_b3 (f_X8_layCorners c_this_doubles c_this_corners c_this_sectors (c_this_figures x1.toNatClampNeg)) fun u32 u33 u34 => hk_b1 (hk_wl (st_X8_corners_39 u33) hkF ((0 : Int32), (1 : Int32))) fun z45 => if x2 = 0 then (some (z45, u32, u33, u34)) else (hk_gd (hk_inb x2 9) (some ((u33 x2.toNatClampNeg), u32, u33, u34))))))
theorem zi_X8_corners_X8 : ∀ w ∈ u_ws RX8 TX8 23, w ∈ wsX8_corners := by decide +kernel
set_option maxHeartbeats 8000000 in
set_option maxRecDepth 100000 in
theorem c_X8_corners (l : Launch) (D : va_G) (cI cJ cZ cO : ClassId) (a_this a_this_near a_this_turned a_this_figures a_this_text a_this_sectors a_this_corners a_this_likes a_this_laid a_this_isMirrored a_this_places a_this_placeMany a_this_now a_this_firsts a_this_forms a_this_isKept a_this_keptFigures a_this_keptPieces a_this_keptLaid a_this_keptMirrored : Nat) (sz : Nat) (c_this_length : Int32) (c_this_doubles : Int32) (c_this_likeMany : Int32) (c_this_pieces : Int32) (c_this_figures : Nat → Int64) (c_this_corners : Nat → Int32) (c_this_sectors : Nat → Int32) (x1 : Int32) (x2 : Int32) (rv : Int32) (u_this_doubles : Int32) (u_this_corners : Nat → Int32) (u_this_sectors : Nat → Int32) (hf : f_X8_corners c_this_doubles c_this_figures c_this_corners c_this_sectors x1 x2 = some (rv, u_this_doubles, u_this_corners, u_this_sectors)) : Met l yX8_corners wsX8_corners ({ frames := 3, cells := 0, slots := 0, locals := 77 }) (va_Pc [.ref a_this, .int x1, .int x2] (hkM D cI cJ cZ cO [(a_this, .inr (4, [.ref a_this_near, .ref a_this_turned, .ref a_this_figures, .ref a_this_text, .int c_this_length, .ref a_this_sectors, .ref a_this_corners, .int c_this_doubles, .ref a_this_likes, .int c_this_likeMany, .int c_this_pieces, .ref a_this_laid, .ref a_this_isMirrored, .ref a_this_places, .ref a_this_placeMany, .ref a_this_now, .ref a_this_firsts, .ref a_this_forms, .ref a_this_isKept, .ref a_this_keptFigures, .ref a_this_keptPieces, .ref a_this_keptLaid, .ref a_this_keptMirrored])), (a_this_figures, .inl (cJ, 8, .inr (.inl c_this_figures))), (a_this_corners, .inl (cI, 9, .inl c_this_corners)), (a_this_sectors, .inl (cZ, 8, .inl c_this_sectors))] sz)) (va_Qi (fun r (_ : Unit) => r = rv) (fun _ t => va_P D vwCl [(a_this, .inr (4, [.ref a_this_near, .ref a_this_turned, .ref a_this_figures, .ref a_this_text, .int c_this_length, .ref a_this_sectors, .ref a_this_corners, .int u_this_doubles, .ref a_this_likes, .int c_this_likeMany, .int c_this_pieces, .ref a_this_laid, .ref a_this_isMirrored, .ref a_this_places, .ref a_this_placeMany, .ref a_this_now, .ref a_this_firsts, .ref a_this_forms, .ref a_this_isKept, .ref a_this_keptFigures, .ref a_this_keptPieces, .ref a_this_keptLaid, .ref a_this_keptMirrored])), (a_this_figures, .inl (cJ, 8, .inr (.inl c_this_figures))), (a_this_corners, .inl (cI, 9, .inl u_this_corners)), (a_this_sectors, .inl (cZ, 8, .inl u_this_sectors))] t.heap ∧ va_D (va_A [(a_this, .inr (4, [.ref a_this_near, .ref a_this_turned, .ref a_this_figures, .ref a_this_text, .int c_this_length, .ref a_this_sectors, .ref a_this_corners, .int c_this_doubles, .ref a_this_likes, .int c_this_likeMany, .int c_this_pieces, .ref a_this_laid, .ref a_this_isMirrored, .ref a_this_places, .ref a_this_placeMany, .ref a_this_now, .ref a_this_firsts, .ref a_this_forms, .ref a_this_isKept, .ref a_this_keptFigures, .ref a_this_keptPieces, .ref a_this_keptLaid, .ref a_this_keptMirrored])), (a_this_figures, .inl (cJ, 8, .inr (.inl c_this_figures))), (a_this_corners, .inl (cI, 9, .inl c_this_corners)), (a_this_sectors, .inl (cZ, 8, .inl c_this_sectors))] sz) [(a_this, .inr (4, [.ref a_this_near, .ref a_this_turned, .ref a_this_figures, .ref a_this_text, .int c_this_length, .ref a_this_sectors, .ref a_this_corners, .int u_this_doubles, .ref a_this_likes, .int c_this_likeMany, .int c_this_pieces, .ref a_this_laid, .ref a_this_isMirrored, .ref a_this_places, .ref a_this_placeMany, .ref a_this_now, .ref a_this_firsts, .ref a_this_forms, .ref a_this_isKept, .ref a_this_keptFigures, .ref a_this_keptPieces, .ref a_this_keptLaid, .ref a_this_keptMirrored])), (a_this_figures, .inl (cJ, 8, .inr (.inl c_this_figures))), (a_this_corners, .inl (cI, 9, .inl u_this_corners)), (a_this_sectors, .inl (cZ, 8, .inl u_this_sectors))]) (va_A [(a_this, .inr (4, [.ref a_this_near, .ref a_this_turned, .ref a_this_figures, .ref a_this_text, .int c_this_length, .ref a_this_sectors, .ref a_this_corners, .int c_this_doubles, .ref a_this_likes, .int c_this_likeMany, .int c_this_pieces, .ref a_this_laid, .ref a_this_isMirrored, .ref a_this_places, .ref a_this_placeMany, .ref a_this_now, .ref a_this_firsts, .ref a_this_forms, .ref a_this_isKept, .ref a_this_keptFigures, .ref a_this_keptPieces, .ref a_this_keptLaid, .ref a_this_keptMirrored])), (a_this_figures, .inl (cJ, 8, .inr (.inl c_this_figures))), (a_this_corners, .inl (cI, 9, .inl c_this_corners)), (a_this_sectors, .inl (cZ, 8, .inl c_this_sectors))] sz)) 0 0 (va_A [(a_this, .inr (4, [.ref a_this_near, .ref a_this_turned, .ref a_this_figures, .ref a_this_text, .int c_this_length, .ref a_this_sectors, .ref a_this_corners, .int c_this_doubles, .ref a_this_likes, .int c_this_likeMany, .int c_this_pieces, .ref a_this_laid, .ref a_this_isMirrored, .ref a_this_places, .ref a_this_placeMany, .ref a_this_now, .ref a_this_firsts, .ref a_this_forms, .ref a_this_isKept, .ref a_this_keptFigures, .ref a_this_keptPieces, .ref a_this_keptLaid, .ref a_this_keptMirrored])), (a_this_figures, .inl (cJ, 8, .inr (.inl c_this_figures))), (a_this_corners, .inl (cI, 9, .inl c_this_corners)), (a_this_sectors, .inl (cZ, 8, .inl c_this_sectors))] sz) := by
  refine Met.ofW (cc := cX8_corners) (maxL := 5) (ret := (some .int)) (by decide) rfl ?_
  intro p e s m args below meth c s₁ B hml hv
  obtain ⟨rfl, hsz, hP, hK, hD0⟩ := hv
  have hx := B.exec
  have hb := B.bytes
  have hr := B.returns
  have hts := atoms_spec (ws := wsX8_corners) B.pre
  have hown : s.vm.findClass RX8 = some m.cls := findClass_of_methodNamed B.named
  have hlocks := B.notSynchronized
  have hN := hK.2
  subst hsz
  have hD := hD0.self (sz := s.heap.size)
  generalize hAe : va_A [(a_this, .inr (4, [.ref a_this_near, .ref a_this_turned, .ref a_this_figures, .ref a_this_text, .int c_this_length, .ref a_this_sectors, .ref a_this_corners, .int c_this_doubles, .ref a_this_likes, .int c_this_likeMany, .int c_this_pieces, .ref a_this_laid, .ref a_this_isMirrored, .ref a_this_places, .ref a_this_placeMany, .ref a_this_now, .ref a_this_firsts, .ref a_this_forms, .ref a_this_isKept, .ref a_this_keptFigures, .ref a_this_keptPieces, .ref a_this_keptLaid, .ref a_this_keptMirrored])), (a_this_figures, .inl (cJ, 8, .inr (.inl c_this_figures))), (a_this_corners, .inl (cI, 9, .inl c_this_corners)), (a_this_sectors, .inl (cZ, 8, .inl c_this_sectors))] s.heap.size = A at hD ⊢
  have hA : ∀ q : Nat, s.heap.size ≤ q → A q := fun q h => by rw [← hAe]; exact Or.inr h
  have hS : va_S A s.heap s.heap [] := va_S.rf
  have hl := lv_entry ([.ref a_this, .int x1, .int x2]) (n := 5) (Nat.le_of_ble_eq_true rfl)
  rw [lg_entry_eq]
  generalize (lg_sl ([.ref a_this, .int x1, .int x2]) ++ List.replicate (5 - (lg_sl ([.ref a_this, .int x1, .int x2])).length) Slot.unset).toArray = ls at hl ⊢
  have hl : lv_has ls 5 [(0, .ref a_this), (1, .int x1), (2, .int x2)] := hl
  refine hk_Q (fun Q hQ => ?_)
  have h := hf
  unfold f_X8_corners at h
  refine lv_iload_n hx hb dX8_corners_0 rfl (lv_at hl 1 rfl) ?_
  obtain ⟨r21, hr22, h⟩ := hk_x1 h
  refine vp_callSi (W.runS (As := [.int x1]) (rest := []) ⟨hx, hb, hml, hown, hts⟩ (c_X8_isFigure l x1 _ hr22) (va_cwS 1 hts gX8_corners_X8_isFigure rfl rfl rfl zs_X8_isFigure ⟨Nat.le_of_ble_eq_true rfl, Nat.le_of_ble_eq_true rfl⟩) ⟨fun _ _ _ _ q => q, fun _ _ _ => ⟨rfl, trivial⟩⟩ rfl rfl hl.1 rfl (lv_room (Nat.le_of_ble_eq_true rfl)) dX8_corners_1 ⟨Nat.zero_le _, Nat.zero_le _⟩) (fun p24 e23 => ?_)
  rw [e23]
  refine lv_if_ne (tgt := 9) hx hb dX8_corners_4 (by decide) (fun c25 => ?_) (fun c25 => ?_)
  · replace h := hk_in c25 h
    refine lv_iload_n hx hb dX8_corners_9 rfl (lv_at hl 2 rfl) ?_
    refine lv_i2l (v := (x2.toInt64)) hx hb dX8_corners_10 rfl ?_
    refine lv_lconst (v := (0 : Int64)) hx hb dX8_corners_11 (by decide) ?_
    refine lv_ldc2 (v := (7 : Int64)) hx hb hown (hts (.constantLong RX8 81 (7)) (List.mem_of_getElem? (i := 1) rfl)) dX8_corners_12 ?_
    obtain ⟨r26, hr27, h⟩ := hk_x1 h
    refine vp_callSi (W.runS (As := [.long (x2.toInt64), .long (0 : Int64), .long (7 : Int64)]) (rest := []) ⟨hx, hb, hml, hown, hts⟩ (c_X8_in l (x2.toInt64) (0 : Int64) (7 : Int64) _ hr27) (va_cwS 3 hts gX8_corners_X8_in rfl rfl rfl zs_X8_in ⟨Nat.le_of_ble_eq_true rfl, Nat.le_of_ble_eq_true rfl⟩) ⟨fun _ _ _ _ q => q, fun _ _ _ => ⟨rfl, trivial⟩⟩ rfl rfl hl.1 rfl (lv_room (Nat.le_of_ble_eq_true rfl)) dX8_corners_15 ⟨Nat.zero_le _, Nat.zero_le _⟩) (fun p29 e28 => ?_)
    rw [e28]
    refine lv_if_ne (tgt := 24) hx hb dX8_corners_18 (by decide) (fun c30 => ?_) (fun c30 => ?_)
    · replace h := hk_in c30 h
      refine lv_aload_n hx hb dX8_corners_24 rfl (lv_at hl 0 rfl) ?_
      refine lv_aload_n hx hb dX8_corners_25 rfl (lv_at hl 0 rfl) ?_
      refine va_get (D := D) (ci := 4) (v := .ref a_this_figures) (C := RX8) (T := TX8) (N := 23) hx hb hts zi_X8_corners_X8 hown hK.1 hP 0 rfl rfl 2 (by decide) (hts (.fieldLink RX8 17 "HalfAndHalfAgainModel" "figures" "[J") (List.mem_of_getElem? (i := 2) rfl)) (fun _ h9 => h9) rfl dX8_corners_26 ?_
      refine lv_iload_n hx hb dX8_corners_29 rfl (lv_at hl 1 rfl) ?_
      obtain ⟨hi31, h⟩ := hk_ge h
      refine va_lald hx hb hK.1 hP 1 1 rfl rfl (hk_inb_of hi31) dX8_corners_30 ?_
      obtain ⟨u32, u33, u34, hr35, h⟩ := hk_x3 h
      have hPc := hP.sub (ws' := [(a_this, .inr (4, [.ref a_this_near, .ref a_this_turned, .ref a_this_figures, .ref a_this_text, .int c_this_length, .ref a_this_sectors, .ref a_this_corners, .int c_this_doubles, .ref a_this_likes, .int c_this_likeMany, .int c_this_pieces, .ref a_this_laid, .ref a_this_isMirrored, .ref a_this_places, .ref a_this_placeMany, .ref a_this_now, .ref a_this_firsts, .ref a_this_forms, .ref a_this_isKept, .ref a_this_keptFigures, .ref a_this_keptPieces, .ref a_this_keptLaid, .ref a_this_keptMirrored])), (a_this_corners, .inl (cI, 9, .inl c_this_corners)), (a_this_sectors, .inl (cZ, 8, .inl c_this_sectors))]) [0, 2, 3] rfl
      have hDc := hD.sub (ws' := [(a_this, .inr (4, [.ref a_this_near, .ref a_this_turned, .ref a_this_figures, .ref a_this_text, .int c_this_length, .ref a_this_sectors, .ref a_this_corners, .int c_this_doubles, .ref a_this_likes, .int c_this_likeMany, .int c_this_pieces, .ref a_this_laid, .ref a_this_isMirrored, .ref a_this_places, .ref a_this_placeMany, .ref a_this_now, .ref a_this_firsts, .ref a_this_forms, .ref a_this_isKept, .ref a_this_keptFigures, .ref a_this_keptPieces, .ref a_this_keptLaid, .ref a_this_keptMirrored])), (a_this_corners, .inl (cI, 9, .inl c_this_corners)), (a_this_sectors, .inl (cZ, 8, .inl c_this_sectors))]) [0, 2, 3] (by decide) rfl
      have hFc := va_free (wc := [(a_this, .inr (4, [.ref a_this_near, .ref a_this_turned, .ref a_this_figures, .ref a_this_text, .int c_this_length, .ref a_this_sectors, .ref a_this_corners, .int c_this_doubles, .ref a_this_likes, .int c_this_likeMany, .int c_this_pieces, .ref a_this_laid, .ref a_this_isMirrored, .ref a_this_places, .ref a_this_placeMany, .ref a_this_now, .ref a_this_firsts, .ref a_this_forms, .ref a_this_isKept, .ref a_this_keptFigures, .ref a_this_keptPieces, .ref a_this_keptLaid, .ref a_this_keptMirrored])), (a_this_corners, .inl (cI, 9, .inl c_this_corners)), (a_this_sectors, .inl (cZ, 8, .inl c_this_sectors))]) hD hS hA [0, 2, 3] rfl
      refine va_callv (va_runV (As := [.long (c_this_figures x1.toNatClampNeg)]) (rest := []) ⟨hx, hb, hml, hown, hts⟩ (c_X8_layCorners l D cI cJ cZ cO a_this a_this_near a_this_turned a_this_figures a_this_text a_this_sectors a_this_corners a_this_likes a_this_laid a_this_isMirrored a_this_places a_this_placeMany a_this_now a_this_firsts a_this_forms a_this_isKept a_this_keptFigures a_this_keptPieces a_this_keptLaid a_this_keptMirrored s.heap.size c_this_length c_this_doubles c_this_likeMany c_this_pieces c_this_corners c_this_sectors (c_this_figures x1.toNatClampNeg) _ _ _ hr35) (cwV 1 hts gX8_corners_X8_layCorners rfl rfl rfl zv_X8_layCorners ⟨Nat.le_of_ble_eq_true rfl, Nat.le_of_ble_eq_true rfl⟩) (hk_preMV 4 rfl hPc hDc hK rfl) rfl rfl hl.1 rfl (lv_room (Nat.le_of_ble_eq_true rfl)) dX8_corners_31 ⟨Nat.zero_le _, Nat.zero_le _⟩) hS (fun q _ h9 => hFc q h9) hFc (fun u9 t9 H1 locs ht hvm hw hB hz1 hk1 hS => ?_)
      obtain ⟨hP1, hD1⟩ := hB
      rw [ht] at hP1
      obtain ⟨hP, hD⟩ := va_join (wr := [(a_this_figures, .inl (cJ, 8, .inr (.inl c_this_figures)))]) (w1 := [(a_this, .inr (4, [.ref a_this_near, .ref a_this_turned, .ref a_this_figures, .ref a_this_text, .int c_this_length, .ref a_this_sectors, .ref a_this_corners, .int u32, .ref a_this_likes, .int c_this_likeMany, .int c_this_pieces, .ref a_this_laid, .ref a_this_isMirrored, .ref a_this_places, .ref a_this_placeMany, .ref a_this_now, .ref a_this_firsts, .ref a_this_forms, .ref a_this_isKept, .ref a_this_keptFigures, .ref a_this_keptPieces, .ref a_this_keptLaid, .ref a_this_keptMirrored])), (a_this_corners, .inl (cI, 9, .inl u33)), (a_this_sectors, .inl (cZ, 8, .inl u34))]) hP hD [0, 2, 3] [1] rfl rfl (by decide) (by decide) hk1 hFc hP1 hD1
      generalize H1 = H at hP hS ⊢
      have hP := hP.sub (ws' := [(a_this, .inr (4, [.ref a_this_near, .ref a_this_turned, .ref a_this_figures, .ref a_this_text, .int c_this_length, .ref a_this_sectors, .ref a_this_corners, .int u32, .ref a_this_likes, .int c_this_likeMany, .int c_this_pieces, .ref a_this_laid, .ref a_this_isMirrored, .ref a_this_places, .ref a_this_placeMany, .ref a_this_now, .ref a_this_firsts, .ref a_this_forms, .ref a_this_isKept, .ref a_this_keptFigures, .ref a_this_keptPieces, .ref a_this_keptLaid, .ref a_this_keptMirrored])), (a_this_figures, .inl (cJ, 8, .inr (.inl c_this_figures))), (a_this_corners, .inl (cI, 9, .inl u33)), (a_this_sectors, .inl (cZ, 8, .inl u34))]) [1, 0, 2, 3] rfl
      have hD := hD.sub (ws' := [(a_this, .inr (4, [.ref a_this_near, .ref a_this_turned, .ref a_this_figures, .ref a_this_text, .int c_this_length, .ref a_this_sectors, .ref a_this_corners, .int u32, .ref a_this_likes, .int c_this_likeMany, .int c_this_pieces, .ref a_this_laid, .ref a_this_isMirrored, .ref a_this_places, .ref a_this_placeMany, .ref a_this_now, .ref a_this_firsts, .ref a_this_forms, .ref a_this_isKept, .ref a_this_keptFigures, .ref a_this_keptPieces, .ref a_this_keptLaid, .ref a_this_keptMirrored])), (a_this_figures, .inl (cJ, 8, .inr (.inl c_this_figures))), (a_this_corners, .inl (cI, 9, .inl u33)), (a_this_sectors, .inl (cZ, 8, .inl u34))]) [1, 0, 2, 3] (by decide) rfl
      refine lv_iconst (v := (0 : Int32)) hx hb dX8_corners_34 (by decide) ?_
      refine lv_istore_n (lv' := [(3, .int (0 : Int32)), (0, .ref a_this), (1, .int x1), (2, .int x2)]) hx hb dX8_corners_35 rfl hl (by decide) rfl (fun ls hl => ?_)
      refine lv_iconst (v := (1 : Int32)) hx hb dX8_corners_36 (by decide) ?_
      refine lv_istore (lv' := [(4, .int (1 : Int32)), (3, .int (0 : Int32)), (0, .ref a_this), (1, .int x1), (2, .int x2)]) hx hb dX8_corners_37 hl (by decide) rfl (fun ls hl => ?_)
      obtain ⟨z45, hr44, h⟩ := hk_x1 h
      refine hk_loopR (f := st_X8_corners_39 u33) (hd := 39) (nL := 5) (lv := fun t9 => [(0, .ref a_this), (2, .int x2), (3, .int t9.1), (4, .int t9.2)]) (xs := fun t9 => (62, [(0, .ref a_this), (2, .int x2), (3, .int t9)], [])) ?_ hr44 ?_ (lv_sub hl [2, 4, 1, 0] rfl)
      · intro t46 q47 k37 hck37 hqk37 ls hl
        obtain ⟨y38, y39⟩ := t46
        have k37 : st_X8_corners_39c u33 y38 y39 = some q47 := k37
        unfold st_X8_corners_39c at k37
        have hl : lv_has ls 5 [(0, .ref a_this), (2, .int x2), (3, .int y38), (4, .int y39)] := hl
        refine lv_iload hx hb dX8_corners_39 (lv_at hl 3 rfl) ?_
        refine lv_bipush (v := (8 : Int32)) hx hb dX8_corners_41 (by decide) ?_
        refine lv_icmp_ge (tgt := 62) hx hb dX8_corners_43 (by decide) (fun c40 => ?_) (fun c40 => ?_)
        · replace k37 := hk_ip c40 k37
          exact hqk37 y38 (Option.some.inj k37).symm ls (lv_sub hl [0, 1, 2] rfl)
        replace k37 := hk_in c40 k37
        refine lv_iload_n hx hb dX8_corners_46 rfl (lv_at hl 2 rfl) ?_
        refine lv_aload_n hx hb dX8_corners_47 rfl (lv_at hl 0 rfl) ?_
        refine va_get (D := D) (ci := 4) (v := .ref a_this_corners) (C := RX8) (T := TX8) (N := 23) hx hb hts zi_X8_corners_X8 hown hK.1 hP 0 rfl rfl 6 (by decide) (hts (.fieldLink RX8 27 "HalfAndHalfAgainModel" "corners" "[I") (List.mem_of_getElem? (i := 3) rfl)) (fun _ h9 => h9) rfl dX8_corners_48 ?_
        refine lv_iload hx hb dX8_corners_51 (lv_at hl 3 rfl) ?_
        obtain ⟨hi41, k37⟩ := hk_ge k37
        refine va_iald hx hb hK.1 hP 2 0 rfl rfl (hk_inb_of hi41) dX8_corners_53 ?_
        refine lv_iadd hx hb dX8_corners_54 ?_
        obtain ⟨x42, ex42, k37⟩ := hk_le k37
        refine hk_ti ex42 ?_
        refine lv_istore_n (lv' := [(3, .int x42), (0, .ref a_this), (2, .int x2), (4, .int y39)]) hx hb dX8_corners_55 rfl hl (by decide) rfl (fun ls hl => ?_)
        obtain ⟨x43, ex43, k37⟩ := hk_le k37
        refine lv_iinc (v := x43) (lv' := [(4, .int x43), (3, .int x42), (0, .ref a_this), (2, .int x2)]) hx hb dX8_corners_56 hl (k := 3) rfl (by rw [ex43]; rfl) (by decide) rfl (fun ls hl => ?_)
        refine lv_goto (tgt := 39) hx hb dX8_corners_59 (by decide) ?_
        exact hck37 (x42, x43) (Option.some.inj k37).symm ls (lv_sub hl [2, 3, 1, 0] rfl)
      intro ls hl
      have hl : lv_has ls 5 [(0, .ref a_this), (2, .int x2), (3, .int z45)] := hl
      show W _ _ _ _ _ _ _ _ _ _ _ _ _ _ _ (F0 m 62 ls [])
      refine lv_iload_n hx hb dX8_corners_62 rfl (lv_at hl 1 rfl) ?_
      refine lv_if_ne (tgt := 70) hx hb dX8_corners_63 (by decide) (fun c48 => ?_) (fun c48 => ?_)
      · replace h := hk_in c48 h
        refine lv_aload_n hx hb dX8_corners_70 rfl (lv_at hl 0 rfl) ?_
        refine va_get (D := D) (ci := 4) (v := .ref a_this_corners) (C := RX8) (T := TX8) (N := 23) hx hb hts zi_X8_corners_X8 hown hK.1 hP 0 rfl rfl 6 (by decide) (hts (.fieldLink RX8 27 "HalfAndHalfAgainModel" "corners" "[I") (List.mem_of_getElem? (i := 3) rfl)) (fun _ h9 => h9) rfl dX8_corners_71 ?_
        refine lv_iload_n hx hb dX8_corners_74 rfl (lv_at hl 1 rfl) ?_
        obtain ⟨hi49, h⟩ := hk_ge h
        refine va_iald hx hb hK.1 hP 2 0 rfl rfl (hk_inb_of hi49) dX8_corners_75 ?_
        subst hQ
        have h := Option.some.inj h
        simp only [Prod.mk.injEq] at h
        obtain ⟨rfl, rfl, rfl, rfl⟩ := h
        exact W.iret hx hb hr (fun t ht hW => ⟨⟨_, (), rfl, rfl, by rw [ht]; exact hP, hD⟩, hS.F ht⟩) hS.2.2 dX8_corners_76
      replace h := hk_ip c48 h
      refine lv_iload_n hx hb dX8_corners_66 rfl (lv_at hl 2 rfl) ?_
      refine lv_goto (tgt := 76) hx hb dX8_corners_67 (by decide) ?_
      subst hQ
      have h := Option.some.inj h
      simp only [Prod.mk.injEq] at h
      obtain ⟨rfl, rfl, rfl, rfl⟩ := h
      exact W.iret hx hb hr (fun t ht hW => ⟨⟨_, (), rfl, rfl, by rw [ht]; exact hP, hD⟩, hS.F ht⟩) hS.2.2 dX8_corners_76
    replace h := hk_ip c30 h
    refine lv_bipush (v := (-2 : Int32)) hx hb dX8_corners_21 (by decide) ?_
    subst hQ
    have h := Option.some.inj h
    simp only [Prod.mk.injEq] at h
    obtain ⟨rfl, rfl, rfl, rfl⟩ := h
    exact W.iret hx hb hr (fun t ht hW => ⟨⟨_, (), rfl, rfl, by rw [ht]; exact hP, hD⟩, hS.F ht⟩) hS.2.2 dX8_corners_23
  replace h := hk_ip c25 h
  refine lv_iconst (v := (-1 : Int32)) hx hb dX8_corners_7 (by decide) ?_
  subst hQ
  have h := Option.some.inj h
  simp only [Prod.mk.injEq] at h
  obtain ⟨rfl, rfl, rfl, rfl⟩ := h
  exact W.iret hx hb hr (fun t ht hW => ⟨⟨_, (), rfl, rfl, by rw [ht]; exact hP, hD⟩, hS.F ht⟩) hS.2.2 dX8_corners_8
theorem zv_X8_convex : yX8_convex.cls = RX8 ∧ yX8_convex.cls ≠ "java/lang/invoke/MethodHandle" ∧ yX8_convex.cls ≠ "java/lang/invoke/VarHandle" ∧ (parseMethodDescriptor yX8_convex.desc).map (fun d => d.parameters.length) = some 1 := by decide +kernel
def f_X8_convex (c_this_doubles : Int32) (c_this_figures : Nat → Int64) (c_this_corners : Nat → Int32) (c_this_sectors : Nat → Int32) (c_this_near : Nat → Int64)  (x1 : Int32) : Option (Int32 × Int32 × (Nat → Int32) × (Nat → Int32)) := hk_b1 (f_X8_isFigure x1) fun r21 => if r21 = 0 then (some ((-1 : Int32), c_this_doubles, c_this_corners, c_this_sectors)) else (hk_gd (hk_inb x1 8) (hk_b3 (f_X8_layCorners c_this_doubles c_this_corners c_this_sectors (c_this_figures x1.toNatClampNeg)) fun u27 u28 u29 => hk_gd (hk_inb x1 8) (hk_b1 (if (c_this_figures x1.toNatClampNeg) = (0 : Int64) then (some (0 : Int32)) else (hk_gd (hk_inb x1 8) (hk_b1 (f_X8_partsOf c_this_near (c_this_figures x1.toNatClampNeg)) fun r36 => if r36 = (1 : Int32) then (hk_gd (hk_inb x1 8) (hk_b1 (f_X8_holesOf c_this_near (c_this_figures x1.toNatClampNeg)) fun r42 => if r42 = 0 then (if u27 = 0 then (hk_gd (hk_inb (5 : Int32) 9) (hk_gd (hk_inb (6 : Int32) 9) (hk_gd (hk_inb (7 : Int32) 9) (if (((u28 (5 : Int32).toNatClampNeg) + (u28 (6 : Int32).toNatClampNeg)) + (u28 (7 : Int32).toNatClampNeg)) = 0 then (some (1 : Int32)) else (some (0 : Int32)))))) else (some (0 : Int32))) else (some (0 : Int32)))) else (some (0 : Int32))))) fun v52 => if v52 = 0 then (some ((0 : Int32), u27, u28, u29)) else (some ((1 : Int32), u27, u28, u29)))))
theorem zi_X8_convex_X8 : ∀ w ∈ u_ws RX8 TX8 23, w ∈ wsX8_convex := by decide +kernel
set_option maxHeartbeats 8000000 in
set_option maxRecDepth 100000 in
theorem c_X8_convex (l : Launch) (D : va_G) (cI cJ cZ cO : ClassId) (a_this a_this_near a_this_turned a_this_figures a_this_text a_this_sectors a_this_corners a_this_likes a_this_laid a_this_isMirrored a_this_places a_this_placeMany a_this_now a_this_firsts a_this_forms a_this_isKept a_this_keptFigures a_this_keptPieces a_this_keptLaid a_this_keptMirrored : Nat) (sz : Nat) (c_this_length : Int32) (c_this_doubles : Int32) (c_this_likeMany : Int32) (c_this_pieces : Int32) (c_this_figures : Nat → Int64) (c_this_corners : Nat → Int32) (c_this_sectors : Nat → Int32) (c_this_near : Nat → Int64) (x1 : Int32) (rv : Int32) (u_this_doubles : Int32) (u_this_corners : Nat → Int32) (u_this_sectors : Nat → Int32) (hf : f_X8_convex c_this_doubles c_this_figures c_this_corners c_this_sectors c_this_near x1 = some (rv, u_this_doubles, u_this_corners, u_this_sectors)) : Met l yX8_convex wsX8_convex ({ frames := 4, cells := 0, slots := 0, locals := 107 }) (va_Pc [.ref a_this, .int x1] (hkM D cI cJ cZ cO [(a_this, .inr (4, [.ref a_this_near, .ref a_this_turned, .ref a_this_figures, .ref a_this_text, .int c_this_length, .ref a_this_sectors, .ref a_this_corners, .int c_this_doubles, .ref a_this_likes, .int c_this_likeMany, .int c_this_pieces, .ref a_this_laid, .ref a_this_isMirrored, .ref a_this_places, .ref a_this_placeMany, .ref a_this_now, .ref a_this_firsts, .ref a_this_forms, .ref a_this_isKept, .ref a_this_keptFigures, .ref a_this_keptPieces, .ref a_this_keptLaid, .ref a_this_keptMirrored])), (a_this_figures, .inl (cJ, 8, .inr (.inl c_this_figures))), (a_this_corners, .inl (cI, 9, .inl c_this_corners)), (a_this_sectors, .inl (cZ, 8, .inl c_this_sectors)), (a_this_near, .inl (cJ, 64, .inr (.inl c_this_near)))] sz)) (va_Qi (fun r (_ : Unit) => r = rv) (fun _ t => va_P D vwCl [(a_this, .inr (4, [.ref a_this_near, .ref a_this_turned, .ref a_this_figures, .ref a_this_text, .int c_this_length, .ref a_this_sectors, .ref a_this_corners, .int u_this_doubles, .ref a_this_likes, .int c_this_likeMany, .int c_this_pieces, .ref a_this_laid, .ref a_this_isMirrored, .ref a_this_places, .ref a_this_placeMany, .ref a_this_now, .ref a_this_firsts, .ref a_this_forms, .ref a_this_isKept, .ref a_this_keptFigures, .ref a_this_keptPieces, .ref a_this_keptLaid, .ref a_this_keptMirrored])), (a_this_figures, .inl (cJ, 8, .inr (.inl c_this_figures))), (a_this_corners, .inl (cI, 9, .inl u_this_corners)), (a_this_sectors, .inl (cZ, 8, .inl u_this_sectors)), (a_this_near, .inl (cJ, 64, .inr (.inl c_this_near)))] t.heap ∧ va_D (va_A [(a_this, .inr (4, [.ref a_this_near, .ref a_this_turned, .ref a_this_figures, .ref a_this_text, .int c_this_length, .ref a_this_sectors, .ref a_this_corners, .int c_this_doubles, .ref a_this_likes, .int c_this_likeMany, .int c_this_pieces, .ref a_this_laid, .ref a_this_isMirrored, .ref a_this_places, .ref a_this_placeMany, .ref a_this_now, .ref a_this_firsts, .ref a_this_forms, .ref a_this_isKept, .ref a_this_keptFigures, .ref a_this_keptPieces, .ref a_this_keptLaid, .ref a_this_keptMirrored])), (a_this_figures, .inl (cJ, 8, .inr (.inl c_this_figures))), (a_this_corners, .inl (cI, 9, .inl c_this_corners)), (a_this_sectors, .inl (cZ, 8, .inl c_this_sectors)), (a_this_near, .inl (cJ, 64, .inr (.inl c_this_near)))] sz) [(a_this, .inr (4, [.ref a_this_near, .ref a_this_turned, .ref a_this_figures, .ref a_this_text, .int c_this_length, .ref a_this_sectors, .ref a_this_corners, .int u_this_doubles, .ref a_this_likes, .int c_this_likeMany, .int c_this_pieces, .ref a_this_laid, .ref a_this_isMirrored, .ref a_this_places, .ref a_this_placeMany, .ref a_this_now, .ref a_this_firsts, .ref a_this_forms, .ref a_this_isKept, .ref a_this_keptFigures, .ref a_this_keptPieces, .ref a_this_keptLaid, .ref a_this_keptMirrored])), (a_this_figures, .inl (cJ, 8, .inr (.inl c_this_figures))), (a_this_corners, .inl (cI, 9, .inl u_this_corners)), (a_this_sectors, .inl (cZ, 8, .inl u_this_sectors)), (a_this_near, .inl (cJ, 64, .inr (.inl c_this_near)))]) (va_A [(a_this, .inr (4, [.ref a_this_near, .ref a_this_turned, .ref a_this_figures, .ref a_this_text, .int c_this_length, .ref a_this_sectors, .ref a_this_corners, .int c_this_doubles, .ref a_this_likes, .int c_this_likeMany, .int c_this_pieces, .ref a_this_laid, .ref a_this_isMirrored, .ref a_this_places, .ref a_this_placeMany, .ref a_this_now, .ref a_this_firsts, .ref a_this_forms, .ref a_this_isKept, .ref a_this_keptFigures, .ref a_this_keptPieces, .ref a_this_keptLaid, .ref a_this_keptMirrored])), (a_this_figures, .inl (cJ, 8, .inr (.inl c_this_figures))), (a_this_corners, .inl (cI, 9, .inl c_this_corners)), (a_this_sectors, .inl (cZ, 8, .inl c_this_sectors)), (a_this_near, .inl (cJ, 64, .inr (.inl c_this_near)))] sz)) 0 0 (va_A [(a_this, .inr (4, [.ref a_this_near, .ref a_this_turned, .ref a_this_figures, .ref a_this_text, .int c_this_length, .ref a_this_sectors, .ref a_this_corners, .int c_this_doubles, .ref a_this_likes, .int c_this_likeMany, .int c_this_pieces, .ref a_this_laid, .ref a_this_isMirrored, .ref a_this_places, .ref a_this_placeMany, .ref a_this_now, .ref a_this_firsts, .ref a_this_forms, .ref a_this_isKept, .ref a_this_keptFigures, .ref a_this_keptPieces, .ref a_this_keptLaid, .ref a_this_keptMirrored])), (a_this_figures, .inl (cJ, 8, .inr (.inl c_this_figures))), (a_this_corners, .inl (cI, 9, .inl c_this_corners)), (a_this_sectors, .inl (cZ, 8, .inl c_this_sectors)), (a_this_near, .inl (cJ, 64, .inr (.inl c_this_near)))] sz) := by
  refine Met.ofW (cc := cX8_convex) (maxL := 3) (ret := (some .int)) (by decide) rfl ?_
  intro p e s m args below meth c s₁ B hml hv
  obtain ⟨rfl, hsz, hP, hK, hD0⟩ := hv
  have hx := B.exec
  have hb := B.bytes
  have hr := B.returns
  have hts := atoms_spec (ws := wsX8_convex) B.pre
  have hown : s.vm.findClass RX8 = some m.cls := findClass_of_methodNamed B.named
  have hlocks := B.notSynchronized
  have hN := hK.2
  subst hsz
  have hD := hD0.self (sz := s.heap.size)
  generalize hAe : va_A [(a_this, .inr (4, [.ref a_this_near, .ref a_this_turned, .ref a_this_figures, .ref a_this_text, .int c_this_length, .ref a_this_sectors, .ref a_this_corners, .int c_this_doubles, .ref a_this_likes, .int c_this_likeMany, .int c_this_pieces, .ref a_this_laid, .ref a_this_isMirrored, .ref a_this_places, .ref a_this_placeMany, .ref a_this_now, .ref a_this_firsts, .ref a_this_forms, .ref a_this_isKept, .ref a_this_keptFigures, .ref a_this_keptPieces, .ref a_this_keptLaid, .ref a_this_keptMirrored])), (a_this_figures, .inl (cJ, 8, .inr (.inl c_this_figures))), (a_this_corners, .inl (cI, 9, .inl c_this_corners)), (a_this_sectors, .inl (cZ, 8, .inl c_this_sectors)), (a_this_near, .inl (cJ, 64, .inr (.inl c_this_near)))] s.heap.size = A at hD ⊢
  have hA : ∀ q : Nat, s.heap.size ≤ q → A q := fun q h => by rw [← hAe]; exact Or.inr h
  have hS : va_S A s.heap s.heap [] := va_S.rf
  have hl := lv_entry ([.ref a_this, .int x1]) (n := 3) (Nat.le_of_ble_eq_true rfl)
  rw [lg_entry_eq]
  generalize (lg_sl ([.ref a_this, .int x1]) ++ List.replicate (3 - (lg_sl ([.ref a_this, .int x1])).length) Slot.unset).toArray = ls at hl ⊢
  have hl : lv_has ls 3 [(0, .ref a_this), (1, .int x1)] := hl
  refine hk_Q (fun Q hQ => ?_)
  have h := hf
  unfold f_X8_convex at h
  refine lv_iload_n hx hb dX8_convex_0 rfl (lv_at hl 1 rfl) ?_
  obtain ⟨r21, hr22, h⟩ := hk_x1 h
  refine vp_callSi (W.runS (As := [.int x1]) (rest := []) ⟨hx, hb, hml, hown, hts⟩ (c_X8_isFigure l x1 _ hr22) (va_cwS 1 hts gX8_convex_X8_isFigure rfl rfl rfl zs_X8_isFigure ⟨Nat.le_of_ble_eq_true rfl, Nat.le_of_ble_eq_true rfl⟩) ⟨fun _ _ _ _ q => q, fun _ _ _ => ⟨rfl, trivial⟩⟩ rfl rfl hl.1 rfl (lv_room (Nat.le_of_ble_eq_true rfl)) dX8_convex_1 ⟨Nat.zero_le _, Nat.zero_le _⟩) (fun p24 e23 => ?_)
  rw [e23]
  refine lv_if_ne (tgt := 9) hx hb dX8_convex_4 (by decide) (fun c25 => ?_) (fun c25 => ?_)
  · replace h := hk_in c25 h
    refine lv_aload_n hx hb dX8_convex_9 rfl (lv_at hl 0 rfl) ?_
    refine lv_aload_n hx hb dX8_convex_10 rfl (lv_at hl 0 rfl) ?_
    refine va_get (D := D) (ci := 4) (v := .ref a_this_figures) (C := RX8) (T := TX8) (N := 23) hx hb hts zi_X8_convex_X8 hown hK.1 hP 0 rfl rfl 2 (by decide) (hts (.fieldLink RX8 17 "HalfAndHalfAgainModel" "figures" "[J") (List.mem_of_getElem? (i := 1) rfl)) (fun _ h9 => h9) rfl dX8_convex_11 ?_
    refine lv_iload_n hx hb dX8_convex_14 rfl (lv_at hl 1 rfl) ?_
    obtain ⟨hi26, h⟩ := hk_ge h
    refine va_lald hx hb hK.1 hP 1 1 rfl rfl (hk_inb_of hi26) dX8_convex_15 ?_
    obtain ⟨u27, u28, u29, hr30, h⟩ := hk_x3 h
    have hPc := hP.sub (ws' := [(a_this, .inr (4, [.ref a_this_near, .ref a_this_turned, .ref a_this_figures, .ref a_this_text, .int c_this_length, .ref a_this_sectors, .ref a_this_corners, .int c_this_doubles, .ref a_this_likes, .int c_this_likeMany, .int c_this_pieces, .ref a_this_laid, .ref a_this_isMirrored, .ref a_this_places, .ref a_this_placeMany, .ref a_this_now, .ref a_this_firsts, .ref a_this_forms, .ref a_this_isKept, .ref a_this_keptFigures, .ref a_this_keptPieces, .ref a_this_keptLaid, .ref a_this_keptMirrored])), (a_this_corners, .inl (cI, 9, .inl c_this_corners)), (a_this_sectors, .inl (cZ, 8, .inl c_this_sectors))]) [0, 2, 3] rfl
    have hDc := hD.sub (ws' := [(a_this, .inr (4, [.ref a_this_near, .ref a_this_turned, .ref a_this_figures, .ref a_this_text, .int c_this_length, .ref a_this_sectors, .ref a_this_corners, .int c_this_doubles, .ref a_this_likes, .int c_this_likeMany, .int c_this_pieces, .ref a_this_laid, .ref a_this_isMirrored, .ref a_this_places, .ref a_this_placeMany, .ref a_this_now, .ref a_this_firsts, .ref a_this_forms, .ref a_this_isKept, .ref a_this_keptFigures, .ref a_this_keptPieces, .ref a_this_keptLaid, .ref a_this_keptMirrored])), (a_this_corners, .inl (cI, 9, .inl c_this_corners)), (a_this_sectors, .inl (cZ, 8, .inl c_this_sectors))]) [0, 2, 3] (by decide) rfl
    have hFc := va_free (wc := [(a_this, .inr (4, [.ref a_this_near, .ref a_this_turned, .ref a_this_figures, .ref a_this_text, .int c_this_length, .ref a_this_sectors, .ref a_this_corners, .int c_this_doubles, .ref a_this_likes, .int c_this_likeMany, .int c_this_pieces, .ref a_this_laid, .ref a_this_isMirrored, .ref a_this_places, .ref a_this_placeMany, .ref a_this_now, .ref a_this_firsts, .ref a_this_forms, .ref a_this_isKept, .ref a_this_keptFigures, .ref a_this_keptPieces, .ref a_this_keptLaid, .ref a_this_keptMirrored])), (a_this_corners, .inl (cI, 9, .inl c_this_corners)), (a_this_sectors, .inl (cZ, 8, .inl c_this_sectors))]) hD hS hA [0, 2, 3] rfl
    refine va_callv (va_runV (As := [.long (c_this_figures x1.toNatClampNeg)]) (rest := []) ⟨hx, hb, hml, hown, hts⟩ (c_X8_layCorners l D cI cJ cZ cO a_this a_this_near a_this_turned a_this_figures a_this_text a_this_sectors a_this_corners a_this_likes a_this_laid a_this_isMirrored a_this_places a_this_placeMany a_this_now a_this_firsts a_this_forms a_this_isKept a_this_keptFigures a_this_keptPieces a_this_keptLaid a_this_keptMirrored s.heap.size c_this_length c_this_doubles c_this_likeMany c_this_pieces c_this_corners c_this_sectors (c_this_figures x1.toNatClampNeg) _ _ _ hr30) (cwV 1 hts gX8_convex_X8_layCorners rfl rfl rfl zv_X8_layCorners ⟨Nat.le_of_ble_eq_true rfl, Nat.le_of_ble_eq_true rfl⟩) (hk_preMV 4 rfl hPc hDc hK rfl) rfl rfl hl.1 rfl (lv_room (Nat.le_of_ble_eq_true rfl)) dX8_convex_16 ⟨Nat.zero_le _, Nat.zero_le _⟩) hS (fun q _ h9 => hFc q h9) hFc (fun u9 t9 H1 locs ht hvm hw hB hz1 hk1 hS => ?_)
    obtain ⟨hP1, hD1⟩ := hB
    rw [ht] at hP1
    obtain ⟨hP, hD⟩ := va_join (wr := [(a_this_figures, .inl (cJ, 8, .inr (.inl c_this_figures))), (a_this_near, .inl (cJ, 64, .inr (.inl c_this_near)))]) (w1 := [(a_this, .inr (4, [.ref a_this_near, .ref a_this_turned, .ref a_this_figures, .ref a_this_text, .int c_this_length, .ref a_this_sectors, .ref a_this_corners, .int u27, .ref a_this_likes, .int c_this_likeMany, .int c_this_pieces, .ref a_this_laid, .ref a_this_isMirrored, .ref a_this_places, .ref a_this_placeMany, .ref a_this_now, .ref a_this_firsts, .ref a_this_forms, .ref a_this_isKept, .ref a_this_keptFigures, .ref a_this_keptPieces, .ref a_this_keptLaid, .ref a_this_keptMirrored])), (a_this_corners, .inl (cI, 9, .inl u28)), (a_this_sectors, .inl (cZ, 8, .inl u29))]) hP hD [0, 2, 3] [1, 4] rfl rfl (by decide) (by decide) hk1 hFc hP1 hD1
    generalize H1 = H at hP hS ⊢
    have hP := hP.sub (ws' := [(a_this, .inr (4, [.ref a_this_near, .ref a_this_turned, .ref a_this_figures, .ref a_this_text, .int c_this_length, .ref a_this_sectors, .ref a_this_corners, .int u27, .ref a_this_likes, .int c_this_likeMany, .int c_this_pieces, .ref a_this_laid, .ref a_this_isMirrored, .ref a_this_places, .ref a_this_placeMany, .ref a_this_now, .ref a_this_firsts, .ref a_this_forms, .ref a_this_isKept, .ref a_this_keptFigures, .ref a_this_keptPieces, .ref a_this_keptLaid, .ref a_this_keptMirrored])), (a_this_figures, .inl (cJ, 8, .inr (.inl c_this_figures))), (a_this_corners, .inl (cI, 9, .inl u28)), (a_this_sectors, .inl (cZ, 8, .inl u29)), (a_this_near, .inl (cJ, 64, .inr (.inl c_this_near)))]) [2, 0, 3, 4, 1] rfl
    have hD := hD.sub (ws' := [(a_this, .inr (4, [.ref a_this_near, .ref a_this_turned, .ref a_this_figures, .ref a_this_text, .int c_this_length, .ref a_this_sectors, .ref a_this_corners, .int u27, .ref a_this_likes, .int c_this_likeMany, .int c_this_pieces, .ref a_this_laid, .ref a_this_isMirrored, .ref a_this_places, .ref a_this_placeMany, .ref a_this_now, .ref a_this_firsts, .ref a_this_forms, .ref a_this_isKept, .ref a_this_keptFigures, .ref a_this_keptPieces, .ref a_this_keptLaid, .ref a_this_keptMirrored])), (a_this_figures, .inl (cJ, 8, .inr (.inl c_this_figures))), (a_this_corners, .inl (cI, 9, .inl u28)), (a_this_sectors, .inl (cZ, 8, .inl u29)), (a_this_near, .inl (cJ, 64, .inr (.inl c_this_near)))]) [2, 0, 3, 4, 1] (by decide) rfl
    refine lv_aload_n hx hb dX8_convex_19 rfl (lv_at hl 0 rfl) ?_
    refine va_get (D := D) (ci := 4) (v := .ref a_this_figures) (C := RX8) (T := TX8) (N := 23) hx hb hts zi_X8_convex_X8 hown hK.1 hP 0 rfl rfl 2 (by decide) (hts (.fieldLink RX8 17 "HalfAndHalfAgainModel" "figures" "[J") (List.mem_of_getElem? (i := 1) rfl)) (fun _ h9 => h9) rfl dX8_convex_20 ?_
    refine lv_iload_n hx hb dX8_convex_23 rfl (lv_at hl 1 rfl) ?_
    obtain ⟨hi32, h⟩ := hk_ge h
    refine va_lald hx hb hK.1 hP 1 1 rfl rfl (hk_inb_of hi32) dX8_convex_24 ?_
    refine lv_lconst (v := (0 : Int64)) hx hb dX8_convex_25 (by decide) ?_
    obtain ⟨v52, g33, h⟩ := hk_x1 h
    refine hk_joinR (nL := 3) (xs := fun (t9 : Int32) => (94, [], [.int t9])) v52 (fun hjg33 => ?_) ?_
    · refine hk_lcmp_eq (tgt := 93) hx hb dX8_convex_26 dX8_convex_27 (by decide) (fun c34 => ?_) (fun c34 => ?_)
      · replace g33 := hk_ip c34 g33
        refine lv_iconst (v := (0 : Int32)) hx hb dX8_convex_93 (by decide) ?_
        have g33 := Option.some.inj g33
        subst g33
        exact hjg33 ls (lv_sub hl [] rfl)
      replace g33 := hk_in c34 g33
      refine lv_aload_n hx hb dX8_convex_30 rfl (lv_at hl 0 rfl) ?_
      refine lv_aload_n hx hb dX8_convex_31 rfl (lv_at hl 0 rfl) ?_
      refine va_get (D := D) (ci := 4) (v := .ref a_this_figures) (C := RX8) (T := TX8) (N := 23) hx hb hts zi_X8_convex_X8 hown hK.1 hP 0 rfl rfl 2 (by decide) (hts (.fieldLink RX8 17 "HalfAndHalfAgainModel" "figures" "[J") (List.mem_of_getElem? (i := 1) rfl)) (fun _ h9 => h9) rfl dX8_convex_32 ?_
      refine lv_iload_n hx hb dX8_convex_35 rfl (lv_at hl 1 rfl) ?_
      obtain ⟨hi35, g33⟩ := hk_ge g33
      refine va_lald hx hb hK.1 hP 1 1 rfl rfl (hk_inb_of hi35) dX8_convex_36 ?_
      obtain ⟨r36, hr37, g33⟩ := hk_x1 g33
      refine vp_callSi (W.runV (As := [.long (c_this_figures x1.toNatClampNeg)]) (rest := []) ⟨hx, hb, hml, hown, hts⟩ (c_X8_partsOf l D cI cJ cZ cO a_this a_this_near a_this_turned a_this_figures a_this_text a_this_sectors a_this_corners a_this_likes a_this_laid a_this_isMirrored a_this_places a_this_placeMany a_this_now a_this_firsts a_this_forms a_this_isKept a_this_keptFigures a_this_keptPieces a_this_keptLaid a_this_keptMirrored c_this_length u27 c_this_likeMany c_this_pieces c_this_near (c_this_figures x1.toNatClampNeg) _ hr37) (cwV 1 hts gX8_convex_X8_partsOf rfl rfl rfl zv_X8_partsOf ⟨Nat.le_of_ble_eq_true rfl, Nat.le_of_ble_eq_true rfl⟩) (hk_preRV 4 rfl (hP.sub (ws' := [(a_this, .inr (4, [.ref a_this_near, .ref a_this_turned, .ref a_this_figures, .ref a_this_text, .int c_this_length, .ref a_this_sectors, .ref a_this_corners, .int u27, .ref a_this_likes, .int c_this_likeMany, .int c_this_pieces, .ref a_this_laid, .ref a_this_isMirrored, .ref a_this_places, .ref a_this_placeMany, .ref a_this_now, .ref a_this_firsts, .ref a_this_forms, .ref a_this_isKept, .ref a_this_keptFigures, .ref a_this_keptPieces, .ref a_this_keptLaid, .ref a_this_keptMirrored])), (a_this_near, .inl (cJ, 64, .inr (.inl c_this_near)))]) [0, 4] rfl) hK rfl) rfl rfl hl.1 rfl (lv_room (Nat.le_of_ble_eq_true rfl)) dX8_convex_37 ⟨Nat.zero_le _, Nat.zero_le _⟩) (fun p39 e38 => ?_)
      rw [e38]
      refine lv_iconst (v := (1 : Int32)) hx hb dX8_convex_40 (by decide) ?_
      refine lv_icmp_ne (tgt := 93) hx hb dX8_convex_41 (by decide) (fun c40 => ?_) (fun c40 => ?_)
      · replace g33 := hk_in c40 g33
        refine lv_iconst (v := (0 : Int32)) hx hb dX8_convex_93 (by decide) ?_
        have g33 := Option.some.inj g33
        subst g33
        exact hjg33 ls (lv_sub hl [] rfl)
      replace g33 := hk_ip c40 g33
      refine lv_aload_n hx hb dX8_convex_44 rfl (lv_at hl 0 rfl) ?_
      refine lv_aload_n hx hb dX8_convex_45 rfl (lv_at hl 0 rfl) ?_
      refine va_get (D := D) (ci := 4) (v := .ref a_this_figures) (C := RX8) (T := TX8) (N := 23) hx hb hts zi_X8_convex_X8 hown hK.1 hP 0 rfl rfl 2 (by decide) (hts (.fieldLink RX8 17 "HalfAndHalfAgainModel" "figures" "[J") (List.mem_of_getElem? (i := 1) rfl)) (fun _ h9 => h9) rfl dX8_convex_46 ?_
      refine lv_iload_n hx hb dX8_convex_49 rfl (lv_at hl 1 rfl) ?_
      obtain ⟨hi41, g33⟩ := hk_ge g33
      refine va_lald hx hb hK.1 hP 1 1 rfl rfl (hk_inb_of hi41) dX8_convex_50 ?_
      obtain ⟨r42, hr43, g33⟩ := hk_x1 g33
      refine vp_callSi (W.runV (As := [.long (c_this_figures x1.toNatClampNeg)]) (rest := []) ⟨hx, hb, hml, hown, hts⟩ (c_X8_holesOf l D cI cJ cZ cO a_this a_this_near a_this_turned a_this_figures a_this_text a_this_sectors a_this_corners a_this_likes a_this_laid a_this_isMirrored a_this_places a_this_placeMany a_this_now a_this_firsts a_this_forms a_this_isKept a_this_keptFigures a_this_keptPieces a_this_keptLaid a_this_keptMirrored c_this_length u27 c_this_likeMany c_this_pieces c_this_near (c_this_figures x1.toNatClampNeg) _ hr43) (cwV 1 hts gX8_convex_X8_holesOf rfl rfl rfl zv_X8_holesOf ⟨Nat.le_of_ble_eq_true rfl, Nat.le_of_ble_eq_true rfl⟩) (hk_preRV 4 rfl (hP.sub (ws' := [(a_this, .inr (4, [.ref a_this_near, .ref a_this_turned, .ref a_this_figures, .ref a_this_text, .int c_this_length, .ref a_this_sectors, .ref a_this_corners, .int u27, .ref a_this_likes, .int c_this_likeMany, .int c_this_pieces, .ref a_this_laid, .ref a_this_isMirrored, .ref a_this_places, .ref a_this_placeMany, .ref a_this_now, .ref a_this_firsts, .ref a_this_forms, .ref a_this_isKept, .ref a_this_keptFigures, .ref a_this_keptPieces, .ref a_this_keptLaid, .ref a_this_keptMirrored])), (a_this_near, .inl (cJ, 64, .inr (.inl c_this_near)))]) [0, 4] rfl) hK rfl) rfl rfl hl.1 rfl (lv_room (Nat.le_of_ble_eq_true rfl)) dX8_convex_51 ⟨Nat.zero_le _, Nat.zero_le _⟩) (fun p45 e44 => ?_)
      rw [e44]
      refine lv_if_ne (tgt := 93) hx hb dX8_convex_54 (by decide) (fun c46 => ?_) (fun c46 => ?_)
      · replace g33 := hk_in c46 g33
        refine lv_iconst (v := (0 : Int32)) hx hb dX8_convex_93 (by decide) ?_
        have g33 := Option.some.inj g33
        subst g33
        exact hjg33 ls (lv_sub hl [] rfl)
      replace g33 := hk_ip c46 g33
      refine lv_aload_n hx hb dX8_convex_57 rfl (lv_at hl 0 rfl) ?_
      refine va_get (D := D) (ci := 4) (v := .int u27) (C := RX8) (T := TX8) (N := 23) hx hb hts zi_X8_convex_X8 hown hK.1 hP 0 rfl rfl 7 (by decide) (hts (.fieldLink RX8 137 "HalfAndHalfAgainModel" "doubles" "I") (List.mem_of_getElem? (i := 2) rfl)) (fun _ h9 => h9) rfl dX8_convex_58 ?_
      refine lv_if_ne (tgt := 93) hx hb dX8_convex_61 (by decide) (fun c47 => ?_) (fun c47 => ?_)
      · replace g33 := hk_in c47 g33
        refine lv_iconst (v := (0 : Int32)) hx hb dX8_convex_93 (by decide) ?_
        have g33 := Option.some.inj g33
        subst g33
        exact hjg33 ls (lv_sub hl [] rfl)
      replace g33 := hk_ip c47 g33
      refine lv_aload_n hx hb dX8_convex_64 rfl (lv_at hl 0 rfl) ?_
      refine va_get (D := D) (ci := 4) (v := .ref a_this_corners) (C := RX8) (T := TX8) (N := 23) hx hb hts zi_X8_convex_X8 hown hK.1 hP 0 rfl rfl 6 (by decide) (hts (.fieldLink RX8 27 "HalfAndHalfAgainModel" "corners" "[I") (List.mem_of_getElem? (i := 3) rfl)) (fun _ h9 => h9) rfl dX8_convex_65 ?_
      refine lv_iconst (v := (5 : Int32)) hx hb dX8_convex_68 (by decide) ?_
      obtain ⟨hi48, g33⟩ := hk_ge g33
      refine va_iald hx hb hK.1 hP 2 0 rfl rfl (hk_inb_of hi48) dX8_convex_69 ?_
      refine lv_aload_n hx hb dX8_convex_70 rfl (lv_at hl 0 rfl) ?_
      refine va_get (D := D) (ci := 4) (v := .ref a_this_corners) (C := RX8) (T := TX8) (N := 23) hx hb hts zi_X8_convex_X8 hown hK.1 hP 0 rfl rfl 6 (by decide) (hts (.fieldLink RX8 27 "HalfAndHalfAgainModel" "corners" "[I") (List.mem_of_getElem? (i := 3) rfl)) (fun _ h9 => h9) rfl dX8_convex_71 ?_
      refine lv_bipush (v := (6 : Int32)) hx hb dX8_convex_74 (by decide) ?_
      obtain ⟨hi49, g33⟩ := hk_ge g33
      refine va_iald hx hb hK.1 hP 2 0 rfl rfl (hk_inb_of hi49) dX8_convex_76 ?_
      refine lv_iadd hx hb dX8_convex_77 ?_
      refine lv_aload_n hx hb dX8_convex_78 rfl (lv_at hl 0 rfl) ?_
      refine va_get (D := D) (ci := 4) (v := .ref a_this_corners) (C := RX8) (T := TX8) (N := 23) hx hb hts zi_X8_convex_X8 hown hK.1 hP 0 rfl rfl 6 (by decide) (hts (.fieldLink RX8 27 "HalfAndHalfAgainModel" "corners" "[I") (List.mem_of_getElem? (i := 3) rfl)) (fun _ h9 => h9) rfl dX8_convex_79 ?_
      refine lv_bipush (v := (7 : Int32)) hx hb dX8_convex_82 (by decide) ?_
      obtain ⟨hi50, g33⟩ := hk_ge g33
      refine va_iald hx hb hK.1 hP 2 0 rfl rfl (hk_inb_of hi50) dX8_convex_84 ?_
      refine lv_iadd hx hb dX8_convex_85 ?_
      refine lv_if_ne (tgt := 93) hx hb dX8_convex_86 (by decide) (fun c51 => ?_) (fun c51 => ?_)
      · replace g33 := hk_in c51 g33
        refine lv_iconst (v := (0 : Int32)) hx hb dX8_convex_93 (by decide) ?_
        have g33 := Option.some.inj g33
        subst g33
        exact hjg33 ls (lv_sub hl [] rfl)
      replace g33 := hk_ip c51 g33
      refine lv_iconst (v := (1 : Int32)) hx hb dX8_convex_89 (by decide) ?_
      refine lv_goto (tgt := 94) hx hb dX8_convex_90 (by decide) ?_
      have g33 := Option.some.inj g33
      subst g33
      exact hjg33 ls (lv_sub hl [] rfl)
    intro ls hl
    have hl : lv_has ls 3 [] := hl
    show W _ _ _ _ _ _ _ _ _ _ _ _ _ _ _ (F0 m 94 ls [.int v52])
    refine lv_istore_n (lv' := [(2, .int v52)]) hx hb dX8_convex_94 rfl hl (by decide) rfl (fun ls hl => ?_)
    refine lv_iload_n hx hb dX8_convex_95 rfl (lv_at hl 0 rfl) ?_
    refine lv_if_eq (tgt := 103) hx hb dX8_convex_96 (by decide) (fun c53 => ?_) (fun c53 => ?_)
    · replace h := hk_ip c53 h
      refine lv_iconst (v := (0 : Int32)) hx hb dX8_convex_103 (by decide) ?_
      subst hQ
      have h := Option.some.inj h
      simp only [Prod.mk.injEq] at h
      obtain ⟨rfl, rfl, rfl, rfl⟩ := h
      exact W.iret hx hb hr (fun t ht hW => ⟨⟨_, (), rfl, rfl, by rw [ht]; exact hP, hD⟩, hS.F ht⟩) hS.2.2 dX8_convex_104
    replace h := hk_in c53 h
    refine lv_iconst (v := (1 : Int32)) hx hb dX8_convex_99 (by decide) ?_
    refine lv_goto (tgt := 104) hx hb dX8_convex_100 (by decide) ?_
    subst hQ
    have h := Option.some.inj h
    simp only [Prod.mk.injEq] at h
    obtain ⟨rfl, rfl, rfl, rfl⟩ := h
    exact W.iret hx hb hr (fun t ht hW => ⟨⟨_, (), rfl, rfl, by rw [ht]; exact hP, hD⟩, hS.F ht⟩) hS.2.2 dX8_convex_104
  replace h := hk_ip c25 h
  refine lv_iconst (v := (-1 : Int32)) hx hb dX8_convex_7 (by decide) ?_
  subst hQ
  have h := Option.some.inj h
  simp only [Prod.mk.injEq] at h
  obtain ⟨rfl, rfl, rfl, rfl⟩ := h
  exact W.iret hx hb hr (fun t ht hW => ⟨⟨_, (), rfl, rfl, by rw [ht]; exact hP, hD⟩, hS.F ht⟩) hS.2.2 dX8_convex_8
theorem zv_X8_turnedBy : yX8_turnedBy.cls = RX8 ∧ yX8_turnedBy.cls ≠ "java/lang/invoke/MethodHandle" ∧ yX8_turnedBy.cls ≠ "java/lang/invoke/VarHandle" ∧ (parseMethodDescriptor yX8_turnedBy.desc).map (fun d => d.parameters.length) = some 2 := by decide +kernel
def st_X8_turnedBy_6c (c_this_turned : Nat → Int32) (x1 : Int64) (x3 : Int32) (y22 : Int64) (y23 : Int32) : Option ((Int64 × Int32) ⊕ Int64) := if (64 : Int32) ≤ y23 then (some (.inr y22)) else (hk_b1 (f_X8_has x1 y23) fun r25 => hk_b1 (if r25 = 0 then (some (0 : Int64)) else (hk_gd (hk_inb (((64 : Int32) * x3) + y23) 512) (some (hk_shl (1 : Int64) (c_this_turned (((64 : Int32) * x3) + y23).toNatClampNeg))))) fun v32 => hk_let (y22 ||| v32) fun x33 => hk_let (y23 + (1 : Int32)) fun x34 => some (.inl (x33, x34)))
def st_X8_turnedBy_6 (c_this_turned : Nat → Int32) (x1 : Int64) (x3 : Int32) (t9 : (Int64 × Int32)) : Option ((Int64 × Int32) ⊕ Int64) := st_X8_turnedBy_6c c_this_turned x1 x3 t9.1 t9.2
def f_X8_turnedBy (c_this_turned : Nat → Int32)  (x1 : Int64) (x3 : Int32) : Option Int64 := hk_b1 (hk_wl (st_X8_turnedBy_6 c_this_turned x1 x3) hkF ((0 : Int64), (0 : Int32))) fun z36 => some z36
theorem zi_X8_turnedBy_X8 : ∀ w ∈ u_ws RX8 TX8 23, w ∈ wsX8_turnedBy := by decide +kernel
set_option maxHeartbeats 8000000 in
set_option maxRecDepth 100000 in
theorem c_X8_turnedBy (l : Launch) (D : va_G) (cI cJ cZ cO : ClassId) (a_this a_this_near a_this_turned a_this_figures a_this_text a_this_sectors a_this_corners a_this_likes a_this_laid a_this_isMirrored a_this_places a_this_placeMany a_this_now a_this_firsts a_this_forms a_this_isKept a_this_keptFigures a_this_keptPieces a_this_keptLaid a_this_keptMirrored : Nat) (c_this_length : Int32) (c_this_doubles : Int32) (c_this_likeMany : Int32) (c_this_pieces : Int32) (c_this_turned : Nat → Int32) (x1 : Int64) (x3 : Int32) (rv : Int64) (hf : f_X8_turnedBy c_this_turned x1 x3 = some rv) : Met l yX8_turnedBy wsX8_turnedBy ({ frames := 1, cells := 0, slots := 0, locals := 22 }) (va_Pc [.ref a_this, .long x1, .int x3] (hkR D cI cJ cZ cO [(a_this, .inr (4, [.ref a_this_near, .ref a_this_turned, .ref a_this_figures, .ref a_this_text, .int c_this_length, .ref a_this_sectors, .ref a_this_corners, .int c_this_doubles, .ref a_this_likes, .int c_this_likeMany, .int c_this_pieces, .ref a_this_laid, .ref a_this_isMirrored, .ref a_this_places, .ref a_this_placeMany, .ref a_this_now, .ref a_this_firsts, .ref a_this_forms, .ref a_this_isKept, .ref a_this_keptFigures, .ref a_this_keptPieces, .ref a_this_keptLaid, .ref a_this_keptMirrored])), (a_this_turned, .inl (cI, 512, .inl c_this_turned))])) (vp_Sl (fun r => r = rv)) 0 0 (fun _ => False) := by
  refine Met.ofW (cc := cX8_turnedBy) (maxL := 7) (ret := (some .long)) (by decide) rfl ?_
  intro p e s m args below meth c s₁ B hml hv
  obtain ⟨rfl, hP, hK⟩ := hv
  have hx := B.exec
  have hb := B.bytes
  have hr := B.returns
  have hts := atoms_spec (ws := wsX8_turnedBy) B.pre
  have hown : s.vm.findClass RX8 = some m.cls := findClass_of_methodNamed B.named
  have hlocks := B.notSynchronized
  have hN := hK.2
  have hl := lv_entry ([.ref a_this, .long x1, .int x3]) (n := 7) (Nat.le_of_ble_eq_true rfl)
  rw [lg_entry_eq]
  generalize (lg_sl ([.ref a_this, .long x1, .int x3]) ++ List.replicate (7 - (lg_sl ([.ref a_this, .long x1, .int x3])).length) Slot.unset).toArray = ls at hl ⊢
  have hl : lv_has ls 7 [(0, .ref a_this), (1, .long x1), (3, .int x3)] := hl
  refine hk_Q (fun Q hQ => ?_)
  have h := hf
  unfold f_X8_turnedBy at h
  refine lv_lconst (v := (0 : Int64)) hx hb dX8_turnedBy_0 (by decide) ?_
  refine lv_lstore (lv' := [(4, .long (0 : Int64)), (0, .ref a_this), (1, .long x1), (3, .int x3)]) hx hb dX8_turnedBy_1 hl (by decide) rfl (fun ls hl => ?_)
  refine lv_iconst (v := (0 : Int32)) hx hb dX8_turnedBy_3 (by decide) ?_
  refine lv_istore (lv' := [(6, .int (0 : Int32)), (4, .long (0 : Int64)), (0, .ref a_this), (1, .long x1), (3, .int x3)]) hx hb dX8_turnedBy_4 hl (by decide) rfl (fun ls hl => ?_)
  obtain ⟨z36, hr35, h⟩ := hk_x1 h
  refine hk_loopR (f := st_X8_turnedBy_6 c_this_turned x1 x3) (hd := 6) (nL := 7) (lv := fun t9 => [(0, .ref a_this), (1, .long x1), (3, .int x3), (4, .long t9.1), (6, .int t9.2)]) (xs := fun t9 => (51, [(4, .long t9)], [])) ?_ hr35 ?_ (lv_sub hl [2, 3, 4, 1, 0] rfl)
  · intro t37 q38 k21 hck21 hqk21 ls hl
    obtain ⟨y22, y23⟩ := t37
    have k21 : st_X8_turnedBy_6c c_this_turned x1 x3 y22 y23 = some q38 := k21
    unfold st_X8_turnedBy_6c at k21
    have hl : lv_has ls 7 [(0, .ref a_this), (1, .long x1), (3, .int x3), (4, .long y22), (6, .int y23)] := hl
    refine lv_iload hx hb dX8_turnedBy_6 (lv_at hl 4 rfl) ?_
    refine lv_bipush (v := (64 : Int32)) hx hb dX8_turnedBy_8 (by decide) ?_
    refine lv_icmp_ge (tgt := 51) hx hb dX8_turnedBy_10 (by decide) (fun c24 => ?_) (fun c24 => ?_)
    · replace k21 := hk_ip c24 k21
      exact hqk21 y22 (Option.some.inj k21).symm ls (lv_sub hl [3] rfl)
    replace k21 := hk_in c24 k21
    refine lv_lload hx hb dX8_turnedBy_13 (lv_at hl 3 rfl) ?_
    refine lv_lload_n hx hb dX8_turnedBy_15 rfl (lv_at hl 1 rfl) ?_
    refine lv_iload hx hb dX8_turnedBy_16 (lv_at hl 4 rfl) ?_
    obtain ⟨r25, hr26, k21⟩ := hk_x1 k21
    refine vp_callSi (W.runS (As := [.long x1, .int y23]) (rest := [.long y22]) ⟨hx, hb, hml, hown, hts⟩ (c_X8_has l x1 y23 _ hr26) (va_cwS 2 hts gX8_turnedBy_X8_has rfl rfl rfl zs_X8_has ⟨Nat.le_of_ble_eq_true rfl, Nat.le_of_ble_eq_true rfl⟩) ⟨fun _ _ _ _ q => q, fun _ _ _ => ⟨rfl, trivial⟩⟩ rfl rfl hl.1 rfl (lv_room (Nat.le_of_ble_eq_true rfl)) dX8_turnedBy_18 ⟨Nat.zero_le _, Nat.zero_le _⟩) (fun p28 e27 => ?_)
    rw [e27]
    obtain ⟨v32, g29, k21⟩ := hk_x1 k21
    refine hk_joinR (nL := 7) (xs := fun (t9 : Int64) => (42, [(0, .ref a_this), (1, .long x1), (3, .int x3), (6, .int y23)], [.long t9, .long y22])) v32 (fun hjg29 => ?_) ?_
    · refine lv_if_eq (tgt := 41) hx hb dX8_turnedBy_21 (by decide) (fun c30 => ?_) (fun c30 => ?_)
      · replace g29 := hk_ip c30 g29
        refine lv_lconst (v := (0 : Int64)) hx hb dX8_turnedBy_41 (by decide) ?_
        have g29 := Option.some.inj g29
        subst g29
        exact hjg29 ls (lv_sub hl [0, 1, 2, 4] rfl)
      replace g29 := hk_in c30 g29
      refine lv_lconst (v := (1 : Int64)) hx hb dX8_turnedBy_24 (by decide) ?_
      refine lv_aload_n hx hb dX8_turnedBy_25 rfl (lv_at hl 0 rfl) ?_
      refine va_get (D := D) (ci := 4) (v := .ref a_this_turned) (C := RX8) (T := TX8) (N := 23) hx hb hts zi_X8_turnedBy_X8 hown hK.1 hP 0 rfl rfl 1 (by decide) (hts (.fieldLink RX8 13 "HalfAndHalfAgainModel" "turned" "[I") (List.mem_of_getElem? (i := 1) rfl)) (fun _ h9 => h9) rfl dX8_turnedBy_26 ?_
      refine lv_bipush (v := (64 : Int32)) hx hb dX8_turnedBy_29 (by decide) ?_
      refine lv_iload_n hx hb dX8_turnedBy_31 rfl (lv_at hl 2 rfl) ?_
      refine lv_imul hx hb dX8_turnedBy_32 ?_
      refine lv_iload hx hb dX8_turnedBy_33 (lv_at hl 4 rfl) ?_
      refine lv_iadd hx hb dX8_turnedBy_35 ?_
      obtain ⟨hi31, g29⟩ := hk_ge g29
      refine va_iald hx hb hK.1 hP 1 0 rfl rfl (hk_inb_of hi31) dX8_turnedBy_36 ?_
      refine lv_lshl (v := (hk_shl (1 : Int64) (c_this_turned (((64 : Int32) * x3) + y23).toNatClampNeg))) hx hb dX8_turnedBy_37 rfl ?_
      refine lv_goto (tgt := 42) hx hb dX8_turnedBy_38 (by decide) ?_
      have g29 := Option.some.inj g29
      subst g29
      exact hjg29 ls (lv_sub hl [0, 1, 2, 4] rfl)
    intro ls hl
    have hl : lv_has ls 7 [(0, .ref a_this), (1, .long x1), (3, .int x3), (6, .int y23)] := hl
    show W _ _ _ _ _ _ _ _ _ _ _ _ _ _ _ (F0 m 42 ls [.long v32, .long y22])
    refine lv_lor hx hb dX8_turnedBy_42 ?_
    obtain ⟨x33, ex33, k21⟩ := hk_le k21
    refine hk_tl ex33 ?_
    refine lv_lstore (lv' := [(4, .long x33), (0, .ref a_this), (1, .long x1), (3, .int x3), (6, .int y23)]) hx hb dX8_turnedBy_43 hl (by decide) rfl (fun ls hl => ?_)
    obtain ⟨x34, ex34, k21⟩ := hk_le k21
    refine lv_iinc (v := x34) (lv' := [(6, .int x34), (4, .long x33), (0, .ref a_this), (1, .long x1), (3, .int x3)]) hx hb dX8_turnedBy_45 hl (k := 4) rfl (by rw [ex34]; rfl) (by decide) rfl (fun ls hl => ?_)
    refine lv_goto (tgt := 6) hx hb dX8_turnedBy_48 (by decide) ?_
    exact hck21 (x33, x34) (Option.some.inj k21).symm ls (lv_sub hl [2, 3, 4, 1, 0] rfl)
  intro ls hl
  have hl : lv_has ls 7 [(4, .long z36)] := hl
  show W _ _ _ _ _ _ _ _ _ _ _ _ _ _ _ (F0 m 51 ls [])
  refine lv_lload hx hb dX8_turnedBy_51 (lv_at hl 0 rfl) ?_
  subst hQ
  exact W.lret hx hb hr (fun t ht hW => ⟨_, rfl, Option.some.inj h, ht⟩) (fun _ h9 => by cases h9) dX8_turnedBy_53
theorem zv_X8_stays : yX8_stays.cls = RX8 ∧ yX8_stays.cls ≠ "java/lang/invoke/MethodHandle" ∧ yX8_stays.cls ≠ "java/lang/invoke/VarHandle" ∧ (parseMethodDescriptor yX8_stays.desc).map (fun d => d.parameters.length) = some 3 := by decide +kernel
def st_X8_stays_6c (x1 : Int64) (x3 : Int32) (x4 : Int32) (y22 : Int32) (y23 : Int32) : Option ((Int32 × Int32) ⊕ Int32) := if (64 : Int32) ≤ y23 then (some (.inr y22)) else (hk_b1 (if y22 = 0 then (some (0 : Int32)) else (hk_b1 (f_X8_has x1 y23) fun r27 => if r27 = 0 then (some (1 : Int32)) else (hk_b1 (f_X8_in ((((y23 / (16 : Int32)) + x4)).toInt64) (0 : Int64) (3 : Int64)) fun r32 => if r32 = 0 then (some (0 : Int32)) else (hk_b1 (f_X8_in ((((hk_rem (y23 / (4 : Int32)) (4 : Int32)) + x3)).toInt64) (0 : Int64) (3 : Int64)) fun r37 => if r37 = 0 then (some (0 : Int32)) else (some (1 : Int32)))))) fun v42 => hk_let (y23 + (1 : Int32)) fun x43 => some (.inl (v42, x43)))
def st_X8_stays_6 (x1 : Int64) (x3 : Int32) (x4 : Int32) (t9 : (Int32 × Int32)) : Option ((Int32 × Int32) ⊕ Int32) := st_X8_stays_6c x1 x3 x4 t9.1 t9.2
def f_X8_stays   (x1 : Int64) (x3 : Int32) (x4 : Int32) : Option Int32 := hk_b1 (hk_wl (st_X8_stays_6 x1 x3 x4) hkF ((1 : Int32), (0 : Int32))) fun z45 => hk_gd (hk_isb z45) (some z45)
set_option maxHeartbeats 8000000 in
set_option maxRecDepth 100000 in
theorem c_X8_stays (l : Launch) (D : va_G) (cI cJ cZ cO : ClassId) (a_this a_this_near a_this_turned a_this_figures a_this_text a_this_sectors a_this_corners a_this_likes a_this_laid a_this_isMirrored a_this_places a_this_placeMany a_this_now a_this_firsts a_this_forms a_this_isKept a_this_keptFigures a_this_keptPieces a_this_keptLaid a_this_keptMirrored : Nat) (c_this_length : Int32) (c_this_doubles : Int32) (c_this_likeMany : Int32) (c_this_pieces : Int32) (x1 : Int64) (x3 : Int32) (x4 : Int32) (rv : Int32) (hf : f_X8_stays x1 x3 x4 = some rv) : Met l yX8_stays wsX8_stays ({ frames := 1, cells := 0, slots := 0, locals := 25 }) (va_Pc [.ref a_this, .long x1, .int x3, .int x4] (hkR D cI cJ cZ cO [(a_this, .inr (4, [.ref a_this_near, .ref a_this_turned, .ref a_this_figures, .ref a_this_text, .int c_this_length, .ref a_this_sectors, .ref a_this_corners, .int c_this_doubles, .ref a_this_likes, .int c_this_likeMany, .int c_this_pieces, .ref a_this_laid, .ref a_this_isMirrored, .ref a_this_places, .ref a_this_placeMany, .ref a_this_now, .ref a_this_firsts, .ref a_this_forms, .ref a_this_isKept, .ref a_this_keptFigures, .ref a_this_keptPieces, .ref a_this_keptLaid, .ref a_this_keptMirrored]))])) (vp_Si (fun r => r = rv)) 0 0 (fun _ => False) := by
  refine Met.ofW (cc := cX8_stays) (maxL := 7) (ret := (some .boolean)) (by decide) rfl ?_
  intro p e s m args below meth c s₁ B hml hv
  obtain ⟨rfl, hP, hK⟩ := hv
  have hx := B.exec
  have hb := B.bytes
  have hr := B.returns
  have hts := atoms_spec (ws := wsX8_stays) B.pre
  have hown : s.vm.findClass RX8 = some m.cls := findClass_of_methodNamed B.named
  have hlocks := B.notSynchronized
  have hN := hK.2
  have hl := lv_entry ([.ref a_this, .long x1, .int x3, .int x4]) (n := 7) (Nat.le_of_ble_eq_true rfl)
  rw [lg_entry_eq]
  generalize (lg_sl ([.ref a_this, .long x1, .int x3, .int x4]) ++ List.replicate (7 - (lg_sl ([.ref a_this, .long x1, .int x3, .int x4])).length) Slot.unset).toArray = ls at hl ⊢
  have hl : lv_has ls 7 [(0, .ref a_this), (1, .long x1), (3, .int x3), (4, .int x4)] := hl
  refine hk_Q (fun Q hQ => ?_)
  have h := hf
  unfold f_X8_stays at h
  refine lv_iconst (v := (1 : Int32)) hx hb dX8_stays_0 (by decide) ?_
  refine lv_istore (lv' := [(5, .int (1 : Int32)), (0, .ref a_this), (1, .long x1), (3, .int x3), (4, .int x4)]) hx hb dX8_stays_1 hl (by decide) rfl (fun ls hl => ?_)
  refine lv_iconst (v := (0 : Int32)) hx hb dX8_stays_3 (by decide) ?_
  refine lv_istore (lv' := [(6, .int (0 : Int32)), (5, .int (1 : Int32)), (0, .ref a_this), (1, .long x1), (3, .int x3), (4, .int x4)]) hx hb dX8_stays_4 hl (by decide) rfl (fun ls hl => ?_)
  obtain ⟨z45, hr44, h⟩ := hk_x1 h
  refine hk_loopR (f := st_X8_stays_6 x1 x3 x4) (hd := 6) (nL := 7) (lv := fun t9 => [(1, .long x1), (3, .int x3), (4, .int x4), (5, .int t9.1), (6, .int t9.2)]) (xs := fun t9 => (78, [(5, .int t9)], [])) ?_ hr44 ?_ (lv_sub hl [3, 4, 5, 1, 0] rfl)
  · intro t46 q47 k21 hck21 hqk21 ls hl
    obtain ⟨y22, y23⟩ := t46
    have k21 : st_X8_stays_6c x1 x3 x4 y22 y23 = some q47 := k21
    unfold st_X8_stays_6c at k21
    have hl : lv_has ls 7 [(1, .long x1), (3, .int x3), (4, .int x4), (5, .int y22), (6, .int y23)] := hl
    refine lv_iload hx hb dX8_stays_6 (lv_at hl 4 rfl) ?_
    refine lv_bipush (v := (64 : Int32)) hx hb dX8_stays_8 (by decide) ?_
    refine lv_icmp_ge (tgt := 78) hx hb dX8_stays_10 (by decide) (fun c24 => ?_) (fun c24 => ?_)
    · replace k21 := hk_ip c24 k21
      exact hqk21 y22 (Option.some.inj k21).symm ls (lv_sub hl [3] rfl)
    replace k21 := hk_in c24 k21
    refine lv_iload hx hb dX8_stays_13 (lv_at hl 3 rfl) ?_
    obtain ⟨v42, g25, k21⟩ := hk_x1 k21
    refine hk_joinR (nL := 7) (xs := fun (t9 : Int32) => (70, [(1, .long x1), (3, .int x3), (4, .int x4), (6, .int y23)], [.int t9])) v42 (fun hjg25 => ?_) ?_
    · refine lv_if_eq (tgt := 69) hx hb dX8_stays_15 (by decide) (fun c26 => ?_) (fun c26 => ?_)
      · replace g25 := hk_ip c26 g25
        refine lv_iconst (v := (0 : Int32)) hx hb dX8_stays_69 (by decide) ?_
        have g25 := Option.some.inj g25
        subst g25
        exact hjg25 ls (lv_sub hl [0, 1, 2, 4] rfl)
      replace g25 := hk_in c26 g25
      refine lv_lload_n hx hb dX8_stays_18 rfl (lv_at hl 0 rfl) ?_
      refine lv_iload hx hb dX8_stays_19 (lv_at hl 4 rfl) ?_
      obtain ⟨r27, hr28, g25⟩ := hk_x1 g25
      refine vp_callSi (W.runS (As := [.long x1, .int y23]) (rest := []) ⟨hx, hb, hml, hown, hts⟩ (c_X8_has l x1 y23 _ hr28) (va_cwS 2 hts gX8_stays_X8_has rfl rfl rfl zs_X8_has ⟨Nat.le_of_ble_eq_true rfl, Nat.le_of_ble_eq_true rfl⟩) ⟨fun _ _ _ _ q => q, fun _ _ _ => ⟨rfl, trivial⟩⟩ rfl rfl hl.1 rfl (lv_room (Nat.le_of_ble_eq_true rfl)) dX8_stays_21 ⟨Nat.zero_le _, Nat.zero_le _⟩) (fun p30 e29 => ?_)
      rw [e29]
      refine lv_if_eq (tgt := 65) hx hb dX8_stays_24 (by decide) (fun c31 => ?_) (fun c31 => ?_)
      · replace g25 := hk_ip c31 g25
        refine lv_iconst (v := (1 : Int32)) hx hb dX8_stays_65 (by decide) ?_
        refine lv_goto (tgt := 70) hx hb dX8_stays_66 (by decide) ?_
        have g25 := Option.some.inj g25
        subst g25
        exact hjg25 ls (lv_sub hl [0, 1, 2, 4] rfl)
      replace g25 := hk_in c31 g25
      refine lv_iload hx hb dX8_stays_27 (lv_at hl 4 rfl) ?_
      refine lv_bipush (v := (16 : Int32)) hx hb dX8_stays_29 (by decide) ?_
      refine lv_idiv hx hb dX8_stays_31 (by decide) ?_
      refine lv_iload hx hb dX8_stays_32 (lv_at hl 2 rfl) ?_
      refine lv_iadd hx hb dX8_stays_34 ?_
      refine lv_i2l (v := ((((y23 / (16 : Int32)) + x4)).toInt64)) hx hb dX8_stays_35 rfl ?_
      refine lv_lconst (v := (0 : Int64)) hx hb dX8_stays_36 (by decide) ?_
      refine lv_ldc2 (v := (3 : Int64)) hx hb hown (hts (.constantLong RX8 73 (3)) (List.mem_of_getElem? (i := 1) rfl)) dX8_stays_37 ?_
      obtain ⟨r32, hr33, g25⟩ := hk_x1 g25
      refine vp_callSi (W.runS (As := [.long ((((y23 / (16 : Int32)) + x4)).toInt64), .long (0 : Int64), .long (3 : Int64)]) (rest := []) ⟨hx, hb, hml, hown, hts⟩ (c_X8_in l ((((y23 / (16 : Int32)) + x4)).toInt64) (0 : Int64) (3 : Int64) _ hr33) (va_cwS 3 hts gX8_stays_X8_in rfl rfl rfl zs_X8_in ⟨Nat.le_of_ble_eq_true rfl, Nat.le_of_ble_eq_true rfl⟩) ⟨fun _ _ _ _ q => q, fun _ _ _ => ⟨rfl, trivial⟩⟩ rfl rfl hl.1 rfl (lv_room (Nat.le_of_ble_eq_true rfl)) dX8_stays_40 ⟨Nat.zero_le _, Nat.zero_le _⟩) (fun p35 e34 => ?_)
      rw [e34]
      refine lv_if_eq (tgt := 69) hx hb dX8_stays_43 (by decide) (fun c36 => ?_) (fun c36 => ?_)
      · replace g25 := hk_ip c36 g25
        refine lv_iconst (v := (0 : Int32)) hx hb dX8_stays_69 (by decide) ?_
        have g25 := Option.some.inj g25
        subst g25
        exact hjg25 ls (lv_sub hl [0, 1, 2, 4] rfl)
      replace g25 := hk_in c36 g25
      refine lv_iload hx hb dX8_stays_46 (lv_at hl 4 rfl) ?_
      refine lv_iconst (v := (4 : Int32)) hx hb dX8_stays_48 (by decide) ?_
      refine lv_idiv hx hb dX8_stays_49 (by decide) ?_
      refine lv_iconst (v := (4 : Int32)) hx hb dX8_stays_50 (by decide) ?_
      refine lv_irem hx hb dX8_stays_51 (by decide) ?_
      refine hk_ti (y := (hk_rem (y23 / (4 : Int32)) (4 : Int32))) rfl ?_
      refine lv_iload_n hx hb dX8_stays_52 rfl (lv_at hl 1 rfl) ?_
      refine lv_iadd hx hb dX8_stays_53 ?_
      refine lv_i2l (v := ((((hk_rem (y23 / (4 : Int32)) (4 : Int32)) + x3)).toInt64)) hx hb dX8_stays_54 rfl ?_
      refine lv_lconst (v := (0 : Int64)) hx hb dX8_stays_55 (by decide) ?_
      refine lv_ldc2 (v := (3 : Int64)) hx hb hown (hts (.constantLong RX8 73 (3)) (List.mem_of_getElem? (i := 1) rfl)) dX8_stays_56 ?_
      obtain ⟨r37, hr38, g25⟩ := hk_x1 g25
      refine vp_callSi (W.runS (As := [.long ((((hk_rem (y23 / (4 : Int32)) (4 : Int32)) + x3)).toInt64), .long (0 : Int64), .long (3 : Int64)]) (rest := []) ⟨hx, hb, hml, hown, hts⟩ (c_X8_in l ((((hk_rem (y23 / (4 : Int32)) (4 : Int32)) + x3)).toInt64) (0 : Int64) (3 : Int64) _ hr38) (va_cwS 3 hts gX8_stays_X8_in rfl rfl rfl zs_X8_in ⟨Nat.le_of_ble_eq_true rfl, Nat.le_of_ble_eq_true rfl⟩) ⟨fun _ _ _ _ q => q, fun _ _ _ => ⟨rfl, trivial⟩⟩ rfl rfl hl.1 rfl (lv_room (Nat.le_of_ble_eq_true rfl)) dX8_stays_59 ⟨Nat.zero_le _, Nat.zero_le _⟩) (fun p40 e39 => ?_)
      rw [e39]
      refine lv_if_eq (tgt := 69) hx hb dX8_stays_62 (by decide) (fun c41 => ?_) (fun c41 => ?_)
      · replace g25 := hk_ip c41 g25
        refine lv_iconst (v := (0 : Int32)) hx hb dX8_stays_69 (by decide) ?_
        have g25 := Option.some.inj g25
        subst g25
        exact hjg25 ls (lv_sub hl [0, 1, 2, 4] rfl)
      replace g25 := hk_in c41 g25
      refine lv_iconst (v := (1 : Int32)) hx hb dX8_stays_65 (by decide) ?_
      refine lv_goto (tgt := 70) hx hb dX8_stays_66 (by decide) ?_
      have g25 := Option.some.inj g25
      subst g25
      exact hjg25 ls (lv_sub hl [0, 1, 2, 4] rfl)
    intro ls hl
    have hl : lv_has ls 7 [(1, .long x1), (3, .int x3), (4, .int x4), (6, .int y23)] := hl
    show W _ _ _ _ _ _ _ _ _ _ _ _ _ _ _ (F0 m 70 ls [.int v42])
    refine lv_istore (lv' := [(5, .int v42), (1, .long x1), (3, .int x3), (4, .int x4), (6, .int y23)]) hx hb dX8_stays_70 hl (by decide) rfl (fun ls hl => ?_)
    obtain ⟨x43, ex43, k21⟩ := hk_le k21
    refine lv_iinc (v := x43) (lv' := [(6, .int x43), (5, .int v42), (1, .long x1), (3, .int x3), (4, .int x4)]) hx hb dX8_stays_72 hl (k := 4) rfl (by rw [ex43]; rfl) (by decide) rfl (fun ls hl => ?_)
    refine lv_goto (tgt := 6) hx hb dX8_stays_75 (by decide) ?_
    exact hck21 (v42, x43) (Option.some.inj k21).symm ls (lv_sub hl [2, 3, 4, 1, 0] rfl)
  intro ls hl
  have hl : lv_has ls 7 [(5, .int z45)] := hl
  show W _ _ _ _ _ _ _ _ _ _ _ _ _ _ _ (F0 m 78 ls [])
  refine lv_iload hx hb dX8_stays_78 (lv_at hl 0 rfl) ?_
  obtain ⟨hz48, h⟩ := hk_ge h
  subst hQ
  exact W.zret hx hb hr (hk_isb_of hz48) (fun t ht hW => ⟨_, rfl, Option.some.inj h, ht⟩) (fun _ h9 => by cases h9) dX8_stays_80
theorem zs_X8_shifted : yX8_shifted.cls ≠ "java/lang/invoke/MethodHandle" ∧ yX8_shifted.cls ≠ "java/lang/invoke/VarHandle" ∧ (parseMethodDescriptor yX8_shifted.desc).map (fun d => d.parameters.length) = some 3 := by decide +kernel
def st_X8_shifted_16c (x0 : Int64) (x21 : Int32) (y23 : Int64) (y24 : Int32) : Option ((Int64 × Int32) ⊕ Int64) := if (64 : Int32) ≤ y24 then (some (.inr y23)) else (hk_b1 (f_X8_has x0 y24) fun r26 => hk_let (if r26 = 0 then ((0 : Int64)) else ((hk_shl (1 : Int64) (y24 + x21)))) fun v32 => hk_let (y23 ||| v32) fun x33 => hk_let (y24 + (1 : Int32)) fun x34 => some (.inl (x33, x34)))
def st_X8_shifted_16 (x0 : Int64) (x21 : Int32) (t9 : (Int64 × Int32)) : Option ((Int64 × Int32) ⊕ Int64) := st_X8_shifted_16c x0 x21 t9.1 t9.2
def f_X8_shifted   (x0 : Int64) (x2 : Int32) (x3 : Int32) : Option Int64 := hk_let (((16 : Int32) * x3) + ((4 : Int32) * x2)) fun x21 => hk_b1 (hk_wl (st_X8_shifted_16 x0 x21) hkF ((0 : Int64), (0 : Int32))) fun z36 => some z36
set_option maxHeartbeats 8000000 in
set_option maxRecDepth 100000 in
theorem c_X8_shifted (l : Launch) (x0 : Int64) (x2 : Int32) (x3 : Int32) (rv : Int64) (hf : f_X8_shifted x0 x2 x3 = some rv) : Met l yX8_shifted wsX8_shifted ({ frames := 1, cells := 0, slots := 0, locals := 22 }) (va_Pc [.long x0, .int x2, .int x3] (fun _ => True)) (vp_Sl (fun r => r = rv)) 0 0 (fun _ => False) := by
  refine Met.ofW (cc := cX8_shifted) (maxL := 8) (ret := (some .long)) (by decide) rfl ?_
  intro p e s m args below meth c s₁ B hml hv
  obtain ⟨rfl, -⟩ := hv
  have hx := B.exec
  have hb := B.bytes
  have hr := B.returns
  have hts := atoms_spec (ws := wsX8_shifted) B.pre
  have hown : s.vm.findClass RX8 = some m.cls := findClass_of_methodNamed B.named
  have hlocks := B.notSynchronized
  have hl := lv_entry ([.long x0, .int x2, .int x3]) (n := 8) (Nat.le_of_ble_eq_true rfl)
  rw [lg_entry_eq]
  generalize (lg_sl ([.long x0, .int x2, .int x3]) ++ List.replicate (8 - (lg_sl ([.long x0, .int x2, .int x3])).length) Slot.unset).toArray = ls at hl ⊢
  have hl : lv_has ls 8 [(0, .long x0), (2, .int x2), (3, .int x3)] := hl
  refine hk_Q (fun Q hQ => ?_)
  have h := hf
  unfold f_X8_shifted at h
  refine lv_bipush (v := (16 : Int32)) hx hb dX8_shifted_0 (by decide) ?_
  refine lv_iload_n hx hb dX8_shifted_2 rfl (lv_at hl 2 rfl) ?_
  refine lv_imul hx hb dX8_shifted_3 ?_
  refine lv_iconst (v := (4 : Int32)) hx hb dX8_shifted_4 (by decide) ?_
  refine lv_iload_n hx hb dX8_shifted_5 rfl (lv_at hl 1 rfl) ?_
  refine lv_imul hx hb dX8_shifted_6 ?_
  refine lv_iadd hx hb dX8_shifted_7 ?_
  obtain ⟨x21, ex21, h⟩ := hk_le h
  refine hk_ti ex21 ?_
  refine lv_istore (lv' := [(4, .int x21), (0, .long x0), (2, .int x2), (3, .int x3)]) hx hb dX8_shifted_8 hl (by decide) rfl (fun ls hl => ?_)
  refine lv_lconst (v := (0 : Int64)) hx hb dX8_shifted_10 (by decide) ?_
  refine lv_lstore (lv' := [(5, .long (0 : Int64)), (4, .int x21), (0, .long x0), (2, .int x2), (3, .int x3)]) hx hb dX8_shifted_11 hl (by decide) rfl (fun ls hl => ?_)
  refine lv_iconst (v := (0 : Int32)) hx hb dX8_shifted_13 (by decide) ?_
  refine lv_istore (lv' := [(7, .int (0 : Int32)), (5, .long (0 : Int64)), (4, .int x21), (0, .long x0), (2, .int x2), (3, .int x3)]) hx hb dX8_shifted_14 hl (by decide) rfl (fun ls hl => ?_)
  obtain ⟨z36, hr35, h⟩ := hk_x1 h
  refine hk_loopR (f := st_X8_shifted_16 x0 x21) (hd := 16) (nL := 8) (lv := fun t9 => [(0, .long x0), (4, .int x21), (5, .long t9.1), (7, .int t9.2)]) (xs := fun t9 => (54, [(5, .long t9)], [])) ?_ hr35 ?_ (lv_sub hl [3, 2, 1, 0] rfl)
  · intro t37 q38 k22 hck22 hqk22 ls hl
    obtain ⟨y23, y24⟩ := t37
    have k22 : st_X8_shifted_16c x0 x21 y23 y24 = some q38 := k22
    unfold st_X8_shifted_16c at k22
    have hl : lv_has ls 8 [(0, .long x0), (4, .int x21), (5, .long y23), (7, .int y24)] := hl
    refine lv_iload hx hb dX8_shifted_16 (lv_at hl 3 rfl) ?_
    refine lv_bipush (v := (64 : Int32)) hx hb dX8_shifted_18 (by decide) ?_
    refine lv_icmp_ge (tgt := 54) hx hb dX8_shifted_20 (by decide) (fun c25 => ?_) (fun c25 => ?_)
    · replace k22 := hk_ip c25 k22
      exact hqk22 y23 (Option.some.inj k22).symm ls (lv_sub hl [2] rfl)
    replace k22 := hk_in c25 k22
    refine lv_lload hx hb dX8_shifted_23 (lv_at hl 2 rfl) ?_
    refine lv_lload_n hx hb dX8_shifted_25 rfl (lv_at hl 0 rfl) ?_
    refine lv_iload hx hb dX8_shifted_26 (lv_at hl 3 rfl) ?_
    obtain ⟨r26, hr27, k22⟩ := hk_x1 k22
    refine vp_callSi (W.runS (As := [.long x0, .int y24]) (rest := [.long y23]) ⟨hx, hb, hml, hown, hts⟩ (c_X8_has l x0 y24 _ hr27) (va_cwS 2 hts gX8_shifted_X8_has rfl rfl rfl zs_X8_has ⟨Nat.le_of_ble_eq_true rfl, Nat.le_of_ble_eq_true rfl⟩) ⟨fun _ _ _ _ q => q, fun _ _ _ => ⟨rfl, trivial⟩⟩ rfl rfl hl.1 rfl (lv_room (Nat.le_of_ble_eq_true rfl)) dX8_shifted_28 ⟨Nat.zero_le _, Nat.zero_le _⟩) (fun p29 e28 => ?_)
    rw [e28]
    obtain ⟨v32, g30, k22⟩ := hk_lf k22
    refine hk_joinR (nL := 8) (xs := fun (t9 : Int64) => (45, [(0, .long x0), (4, .int x21), (7, .int y24)], [.long t9, .long y23])) v32 (fun hjg30 => ?_) ?_
    · refine lv_if_eq (tgt := 44) hx hb dX8_shifted_31 (by decide) (fun c31 => ?_) (fun c31 => ?_)
      · replace g30 := hk_ip c31 g30
        refine lv_lconst (v := (0 : Int64)) hx hb dX8_shifted_44 (by decide) ?_
        subst g30
        exact hjg30 ls (lv_sub hl [0, 1, 3] rfl)
      replace g30 := hk_in c31 g30
      refine lv_lconst (v := (1 : Int64)) hx hb dX8_shifted_34 (by decide) ?_
      refine lv_iload hx hb dX8_shifted_35 (lv_at hl 3 rfl) ?_
      refine lv_iload hx hb dX8_shifted_37 (lv_at hl 1 rfl) ?_
      refine lv_iadd hx hb dX8_shifted_39 ?_
      refine lv_lshl (v := (hk_shl (1 : Int64) (y24 + x21))) hx hb dX8_shifted_40 rfl ?_
      refine lv_goto (tgt := 45) hx hb dX8_shifted_41 (by decide) ?_
      subst g30
      exact hjg30 ls (lv_sub hl [0, 1, 3] rfl)
    intro ls hl
    have hl : lv_has ls 8 [(0, .long x0), (4, .int x21), (7, .int y24)] := hl
    show W _ _ _ _ _ _ _ _ _ _ _ _ _ _ _ (F0 m 45 ls [.long v32, .long y23])
    refine lv_lor hx hb dX8_shifted_45 ?_
    obtain ⟨x33, ex33, k22⟩ := hk_le k22
    refine hk_tl ex33 ?_
    refine lv_lstore (lv' := [(5, .long x33), (0, .long x0), (4, .int x21), (7, .int y24)]) hx hb dX8_shifted_46 hl (by decide) rfl (fun ls hl => ?_)
    obtain ⟨x34, ex34, k22⟩ := hk_le k22
    refine lv_iinc (v := x34) (lv' := [(7, .int x34), (5, .long x33), (0, .long x0), (4, .int x21)]) hx hb dX8_shifted_48 hl (k := 3) rfl (by rw [ex34]; rfl) (by decide) rfl (fun ls hl => ?_)
    refine lv_goto (tgt := 16) hx hb dX8_shifted_51 (by decide) ?_
    exact hck22 (x33, x34) (Option.some.inj k22).symm ls (lv_sub hl [2, 3, 1, 0] rfl)
  intro ls hl
  have hl : lv_has ls 8 [(5, .long z36)] := hl
  show W _ _ _ _ _ _ _ _ _ _ _ _ _ _ _ (F0 m 54 ls [])
  refine lv_lload hx hb dX8_shifted_54 (lv_at hl 0 rfl) ?_
  subst hQ
  exact W.lret hx hb hr (fun t ht hW => ⟨_, rfl, Option.some.inj h, ht⟩) (fun _ h9 => by cases h9) dX8_shifted_56
theorem zv_X8_turn : yX8_turn.cls = RX8 ∧ yX8_turn.cls ≠ "java/lang/invoke/MethodHandle" ∧ yX8_turn.cls ≠ "java/lang/invoke/VarHandle" ∧ (parseMethodDescriptor yX8_turn.desc).map (fun d => d.parameters.length) = some 2 := by decide +kernel
def f_X8_turn (c_this_figures : Nat → Int64) (c_this_turned : Nat → Int32)  (x1 : Int32) (x2 : Int32) : Option (Int32 × (Nat → Int64)) := hk_b1 (f_X8_isFigure x1) fun r21 => if r21 = 0 then (some ((-1 : Int32), c_this_figures)) else (hk_b1 (f_X8_in (x2.toInt64) (0 : Int64) (7 : Int64)) fun r26 => if r26 = 0 then (some ((-2 : Int32), c_this_figures)) else (hk_gd (hk_inb x1 8) (hk_let (c_this_figures x1.toNatClampNeg) fun x32 => hk_b1 (f_X8_turnedBy c_this_turned x32 x2) fun r33 => hk_gd (hk_inb x1 8) (hk_gd (hk_inb x1 8) (if x32 = ((vp_updL c_this_figures x1.toNatClampNeg r33) x1.toNatClampNeg) then (some ((0 : Int32), (vp_updL c_this_figures x1.toNatClampNeg r33))) else (some ((1 : Int32), (vp_updL c_this_figures x1.toNatClampNeg r33))))))))
theorem zi_X8_turn_X8 : ∀ w ∈ u_ws RX8 TX8 23, w ∈ wsX8_turn := by decide +kernel
set_option maxHeartbeats 8000000 in
set_option maxRecDepth 100000 in
theorem c_X8_turn (l : Launch) (D : va_G) (cI cJ cZ cO : ClassId) (a_this a_this_near a_this_turned a_this_figures a_this_text a_this_sectors a_this_corners a_this_likes a_this_laid a_this_isMirrored a_this_places a_this_placeMany a_this_now a_this_firsts a_this_forms a_this_isKept a_this_keptFigures a_this_keptPieces a_this_keptLaid a_this_keptMirrored : Nat) (sz : Nat) (c_this_length : Int32) (c_this_doubles : Int32) (c_this_likeMany : Int32) (c_this_pieces : Int32) (c_this_figures : Nat → Int64) (c_this_turned : Nat → Int32) (x1 : Int32) (x2 : Int32) (rv : Int32) (u_this_figures : Nat → Int64) (hf : f_X8_turn c_this_figures c_this_turned x1 x2 = some (rv, u_this_figures)) : Met l yX8_turn wsX8_turn ({ frames := 2, cells := 0, slots := 0, locals := 48 }) (va_Pc [.ref a_this, .int x1, .int x2] (hkM D cI cJ cZ cO [(a_this, .inr (4, [.ref a_this_near, .ref a_this_turned, .ref a_this_figures, .ref a_this_text, .int c_this_length, .ref a_this_sectors, .ref a_this_corners, .int c_this_doubles, .ref a_this_likes, .int c_this_likeMany, .int c_this_pieces, .ref a_this_laid, .ref a_this_isMirrored, .ref a_this_places, .ref a_this_placeMany, .ref a_this_now, .ref a_this_firsts, .ref a_this_forms, .ref a_this_isKept, .ref a_this_keptFigures, .ref a_this_keptPieces, .ref a_this_keptLaid, .ref a_this_keptMirrored])), (a_this_figures, .inl (cJ, 8, .inr (.inl c_this_figures))), (a_this_turned, .inl (cI, 512, .inl c_this_turned))] sz)) (va_Qi (fun r (_ : Unit) => r = rv) (fun _ t => va_P D vwCl [(a_this, .inr (4, [.ref a_this_near, .ref a_this_turned, .ref a_this_figures, .ref a_this_text, .int c_this_length, .ref a_this_sectors, .ref a_this_corners, .int c_this_doubles, .ref a_this_likes, .int c_this_likeMany, .int c_this_pieces, .ref a_this_laid, .ref a_this_isMirrored, .ref a_this_places, .ref a_this_placeMany, .ref a_this_now, .ref a_this_firsts, .ref a_this_forms, .ref a_this_isKept, .ref a_this_keptFigures, .ref a_this_keptPieces, .ref a_this_keptLaid, .ref a_this_keptMirrored])), (a_this_figures, .inl (cJ, 8, .inr (.inl u_this_figures))), (a_this_turned, .inl (cI, 512, .inl c_this_turned))] t.heap ∧ va_D (va_A [(a_this, .inr (4, [.ref a_this_near, .ref a_this_turned, .ref a_this_figures, .ref a_this_text, .int c_this_length, .ref a_this_sectors, .ref a_this_corners, .int c_this_doubles, .ref a_this_likes, .int c_this_likeMany, .int c_this_pieces, .ref a_this_laid, .ref a_this_isMirrored, .ref a_this_places, .ref a_this_placeMany, .ref a_this_now, .ref a_this_firsts, .ref a_this_forms, .ref a_this_isKept, .ref a_this_keptFigures, .ref a_this_keptPieces, .ref a_this_keptLaid, .ref a_this_keptMirrored])), (a_this_figures, .inl (cJ, 8, .inr (.inl c_this_figures))), (a_this_turned, .inl (cI, 512, .inl c_this_turned))] sz) [(a_this, .inr (4, [.ref a_this_near, .ref a_this_turned, .ref a_this_figures, .ref a_this_text, .int c_this_length, .ref a_this_sectors, .ref a_this_corners, .int c_this_doubles, .ref a_this_likes, .int c_this_likeMany, .int c_this_pieces, .ref a_this_laid, .ref a_this_isMirrored, .ref a_this_places, .ref a_this_placeMany, .ref a_this_now, .ref a_this_firsts, .ref a_this_forms, .ref a_this_isKept, .ref a_this_keptFigures, .ref a_this_keptPieces, .ref a_this_keptLaid, .ref a_this_keptMirrored])), (a_this_figures, .inl (cJ, 8, .inr (.inl u_this_figures))), (a_this_turned, .inl (cI, 512, .inl c_this_turned))]) (va_A [(a_this, .inr (4, [.ref a_this_near, .ref a_this_turned, .ref a_this_figures, .ref a_this_text, .int c_this_length, .ref a_this_sectors, .ref a_this_corners, .int c_this_doubles, .ref a_this_likes, .int c_this_likeMany, .int c_this_pieces, .ref a_this_laid, .ref a_this_isMirrored, .ref a_this_places, .ref a_this_placeMany, .ref a_this_now, .ref a_this_firsts, .ref a_this_forms, .ref a_this_isKept, .ref a_this_keptFigures, .ref a_this_keptPieces, .ref a_this_keptLaid, .ref a_this_keptMirrored])), (a_this_figures, .inl (cJ, 8, .inr (.inl c_this_figures))), (a_this_turned, .inl (cI, 512, .inl c_this_turned))] sz)) 0 0 (va_A [(a_this, .inr (4, [.ref a_this_near, .ref a_this_turned, .ref a_this_figures, .ref a_this_text, .int c_this_length, .ref a_this_sectors, .ref a_this_corners, .int c_this_doubles, .ref a_this_likes, .int c_this_likeMany, .int c_this_pieces, .ref a_this_laid, .ref a_this_isMirrored, .ref a_this_places, .ref a_this_placeMany, .ref a_this_now, .ref a_this_firsts, .ref a_this_forms, .ref a_this_isKept, .ref a_this_keptFigures, .ref a_this_keptPieces, .ref a_this_keptLaid, .ref a_this_keptMirrored])), (a_this_figures, .inl (cJ, 8, .inr (.inl c_this_figures))), (a_this_turned, .inl (cI, 512, .inl c_this_turned))] sz) := by
  refine Met.ofW (cc := cX8_turn) (maxL := 5) (ret := (some .int)) (by decide) rfl ?_
  intro p e s m args below meth c s₁ B hml hv
  obtain ⟨rfl, hsz, hP, hK, hD0⟩ := hv
  have hx := B.exec
  have hb := B.bytes
  have hr := B.returns
  have hts := atoms_spec (ws := wsX8_turn) B.pre
  have hown : s.vm.findClass RX8 = some m.cls := findClass_of_methodNamed B.named
  have hlocks := B.notSynchronized
  have hN := hK.2
  subst hsz
  have hD := hD0.self (sz := s.heap.size)
  generalize hAe : va_A [(a_this, .inr (4, [.ref a_this_near, .ref a_this_turned, .ref a_this_figures, .ref a_this_text, .int c_this_length, .ref a_this_sectors, .ref a_this_corners, .int c_this_doubles, .ref a_this_likes, .int c_this_likeMany, .int c_this_pieces, .ref a_this_laid, .ref a_this_isMirrored, .ref a_this_places, .ref a_this_placeMany, .ref a_this_now, .ref a_this_firsts, .ref a_this_forms, .ref a_this_isKept, .ref a_this_keptFigures, .ref a_this_keptPieces, .ref a_this_keptLaid, .ref a_this_keptMirrored])), (a_this_figures, .inl (cJ, 8, .inr (.inl c_this_figures))), (a_this_turned, .inl (cI, 512, .inl c_this_turned))] s.heap.size = A at hD ⊢
  have hA : ∀ q : Nat, s.heap.size ≤ q → A q := fun q h => by rw [← hAe]; exact Or.inr h
  have hS : va_S A s.heap s.heap [] := va_S.rf
  have hl := lv_entry ([.ref a_this, .int x1, .int x2]) (n := 5) (Nat.le_of_ble_eq_true rfl)
  rw [lg_entry_eq]
  generalize (lg_sl ([.ref a_this, .int x1, .int x2]) ++ List.replicate (5 - (lg_sl ([.ref a_this, .int x1, .int x2])).length) Slot.unset).toArray = ls at hl ⊢
  have hl : lv_has ls 5 [(0, .ref a_this), (1, .int x1), (2, .int x2)] := hl
  refine hk_Q (fun Q hQ => ?_)
  have h := hf
  unfold f_X8_turn at h
  refine lv_iload_n hx hb dX8_turn_0 rfl (lv_at hl 1 rfl) ?_
  obtain ⟨r21, hr22, h⟩ := hk_x1 h
  refine vp_callSi (W.runS (As := [.int x1]) (rest := []) ⟨hx, hb, hml, hown, hts⟩ (c_X8_isFigure l x1 _ hr22) (va_cwS 1 hts gX8_turn_X8_isFigure rfl rfl rfl zs_X8_isFigure ⟨Nat.le_of_ble_eq_true rfl, Nat.le_of_ble_eq_true rfl⟩) ⟨fun _ _ _ _ q => q, fun _ _ _ => ⟨rfl, trivial⟩⟩ rfl rfl hl.1 rfl (lv_room (Nat.le_of_ble_eq_true rfl)) dX8_turn_1 ⟨Nat.zero_le _, Nat.zero_le _⟩) (fun p24 e23 => ?_)
  rw [e23]
  refine lv_if_ne (tgt := 9) hx hb dX8_turn_4 (by decide) (fun c25 => ?_) (fun c25 => ?_)
  · replace h := hk_in c25 h
    refine lv_iload_n hx hb dX8_turn_9 rfl (lv_at hl 2 rfl) ?_
    refine lv_i2l (v := (x2.toInt64)) hx hb dX8_turn_10 rfl ?_
    refine lv_lconst (v := (0 : Int64)) hx hb dX8_turn_11 (by decide) ?_
    refine lv_ldc2 (v := (7 : Int64)) hx hb hown (hts (.constantLong RX8 81 (7)) (List.mem_of_getElem? (i := 1) rfl)) dX8_turn_12 ?_
    obtain ⟨r26, hr27, h⟩ := hk_x1 h
    refine vp_callSi (W.runS (As := [.long (x2.toInt64), .long (0 : Int64), .long (7 : Int64)]) (rest := []) ⟨hx, hb, hml, hown, hts⟩ (c_X8_in l (x2.toInt64) (0 : Int64) (7 : Int64) _ hr27) (va_cwS 3 hts gX8_turn_X8_in rfl rfl rfl zs_X8_in ⟨Nat.le_of_ble_eq_true rfl, Nat.le_of_ble_eq_true rfl⟩) ⟨fun _ _ _ _ q => q, fun _ _ _ => ⟨rfl, trivial⟩⟩ rfl rfl hl.1 rfl (lv_room (Nat.le_of_ble_eq_true rfl)) dX8_turn_15 ⟨Nat.zero_le _, Nat.zero_le _⟩) (fun p29 e28 => ?_)
    rw [e28]
    refine lv_if_ne (tgt := 24) hx hb dX8_turn_18 (by decide) (fun c30 => ?_) (fun c30 => ?_)
    · replace h := hk_in c30 h
      refine lv_aload_n hx hb dX8_turn_24 rfl (lv_at hl 0 rfl) ?_
      refine va_get (D := D) (ci := 4) (v := .ref a_this_figures) (C := RX8) (T := TX8) (N := 23) hx hb hts zi_X8_turn_X8 hown hK.1 hP 0 rfl rfl 2 (by decide) (hts (.fieldLink RX8 17 "HalfAndHalfAgainModel" "figures" "[J") (List.mem_of_getElem? (i := 2) rfl)) (fun _ h9 => h9) rfl dX8_turn_25 ?_
      refine lv_iload_n hx hb dX8_turn_28 rfl (lv_at hl 1 rfl) ?_
      obtain ⟨hi31, h⟩ := hk_ge h
      refine va_lald hx hb hK.1 hP 1 1 rfl rfl (hk_inb_of hi31) dX8_turn_29 ?_
      obtain ⟨x32, ex32, h⟩ := hk_le h
      refine hk_tl ex32 ?_
      refine lv_lstore_n (lv' := [(3, .long x32), (0, .ref a_this), (1, .int x1), (2, .int x2)]) hx hb dX8_turn_30 rfl hl (by decide) rfl (fun ls hl => ?_)
      refine lv_aload_n hx hb dX8_turn_31 rfl (lv_at hl 1 rfl) ?_
      refine va_get (D := D) (ci := 4) (v := .ref a_this_figures) (C := RX8) (T := TX8) (N := 23) hx hb hts zi_X8_turn_X8 hown hK.1 hP 0 rfl rfl 2 (by decide) (hts (.fieldLink RX8 17 "HalfAndHalfAgainModel" "figures" "[J") (List.mem_of_getElem? (i := 2) rfl)) (fun _ h9 => h9) rfl dX8_turn_32 ?_
      refine lv_iload_n hx hb dX8_turn_35 rfl (lv_at hl 2 rfl) ?_
      refine lv_aload_n hx hb dX8_turn_36 rfl (lv_at hl 1 rfl) ?_
      refine lv_lload_n hx hb dX8_turn_37 rfl (lv_at hl 0 rfl) ?_
      refine lv_iload_n hx hb dX8_turn_38 rfl (lv_at hl 3 rfl) ?_
      obtain ⟨r33, hr34, h⟩ := hk_x1 h
      refine vp_callSl (W.runV (As := [.long x32, .int x2]) (rest := [.int x1, .ref a_this_figures]) ⟨hx, hb, hml, hown, hts⟩ (c_X8_turnedBy l D cI cJ cZ cO a_this a_this_near a_this_turned a_this_figures a_this_text a_this_sectors a_this_corners a_this_likes a_this_laid a_this_isMirrored a_this_places a_this_placeMany a_this_now a_this_firsts a_this_forms a_this_isKept a_this_keptFigures a_this_keptPieces a_this_keptLaid a_this_keptMirrored c_this_length c_this_doubles c_this_likeMany c_this_pieces c_this_turned x32 x2 _ hr34) (cwV 2 hts gX8_turn_X8_turnedBy rfl rfl rfl zv_X8_turnedBy ⟨Nat.le_of_ble_eq_true rfl, Nat.le_of_ble_eq_true rfl⟩) (hk_preRV 4 rfl (hP.sub (ws' := [(a_this, .inr (4, [.ref a_this_near, .ref a_this_turned, .ref a_this_figures, .ref a_this_text, .int c_this_length, .ref a_this_sectors, .ref a_this_corners, .int c_this_doubles, .ref a_this_likes, .int c_this_likeMany, .int c_this_pieces, .ref a_this_laid, .ref a_this_isMirrored, .ref a_this_places, .ref a_this_placeMany, .ref a_this_now, .ref a_this_firsts, .ref a_this_forms, .ref a_this_isKept, .ref a_this_keptFigures, .ref a_this_keptPieces, .ref a_this_keptLaid, .ref a_this_keptMirrored])), (a_this_turned, .inl (cI, 512, .inl c_this_turned))]) [0, 2] rfl) hK rfl) rfl rfl hl.1 rfl (lv_room (Nat.le_of_ble_eq_true rfl)) dX8_turn_39 ⟨Nat.zero_le _, Nat.zero_le _⟩) (fun p36 e35 => ?_)
      rw [e35]
      obtain ⟨hi37, h⟩ := hk_ge h
      refine va_last hx hb hK.1 hP hD hS 1 1 rfl rfl (hk_inb_of hi37) dX8_turn_42 (fun H locs hP hD hS => ?_)
      have hP : va_P D vwCl [(a_this, .inr (4, [.ref a_this_near, .ref a_this_turned, .ref a_this_figures, .ref a_this_text, .int c_this_length, .ref a_this_sectors, .ref a_this_corners, .int c_this_doubles, .ref a_this_likes, .int c_this_likeMany, .int c_this_pieces, .ref a_this_laid, .ref a_this_isMirrored, .ref a_this_places, .ref a_this_placeMany, .ref a_this_now, .ref a_this_firsts, .ref a_this_forms, .ref a_this_isKept, .ref a_this_keptFigures, .ref a_this_keptPieces, .ref a_this_keptLaid, .ref a_this_keptMirrored])), (a_this_figures, .inl (cJ, 8, .inr (.inl (vp_updL c_this_figures x1.toNatClampNeg r33)))), (a_this_turned, .inl (cI, 512, .inl c_this_turned))] H := hP
      have hD : va_D A [(a_this, .inr (4, [.ref a_this_near, .ref a_this_turned, .ref a_this_figures, .ref a_this_text, .int c_this_length, .ref a_this_sectors, .ref a_this_corners, .int c_this_doubles, .ref a_this_likes, .int c_this_likeMany, .int c_this_pieces, .ref a_this_laid, .ref a_this_isMirrored, .ref a_this_places, .ref a_this_placeMany, .ref a_this_now, .ref a_this_firsts, .ref a_this_forms, .ref a_this_isKept, .ref a_this_keptFigures, .ref a_this_keptPieces, .ref a_this_keptLaid, .ref a_this_keptMirrored])), (a_this_figures, .inl (cJ, 8, .inr (.inl (vp_updL c_this_figures x1.toNatClampNeg r33)))), (a_this_turned, .inl (cI, 512, .inl c_this_turned))] := hD
      refine lv_lload_n hx hb dX8_turn_43 rfl (lv_at hl 0 rfl) ?_
      refine lv_aload_n hx hb dX8_turn_44 rfl (lv_at hl 1 rfl) ?_
      refine va_get (D := D) (ci := 4) (v := .ref a_this_figures) (C := RX8) (T := TX8) (N := 23) hx hb hts zi_X8_turn_X8 hown hK.1 hP 0 rfl rfl 2 (by decide) (hts (.fieldLink RX8 17 "HalfAndHalfAgainModel" "figures" "[J") (List.mem_of_getElem? (i := 2) rfl)) (fun _ h9 => h9) rfl dX8_turn_45 ?_
      refine lv_iload_n hx hb dX8_turn_48 rfl (lv_at hl 2 rfl) ?_
      obtain ⟨hi38, h⟩ := hk_ge h
      refine va_lald hx hb hK.1 hP 1 1 rfl rfl (hk_inb_of hi38) dX8_turn_49 ?_
      refine hk_lcmp_ne (tgt := 58) hx hb dX8_turn_50 dX8_turn_51 (by decide) (fun c39 => ?_) (fun c39 => ?_)
      · replace h := hk_in c39 h
        refine lv_iconst (v := (1 : Int32)) hx hb dX8_turn_58 (by decide) ?_
        subst hQ
        have h := Option.some.inj h
        simp only [Prod.mk.injEq] at h
        obtain ⟨rfl, rfl⟩ := h
        exact W.iret hx hb hr (fun t ht hW => ⟨⟨_, (), rfl, rfl, by rw [ht]; exact hP, hD⟩, hS.F ht⟩) hS.2.2 dX8_turn_59
      replace h := hk_ip c39 h
      refine lv_iconst (v := (0 : Int32)) hx hb dX8_turn_54 (by decide) ?_
      refine lv_goto (tgt := 59) hx hb dX8_turn_55 (by decide) ?_
      subst hQ
      have h := Option.some.inj h
      simp only [Prod.mk.injEq] at h
      obtain ⟨rfl, rfl⟩ := h
      exact W.iret hx hb hr (fun t ht hW => ⟨⟨_, (), rfl, rfl, by rw [ht]; exact hP, hD⟩, hS.F ht⟩) hS.2.2 dX8_turn_59
    replace h := hk_ip c30 h
    refine lv_bipush (v := (-2 : Int32)) hx hb dX8_turn_21 (by decide) ?_
    subst hQ
    have h := Option.some.inj h
    simp only [Prod.mk.injEq] at h
    obtain ⟨rfl, rfl⟩ := h
    exact W.iret hx hb hr (fun t ht hW => ⟨⟨_, (), rfl, rfl, by rw [ht]; exact hP, hD⟩, hS.F ht⟩) hS.2.2 dX8_turn_23
  replace h := hk_ip c25 h
  refine lv_iconst (v := (-1 : Int32)) hx hb dX8_turn_7 (by decide) ?_
  subst hQ
  have h := Option.some.inj h
  simp only [Prod.mk.injEq] at h
  obtain ⟨rfl, rfl⟩ := h
  exact W.iret hx hb hr (fun t ht hW => ⟨⟨_, (), rfl, rfl, by rw [ht]; exact hP, hD⟩, hS.F ht⟩) hS.2.2 dX8_turn_8
theorem zv_X8_shift : yX8_shift.cls = RX8 ∧ yX8_shift.cls ≠ "java/lang/invoke/MethodHandle" ∧ yX8_shift.cls ≠ "java/lang/invoke/VarHandle" ∧ (parseMethodDescriptor yX8_shift.desc).map (fun d => d.parameters.length) = some 3 := by decide +kernel
def f_X8_shift (c_this_figures : Nat → Int64)  (x1 : Int32) (x2 : Int32) (x3 : Int32) : Option (Int32 × (Nat → Int64)) := hk_b1 (f_X8_isFigure x1) fun r21 => if r21 = 0 then (some ((-1 : Int32), c_this_figures)) else (hk_b1 (f_X8_in (x2.toInt64) (-3 : Int64) (3 : Int64)) fun r26 => if r26 = 0 then (some ((-2 : Int32), c_this_figures)) else (hk_b1 (f_X8_in (x3.toInt64) (-3 : Int64) (3 : Int64)) fun r31 => if r31 = 0 then (some ((-2 : Int32), c_this_figures)) else (hk_gd (hk_inb x1 8) (hk_b1 (f_X8_stays (c_this_figures x1.toNatClampNeg) x2 x3) fun r37 => if r37 = 0 then (some ((-3 : Int32), c_this_figures)) else (hk_gd (hk_inb x1 8) (hk_b1 (f_X8_shifted (c_this_figures x1.toNatClampNeg) x2 x3) fun r43 => hk_gd (hk_inb x1 8) (hk_gd (hk_inb x1 8) (hk_b1 (f_X8_ones ((vp_updL c_this_figures x1.toNatClampNeg r43) x1.toNatClampNeg)) fun r49 => some (r49, (vp_updL c_this_figures x1.toNatClampNeg r43))))))))))
theorem zi_X8_shift_X8 : ∀ w ∈ u_ws RX8 TX8 23, w ∈ wsX8_shift := by decide +kernel
set_option maxHeartbeats 8000000 in
set_option maxRecDepth 100000 in
theorem c_X8_shift (l : Launch) (D : va_G) (cI cJ cZ cO : ClassId) (a_this a_this_near a_this_turned a_this_figures a_this_text a_this_sectors a_this_corners a_this_likes a_this_laid a_this_isMirrored a_this_places a_this_placeMany a_this_now a_this_firsts a_this_forms a_this_isKept a_this_keptFigures a_this_keptPieces a_this_keptLaid a_this_keptMirrored : Nat) (sz : Nat) (c_this_length : Int32) (c_this_doubles : Int32) (c_this_likeMany : Int32) (c_this_pieces : Int32) (c_this_figures : Nat → Int64) (x1 : Int32) (x2 : Int32) (x3 : Int32) (rv : Int32) (u_this_figures : Nat → Int64) (hf : f_X8_shift c_this_figures x1 x2 x3 = some (rv, u_this_figures)) : Met l yX8_shift wsX8_shift ({ frames := 2, cells := 0, slots := 0, locals := 51 }) (va_Pc [.ref a_this, .int x1, .int x2, .int x3] (hkM D cI cJ cZ cO [(a_this, .inr (4, [.ref a_this_near, .ref a_this_turned, .ref a_this_figures, .ref a_this_text, .int c_this_length, .ref a_this_sectors, .ref a_this_corners, .int c_this_doubles, .ref a_this_likes, .int c_this_likeMany, .int c_this_pieces, .ref a_this_laid, .ref a_this_isMirrored, .ref a_this_places, .ref a_this_placeMany, .ref a_this_now, .ref a_this_firsts, .ref a_this_forms, .ref a_this_isKept, .ref a_this_keptFigures, .ref a_this_keptPieces, .ref a_this_keptLaid, .ref a_this_keptMirrored])), (a_this_figures, .inl (cJ, 8, .inr (.inl c_this_figures)))] sz)) (va_Qi (fun r (_ : Unit) => r = rv) (fun _ t => va_P D vwCl [(a_this, .inr (4, [.ref a_this_near, .ref a_this_turned, .ref a_this_figures, .ref a_this_text, .int c_this_length, .ref a_this_sectors, .ref a_this_corners, .int c_this_doubles, .ref a_this_likes, .int c_this_likeMany, .int c_this_pieces, .ref a_this_laid, .ref a_this_isMirrored, .ref a_this_places, .ref a_this_placeMany, .ref a_this_now, .ref a_this_firsts, .ref a_this_forms, .ref a_this_isKept, .ref a_this_keptFigures, .ref a_this_keptPieces, .ref a_this_keptLaid, .ref a_this_keptMirrored])), (a_this_figures, .inl (cJ, 8, .inr (.inl u_this_figures)))] t.heap ∧ va_D (va_A [(a_this, .inr (4, [.ref a_this_near, .ref a_this_turned, .ref a_this_figures, .ref a_this_text, .int c_this_length, .ref a_this_sectors, .ref a_this_corners, .int c_this_doubles, .ref a_this_likes, .int c_this_likeMany, .int c_this_pieces, .ref a_this_laid, .ref a_this_isMirrored, .ref a_this_places, .ref a_this_placeMany, .ref a_this_now, .ref a_this_firsts, .ref a_this_forms, .ref a_this_isKept, .ref a_this_keptFigures, .ref a_this_keptPieces, .ref a_this_keptLaid, .ref a_this_keptMirrored])), (a_this_figures, .inl (cJ, 8, .inr (.inl c_this_figures)))] sz) [(a_this, .inr (4, [.ref a_this_near, .ref a_this_turned, .ref a_this_figures, .ref a_this_text, .int c_this_length, .ref a_this_sectors, .ref a_this_corners, .int c_this_doubles, .ref a_this_likes, .int c_this_likeMany, .int c_this_pieces, .ref a_this_laid, .ref a_this_isMirrored, .ref a_this_places, .ref a_this_placeMany, .ref a_this_now, .ref a_this_firsts, .ref a_this_forms, .ref a_this_isKept, .ref a_this_keptFigures, .ref a_this_keptPieces, .ref a_this_keptLaid, .ref a_this_keptMirrored])), (a_this_figures, .inl (cJ, 8, .inr (.inl u_this_figures)))]) (va_A [(a_this, .inr (4, [.ref a_this_near, .ref a_this_turned, .ref a_this_figures, .ref a_this_text, .int c_this_length, .ref a_this_sectors, .ref a_this_corners, .int c_this_doubles, .ref a_this_likes, .int c_this_likeMany, .int c_this_pieces, .ref a_this_laid, .ref a_this_isMirrored, .ref a_this_places, .ref a_this_placeMany, .ref a_this_now, .ref a_this_firsts, .ref a_this_forms, .ref a_this_isKept, .ref a_this_keptFigures, .ref a_this_keptPieces, .ref a_this_keptLaid, .ref a_this_keptMirrored])), (a_this_figures, .inl (cJ, 8, .inr (.inl c_this_figures)))] sz)) 0 0 (va_A [(a_this, .inr (4, [.ref a_this_near, .ref a_this_turned, .ref a_this_figures, .ref a_this_text, .int c_this_length, .ref a_this_sectors, .ref a_this_corners, .int c_this_doubles, .ref a_this_likes, .int c_this_likeMany, .int c_this_pieces, .ref a_this_laid, .ref a_this_isMirrored, .ref a_this_places, .ref a_this_placeMany, .ref a_this_now, .ref a_this_firsts, .ref a_this_forms, .ref a_this_isKept, .ref a_this_keptFigures, .ref a_this_keptPieces, .ref a_this_keptLaid, .ref a_this_keptMirrored])), (a_this_figures, .inl (cJ, 8, .inr (.inl c_this_figures)))] sz) := by
  refine Met.ofW (cc := cX8_shift) (maxL := 4) (ret := (some .int)) (by decide) rfl ?_
  intro p e s m args below meth c s₁ B hml hv
  obtain ⟨rfl, hsz, hP, hK, hD0⟩ := hv
  have hx := B.exec
  have hb := B.bytes
  have hr := B.returns
  have hts := atoms_spec (ws := wsX8_shift) B.pre
  have hown : s.vm.findClass RX8 = some m.cls := findClass_of_methodNamed B.named
  have hlocks := B.notSynchronized
  have hN := hK.2
  subst hsz
  have hD := hD0.self (sz := s.heap.size)
  generalize hAe : va_A [(a_this, .inr (4, [.ref a_this_near, .ref a_this_turned, .ref a_this_figures, .ref a_this_text, .int c_this_length, .ref a_this_sectors, .ref a_this_corners, .int c_this_doubles, .ref a_this_likes, .int c_this_likeMany, .int c_this_pieces, .ref a_this_laid, .ref a_this_isMirrored, .ref a_this_places, .ref a_this_placeMany, .ref a_this_now, .ref a_this_firsts, .ref a_this_forms, .ref a_this_isKept, .ref a_this_keptFigures, .ref a_this_keptPieces, .ref a_this_keptLaid, .ref a_this_keptMirrored])), (a_this_figures, .inl (cJ, 8, .inr (.inl c_this_figures)))] s.heap.size = A at hD ⊢
  have hA : ∀ q : Nat, s.heap.size ≤ q → A q := fun q h => by rw [← hAe]; exact Or.inr h
  have hS : va_S A s.heap s.heap [] := va_S.rf
  have hl := lv_entry ([.ref a_this, .int x1, .int x2, .int x3]) (n := 4) (Nat.le_of_ble_eq_true rfl)
  rw [lg_entry_eq]
  generalize (lg_sl ([.ref a_this, .int x1, .int x2, .int x3]) ++ List.replicate (4 - (lg_sl ([.ref a_this, .int x1, .int x2, .int x3])).length) Slot.unset).toArray = ls at hl ⊢
  have hl : lv_has ls 4 [(0, .ref a_this), (1, .int x1), (2, .int x2), (3, .int x3)] := hl
  refine hk_Q (fun Q hQ => ?_)
  have h := hf
  unfold f_X8_shift at h
  refine lv_iload_n hx hb dX8_shift_0 rfl (lv_at hl 1 rfl) ?_
  obtain ⟨r21, hr22, h⟩ := hk_x1 h
  refine vp_callSi (W.runS (As := [.int x1]) (rest := []) ⟨hx, hb, hml, hown, hts⟩ (c_X8_isFigure l x1 _ hr22) (va_cwS 1 hts gX8_shift_X8_isFigure rfl rfl rfl zs_X8_isFigure ⟨Nat.le_of_ble_eq_true rfl, Nat.le_of_ble_eq_true rfl⟩) ⟨fun _ _ _ _ q => q, fun _ _ _ => ⟨rfl, trivial⟩⟩ rfl rfl hl.1 rfl (lv_room (Nat.le_of_ble_eq_true rfl)) dX8_shift_1 ⟨Nat.zero_le _, Nat.zero_le _⟩) (fun p24 e23 => ?_)
  rw [e23]
  refine lv_if_ne (tgt := 9) hx hb dX8_shift_4 (by decide) (fun c25 => ?_) (fun c25 => ?_)
  · replace h := hk_in c25 h
    refine lv_iload_n hx hb dX8_shift_9 rfl (lv_at hl 2 rfl) ?_
    refine lv_i2l (v := (x2.toInt64)) hx hb dX8_shift_10 rfl ?_
    refine lv_ldc2 (v := (-3 : Int64)) hx hb hown (hts (.constantLong RX8 158 (-3)) (List.mem_of_getElem? (i := 1) rfl)) dX8_shift_11 ?_
    refine lv_ldc2 (v := (3 : Int64)) hx hb hown (hts (.constantLong RX8 73 (3)) (List.mem_of_getElem? (i := 2) rfl)) dX8_shift_14 ?_
    obtain ⟨r26, hr27, h⟩ := hk_x1 h
    refine vp_callSi (W.runS (As := [.long (x2.toInt64), .long (-3 : Int64), .long (3 : Int64)]) (rest := []) ⟨hx, hb, hml, hown, hts⟩ (c_X8_in l (x2.toInt64) (-3 : Int64) (3 : Int64) _ hr27) (va_cwS 3 hts gX8_shift_X8_in rfl rfl rfl zs_X8_in ⟨Nat.le_of_ble_eq_true rfl, Nat.le_of_ble_eq_true rfl⟩) ⟨fun _ _ _ _ q => q, fun _ _ _ => ⟨rfl, trivial⟩⟩ rfl rfl hl.1 rfl (lv_room (Nat.le_of_ble_eq_true rfl)) dX8_shift_17 ⟨Nat.zero_le _, Nat.zero_le _⟩) (fun p29 e28 => ?_)
    rw [e28]
    refine lv_if_eq (tgt := 37) hx hb dX8_shift_20 (by decide) (fun c30 => ?_) (fun c30 => ?_)
    · replace h := hk_ip c30 h
      refine lv_bipush (v := (-2 : Int32)) hx hb dX8_shift_37 (by decide) ?_
      subst hQ
      have h := Option.some.inj h
      simp only [Prod.mk.injEq] at h
      obtain ⟨rfl, rfl⟩ := h
      exact W.iret hx hb hr (fun t ht hW => ⟨⟨_, (), rfl, rfl, by rw [ht]; exact hP, hD⟩, hS.F ht⟩) hS.2.2 dX8_shift_39
    replace h := hk_in c30 h
    refine lv_iload_n hx hb dX8_shift_23 rfl (lv_at hl 3 rfl) ?_
    refine lv_i2l (v := (x3.toInt64)) hx hb dX8_shift_24 rfl ?_
    refine lv_ldc2 (v := (-3 : Int64)) hx hb hown (hts (.constantLong RX8 158 (-3)) (List.mem_of_getElem? (i := 1) rfl)) dX8_shift_25 ?_
    refine lv_ldc2 (v := (3 : Int64)) hx hb hown (hts (.constantLong RX8 73 (3)) (List.mem_of_getElem? (i := 2) rfl)) dX8_shift_28 ?_
    obtain ⟨r31, hr32, h⟩ := hk_x1 h
    refine vp_callSi (W.runS (As := [.long (x3.toInt64), .long (-3 : Int64), .long (3 : Int64)]) (rest := []) ⟨hx, hb, hml, hown, hts⟩ (c_X8_in l (x3.toInt64) (-3 : Int64) (3 : Int64) _ hr32) (va_cwS 3 hts gX8_shift_X8_in rfl rfl rfl zs_X8_in ⟨Nat.le_of_ble_eq_true rfl, Nat.le_of_ble_eq_true rfl⟩) ⟨fun _ _ _ _ q => q, fun _ _ _ => ⟨rfl, trivial⟩⟩ rfl rfl hl.1 rfl (lv_room (Nat.le_of_ble_eq_true rfl)) dX8_shift_31 ⟨Nat.zero_le _, Nat.zero_le _⟩) (fun p34 e33 => ?_)
    rw [e33]
    refine lv_if_ne (tgt := 40) hx hb dX8_shift_34 (by decide) (fun c35 => ?_) (fun c35 => ?_)
    · replace h := hk_in c35 h
      refine lv_aload_n hx hb dX8_shift_40 rfl (lv_at hl 0 rfl) ?_
      refine lv_aload_n hx hb dX8_shift_41 rfl (lv_at hl 0 rfl) ?_
      refine va_get (D := D) (ci := 4) (v := .ref a_this_figures) (C := RX8) (T := TX8) (N := 23) hx hb hts zi_X8_shift_X8 hown hK.1 hP 0 rfl rfl 2 (by decide) (hts (.fieldLink RX8 17 "HalfAndHalfAgainModel" "figures" "[J") (List.mem_of_getElem? (i := 3) rfl)) (fun _ h9 => h9) rfl dX8_shift_42 ?_
      refine lv_iload_n hx hb dX8_shift_45 rfl (lv_at hl 1 rfl) ?_
      obtain ⟨hi36, h⟩ := hk_ge h
      refine va_lald hx hb hK.1 hP 1 1 rfl rfl (hk_inb_of hi36) dX8_shift_46 ?_
      refine lv_iload_n hx hb dX8_shift_47 rfl (lv_at hl 2 rfl) ?_
      refine lv_iload_n hx hb dX8_shift_48 rfl (lv_at hl 3 rfl) ?_
      obtain ⟨r37, hr38, h⟩ := hk_x1 h
      refine vp_callSi (W.runV (As := [.long (c_this_figures x1.toNatClampNeg), .int x2, .int x3]) (rest := []) ⟨hx, hb, hml, hown, hts⟩ (c_X8_stays l D cI cJ cZ cO a_this a_this_near a_this_turned a_this_figures a_this_text a_this_sectors a_this_corners a_this_likes a_this_laid a_this_isMirrored a_this_places a_this_placeMany a_this_now a_this_firsts a_this_forms a_this_isKept a_this_keptFigures a_this_keptPieces a_this_keptLaid a_this_keptMirrored c_this_length c_this_doubles c_this_likeMany c_this_pieces (c_this_figures x1.toNatClampNeg) x2 x3 _ hr38) (cwV 3 hts gX8_shift_X8_stays rfl rfl rfl zv_X8_stays ⟨Nat.le_of_ble_eq_true rfl, Nat.le_of_ble_eq_true rfl⟩) (hk_preRV 4 rfl (hP.sub (ws' := [(a_this, .inr (4, [.ref a_this_near, .ref a_this_turned, .ref a_this_figures, .ref a_this_text, .int c_this_length, .ref a_this_sectors, .ref a_this_corners, .int c_this_doubles, .ref a_this_likes, .int c_this_likeMany, .int c_this_pieces, .ref a_this_laid, .ref a_this_isMirrored, .ref a_this_places, .ref a_this_placeMany, .ref a_this_now, .ref a_this_firsts, .ref a_this_forms, .ref a_this_isKept, .ref a_this_keptFigures, .ref a_this_keptPieces, .ref a_this_keptLaid, .ref a_this_keptMirrored]))]) [0] rfl) hK rfl) rfl rfl hl.1 rfl (lv_room (Nat.le_of_ble_eq_true rfl)) dX8_shift_49 ⟨Nat.zero_le _, Nat.zero_le _⟩) (fun p40 e39 => ?_)
      rw [e39]
      refine lv_if_ne (tgt := 58) hx hb dX8_shift_52 (by decide) (fun c41 => ?_) (fun c41 => ?_)
      · replace h := hk_in c41 h
        refine lv_aload_n hx hb dX8_shift_58 rfl (lv_at hl 0 rfl) ?_
        refine va_get (D := D) (ci := 4) (v := .ref a_this_figures) (C := RX8) (T := TX8) (N := 23) hx hb hts zi_X8_shift_X8 hown hK.1 hP 0 rfl rfl 2 (by decide) (hts (.fieldLink RX8 17 "HalfAndHalfAgainModel" "figures" "[J") (List.mem_of_getElem? (i := 3) rfl)) (fun _ h9 => h9) rfl dX8_shift_59 ?_
        refine lv_iload_n hx hb dX8_shift_62 rfl (lv_at hl 1 rfl) ?_
        refine lv_aload_n hx hb dX8_shift_63 rfl (lv_at hl 0 rfl) ?_
        refine va_get (D := D) (ci := 4) (v := .ref a_this_figures) (C := RX8) (T := TX8) (N := 23) hx hb hts zi_X8_shift_X8 hown hK.1 hP 0 rfl rfl 2 (by decide) (hts (.fieldLink RX8 17 "HalfAndHalfAgainModel" "figures" "[J") (List.mem_of_getElem? (i := 3) rfl)) (fun _ h9 => h9) rfl dX8_shift_64 ?_
        refine lv_iload_n hx hb dX8_shift_67 rfl (lv_at hl 1 rfl) ?_
        obtain ⟨hi42, h⟩ := hk_ge h
        refine va_lald hx hb hK.1 hP 1 1 rfl rfl (hk_inb_of hi42) dX8_shift_68 ?_
        refine lv_iload_n hx hb dX8_shift_69 rfl (lv_at hl 2 rfl) ?_
        refine lv_iload_n hx hb dX8_shift_70 rfl (lv_at hl 3 rfl) ?_
        obtain ⟨r43, hr44, h⟩ := hk_x1 h
        refine vp_callSl (W.runS (As := [.long (c_this_figures x1.toNatClampNeg), .int x2, .int x3]) (rest := [.int x1, .ref a_this_figures]) ⟨hx, hb, hml, hown, hts⟩ (c_X8_shifted l (c_this_figures x1.toNatClampNeg) x2 x3 _ hr44) (va_cwS 3 hts gX8_shift_X8_shifted rfl rfl rfl zs_X8_shifted ⟨Nat.le_of_ble_eq_true rfl, Nat.le_of_ble_eq_true rfl⟩) ⟨fun _ _ _ _ q => q, fun _ _ _ => ⟨rfl, trivial⟩⟩ rfl rfl hl.1 rfl (lv_room (Nat.le_of_ble_eq_true rfl)) dX8_shift_71 ⟨Nat.zero_le _, Nat.zero_le _⟩) (fun p46 e45 => ?_)
        rw [e45]
        obtain ⟨hi47, h⟩ := hk_ge h
        refine va_last hx hb hK.1 hP hD hS 1 1 rfl rfl (hk_inb_of hi47) dX8_shift_74 (fun H locs hP hD hS => ?_)
        have hP : va_P D vwCl [(a_this, .inr (4, [.ref a_this_near, .ref a_this_turned, .ref a_this_figures, .ref a_this_text, .int c_this_length, .ref a_this_sectors, .ref a_this_corners, .int c_this_doubles, .ref a_this_likes, .int c_this_likeMany, .int c_this_pieces, .ref a_this_laid, .ref a_this_isMirrored, .ref a_this_places, .ref a_this_placeMany, .ref a_this_now, .ref a_this_firsts, .ref a_this_forms, .ref a_this_isKept, .ref a_this_keptFigures, .ref a_this_keptPieces, .ref a_this_keptLaid, .ref a_this_keptMirrored])), (a_this_figures, .inl (cJ, 8, .inr (.inl (vp_updL c_this_figures x1.toNatClampNeg r43))))] H := hP
        have hD : va_D A [(a_this, .inr (4, [.ref a_this_near, .ref a_this_turned, .ref a_this_figures, .ref a_this_text, .int c_this_length, .ref a_this_sectors, .ref a_this_corners, .int c_this_doubles, .ref a_this_likes, .int c_this_likeMany, .int c_this_pieces, .ref a_this_laid, .ref a_this_isMirrored, .ref a_this_places, .ref a_this_placeMany, .ref a_this_now, .ref a_this_firsts, .ref a_this_forms, .ref a_this_isKept, .ref a_this_keptFigures, .ref a_this_keptPieces, .ref a_this_keptLaid, .ref a_this_keptMirrored])), (a_this_figures, .inl (cJ, 8, .inr (.inl (vp_updL c_this_figures x1.toNatClampNeg r43))))] := hD
        refine lv_aload_n hx hb dX8_shift_75 rfl (lv_at hl 0 rfl) ?_
        refine va_get (D := D) (ci := 4) (v := .ref a_this_figures) (C := RX8) (T := TX8) (N := 23) hx hb hts zi_X8_shift_X8 hown hK.1 hP 0 rfl rfl 2 (by decide) (hts (.fieldLink RX8 17 "HalfAndHalfAgainModel" "figures" "[J") (List.mem_of_getElem? (i := 3) rfl)) (fun _ h9 => h9) rfl dX8_shift_76 ?_
        refine lv_iload_n hx hb dX8_shift_79 rfl (lv_at hl 1 rfl) ?_
        obtain ⟨hi48, h⟩ := hk_ge h
        refine va_lald hx hb hK.1 hP 1 1 rfl rfl (hk_inb_of hi48) dX8_shift_80 ?_
        obtain ⟨r49, hr50, h⟩ := hk_x1 h
        refine vp_callSi (W.runS (As := [.long ((vp_updL c_this_figures x1.toNatClampNeg r43) x1.toNatClampNeg)]) (rest := []) ⟨hx, hb, hml, hown, hts⟩ (c_X8_ones l ((vp_updL c_this_figures x1.toNatClampNeg r43) x1.toNatClampNeg) _ hr50) (va_cwS 1 hts gX8_shift_X8_ones rfl rfl rfl zs_X8_ones ⟨Nat.le_of_ble_eq_true rfl, Nat.le_of_ble_eq_true rfl⟩) ⟨fun _ _ _ _ q => q, fun _ _ _ => ⟨rfl, trivial⟩⟩ rfl rfl hl.1 rfl (lv_room (Nat.le_of_ble_eq_true rfl)) dX8_shift_81 ⟨Nat.zero_le _, Nat.zero_le _⟩) (fun p52 e51 => ?_)
        rw [e51]
        subst hQ
        have h := Option.some.inj h
        simp only [Prod.mk.injEq] at h
        obtain ⟨rfl, rfl⟩ := h
        exact W.iret hx hb hr (fun t ht hW => ⟨⟨_, (), rfl, rfl, by rw [ht]; exact hP, hD⟩, hS.F ht⟩) hS.2.2 dX8_shift_84
      replace h := hk_ip c41 h
      refine lv_bipush (v := (-3 : Int32)) hx hb dX8_shift_55 (by decide) ?_
      subst hQ
      have h := Option.some.inj h
      simp only [Prod.mk.injEq] at h
      obtain ⟨rfl, rfl⟩ := h
      exact W.iret hx hb hr (fun t ht hW => ⟨⟨_, (), rfl, rfl, by rw [ht]; exact hP, hD⟩, hS.F ht⟩) hS.2.2 dX8_shift_57
    replace h := hk_ip c35 h
    refine lv_bipush (v := (-2 : Int32)) hx hb dX8_shift_37 (by decide) ?_
    subst hQ
    have h := Option.some.inj h
    simp only [Prod.mk.injEq] at h
    obtain ⟨rfl, rfl⟩ := h
    exact W.iret hx hb hr (fun t ht hW => ⟨⟨_, (), rfl, rfl, by rw [ht]; exact hP, hD⟩, hS.F ht⟩) hS.2.2 dX8_shift_39
  replace h := hk_ip c25 h
  refine lv_iconst (v := (-1 : Int32)) hx hb dX8_shift_7 (by decide) ?_
  subst hQ
  have h := Option.some.inj h
  simp only [Prod.mk.injEq] at h
  obtain ⟨rfl, rfl⟩ := h
  exact W.iret hx hb hr (fun t ht hW => ⟨⟨_, (), rfl, rfl, by rw [ht]; exact hP, hD⟩, hS.F ht⟩) hS.2.2 dX8_shift_8
theorem zv_X8_addLike : yX8_addLike.cls = RX8 ∧ yX8_addLike.cls ≠ "java/lang/invoke/MethodHandle" ∧ yX8_addLike.cls ≠ "java/lang/invoke/VarHandle" ∧ (parseMethodDescriptor yX8_addLike.desc).map (fun d => d.parameters.length) = some 1 := by decide +kernel
def st_X8_addLike_2c (c_this_likeMany : Int32) (c_this_likes : Nat → Int64) (x1 : Int64) (y22 : Int32) : Option (Int32 ⊕ Int32) := if c_this_likeMany ≤ y22 then (some (.inr y22)) else (hk_gd (hk_inb y22 400) (hk_b1 (f_X8_less (c_this_likes y22.toNatClampNeg) x1) fun r25 => if r25 = 0 then (some (.inr y22)) else (hk_let (y22 + (1 : Int32)) fun x30 => some (.inl x30))))
def st_X8_addLike_2 (c_this_likeMany : Int32) (c_this_likes : Nat → Int64) (x1 : Int64) (t9 : Int32) : Option (Int32 ⊕ Int32) := st_X8_addLike_2c c_this_likeMany c_this_likes x1 t9
def st_X8_addLike_55c (z32 : Int32) (y37 : Int32) (w38 : Nat → Int64) : Option ((Int32 × (Nat → Int64)) ⊕ (Nat → Int64)) := if y37 ≤ z32 then (some (.inr w38)) else (hk_gd (hk_inb (y37 - (1 : Int32)) 400) (hk_gd (hk_inb y37 400) (hk_let (y37 + (-1 : Int32)) fun x42 => some (.inl (x42, (vp_updL w38 y37.toNatClampNeg (w38 (y37 - (1 : Int32)).toNatClampNeg)))))))
def st_X8_addLike_55 (z32 : Int32) (t9 : (Int32 × (Nat → Int64))) : Option ((Int32 × (Nat → Int64)) ⊕ (Nat → Int64)) := st_X8_addLike_55c z32 t9.1 t9.2
def st_X8_addLike_55'c (z32 : Int32) (y52 : Int32) (w53 : Nat → Int64) : Option ((Int32 × (Nat → Int64)) ⊕ (Nat → Int64)) := if y52 ≤ z32 then (some (.inr w53)) else (hk_gd (hk_inb (y52 - (1 : Int32)) 400) (hk_gd (hk_inb y52 400) (hk_let (y52 + (-1 : Int32)) fun x57 => some (.inl (x57, (vp_updL w53 y52.toNatClampNeg (w53 (y52 - (1 : Int32)).toNatClampNeg)))))))
def st_X8_addLike_55' (z32 : Int32) (t9 : (Int32 × (Nat → Int64))) : Option ((Int32 × (Nat → Int64)) ⊕ (Nat → Int64)) := st_X8_addLike_55'c z32 t9.1 t9.2
def f_X8_addLike (c_this_likeMany : Int32) (c_this_likes : Nat → Int64)  (x1 : Int64) : Option (Int32 × (Nat → Int64)) := hk_b1 (hk_wl (st_X8_addLike_2 c_this_likeMany c_this_likes x1) hkF (0 : Int32)) fun z32 => if c_this_likeMany ≤ z32 then (hk_b1 (hk_wl (st_X8_addLike_55 z32) hkF (c_this_likeMany, c_this_likes)) fun v44 => hk_gd (hk_inb z32 400) (hk_let (c_this_likeMany + (1 : Int32)) fun x48 => some (x48, (vp_updL v44 z32.toNatClampNeg x1)))) else (hk_gd (hk_inb z32 400) (if (c_this_likes z32.toNatClampNeg) = x1 then (some (c_this_likeMany, c_this_likes)) else (hk_b1 (hk_wl (st_X8_addLike_55' z32) hkF (c_this_likeMany, c_this_likes)) fun v59 => hk_gd (hk_inb z32 400) (hk_let (c_this_likeMany + (1 : Int32)) fun x63 => some (x63, (vp_updL v59 z32.toNatClampNeg x1))))))
theorem zi_X8_addLike_X8 : ∀ w ∈ u_ws RX8 TX8 23, w ∈ wsX8_addLike := by decide +kernel
set_option maxHeartbeats 8000000 in
set_option maxRecDepth 100000 in
theorem c_X8_addLike (l : Launch) (D : va_G) (cI cJ cZ cO : ClassId) (a_this a_this_near a_this_turned a_this_figures a_this_text a_this_sectors a_this_corners a_this_likes a_this_laid a_this_isMirrored a_this_places a_this_placeMany a_this_now a_this_firsts a_this_forms a_this_isKept a_this_keptFigures a_this_keptPieces a_this_keptLaid a_this_keptMirrored : Nat) (sz : Nat) (c_this_length : Int32) (c_this_doubles : Int32) (c_this_likeMany : Int32) (c_this_pieces : Int32) (c_this_likes : Nat → Int64) (x1 : Int64) (u_this_likeMany : Int32) (u_this_likes : Nat → Int64) (hf : f_X8_addLike c_this_likeMany c_this_likes x1 = some (u_this_likeMany, u_this_likes)) : Met l yX8_addLike wsX8_addLike ({ frames := 1, cells := 0, slots := 0, locals := 23 }) (va_Pc [.ref a_this, .long x1] (hkM D cI cJ cZ cO [(a_this, .inr (4, [.ref a_this_near, .ref a_this_turned, .ref a_this_figures, .ref a_this_text, .int c_this_length, .ref a_this_sectors, .ref a_this_corners, .int c_this_doubles, .ref a_this_likes, .int c_this_likeMany, .int c_this_pieces, .ref a_this_laid, .ref a_this_isMirrored, .ref a_this_places, .ref a_this_placeMany, .ref a_this_now, .ref a_this_firsts, .ref a_this_forms, .ref a_this_isKept, .ref a_this_keptFigures, .ref a_this_keptPieces, .ref a_this_keptLaid, .ref a_this_keptMirrored])), (a_this_likes, .inl (cJ, 400, .inr (.inl c_this_likes)))] sz)) (va_Qv (fun (_ : Unit) => True) (fun _ t => va_P D vwCl [(a_this, .inr (4, [.ref a_this_near, .ref a_this_turned, .ref a_this_figures, .ref a_this_text, .int c_this_length, .ref a_this_sectors, .ref a_this_corners, .int c_this_doubles, .ref a_this_likes, .int u_this_likeMany, .int c_this_pieces, .ref a_this_laid, .ref a_this_isMirrored, .ref a_this_places, .ref a_this_placeMany, .ref a_this_now, .ref a_this_firsts, .ref a_this_forms, .ref a_this_isKept, .ref a_this_keptFigures, .ref a_this_keptPieces, .ref a_this_keptLaid, .ref a_this_keptMirrored])), (a_this_likes, .inl (cJ, 400, .inr (.inl u_this_likes)))] t.heap ∧ va_D (va_A [(a_this, .inr (4, [.ref a_this_near, .ref a_this_turned, .ref a_this_figures, .ref a_this_text, .int c_this_length, .ref a_this_sectors, .ref a_this_corners, .int c_this_doubles, .ref a_this_likes, .int c_this_likeMany, .int c_this_pieces, .ref a_this_laid, .ref a_this_isMirrored, .ref a_this_places, .ref a_this_placeMany, .ref a_this_now, .ref a_this_firsts, .ref a_this_forms, .ref a_this_isKept, .ref a_this_keptFigures, .ref a_this_keptPieces, .ref a_this_keptLaid, .ref a_this_keptMirrored])), (a_this_likes, .inl (cJ, 400, .inr (.inl c_this_likes)))] sz) [(a_this, .inr (4, [.ref a_this_near, .ref a_this_turned, .ref a_this_figures, .ref a_this_text, .int c_this_length, .ref a_this_sectors, .ref a_this_corners, .int c_this_doubles, .ref a_this_likes, .int u_this_likeMany, .int c_this_pieces, .ref a_this_laid, .ref a_this_isMirrored, .ref a_this_places, .ref a_this_placeMany, .ref a_this_now, .ref a_this_firsts, .ref a_this_forms, .ref a_this_isKept, .ref a_this_keptFigures, .ref a_this_keptPieces, .ref a_this_keptLaid, .ref a_this_keptMirrored])), (a_this_likes, .inl (cJ, 400, .inr (.inl u_this_likes)))]) (va_A [(a_this, .inr (4, [.ref a_this_near, .ref a_this_turned, .ref a_this_figures, .ref a_this_text, .int c_this_length, .ref a_this_sectors, .ref a_this_corners, .int c_this_doubles, .ref a_this_likes, .int c_this_likeMany, .int c_this_pieces, .ref a_this_laid, .ref a_this_isMirrored, .ref a_this_places, .ref a_this_placeMany, .ref a_this_now, .ref a_this_firsts, .ref a_this_forms, .ref a_this_isKept, .ref a_this_keptFigures, .ref a_this_keptPieces, .ref a_this_keptLaid, .ref a_this_keptMirrored])), (a_this_likes, .inl (cJ, 400, .inr (.inl c_this_likes)))] sz)) 0 0 (va_A [(a_this, .inr (4, [.ref a_this_near, .ref a_this_turned, .ref a_this_figures, .ref a_this_text, .int c_this_length, .ref a_this_sectors, .ref a_this_corners, .int c_this_doubles, .ref a_this_likes, .int c_this_likeMany, .int c_this_pieces, .ref a_this_laid, .ref a_this_isMirrored, .ref a_this_places, .ref a_this_placeMany, .ref a_this_now, .ref a_this_firsts, .ref a_this_forms, .ref a_this_isKept, .ref a_this_keptFigures, .ref a_this_keptPieces, .ref a_this_keptLaid, .ref a_this_keptMirrored])), (a_this_likes, .inl (cJ, 400, .inr (.inl c_this_likes)))] sz) := by
  refine Met.ofW (cc := cX8_addLike) (maxL := 5) (ret := none) (by decide) rfl ?_
  intro p e s m args below meth c s₁ B hml hv
  obtain ⟨rfl, hsz, hP, hK, hD0⟩ := hv
  have hx := B.exec
  have hb := B.bytes
  have hr := B.returns
  have hts := atoms_spec (ws := wsX8_addLike) B.pre
  have hown : s.vm.findClass RX8 = some m.cls := findClass_of_methodNamed B.named
  have hlocks := B.notSynchronized
  have hN := hK.2
  subst hsz
  have hD := hD0.self (sz := s.heap.size)
  generalize hAe : va_A [(a_this, .inr (4, [.ref a_this_near, .ref a_this_turned, .ref a_this_figures, .ref a_this_text, .int c_this_length, .ref a_this_sectors, .ref a_this_corners, .int c_this_doubles, .ref a_this_likes, .int c_this_likeMany, .int c_this_pieces, .ref a_this_laid, .ref a_this_isMirrored, .ref a_this_places, .ref a_this_placeMany, .ref a_this_now, .ref a_this_firsts, .ref a_this_forms, .ref a_this_isKept, .ref a_this_keptFigures, .ref a_this_keptPieces, .ref a_this_keptLaid, .ref a_this_keptMirrored])), (a_this_likes, .inl (cJ, 400, .inr (.inl c_this_likes)))] s.heap.size = A at hD ⊢
  have hA : ∀ q : Nat, s.heap.size ≤ q → A q := fun q h => by rw [← hAe]; exact Or.inr h
  have hS : va_S A s.heap s.heap [] := va_S.rf
  have hl := lv_entry ([.ref a_this, .long x1]) (n := 5) (Nat.le_of_ble_eq_true rfl)
  rw [lg_entry_eq]
  generalize (lg_sl ([.ref a_this, .long x1]) ++ List.replicate (5 - (lg_sl ([.ref a_this, .long x1])).length) Slot.unset).toArray = ls at hl ⊢
  have hl : lv_has ls 5 [(0, .ref a_this), (1, .long x1)] := hl
  refine hk_Q (fun Q hQ => ?_)
  have h := hf
  unfold f_X8_addLike at h
  refine lv_iconst (v := (0 : Int32)) hx hb dX8_addLike_0 (by decide) ?_
  refine lv_istore_n (lv' := [(3, .int (0 : Int32)), (0, .ref a_this), (1, .long x1)]) hx hb dX8_addLike_1 rfl hl (by decide) rfl (fun ls hl => ?_)
  obtain ⟨z32, hr31, h⟩ := hk_x1 h
  refine hk_loopR (f := st_X8_addLike_2 c_this_likeMany c_this_likes x1) (hd := 2) (nL := 5) (lv := fun t9 => [(0, .ref a_this), (1, .long x1), (3, .int t9)]) (xs := fun t9 => (29, [(0, .ref a_this), (1, .long x1), (3, .int t9)], [])) ?_ hr31 ?_ (lv_sub hl [1, 2, 0] rfl)
  · intro y22 q34 k21 hck21 hqk21 ls hl
    have k21 : st_X8_addLike_2c c_this_likeMany c_this_likes x1 y22 = some q34 := k21
    unfold st_X8_addLike_2c at k21
    have hl : lv_has ls 5 [(0, .ref a_this), (1, .long x1), (3, .int y22)] := hl
    refine lv_iload_n hx hb dX8_addLike_2 rfl (lv_at hl 2 rfl) ?_
    refine lv_aload_n hx hb dX8_addLike_3 rfl (lv_at hl 0 rfl) ?_
    refine va_get (D := D) (ci := 4) (v := .int c_this_likeMany) (C := RX8) (T := TX8) (N := 23) hx hb hts zi_X8_addLike_X8 hown hK.1 hP 0 rfl rfl 9 (by decide) (hts (.fieldLink RX8 168 "HalfAndHalfAgainModel" "likeMany" "I") (List.mem_of_getElem? (i := 1) rfl)) (fun _ h9 => h9) rfl dX8_addLike_4 ?_
    refine lv_icmp_ge (tgt := 29) hx hb dX8_addLike_7 (by decide) (fun c23 => ?_) (fun c23 => ?_)
    · replace k21 := hk_ip c23 k21
      exact hqk21 y22 (Option.some.inj k21).symm ls (lv_sub hl [0, 1, 2] rfl)
    replace k21 := hk_in c23 k21
    refine lv_aload_n hx hb dX8_addLike_10 rfl (lv_at hl 0 rfl) ?_
    refine va_get (D := D) (ci := 4) (v := .ref a_this_likes) (C := RX8) (T := TX8) (N := 23) hx hb hts zi_X8_addLike_X8 hown hK.1 hP 0 rfl rfl 8 (by decide) (hts (.fieldLink RX8 30 "HalfAndHalfAgainModel" "likes" "[J") (List.mem_of_getElem? (i := 2) rfl)) (fun _ h9 => h9) rfl dX8_addLike_11 ?_
    refine lv_iload_n hx hb dX8_addLike_14 rfl (lv_at hl 2 rfl) ?_
    obtain ⟨hi24, k21⟩ := hk_ge k21
    refine va_lald hx hb hK.1 hP 1 1 rfl rfl (hk_inb_of hi24) dX8_addLike_15 ?_
    refine lv_lload_n hx hb dX8_addLike_16 rfl (lv_at hl 1 rfl) ?_
    obtain ⟨r25, hr26, k21⟩ := hk_x1 k21
    refine vp_callSi (W.runS (As := [.long (c_this_likes y22.toNatClampNeg), .long x1]) (rest := []) ⟨hx, hb, hml, hown, hts⟩ (c_X8_less l (c_this_likes y22.toNatClampNeg) x1 _ hr26) (va_cwS 2 hts gX8_addLike_X8_less rfl rfl rfl zs_X8_less ⟨Nat.le_of_ble_eq_true rfl, Nat.le_of_ble_eq_true rfl⟩) ⟨fun _ _ _ _ q => q, fun _ _ _ => ⟨rfl, trivial⟩⟩ rfl rfl hl.1 rfl (lv_room (Nat.le_of_ble_eq_true rfl)) dX8_addLike_17 ⟨Nat.zero_le _, Nat.zero_le _⟩) (fun p28 e27 => ?_)
    rw [e27]
    refine lv_if_eq (tgt := 29) hx hb dX8_addLike_20 (by decide) (fun c29 => ?_) (fun c29 => ?_)
    · replace k21 := hk_ip c29 k21
      exact hqk21 y22 (Option.some.inj k21).symm ls (lv_sub hl [0, 1, 2] rfl)
    replace k21 := hk_in c29 k21
    obtain ⟨x30, ex30, k21⟩ := hk_le k21
    refine lv_iinc (v := x30) (lv' := [(3, .int x30), (0, .ref a_this), (1, .long x1)]) hx hb dX8_addLike_23 hl (k := 2) rfl (by rw [ex30]; rfl) (by decide) rfl (fun ls hl => ?_)
    refine lv_goto (tgt := 2) hx hb dX8_addLike_26 (by decide) ?_
    exact hck21 x30 (Option.some.inj k21).symm ls (lv_sub hl [1, 2, 0] rfl)
  intro ls hl
  have hl : lv_has ls 5 [(0, .ref a_this), (1, .long x1), (3, .int z32)] := hl
  show W _ _ _ _ _ _ _ _ _ _ _ _ _ _ _ (F0 m 29 ls [])
  refine lv_iload_n hx hb dX8_addLike_29 rfl (lv_at hl 2 rfl) ?_
  refine lv_aload_n hx hb dX8_addLike_30 rfl (lv_at hl 0 rfl) ?_
  refine va_get (D := D) (ci := 4) (v := .int c_this_likeMany) (C := RX8) (T := TX8) (N := 23) hx hb hts zi_X8_addLike_X8 hown hK.1 hP 0 rfl rfl 9 (by decide) (hts (.fieldLink RX8 168 "HalfAndHalfAgainModel" "likeMany" "I") (List.mem_of_getElem? (i := 1) rfl)) (fun _ h9 => h9) rfl dX8_addLike_31 ?_
  refine lv_icmp_ge (tgt := 49) hx hb dX8_addLike_34 (by decide) (fun c35 => ?_) (fun c35 => ?_)
  · replace h := hk_ip c35 h
    refine lv_aload_n hx hb dX8_addLike_49 rfl (lv_at hl 0 rfl) ?_
    refine va_get (D := D) (ci := 4) (v := .int c_this_likeMany) (C := RX8) (T := TX8) (N := 23) hx hb hts zi_X8_addLike_X8 hown hK.1 hP 0 rfl rfl 9 (by decide) (hts (.fieldLink RX8 168 "HalfAndHalfAgainModel" "likeMany" "I") (List.mem_of_getElem? (i := 1) rfl)) (fun _ h9 => h9) rfl dX8_addLike_50 ?_
    refine lv_istore (lv' := [(4, .int c_this_likeMany), (0, .ref a_this), (1, .long x1), (3, .int z32)]) hx hb dX8_addLike_53 hl (by decide) rfl (fun ls hl => ?_)
    obtain ⟨v44, hr43, h⟩ := hk_x1 h
    refine hk_loopM (f := st_X8_addLike_55 z32) (hd := 55) (nL := 5) (lv := fun t9 => [(0, .ref a_this), (1, .long x1), (3, .int z32), (4, .int t9.1)]) (wf := fun t9 => [(a_this, .inr (4, [.ref a_this_near, .ref a_this_turned, .ref a_this_figures, .ref a_this_text, .int c_this_length, .ref a_this_sectors, .ref a_this_corners, .int c_this_doubles, .ref a_this_likes, .int c_this_likeMany, .int c_this_pieces, .ref a_this_laid, .ref a_this_isMirrored, .ref a_this_places, .ref a_this_placeMany, .ref a_this_now, .ref a_this_firsts, .ref a_this_forms, .ref a_this_isKept, .ref a_this_keptFigures, .ref a_this_keptPieces, .ref a_this_keptLaid, .ref a_this_keptMirrored])), (a_this_likes, .inl (cJ, 400, .inr (.inl t9.2)))]) (xs := fun t9 => (83, [(0, .ref a_this), (1, .long x1), (3, .int z32)], [], [(a_this, .inr (4, [.ref a_this_near, .ref a_this_turned, .ref a_this_figures, .ref a_this_text, .int c_this_length, .ref a_this_sectors, .ref a_this_corners, .int c_this_doubles, .ref a_this_likes, .int c_this_likeMany, .int c_this_pieces, .ref a_this_laid, .ref a_this_isMirrored, .ref a_this_places, .ref a_this_placeMany, .ref a_this_now, .ref a_this_firsts, .ref a_this_forms, .ref a_this_isKept, .ref a_this_keptFigures, .ref a_this_keptPieces, .ref a_this_keptLaid, .ref a_this_keptMirrored])), (a_this_likes, .inl (cJ, 400, .inr (.inl t9)))])) ?_ hr43 ?_ hP hD hS (lv_sub hl [1, 2, 3, 0] rfl)
    · intro t45 q46 k36 hck36 hqk36 H locs ls hP hD hS hl
      obtain ⟨y37, w38⟩ := t45
      have k36 : st_X8_addLike_55c z32 y37 w38 = some q46 := k36
      unfold st_X8_addLike_55c at k36
      have hl : lv_has ls 5 [(0, .ref a_this), (1, .long x1), (3, .int z32), (4, .int y37)] := hl
      have hP : va_P D vwCl [(a_this, .inr (4, [.ref a_this_near, .ref a_this_turned, .ref a_this_figures, .ref a_this_text, .int c_this_length, .ref a_this_sectors, .ref a_this_corners, .int c_this_doubles, .ref a_this_likes, .int c_this_likeMany, .int c_this_pieces, .ref a_this_laid, .ref a_this_isMirrored, .ref a_this_places, .ref a_this_placeMany, .ref a_this_now, .ref a_this_firsts, .ref a_this_forms, .ref a_this_isKept, .ref a_this_keptFigures, .ref a_this_keptPieces, .ref a_this_keptLaid, .ref a_this_keptMirrored])), (a_this_likes, .inl (cJ, 400, .inr (.inl w38)))] H := hP
      have hD : va_D A [(a_this, .inr (4, [.ref a_this_near, .ref a_this_turned, .ref a_this_figures, .ref a_this_text, .int c_this_length, .ref a_this_sectors, .ref a_this_corners, .int c_this_doubles, .ref a_this_likes, .int c_this_likeMany, .int c_this_pieces, .ref a_this_laid, .ref a_this_isMirrored, .ref a_this_places, .ref a_this_placeMany, .ref a_this_now, .ref a_this_firsts, .ref a_this_forms, .ref a_this_isKept, .ref a_this_keptFigures, .ref a_this_keptPieces, .ref a_this_keptLaid, .ref a_this_keptMirrored])), (a_this_likes, .inl (cJ, 400, .inr (.inl w38)))] := hD
      refine lv_iload hx hb dX8_addLike_55 (lv_at hl 3 rfl) ?_
      refine lv_iload_n hx hb dX8_addLike_57 rfl (lv_at hl 2 rfl) ?_
      refine lv_icmp_le (tgt := 83) hx hb dX8_addLike_58 (by decide) (fun c39 => ?_) (fun c39 => ?_)
      · replace k36 := hk_ip c39 k36
        exact hqk36 w38 (Option.some.inj k36).symm H locs ls hP hD hS (lv_sub hl [0, 1, 2] rfl)
      replace k36 := hk_in c39 k36
      refine lv_aload_n hx hb dX8_addLike_61 rfl (lv_at hl 0 rfl) ?_
      refine va_get (D := D) (ci := 4) (v := .ref a_this_likes) (C := RX8) (T := TX8) (N := 23) hx hb hts zi_X8_addLike_X8 hown hK.1 hP 0 rfl rfl 8 (by decide) (hts (.fieldLink RX8 30 "HalfAndHalfAgainModel" "likes" "[J") (List.mem_of_getElem? (i := 2) rfl)) (fun _ h9 => h9) rfl dX8_addLike_62 ?_
      refine lv_iload hx hb dX8_addLike_65 (lv_at hl 3 rfl) ?_
      refine lv_aload_n hx hb dX8_addLike_67 rfl (lv_at hl 0 rfl) ?_
      refine va_get (D := D) (ci := 4) (v := .ref a_this_likes) (C := RX8) (T := TX8) (N := 23) hx hb hts zi_X8_addLike_X8 hown hK.1 hP 0 rfl rfl 8 (by decide) (hts (.fieldLink RX8 30 "HalfAndHalfAgainModel" "likes" "[J") (List.mem_of_getElem? (i := 2) rfl)) (fun _ h9 => h9) rfl dX8_addLike_68 ?_
      refine lv_iload hx hb dX8_addLike_71 (lv_at hl 3 rfl) ?_
      refine lv_iconst (v := (1 : Int32)) hx hb dX8_addLike_73 (by decide) ?_
      refine lv_isub hx hb dX8_addLike_74 ?_
      obtain ⟨hi40, k36⟩ := hk_ge k36
      refine va_lald hx hb hK.1 hP 1 1 rfl rfl (hk_inb_of hi40) dX8_addLike_75 ?_
      obtain ⟨hi41, k36⟩ := hk_ge k36
      refine va_last hx hb hK.1 hP hD hS 1 1 rfl rfl (hk_inb_of hi41) dX8_addLike_76 (fun H locs hP hD hS => ?_)
      have hP : va_P D vwCl [(a_this, .inr (4, [.ref a_this_near, .ref a_this_turned, .ref a_this_figures, .ref a_this_text, .int c_this_length, .ref a_this_sectors, .ref a_this_corners, .int c_this_doubles, .ref a_this_likes, .int c_this_likeMany, .int c_this_pieces, .ref a_this_laid, .ref a_this_isMirrored, .ref a_this_places, .ref a_this_placeMany, .ref a_this_now, .ref a_this_firsts, .ref a_this_forms, .ref a_this_isKept, .ref a_this_keptFigures, .ref a_this_keptPieces, .ref a_this_keptLaid, .ref a_this_keptMirrored])), (a_this_likes, .inl (cJ, 400, .inr (.inl (vp_updL w38 y37.toNatClampNeg (w38 (y37 - (1 : Int32)).toNatClampNeg)))))] H := hP
      have hD : va_D A [(a_this, .inr (4, [.ref a_this_near, .ref a_this_turned, .ref a_this_figures, .ref a_this_text, .int c_this_length, .ref a_this_sectors, .ref a_this_corners, .int c_this_doubles, .ref a_this_likes, .int c_this_likeMany, .int c_this_pieces, .ref a_this_laid, .ref a_this_isMirrored, .ref a_this_places, .ref a_this_placeMany, .ref a_this_now, .ref a_this_firsts, .ref a_this_forms, .ref a_this_isKept, .ref a_this_keptFigures, .ref a_this_keptPieces, .ref a_this_keptLaid, .ref a_this_keptMirrored])), (a_this_likes, .inl (cJ, 400, .inr (.inl (vp_updL w38 y37.toNatClampNeg (w38 (y37 - (1 : Int32)).toNatClampNeg)))))] := hD
      obtain ⟨x42, ex42, k36⟩ := hk_le k36
      refine lv_iinc (v := x42) (lv' := [(4, .int x42), (0, .ref a_this), (1, .long x1), (3, .int z32)]) hx hb dX8_addLike_77 hl (k := 3) rfl (by rw [ex42]; rfl) (by decide) rfl (fun ls hl => ?_)
      refine lv_goto (tgt := 55) hx hb dX8_addLike_80 (by decide) ?_
      exact hck36 (x42, (vp_updL w38 y37.toNatClampNeg (w38 (y37 - (1 : Int32)).toNatClampNeg))) (Option.some.inj k36).symm H locs ls hP hD hS (lv_sub hl [1, 2, 3, 0] rfl)
    intro H locs ls hP hD hS hl
    have hl : lv_has ls 5 [(0, .ref a_this), (1, .long x1), (3, .int z32)] := hl
    have hP : va_P D vwCl [(a_this, .inr (4, [.ref a_this_near, .ref a_this_turned, .ref a_this_figures, .ref a_this_text, .int c_this_length, .ref a_this_sectors, .ref a_this_corners, .int c_this_doubles, .ref a_this_likes, .int c_this_likeMany, .int c_this_pieces, .ref a_this_laid, .ref a_this_isMirrored, .ref a_this_places, .ref a_this_placeMany, .ref a_this_now, .ref a_this_firsts, .ref a_this_forms, .ref a_this_isKept, .ref a_this_keptFigures, .ref a_this_keptPieces, .ref a_this_keptLaid, .ref a_this_keptMirrored])), (a_this_likes, .inl (cJ, 400, .inr (.inl v44)))] H := hP
    have hD : va_D A [(a_this, .inr (4, [.ref a_this_near, .ref a_this_turned, .ref a_this_figures, .ref a_this_text, .int c_this_length, .ref a_this_sectors, .ref a_this_corners, .int c_this_doubles, .ref a_this_likes, .int c_this_likeMany, .int c_this_pieces, .ref a_this_laid, .ref a_this_isMirrored, .ref a_this_places, .ref a_this_placeMany, .ref a_this_now, .ref a_this_firsts, .ref a_this_forms, .ref a_this_isKept, .ref a_this_keptFigures, .ref a_this_keptPieces, .ref a_this_keptLaid, .ref a_this_keptMirrored])), (a_this_likes, .inl (cJ, 400, .inr (.inl v44)))] := hD
    show W _ _ _ _ _ _ _ _ _ _ _ _ _ _ _ (F0 m 83 ls [])
    refine lv_aload_n hx hb dX8_addLike_83 rfl (lv_at hl 0 rfl) ?_
    refine va_get (D := D) (ci := 4) (v := .ref a_this_likes) (C := RX8) (T := TX8) (N := 23) hx hb hts zi_X8_addLike_X8 hown hK.1 hP 0 rfl rfl 8 (by decide) (hts (.fieldLink RX8 30 "HalfAndHalfAgainModel" "likes" "[J") (List.mem_of_getElem? (i := 2) rfl)) (fun _ h9 => h9) rfl dX8_addLike_84 ?_
    refine lv_iload_n hx hb dX8_addLike_87 rfl (lv_at hl 2 rfl) ?_
    refine lv_lload_n hx hb dX8_addLike_88 rfl (lv_at hl 1 rfl) ?_
    obtain ⟨hi47, h⟩ := hk_ge h
    refine va_last hx hb hK.1 hP hD hS 1 1 rfl rfl (hk_inb_of hi47) dX8_addLike_89 (fun H locs hP hD hS => ?_)
    have hP : va_P D vwCl [(a_this, .inr (4, [.ref a_this_near, .ref a_this_turned, .ref a_this_figures, .ref a_this_text, .int c_this_length, .ref a_this_sectors, .ref a_this_corners, .int c_this_doubles, .ref a_this_likes, .int c_this_likeMany, .int c_this_pieces, .ref a_this_laid, .ref a_this_isMirrored, .ref a_this_places, .ref a_this_placeMany, .ref a_this_now, .ref a_this_firsts, .ref a_this_forms, .ref a_this_isKept, .ref a_this_keptFigures, .ref a_this_keptPieces, .ref a_this_keptLaid, .ref a_this_keptMirrored])), (a_this_likes, .inl (cJ, 400, .inr (.inl (vp_updL v44 z32.toNatClampNeg x1))))] H := hP
    have hD : va_D A [(a_this, .inr (4, [.ref a_this_near, .ref a_this_turned, .ref a_this_figures, .ref a_this_text, .int c_this_length, .ref a_this_sectors, .ref a_this_corners, .int c_this_doubles, .ref a_this_likes, .int c_this_likeMany, .int c_this_pieces, .ref a_this_laid, .ref a_this_isMirrored, .ref a_this_places, .ref a_this_placeMany, .ref a_this_now, .ref a_this_firsts, .ref a_this_forms, .ref a_this_isKept, .ref a_this_keptFigures, .ref a_this_keptPieces, .ref a_this_keptLaid, .ref a_this_keptMirrored])), (a_this_likes, .inl (cJ, 400, .inr (.inl (vp_updL v44 z32.toNatClampNeg x1))))] := hD
    refine lv_aload_n hx hb dX8_addLike_90 rfl (lv_at hl 0 rfl) ?_
    refine lv_dup hx hb dX8_addLike_91 rfl ?_
    refine va_get (D := D) (ci := 4) (v := .int c_this_likeMany) (C := RX8) (T := TX8) (N := 23) hx hb hts zi_X8_addLike_X8 hown hK.1 hP 0 rfl rfl 9 (by decide) (hts (.fieldLink RX8 168 "HalfAndHalfAgainModel" "likeMany" "I") (List.mem_of_getElem? (i := 1) rfl)) (fun _ h9 => h9) rfl dX8_addLike_92 ?_
    refine lv_iconst (v := (1 : Int32)) hx hb dX8_addLike_95 (by decide) ?_
    refine lv_iadd hx hb dX8_addLike_96 ?_
    obtain ⟨x48, ex48, h⟩ := hk_le h
    refine hk_ti ex48 ?_
    refine va_put (D := D) (ci := 4) (v := .int x48) (ty := .int) (C := RX8) (T := TX8) (N := 23) hx hb hts zi_X8_addLike_X8 tyX8 tyX8_ok nmX8 hown hK.1 hP hD hS 0 rfl rfl 9 (by decide) (hts (.fieldLink RX8 168 "HalfAndHalfAgainModel" "likeMany" "I") (List.mem_of_getElem? (i := 1) rfl)) (fun _ h9 => h9) rfl (by decide +kernel) rfl rfl (Nat.le_of_ble_eq_true rfl) dX8_addLike_97 (fun H locs hP hD hS => ?_)
    have hP : va_P D vwCl [(a_this, .inr (4, [.ref a_this_near, .ref a_this_turned, .ref a_this_figures, .ref a_this_text, .int c_this_length, .ref a_this_sectors, .ref a_this_corners, .int c_this_doubles, .ref a_this_likes, .int x48, .int c_this_pieces, .ref a_this_laid, .ref a_this_isMirrored, .ref a_this_places, .ref a_this_placeMany, .ref a_this_now, .ref a_this_firsts, .ref a_this_forms, .ref a_this_isKept, .ref a_this_keptFigures, .ref a_this_keptPieces, .ref a_this_keptLaid, .ref a_this_keptMirrored])), (a_this_likes, .inl (cJ, 400, .inr (.inl (vp_updL v44 z32.toNatClampNeg x1))))] H := hP
    have hD : va_D A [(a_this, .inr (4, [.ref a_this_near, .ref a_this_turned, .ref a_this_figures, .ref a_this_text, .int c_this_length, .ref a_this_sectors, .ref a_this_corners, .int c_this_doubles, .ref a_this_likes, .int x48, .int c_this_pieces, .ref a_this_laid, .ref a_this_isMirrored, .ref a_this_places, .ref a_this_placeMany, .ref a_this_now, .ref a_this_firsts, .ref a_this_forms, .ref a_this_isKept, .ref a_this_keptFigures, .ref a_this_keptPieces, .ref a_this_keptLaid, .ref a_this_keptMirrored])), (a_this_likes, .inl (cJ, 400, .inr (.inl (vp_updL v44 z32.toNatClampNeg x1))))] := hD
    subst hQ
    have h := Option.some.inj h
    simp only [Prod.mk.injEq] at h
    obtain ⟨rfl, rfl⟩ := h
    exact W.vret hx hb hr (fun t ht hW => ⟨⟨(), rfl, trivial, by rw [ht]; exact hP, hD⟩, hS.F ht⟩) hS.2.2 dX8_addLike_100
  replace h := hk_in c35 h
  refine lv_aload_n hx hb dX8_addLike_37 rfl (lv_at hl 0 rfl) ?_
  refine va_get (D := D) (ci := 4) (v := .ref a_this_likes) (C := RX8) (T := TX8) (N := 23) hx hb hts zi_X8_addLike_X8 hown hK.1 hP 0 rfl rfl 8 (by decide) (hts (.fieldLink RX8 30 "HalfAndHalfAgainModel" "likes" "[J") (List.mem_of_getElem? (i := 2) rfl)) (fun _ h9 => h9) rfl dX8_addLike_38 ?_
  refine lv_iload_n hx hb dX8_addLike_41 rfl (lv_at hl 2 rfl) ?_
  obtain ⟨hi49, h⟩ := hk_ge h
  refine va_lald hx hb hK.1 hP 1 1 rfl rfl (hk_inb_of hi49) dX8_addLike_42 ?_
  refine lv_lload_n hx hb dX8_addLike_43 rfl (lv_at hl 1 rfl) ?_
  refine hk_lcmp_ne (tgt := 49) hx hb dX8_addLike_44 dX8_addLike_45 (by decide) (fun c50 => ?_) (fun c50 => ?_)
  · replace h := hk_in c50 h
    refine lv_aload_n hx hb dX8_addLike_49 rfl (lv_at hl 0 rfl) ?_
    refine va_get (D := D) (ci := 4) (v := .int c_this_likeMany) (C := RX8) (T := TX8) (N := 23) hx hb hts zi_X8_addLike_X8 hown hK.1 hP 0 rfl rfl 9 (by decide) (hts (.fieldLink RX8 168 "HalfAndHalfAgainModel" "likeMany" "I") (List.mem_of_getElem? (i := 1) rfl)) (fun _ h9 => h9) rfl dX8_addLike_50 ?_
    refine lv_istore (lv' := [(4, .int c_this_likeMany), (0, .ref a_this), (1, .long x1), (3, .int z32)]) hx hb dX8_addLike_53 hl (by decide) rfl (fun ls hl => ?_)
    obtain ⟨v59, hr58, h⟩ := hk_x1 h
    refine hk_loopM (f := st_X8_addLike_55' z32) (hd := 55) (nL := 5) (lv := fun t9 => [(0, .ref a_this), (1, .long x1), (3, .int z32), (4, .int t9.1)]) (wf := fun t9 => [(a_this, .inr (4, [.ref a_this_near, .ref a_this_turned, .ref a_this_figures, .ref a_this_text, .int c_this_length, .ref a_this_sectors, .ref a_this_corners, .int c_this_doubles, .ref a_this_likes, .int c_this_likeMany, .int c_this_pieces, .ref a_this_laid, .ref a_this_isMirrored, .ref a_this_places, .ref a_this_placeMany, .ref a_this_now, .ref a_this_firsts, .ref a_this_forms, .ref a_this_isKept, .ref a_this_keptFigures, .ref a_this_keptPieces, .ref a_this_keptLaid, .ref a_this_keptMirrored])), (a_this_likes, .inl (cJ, 400, .inr (.inl t9.2)))]) (xs := fun t9 => (83, [(0, .ref a_this), (1, .long x1), (3, .int z32)], [], [(a_this, .inr (4, [.ref a_this_near, .ref a_this_turned, .ref a_this_figures, .ref a_this_text, .int c_this_length, .ref a_this_sectors, .ref a_this_corners, .int c_this_doubles, .ref a_this_likes, .int c_this_likeMany, .int c_this_pieces, .ref a_this_laid, .ref a_this_isMirrored, .ref a_this_places, .ref a_this_placeMany, .ref a_this_now, .ref a_this_firsts, .ref a_this_forms, .ref a_this_isKept, .ref a_this_keptFigures, .ref a_this_keptPieces, .ref a_this_keptLaid, .ref a_this_keptMirrored])), (a_this_likes, .inl (cJ, 400, .inr (.inl t9)))])) ?_ hr58 ?_ hP hD hS (lv_sub hl [1, 2, 3, 0] rfl)
    · intro t60 q61 k51 hck51 hqk51 H locs ls hP hD hS hl
      obtain ⟨y52, w53⟩ := t60
      have k51 : st_X8_addLike_55'c z32 y52 w53 = some q61 := k51
      unfold st_X8_addLike_55'c at k51
      have hl : lv_has ls 5 [(0, .ref a_this), (1, .long x1), (3, .int z32), (4, .int y52)] := hl
      have hP : va_P D vwCl [(a_this, .inr (4, [.ref a_this_near, .ref a_this_turned, .ref a_this_figures, .ref a_this_text, .int c_this_length, .ref a_this_sectors, .ref a_this_corners, .int c_this_doubles, .ref a_this_likes, .int c_this_likeMany, .int c_this_pieces, .ref a_this_laid, .ref a_this_isMirrored, .ref a_this_places, .ref a_this_placeMany, .ref a_this_now, .ref a_this_firsts, .ref a_this_forms, .ref a_this_isKept, .ref a_this_keptFigures, .ref a_this_keptPieces, .ref a_this_keptLaid, .ref a_this_keptMirrored])), (a_this_likes, .inl (cJ, 400, .inr (.inl w53)))] H := hP
      have hD : va_D A [(a_this, .inr (4, [.ref a_this_near, .ref a_this_turned, .ref a_this_figures, .ref a_this_text, .int c_this_length, .ref a_this_sectors, .ref a_this_corners, .int c_this_doubles, .ref a_this_likes, .int c_this_likeMany, .int c_this_pieces, .ref a_this_laid, .ref a_this_isMirrored, .ref a_this_places, .ref a_this_placeMany, .ref a_this_now, .ref a_this_firsts, .ref a_this_forms, .ref a_this_isKept, .ref a_this_keptFigures, .ref a_this_keptPieces, .ref a_this_keptLaid, .ref a_this_keptMirrored])), (a_this_likes, .inl (cJ, 400, .inr (.inl w53)))] := hD
      refine lv_iload hx hb dX8_addLike_55 (lv_at hl 3 rfl) ?_
      refine lv_iload_n hx hb dX8_addLike_57 rfl (lv_at hl 2 rfl) ?_
      refine lv_icmp_le (tgt := 83) hx hb dX8_addLike_58 (by decide) (fun c54 => ?_) (fun c54 => ?_)
      · replace k51 := hk_ip c54 k51
        exact hqk51 w53 (Option.some.inj k51).symm H locs ls hP hD hS (lv_sub hl [0, 1, 2] rfl)
      replace k51 := hk_in c54 k51
      refine lv_aload_n hx hb dX8_addLike_61 rfl (lv_at hl 0 rfl) ?_
      refine va_get (D := D) (ci := 4) (v := .ref a_this_likes) (C := RX8) (T := TX8) (N := 23) hx hb hts zi_X8_addLike_X8 hown hK.1 hP 0 rfl rfl 8 (by decide) (hts (.fieldLink RX8 30 "HalfAndHalfAgainModel" "likes" "[J") (List.mem_of_getElem? (i := 2) rfl)) (fun _ h9 => h9) rfl dX8_addLike_62 ?_
      refine lv_iload hx hb dX8_addLike_65 (lv_at hl 3 rfl) ?_
      refine lv_aload_n hx hb dX8_addLike_67 rfl (lv_at hl 0 rfl) ?_
      refine va_get (D := D) (ci := 4) (v := .ref a_this_likes) (C := RX8) (T := TX8) (N := 23) hx hb hts zi_X8_addLike_X8 hown hK.1 hP 0 rfl rfl 8 (by decide) (hts (.fieldLink RX8 30 "HalfAndHalfAgainModel" "likes" "[J") (List.mem_of_getElem? (i := 2) rfl)) (fun _ h9 => h9) rfl dX8_addLike_68 ?_
      refine lv_iload hx hb dX8_addLike_71 (lv_at hl 3 rfl) ?_
      refine lv_iconst (v := (1 : Int32)) hx hb dX8_addLike_73 (by decide) ?_
      refine lv_isub hx hb dX8_addLike_74 ?_
      obtain ⟨hi55, k51⟩ := hk_ge k51
      refine va_lald hx hb hK.1 hP 1 1 rfl rfl (hk_inb_of hi55) dX8_addLike_75 ?_
      obtain ⟨hi56, k51⟩ := hk_ge k51
      refine va_last hx hb hK.1 hP hD hS 1 1 rfl rfl (hk_inb_of hi56) dX8_addLike_76 (fun H locs hP hD hS => ?_)
      have hP : va_P D vwCl [(a_this, .inr (4, [.ref a_this_near, .ref a_this_turned, .ref a_this_figures, .ref a_this_text, .int c_this_length, .ref a_this_sectors, .ref a_this_corners, .int c_this_doubles, .ref a_this_likes, .int c_this_likeMany, .int c_this_pieces, .ref a_this_laid, .ref a_this_isMirrored, .ref a_this_places, .ref a_this_placeMany, .ref a_this_now, .ref a_this_firsts, .ref a_this_forms, .ref a_this_isKept, .ref a_this_keptFigures, .ref a_this_keptPieces, .ref a_this_keptLaid, .ref a_this_keptMirrored])), (a_this_likes, .inl (cJ, 400, .inr (.inl (vp_updL w53 y52.toNatClampNeg (w53 (y52 - (1 : Int32)).toNatClampNeg)))))] H := hP
      have hD : va_D A [(a_this, .inr (4, [.ref a_this_near, .ref a_this_turned, .ref a_this_figures, .ref a_this_text, .int c_this_length, .ref a_this_sectors, .ref a_this_corners, .int c_this_doubles, .ref a_this_likes, .int c_this_likeMany, .int c_this_pieces, .ref a_this_laid, .ref a_this_isMirrored, .ref a_this_places, .ref a_this_placeMany, .ref a_this_now, .ref a_this_firsts, .ref a_this_forms, .ref a_this_isKept, .ref a_this_keptFigures, .ref a_this_keptPieces, .ref a_this_keptLaid, .ref a_this_keptMirrored])), (a_this_likes, .inl (cJ, 400, .inr (.inl (vp_updL w53 y52.toNatClampNeg (w53 (y52 - (1 : Int32)).toNatClampNeg)))))] := hD
      obtain ⟨x57, ex57, k51⟩ := hk_le k51
      refine lv_iinc (v := x57) (lv' := [(4, .int x57), (0, .ref a_this), (1, .long x1), (3, .int z32)]) hx hb dX8_addLike_77 hl (k := 3) rfl (by rw [ex57]; rfl) (by decide) rfl (fun ls hl => ?_)
      refine lv_goto (tgt := 55) hx hb dX8_addLike_80 (by decide) ?_
      exact hck51 (x57, (vp_updL w53 y52.toNatClampNeg (w53 (y52 - (1 : Int32)).toNatClampNeg))) (Option.some.inj k51).symm H locs ls hP hD hS (lv_sub hl [1, 2, 3, 0] rfl)
    intro H locs ls hP hD hS hl
    have hl : lv_has ls 5 [(0, .ref a_this), (1, .long x1), (3, .int z32)] := hl
    have hP : va_P D vwCl [(a_this, .inr (4, [.ref a_this_near, .ref a_this_turned, .ref a_this_figures, .ref a_this_text, .int c_this_length, .ref a_this_sectors, .ref a_this_corners, .int c_this_doubles, .ref a_this_likes, .int c_this_likeMany, .int c_this_pieces, .ref a_this_laid, .ref a_this_isMirrored, .ref a_this_places, .ref a_this_placeMany, .ref a_this_now, .ref a_this_firsts, .ref a_this_forms, .ref a_this_isKept, .ref a_this_keptFigures, .ref a_this_keptPieces, .ref a_this_keptLaid, .ref a_this_keptMirrored])), (a_this_likes, .inl (cJ, 400, .inr (.inl v59)))] H := hP
    have hD : va_D A [(a_this, .inr (4, [.ref a_this_near, .ref a_this_turned, .ref a_this_figures, .ref a_this_text, .int c_this_length, .ref a_this_sectors, .ref a_this_corners, .int c_this_doubles, .ref a_this_likes, .int c_this_likeMany, .int c_this_pieces, .ref a_this_laid, .ref a_this_isMirrored, .ref a_this_places, .ref a_this_placeMany, .ref a_this_now, .ref a_this_firsts, .ref a_this_forms, .ref a_this_isKept, .ref a_this_keptFigures, .ref a_this_keptPieces, .ref a_this_keptLaid, .ref a_this_keptMirrored])), (a_this_likes, .inl (cJ, 400, .inr (.inl v59)))] := hD
    show W _ _ _ _ _ _ _ _ _ _ _ _ _ _ _ (F0 m 83 ls [])
    refine lv_aload_n hx hb dX8_addLike_83 rfl (lv_at hl 0 rfl) ?_
    refine va_get (D := D) (ci := 4) (v := .ref a_this_likes) (C := RX8) (T := TX8) (N := 23) hx hb hts zi_X8_addLike_X8 hown hK.1 hP 0 rfl rfl 8 (by decide) (hts (.fieldLink RX8 30 "HalfAndHalfAgainModel" "likes" "[J") (List.mem_of_getElem? (i := 2) rfl)) (fun _ h9 => h9) rfl dX8_addLike_84 ?_
    refine lv_iload_n hx hb dX8_addLike_87 rfl (lv_at hl 2 rfl) ?_
    refine lv_lload_n hx hb dX8_addLike_88 rfl (lv_at hl 1 rfl) ?_
    obtain ⟨hi62, h⟩ := hk_ge h
    refine va_last hx hb hK.1 hP hD hS 1 1 rfl rfl (hk_inb_of hi62) dX8_addLike_89 (fun H locs hP hD hS => ?_)
    have hP : va_P D vwCl [(a_this, .inr (4, [.ref a_this_near, .ref a_this_turned, .ref a_this_figures, .ref a_this_text, .int c_this_length, .ref a_this_sectors, .ref a_this_corners, .int c_this_doubles, .ref a_this_likes, .int c_this_likeMany, .int c_this_pieces, .ref a_this_laid, .ref a_this_isMirrored, .ref a_this_places, .ref a_this_placeMany, .ref a_this_now, .ref a_this_firsts, .ref a_this_forms, .ref a_this_isKept, .ref a_this_keptFigures, .ref a_this_keptPieces, .ref a_this_keptLaid, .ref a_this_keptMirrored])), (a_this_likes, .inl (cJ, 400, .inr (.inl (vp_updL v59 z32.toNatClampNeg x1))))] H := hP
    have hD : va_D A [(a_this, .inr (4, [.ref a_this_near, .ref a_this_turned, .ref a_this_figures, .ref a_this_text, .int c_this_length, .ref a_this_sectors, .ref a_this_corners, .int c_this_doubles, .ref a_this_likes, .int c_this_likeMany, .int c_this_pieces, .ref a_this_laid, .ref a_this_isMirrored, .ref a_this_places, .ref a_this_placeMany, .ref a_this_now, .ref a_this_firsts, .ref a_this_forms, .ref a_this_isKept, .ref a_this_keptFigures, .ref a_this_keptPieces, .ref a_this_keptLaid, .ref a_this_keptMirrored])), (a_this_likes, .inl (cJ, 400, .inr (.inl (vp_updL v59 z32.toNatClampNeg x1))))] := hD
    refine lv_aload_n hx hb dX8_addLike_90 rfl (lv_at hl 0 rfl) ?_
    refine lv_dup hx hb dX8_addLike_91 rfl ?_
    refine va_get (D := D) (ci := 4) (v := .int c_this_likeMany) (C := RX8) (T := TX8) (N := 23) hx hb hts zi_X8_addLike_X8 hown hK.1 hP 0 rfl rfl 9 (by decide) (hts (.fieldLink RX8 168 "HalfAndHalfAgainModel" "likeMany" "I") (List.mem_of_getElem? (i := 1) rfl)) (fun _ h9 => h9) rfl dX8_addLike_92 ?_
    refine lv_iconst (v := (1 : Int32)) hx hb dX8_addLike_95 (by decide) ?_
    refine lv_iadd hx hb dX8_addLike_96 ?_
    obtain ⟨x63, ex63, h⟩ := hk_le h
    refine hk_ti ex63 ?_
    refine va_put (D := D) (ci := 4) (v := .int x63) (ty := .int) (C := RX8) (T := TX8) (N := 23) hx hb hts zi_X8_addLike_X8 tyX8 tyX8_ok nmX8 hown hK.1 hP hD hS 0 rfl rfl 9 (by decide) (hts (.fieldLink RX8 168 "HalfAndHalfAgainModel" "likeMany" "I") (List.mem_of_getElem? (i := 1) rfl)) (fun _ h9 => h9) rfl (by decide +kernel) rfl rfl (Nat.le_of_ble_eq_true rfl) dX8_addLike_97 (fun H locs hP hD hS => ?_)
    have hP : va_P D vwCl [(a_this, .inr (4, [.ref a_this_near, .ref a_this_turned, .ref a_this_figures, .ref a_this_text, .int c_this_length, .ref a_this_sectors, .ref a_this_corners, .int c_this_doubles, .ref a_this_likes, .int x63, .int c_this_pieces, .ref a_this_laid, .ref a_this_isMirrored, .ref a_this_places, .ref a_this_placeMany, .ref a_this_now, .ref a_this_firsts, .ref a_this_forms, .ref a_this_isKept, .ref a_this_keptFigures, .ref a_this_keptPieces, .ref a_this_keptLaid, .ref a_this_keptMirrored])), (a_this_likes, .inl (cJ, 400, .inr (.inl (vp_updL v59 z32.toNatClampNeg x1))))] H := hP
    have hD : va_D A [(a_this, .inr (4, [.ref a_this_near, .ref a_this_turned, .ref a_this_figures, .ref a_this_text, .int c_this_length, .ref a_this_sectors, .ref a_this_corners, .int c_this_doubles, .ref a_this_likes, .int x63, .int c_this_pieces, .ref a_this_laid, .ref a_this_isMirrored, .ref a_this_places, .ref a_this_placeMany, .ref a_this_now, .ref a_this_firsts, .ref a_this_forms, .ref a_this_isKept, .ref a_this_keptFigures, .ref a_this_keptPieces, .ref a_this_keptLaid, .ref a_this_keptMirrored])), (a_this_likes, .inl (cJ, 400, .inr (.inl (vp_updL v59 z32.toNatClampNeg x1))))] := hD
    subst hQ
    have h := Option.some.inj h
    simp only [Prod.mk.injEq] at h
    obtain ⟨rfl, rfl⟩ := h
    exact W.vret hx hb hr (fun t ht hW => ⟨⟨(), rfl, trivial, by rw [ht]; exact hP, hD⟩, hS.F ht⟩) hS.2.2 dX8_addLike_100
  replace h := hk_ip c50 h
  subst hQ
  have h := Option.some.inj h
  simp only [Prod.mk.injEq] at h
  obtain ⟨rfl, rfl⟩ := h
  exact W.vret hx hb hr (fun t ht hW => ⟨⟨(), rfl, trivial, by rw [ht]; exact hP, hD⟩, hS.F ht⟩) hS.2.2 dX8_addLike_48
theorem zv_X8_layLikes : yX8_layLikes.cls = RX8 ∧ yX8_layLikes.cls ≠ "java/lang/invoke/MethodHandle" ∧ yX8_layLikes.cls ≠ "java/lang/invoke/VarHandle" ∧ (parseMethodDescriptor yX8_layLikes.desc).map (fun d => d.parameters.length) = some 2 := by decide +kernel
def st_X8_layLikes_26c (r26 : Int64) (y31 : Int32) (w32 : Int32) (w33 : Nat → Int64) : Option ((Int32 × Int32 × (Nat → Int64)) ⊕ (Int32 × (Nat → Int64))) := if (49 : Int32) ≤ y31 then (some (.inr (w32, w33))) else (hk_b1 (f_X8_stays r26 ((hk_rem y31 (7 : Int32)) - (3 : Int32)) ((y31 / (7 : Int32)) - (3 : Int32))) fun r35 => hk_b2 (if r35 = 0 then (some (w32, w33)) else (hk_b1 (f_X8_shifted r26 ((hk_rem y31 (7 : Int32)) - (3 : Int32)) ((y31 / (7 : Int32)) - (3 : Int32))) fun r41 => hk_b2 (f_X8_addLike w32 w33 r41) fun u45 u46 => some (u45, u46))) fun v49 v50 => hk_let (y31 + (1 : Int32)) fun x51 => some (.inl (x51, v49, v50)))
def st_X8_layLikes_26 (r26 : Int64) (t9 : (Int32 × Int32 × (Nat → Int64))) : Option ((Int32 × Int32 × (Nat → Int64)) ⊕ (Int32 × (Nat → Int64))) := st_X8_layLikes_26c r26 t9.1 t9.2.1 t9.2.2
def st_X8_layLikes_8c (c_this_turned : Nat → Int32) (x1 : Int64) (x3 : Int32) (y22 : Int32) (w23 : Int32) (w24 : Nat → Int64) : Option ((Int32 × Int32 × (Nat → Int64)) ⊕ (Int32 × (Nat → Int64))) := if x3 ≤ y22 then (some (.inr (w23, w24))) else (hk_b1 (f_X8_turnedBy c_this_turned x1 y22) fun r26 => hk_b2 (hk_wl (st_X8_layLikes_26 r26) hkF ((0 : Int32), w23, w24)) fun v53 v54 => hk_let (y22 + (1 : Int32)) fun x57 => some (.inl (x57, v53, v54)))
def st_X8_layLikes_8 (c_this_turned : Nat → Int32) (x1 : Int64) (x3 : Int32) (t9 : (Int32 × Int32 × (Nat → Int64))) : Option ((Int32 × Int32 × (Nat → Int64)) ⊕ (Int32 × (Nat → Int64))) := st_X8_layLikes_8c c_this_turned x1 x3 t9.1 t9.2.1 t9.2.2
def f_X8_layLikes (c_this_likeMany : Int32) (c_this_turned : Nat → Int32) (c_this_likes : Nat → Int64)  (x1 : Int64) (x3 : Int32) : Option (Int32 × (Nat → Int64)) := hk_b2 (hk_wl (st_X8_layLikes_8 c_this_turned x1 x3) hkF ((0 : Int32), (0 : Int32), c_this_likes)) fun v59 v60 => some (v59, v60)
theorem zi_X8_layLikes_X8 : ∀ w ∈ u_ws RX8 TX8 23, w ∈ wsX8_layLikes := by decide +kernel
set_option maxHeartbeats 8000000 in
set_option maxRecDepth 100000 in
theorem c_X8_layLikes (l : Launch) (D : va_G) (cI cJ cZ cO : ClassId) (a_this a_this_near a_this_turned a_this_figures a_this_text a_this_sectors a_this_corners a_this_likes a_this_laid a_this_isMirrored a_this_places a_this_placeMany a_this_now a_this_firsts a_this_forms a_this_isKept a_this_keptFigures a_this_keptPieces a_this_keptLaid a_this_keptMirrored : Nat) (sz : Nat) (c_this_length : Int32) (c_this_doubles : Int32) (c_this_likeMany : Int32) (c_this_pieces : Int32) (c_this_turned : Nat → Int32) (c_this_likes : Nat → Int64) (x1 : Int64) (x3 : Int32) (u_this_likeMany : Int32) (u_this_likes : Nat → Int64) (hf : f_X8_layLikes c_this_likeMany c_this_turned c_this_likes x1 x3 = some (u_this_likeMany, u_this_likes)) : Met l yX8_layLikes wsX8_layLikes ({ frames := 2, cells := 0, slots := 0, locals := 51 }) (va_Pc [.ref a_this, .long x1, .int x3] (hkM D cI cJ cZ cO [(a_this, .inr (4, [.ref a_this_near, .ref a_this_turned, .ref a_this_figures, .ref a_this_text, .int c_this_length, .ref a_this_sectors, .ref a_this_corners, .int c_this_doubles, .ref a_this_likes, .int c_this_likeMany, .int c_this_pieces, .ref a_this_laid, .ref a_this_isMirrored, .ref a_this_places, .ref a_this_placeMany, .ref a_this_now, .ref a_this_firsts, .ref a_this_forms, .ref a_this_isKept, .ref a_this_keptFigures, .ref a_this_keptPieces, .ref a_this_keptLaid, .ref a_this_keptMirrored])), (a_this_turned, .inl (cI, 512, .inl c_this_turned)), (a_this_likes, .inl (cJ, 400, .inr (.inl c_this_likes)))] sz)) (va_Qv (fun (_ : Unit) => True) (fun _ t => va_P D vwCl [(a_this, .inr (4, [.ref a_this_near, .ref a_this_turned, .ref a_this_figures, .ref a_this_text, .int c_this_length, .ref a_this_sectors, .ref a_this_corners, .int c_this_doubles, .ref a_this_likes, .int u_this_likeMany, .int c_this_pieces, .ref a_this_laid, .ref a_this_isMirrored, .ref a_this_places, .ref a_this_placeMany, .ref a_this_now, .ref a_this_firsts, .ref a_this_forms, .ref a_this_isKept, .ref a_this_keptFigures, .ref a_this_keptPieces, .ref a_this_keptLaid, .ref a_this_keptMirrored])), (a_this_turned, .inl (cI, 512, .inl c_this_turned)), (a_this_likes, .inl (cJ, 400, .inr (.inl u_this_likes)))] t.heap ∧ va_D (va_A [(a_this, .inr (4, [.ref a_this_near, .ref a_this_turned, .ref a_this_figures, .ref a_this_text, .int c_this_length, .ref a_this_sectors, .ref a_this_corners, .int c_this_doubles, .ref a_this_likes, .int c_this_likeMany, .int c_this_pieces, .ref a_this_laid, .ref a_this_isMirrored, .ref a_this_places, .ref a_this_placeMany, .ref a_this_now, .ref a_this_firsts, .ref a_this_forms, .ref a_this_isKept, .ref a_this_keptFigures, .ref a_this_keptPieces, .ref a_this_keptLaid, .ref a_this_keptMirrored])), (a_this_turned, .inl (cI, 512, .inl c_this_turned)), (a_this_likes, .inl (cJ, 400, .inr (.inl c_this_likes)))] sz) [(a_this, .inr (4, [.ref a_this_near, .ref a_this_turned, .ref a_this_figures, .ref a_this_text, .int c_this_length, .ref a_this_sectors, .ref a_this_corners, .int c_this_doubles, .ref a_this_likes, .int u_this_likeMany, .int c_this_pieces, .ref a_this_laid, .ref a_this_isMirrored, .ref a_this_places, .ref a_this_placeMany, .ref a_this_now, .ref a_this_firsts, .ref a_this_forms, .ref a_this_isKept, .ref a_this_keptFigures, .ref a_this_keptPieces, .ref a_this_keptLaid, .ref a_this_keptMirrored])), (a_this_turned, .inl (cI, 512, .inl c_this_turned)), (a_this_likes, .inl (cJ, 400, .inr (.inl u_this_likes)))]) (va_A [(a_this, .inr (4, [.ref a_this_near, .ref a_this_turned, .ref a_this_figures, .ref a_this_text, .int c_this_length, .ref a_this_sectors, .ref a_this_corners, .int c_this_doubles, .ref a_this_likes, .int c_this_likeMany, .int c_this_pieces, .ref a_this_laid, .ref a_this_isMirrored, .ref a_this_places, .ref a_this_placeMany, .ref a_this_now, .ref a_this_firsts, .ref a_this_forms, .ref a_this_isKept, .ref a_this_keptFigures, .ref a_this_keptPieces, .ref a_this_keptLaid, .ref a_this_keptMirrored])), (a_this_turned, .inl (cI, 512, .inl c_this_turned)), (a_this_likes, .inl (cJ, 400, .inr (.inl c_this_likes)))] sz)) 0 0 (va_A [(a_this, .inr (4, [.ref a_this_near, .ref a_this_turned, .ref a_this_figures, .ref a_this_text, .int c_this_length, .ref a_this_sectors, .ref a_this_corners, .int c_this_doubles, .ref a_this_likes, .int c_this_likeMany, .int c_this_pieces, .ref a_this_laid, .ref a_this_isMirrored, .ref a_this_places, .ref a_this_placeMany, .ref a_this_now, .ref a_this_firsts, .ref a_this_forms, .ref a_this_isKept, .ref a_this_keptFigures, .ref a_this_keptPieces, .ref a_this_keptLaid, .ref a_this_keptMirrored])), (a_this_turned, .inl (cI, 512, .inl c_this_turned)), (a_this_likes, .inl (cJ, 400, .inr (.inl c_this_likes)))] sz) := by
  refine Met.ofW (cc := cX8_layLikes) (maxL := 8) (ret := none) (by decide) rfl ?_
  intro p e s m args below meth c s₁ B hml hv
  obtain ⟨rfl, hsz, hP, hK, hD0⟩ := hv
  have hx := B.exec
  have hb := B.bytes
  have hr := B.returns
  have hts := atoms_spec (ws := wsX8_layLikes) B.pre
  have hown : s.vm.findClass RX8 = some m.cls := findClass_of_methodNamed B.named
  have hlocks := B.notSynchronized
  have hN := hK.2
  subst hsz
  have hD := hD0.self (sz := s.heap.size)
  generalize hAe : va_A [(a_this, .inr (4, [.ref a_this_near, .ref a_this_turned, .ref a_this_figures, .ref a_this_text, .int c_this_length, .ref a_this_sectors, .ref a_this_corners, .int c_this_doubles, .ref a_this_likes, .int c_this_likeMany, .int c_this_pieces, .ref a_this_laid, .ref a_this_isMirrored, .ref a_this_places, .ref a_this_placeMany, .ref a_this_now, .ref a_this_firsts, .ref a_this_forms, .ref a_this_isKept, .ref a_this_keptFigures, .ref a_this_keptPieces, .ref a_this_keptLaid, .ref a_this_keptMirrored])), (a_this_turned, .inl (cI, 512, .inl c_this_turned)), (a_this_likes, .inl (cJ, 400, .inr (.inl c_this_likes)))] s.heap.size = A at hD ⊢
  have hA : ∀ q : Nat, s.heap.size ≤ q → A q := fun q h => by rw [← hAe]; exact Or.inr h
  have hS : va_S A s.heap s.heap [] := va_S.rf
  have hl := lv_entry ([.ref a_this, .long x1, .int x3]) (n := 8) (Nat.le_of_ble_eq_true rfl)
  rw [lg_entry_eq]
  generalize (lg_sl ([.ref a_this, .long x1, .int x3]) ++ List.replicate (8 - (lg_sl ([.ref a_this, .long x1, .int x3])).length) Slot.unset).toArray = ls at hl ⊢
  have hl : lv_has ls 8 [(0, .ref a_this), (1, .long x1), (3, .int x3)] := hl
  refine hk_Q (fun Q hQ => ?_)
  have h := hf
  unfold f_X8_layLikes at h
  refine lv_aload_n hx hb dX8_layLikes_0 rfl (lv_at hl 0 rfl) ?_
  refine lv_iconst (v := (0 : Int32)) hx hb dX8_layLikes_1 (by decide) ?_
  refine va_put (D := D) (ci := 4) (v := .int (0 : Int32)) (ty := .int) (C := RX8) (T := TX8) (N := 23) hx hb hts zi_X8_layLikes_X8 tyX8 tyX8_ok nmX8 hown hK.1 hP hD hS 0 rfl rfl 9 (by decide) (hts (.fieldLink RX8 168 "HalfAndHalfAgainModel" "likeMany" "I") (List.mem_of_getElem? (i := 1) rfl)) (fun _ h9 => h9) rfl (by decide +kernel) rfl rfl (Nat.le_of_ble_eq_true rfl) dX8_layLikes_2 (fun H locs hP hD hS => ?_)
  have hP : va_P D vwCl [(a_this, .inr (4, [.ref a_this_near, .ref a_this_turned, .ref a_this_figures, .ref a_this_text, .int c_this_length, .ref a_this_sectors, .ref a_this_corners, .int c_this_doubles, .ref a_this_likes, .int (0 : Int32), .int c_this_pieces, .ref a_this_laid, .ref a_this_isMirrored, .ref a_this_places, .ref a_this_placeMany, .ref a_this_now, .ref a_this_firsts, .ref a_this_forms, .ref a_this_isKept, .ref a_this_keptFigures, .ref a_this_keptPieces, .ref a_this_keptLaid, .ref a_this_keptMirrored])), (a_this_turned, .inl (cI, 512, .inl c_this_turned)), (a_this_likes, .inl (cJ, 400, .inr (.inl c_this_likes)))] H := hP
  have hD : va_D A [(a_this, .inr (4, [.ref a_this_near, .ref a_this_turned, .ref a_this_figures, .ref a_this_text, .int c_this_length, .ref a_this_sectors, .ref a_this_corners, .int c_this_doubles, .ref a_this_likes, .int (0 : Int32), .int c_this_pieces, .ref a_this_laid, .ref a_this_isMirrored, .ref a_this_places, .ref a_this_placeMany, .ref a_this_now, .ref a_this_firsts, .ref a_this_forms, .ref a_this_isKept, .ref a_this_keptFigures, .ref a_this_keptPieces, .ref a_this_keptLaid, .ref a_this_keptMirrored])), (a_this_turned, .inl (cI, 512, .inl c_this_turned)), (a_this_likes, .inl (cJ, 400, .inr (.inl c_this_likes)))] := hD
  refine lv_iconst (v := (0 : Int32)) hx hb dX8_layLikes_5 (by decide) ?_
  refine lv_istore (lv' := [(4, .int (0 : Int32)), (0, .ref a_this), (1, .long x1), (3, .int x3)]) hx hb dX8_layLikes_6 hl (by decide) rfl (fun ls hl => ?_)
  obtain ⟨v59, v60, hr58, h⟩ := hk_x2 h
  refine hk_loopM (f := st_X8_layLikes_8 c_this_turned x1 x3) (hd := 8) (nL := 8) (lv := fun t9 => [(0, .ref a_this), (1, .long x1), (3, .int x3), (4, .int t9.1)]) (wf := fun t9 => [(a_this, .inr (4, [.ref a_this_near, .ref a_this_turned, .ref a_this_figures, .ref a_this_text, .int c_this_length, .ref a_this_sectors, .ref a_this_corners, .int c_this_doubles, .ref a_this_likes, .int t9.2.1, .int c_this_pieces, .ref a_this_laid, .ref a_this_isMirrored, .ref a_this_places, .ref a_this_placeMany, .ref a_this_now, .ref a_this_firsts, .ref a_this_forms, .ref a_this_isKept, .ref a_this_keptFigures, .ref a_this_keptPieces, .ref a_this_keptLaid, .ref a_this_keptMirrored])), (a_this_turned, .inl (cI, 512, .inl c_this_turned)), (a_this_likes, .inl (cJ, 400, .inr (.inl t9.2.2)))]) (xs := fun t9 => (91, [], [], [(a_this, .inr (4, [.ref a_this_near, .ref a_this_turned, .ref a_this_figures, .ref a_this_text, .int c_this_length, .ref a_this_sectors, .ref a_this_corners, .int c_this_doubles, .ref a_this_likes, .int t9.1, .int c_this_pieces, .ref a_this_laid, .ref a_this_isMirrored, .ref a_this_places, .ref a_this_placeMany, .ref a_this_now, .ref a_this_firsts, .ref a_this_forms, .ref a_this_isKept, .ref a_this_keptFigures, .ref a_this_keptPieces, .ref a_this_keptLaid, .ref a_this_keptMirrored])), (a_this_turned, .inl (cI, 512, .inl c_this_turned)), (a_this_likes, .inl (cJ, 400, .inr (.inl t9.2)))])) ?_ hr58 ?_ hP hD hS (lv_sub hl [1, 2, 3, 0] rfl)
  · intro t61 q62 k21 hck21 hqk21 H locs ls hP hD hS hl
    obtain ⟨y22, w23, w24⟩ := t61
    have k21 : st_X8_layLikes_8c c_this_turned x1 x3 y22 w23 w24 = some q62 := k21
    unfold st_X8_layLikes_8c at k21
    have hl : lv_has ls 8 [(0, .ref a_this), (1, .long x1), (3, .int x3), (4, .int y22)] := hl
    have hP : va_P D vwCl [(a_this, .inr (4, [.ref a_this_near, .ref a_this_turned, .ref a_this_figures, .ref a_this_text, .int c_this_length, .ref a_this_sectors, .ref a_this_corners, .int c_this_doubles, .ref a_this_likes, .int w23, .int c_this_pieces, .ref a_this_laid, .ref a_this_isMirrored, .ref a_this_places, .ref a_this_placeMany, .ref a_this_now, .ref a_this_firsts, .ref a_this_forms, .ref a_this_isKept, .ref a_this_keptFigures, .ref a_this_keptPieces, .ref a_this_keptLaid, .ref a_this_keptMirrored])), (a_this_turned, .inl (cI, 512, .inl c_this_turned)), (a_this_likes, .inl (cJ, 400, .inr (.inl w24)))] H := hP
    have hD : va_D A [(a_this, .inr (4, [.ref a_this_near, .ref a_this_turned, .ref a_this_figures, .ref a_this_text, .int c_this_length, .ref a_this_sectors, .ref a_this_corners, .int c_this_doubles, .ref a_this_likes, .int w23, .int c_this_pieces, .ref a_this_laid, .ref a_this_isMirrored, .ref a_this_places, .ref a_this_placeMany, .ref a_this_now, .ref a_this_firsts, .ref a_this_forms, .ref a_this_isKept, .ref a_this_keptFigures, .ref a_this_keptPieces, .ref a_this_keptLaid, .ref a_this_keptMirrored])), (a_this_turned, .inl (cI, 512, .inl c_this_turned)), (a_this_likes, .inl (cJ, 400, .inr (.inl w24)))] := hD
    refine lv_iload hx hb dX8_layLikes_8 (lv_at hl 3 rfl) ?_
    refine lv_iload_n hx hb dX8_layLikes_10 rfl (lv_at hl 2 rfl) ?_
    refine lv_icmp_ge (tgt := 91) hx hb dX8_layLikes_11 (by decide) (fun c25 => ?_) (fun c25 => ?_)
    · replace k21 := hk_ip c25 k21
      exact hqk21 (w23, w24) (Option.some.inj k21).symm H locs ls hP hD hS (lv_sub hl [] rfl)
    replace k21 := hk_in c25 k21
    refine lv_aload_n hx hb dX8_layLikes_14 rfl (lv_at hl 0 rfl) ?_
    refine lv_lload_n hx hb dX8_layLikes_15 rfl (lv_at hl 1 rfl) ?_
    refine lv_iload hx hb dX8_layLikes_16 (lv_at hl 3 rfl) ?_
    obtain ⟨r26, hr27, k21⟩ := hk_x1 k21
    refine vp_callSl (W.runV (As := [.long x1, .int y22]) (rest := []) ⟨hx, hb, hml, hown, hts⟩ (c_X8_turnedBy l D cI cJ cZ cO a_this a_this_near a_this_turned a_this_figures a_this_text a_this_sectors a_this_corners a_this_likes a_this_laid a_this_isMirrored a_this_places a_this_placeMany a_this_now a_this_firsts a_this_forms a_this_isKept a_this_keptFigures a_this_keptPieces a_this_keptLaid a_this_keptMirrored c_this_length c_this_doubles w23 c_this_pieces c_this_turned x1 y22 _ hr27) (cwV 2 hts gX8_layLikes_X8_turnedBy rfl rfl rfl zv_X8_turnedBy ⟨Nat.le_of_ble_eq_true rfl, Nat.le_of_ble_eq_true rfl⟩) (hk_preRV 4 rfl (hP.sub (ws' := [(a_this, .inr (4, [.ref a_this_near, .ref a_this_turned, .ref a_this_figures, .ref a_this_text, .int c_this_length, .ref a_this_sectors, .ref a_this_corners, .int c_this_doubles, .ref a_this_likes, .int w23, .int c_this_pieces, .ref a_this_laid, .ref a_this_isMirrored, .ref a_this_places, .ref a_this_placeMany, .ref a_this_now, .ref a_this_firsts, .ref a_this_forms, .ref a_this_isKept, .ref a_this_keptFigures, .ref a_this_keptPieces, .ref a_this_keptLaid, .ref a_this_keptMirrored])), (a_this_turned, .inl (cI, 512, .inl c_this_turned))]) [0, 1] rfl) hK rfl) rfl rfl hl.1 rfl (lv_room (Nat.le_of_ble_eq_true rfl)) dX8_layLikes_18 ⟨Nat.zero_le _, Nat.zero_le _⟩) (fun p29 e28 => ?_)
    rw [e28]
    refine lv_lstore (lv' := [(5, .long r26), (0, .ref a_this), (1, .long x1), (3, .int x3), (4, .int y22)]) hx hb dX8_layLikes_21 hl (by decide) rfl (fun ls hl => ?_)
    refine lv_iconst (v := (0 : Int32)) hx hb dX8_layLikes_23 (by decide) ?_
    refine lv_istore (lv' := [(7, .int (0 : Int32)), (5, .long r26), (0, .ref a_this), (1, .long x1), (3, .int x3), (4, .int y22)]) hx hb dX8_layLikes_24 hl (by decide) rfl (fun ls hl => ?_)
    obtain ⟨v53, v54, hr52, k21⟩ := hk_x2 k21
    refine hk_loopM (f := st_X8_layLikes_26 r26) (hd := 26) (nL := 8) (lv := fun t9 => [(0, .ref a_this), (1, .long x1), (3, .int x3), (4, .int y22), (5, .long r26), (7, .int t9.1)]) (wf := fun t9 => [(a_this, .inr (4, [.ref a_this_near, .ref a_this_turned, .ref a_this_figures, .ref a_this_text, .int c_this_length, .ref a_this_sectors, .ref a_this_corners, .int c_this_doubles, .ref a_this_likes, .int t9.2.1, .int c_this_pieces, .ref a_this_laid, .ref a_this_isMirrored, .ref a_this_places, .ref a_this_placeMany, .ref a_this_now, .ref a_this_firsts, .ref a_this_forms, .ref a_this_isKept, .ref a_this_keptFigures, .ref a_this_keptPieces, .ref a_this_keptLaid, .ref a_this_keptMirrored])), (a_this_turned, .inl (cI, 512, .inl c_this_turned)), (a_this_likes, .inl (cJ, 400, .inr (.inl t9.2.2)))]) (xs := fun t9 => (85, [(0, .ref a_this), (1, .long x1), (3, .int x3), (4, .int y22)], [], [(a_this, .inr (4, [.ref a_this_near, .ref a_this_turned, .ref a_this_figures, .ref a_this_text, .int c_this_length, .ref a_this_sectors, .ref a_this_corners, .int c_this_doubles, .ref a_this_likes, .int t9.1, .int c_this_pieces, .ref a_this_laid, .ref a_this_isMirrored, .ref a_this_places, .ref a_this_placeMany, .ref a_this_now, .ref a_this_firsts, .ref a_this_forms, .ref a_this_isKept, .ref a_this_keptFigures, .ref a_this_keptPieces, .ref a_this_keptLaid, .ref a_this_keptMirrored])), (a_this_turned, .inl (cI, 512, .inl c_this_turned)), (a_this_likes, .inl (cJ, 400, .inr (.inl t9.2)))])) ?_ hr52 ?_ hP hD hS (lv_sub hl [2, 3, 4, 5, 1, 0] rfl)
    · intro t55 q56 k30 hck30 hqk30 H locs ls hP hD hS hl
      obtain ⟨y31, w32, w33⟩ := t55
      have k30 : st_X8_layLikes_26c r26 y31 w32 w33 = some q56 := k30
      unfold st_X8_layLikes_26c at k30
      have hl : lv_has ls 8 [(0, .ref a_this), (1, .long x1), (3, .int x3), (4, .int y22), (5, .long r26), (7, .int y31)] := hl
      have hP : va_P D vwCl [(a_this, .inr (4, [.ref a_this_near, .ref a_this_turned, .ref a_this_figures, .ref a_this_text, .int c_this_length, .ref a_this_sectors, .ref a_this_corners, .int c_this_doubles, .ref a_this_likes, .int w32, .int c_this_pieces, .ref a_this_laid, .ref a_this_isMirrored, .ref a_this_places, .ref a_this_placeMany, .ref a_this_now, .ref a_this_firsts, .ref a_this_forms, .ref a_this_isKept, .ref a_this_keptFigures, .ref a_this_keptPieces, .ref a_this_keptLaid, .ref a_this_keptMirrored])), (a_this_turned, .inl (cI, 512, .inl c_this_turned)), (a_this_likes, .inl (cJ, 400, .inr (.inl w33)))] H := hP
      have hD : va_D A [(a_this, .inr (4, [.ref a_this_near, .ref a_this_turned, .ref a_this_figures, .ref a_this_text, .int c_this_length, .ref a_this_sectors, .ref a_this_corners, .int c_this_doubles, .ref a_this_likes, .int w32, .int c_this_pieces, .ref a_this_laid, .ref a_this_isMirrored, .ref a_this_places, .ref a_this_placeMany, .ref a_this_now, .ref a_this_firsts, .ref a_this_forms, .ref a_this_isKept, .ref a_this_keptFigures, .ref a_this_keptPieces, .ref a_this_keptLaid, .ref a_this_keptMirrored])), (a_this_turned, .inl (cI, 512, .inl c_this_turned)), (a_this_likes, .inl (cJ, 400, .inr (.inl w33)))] := hD
      refine lv_iload hx hb dX8_layLikes_26 (lv_at hl 5 rfl) ?_
      refine lv_bipush (v := (49 : Int32)) hx hb dX8_layLikes_28 (by decide) ?_
      refine lv_icmp_ge (tgt := 85) hx hb dX8_layLikes_30 (by decide) (fun c34 => ?_) (fun c34 => ?_)
      · replace k30 := hk_ip c34 k30
        exact hqk30 (w32, w33) (Option.some.inj k30).symm H locs ls hP hD hS (lv_sub hl [0, 1, 2, 3] rfl)
      replace k30 := hk_in c34 k30
      refine lv_aload_n hx hb dX8_layLikes_33 rfl (lv_at hl 0 rfl) ?_
      refine lv_lload hx hb dX8_layLikes_34 (lv_at hl 4 rfl) ?_
      refine lv_iload hx hb dX8_layLikes_36 (lv_at hl 5 rfl) ?_
      refine lv_bipush (v := (7 : Int32)) hx hb dX8_layLikes_38 (by decide) ?_
      refine lv_irem hx hb dX8_layLikes_40 (by decide) ?_
      refine hk_ti (y := (hk_rem y31 (7 : Int32))) rfl ?_
      refine lv_iconst (v := (3 : Int32)) hx hb dX8_layLikes_41 (by decide) ?_
      refine lv_isub hx hb dX8_layLikes_42 ?_
      refine lv_iload hx hb dX8_layLikes_43 (lv_at hl 5 rfl) ?_
      refine lv_bipush (v := (7 : Int32)) hx hb dX8_layLikes_45 (by decide) ?_
      refine lv_idiv hx hb dX8_layLikes_47 (by decide) ?_
      refine lv_iconst (v := (3 : Int32)) hx hb dX8_layLikes_48 (by decide) ?_
      refine lv_isub hx hb dX8_layLikes_49 ?_
      obtain ⟨r35, hr36, k30⟩ := hk_x1 k30
      refine vp_callSi (W.runV (As := [.long r26, .int ((hk_rem y31 (7 : Int32)) - (3 : Int32)), .int ((y31 / (7 : Int32)) - (3 : Int32))]) (rest := []) ⟨hx, hb, hml, hown, hts⟩ (c_X8_stays l D cI cJ cZ cO a_this a_this_near a_this_turned a_this_figures a_this_text a_this_sectors a_this_corners a_this_likes a_this_laid a_this_isMirrored a_this_places a_this_placeMany a_this_now a_this_firsts a_this_forms a_this_isKept a_this_keptFigures a_this_keptPieces a_this_keptLaid a_this_keptMirrored c_this_length c_this_doubles w32 c_this_pieces r26 ((hk_rem y31 (7 : Int32)) - (3 : Int32)) ((y31 / (7 : Int32)) - (3 : Int32)) _ hr36) (cwV 3 hts gX8_layLikes_X8_stays rfl rfl rfl zv_X8_stays ⟨Nat.le_of_ble_eq_true rfl, Nat.le_of_ble_eq_true rfl⟩) (hk_preRV 4 rfl (hP.sub (ws' := [(a_this, .inr (4, [.ref a_this_near, .ref a_this_turned, .ref a_this_figures, .ref a_this_text, .int c_this_length, .ref a_this_sectors, .ref a_this_corners, .int c_this_doubles, .ref a_this_likes, .int w32, .int c_this_pieces, .ref a_this_laid, .ref a_this_isMirrored, .ref a_this_places, .ref a_this_placeMany, .ref a_this_now, .ref a_this_firsts, .ref a_this_forms, .ref a_this_isKept, .ref a_this_keptFigures, .ref a_this_keptPieces, .ref a_this_keptLaid, .ref a_this_keptMirrored]))]) [0] rfl) hK rfl) rfl rfl hl.1 rfl (lv_room (Nat.le_of_ble_eq_true rfl)) dX8_layLikes_50 ⟨Nat.zero_le _, Nat.zero_le _⟩) (fun p38 e37 => ?_)
      rw [e37]
      obtain ⟨v49, v50, g39, k30⟩ := hk_x2 k30
      refine hk_joinM (D := D) (cl := vwCl) (A := A) (H0 := s.heap) (nL := 8) (xs := fun (t9 : (Int32 × (Nat → Int64))) => (79, [(0, .ref a_this), (1, .long x1), (3, .int x3), (4, .int y22), (5, .long r26), (7, .int y31)], [], [(a_this, .inr (4, [.ref a_this_near, .ref a_this_turned, .ref a_this_figures, .ref a_this_text, .int c_this_length, .ref a_this_sectors, .ref a_this_corners, .int c_this_doubles, .ref a_this_likes, .int t9.1, .int c_this_pieces, .ref a_this_laid, .ref a_this_isMirrored, .ref a_this_places, .ref a_this_placeMany, .ref a_this_now, .ref a_this_firsts, .ref a_this_forms, .ref a_this_isKept, .ref a_this_keptFigures, .ref a_this_keptPieces, .ref a_this_keptLaid, .ref a_this_keptMirrored])), (a_this_turned, .inl (cI, 512, .inl c_this_turned)), (a_this_likes, .inl (cJ, 400, .inr (.inl t9.2)))])) (v49, v50) (fun hjg39 => ?_) ?_
      · refine lv_if_eq (tgt := 79) hx hb dX8_layLikes_53 (by decide) (fun c40 => ?_) (fun c40 => ?_)
        · replace g39 := hk_ip c40 g39
          have g39 := Option.some.inj g39
          simp only [Prod.mk.injEq] at g39
          obtain ⟨rfl, rfl⟩ := g39
          exact hjg39 H locs ls hP hD hS (lv_sub hl [0, 1, 2, 3, 4, 5] rfl)
        replace g39 := hk_in c40 g39
        refine lv_aload_n hx hb dX8_layLikes_56 rfl (lv_at hl 0 rfl) ?_
        refine lv_lload hx hb dX8_layLikes_57 (lv_at hl 4 rfl) ?_
        refine lv_iload hx hb dX8_layLikes_59 (lv_at hl 5 rfl) ?_
        refine lv_bipush (v := (7 : Int32)) hx hb dX8_layLikes_61 (by decide) ?_
        refine lv_irem hx hb dX8_layLikes_63 (by decide) ?_
        refine hk_ti (y := (hk_rem y31 (7 : Int32))) rfl ?_
        refine lv_iconst (v := (3 : Int32)) hx hb dX8_layLikes_64 (by decide) ?_
        refine lv_isub hx hb dX8_layLikes_65 ?_
        refine lv_iload hx hb dX8_layLikes_66 (lv_at hl 5 rfl) ?_
        refine lv_bipush (v := (7 : Int32)) hx hb dX8_layLikes_68 (by decide) ?_
        refine lv_idiv hx hb dX8_layLikes_70 (by decide) ?_
        refine lv_iconst (v := (3 : Int32)) hx hb dX8_layLikes_71 (by decide) ?_
        refine lv_isub hx hb dX8_layLikes_72 ?_
        obtain ⟨r41, hr42, g39⟩ := hk_x1 g39
        refine vp_callSl (W.runS (As := [.long r26, .int ((hk_rem y31 (7 : Int32)) - (3 : Int32)), .int ((y31 / (7 : Int32)) - (3 : Int32))]) (rest := [.ref a_this]) ⟨hx, hb, hml, hown, hts⟩ (c_X8_shifted l r26 ((hk_rem y31 (7 : Int32)) - (3 : Int32)) ((y31 / (7 : Int32)) - (3 : Int32)) _ hr42) (va_cwS 3 hts gX8_layLikes_X8_shifted rfl rfl rfl zs_X8_shifted ⟨Nat.le_of_ble_eq_true rfl, Nat.le_of_ble_eq_true rfl⟩) ⟨fun _ _ _ _ q => q, fun _ _ _ => ⟨rfl, trivial⟩⟩ rfl rfl hl.1 rfl (lv_room (Nat.le_of_ble_eq_true rfl)) dX8_layLikes_73 ⟨Nat.zero_le _, Nat.zero_le _⟩) (fun p44 e43 => ?_)
        rw [e43]
        obtain ⟨u45, u46, hr47, g39⟩ := hk_x2 g39
        have hPc := hP.sub (ws' := [(a_this, .inr (4, [.ref a_this_near, .ref a_this_turned, .ref a_this_figures, .ref a_this_text, .int c_this_length, .ref a_this_sectors, .ref a_this_corners, .int c_this_doubles, .ref a_this_likes, .int w32, .int c_this_pieces, .ref a_this_laid, .ref a_this_isMirrored, .ref a_this_places, .ref a_this_placeMany, .ref a_this_now, .ref a_this_firsts, .ref a_this_forms, .ref a_this_isKept, .ref a_this_keptFigures, .ref a_this_keptPieces, .ref a_this_keptLaid, .ref a_this_keptMirrored])), (a_this_likes, .inl (cJ, 400, .inr (.inl w33)))]) [0, 2] rfl
        have hDc := hD.sub (ws' := [(a_this, .inr (4, [.ref a_this_near, .ref a_this_turned, .ref a_this_figures, .ref a_this_text, .int c_this_length, .ref a_this_sectors, .ref a_this_corners, .int c_this_doubles, .ref a_this_likes, .int w32, .int c_this_pieces, .ref a_this_laid, .ref a_this_isMirrored, .ref a_this_places, .ref a_this_placeMany, .ref a_this_now, .ref a_this_firsts, .ref a_this_forms, .ref a_this_isKept, .ref a_this_keptFigures, .ref a_this_keptPieces, .ref a_this_keptLaid, .ref a_this_keptMirrored])), (a_this_likes, .inl (cJ, 400, .inr (.inl w33)))]) [0, 2] (by decide) rfl
        have hFc := va_free (wc := [(a_this, .inr (4, [.ref a_this_near, .ref a_this_turned, .ref a_this_figures, .ref a_this_text, .int c_this_length, .ref a_this_sectors, .ref a_this_corners, .int c_this_doubles, .ref a_this_likes, .int w32, .int c_this_pieces, .ref a_this_laid, .ref a_this_isMirrored, .ref a_this_places, .ref a_this_placeMany, .ref a_this_now, .ref a_this_firsts, .ref a_this_forms, .ref a_this_isKept, .ref a_this_keptFigures, .ref a_this_keptPieces, .ref a_this_keptLaid, .ref a_this_keptMirrored])), (a_this_likes, .inl (cJ, 400, .inr (.inl w33)))]) hD hS hA [0, 2] rfl
        refine va_callv (va_runV (As := [.long r41]) (rest := []) ⟨hx, hb, hml, hown, hts⟩ (c_X8_addLike l D cI cJ cZ cO a_this a_this_near a_this_turned a_this_figures a_this_text a_this_sectors a_this_corners a_this_likes a_this_laid a_this_isMirrored a_this_places a_this_placeMany a_this_now a_this_firsts a_this_forms a_this_isKept a_this_keptFigures a_this_keptPieces a_this_keptLaid a_this_keptMirrored H.size c_this_length c_this_doubles w32 c_this_pieces w33 r41 _ _ hr47) (cwV 1 hts gX8_layLikes_X8_addLike rfl rfl rfl zv_X8_addLike ⟨Nat.le_of_ble_eq_true rfl, Nat.le_of_ble_eq_true rfl⟩) (hk_preMV 4 rfl hPc hDc hK rfl) rfl rfl hl.1 rfl (lv_room (Nat.le_of_ble_eq_true rfl)) dX8_layLikes_76 ⟨Nat.zero_le _, Nat.zero_le _⟩) hS (fun q _ h9 => hFc q h9) hFc (fun u9 t9 H1 locs ht hvm hw hB hz1 hk1 hS => ?_)
        obtain ⟨hP1, hD1⟩ := hB
        rw [ht] at hP1
        obtain ⟨hP, hD⟩ := va_join (wr := [(a_this_turned, .inl (cI, 512, .inl c_this_turned))]) (w1 := [(a_this, .inr (4, [.ref a_this_near, .ref a_this_turned, .ref a_this_figures, .ref a_this_text, .int c_this_length, .ref a_this_sectors, .ref a_this_corners, .int c_this_doubles, .ref a_this_likes, .int u45, .int c_this_pieces, .ref a_this_laid, .ref a_this_isMirrored, .ref a_this_places, .ref a_this_placeMany, .ref a_this_now, .ref a_this_firsts, .ref a_this_forms, .ref a_this_isKept, .ref a_this_keptFigures, .ref a_this_keptPieces, .ref a_this_keptLaid, .ref a_this_keptMirrored])), (a_this_likes, .inl (cJ, 400, .inr (.inl u46)))]) hP hD [0, 2] [1] rfl rfl (by decide) (by decide) hk1 hFc hP1 hD1
        generalize H1 = H at hP hS ⊢
        have hP := hP.sub (ws' := [(a_this, .inr (4, [.ref a_this_near, .ref a_this_turned, .ref a_this_figures, .ref a_this_text, .int c_this_length, .ref a_this_sectors, .ref a_this_corners, .int c_this_doubles, .ref a_this_likes, .int u45, .int c_this_pieces, .ref a_this_laid, .ref a_this_isMirrored, .ref a_this_places, .ref a_this_placeMany, .ref a_this_now, .ref a_this_firsts, .ref a_this_forms, .ref a_this_isKept, .ref a_this_keptFigures, .ref a_this_keptPieces, .ref a_this_keptLaid, .ref a_this_keptMirrored])), (a_this_turned, .inl (cI, 512, .inl c_this_turned)), (a_this_likes, .inl (cJ, 400, .inr (.inl u46)))]) [1, 0, 2] rfl
        have hD := hD.sub (ws' := [(a_this, .inr (4, [.ref a_this_near, .ref a_this_turned, .ref a_this_figures, .ref a_this_text, .int c_this_length, .ref a_this_sectors, .ref a_this_corners, .int c_this_doubles, .ref a_this_likes, .int u45, .int c_this_pieces, .ref a_this_laid, .ref a_this_isMirrored, .ref a_this_places, .ref a_this_placeMany, .ref a_this_now, .ref a_this_firsts, .ref a_this_forms, .ref a_this_isKept, .ref a_this_keptFigures, .ref a_this_keptPieces, .ref a_this_keptLaid, .ref a_this_keptMirrored])), (a_this_turned, .inl (cI, 512, .inl c_this_turned)), (a_this_likes, .inl (cJ, 400, .inr (.inl u46)))]) [1, 0, 2] (by decide) rfl
        have g39 := Option.some.inj g39
        simp only [Prod.mk.injEq] at g39
        obtain ⟨rfl, rfl⟩ := g39
        exact hjg39 H locs ls hP hD hS (lv_sub hl [0, 1, 2, 3, 4, 5] rfl)
      intro H locs ls hP hD hS hl
      have hl : lv_has ls 8 [(0, .ref a_this), (1, .long x1), (3, .int x3), (4, .int y22), (5, .long r26), (7, .int y31)] := hl
      have hP : va_P D vwCl [(a_this, .inr (4, [.ref a_this_near, .ref a_this_turned, .ref a_this_figures, .ref a_this_text, .int c_this_length, .ref a_this_sectors, .ref a_this_corners, .int c_this_doubles, .ref a_this_likes, .int v49, .int c_this_pieces, .ref a_this_laid, .ref a_this_isMirrored, .ref a_this_places, .ref a_this_placeMany, .ref a_this_now, .ref a_this_firsts, .ref a_this_forms, .ref a_this_isKept, .ref a_this_keptFigures, .ref a_this_keptPieces, .ref a_this_keptLaid, .ref a_this_keptMirrored])), (a_this_turned, .inl (cI, 512, .inl c_this_turned)), (a_this_likes, .inl (cJ, 400, .inr (.inl v50)))] H := hP
      have hD : va_D A [(a_this, .inr (4, [.ref a_this_near, .ref a_this_turned, .ref a_this_figures, .ref a_this_text, .int c_this_length, .ref a_this_sectors, .ref a_this_corners, .int c_this_doubles, .ref a_this_likes, .int v49, .int c_this_pieces, .ref a_this_laid, .ref a_this_isMirrored, .ref a_this_places, .ref a_this_placeMany, .ref a_this_now, .ref a_this_firsts, .ref a_this_forms, .ref a_this_isKept, .ref a_this_keptFigures, .ref a_this_keptPieces, .ref a_this_keptLaid, .ref a_this_keptMirrored])), (a_this_turned, .inl (cI, 512, .inl c_this_turned)), (a_this_likes, .inl (cJ, 400, .inr (.inl v50)))] := hD
      show W _ _ _ _ _ _ _ _ _ _ _ _ _ _ _ (F0 m 79 ls [])
      obtain ⟨x51, ex51, k30⟩ := hk_le k30
      refine lv_iinc (v := x51) (lv' := [(7, .int x51), (0, .ref a_this), (1, .long x1), (3, .int x3), (4, .int y22), (5, .long r26)]) hx hb dX8_layLikes_79 hl (k := 5) rfl (by rw [ex51]; rfl) (by decide) rfl (fun ls hl => ?_)
      refine lv_goto (tgt := 26) hx hb dX8_layLikes_82 (by decide) ?_
      exact hck30 (x51, v49, v50) (Option.some.inj k30).symm H locs ls hP hD hS (lv_sub hl [1, 2, 3, 4, 5, 0] rfl)
    intro H locs ls hP hD hS hl
    have hl : lv_has ls 8 [(0, .ref a_this), (1, .long x1), (3, .int x3), (4, .int y22)] := hl
    have hP : va_P D vwCl [(a_this, .inr (4, [.ref a_this_near, .ref a_this_turned, .ref a_this_figures, .ref a_this_text, .int c_this_length, .ref a_this_sectors, .ref a_this_corners, .int c_this_doubles, .ref a_this_likes, .int v53, .int c_this_pieces, .ref a_this_laid, .ref a_this_isMirrored, .ref a_this_places, .ref a_this_placeMany, .ref a_this_now, .ref a_this_firsts, .ref a_this_forms, .ref a_this_isKept, .ref a_this_keptFigures, .ref a_this_keptPieces, .ref a_this_keptLaid, .ref a_this_keptMirrored])), (a_this_turned, .inl (cI, 512, .inl c_this_turned)), (a_this_likes, .inl (cJ, 400, .inr (.inl v54)))] H := hP
    have hD : va_D A [(a_this, .inr (4, [.ref a_this_near, .ref a_this_turned, .ref a_this_figures, .ref a_this_text, .int c_this_length, .ref a_this_sectors, .ref a_this_corners, .int c_this_doubles, .ref a_this_likes, .int v53, .int c_this_pieces, .ref a_this_laid, .ref a_this_isMirrored, .ref a_this_places, .ref a_this_placeMany, .ref a_this_now, .ref a_this_firsts, .ref a_this_forms, .ref a_this_isKept, .ref a_this_keptFigures, .ref a_this_keptPieces, .ref a_this_keptLaid, .ref a_this_keptMirrored])), (a_this_turned, .inl (cI, 512, .inl c_this_turned)), (a_this_likes, .inl (cJ, 400, .inr (.inl v54)))] := hD
    show W _ _ _ _ _ _ _ _ _ _ _ _ _ _ _ (F0 m 85 ls [])
    obtain ⟨x57, ex57, k21⟩ := hk_le k21
    refine lv_iinc (v := x57) (lv' := [(4, .int x57), (0, .ref a_this), (1, .long x1), (3, .int x3)]) hx hb dX8_layLikes_85 hl (k := 3) rfl (by rw [ex57]; rfl) (by decide) rfl (fun ls hl => ?_)
    refine lv_goto (tgt := 8) hx hb dX8_layLikes_88 (by decide) ?_
    exact hck21 (x57, v53, v54) (Option.some.inj k21).symm H locs ls hP hD hS (lv_sub hl [1, 2, 3, 0] rfl)
  intro H locs ls hP hD hS hl
  have hl : lv_has ls 8 [] := hl
  have hP : va_P D vwCl [(a_this, .inr (4, [.ref a_this_near, .ref a_this_turned, .ref a_this_figures, .ref a_this_text, .int c_this_length, .ref a_this_sectors, .ref a_this_corners, .int c_this_doubles, .ref a_this_likes, .int v59, .int c_this_pieces, .ref a_this_laid, .ref a_this_isMirrored, .ref a_this_places, .ref a_this_placeMany, .ref a_this_now, .ref a_this_firsts, .ref a_this_forms, .ref a_this_isKept, .ref a_this_keptFigures, .ref a_this_keptPieces, .ref a_this_keptLaid, .ref a_this_keptMirrored])), (a_this_turned, .inl (cI, 512, .inl c_this_turned)), (a_this_likes, .inl (cJ, 400, .inr (.inl v60)))] H := hP
  have hD : va_D A [(a_this, .inr (4, [.ref a_this_near, .ref a_this_turned, .ref a_this_figures, .ref a_this_text, .int c_this_length, .ref a_this_sectors, .ref a_this_corners, .int c_this_doubles, .ref a_this_likes, .int v59, .int c_this_pieces, .ref a_this_laid, .ref a_this_isMirrored, .ref a_this_places, .ref a_this_placeMany, .ref a_this_now, .ref a_this_firsts, .ref a_this_forms, .ref a_this_isKept, .ref a_this_keptFigures, .ref a_this_keptPieces, .ref a_this_keptLaid, .ref a_this_keptMirrored])), (a_this_turned, .inl (cI, 512, .inl c_this_turned)), (a_this_likes, .inl (cJ, 400, .inr (.inl v60)))] := hD
  show W _ _ _ _ _ _ _ _ _ _ _ _ _ _ _ (F0 m 91 ls [])
  subst hQ
  have h := Option.some.inj h
  simp only [Prod.mk.injEq] at h
  obtain ⟨rfl, rfl⟩ := h
  exact W.vret hx hb hr (fun t ht hW => ⟨⟨(), rfl, trivial, by rw [ht]; exact hP, hD⟩, hS.F ht⟩) hS.2.2 dX8_layLikes_91
