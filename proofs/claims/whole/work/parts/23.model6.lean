/-! walks printed by wip/whole/gen.py -/
theorem zv_X8_ways : yX8_ways.cls = RX8 ∧ yX8_ways.cls ≠ "java/lang/invoke/MethodHandle" ∧ yX8_ways.cls ≠ "java/lang/invoke/VarHandle" ∧ (parseMethodDescriptor yX8_ways.desc).map (fun d => d.parameters.length) = some 1 := by decide +kernel
def f_X8_ways (c_this_likeMany : Int32) (c_this_pieces : Int32) (c_this_figures : Nat → Int64) (c_this_laid : Nat → Int64) (c_this_isMirrored : Nat → Int32) (c_this_turned : Nat → Int32) (c_this_likes : Nat → Int64) (c_this_placeMany : Nat → Int32) (c_this_places : Nat → Int64) (c_this_firsts : Nat → Int64) (c_this_now : Nat → Int32)  (x1 : Int32) : Option (Int32 × Int32 × (Nat → Int64) × (Nat → Int32) × (Nat → Int64) × (Nat → Int64) × (Nat → Int32)) := hk_b1 (f_X8_isFigure x1) fun r21 => if r21 = 0 then (some ((-1 : Int32), c_this_likeMany, c_this_likes, c_this_placeMany, c_this_places, c_this_firsts, c_this_now)) else (hk_gd (hk_inb x1 8) (hk_b7 (f_X8_layWays c_this_likeMany c_this_pieces c_this_laid c_this_isMirrored c_this_turned c_this_likes c_this_placeMany c_this_places c_this_firsts c_this_now (c_this_figures x1.toNatClampNeg)) fun r27 u28 u29 u30 u31 u32 u33 => some (r27, u28, u29, u30, u31, u32, u33)))
theorem zi_X8_ways_X8 : ∀ w ∈ u_ws RX8 TX8 23, w ∈ wsX8_ways := by decide +kernel
set_option maxHeartbeats 8000000 in
set_option maxRecDepth 100000 in
theorem c_X8_ways (l : Launch) (D : va_G) (cI cJ cZ cO : ClassId) (a_this a_this_near a_this_turned a_this_figures a_this_text a_this_sectors a_this_corners a_this_likes a_this_laid a_this_isMirrored a_this_places a_this_placeMany a_this_now a_this_firsts a_this_forms a_this_isKept a_this_keptFigures a_this_keptPieces a_this_keptLaid a_this_keptMirrored : Nat) (sz : Nat) (c_this_length : Int32) (c_this_doubles : Int32) (c_this_likeMany : Int32) (c_this_pieces : Int32) (c_this_figures : Nat → Int64) (c_this_laid : Nat → Int64) (c_this_isMirrored : Nat → Int32) (c_this_turned : Nat → Int32) (c_this_likes : Nat → Int64) (c_this_placeMany : Nat → Int32) (c_this_places : Nat → Int64) (c_this_firsts : Nat → Int64) (c_this_now : Nat → Int32) (x1 : Int32) (rv : Int32) (u_this_likeMany : Int32) (u_this_likes : Nat → Int64) (u_this_placeMany : Nat → Int32) (u_this_places : Nat → Int64) (u_this_firsts : Nat → Int64) (u_this_now : Nat → Int32) (hf : f_X8_ways c_this_likeMany c_this_pieces c_this_figures c_this_laid c_this_isMirrored c_this_turned c_this_likes c_this_placeMany c_this_places c_this_firsts c_this_now x1 = some (rv, u_this_likeMany, u_this_likes, u_this_placeMany, u_this_places, u_this_firsts, u_this_now)) : Met l yX8_ways wsX8_ways ({ frames := 5, cells := 0, slots := 0, locals := 130 }) (va_Pc [.ref a_this, .int x1] (hkM D cI cJ cZ cO [(a_this, .inr (4, [.ref a_this_near, .ref a_this_turned, .ref a_this_figures, .ref a_this_text, .int c_this_length, .ref a_this_sectors, .ref a_this_corners, .int c_this_doubles, .ref a_this_likes, .int c_this_likeMany, .int c_this_pieces, .ref a_this_laid, .ref a_this_isMirrored, .ref a_this_places, .ref a_this_placeMany, .ref a_this_now, .ref a_this_firsts, .ref a_this_forms, .ref a_this_isKept, .ref a_this_keptFigures, .ref a_this_keptPieces, .ref a_this_keptLaid, .ref a_this_keptMirrored])), (a_this_figures, .inl (cJ, 8, .inr (.inl c_this_figures))), (a_this_laid, .inl (cJ, 4, .inr (.inl c_this_laid))), (a_this_isMirrored, .inl (cZ, 4, .inl c_this_isMirrored)), (a_this_turned, .inl (cI, 512, .inl c_this_turned)), (a_this_likes, .inl (cJ, 400, .inr (.inl c_this_likes))), (a_this_placeMany, .inl (cI, 4, .inl c_this_placeMany)), (a_this_places, .inl (cJ, 1600, .inr (.inl c_this_places))), (a_this_firsts, .inl (cJ, 4, .inr (.inl c_this_firsts))), (a_this_now, .inl (cI, 4, .inl c_this_now))] sz)) (va_Qi (fun r (_ : Unit) => r = rv) (fun _ t => va_P D vwCl [(a_this, .inr (4, [.ref a_this_near, .ref a_this_turned, .ref a_this_figures, .ref a_this_text, .int c_this_length, .ref a_this_sectors, .ref a_this_corners, .int c_this_doubles, .ref a_this_likes, .int u_this_likeMany, .int c_this_pieces, .ref a_this_laid, .ref a_this_isMirrored, .ref a_this_places, .ref a_this_placeMany, .ref a_this_now, .ref a_this_firsts, .ref a_this_forms, .ref a_this_isKept, .ref a_this_keptFigures, .ref a_this_keptPieces, .ref a_this_keptLaid, .ref a_this_keptMirrored])), (a_this_figures, .inl (cJ, 8, .inr (.inl c_this_figures))), (a_this_laid, .inl (cJ, 4, .inr (.inl c_this_laid))), (a_this_isMirrored, .inl (cZ, 4, .inl c_this_isMirrored)), (a_this_turned, .inl (cI, 512, .inl c_this_turned)), (a_this_likes, .inl (cJ, 400, .inr (.inl u_this_likes))), (a_this_placeMany, .inl (cI, 4, .inl u_this_placeMany)), (a_this_places, .inl (cJ, 1600, .inr (.inl u_this_places))), (a_this_firsts, .inl (cJ, 4, .inr (.inl u_this_firsts))), (a_this_now, .inl (cI, 4, .inl u_this_now))] t.heap ∧ va_D (va_A [(a_this, .inr (4, [.ref a_this_near, .ref a_this_turned, .ref a_this_figures, .ref a_this_text, .int c_this_length, .ref a_this_sectors, .ref a_this_corners, .int c_this_doubles, .ref a_this_likes, .int c_this_likeMany, .int c_this_pieces, .ref a_this_laid, .ref a_this_isMirrored, .ref a_this_places, .ref a_this_placeMany, .ref a_this_now, .ref a_this_firsts, .ref a_this_forms, .ref a_this_isKept, .ref a_this_keptFigures, .ref a_this_keptPieces, .ref a_this_keptLaid, .ref a_this_keptMirrored])), (a_this_figures, .inl (cJ, 8, .inr (.inl c_this_figures))), (a_this_laid, .inl (cJ, 4, .inr (.inl c_this_laid))), (a_this_isMirrored, .inl (cZ, 4, .inl c_this_isMirrored)), (a_this_turned, .inl (cI, 512, .inl c_this_turned)), (a_this_likes, .inl (cJ, 400, .inr (.inl c_this_likes))), (a_this_placeMany, .inl (cI, 4, .inl c_this_placeMany)), (a_this_places, .inl (cJ, 1600, .inr (.inl c_this_places))), (a_this_firsts, .inl (cJ, 4, .inr (.inl c_this_firsts))), (a_this_now, .inl (cI, 4, .inl c_this_now))] sz) [(a_this, .inr (4, [.ref a_this_near, .ref a_this_turned, .ref a_this_figures, .ref a_this_text, .int c_this_length, .ref a_this_sectors, .ref a_this_corners, .int c_this_doubles, .ref a_this_likes, .int u_this_likeMany, .int c_this_pieces, .ref a_this_laid, .ref a_this_isMirrored, .ref a_this_places, .ref a_this_placeMany, .ref a_this_now, .ref a_this_firsts, .ref a_this_forms, .ref a_this_isKept, .ref a_this_keptFigures, .ref a_this_keptPieces, .ref a_this_keptLaid, .ref a_this_keptMirrored])), (a_this_figures, .inl (cJ, 8, .inr (.inl c_this_figures))), (a_this_laid, .inl (cJ, 4, .inr (.inl c_this_laid))), (a_this_isMirrored, .inl (cZ, 4, .inl c_this_isMirrored)), (a_this_turned, .inl (cI, 512, .inl c_this_turned)), (a_this_likes, .inl (cJ, 400, .inr (.inl u_this_likes))), (a_this_placeMany, .inl (cI, 4, .inl u_this_placeMany)), (a_this_places, .inl (cJ, 1600, .inr (.inl u_this_places))), (a_this_firsts, .inl (cJ, 4, .inr (.inl u_this_firsts))), (a_this_now, .inl (cI, 4, .inl u_this_now))]) (va_A [(a_this, .inr (4, [.ref a_this_near, .ref a_this_turned, .ref a_this_figures, .ref a_this_text, .int c_this_length, .ref a_this_sectors, .ref a_this_corners, .int c_this_doubles, .ref a_this_likes, .int c_this_likeMany, .int c_this_pieces, .ref a_this_laid, .ref a_this_isMirrored, .ref a_this_places, .ref a_this_placeMany, .ref a_this_now, .ref a_this_firsts, .ref a_this_forms, .ref a_this_isKept, .ref a_this_keptFigures, .ref a_this_keptPieces, .ref a_this_keptLaid, .ref a_this_keptMirrored])), (a_this_figures, .inl (cJ, 8, .inr (.inl c_this_figures))), (a_this_laid, .inl (cJ, 4, .inr (.inl c_this_laid))), (a_this_isMirrored, .inl (cZ, 4, .inl c_this_isMirrored)), (a_this_turned, .inl (cI, 512, .inl c_this_turned)), (a_this_likes, .inl (cJ, 400, .inr (.inl c_this_likes))), (a_this_placeMany, .inl (cI, 4, .inl c_this_placeMany)), (a_this_places, .inl (cJ, 1600, .inr (.inl c_this_places))), (a_this_firsts, .inl (cJ, 4, .inr (.inl c_this_firsts))), (a_this_now, .inl (cI, 4, .inl c_this_now))] sz)) 0 0 (va_A [(a_this, .inr (4, [.ref a_this_near, .ref a_this_turned, .ref a_this_figures, .ref a_this_text, .int c_this_length, .ref a_this_sectors, .ref a_this_corners, .int c_this_doubles, .ref a_this_likes, .int c_this_likeMany, .int c_this_pieces, .ref a_this_laid, .ref a_this_isMirrored, .ref a_this_places, .ref a_this_placeMany, .ref a_this_now, .ref a_this_firsts, .ref a_this_forms, .ref a_this_isKept, .ref a_this_keptFigures, .ref a_this_keptPieces, .ref a_this_keptLaid, .ref a_this_keptMirrored])), (a_this_figures, .inl (cJ, 8, .inr (.inl c_this_figures))), (a_this_laid, .inl (cJ, 4, .inr (.inl c_this_laid))), (a_this_isMirrored, .inl (cZ, 4, .inl c_this_isMirrored)), (a_this_turned, .inl (cI, 512, .inl c_this_turned)), (a_this_likes, .inl (cJ, 400, .inr (.inl c_this_likes))), (a_this_placeMany, .inl (cI, 4, .inl c_this_placeMany)), (a_this_places, .inl (cJ, 1600, .inr (.inl c_this_places))), (a_this_firsts, .inl (cJ, 4, .inr (.inl c_this_firsts))), (a_this_now, .inl (cI, 4, .inl c_this_now))] sz) := by
  refine Met.ofW (cc := cX8_ways) (maxL := 2) (ret := (some .int)) (by decide) rfl ?_
  intro p e s m args below meth c s₁ B hml hv
  obtain ⟨rfl, hsz, hP, hK, hD0⟩ := hv
  have hx := B.exec
  have hb := B.bytes
  have hr := B.returns
  have hts := atoms_spec (ws := wsX8_ways) B.pre
  have hown : s.vm.findClass RX8 = some m.cls := findClass_of_methodNamed B.named
  have hlocks := B.notSynchronized
  have hN := hK.2
  subst hsz
  have hD := hD0.self (sz := s.heap.size)
  generalize hAe : va_A [(a_this, .inr (4, [.ref a_this_near, .ref a_this_turned, .ref a_this_figures, .ref a_this_text, .int c_this_length, .ref a_this_sectors, .ref a_this_corners, .int c_this_doubles, .ref a_this_likes, .int c_this_likeMany, .int c_this_pieces, .ref a_this_laid, .ref a_this_isMirrored, .ref a_this_places, .ref a_this_placeMany, .ref a_this_now, .ref a_this_firsts, .ref a_this_forms, .ref a_this_isKept, .ref a_this_keptFigures, .ref a_this_keptPieces, .ref a_this_keptLaid, .ref a_this_keptMirrored])), (a_this_figures, .inl (cJ, 8, .inr (.inl c_this_figures))), (a_this_laid, .inl (cJ, 4, .inr (.inl c_this_laid))), (a_this_isMirrored, .inl (cZ, 4, .inl c_this_isMirrored)), (a_this_turned, .inl (cI, 512, .inl c_this_turned)), (a_this_likes, .inl (cJ, 400, .inr (.inl c_this_likes))), (a_this_placeMany, .inl (cI, 4, .inl c_this_placeMany)), (a_this_places, .inl (cJ, 1600, .inr (.inl c_this_places))), (a_this_firsts, .inl (cJ, 4, .inr (.inl c_this_firsts))), (a_this_now, .inl (cI, 4, .inl c_this_now))] s.heap.size = A at hD ⊢
  have hA : ∀ q : Nat, s.heap.size ≤ q → A q := fun q h => by rw [← hAe]; exact Or.inr h
  have hS : va_S A s.heap s.heap [] := va_S.rf
  have hl := lv_entry ([.ref a_this, .int x1]) (n := 2) (Nat.le_of_ble_eq_true rfl)
  rw [lg_entry_eq]
  generalize (lg_sl ([.ref a_this, .int x1]) ++ List.replicate (2 - (lg_sl ([.ref a_this, .int x1])).length) Slot.unset).toArray = ls at hl ⊢
  have hl : lv_has ls 2 [(0, .ref a_this), (1, .int x1)] := hl
  refine hk_Q (fun Q hQ => ?_)
  have h := hf
  unfold f_X8_ways at h
  refine lv_iload_n hx hb dX8_ways_0 rfl (lv_at hl 1 rfl) ?_
  obtain ⟨r21, hr22, h⟩ := hk_x1 h
  refine vp_callSi (W.runS (As := [.int x1]) (rest := []) ⟨hx, hb, hml, hown, hts⟩ (c_X8_isFigure l x1 _ hr22) (va_cwS 1 hts gX8_ways_X8_isFigure rfl rfl rfl zs_X8_isFigure ⟨Nat.le_of_ble_eq_true rfl, Nat.le_of_ble_eq_true rfl⟩) ⟨fun _ _ _ _ q => q, fun _ _ _ => ⟨rfl, trivial⟩⟩ rfl rfl hl.1 rfl (lv_room (Nat.le_of_ble_eq_true rfl)) dX8_ways_1 ⟨Nat.zero_le _, Nat.zero_le _⟩) (fun p24 e23 => ?_)
  rw [e23]
  refine lv_if_eq (tgt := 20) hx hb dX8_ways_4 (by decide) (fun c25 => ?_) (fun c25 => ?_)
  · replace h := hk_ip c25 h
    refine lv_iconst (v := (-1 : Int32)) hx hb dX8_ways_20 (by decide) ?_
    subst hQ
    have h := Option.some.inj h
    simp only [Prod.mk.injEq] at h
    obtain ⟨rfl, rfl, rfl, rfl, rfl, rfl, rfl⟩ := h
    exact W.iret hx hb hr (fun t ht hW => ⟨⟨_, (), rfl, rfl, by rw [ht]; exact hP, hD⟩, hS.F ht⟩) hS.2.2 dX8_ways_21
  replace h := hk_in c25 h
  refine lv_aload_n hx hb dX8_ways_7 rfl (lv_at hl 0 rfl) ?_
  refine lv_aload_n hx hb dX8_ways_8 rfl (lv_at hl 0 rfl) ?_
  refine va_get (D := D) (ci := 4) (v := .ref a_this_figures) (C := RX8) (T := TX8) (N := 23) hx hb hts zi_X8_ways_X8 hown hK.1 hP 0 rfl rfl 2 (by decide) (hts (.fieldLink RX8 17 "HalfAndHalfAgainModel" "figures" "[J") (List.mem_of_getElem? (i := 1) rfl)) (fun _ h9 => h9) rfl dX8_ways_9 ?_
  refine lv_iload_n hx hb dX8_ways_12 rfl (lv_at hl 1 rfl) ?_
  obtain ⟨hi26, h⟩ := hk_ge h
  refine va_lald hx hb hK.1 hP 1 1 rfl rfl (hk_inb_of hi26) dX8_ways_13 ?_
  obtain ⟨r27, u28, u29, u30, u31, u32, u33, hr34, h⟩ := hk_x7 h
  have hPc := hP.sub (ws' := [(a_this, .inr (4, [.ref a_this_near, .ref a_this_turned, .ref a_this_figures, .ref a_this_text, .int c_this_length, .ref a_this_sectors, .ref a_this_corners, .int c_this_doubles, .ref a_this_likes, .int c_this_likeMany, .int c_this_pieces, .ref a_this_laid, .ref a_this_isMirrored, .ref a_this_places, .ref a_this_placeMany, .ref a_this_now, .ref a_this_firsts, .ref a_this_forms, .ref a_this_isKept, .ref a_this_keptFigures, .ref a_this_keptPieces, .ref a_this_keptLaid, .ref a_this_keptMirrored])), (a_this_laid, .inl (cJ, 4, .inr (.inl c_this_laid))), (a_this_isMirrored, .inl (cZ, 4, .inl c_this_isMirrored)), (a_this_turned, .inl (cI, 512, .inl c_this_turned)), (a_this_likes, .inl (cJ, 400, .inr (.inl c_this_likes))), (a_this_placeMany, .inl (cI, 4, .inl c_this_placeMany)), (a_this_places, .inl (cJ, 1600, .inr (.inl c_this_places))), (a_this_firsts, .inl (cJ, 4, .inr (.inl c_this_firsts))), (a_this_now, .inl (cI, 4, .inl c_this_now))]) [0, 2, 3, 4, 5, 6, 7, 8, 9] rfl
  have hDc := hD.sub (ws' := [(a_this, .inr (4, [.ref a_this_near, .ref a_this_turned, .ref a_this_figures, .ref a_this_text, .int c_this_length, .ref a_this_sectors, .ref a_this_corners, .int c_this_doubles, .ref a_this_likes, .int c_this_likeMany, .int c_this_pieces, .ref a_this_laid, .ref a_this_isMirrored, .ref a_this_places, .ref a_this_placeMany, .ref a_this_now, .ref a_this_firsts, .ref a_this_forms, .ref a_this_isKept, .ref a_this_keptFigures, .ref a_this_keptPieces, .ref a_this_keptLaid, .ref a_this_keptMirrored])), (a_this_laid, .inl (cJ, 4, .inr (.inl c_this_laid))), (a_this_isMirrored, .inl (cZ, 4, .inl c_this_isMirrored)), (a_this_turned, .inl (cI, 512, .inl c_this_turned)), (a_this_likes, .inl (cJ, 400, .inr (.inl c_this_likes))), (a_this_placeMany, .inl (cI, 4, .inl c_this_placeMany)), (a_this_places, .inl (cJ, 1600, .inr (.inl c_this_places))), (a_this_firsts, .inl (cJ, 4, .inr (.inl c_this_firsts))), (a_this_now, .inl (cI, 4, .inl c_this_now))]) [0, 2, 3, 4, 5, 6, 7, 8, 9] (by decide) rfl
  have hFc := va_free (wc := [(a_this, .inr (4, [.ref a_this_near, .ref a_this_turned, .ref a_this_figures, .ref a_this_text, .int c_this_length, .ref a_this_sectors, .ref a_this_corners, .int c_this_doubles, .ref a_this_likes, .int c_this_likeMany, .int c_this_pieces, .ref a_this_laid, .ref a_this_isMirrored, .ref a_this_places, .ref a_this_placeMany, .ref a_this_now, .ref a_this_firsts, .ref a_this_forms, .ref a_this_isKept, .ref a_this_keptFigures, .ref a_this_keptPieces, .ref a_this_keptLaid, .ref a_this_keptMirrored])), (a_this_laid, .inl (cJ, 4, .inr (.inl c_this_laid))), (a_this_isMirrored, .inl (cZ, 4, .inl c_this_isMirrored)), (a_this_turned, .inl (cI, 512, .inl c_this_turned)), (a_this_likes, .inl (cJ, 400, .inr (.inl c_this_likes))), (a_this_placeMany, .inl (cI, 4, .inl c_this_placeMany)), (a_this_places, .inl (cJ, 1600, .inr (.inl c_this_places))), (a_this_firsts, .inl (cJ, 4, .inr (.inl c_this_firsts))), (a_this_now, .inl (cI, 4, .inl c_this_now))]) hD hS hA [0, 2, 3, 4, 5, 6, 7, 8, 9] rfl
  refine va_calli (va_runV (As := [.long (c_this_figures x1.toNatClampNeg)]) (rest := []) ⟨hx, hb, hml, hown, hts⟩ (c_X8_layWays l D cI cJ cZ cO a_this a_this_near a_this_turned a_this_figures a_this_text a_this_sectors a_this_corners a_this_likes a_this_laid a_this_isMirrored a_this_places a_this_placeMany a_this_now a_this_firsts a_this_forms a_this_isKept a_this_keptFigures a_this_keptPieces a_this_keptLaid a_this_keptMirrored s.heap.size c_this_length c_this_doubles c_this_likeMany c_this_pieces c_this_laid c_this_isMirrored c_this_turned c_this_likes c_this_placeMany c_this_places c_this_firsts c_this_now (c_this_figures x1.toNatClampNeg) _ _ _ _ _ _ _ hr34) (cwV 1 hts gX8_ways_X8_layWays rfl rfl rfl zv_X8_layWays ⟨Nat.le_of_ble_eq_true rfl, Nat.le_of_ble_eq_true rfl⟩) (hk_preMV 4 rfl hPc hDc hK rfl) rfl rfl hl.1 rfl (lv_room (Nat.le_of_ble_eq_true rfl)) dX8_ways_14 ⟨Nat.zero_le _, Nat.zero_le _⟩) hS (fun q _ h9 => hFc q h9) hFc (fun p35 u9 t9 H1 locs ht hvm hw hB hz1 hk1 hS => ?_)
  obtain ⟨hP1, hD1⟩ := hB
  rw [ht] at hP1
  rw [hw]
  obtain ⟨hP, hD⟩ := va_join (wr := [(a_this_figures, .inl (cJ, 8, .inr (.inl c_this_figures)))]) (w1 := [(a_this, .inr (4, [.ref a_this_near, .ref a_this_turned, .ref a_this_figures, .ref a_this_text, .int c_this_length, .ref a_this_sectors, .ref a_this_corners, .int c_this_doubles, .ref a_this_likes, .int u28, .int c_this_pieces, .ref a_this_laid, .ref a_this_isMirrored, .ref a_this_places, .ref a_this_placeMany, .ref a_this_now, .ref a_this_firsts, .ref a_this_forms, .ref a_this_isKept, .ref a_this_keptFigures, .ref a_this_keptPieces, .ref a_this_keptLaid, .ref a_this_keptMirrored])), (a_this_laid, .inl (cJ, 4, .inr (.inl c_this_laid))), (a_this_isMirrored, .inl (cZ, 4, .inl c_this_isMirrored)), (a_this_turned, .inl (cI, 512, .inl c_this_turned)), (a_this_likes, .inl (cJ, 400, .inr (.inl u29))), (a_this_placeMany, .inl (cI, 4, .inl u30)), (a_this_places, .inl (cJ, 1600, .inr (.inl u31))), (a_this_firsts, .inl (cJ, 4, .inr (.inl u32))), (a_this_now, .inl (cI, 4, .inl u33))]) hP hD [0, 2, 3, 4, 5, 6, 7, 8, 9] [1] rfl rfl (by decide) (by decide) hk1 hFc hP1 hD1
  generalize H1 = H at hP hS ⊢
  have hP := hP.sub (ws' := [(a_this, .inr (4, [.ref a_this_near, .ref a_this_turned, .ref a_this_figures, .ref a_this_text, .int c_this_length, .ref a_this_sectors, .ref a_this_corners, .int c_this_doubles, .ref a_this_likes, .int u28, .int c_this_pieces, .ref a_this_laid, .ref a_this_isMirrored, .ref a_this_places, .ref a_this_placeMany, .ref a_this_now, .ref a_this_firsts, .ref a_this_forms, .ref a_this_isKept, .ref a_this_keptFigures, .ref a_this_keptPieces, .ref a_this_keptLaid, .ref a_this_keptMirrored])), (a_this_figures, .inl (cJ, 8, .inr (.inl c_this_figures))), (a_this_laid, .inl (cJ, 4, .inr (.inl c_this_laid))), (a_this_isMirrored, .inl (cZ, 4, .inl c_this_isMirrored)), (a_this_turned, .inl (cI, 512, .inl c_this_turned)), (a_this_likes, .inl (cJ, 400, .inr (.inl u29))), (a_this_placeMany, .inl (cI, 4, .inl u30)), (a_this_places, .inl (cJ, 1600, .inr (.inl u31))), (a_this_firsts, .inl (cJ, 4, .inr (.inl u32))), (a_this_now, .inl (cI, 4, .inl u33))]) [1, 0, 2, 3, 4, 5, 6, 7, 8, 9] rfl
  have hD := hD.sub (ws' := [(a_this, .inr (4, [.ref a_this_near, .ref a_this_turned, .ref a_this_figures, .ref a_this_text, .int c_this_length, .ref a_this_sectors, .ref a_this_corners, .int c_this_doubles, .ref a_this_likes, .int u28, .int c_this_pieces, .ref a_this_laid, .ref a_this_isMirrored, .ref a_this_places, .ref a_this_placeMany, .ref a_this_now, .ref a_this_firsts, .ref a_this_forms, .ref a_this_isKept, .ref a_this_keptFigures, .ref a_this_keptPieces, .ref a_this_keptLaid, .ref a_this_keptMirrored])), (a_this_figures, .inl (cJ, 8, .inr (.inl c_this_figures))), (a_this_laid, .inl (cJ, 4, .inr (.inl c_this_laid))), (a_this_isMirrored, .inl (cZ, 4, .inl c_this_isMirrored)), (a_this_turned, .inl (cI, 512, .inl c_this_turned)), (a_this_likes, .inl (cJ, 400, .inr (.inl u29))), (a_this_placeMany, .inl (cI, 4, .inl u30)), (a_this_places, .inl (cJ, 1600, .inr (.inl u31))), (a_this_firsts, .inl (cJ, 4, .inr (.inl u32))), (a_this_now, .inl (cI, 4, .inl u33))]) [1, 0, 2, 3, 4, 5, 6, 7, 8, 9] (by decide) rfl
  refine lv_goto (tgt := 21) hx hb dX8_ways_17 (by decide) ?_
  subst hQ
  have h := Option.some.inj h
  simp only [Prod.mk.injEq] at h
  obtain ⟨rfl, rfl, rfl, rfl, rfl, rfl, rfl⟩ := h
  exact W.iret hx hb hr (fun t ht hW => ⟨⟨_, (), rfl, rfl, by rw [ht]; exact hP, hD⟩, hS.F ht⟩) hS.2.2 dX8_ways_21
theorem zv_X8_first : yX8_first.cls = RX8 ∧ yX8_first.cls ≠ "java/lang/invoke/MethodHandle" ∧ yX8_first.cls ≠ "java/lang/invoke/VarHandle" ∧ (parseMethodDescriptor yX8_first.desc).map (fun d => d.parameters.length) = some 2 := by decide +kernel
def f_X8_first (c_this_likeMany : Int32) (c_this_pieces : Int32) (c_this_figures : Nat → Int64) (c_this_laid : Nat → Int64) (c_this_isMirrored : Nat → Int32) (c_this_turned : Nat → Int32) (c_this_likes : Nat → Int64) (c_this_placeMany : Nat → Int32) (c_this_places : Nat → Int64) (c_this_firsts : Nat → Int64) (c_this_now : Nat → Int32)  (x1 : Int32) (x2 : Int32) : Option (Int64 × Int32 × (Nat → Int64) × (Nat → Int32) × (Nat → Int64) × (Nat → Int64) × (Nat → Int32)) := hk_b1 (f_X8_isFigure x1) fun r21 => if r21 = 0 then (some ((0 : Int64), c_this_likeMany, c_this_likes, c_this_placeMany, c_this_places, c_this_firsts, c_this_now)) else (hk_b1 (f_X8_isPiece c_this_pieces x2) fun r26 => if r26 = 0 then (some ((0 : Int64), c_this_likeMany, c_this_likes, c_this_placeMany, c_this_places, c_this_firsts, c_this_now)) else (hk_gd (hk_inb x1 8) (hk_b7 (f_X8_layWays c_this_likeMany c_this_pieces c_this_laid c_this_isMirrored c_this_turned c_this_likes c_this_placeMany c_this_places c_this_firsts c_this_now (c_this_figures x1.toNatClampNeg)) fun r32 u33 u34 u35 u36 u37 u38 => if r32 ≤ 0 then (some ((0 : Int64), u33, u34, u35, u36, u37, u38)) else (hk_gd (hk_inb x2 4) (some ((u37 x2.toNatClampNeg), u33, u34, u35, u36, u37, u38))))))
theorem zi_X8_first_X8 : ∀ w ∈ u_ws RX8 TX8 23, w ∈ wsX8_first := by decide +kernel
set_option maxHeartbeats 8000000 in
set_option maxRecDepth 100000 in
theorem c_X8_first (l : Launch) (D : va_G) (cI cJ cZ cO : ClassId) (a_this a_this_near a_this_turned a_this_figures a_this_text a_this_sectors a_this_corners a_this_likes a_this_laid a_this_isMirrored a_this_places a_this_placeMany a_this_now a_this_firsts a_this_forms a_this_isKept a_this_keptFigures a_this_keptPieces a_this_keptLaid a_this_keptMirrored : Nat) (sz : Nat) (c_this_length : Int32) (c_this_doubles : Int32) (c_this_likeMany : Int32) (c_this_pieces : Int32) (c_this_figures : Nat → Int64) (c_this_laid : Nat → Int64) (c_this_isMirrored : Nat → Int32) (c_this_turned : Nat → Int32) (c_this_likes : Nat → Int64) (c_this_placeMany : Nat → Int32) (c_this_places : Nat → Int64) (c_this_firsts : Nat → Int64) (c_this_now : Nat → Int32) (x1 : Int32) (x2 : Int32) (rv : Int64) (u_this_likeMany : Int32) (u_this_likes : Nat → Int64) (u_this_placeMany : Nat → Int32) (u_this_places : Nat → Int64) (u_this_firsts : Nat → Int64) (u_this_now : Nat → Int32) (hf : f_X8_first c_this_likeMany c_this_pieces c_this_figures c_this_laid c_this_isMirrored c_this_turned c_this_likes c_this_placeMany c_this_places c_this_firsts c_this_now x1 x2 = some (rv, u_this_likeMany, u_this_likes, u_this_placeMany, u_this_places, u_this_firsts, u_this_now)) : Met l yX8_first wsX8_first ({ frames := 5, cells := 0, slots := 0, locals := 130 }) (va_Pc [.ref a_this, .int x1, .int x2] (hkM D cI cJ cZ cO [(a_this, .inr (4, [.ref a_this_near, .ref a_this_turned, .ref a_this_figures, .ref a_this_text, .int c_this_length, .ref a_this_sectors, .ref a_this_corners, .int c_this_doubles, .ref a_this_likes, .int c_this_likeMany, .int c_this_pieces, .ref a_this_laid, .ref a_this_isMirrored, .ref a_this_places, .ref a_this_placeMany, .ref a_this_now, .ref a_this_firsts, .ref a_this_forms, .ref a_this_isKept, .ref a_this_keptFigures, .ref a_this_keptPieces, .ref a_this_keptLaid, .ref a_this_keptMirrored])), (a_this_figures, .inl (cJ, 8, .inr (.inl c_this_figures))), (a_this_laid, .inl (cJ, 4, .inr (.inl c_this_laid))), (a_this_isMirrored, .inl (cZ, 4, .inl c_this_isMirrored)), (a_this_turned, .inl (cI, 512, .inl c_this_turned)), (a_this_likes, .inl (cJ, 400, .inr (.inl c_this_likes))), (a_this_placeMany, .inl (cI, 4, .inl c_this_placeMany)), (a_this_places, .inl (cJ, 1600, .inr (.inl c_this_places))), (a_this_firsts, .inl (cJ, 4, .inr (.inl c_this_firsts))), (a_this_now, .inl (cI, 4, .inl c_this_now))] sz)) (va_Ql (fun r (_ : Unit) => r = rv) (fun _ t => va_P D vwCl [(a_this, .inr (4, [.ref a_this_near, .ref a_this_turned, .ref a_this_figures, .ref a_this_text, .int c_this_length, .ref a_this_sectors, .ref a_this_corners, .int c_this_doubles, .ref a_this_likes, .int u_this_likeMany, .int c_this_pieces, .ref a_this_laid, .ref a_this_isMirrored, .ref a_this_places, .ref a_this_placeMany, .ref a_this_now, .ref a_this_firsts, .ref a_this_forms, .ref a_this_isKept, .ref a_this_keptFigures, .ref a_this_keptPieces, .ref a_this_keptLaid, .ref a_this_keptMirrored])), (a_this_figures, .inl (cJ, 8, .inr (.inl c_this_figures))), (a_this_laid, .inl (cJ, 4, .inr (.inl c_this_laid))), (a_this_isMirrored, .inl (cZ, 4, .inl c_this_isMirrored)), (a_this_turned, .inl (cI, 512, .inl c_this_turned)), (a_this_likes, .inl (cJ, 400, .inr (.inl u_this_likes))), (a_this_placeMany, .inl (cI, 4, .inl u_this_placeMany)), (a_this_places, .inl (cJ, 1600, .inr (.inl u_this_places))), (a_this_firsts, .inl (cJ, 4, .inr (.inl u_this_firsts))), (a_this_now, .inl (cI, 4, .inl u_this_now))] t.heap ∧ va_D (va_A [(a_this, .inr (4, [.ref a_this_near, .ref a_this_turned, .ref a_this_figures, .ref a_this_text, .int c_this_length, .ref a_this_sectors, .ref a_this_corners, .int c_this_doubles, .ref a_this_likes, .int c_this_likeMany, .int c_this_pieces, .ref a_this_laid, .ref a_this_isMirrored, .ref a_this_places, .ref a_this_placeMany, .ref a_this_now, .ref a_this_firsts, .ref a_this_forms, .ref a_this_isKept, .ref a_this_keptFigures, .ref a_this_keptPieces, .ref a_this_keptLaid, .ref a_this_keptMirrored])), (a_this_figures, .inl (cJ, 8, .inr (.inl c_this_figures))), (a_this_laid, .inl (cJ, 4, .inr (.inl c_this_laid))), (a_this_isMirrored, .inl (cZ, 4, .inl c_this_isMirrored)), (a_this_turned, .inl (cI, 512, .inl c_this_turned)), (a_this_likes, .inl (cJ, 400, .inr (.inl c_this_likes))), (a_this_placeMany, .inl (cI, 4, .inl c_this_placeMany)), (a_this_places, .inl (cJ, 1600, .inr (.inl c_this_places))), (a_this_firsts, .inl (cJ, 4, .inr (.inl c_this_firsts))), (a_this_now, .inl (cI, 4, .inl c_this_now))] sz) [(a_this, .inr (4, [.ref a_this_near, .ref a_this_turned, .ref a_this_figures, .ref a_this_text, .int c_this_length, .ref a_this_sectors, .ref a_this_corners, .int c_this_doubles, .ref a_this_likes, .int u_this_likeMany, .int c_this_pieces, .ref a_this_laid, .ref a_this_isMirrored, .ref a_this_places, .ref a_this_placeMany, .ref a_this_now, .ref a_this_firsts, .ref a_this_forms, .ref a_this_isKept, .ref a_this_keptFigures, .ref a_this_keptPieces, .ref a_this_keptLaid, .ref a_this_keptMirrored])), (a_this_figures, .inl (cJ, 8, .inr (.inl c_this_figures))), (a_this_laid, .inl (cJ, 4, .inr (.inl c_this_laid))), (a_this_isMirrored, .inl (cZ, 4, .inl c_this_isMirrored)), (a_this_turned, .inl (cI, 512, .inl c_this_turned)), (a_this_likes, .inl (cJ, 400, .inr (.inl u_this_likes))), (a_this_placeMany, .inl (cI, 4, .inl u_this_placeMany)), (a_this_places, .inl (cJ, 1600, .inr (.inl u_this_places))), (a_this_firsts, .inl (cJ, 4, .inr (.inl u_this_firsts))), (a_this_now, .inl (cI, 4, .inl u_this_now))]) (va_A [(a_this, .inr (4, [.ref a_this_near, .ref a_this_turned, .ref a_this_figures, .ref a_this_text, .int c_this_length, .ref a_this_sectors, .ref a_this_corners, .int c_this_doubles, .ref a_this_likes, .int c_this_likeMany, .int c_this_pieces, .ref a_this_laid, .ref a_this_isMirrored, .ref a_this_places, .ref a_this_placeMany, .ref a_this_now, .ref a_this_firsts, .ref a_this_forms, .ref a_this_isKept, .ref a_this_keptFigures, .ref a_this_keptPieces, .ref a_this_keptLaid, .ref a_this_keptMirrored])), (a_this_figures, .inl (cJ, 8, .inr (.inl c_this_figures))), (a_this_laid, .inl (cJ, 4, .inr (.inl c_this_laid))), (a_this_isMirrored, .inl (cZ, 4, .inl c_this_isMirrored)), (a_this_turned, .inl (cI, 512, .inl c_this_turned)), (a_this_likes, .inl (cJ, 400, .inr (.inl c_this_likes))), (a_this_placeMany, .inl (cI, 4, .inl c_this_placeMany)), (a_this_places, .inl (cJ, 1600, .inr (.inl c_this_places))), (a_this_firsts, .inl (cJ, 4, .inr (.inl c_this_firsts))), (a_this_now, .inl (cI, 4, .inl c_this_now))] sz)) 0 0 (va_A [(a_this, .inr (4, [.ref a_this_near, .ref a_this_turned, .ref a_this_figures, .ref a_this_text, .int c_this_length, .ref a_this_sectors, .ref a_this_corners, .int c_this_doubles, .ref a_this_likes, .int c_this_likeMany, .int c_this_pieces, .ref a_this_laid, .ref a_this_isMirrored, .ref a_this_places, .ref a_this_placeMany, .ref a_this_now, .ref a_this_firsts, .ref a_this_forms, .ref a_this_isKept, .ref a_this_keptFigures, .ref a_this_keptPieces, .ref a_this_keptLaid, .ref a_this_keptMirrored])), (a_this_figures, .inl (cJ, 8, .inr (.inl c_this_figures))), (a_this_laid, .inl (cJ, 4, .inr (.inl c_this_laid))), (a_this_isMirrored, .inl (cZ, 4, .inl c_this_isMirrored)), (a_this_turned, .inl (cI, 512, .inl c_this_turned)), (a_this_likes, .inl (cJ, 400, .inr (.inl c_this_likes))), (a_this_placeMany, .inl (cI, 4, .inl c_this_placeMany)), (a_this_places, .inl (cJ, 1600, .inr (.inl c_this_places))), (a_this_firsts, .inl (cJ, 4, .inr (.inl c_this_firsts))), (a_this_now, .inl (cI, 4, .inl c_this_now))] sz) := by
  refine Met.ofW (cc := cX8_first) (maxL := 3) (ret := (some .long)) (by decide) rfl ?_
  intro p e s m args below meth c s₁ B hml hv
  obtain ⟨rfl, hsz, hP, hK, hD0⟩ := hv
  have hx := B.exec
  have hb := B.bytes
  have hr := B.returns
  have hts := atoms_spec (ws := wsX8_first) B.pre
  have hown : s.vm.findClass RX8 = some m.cls := findClass_of_methodNamed B.named
  have hlocks := B.notSynchronized
  have hN := hK.2
  subst hsz
  have hD := hD0.self (sz := s.heap.size)
  generalize hAe : va_A [(a_this, .inr (4, [.ref a_this_near, .ref a_this_turned, .ref a_this_figures, .ref a_this_text, .int c_this_length, .ref a_this_sectors, .ref a_this_corners, .int c_this_doubles, .ref a_this_likes, .int c_this_likeMany, .int c_this_pieces, .ref a_this_laid, .ref a_this_isMirrored, .ref a_this_places, .ref a_this_placeMany, .ref a_this_now, .ref a_this_firsts, .ref a_this_forms, .ref a_this_isKept, .ref a_this_keptFigures, .ref a_this_keptPieces, .ref a_this_keptLaid, .ref a_this_keptMirrored])), (a_this_figures, .inl (cJ, 8, .inr (.inl c_this_figures))), (a_this_laid, .inl (cJ, 4, .inr (.inl c_this_laid))), (a_this_isMirrored, .inl (cZ, 4, .inl c_this_isMirrored)), (a_this_turned, .inl (cI, 512, .inl c_this_turned)), (a_this_likes, .inl (cJ, 400, .inr (.inl c_this_likes))), (a_this_placeMany, .inl (cI, 4, .inl c_this_placeMany)), (a_this_places, .inl (cJ, 1600, .inr (.inl c_this_places))), (a_this_firsts, .inl (cJ, 4, .inr (.inl c_this_firsts))), (a_this_now, .inl (cI, 4, .inl c_this_now))] s.heap.size = A at hD ⊢
  have hA : ∀ q : Nat, s.heap.size ≤ q → A q := fun q h => by rw [← hAe]; exact Or.inr h
  have hS : va_S A s.heap s.heap [] := va_S.rf
  have hl := lv_entry ([.ref a_this, .int x1, .int x2]) (n := 3) (Nat.le_of_ble_eq_true rfl)
  rw [lg_entry_eq]
  generalize (lg_sl ([.ref a_this, .int x1, .int x2]) ++ List.replicate (3 - (lg_sl ([.ref a_this, .int x1, .int x2])).length) Slot.unset).toArray = ls at hl ⊢
  have hl : lv_has ls 3 [(0, .ref a_this), (1, .int x1), (2, .int x2)] := hl
  refine hk_Q (fun Q hQ => ?_)
  have h := hf
  unfold f_X8_first at h
  refine lv_iload_n hx hb dX8_first_0 rfl (lv_at hl 1 rfl) ?_
  obtain ⟨r21, hr22, h⟩ := hk_x1 h
  refine vp_callSi (W.runS (As := [.int x1]) (rest := []) ⟨hx, hb, hml, hown, hts⟩ (c_X8_isFigure l x1 _ hr22) (va_cwS 1 hts gX8_first_X8_isFigure rfl rfl rfl zs_X8_isFigure ⟨Nat.le_of_ble_eq_true rfl, Nat.le_of_ble_eq_true rfl⟩) ⟨fun _ _ _ _ q => q, fun _ _ _ => ⟨rfl, trivial⟩⟩ rfl rfl hl.1 rfl (lv_room (Nat.le_of_ble_eq_true rfl)) dX8_first_1 ⟨Nat.zero_le _, Nat.zero_le _⟩) (fun p24 e23 => ?_)
  rw [e23]
  refine lv_if_eq (tgt := 15) hx hb dX8_first_4 (by decide) (fun c25 => ?_) (fun c25 => ?_)
  · replace h := hk_ip c25 h
    refine lv_lconst (v := (0 : Int64)) hx hb dX8_first_15 (by decide) ?_
    subst hQ
    have h := Option.some.inj h
    simp only [Prod.mk.injEq] at h
    obtain ⟨rfl, rfl, rfl, rfl, rfl, rfl, rfl⟩ := h
    exact W.lret hx hb hr (fun t ht hW => ⟨⟨_, (), rfl, rfl, by rw [ht]; exact hP, hD⟩, hS.F ht⟩) hS.2.2 dX8_first_16
  replace h := hk_in c25 h
  refine lv_aload_n hx hb dX8_first_7 rfl (lv_at hl 0 rfl) ?_
  refine lv_iload_n hx hb dX8_first_8 rfl (lv_at hl 2 rfl) ?_
  obtain ⟨r26, hr27, h⟩ := hk_x1 h
  refine vp_callSi (W.runV (As := [.int x2]) (rest := []) ⟨hx, hb, hml, hown, hts⟩ (c_X8_isPiece l D cI cJ cZ cO a_this a_this_near a_this_turned a_this_figures a_this_text a_this_sectors a_this_corners a_this_likes a_this_laid a_this_isMirrored a_this_places a_this_placeMany a_this_now a_this_firsts a_this_forms a_this_isKept a_this_keptFigures a_this_keptPieces a_this_keptLaid a_this_keptMirrored c_this_length c_this_doubles c_this_likeMany c_this_pieces x2 _ hr27) (cwV 1 hts gX8_first_X8_isPiece rfl rfl rfl zv_X8_isPiece ⟨Nat.le_of_ble_eq_true rfl, Nat.le_of_ble_eq_true rfl⟩) (hk_preRV 4 rfl (hP.sub (ws' := [(a_this, .inr (4, [.ref a_this_near, .ref a_this_turned, .ref a_this_figures, .ref a_this_text, .int c_this_length, .ref a_this_sectors, .ref a_this_corners, .int c_this_doubles, .ref a_this_likes, .int c_this_likeMany, .int c_this_pieces, .ref a_this_laid, .ref a_this_isMirrored, .ref a_this_places, .ref a_this_placeMany, .ref a_this_now, .ref a_this_firsts, .ref a_this_forms, .ref a_this_isKept, .ref a_this_keptFigures, .ref a_this_keptPieces, .ref a_this_keptLaid, .ref a_this_keptMirrored]))]) [0] rfl) hK rfl) rfl rfl hl.1 rfl (lv_room (Nat.le_of_ble_eq_true rfl)) dX8_first_9 ⟨Nat.zero_le _, Nat.zero_le _⟩) (fun p29 e28 => ?_)
  rw [e28]
  refine lv_if_ne (tgt := 17) hx hb dX8_first_12 (by decide) (fun c30 => ?_) (fun c30 => ?_)
  · replace h := hk_in c30 h
    refine lv_aload_n hx hb dX8_first_17 rfl (lv_at hl 0 rfl) ?_
    refine lv_aload_n hx hb dX8_first_18 rfl (lv_at hl 0 rfl) ?_
    refine va_get (D := D) (ci := 4) (v := .ref a_this_figures) (C := RX8) (T := TX8) (N := 23) hx hb hts zi_X8_first_X8 hown hK.1 hP 0 rfl rfl 2 (by decide) (hts (.fieldLink RX8 17 "HalfAndHalfAgainModel" "figures" "[J") (List.mem_of_getElem? (i := 1) rfl)) (fun _ h9 => h9) rfl dX8_first_19 ?_
    refine lv_iload_n hx hb dX8_first_22 rfl (lv_at hl 1 rfl) ?_
    obtain ⟨hi31, h⟩ := hk_ge h
    refine va_lald hx hb hK.1 hP 1 1 rfl rfl (hk_inb_of hi31) dX8_first_23 ?_
    obtain ⟨r32, u33, u34, u35, u36, u37, u38, hr39, h⟩ := hk_x7 h
    have hPc := hP.sub (ws' := [(a_this, .inr (4, [.ref a_this_near, .ref a_this_turned, .ref a_this_figures, .ref a_this_text, .int c_this_length, .ref a_this_sectors, .ref a_this_corners, .int c_this_doubles, .ref a_this_likes, .int c_this_likeMany, .int c_this_pieces, .ref a_this_laid, .ref a_this_isMirrored, .ref a_this_places, .ref a_this_placeMany, .ref a_this_now, .ref a_this_firsts, .ref a_this_forms, .ref a_this_isKept, .ref a_this_keptFigures, .ref a_this_keptPieces, .ref a_this_keptLaid, .ref a_this_keptMirrored])), (a_this_laid, .inl (cJ, 4, .inr (.inl c_this_laid))), (a_this_isMirrored, .inl (cZ, 4, .inl c_this_isMirrored)), (a_this_turned, .inl (cI, 512, .inl c_this_turned)), (a_this_likes, .inl (cJ, 400, .inr (.inl c_this_likes))), (a_this_placeMany, .inl (cI, 4, .inl c_this_placeMany)), (a_this_places, .inl (cJ, 1600, .inr (.inl c_this_places))), (a_this_firsts, .inl (cJ, 4, .inr (.inl c_this_firsts))), (a_this_now, .inl (cI, 4, .inl c_this_now))]) [0, 2, 3, 4, 5, 6, 7, 8, 9] rfl
    have hDc := hD.sub (ws' := [(a_this, .inr (4, [.ref a_this_near, .ref a_this_turned, .ref a_this_figures, .ref a_this_text, .int c_this_length, .ref a_this_sectors, .ref a_this_corners, .int c_this_doubles, .ref a_this_likes, .int c_this_likeMany, .int c_this_pieces, .ref a_this_laid, .ref a_this_isMirrored, .ref a_this_places, .ref a_this_placeMany, .ref a_this_now, .ref a_this_firsts, .ref a_this_forms, .ref a_this_isKept, .ref a_this_keptFigures, .ref a_this_keptPieces, .ref a_this_keptLaid, .ref a_this_keptMirrored])), (a_this_laid, .inl (cJ, 4, .inr (.inl c_this_laid))), (a_this_isMirrored, .inl (cZ, 4, .inl c_this_isMirrored)), (a_this_turned, .inl (cI, 512, .inl c_this_turned)), (a_this_likes, .inl (cJ, 400, .inr (.inl c_this_likes))), (a_this_placeMany, .inl (cI, 4, .inl c_this_placeMany)), (a_this_places, .inl (cJ, 1600, .inr (.inl c_this_places))), (a_this_firsts, .inl (cJ, 4, .inr (.inl c_this_firsts))), (a_this_now, .inl (cI, 4, .inl c_this_now))]) [0, 2, 3, 4, 5, 6, 7, 8, 9] (by decide) rfl
    have hFc := va_free (wc := [(a_this, .inr (4, [.ref a_this_near, .ref a_this_turned, .ref a_this_figures, .ref a_this_text, .int c_this_length, .ref a_this_sectors, .ref a_this_corners, .int c_this_doubles, .ref a_this_likes, .int c_this_likeMany, .int c_this_pieces, .ref a_this_laid, .ref a_this_isMirrored, .ref a_this_places, .ref a_this_placeMany, .ref a_this_now, .ref a_this_firsts, .ref a_this_forms, .ref a_this_isKept, .ref a_this_keptFigures, .ref a_this_keptPieces, .ref a_this_keptLaid, .ref a_this_keptMirrored])), (a_this_laid, .inl (cJ, 4, .inr (.inl c_this_laid))), (a_this_isMirrored, .inl (cZ, 4, .inl c_this_isMirrored)), (a_this_turned, .inl (cI, 512, .inl c_this_turned)), (a_this_likes, .inl (cJ, 400, .inr (.inl c_this_likes))), (a_this_placeMany, .inl (cI, 4, .inl c_this_placeMany)), (a_this_places, .inl (cJ, 1600, .inr (.inl c_this_places))), (a_this_firsts, .inl (cJ, 4, .inr (.inl c_this_firsts))), (a_this_now, .inl (cI, 4, .inl c_this_now))]) hD hS hA [0, 2, 3, 4, 5, 6, 7, 8, 9] rfl
    refine va_calli (va_runV (As := [.long (c_this_figures x1.toNatClampNeg)]) (rest := []) ⟨hx, hb, hml, hown, hts⟩ (c_X8_layWays l D cI cJ cZ cO a_this a_this_near a_this_turned a_this_figures a_this_text a_this_sectors a_this_corners a_this_likes a_this_laid a_this_isMirrored a_this_places a_this_placeMany a_this_now a_this_firsts a_this_forms a_this_isKept a_this_keptFigures a_this_keptPieces a_this_keptLaid a_this_keptMirrored s.heap.size c_this_length c_this_doubles c_this_likeMany c_this_pieces c_this_laid c_this_isMirrored c_this_turned c_this_likes c_this_placeMany c_this_places c_this_firsts c_this_now (c_this_figures x1.toNatClampNeg) _ _ _ _ _ _ _ hr39) (cwV 1 hts gX8_first_X8_layWays rfl rfl rfl zv_X8_layWays ⟨Nat.le_of_ble_eq_true rfl, Nat.le_of_ble_eq_true rfl⟩) (hk_preMV 4 rfl hPc hDc hK rfl) rfl rfl hl.1 rfl (lv_room (Nat.le_of_ble_eq_true rfl)) dX8_first_24 ⟨Nat.zero_le _, Nat.zero_le _⟩) hS (fun q _ h9 => hFc q h9) hFc (fun p40 u9 t9 H1 locs ht hvm hw hB hz1 hk1 hS => ?_)
    obtain ⟨hP1, hD1⟩ := hB
    rw [ht] at hP1
    rw [hw]
    obtain ⟨hP, hD⟩ := va_join (wr := [(a_this_figures, .inl (cJ, 8, .inr (.inl c_this_figures)))]) (w1 := [(a_this, .inr (4, [.ref a_this_near, .ref a_this_turned, .ref a_this_figures, .ref a_this_text, .int c_this_length, .ref a_this_sectors, .ref a_this_corners, .int c_this_doubles, .ref a_this_likes, .int u33, .int c_this_pieces, .ref a_this_laid, .ref a_this_isMirrored, .ref a_this_places, .ref a_this_placeMany, .ref a_this_now, .ref a_this_firsts, .ref a_this_forms, .ref a_this_isKept, .ref a_this_keptFigures, .ref a_this_keptPieces, .ref a_this_keptLaid, .ref a_this_keptMirrored])), (a_this_laid, .inl (cJ, 4, .inr (.inl c_this_laid))), (a_this_isMirrored, .inl (cZ, 4, .inl c_this_isMirrored)), (a_this_turned, .inl (cI, 512, .inl c_this_turned)), (a_this_likes, .inl (cJ, 400, .inr (.inl u34))), (a_this_placeMany, .inl (cI, 4, .inl u35)), (a_this_places, .inl (cJ, 1600, .inr (.inl u36))), (a_this_firsts, .inl (cJ, 4, .inr (.inl u37))), (a_this_now, .inl (cI, 4, .inl u38))]) hP hD [0, 2, 3, 4, 5, 6, 7, 8, 9] [1] rfl rfl (by decide) (by decide) hk1 hFc hP1 hD1
    generalize H1 = H at hP hS ⊢
    have hP := hP.sub (ws' := [(a_this, .inr (4, [.ref a_this_near, .ref a_this_turned, .ref a_this_figures, .ref a_this_text, .int c_this_length, .ref a_this_sectors, .ref a_this_corners, .int c_this_doubles, .ref a_this_likes, .int u33, .int c_this_pieces, .ref a_this_laid, .ref a_this_isMirrored, .ref a_this_places, .ref a_this_placeMany, .ref a_this_now, .ref a_this_firsts, .ref a_this_forms, .ref a_this_isKept, .ref a_this_keptFigures, .ref a_this_keptPieces, .ref a_this_keptLaid, .ref a_this_keptMirrored])), (a_this_figures, .inl (cJ, 8, .inr (.inl c_this_figures))), (a_this_laid, .inl (cJ, 4, .inr (.inl c_this_laid))), (a_this_isMirrored, .inl (cZ, 4, .inl c_this_isMirrored)), (a_this_turned, .inl (cI, 512, .inl c_this_turned)), (a_this_likes, .inl (cJ, 400, .inr (.inl u34))), (a_this_placeMany, .inl (cI, 4, .inl u35)), (a_this_places, .inl (cJ, 1600, .inr (.inl u36))), (a_this_firsts, .inl (cJ, 4, .inr (.inl u37))), (a_this_now, .inl (cI, 4, .inl u38))]) [1, 0, 2, 3, 4, 5, 6, 7, 8, 9] rfl
    have hD := hD.sub (ws' := [(a_this, .inr (4, [.ref a_this_near, .ref a_this_turned, .ref a_this_figures, .ref a_this_text, .int c_this_length, .ref a_this_sectors, .ref a_this_corners, .int c_this_doubles, .ref a_this_likes, .int u33, .int c_this_pieces, .ref a_this_laid, .ref a_this_isMirrored, .ref a_this_places, .ref a_this_placeMany, .ref a_this_now, .ref a_this_firsts, .ref a_this_forms, .ref a_this_isKept, .ref a_this_keptFigures, .ref a_this_keptPieces, .ref a_this_keptLaid, .ref a_this_keptMirrored])), (a_this_figures, .inl (cJ, 8, .inr (.inl c_this_figures))), (a_this_laid, .inl (cJ, 4, .inr (.inl c_this_laid))), (a_this_isMirrored, .inl (cZ, 4, .inl c_this_isMirrored)), (a_this_turned, .inl (cI, 512, .inl c_this_turned)), (a_this_likes, .inl (cJ, 400, .inr (.inl u34))), (a_this_placeMany, .inl (cI, 4, .inl u35)), (a_this_places, .inl (cJ, 1600, .inr (.inl u36))), (a_this_firsts, .inl (cJ, 4, .inr (.inl u37))), (a_this_now, .inl (cI, 4, .inl u38))]) [1, 0, 2, 3, 4, 5, 6, 7, 8, 9] (by decide) rfl
    refine lv_if_le (tgt := 39) hx hb dX8_first_27 (by decide) (fun c41 => ?_) (fun c41 => ?_)
    · replace h := hk_ip c41 h
      refine lv_lconst (v := (0 : Int64)) hx hb dX8_first_39 (by decide) ?_
      subst hQ
      have h := Option.some.inj h
      simp only [Prod.mk.injEq] at h
      obtain ⟨rfl, rfl, rfl, rfl, rfl, rfl, rfl⟩ := h
      exact W.lret hx hb hr (fun t ht hW => ⟨⟨_, (), rfl, rfl, by rw [ht]; exact hP, hD⟩, hS.F ht⟩) hS.2.2 dX8_first_40
    replace h := hk_in c41 h
    refine lv_aload_n hx hb dX8_first_30 rfl (lv_at hl 0 rfl) ?_
    refine va_get (D := D) (ci := 4) (v := .ref a_this_firsts) (C := RX8) (T := TX8) (N := 23) hx hb hts zi_X8_first_X8 hown hK.1 hP 0 rfl rfl 16 (by decide) (hts (.fieldLink RX8 48 "HalfAndHalfAgainModel" "firsts" "[J") (List.mem_of_getElem? (i := 2) rfl)) (fun _ h9 => h9) rfl dX8_first_31 ?_
    refine lv_iload_n hx hb dX8_first_34 rfl (lv_at hl 2 rfl) ?_
    obtain ⟨hi42, h⟩ := hk_ge h
    refine va_lald hx hb hK.1 hP 8 1 rfl rfl (hk_inb_of hi42) dX8_first_35 ?_
    refine lv_goto (tgt := 40) hx hb dX8_first_36 (by decide) ?_
    subst hQ
    have h := Option.some.inj h
    simp only [Prod.mk.injEq] at h
    obtain ⟨rfl, rfl, rfl, rfl, rfl, rfl, rfl⟩ := h
    exact W.lret hx hb hr (fun t ht hW => ⟨⟨_, (), rfl, rfl, by rw [ht]; exact hP, hD⟩, hS.F ht⟩) hS.2.2 dX8_first_40
  replace h := hk_ip c30 h
  refine lv_lconst (v := (0 : Int64)) hx hb dX8_first_15 (by decide) ?_
  subst hQ
  have h := Option.some.inj h
  simp only [Prod.mk.injEq] at h
  obtain ⟨rfl, rfl, rfl, rfl, rfl, rfl, rfl⟩ := h
  exact W.lret hx hb hr (fun t ht hW => ⟨⟨_, (), rfl, rfl, by rw [ht]; exact hP, hD⟩, hS.F ht⟩) hS.2.2 dX8_first_16
theorem zv_X8_idle : yX8_idle.cls = RX8 ∧ yX8_idle.cls ≠ "java/lang/invoke/MethodHandle" ∧ yX8_idle.cls ≠ "java/lang/invoke/VarHandle" ∧ (parseMethodDescriptor yX8_idle.desc).map (fun d => d.parameters.length) = some 1 := by decide +kernel
def st_X8_idle_13c (c_this_pieces : Int32) (c_this_figures : Nat → Int64) (c_this_laid : Nat → Int64) (c_this_isMirrored : Nat → Int32) (c_this_turned : Nat → Int32) (x1 : Int32) (y27 : Int32) (y28 : Int32) (w29 : Int32) (w30 : Nat → Int64) (w31 : Nat → Int32) (w32 : Nat → Int64) : Option ((Int32 × Int32 × Int32 × (Nat → Int64) × (Nat → Int32) × (Nat → Int64)) ⊕ (Int32 × Int32 × (Nat → Int64) × (Nat → Int32) × (Nat → Int64))) := if c_this_pieces ≤ y28 then (some (.inr (y27, w29, w30, w31, w32))) else (hk_gd (hk_inb x1 8) (hk_b4 (f_X8_layPlaces w29 c_this_laid c_this_isMirrored c_this_turned w30 w31 w32 y28 (c_this_figures x1.toNatClampNeg)) fun u35 u36 u37 u38 => hk_gd (hk_inb y28 4) (hk_let (if (u37 y28.toNatClampNeg) = 0 then ((hk_ishl (1 : Int32) y28)) else ((0 : Int32))) fun v44 => hk_let (y27 ||| v44) fun x45 => hk_let (y28 + (1 : Int32)) fun x46 => some (.inl (x45, x46, u35, u36, u37, u38)))))
def st_X8_idle_13 (c_this_pieces : Int32) (c_this_figures : Nat → Int64) (c_this_laid : Nat → Int64) (c_this_isMirrored : Nat → Int32) (c_this_turned : Nat → Int32) (x1 : Int32) (t9 : (Int32 × Int32 × Int32 × (Nat → Int64) × (Nat → Int32) × (Nat → Int64))) : Option ((Int32 × Int32 × Int32 × (Nat → Int64) × (Nat → Int32) × (Nat → Int64)) ⊕ (Int32 × Int32 × (Nat → Int64) × (Nat → Int32) × (Nat → Int64))) := st_X8_idle_13c c_this_pieces c_this_figures c_this_laid c_this_isMirrored c_this_turned x1 t9.1 t9.2.1 t9.2.2.1 t9.2.2.2.1 t9.2.2.2.2.1 t9.2.2.2.2.2
def f_X8_idle (c_this_likeMany : Int32) (c_this_pieces : Int32) (c_this_figures : Nat → Int64) (c_this_laid : Nat → Int64) (c_this_isMirrored : Nat → Int32) (c_this_turned : Nat → Int32) (c_this_likes : Nat → Int64) (c_this_placeMany : Nat → Int32) (c_this_places : Nat → Int64)  (x1 : Int32) : Option (Int32 × Int32 × (Nat → Int64) × (Nat → Int32) × (Nat → Int64)) := hk_b1 (f_X8_isFigure x1) fun r21 => if r21 = 0 then (some ((-1 : Int32), c_this_likeMany, c_this_likes, c_this_placeMany, c_this_places)) else (hk_b5 (hk_wl (st_X8_idle_13 c_this_pieces c_this_figures c_this_laid c_this_isMirrored c_this_turned x1) hkF ((0 : Int32), (0 : Int32), c_this_likeMany, c_this_likes, c_this_placeMany, c_this_places)) fun z48 v49 v50 v51 v52 => some (z48, v49, v50, v51, v52))
theorem zi_X8_idle_X8 : ∀ w ∈ u_ws RX8 TX8 23, w ∈ wsX8_idle := by decide +kernel
set_option maxHeartbeats 8000000 in
set_option maxRecDepth 100000 in
theorem c_X8_idle (l : Launch) (D : va_G) (cI cJ cZ cO : ClassId) (a_this a_this_near a_this_turned a_this_figures a_this_text a_this_sectors a_this_corners a_this_likes a_this_laid a_this_isMirrored a_this_places a_this_placeMany a_this_now a_this_firsts a_this_forms a_this_isKept a_this_keptFigures a_this_keptPieces a_this_keptLaid a_this_keptMirrored : Nat) (sz : Nat) (c_this_length : Int32) (c_this_doubles : Int32) (c_this_likeMany : Int32) (c_this_pieces : Int32) (c_this_figures : Nat → Int64) (c_this_laid : Nat → Int64) (c_this_isMirrored : Nat → Int32) (c_this_turned : Nat → Int32) (c_this_likes : Nat → Int64) (c_this_placeMany : Nat → Int32) (c_this_places : Nat → Int64) (x1 : Int32) (rv : Int32) (u_this_likeMany : Int32) (u_this_likes : Nat → Int64) (u_this_placeMany : Nat → Int32) (u_this_places : Nat → Int64) (hf : f_X8_idle c_this_likeMany c_this_pieces c_this_figures c_this_laid c_this_isMirrored c_this_turned c_this_likes c_this_placeMany c_this_places x1 = some (rv, u_this_likeMany, u_this_likes, u_this_placeMany, u_this_places)) : Met l yX8_idle wsX8_idle ({ frames := 4, cells := 0, slots := 0, locals := 102 }) (va_Pc [.ref a_this, .int x1] (hkM D cI cJ cZ cO [(a_this, .inr (4, [.ref a_this_near, .ref a_this_turned, .ref a_this_figures, .ref a_this_text, .int c_this_length, .ref a_this_sectors, .ref a_this_corners, .int c_this_doubles, .ref a_this_likes, .int c_this_likeMany, .int c_this_pieces, .ref a_this_laid, .ref a_this_isMirrored, .ref a_this_places, .ref a_this_placeMany, .ref a_this_now, .ref a_this_firsts, .ref a_this_forms, .ref a_this_isKept, .ref a_this_keptFigures, .ref a_this_keptPieces, .ref a_this_keptLaid, .ref a_this_keptMirrored])), (a_this_figures, .inl (cJ, 8, .inr (.inl c_this_figures))), (a_this_laid, .inl (cJ, 4, .inr (.inl c_this_laid))), (a_this_isMirrored, .inl (cZ, 4, .inl c_this_isMirrored)), (a_this_turned, .inl (cI, 512, .inl c_this_turned)), (a_this_likes, .inl (cJ, 400, .inr (.inl c_this_likes))), (a_this_placeMany, .inl (cI, 4, .inl c_this_placeMany)), (a_this_places, .inl (cJ, 1600, .inr (.inl c_this_places)))] sz)) (va_Qi (fun r (_ : Unit) => r = rv) (fun _ t => va_P D vwCl [(a_this, .inr (4, [.ref a_this_near, .ref a_this_turned, .ref a_this_figures, .ref a_this_text, .int c_this_length, .ref a_this_sectors, .ref a_this_corners, .int c_this_doubles, .ref a_this_likes, .int u_this_likeMany, .int c_this_pieces, .ref a_this_laid, .ref a_this_isMirrored, .ref a_this_places, .ref a_this_placeMany, .ref a_this_now, .ref a_this_firsts, .ref a_this_forms, .ref a_this_isKept, .ref a_this_keptFigures, .ref a_this_keptPieces, .ref a_this_keptLaid, .ref a_this_keptMirrored])), (a_this_figures, .inl (cJ, 8, .inr (.inl c_this_figures))), (a_this_laid, .inl (cJ, 4, .inr (.inl c_this_laid))), (a_this_isMirrored, .inl (cZ, 4, .inl c_this_isMirrored)), (a_this_turned, .inl (cI, 512, .inl c_this_turned)), (a_this_likes, .inl (cJ, 400, .inr (.inl u_this_likes))), (a_this_placeMany, .inl (cI, 4, .inl u_this_placeMany)), (a_this_places, .inl (cJ, 1600, .inr (.inl u_this_places)))] t.heap ∧ va_D (va_A [(a_this, .inr (4, [.ref a_this_near, .ref a_this_turned, .ref a_this_figures, .ref a_this_text, .int c_this_length, .ref a_this_sectors, .ref a_this_corners, .int c_this_doubles, .ref a_this_likes, .int c_this_likeMany, .int c_this_pieces, .ref a_this_laid, .ref a_this_isMirrored, .ref a_this_places, .ref a_this_placeMany, .ref a_this_now, .ref a_this_firsts, .ref a_this_forms, .ref a_this_isKept, .ref a_this_keptFigures, .ref a_this_keptPieces, .ref a_this_keptLaid, .ref a_this_keptMirrored])), (a_this_figures, .inl (cJ, 8, .inr (.inl c_this_figures))), (a_this_laid, .inl (cJ, 4, .inr (.inl c_this_laid))), (a_this_isMirrored, .inl (cZ, 4, .inl c_this_isMirrored)), (a_this_turned, .inl (cI, 512, .inl c_this_turned)), (a_this_likes, .inl (cJ, 400, .inr (.inl c_this_likes))), (a_this_placeMany, .inl (cI, 4, .inl c_this_placeMany)), (a_this_places, .inl (cJ, 1600, .inr (.inl c_this_places)))] sz) [(a_this, .inr (4, [.ref a_this_near, .ref a_this_turned, .ref a_this_figures, .ref a_this_text, .int c_this_length, .ref a_this_sectors, .ref a_this_corners, .int c_this_doubles, .ref a_this_likes, .int u_this_likeMany, .int c_this_pieces, .ref a_this_laid, .ref a_this_isMirrored, .ref a_this_places, .ref a_this_placeMany, .ref a_this_now, .ref a_this_firsts, .ref a_this_forms, .ref a_this_isKept, .ref a_this_keptFigures, .ref a_this_keptPieces, .ref a_this_keptLaid, .ref a_this_keptMirrored])), (a_this_figures, .inl (cJ, 8, .inr (.inl c_this_figures))), (a_this_laid, .inl (cJ, 4, .inr (.inl c_this_laid))), (a_this_isMirrored, .inl (cZ, 4, .inl c_this_isMirrored)), (a_this_turned, .inl (cI, 512, .inl c_this_turned)), (a_this_likes, .inl (cJ, 400, .inr (.inl u_this_likes))), (a_this_placeMany, .inl (cI, 4, .inl u_this_placeMany)), (a_this_places, .inl (cJ, 1600, .inr (.inl u_this_places)))]) (va_A [(a_this, .inr (4, [.ref a_this_near, .ref a_this_turned, .ref a_this_figures, .ref a_this_text, .int c_this_length, .ref a_this_sectors, .ref a_this_corners, .int c_this_doubles, .ref a_this_likes, .int c_this_likeMany, .int c_this_pieces, .ref a_this_laid, .ref a_this_isMirrored, .ref a_this_places, .ref a_this_placeMany, .ref a_this_now, .ref a_this_firsts, .ref a_this_forms, .ref a_this_isKept, .ref a_this_keptFigures, .ref a_this_keptPieces, .ref a_this_keptLaid, .ref a_this_keptMirrored])), (a_this_figures, .inl (cJ, 8, .inr (.inl c_this_figures))), (a_this_laid, .inl (cJ, 4, .inr (.inl c_this_laid))), (a_this_isMirrored, .inl (cZ, 4, .inl c_this_isMirrored)), (a_this_turned, .inl (cI, 512, .inl c_this_turned)), (a_this_likes, .inl (cJ, 400, .inr (.inl c_this_likes))), (a_this_placeMany, .inl (cI, 4, .inl c_this_placeMany)), (a_this_places, .inl (cJ, 1600, .inr (.inl c_this_places)))] sz)) 0 0 (va_A [(a_this, .inr (4, [.ref a_this_near, .ref a_this_turned, .ref a_this_figures, .ref a_this_text, .int c_this_length, .ref a_this_sectors, .ref a_this_corners, .int c_this_doubles, .ref a_this_likes, .int c_this_likeMany, .int c_this_pieces, .ref a_this_laid, .ref a_this_isMirrored, .ref a_this_places, .ref a_this_placeMany, .ref a_this_now, .ref a_this_firsts, .ref a_this_forms, .ref a_this_isKept, .ref a_this_keptFigures, .ref a_this_keptPieces, .ref a_this_keptLaid, .ref a_this_keptMirrored])), (a_this_figures, .inl (cJ, 8, .inr (.inl c_this_figures))), (a_this_laid, .inl (cJ, 4, .inr (.inl c_this_laid))), (a_this_isMirrored, .inl (cZ, 4, .inl c_this_isMirrored)), (a_this_turned, .inl (cI, 512, .inl c_this_turned)), (a_this_likes, .inl (cJ, 400, .inr (.inl c_this_likes))), (a_this_placeMany, .inl (cI, 4, .inl c_this_placeMany)), (a_this_places, .inl (cJ, 1600, .inr (.inl c_this_places)))] sz) := by
  refine Met.ofW (cc := cX8_idle) (maxL := 4) (ret := (some .int)) (by decide) rfl ?_
  intro p e s m args below meth c s₁ B hml hv
  obtain ⟨rfl, hsz, hP, hK, hD0⟩ := hv
  have hx := B.exec
  have hb := B.bytes
  have hr := B.returns
  have hts := atoms_spec (ws := wsX8_idle) B.pre
  have hown : s.vm.findClass RX8 = some m.cls := findClass_of_methodNamed B.named
  have hlocks := B.notSynchronized
  have hN := hK.2
  subst hsz
  have hD := hD0.self (sz := s.heap.size)
  generalize hAe : va_A [(a_this, .inr (4, [.ref a_this_near, .ref a_this_turned, .ref a_this_figures, .ref a_this_text, .int c_this_length, .ref a_this_sectors, .ref a_this_corners, .int c_this_doubles, .ref a_this_likes, .int c_this_likeMany, .int c_this_pieces, .ref a_this_laid, .ref a_this_isMirrored, .ref a_this_places, .ref a_this_placeMany, .ref a_this_now, .ref a_this_firsts, .ref a_this_forms, .ref a_this_isKept, .ref a_this_keptFigures, .ref a_this_keptPieces, .ref a_this_keptLaid, .ref a_this_keptMirrored])), (a_this_figures, .inl (cJ, 8, .inr (.inl c_this_figures))), (a_this_laid, .inl (cJ, 4, .inr (.inl c_this_laid))), (a_this_isMirrored, .inl (cZ, 4, .inl c_this_isMirrored)), (a_this_turned, .inl (cI, 512, .inl c_this_turned)), (a_this_likes, .inl (cJ, 400, .inr (.inl c_this_likes))), (a_this_placeMany, .inl (cI, 4, .inl c_this_placeMany)), (a_this_places, .inl (cJ, 1600, .inr (.inl c_this_places)))] s.heap.size = A at hD ⊢
  have hA : ∀ q : Nat, s.heap.size ≤ q → A q := fun q h => by rw [← hAe]; exact Or.inr h
  have hS : va_S A s.heap s.heap [] := va_S.rf
  have hl := lv_entry ([.ref a_this, .int x1]) (n := 4) (Nat.le_of_ble_eq_true rfl)
  rw [lg_entry_eq]
  generalize (lg_sl ([.ref a_this, .int x1]) ++ List.replicate (4 - (lg_sl ([.ref a_this, .int x1])).length) Slot.unset).toArray = ls at hl ⊢
  have hl : lv_has ls 4 [(0, .ref a_this), (1, .int x1)] := hl
  refine hk_Q (fun Q hQ => ?_)
  have h := hf
  unfold f_X8_idle at h
  refine lv_iload_n hx hb dX8_idle_0 rfl (lv_at hl 1 rfl) ?_
  obtain ⟨r21, hr22, h⟩ := hk_x1 h
  refine vp_callSi (W.runS (As := [.int x1]) (rest := []) ⟨hx, hb, hml, hown, hts⟩ (c_X8_isFigure l x1 _ hr22) (va_cwS 1 hts gX8_idle_X8_isFigure rfl rfl rfl zs_X8_isFigure ⟨Nat.le_of_ble_eq_true rfl, Nat.le_of_ble_eq_true rfl⟩) ⟨fun _ _ _ _ q => q, fun _ _ _ => ⟨rfl, trivial⟩⟩ rfl rfl hl.1 rfl (lv_room (Nat.le_of_ble_eq_true rfl)) dX8_idle_1 ⟨Nat.zero_le _, Nat.zero_le _⟩) (fun p24 e23 => ?_)
  rw [e23]
  refine lv_if_ne (tgt := 9) hx hb dX8_idle_4 (by decide) (fun c25 => ?_) (fun c25 => ?_)
  · replace h := hk_in c25 h
    refine lv_iconst (v := (0 : Int32)) hx hb dX8_idle_9 (by decide) ?_
    refine lv_istore_n (lv' := [(2, .int (0 : Int32)), (0, .ref a_this), (1, .int x1)]) hx hb dX8_idle_10 rfl hl (by decide) rfl (fun ls hl => ?_)
    refine lv_iconst (v := (0 : Int32)) hx hb dX8_idle_11 (by decide) ?_
    refine lv_istore_n (lv' := [(3, .int (0 : Int32)), (2, .int (0 : Int32)), (0, .ref a_this), (1, .int x1)]) hx hb dX8_idle_12 rfl hl (by decide) rfl (fun ls hl => ?_)
    obtain ⟨z48, v49, v50, v51, v52, hr47, h⟩ := hk_x5 h
    refine hk_loopM (f := st_X8_idle_13 c_this_pieces c_this_figures c_this_laid c_this_isMirrored c_this_turned x1) (hd := 13) (nL := 4) (lv := fun t9 => [(0, .ref a_this), (1, .int x1), (2, .int t9.1), (3, .int t9.2.1)]) (wf := fun t9 => [(a_this, .inr (4, [.ref a_this_near, .ref a_this_turned, .ref a_this_figures, .ref a_this_text, .int c_this_length, .ref a_this_sectors, .ref a_this_corners, .int c_this_doubles, .ref a_this_likes, .int t9.2.2.1, .int c_this_pieces, .ref a_this_laid, .ref a_this_isMirrored, .ref a_this_places, .ref a_this_placeMany, .ref a_this_now, .ref a_this_firsts, .ref a_this_forms, .ref a_this_isKept, .ref a_this_keptFigures, .ref a_this_keptPieces, .ref a_this_keptLaid, .ref a_this_keptMirrored])), (a_this_figures, .inl (cJ, 8, .inr (.inl c_this_figures))), (a_this_laid, .inl (cJ, 4, .inr (.inl c_this_laid))), (a_this_isMirrored, .inl (cZ, 4, .inl c_this_isMirrored)), (a_this_turned, .inl (cI, 512, .inl c_this_turned)), (a_this_likes, .inl (cJ, 400, .inr (.inl t9.2.2.2.1))), (a_this_placeMany, .inl (cI, 4, .inl t9.2.2.2.2.1)), (a_this_places, .inl (cJ, 1600, .inr (.inl t9.2.2.2.2.2)))]) (xs := fun t9 => (57, [(2, .int t9.1)], [], [(a_this, .inr (4, [.ref a_this_near, .ref a_this_turned, .ref a_this_figures, .ref a_this_text, .int c_this_length, .ref a_this_sectors, .ref a_this_corners, .int c_this_doubles, .ref a_this_likes, .int t9.2.1, .int c_this_pieces, .ref a_this_laid, .ref a_this_isMirrored, .ref a_this_places, .ref a_this_placeMany, .ref a_this_now, .ref a_this_firsts, .ref a_this_forms, .ref a_this_isKept, .ref a_this_keptFigures, .ref a_this_keptPieces, .ref a_this_keptLaid, .ref a_this_keptMirrored])), (a_this_figures, .inl (cJ, 8, .inr (.inl c_this_figures))), (a_this_laid, .inl (cJ, 4, .inr (.inl c_this_laid))), (a_this_isMirrored, .inl (cZ, 4, .inl c_this_isMirrored)), (a_this_turned, .inl (cI, 512, .inl c_this_turned)), (a_this_likes, .inl (cJ, 400, .inr (.inl t9.2.2.1))), (a_this_placeMany, .inl (cI, 4, .inl t9.2.2.2.1)), (a_this_places, .inl (cJ, 1600, .inr (.inl t9.2.2.2.2)))])) ?_ hr47 ?_ hP hD hS (lv_sub hl [2, 3, 1, 0] rfl)
    · intro t53 q54 k26 hck26 hqk26 H locs ls hP hD hS hl
      obtain ⟨y27, y28, w29, w30, w31, w32⟩ := t53
      have k26 : st_X8_idle_13c c_this_pieces c_this_figures c_this_laid c_this_isMirrored c_this_turned x1 y27 y28 w29 w30 w31 w32 = some q54 := k26
      unfold st_X8_idle_13c at k26
      have hl : lv_has ls 4 [(0, .ref a_this), (1, .int x1), (2, .int y27), (3, .int y28)] := hl
      have hP : va_P D vwCl [(a_this, .inr (4, [.ref a_this_near, .ref a_this_turned, .ref a_this_figures, .ref a_this_text, .int c_this_length, .ref a_this_sectors, .ref a_this_corners, .int c_this_doubles, .ref a_this_likes, .int w29, .int c_this_pieces, .ref a_this_laid, .ref a_this_isMirrored, .ref a_this_places, .ref a_this_placeMany, .ref a_this_now, .ref a_this_firsts, .ref a_this_forms, .ref a_this_isKept, .ref a_this_keptFigures, .ref a_this_keptPieces, .ref a_this_keptLaid, .ref a_this_keptMirrored])), (a_this_figures, .inl (cJ, 8, .inr (.inl c_this_figures))), (a_this_laid, .inl (cJ, 4, .inr (.inl c_this_laid))), (a_this_isMirrored, .inl (cZ, 4, .inl c_this_isMirrored)), (a_this_turned, .inl (cI, 512, .inl c_this_turned)), (a_this_likes, .inl (cJ, 400, .inr (.inl w30))), (a_this_placeMany, .inl (cI, 4, .inl w31)), (a_this_places, .inl (cJ, 1600, .inr (.inl w32)))] H := hP
      have hD : va_D A [(a_this, .inr (4, [.ref a_this_near, .ref a_this_turned, .ref a_this_figures, .ref a_this_text, .int c_this_length, .ref a_this_sectors, .ref a_this_corners, .int c_this_doubles, .ref a_this_likes, .int w29, .int c_this_pieces, .ref a_this_laid, .ref a_this_isMirrored, .ref a_this_places, .ref a_this_placeMany, .ref a_this_now, .ref a_this_firsts, .ref a_this_forms, .ref a_this_isKept, .ref a_this_keptFigures, .ref a_this_keptPieces, .ref a_this_keptLaid, .ref a_this_keptMirrored])), (a_this_figures, .inl (cJ, 8, .inr (.inl c_this_figures))), (a_this_laid, .inl (cJ, 4, .inr (.inl c_this_laid))), (a_this_isMirrored, .inl (cZ, 4, .inl c_this_isMirrored)), (a_this_turned, .inl (cI, 512, .inl c_this_turned)), (a_this_likes, .inl (cJ, 400, .inr (.inl w30))), (a_this_placeMany, .inl (cI, 4, .inl w31)), (a_this_places, .inl (cJ, 1600, .inr (.inl w32)))] := hD
      refine lv_iload_n hx hb dX8_idle_13 rfl (lv_at hl 3 rfl) ?_
      refine lv_aload_n hx hb dX8_idle_14 rfl (lv_at hl 0 rfl) ?_
      refine va_get (D := D) (ci := 4) (v := .int c_this_pieces) (C := RX8) (T := TX8) (N := 23) hx hb hts zi_X8_idle_X8 hown hK.1 hP 0 rfl rfl 10 (by decide) (hts (.fieldLink RX8 197 "HalfAndHalfAgainModel" "pieces" "I") (List.mem_of_getElem? (i := 1) rfl)) (fun _ h9 => h9) rfl dX8_idle_15 ?_
      refine lv_icmp_ge (tgt := 57) hx hb dX8_idle_18 (by decide) (fun c33 => ?_) (fun c33 => ?_)
      · replace k26 := hk_ip c33 k26
        exact hqk26 (y27, w29, w30, w31, w32) (Option.some.inj k26).symm H locs ls hP hD hS (lv_sub hl [2] rfl)
      replace k26 := hk_in c33 k26
      refine lv_aload_n hx hb dX8_idle_21 rfl (lv_at hl 0 rfl) ?_
      refine lv_iload_n hx hb dX8_idle_22 rfl (lv_at hl 3 rfl) ?_
      refine lv_aload_n hx hb dX8_idle_23 rfl (lv_at hl 0 rfl) ?_
      refine va_get (D := D) (ci := 4) (v := .ref a_this_figures) (C := RX8) (T := TX8) (N := 23) hx hb hts zi_X8_idle_X8 hown hK.1 hP 0 rfl rfl 2 (by decide) (hts (.fieldLink RX8 17 "HalfAndHalfAgainModel" "figures" "[J") (List.mem_of_getElem? (i := 2) rfl)) (fun _ h9 => h9) rfl dX8_idle_24 ?_
      refine lv_iload_n hx hb dX8_idle_27 rfl (lv_at hl 1 rfl) ?_
      obtain ⟨hi34, k26⟩ := hk_ge k26
      refine va_lald hx hb hK.1 hP 1 1 rfl rfl (hk_inb_of hi34) dX8_idle_28 ?_
      obtain ⟨u35, u36, u37, u38, hr39, k26⟩ := hk_x4 k26
      have hPc := hP.sub (ws' := [(a_this, .inr (4, [.ref a_this_near, .ref a_this_turned, .ref a_this_figures, .ref a_this_text, .int c_this_length, .ref a_this_sectors, .ref a_this_corners, .int c_this_doubles, .ref a_this_likes, .int w29, .int c_this_pieces, .ref a_this_laid, .ref a_this_isMirrored, .ref a_this_places, .ref a_this_placeMany, .ref a_this_now, .ref a_this_firsts, .ref a_this_forms, .ref a_this_isKept, .ref a_this_keptFigures, .ref a_this_keptPieces, .ref a_this_keptLaid, .ref a_this_keptMirrored])), (a_this_laid, .inl (cJ, 4, .inr (.inl c_this_laid))), (a_this_isMirrored, .inl (cZ, 4, .inl c_this_isMirrored)), (a_this_turned, .inl (cI, 512, .inl c_this_turned)), (a_this_likes, .inl (cJ, 400, .inr (.inl w30))), (a_this_placeMany, .inl (cI, 4, .inl w31)), (a_this_places, .inl (cJ, 1600, .inr (.inl w32)))]) [0, 2, 3, 4, 5, 6, 7] rfl
      have hDc := hD.sub (ws' := [(a_this, .inr (4, [.ref a_this_near, .ref a_this_turned, .ref a_this_figures, .ref a_this_text, .int c_this_length, .ref a_this_sectors, .ref a_this_corners, .int c_this_doubles, .ref a_this_likes, .int w29, .int c_this_pieces, .ref a_this_laid, .ref a_this_isMirrored, .ref a_this_places, .ref a_this_placeMany, .ref a_this_now, .ref a_this_firsts, .ref a_this_forms, .ref a_this_isKept, .ref a_this_keptFigures, .ref a_this_keptPieces, .ref a_this_keptLaid, .ref a_this_keptMirrored])), (a_this_laid, .inl (cJ, 4, .inr (.inl c_this_laid))), (a_this_isMirrored, .inl (cZ, 4, .inl c_this_isMirrored)), (a_this_turned, .inl (cI, 512, .inl c_this_turned)), (a_this_likes, .inl (cJ, 400, .inr (.inl w30))), (a_this_placeMany, .inl (cI, 4, .inl w31)), (a_this_places, .inl (cJ, 1600, .inr (.inl w32)))]) [0, 2, 3, 4, 5, 6, 7] (by decide) rfl
      have hFc := va_free (wc := [(a_this, .inr (4, [.ref a_this_near, .ref a_this_turned, .ref a_this_figures, .ref a_this_text, .int c_this_length, .ref a_this_sectors, .ref a_this_corners, .int c_this_doubles, .ref a_this_likes, .int w29, .int c_this_pieces, .ref a_this_laid, .ref a_this_isMirrored, .ref a_this_places, .ref a_this_placeMany, .ref a_this_now, .ref a_this_firsts, .ref a_this_forms, .ref a_this_isKept, .ref a_this_keptFigures, .ref a_this_keptPieces, .ref a_this_keptLaid, .ref a_this_keptMirrored])), (a_this_laid, .inl (cJ, 4, .inr (.inl c_this_laid))), (a_this_isMirrored, .inl (cZ, 4, .inl c_this_isMirrored)), (a_this_turned, .inl (cI, 512, .inl c_this_turned)), (a_this_likes, .inl (cJ, 400, .inr (.inl w30))), (a_this_placeMany, .inl (cI, 4, .inl w31)), (a_this_places, .inl (cJ, 1600, .inr (.inl w32)))]) hD hS hA [0, 2, 3, 4, 5, 6, 7] rfl
      refine va_callv (va_runV (As := [.int y28, .long (c_this_figures x1.toNatClampNeg)]) (rest := []) ⟨hx, hb, hml, hown, hts⟩ (c_X8_layPlaces l D cI cJ cZ cO a_this a_this_near a_this_turned a_this_figures a_this_text a_this_sectors a_this_corners a_this_likes a_this_laid a_this_isMirrored a_this_places a_this_placeMany a_this_now a_this_firsts a_this_forms a_this_isKept a_this_keptFigures a_this_keptPieces a_this_keptLaid a_this_keptMirrored H.size c_this_length c_this_doubles w29 c_this_pieces c_this_laid c_this_isMirrored c_this_turned w30 w31 w32 y28 (c_this_figures x1.toNatClampNeg) _ _ _ _ hr39) (cwV 2 hts gX8_idle_X8_layPlaces rfl rfl rfl zv_X8_layPlaces ⟨Nat.le_of_ble_eq_true rfl, Nat.le_of_ble_eq_true rfl⟩) (hk_preMV 4 rfl hPc hDc hK rfl) rfl rfl hl.1 rfl (lv_room (Nat.le_of_ble_eq_true rfl)) dX8_idle_29 ⟨Nat.zero_le _, Nat.zero_le _⟩) hS (fun q _ h9 => hFc q h9) hFc (fun u9 t9 H1 locs ht hvm hw hB hz1 hk1 hS => ?_)
      obtain ⟨hP1, hD1⟩ := hB
      rw [ht] at hP1
      obtain ⟨hP, hD⟩ := va_join (wr := [(a_this_figures, .inl (cJ, 8, .inr (.inl c_this_figures)))]) (w1 := [(a_this, .inr (4, [.ref a_this_near, .ref a_this_turned, .ref a_this_figures, .ref a_this_text, .int c_this_length, .ref a_this_sectors, .ref a_this_corners, .int c_this_doubles, .ref a_this_likes, .int u35, .int c_this_pieces, .ref a_this_laid, .ref a_this_isMirrored, .ref a_this_places, .ref a_this_placeMany, .ref a_this_now, .ref a_this_firsts, .ref a_this_forms, .ref a_this_isKept, .ref a_this_keptFigures, .ref a_this_keptPieces, .ref a_this_keptLaid, .ref a_this_keptMirrored])), (a_this_laid, .inl (cJ, 4, .inr (.inl c_this_laid))), (a_this_isMirrored, .inl (cZ, 4, .inl c_this_isMirrored)), (a_this_turned, .inl (cI, 512, .inl c_this_turned)), (a_this_likes, .inl (cJ, 400, .inr (.inl u36))), (a_this_placeMany, .inl (cI, 4, .inl u37)), (a_this_places, .inl (cJ, 1600, .inr (.inl u38)))]) hP hD [0, 2, 3, 4, 5, 6, 7] [1] rfl rfl (by decide) (by decide) hk1 hFc hP1 hD1
      generalize H1 = H at hP hS ⊢
      have hP := hP.sub (ws' := [(a_this, .inr (4, [.ref a_this_near, .ref a_this_turned, .ref a_this_figures, .ref a_this_text, .int c_this_length, .ref a_this_sectors, .ref a_this_corners, .int c_this_doubles, .ref a_this_likes, .int u35, .int c_this_pieces, .ref a_this_laid, .ref a_this_isMirrored, .ref a_this_places, .ref a_this_placeMany, .ref a_this_now, .ref a_this_firsts, .ref a_this_forms, .ref a_this_isKept, .ref a_this_keptFigures, .ref a_this_keptPieces, .ref a_this_keptLaid, .ref a_this_keptMirrored])), (a_this_figures, .inl (cJ, 8, .inr (.inl c_this_figures))), (a_this_laid, .inl (cJ, 4, .inr (.inl c_this_laid))), (a_this_isMirrored, .inl (cZ, 4, .inl c_this_isMirrored)), (a_this_turned, .inl (cI, 512, .inl c_this_turned)), (a_this_likes, .inl (cJ, 400, .inr (.inl u36))), (a_this_placeMany, .inl (cI, 4, .inl u37)), (a_this_places, .inl (cJ, 1600, .inr (.inl u38)))]) [1, 0, 2, 3, 4, 5, 6, 7] rfl
      have hD := hD.sub (ws' := [(a_this, .inr (4, [.ref a_this_near, .ref a_this_turned, .ref a_this_figures, .ref a_this_text, .int c_this_length, .ref a_this_sectors, .ref a_this_corners, .int c_this_doubles, .ref a_this_likes, .int u35, .int c_this_pieces, .ref a_this_laid, .ref a_this_isMirrored, .ref a_this_places, .ref a_this_placeMany, .ref a_this_now, .ref a_this_firsts, .ref a_this_forms, .ref a_this_isKept, .ref a_this_keptFigures, .ref a_this_keptPieces, .ref a_this_keptLaid, .ref a_this_keptMirrored])), (a_this_figures, .inl (cJ, 8, .inr (.inl c_this_figures))), (a_this_laid, .inl (cJ, 4, .inr (.inl c_this_laid))), (a_this_isMirrored, .inl (cZ, 4, .inl c_this_isMirrored)), (a_this_turned, .inl (cI, 512, .inl c_this_turned)), (a_this_likes, .inl (cJ, 400, .inr (.inl u36))), (a_this_placeMany, .inl (cI, 4, .inl u37)), (a_this_places, .inl (cJ, 1600, .inr (.inl u38)))]) [1, 0, 2, 3, 4, 5, 6, 7] (by decide) rfl
      refine lv_iload_n hx hb dX8_idle_32 rfl (lv_at hl 2 rfl) ?_
      refine lv_aload_n hx hb dX8_idle_33 rfl (lv_at hl 0 rfl) ?_
      refine va_get (D := D) (ci := 4) (v := .ref a_this_placeMany) (C := RX8) (T := TX8) (N := 23) hx hb hts zi_X8_idle_X8 hown hK.1 hP 0 rfl rfl 14 (by decide) (hts (.fieldLink RX8 42 "HalfAndHalfAgainModel" "placeMany" "[I") (List.mem_of_getElem? (i := 3) rfl)) (fun _ h9 => h9) rfl dX8_idle_34 ?_
      refine lv_iload_n hx hb dX8_idle_37 rfl (lv_at hl 3 rfl) ?_
      obtain ⟨hi41, k26⟩ := hk_ge k26
      refine va_iald hx hb hK.1 hP 6 0 rfl rfl (hk_inb_of hi41) dX8_idle_38 ?_
      obtain ⟨v44, g42, k26⟩ := hk_lf k26
      refine hk_joinR (nL := 4) (xs := fun (t9 : Int32) => (49, [(0, .ref a_this), (1, .int x1), (3, .int y28)], [.int t9, .int y27])) v44 (fun hjg42 => ?_) ?_
      · refine lv_if_ne (tgt := 48) hx hb dX8_idle_39 (by decide) (fun c43 => ?_) (fun c43 => ?_)
        · replace g42 := hk_in c43 g42
          refine lv_iconst (v := (0 : Int32)) hx hb dX8_idle_48 (by decide) ?_
          subst g42
          exact hjg42 ls (lv_sub hl [0, 1, 3] rfl)
        replace g42 := hk_ip c43 g42
        refine lv_iconst (v := (1 : Int32)) hx hb dX8_idle_42 (by decide) ?_
        refine lv_iload_n hx hb dX8_idle_43 rfl (lv_at hl 3 rfl) ?_
        refine lv_ishl hx hb dX8_idle_44 ?_
        refine hk_ti (y := (hk_ishl (1 : Int32) y28)) rfl ?_
        refine lv_goto (tgt := 49) hx hb dX8_idle_45 (by decide) ?_
        subst g42
        exact hjg42 ls (lv_sub hl [0, 1, 3] rfl)
      intro ls hl
      have hl : lv_has ls 4 [(0, .ref a_this), (1, .int x1), (3, .int y28)] := hl
      show W _ _ _ _ _ _ _ _ _ _ _ _ _ _ _ (F0 m 49 ls [.int v44, .int y27])
      refine lv_ior hx hb dX8_idle_49 ?_
      obtain ⟨x45, ex45, k26⟩ := hk_le k26
      refine hk_ti ex45 ?_
      refine lv_istore_n (lv' := [(2, .int x45), (0, .ref a_this), (1, .int x1), (3, .int y28)]) hx hb dX8_idle_50 rfl hl (by decide) rfl (fun ls hl => ?_)
      obtain ⟨x46, ex46, k26⟩ := hk_le k26
      refine lv_iinc (v := x46) (lv' := [(3, .int x46), (2, .int x45), (0, .ref a_this), (1, .int x1)]) hx hb dX8_idle_51 hl (k := 3) rfl (by rw [ex46]; rfl) (by decide) rfl (fun ls hl => ?_)
      refine lv_goto (tgt := 13) hx hb dX8_idle_54 (by decide) ?_
      exact hck26 (x45, x46, u35, u36, u37, u38) (Option.some.inj k26).symm H locs ls hP hD hS (lv_sub hl [2, 3, 1, 0] rfl)
    intro H locs ls hP hD hS hl
    have hl : lv_has ls 4 [(2, .int z48)] := hl
    have hP : va_P D vwCl [(a_this, .inr (4, [.ref a_this_near, .ref a_this_turned, .ref a_this_figures, .ref a_this_text, .int c_this_length, .ref a_this_sectors, .ref a_this_corners, .int c_this_doubles, .ref a_this_likes, .int v49, .int c_this_pieces, .ref a_this_laid, .ref a_this_isMirrored, .ref a_this_places, .ref a_this_placeMany, .ref a_this_now, .ref a_this_firsts, .ref a_this_forms, .ref a_this_isKept, .ref a_this_keptFigures, .ref a_this_keptPieces, .ref a_this_keptLaid, .ref a_this_keptMirrored])), (a_this_figures, .inl (cJ, 8, .inr (.inl c_this_figures))), (a_this_laid, .inl (cJ, 4, .inr (.inl c_this_laid))), (a_this_isMirrored, .inl (cZ, 4, .inl c_this_isMirrored)), (a_this_turned, .inl (cI, 512, .inl c_this_turned)), (a_this_likes, .inl (cJ, 400, .inr (.inl v50))), (a_this_placeMany, .inl (cI, 4, .inl v51)), (a_this_places, .inl (cJ, 1600, .inr (.inl v52)))] H := hP
    have hD : va_D A [(a_this, .inr (4, [.ref a_this_near, .ref a_this_turned, .ref a_this_figures, .ref a_this_text, .int c_this_length, .ref a_this_sectors, .ref a_this_corners, .int c_this_doubles, .ref a_this_likes, .int v49, .int c_this_pieces, .ref a_this_laid, .ref a_this_isMirrored, .ref a_this_places, .ref a_this_placeMany, .ref a_this_now, .ref a_this_firsts, .ref a_this_forms, .ref a_this_isKept, .ref a_this_keptFigures, .ref a_this_keptPieces, .ref a_this_keptLaid, .ref a_this_keptMirrored])), (a_this_figures, .inl (cJ, 8, .inr (.inl c_this_figures))), (a_this_laid, .inl (cJ, 4, .inr (.inl c_this_laid))), (a_this_isMirrored, .inl (cZ, 4, .inl c_this_isMirrored)), (a_this_turned, .inl (cI, 512, .inl c_this_turned)), (a_this_likes, .inl (cJ, 400, .inr (.inl v50))), (a_this_placeMany, .inl (cI, 4, .inl v51)), (a_this_places, .inl (cJ, 1600, .inr (.inl v52)))] := hD
    show W _ _ _ _ _ _ _ _ _ _ _ _ _ _ _ (F0 m 57 ls [])
    refine lv_iload_n hx hb dX8_idle_57 rfl (lv_at hl 0 rfl) ?_
    subst hQ
    have h := Option.some.inj h
    simp only [Prod.mk.injEq] at h
    obtain ⟨rfl, rfl, rfl, rfl, rfl⟩ := h
    exact W.iret hx hb hr (fun t ht hW => ⟨⟨_, (), rfl, rfl, by rw [ht]; exact hP, hD⟩, hS.F ht⟩) hS.2.2 dX8_idle_58
  replace h := hk_ip c25 h
  refine lv_iconst (v := (-1 : Int32)) hx hb dX8_idle_7 (by decide) ?_
  subst hQ
  have h := Option.some.inj h
  simp only [Prod.mk.injEq] at h
  obtain ⟨rfl, rfl, rfl, rfl, rfl⟩ := h
  exact W.iret hx hb hr (fun t ht hW => ⟨⟨_, (), rfl, rfl, by rw [ht]; exact hP, hD⟩, hS.F ht⟩) hS.2.2 dX8_idle_8
theorem zv_X8_grows : yX8_grows.cls = RX8 ∧ yX8_grows.cls ≠ "java/lang/invoke/MethodHandle" ∧ yX8_grows.cls ≠ "java/lang/invoke/VarHandle" ∧ (parseMethodDescriptor yX8_grows.desc).map (fun d => d.parameters.length) = some 2 := by decide +kernel
def f_X8_grows (c_this_near : Nat → Int64)  (x1 : Int64) (x3 : Int32) : Option Int32 := hk_b1 (f_X8_has x1 x3) fun r21 => if r21 = 0 then (hk_gd (hk_inb x3 64) (if ((c_this_near x3.toNatClampNeg) &&& x1) = (0 : Int64) then (some (0 : Int32)) else (some (1 : Int32)))) else (some (0 : Int32))
theorem zi_X8_grows_X8 : ∀ w ∈ u_ws RX8 TX8 23, w ∈ wsX8_grows := by decide +kernel
set_option maxHeartbeats 8000000 in
set_option maxRecDepth 100000 in
theorem c_X8_grows (l : Launch) (D : va_G) (cI cJ cZ cO : ClassId) (a_this a_this_near a_this_turned a_this_figures a_this_text a_this_sectors a_this_corners a_this_likes a_this_laid a_this_isMirrored a_this_places a_this_placeMany a_this_now a_this_firsts a_this_forms a_this_isKept a_this_keptFigures a_this_keptPieces a_this_keptLaid a_this_keptMirrored : Nat) (c_this_length : Int32) (c_this_doubles : Int32) (c_this_likeMany : Int32) (c_this_pieces : Int32) (c_this_near : Nat → Int64) (x1 : Int64) (x3 : Int32) (rv : Int32) (hf : f_X8_grows c_this_near x1 x3 = some rv) : Met l yX8_grows wsX8_grows ({ frames := 1, cells := 0, slots := 0, locals := 22 }) (va_Pc [.ref a_this, .long x1, .int x3] (hkR D cI cJ cZ cO [(a_this, .inr (4, [.ref a_this_near, .ref a_this_turned, .ref a_this_figures, .ref a_this_text, .int c_this_length, .ref a_this_sectors, .ref a_this_corners, .int c_this_doubles, .ref a_this_likes, .int c_this_likeMany, .int c_this_pieces, .ref a_this_laid, .ref a_this_isMirrored, .ref a_this_places, .ref a_this_placeMany, .ref a_this_now, .ref a_this_firsts, .ref a_this_forms, .ref a_this_isKept, .ref a_this_keptFigures, .ref a_this_keptPieces, .ref a_this_keptLaid, .ref a_this_keptMirrored])), (a_this_near, .inl (cJ, 64, .inr (.inl c_this_near)))])) (vp_Si (fun r => r = rv)) 0 0 (fun _ => False) := by
  refine Met.ofW (cc := cX8_grows) (maxL := 4) (ret := (some .boolean)) (by decide) rfl ?_
  intro p e s m args below meth c s₁ B hml hv
  obtain ⟨rfl, hP, hK⟩ := hv
  have hx := B.exec
  have hb := B.bytes
  have hr := B.returns
  have hts := atoms_spec (ws := wsX8_grows) B.pre
  have hown : s.vm.findClass RX8 = some m.cls := findClass_of_methodNamed B.named
  have hlocks := B.notSynchronized
  have hN := hK.2
  have hl := lv_entry ([.ref a_this, .long x1, .int x3]) (n := 4) (Nat.le_of_ble_eq_true rfl)
  rw [lg_entry_eq]
  generalize (lg_sl ([.ref a_this, .long x1, .int x3]) ++ List.replicate (4 - (lg_sl ([.ref a_this, .long x1, .int x3])).length) Slot.unset).toArray = ls at hl ⊢
  have hl : lv_has ls 4 [(0, .ref a_this), (1, .long x1), (3, .int x3)] := hl
  refine hk_Q (fun Q hQ => ?_)
  have h := hf
  unfold f_X8_grows at h
  refine lv_lload_n hx hb dX8_grows_0 rfl (lv_at hl 1 rfl) ?_
  refine lv_iload_n hx hb dX8_grows_1 rfl (lv_at hl 2 rfl) ?_
  obtain ⟨r21, hr22, h⟩ := hk_x1 h
  refine vp_callSi (W.runS (As := [.long x1, .int x3]) (rest := []) ⟨hx, hb, hml, hown, hts⟩ (c_X8_has l x1 x3 _ hr22) (va_cwS 2 hts gX8_grows_X8_has rfl rfl rfl zs_X8_has ⟨Nat.le_of_ble_eq_true rfl, Nat.le_of_ble_eq_true rfl⟩) ⟨fun _ _ _ _ q => q, fun _ _ _ => ⟨rfl, trivial⟩⟩ rfl rfl hl.1 rfl (lv_room (Nat.le_of_ble_eq_true rfl)) dX8_grows_2 ⟨Nat.zero_le _, Nat.zero_le _⟩) (fun p24 e23 => ?_)
  rw [e23]
  refine lv_if_ne (tgt := 25) hx hb dX8_grows_5 (by decide) (fun c25 => ?_) (fun c25 => ?_)
  · replace h := hk_in c25 h
    refine lv_iconst (v := (0 : Int32)) hx hb dX8_grows_25 (by decide) ?_
    subst hQ
    exact W.zret hx hb hr rfl (fun t ht hW => ⟨_, rfl, Option.some.inj h, ht⟩) (fun _ h9 => by cases h9) dX8_grows_26
  replace h := hk_ip c25 h
  refine lv_aload_n hx hb dX8_grows_8 rfl (lv_at hl 0 rfl) ?_
  refine va_get (D := D) (ci := 4) (v := .ref a_this_near) (C := RX8) (T := TX8) (N := 23) hx hb hts zi_X8_grows_X8 hown hK.1 hP 0 rfl rfl 0 (by decide) (hts (.fieldLink RX8 7 "HalfAndHalfAgainModel" "near" "[J") (List.mem_of_getElem? (i := 1) rfl)) (fun _ h9 => h9) rfl dX8_grows_9 ?_
  refine lv_iload_n hx hb dX8_grows_12 rfl (lv_at hl 2 rfl) ?_
  obtain ⟨hi26, h⟩ := hk_ge h
  refine va_lald hx hb hK.1 hP 1 1 rfl rfl (hk_inb_of hi26) dX8_grows_13 ?_
  refine lv_lload_n hx hb dX8_grows_14 rfl (lv_at hl 1 rfl) ?_
  refine lv_land hx hb dX8_grows_15 ?_
  refine lv_lconst (v := (0 : Int64)) hx hb dX8_grows_16 (by decide) ?_
  refine hk_lcmp_eq (tgt := 25) hx hb dX8_grows_17 dX8_grows_18 (by decide) (fun c27 => ?_) (fun c27 => ?_)
  · replace h := hk_ip c27 h
    refine lv_iconst (v := (0 : Int32)) hx hb dX8_grows_25 (by decide) ?_
    subst hQ
    exact W.zret hx hb hr rfl (fun t ht hW => ⟨_, rfl, Option.some.inj h, ht⟩) (fun _ h9 => by cases h9) dX8_grows_26
  replace h := hk_in c27 h
  refine lv_iconst (v := (1 : Int32)) hx hb dX8_grows_21 (by decide) ?_
  refine lv_goto (tgt := 26) hx hb dX8_grows_22 (by decide) ?_
  subst hQ
  exact W.zret hx hb hr rfl (fun t ht hW => ⟨_, rfl, Option.some.inj h, ht⟩) (fun _ h9 => by cases h9) dX8_grows_26
theorem zv_X8_grown : yX8_grown.cls = RX8 ∧ yX8_grown.cls ≠ "java/lang/invoke/MethodHandle" ∧ yX8_grown.cls ≠ "java/lang/invoke/VarHandle" ∧ (parseMethodDescriptor yX8_grown.desc).map (fun d => d.parameters.length) = some 1 := by decide +kernel
def st_X8_grown_13c (c_this_figures : Nat → Int64) (c_this_near : Nat → Int64) (x1 : Int32) (y27 : Int32) (y28 : Int32) : Option ((Int32 × Int32) ⊕ Int32) := if (64 : Int32) ≤ y28 then (some (.inr y27)) else (hk_gd (hk_inb x1 8) (hk_b1 (f_X8_grows c_this_near (c_this_figures x1.toNatClampNeg) y28) fun r31 => hk_let (if r31 = 0 then ((0 : Int32)) else ((1 : Int32))) fun v37 => hk_let (y27 + v37) fun x38 => hk_let (y28 + (1 : Int32)) fun x39 => some (.inl (x38, x39))))
def st_X8_grown_13 (c_this_figures : Nat → Int64) (c_this_near : Nat → Int64) (x1 : Int32) (t9 : (Int32 × Int32)) : Option ((Int32 × Int32) ⊕ Int32) := st_X8_grown_13c c_this_figures c_this_near x1 t9.1 t9.2
def f_X8_grown (c_this_figures : Nat → Int64) (c_this_near : Nat → Int64)  (x1 : Int32) : Option Int32 := hk_b1 (f_X8_isFigure x1) fun r21 => if r21 = 0 then (some (-1 : Int32)) else (hk_b1 (hk_wl (st_X8_grown_13 c_this_figures c_this_near x1) hkF ((0 : Int32), (0 : Int32))) fun z41 => some z41)
theorem zi_X8_grown_X8 : ∀ w ∈ u_ws RX8 TX8 23, w ∈ wsX8_grown := by decide +kernel
set_option maxHeartbeats 8000000 in
set_option maxRecDepth 100000 in
theorem c_X8_grown (l : Launch) (D : va_G) (cI cJ cZ cO : ClassId) (a_this a_this_near a_this_turned a_this_figures a_this_text a_this_sectors a_this_corners a_this_likes a_this_laid a_this_isMirrored a_this_places a_this_placeMany a_this_now a_this_firsts a_this_forms a_this_isKept a_this_keptFigures a_this_keptPieces a_this_keptLaid a_this_keptMirrored : Nat) (c_this_length : Int32) (c_this_doubles : Int32) (c_this_likeMany : Int32) (c_this_pieces : Int32) (c_this_figures : Nat → Int64) (c_this_near : Nat → Int64) (x1 : Int32) (rv : Int32) (hf : f_X8_grown c_this_figures c_this_near x1 = some rv) : Met l yX8_grown wsX8_grown ({ frames := 2, cells := 0, slots := 0, locals := 45 }) (va_Pc [.ref a_this, .int x1] (hkR D cI cJ cZ cO [(a_this, .inr (4, [.ref a_this_near, .ref a_this_turned, .ref a_this_figures, .ref a_this_text, .int c_this_length, .ref a_this_sectors, .ref a_this_corners, .int c_this_doubles, .ref a_this_likes, .int c_this_likeMany, .int c_this_pieces, .ref a_this_laid, .ref a_this_isMirrored, .ref a_this_places, .ref a_this_placeMany, .ref a_this_now, .ref a_this_firsts, .ref a_this_forms, .ref a_this_isKept, .ref a_this_keptFigures, .ref a_this_keptPieces, .ref a_this_keptLaid, .ref a_this_keptMirrored])), (a_this_figures, .inl (cJ, 8, .inr (.inl c_this_figures))), (a_this_near, .inl (cJ, 64, .inr (.inl c_this_near)))])) (vp_Si (fun r => r = rv)) 0 0 (fun _ => False) := by
  refine Met.ofW (cc := cX8_grown) (maxL := 4) (ret := (some .int)) (by decide) rfl ?_
  intro p e s m args below meth c s₁ B hml hv
  obtain ⟨rfl, hP, hK⟩ := hv
  have hx := B.exec
  have hb := B.bytes
  have hr := B.returns
  have hts := atoms_spec (ws := wsX8_grown) B.pre
  have hown : s.vm.findClass RX8 = some m.cls := findClass_of_methodNamed B.named
  have hlocks := B.notSynchronized
  have hN := hK.2
  have hl := lv_entry ([.ref a_this, .int x1]) (n := 4) (Nat.le_of_ble_eq_true rfl)
  rw [lg_entry_eq]
  generalize (lg_sl ([.ref a_this, .int x1]) ++ List.replicate (4 - (lg_sl ([.ref a_this, .int x1])).length) Slot.unset).toArray = ls at hl ⊢
  have hl : lv_has ls 4 [(0, .ref a_this), (1, .int x1)] := hl
  refine hk_Q (fun Q hQ => ?_)
  have h := hf
  unfold f_X8_grown at h
  refine lv_iload_n hx hb dX8_grown_0 rfl (lv_at hl 1 rfl) ?_
  obtain ⟨r21, hr22, h⟩ := hk_x1 h
  refine vp_callSi (W.runS (As := [.int x1]) (rest := []) ⟨hx, hb, hml, hown, hts⟩ (c_X8_isFigure l x1 _ hr22) (va_cwS 1 hts gX8_grown_X8_isFigure rfl rfl rfl zs_X8_isFigure ⟨Nat.le_of_ble_eq_true rfl, Nat.le_of_ble_eq_true rfl⟩) ⟨fun _ _ _ _ q => q, fun _ _ _ => ⟨rfl, trivial⟩⟩ rfl rfl hl.1 rfl (lv_room (Nat.le_of_ble_eq_true rfl)) dX8_grown_1 ⟨Nat.zero_le _, Nat.zero_le _⟩) (fun p24 e23 => ?_)
  rw [e23]
  refine lv_if_ne (tgt := 9) hx hb dX8_grown_4 (by decide) (fun c25 => ?_) (fun c25 => ?_)
  · replace h := hk_in c25 h
    refine lv_iconst (v := (0 : Int32)) hx hb dX8_grown_9 (by decide) ?_
    refine lv_istore_n (lv' := [(2, .int (0 : Int32)), (0, .ref a_this), (1, .int x1)]) hx hb dX8_grown_10 rfl hl (by decide) rfl (fun ls hl => ?_)
    refine lv_iconst (v := (0 : Int32)) hx hb dX8_grown_11 (by decide) ?_
    refine lv_istore_n (lv' := [(3, .int (0 : Int32)), (2, .int (0 : Int32)), (0, .ref a_this), (1, .int x1)]) hx hb dX8_grown_12 rfl hl (by decide) rfl (fun ls hl => ?_)
    obtain ⟨z41, hr40, h⟩ := hk_x1 h
    refine hk_loopR (f := st_X8_grown_13 c_this_figures c_this_near x1) (hd := 13) (nL := 4) (lv := fun t9 => [(0, .ref a_this), (1, .int x1), (2, .int t9.1), (3, .int t9.2)]) (xs := fun t9 => (47, [(2, .int t9)], [])) ?_ hr40 ?_ (lv_sub hl [2, 3, 1, 0] rfl)
    · intro t42 q43 k26 hck26 hqk26 ls hl
      obtain ⟨y27, y28⟩ := t42
      have k26 : st_X8_grown_13c c_this_figures c_this_near x1 y27 y28 = some q43 := k26
      unfold st_X8_grown_13c at k26
      have hl : lv_has ls 4 [(0, .ref a_this), (1, .int x1), (2, .int y27), (3, .int y28)] := hl
      refine lv_iload_n hx hb dX8_grown_13 rfl (lv_at hl 3 rfl) ?_
      refine lv_bipush (v := (64 : Int32)) hx hb dX8_grown_14 (by decide) ?_
      refine lv_icmp_ge (tgt := 47) hx hb dX8_grown_16 (by decide) (fun c29 => ?_) (fun c29 => ?_)
      · replace k26 := hk_ip c29 k26
        exact hqk26 y27 (Option.some.inj k26).symm ls (lv_sub hl [2] rfl)
      replace k26 := hk_in c29 k26
      refine lv_iload_n hx hb dX8_grown_19 rfl (lv_at hl 2 rfl) ?_
      refine lv_aload_n hx hb dX8_grown_20 rfl (lv_at hl 0 rfl) ?_
      refine lv_aload_n hx hb dX8_grown_21 rfl (lv_at hl 0 rfl) ?_
      refine va_get (D := D) (ci := 4) (v := .ref a_this_figures) (C := RX8) (T := TX8) (N := 23) hx hb hts zi_X8_grown_X8 hown hK.1 hP 0 rfl rfl 2 (by decide) (hts (.fieldLink RX8 17 "HalfAndHalfAgainModel" "figures" "[J") (List.mem_of_getElem? (i := 1) rfl)) (fun _ h9 => h9) rfl dX8_grown_22 ?_
      refine lv_iload_n hx hb dX8_grown_25 rfl (lv_at hl 1 rfl) ?_
      obtain ⟨hi30, k26⟩ := hk_ge k26
      refine va_lald hx hb hK.1 hP 1 1 rfl rfl (hk_inb_of hi30) dX8_grown_26 ?_
      refine lv_iload_n hx hb dX8_grown_27 rfl (lv_at hl 3 rfl) ?_
      obtain ⟨r31, hr32, k26⟩ := hk_x1 k26
      refine vp_callSi (W.runV (As := [.long (c_this_figures x1.toNatClampNeg), .int y28]) (rest := [.int y27]) ⟨hx, hb, hml, hown, hts⟩ (c_X8_grows l D cI cJ cZ cO a_this a_this_near a_this_turned a_this_figures a_this_text a_this_sectors a_this_corners a_this_likes a_this_laid a_this_isMirrored a_this_places a_this_placeMany a_this_now a_this_firsts a_this_forms a_this_isKept a_this_keptFigures a_this_keptPieces a_this_keptLaid a_this_keptMirrored c_this_length c_this_doubles c_this_likeMany c_this_pieces c_this_near (c_this_figures x1.toNatClampNeg) y28 _ hr32) (cwV 2 hts gX8_grown_X8_grows rfl rfl rfl zv_X8_grows ⟨Nat.le_of_ble_eq_true rfl, Nat.le_of_ble_eq_true rfl⟩) (hk_preRV 4 rfl (hP.sub (ws' := [(a_this, .inr (4, [.ref a_this_near, .ref a_this_turned, .ref a_this_figures, .ref a_this_text, .int c_this_length, .ref a_this_sectors, .ref a_this_corners, .int c_this_doubles, .ref a_this_likes, .int c_this_likeMany, .int c_this_pieces, .ref a_this_laid, .ref a_this_isMirrored, .ref a_this_places, .ref a_this_placeMany, .ref a_this_now, .ref a_this_firsts, .ref a_this_forms, .ref a_this_isKept, .ref a_this_keptFigures, .ref a_this_keptPieces, .ref a_this_keptLaid, .ref a_this_keptMirrored])), (a_this_near, .inl (cJ, 64, .inr (.inl c_this_near)))]) [0, 2] rfl) hK rfl) rfl rfl hl.1 rfl (lv_room (Nat.le_of_ble_eq_true rfl)) dX8_grown_28 ⟨Nat.zero_le _, Nat.zero_le _⟩) (fun p34 e33 => ?_)
      rw [e33]
      obtain ⟨v37, g35, k26⟩ := hk_lf k26
      refine hk_joinR (nL := 4) (xs := fun (t9 : Int32) => (39, [(0, .ref a_this), (1, .int x1), (3, .int y28)], [.int t9, .int y27])) v37 (fun hjg35 => ?_) ?_
      · refine lv_if_eq (tgt := 38) hx hb dX8_grown_31 (by decide) (fun c36 => ?_) (fun c36 => ?_)
        · replace g35 := hk_ip c36 g35
          refine lv_iconst (v := (0 : Int32)) hx hb dX8_grown_38 (by decide) ?_
          subst g35
          exact hjg35 ls (lv_sub hl [0, 1, 3] rfl)
        replace g35 := hk_in c36 g35
        refine lv_iconst (v := (1 : Int32)) hx hb dX8_grown_34 (by decide) ?_
        refine lv_goto (tgt := 39) hx hb dX8_grown_35 (by decide) ?_
        subst g35
        exact hjg35 ls (lv_sub hl [0, 1, 3] rfl)
      intro ls hl
      have hl : lv_has ls 4 [(0, .ref a_this), (1, .int x1), (3, .int y28)] := hl
      show W _ _ _ _ _ _ _ _ _ _ _ _ _ _ _ (F0 m 39 ls [.int v37, .int y27])
      refine lv_iadd hx hb dX8_grown_39 ?_
      obtain ⟨x38, ex38, k26⟩ := hk_le k26
      refine hk_ti ex38 ?_
      refine lv_istore_n (lv' := [(2, .int x38), (0, .ref a_this), (1, .int x1), (3, .int y28)]) hx hb dX8_grown_40 rfl hl (by decide) rfl (fun ls hl => ?_)
      obtain ⟨x39, ex39, k26⟩ := hk_le k26
      refine lv_iinc (v := x39) (lv' := [(3, .int x39), (2, .int x38), (0, .ref a_this), (1, .int x1)]) hx hb dX8_grown_41 hl (k := 3) rfl (by rw [ex39]; rfl) (by decide) rfl (fun ls hl => ?_)
      refine lv_goto (tgt := 13) hx hb dX8_grown_44 (by decide) ?_
      exact hck26 (x38, x39) (Option.some.inj k26).symm ls (lv_sub hl [2, 3, 1, 0] rfl)
    intro ls hl
    have hl : lv_has ls 4 [(2, .int z41)] := hl
    show W _ _ _ _ _ _ _ _ _ _ _ _ _ _ _ (F0 m 47 ls [])
    refine lv_iload_n hx hb dX8_grown_47 rfl (lv_at hl 0 rfl) ?_
    subst hQ
    exact W.iret hx hb hr (fun t ht hW => ⟨_, rfl, Option.some.inj h, ht⟩) (fun _ h9 => by cases h9) dX8_grown_48
  replace h := hk_ip c25 h
  refine lv_iconst (v := (-1 : Int32)) hx hb dX8_grown_7 (by decide) ?_
  subst hQ
  exact W.iret hx hb hr (fun t ht hW => ⟨_, rfl, Option.some.inj h, ht⟩) (fun _ h9 => by cases h9) dX8_grown_8
theorem zv_X8_forms : yX8_forms.cls = RX8 ∧ yX8_forms.cls ≠ "java/lang/invoke/MethodHandle" ∧ yX8_forms.cls ≠ "java/lang/invoke/VarHandle" ∧ (parseMethodDescriptor yX8_forms.desc).map (fun d => d.parameters.length) = some 1 := by decide +kernel
def st_X8_forms_59c (y27 : Int32) (w30 : Nat → Int64) (r41 : Int64) (y48 : Int32) (y49 : Int32) : Option ((Int32 × Int32) ⊕ Int32) := if y27 ≤ y49 then (some (.inr y48)) else (hk_b1 (if y48 = 0 then (some (0 : Int32)) else (hk_gd (hk_inb y49 64) (hk_gd (hk_inb y27 64) (if ((vp_updL w30 y27.toNatClampNeg r41) y49.toNatClampNeg) = ((vp_updL w30 y27.toNatClampNeg r41) y27.toNatClampNeg) then (some (0 : Int32)) else (some (1 : Int32)))))) fun v56 => hk_let (y49 + (1 : Int32)) fun x57 => some (.inl (v56, x57)))
def st_X8_forms_59 (y27 : Int32) (w30 : Nat → Int64) (r41 : Int64) (t9 : (Int32 × Int32)) : Option ((Int32 × Int32) ⊕ Int32) := st_X8_forms_59c y27 w30 r41 t9.1 t9.2
def st_X8_forms_13c (c_this_figures : Nat → Int64) (c_this_near : Nat → Int64) (c_this_turned : Nat → Int32) (x1 : Int32) (y27 : Int32) (y28 : Int32) (w29 : Int32) (w30 : Nat → Int64) (w31 : Nat → Int64) : Option ((Int32 × Int32 × Int32 × (Nat → Int64) × (Nat → Int64)) ⊕ (Int32 × Int32 × (Nat → Int64) × (Nat → Int64))) := if (64 : Int32) ≤ y28 then (some (.inr (y27, w29, w30, w31))) else (hk_gd (hk_inb x1 8) (hk_b1 (f_X8_grows c_this_near (c_this_figures x1.toNatClampNeg) y28) fun r34 => hk_b4 (if r34 = 0 then (some (y27, w29, w30, w31)) else (hk_gd (hk_inb x1 8) (hk_b3 (f_X8_formOf w29 c_this_turned w31 ((c_this_figures x1.toNatClampNeg) ||| (hk_shl (1 : Int64) y28))) fun r41 u42 u43 => hk_gd (hk_inb y27 64) (hk_b1 (hk_wl (st_X8_forms_59 y27 w30 r41) hkF ((1 : Int32), (0 : Int32))) fun z59 => hk_let (if z59 = 0 then ((0 : Int32)) else ((1 : Int32))) fun v64 => hk_let (y27 + v64) fun x65 => some (x65, u42, (vp_updL w30 y27.toNatClampNeg r41), u43))))) fun v66 v67 v68 v69 => hk_let (y28 + (1 : Int32)) fun x70 => some (.inl (v66, x70, v67, v68, v69))))
def st_X8_forms_13 (c_this_figures : Nat → Int64) (c_this_near : Nat → Int64) (c_this_turned : Nat → Int32) (x1 : Int32) (t9 : (Int32 × Int32 × Int32 × (Nat → Int64) × (Nat → Int64))) : Option ((Int32 × Int32 × Int32 × (Nat → Int64) × (Nat → Int64)) ⊕ (Int32 × Int32 × (Nat → Int64) × (Nat → Int64))) := st_X8_forms_13c c_this_figures c_this_near c_this_turned x1 t9.1 t9.2.1 t9.2.2.1 t9.2.2.2.1 t9.2.2.2.2
def f_X8_forms (c_this_likeMany : Int32) (c_this_figures : Nat → Int64) (c_this_near : Nat → Int64) (c_this_forms : Nat → Int64) (c_this_turned : Nat → Int32) (c_this_likes : Nat → Int64)  (x1 : Int32) : Option (Int32 × Int32 × (Nat → Int64) × (Nat → Int64)) := hk_b1 (f_X8_isFigure x1) fun r21 => if r21 = 0 then (some ((-1 : Int32), c_this_likeMany, c_this_forms, c_this_likes)) else (hk_b4 (hk_wl (st_X8_forms_13 c_this_figures c_this_near c_this_turned x1) hkF ((0 : Int32), (0 : Int32), c_this_likeMany, c_this_forms, c_this_likes)) fun z72 v73 v74 v75 => some (z72, v73, v74, v75))
theorem zi_X8_forms_X8 : ∀ w ∈ u_ws RX8 TX8 23, w ∈ wsX8_forms := by decide +kernel
set_option maxHeartbeats 8000000 in
set_option maxRecDepth 100000 in
theorem c_X8_forms (l : Launch) (D : va_G) (cI cJ cZ cO : ClassId) (a_this a_this_near a_this_turned a_this_figures a_this_text a_this_sectors a_this_corners a_this_likes a_this_laid a_this_isMirrored a_this_places a_this_placeMany a_this_now a_this_firsts a_this_forms a_this_isKept a_this_keptFigures a_this_keptPieces a_this_keptLaid a_this_keptMirrored : Nat) (sz : Nat) (c_this_length : Int32) (c_this_doubles : Int32) (c_this_likeMany : Int32) (c_this_pieces : Int32) (c_this_figures : Nat → Int64) (c_this_near : Nat → Int64) (c_this_forms : Nat → Int64) (c_this_turned : Nat → Int32) (c_this_likes : Nat → Int64) (x1 : Int32) (rv : Int32) (u_this_likeMany : Int32) (u_this_forms : Nat → Int64) (u_this_likes : Nat → Int64) (hf : f_X8_forms c_this_likeMany c_this_figures c_this_near c_this_forms c_this_turned c_this_likes x1 = some (rv, u_this_likeMany, u_this_forms, u_this_likes)) : Met l yX8_forms wsX8_forms ({ frames := 4, cells := 0, slots := 0, locals := 100 }) (va_Pc [.ref a_this, .int x1] (hkM D cI cJ cZ cO [(a_this, .inr (4, [.ref a_this_near, .ref a_this_turned, .ref a_this_figures, .ref a_this_text, .int c_this_length, .ref a_this_sectors, .ref a_this_corners, .int c_this_doubles, .ref a_this_likes, .int c_this_likeMany, .int c_this_pieces, .ref a_this_laid, .ref a_this_isMirrored, .ref a_this_places, .ref a_this_placeMany, .ref a_this_now, .ref a_this_firsts, .ref a_this_forms, .ref a_this_isKept, .ref a_this_keptFigures, .ref a_this_keptPieces, .ref a_this_keptLaid, .ref a_this_keptMirrored])), (a_this_figures, .inl (cJ, 8, .inr (.inl c_this_figures))), (a_this_near, .inl (cJ, 64, .inr (.inl c_this_near))), (a_this_forms, .inl (cJ, 64, .inr (.inl c_this_forms))), (a_this_turned, .inl (cI, 512, .inl c_this_turned)), (a_this_likes, .inl (cJ, 400, .inr (.inl c_this_likes)))] sz)) (va_Qi (fun r (_ : Unit) => r = rv) (fun _ t => va_P D vwCl [(a_this, .inr (4, [.ref a_this_near, .ref a_this_turned, .ref a_this_figures, .ref a_this_text, .int c_this_length, .ref a_this_sectors, .ref a_this_corners, .int c_this_doubles, .ref a_this_likes, .int u_this_likeMany, .int c_this_pieces, .ref a_this_laid, .ref a_this_isMirrored, .ref a_this_places, .ref a_this_placeMany, .ref a_this_now, .ref a_this_firsts, .ref a_this_forms, .ref a_this_isKept, .ref a_this_keptFigures, .ref a_this_keptPieces, .ref a_this_keptLaid, .ref a_this_keptMirrored])), (a_this_figures, .inl (cJ, 8, .inr (.inl c_this_figures))), (a_this_near, .inl (cJ, 64, .inr (.inl c_this_near))), (a_this_forms, .inl (cJ, 64, .inr (.inl u_this_forms))), (a_this_turned, .inl (cI, 512, .inl c_this_turned)), (a_this_likes, .inl (cJ, 400, .inr (.inl u_this_likes)))] t.heap ∧ va_D (va_A [(a_this, .inr (4, [.ref a_this_near, .ref a_this_turned, .ref a_this_figures, .ref a_this_text, .int c_this_length, .ref a_this_sectors, .ref a_this_corners, .int c_this_doubles, .ref a_this_likes, .int c_this_likeMany, .int c_this_pieces, .ref a_this_laid, .ref a_this_isMirrored, .ref a_this_places, .ref a_this_placeMany, .ref a_this_now, .ref a_this_firsts, .ref a_this_forms, .ref a_this_isKept, .ref a_this_keptFigures, .ref a_this_keptPieces, .ref a_this_keptLaid, .ref a_this_keptMirrored])), (a_this_figures, .inl (cJ, 8, .inr (.inl c_this_figures))), (a_this_near, .inl (cJ, 64, .inr (.inl c_this_near))), (a_this_forms, .inl (cJ, 64, .inr (.inl c_this_forms))), (a_this_turned, .inl (cI, 512, .inl c_this_turned)), (a_this_likes, .inl (cJ, 400, .inr (.inl c_this_likes)))] sz) [(a_this, .inr (4, [.ref a_this_near, .ref a_this_turned, .ref a_this_figures, .ref a_this_text, .int c_this_length, .ref a_this_sectors, .ref a_this_corners, .int c_this_doubles, .ref a_this_likes, .int u_this_likeMany, .int c_this_pieces, .ref a_this_laid, .ref a_this_isMirrored, .ref a_this_places, .ref a_this_placeMany, .ref a_this_now, .ref a_this_firsts, .ref a_this_forms, .ref a_this_isKept, .ref a_this_keptFigures, .ref a_this_keptPieces, .ref a_this_keptLaid, .ref a_this_keptMirrored])), (a_this_figures, .inl (cJ, 8, .inr (.inl c_this_figures))), (a_this_near, .inl (cJ, 64, .inr (.inl c_this_near))), (a_this_forms, .inl (cJ, 64, .inr (.inl u_this_forms))), (a_this_turned, .inl (cI, 512, .inl c_this_turned)), (a_this_likes, .inl (cJ, 400, .inr (.inl u_this_likes)))]) (va_A [(a_this, .inr (4, [.ref a_this_near, .ref a_this_turned, .ref a_this_figures, .ref a_this_text, .int c_this_length, .ref a_this_sectors, .ref a_this_corners, .int c_this_doubles, .ref a_this_likes, .int c_this_likeMany, .int c_this_pieces, .ref a_this_laid, .ref a_this_isMirrored, .ref a_this_places, .ref a_this_placeMany, .ref a_this_now, .ref a_this_firsts, .ref a_this_forms, .ref a_this_isKept, .ref a_this_keptFigures, .ref a_this_keptPieces, .ref a_this_keptLaid, .ref a_this_keptMirrored])), (a_this_figures, .inl (cJ, 8, .inr (.inl c_this_figures))), (a_this_near, .inl (cJ, 64, .inr (.inl c_this_near))), (a_this_forms, .inl (cJ, 64, .inr (.inl c_this_forms))), (a_this_turned, .inl (cI, 512, .inl c_this_turned)), (a_this_likes, .inl (cJ, 400, .inr (.inl c_this_likes)))] sz)) 0 0 (va_A [(a_this, .inr (4, [.ref a_this_near, .ref a_this_turned, .ref a_this_figures, .ref a_this_text, .int c_this_length, .ref a_this_sectors, .ref a_this_corners, .int c_this_doubles, .ref a_this_likes, .int c_this_likeMany, .int c_this_pieces, .ref a_this_laid, .ref a_this_isMirrored, .ref a_this_places, .ref a_this_placeMany, .ref a_this_now, .ref a_this_firsts, .ref a_this_forms, .ref a_this_isKept, .ref a_this_keptFigures, .ref a_this_keptPieces, .ref a_this_keptLaid, .ref a_this_keptMirrored])), (a_this_figures, .inl (cJ, 8, .inr (.inl c_this_figures))), (a_this_near, .inl (cJ, 64, .inr (.inl c_this_near))), (a_this_forms, .inl (cJ, 64, .inr (.inl c_this_forms))), (a_this_turned, .inl (cI, 512, .inl c_this_turned)), (a_this_likes, .inl (cJ, 400, .inr (.inl c_this_likes)))] sz) := by
  refine Met.ofW (cc := cX8_forms) (maxL := 6) (ret := (some .int)) (by decide) rfl ?_
  intro p e s m args below meth c s₁ B hml hv
  obtain ⟨rfl, hsz, hP, hK, hD0⟩ := hv
  have hx := B.exec
  have hb := B.bytes
  have hr := B.returns
  have hts := atoms_spec (ws := wsX8_forms) B.pre
  have hown : s.vm.findClass RX8 = some m.cls := findClass_of_methodNamed B.named
  have hlocks := B.notSynchronized
  have hN := hK.2
  subst hsz
  have hD := hD0.self (sz := s.heap.size)
  generalize hAe : va_A [(a_this, .inr (4, [.ref a_this_near, .ref a_this_turned, .ref a_this_figures, .ref a_this_text, .int c_this_length, .ref a_this_sectors, .ref a_this_corners, .int c_this_doubles, .ref a_this_likes, .int c_this_likeMany, .int c_this_pieces, .ref a_this_laid, .ref a_this_isMirrored, .ref a_this_places, .ref a_this_placeMany, .ref a_this_now, .ref a_this_firsts, .ref a_this_forms, .ref a_this_isKept, .ref a_this_keptFigures, .ref a_this_keptPieces, .ref a_this_keptLaid, .ref a_this_keptMirrored])), (a_this_figures, .inl (cJ, 8, .inr (.inl c_this_figures))), (a_this_near, .inl (cJ, 64, .inr (.inl c_this_near))), (a_this_forms, .inl (cJ, 64, .inr (.inl c_this_forms))), (a_this_turned, .inl (cI, 512, .inl c_this_turned)), (a_this_likes, .inl (cJ, 400, .inr (.inl c_this_likes)))] s.heap.size = A at hD ⊢
  have hA : ∀ q : Nat, s.heap.size ≤ q → A q := fun q h => by rw [← hAe]; exact Or.inr h
  have hS : va_S A s.heap s.heap [] := va_S.rf
  have hl := lv_entry ([.ref a_this, .int x1]) (n := 6) (Nat.le_of_ble_eq_true rfl)
  rw [lg_entry_eq]
  generalize (lg_sl ([.ref a_this, .int x1]) ++ List.replicate (6 - (lg_sl ([.ref a_this, .int x1])).length) Slot.unset).toArray = ls at hl ⊢
  have hl : lv_has ls 6 [(0, .ref a_this), (1, .int x1)] := hl
  refine hk_Q (fun Q hQ => ?_)
  have h := hf
  unfold f_X8_forms at h
  refine lv_iload_n hx hb dX8_forms_0 rfl (lv_at hl 1 rfl) ?_
  obtain ⟨r21, hr22, h⟩ := hk_x1 h
  refine vp_callSi (W.runS (As := [.int x1]) (rest := []) ⟨hx, hb, hml, hown, hts⟩ (c_X8_isFigure l x1 _ hr22) (va_cwS 1 hts gX8_forms_X8_isFigure rfl rfl rfl zs_X8_isFigure ⟨Nat.le_of_ble_eq_true rfl, Nat.le_of_ble_eq_true rfl⟩) ⟨fun _ _ _ _ q => q, fun _ _ _ => ⟨rfl, trivial⟩⟩ rfl rfl hl.1 rfl (lv_room (Nat.le_of_ble_eq_true rfl)) dX8_forms_1 ⟨Nat.zero_le _, Nat.zero_le _⟩) (fun p24 e23 => ?_)
  rw [e23]
  refine lv_if_ne (tgt := 9) hx hb dX8_forms_4 (by decide) (fun c25 => ?_) (fun c25 => ?_)
  · replace h := hk_in c25 h
    refine lv_iconst (v := (0 : Int32)) hx hb dX8_forms_9 (by decide) ?_
    refine lv_istore_n (lv' := [(2, .int (0 : Int32)), (0, .ref a_this), (1, .int x1)]) hx hb dX8_forms_10 rfl hl (by decide) rfl (fun ls hl => ?_)
    refine lv_iconst (v := (0 : Int32)) hx hb dX8_forms_11 (by decide) ?_
    refine lv_istore_n (lv' := [(3, .int (0 : Int32)), (2, .int (0 : Int32)), (0, .ref a_this), (1, .int x1)]) hx hb dX8_forms_12 rfl hl (by decide) rfl (fun ls hl => ?_)
    obtain ⟨z72, v73, v74, v75, hr71, h⟩ := hk_x4 h
    refine hk_loopM (f := st_X8_forms_13 c_this_figures c_this_near c_this_turned x1) (hd := 13) (nL := 6) (lv := fun t9 => [(0, .ref a_this), (1, .int x1), (2, .int t9.1), (3, .int t9.2.1)]) (wf := fun t9 => [(a_this, .inr (4, [.ref a_this_near, .ref a_this_turned, .ref a_this_figures, .ref a_this_text, .int c_this_length, .ref a_this_sectors, .ref a_this_corners, .int c_this_doubles, .ref a_this_likes, .int t9.2.2.1, .int c_this_pieces, .ref a_this_laid, .ref a_this_isMirrored, .ref a_this_places, .ref a_this_placeMany, .ref a_this_now, .ref a_this_firsts, .ref a_this_forms, .ref a_this_isKept, .ref a_this_keptFigures, .ref a_this_keptPieces, .ref a_this_keptLaid, .ref a_this_keptMirrored])), (a_this_figures, .inl (cJ, 8, .inr (.inl c_this_figures))), (a_this_near, .inl (cJ, 64, .inr (.inl c_this_near))), (a_this_forms, .inl (cJ, 64, .inr (.inl t9.2.2.2.1))), (a_this_turned, .inl (cI, 512, .inl c_this_turned)), (a_this_likes, .inl (cJ, 400, .inr (.inl t9.2.2.2.2)))]) (xs := fun t9 => (119, [(2, .int t9.1)], [], [(a_this, .inr (4, [.ref a_this_near, .ref a_this_turned, .ref a_this_figures, .ref a_this_text, .int c_this_length, .ref a_this_sectors, .ref a_this_corners, .int c_this_doubles, .ref a_this_likes, .int t9.2.1, .int c_this_pieces, .ref a_this_laid, .ref a_this_isMirrored, .ref a_this_places, .ref a_this_placeMany, .ref a_this_now, .ref a_this_firsts, .ref a_this_forms, .ref a_this_isKept, .ref a_this_keptFigures, .ref a_this_keptPieces, .ref a_this_keptLaid, .ref a_this_keptMirrored])), (a_this_figures, .inl (cJ, 8, .inr (.inl c_this_figures))), (a_this_near, .inl (cJ, 64, .inr (.inl c_this_near))), (a_this_forms, .inl (cJ, 64, .inr (.inl t9.2.2.1))), (a_this_turned, .inl (cI, 512, .inl c_this_turned)), (a_this_likes, .inl (cJ, 400, .inr (.inl t9.2.2.2)))])) ?_ hr71 ?_ hP hD hS (lv_sub hl [2, 3, 1, 0] rfl)
    · intro t76 q77 k26 hck26 hqk26 H locs ls hP hD hS hl
      obtain ⟨y27, y28, w29, w30, w31⟩ := t76
      have k26 : st_X8_forms_13c c_this_figures c_this_near c_this_turned x1 y27 y28 w29 w30 w31 = some q77 := k26
      unfold st_X8_forms_13c at k26
      have hl : lv_has ls 6 [(0, .ref a_this), (1, .int x1), (2, .int y27), (3, .int y28)] := hl
      have hP : va_P D vwCl [(a_this, .inr (4, [.ref a_this_near, .ref a_this_turned, .ref a_this_figures, .ref a_this_text, .int c_this_length, .ref a_this_sectors, .ref a_this_corners, .int c_this_doubles, .ref a_this_likes, .int w29, .int c_this_pieces, .ref a_this_laid, .ref a_this_isMirrored, .ref a_this_places, .ref a_this_placeMany, .ref a_this_now, .ref a_this_firsts, .ref a_this_forms, .ref a_this_isKept, .ref a_this_keptFigures, .ref a_this_keptPieces, .ref a_this_keptLaid, .ref a_this_keptMirrored])), (a_this_figures, .inl (cJ, 8, .inr (.inl c_this_figures))), (a_this_near, .inl (cJ, 64, .inr (.inl c_this_near))), (a_this_forms, .inl (cJ, 64, .inr (.inl w30))), (a_this_turned, .inl (cI, 512, .inl c_this_turned)), (a_this_likes, .inl (cJ, 400, .inr (.inl w31)))] H := hP
      have hD : va_D A [(a_this, .inr (4, [.ref a_this_near, .ref a_this_turned, .ref a_this_figures, .ref a_this_text, .int c_this_length, .ref a_this_sectors, .ref a_this_corners, .int c_this_doubles, .ref a_this_likes, .int w29, .int c_this_pieces, .ref a_this_laid, .ref a_this_isMirrored, .ref a_this_places, .ref a_this_placeMany, .ref a_this_now, .ref a_this_firsts, .ref a_this_forms, .ref a_this_isKept, .ref a_this_keptFigures, .ref a_this_keptPieces, .ref a_this_keptLaid, .ref a_this_keptMirrored])), (a_this_figures, .inl (cJ, 8, .inr (.inl c_this_figures))), (a_this_near, .inl (cJ, 64, .inr (.inl c_this_near))), (a_this_forms, .inl (cJ, 64, .inr (.inl w30))), (a_this_turned, .inl (cI, 512, .inl c_this_turned)), (a_this_likes, .inl (cJ, 400, .inr (.inl w31)))] := hD
      refine lv_iload_n hx hb dX8_forms_13 rfl (lv_at hl 3 rfl) ?_
      refine lv_bipush (v := (64 : Int32)) hx hb dX8_forms_14 (by decide) ?_
      refine lv_icmp_ge (tgt := 119) hx hb dX8_forms_16 (by decide) (fun c32 => ?_) (fun c32 => ?_)
      · replace k26 := hk_ip c32 k26
        exact hqk26 (y27, w29, w30, w31) (Option.some.inj k26).symm H locs ls hP hD hS (lv_sub hl [2] rfl)
      replace k26 := hk_in c32 k26
      refine lv_aload_n hx hb dX8_forms_19 rfl (lv_at hl 0 rfl) ?_
      refine lv_aload_n hx hb dX8_forms_20 rfl (lv_at hl 0 rfl) ?_
      refine va_get (D := D) (ci := 4) (v := .ref a_this_figures) (C := RX8) (T := TX8) (N := 23) hx hb hts zi_X8_forms_X8 hown hK.1 hP 0 rfl rfl 2 (by decide) (hts (.fieldLink RX8 17 "HalfAndHalfAgainModel" "figures" "[J") (List.mem_of_getElem? (i := 1) rfl)) (fun _ h9 => h9) rfl dX8_forms_21 ?_
      refine lv_iload_n hx hb dX8_forms_24 rfl (lv_at hl 1 rfl) ?_
      obtain ⟨hi33, k26⟩ := hk_ge k26
      refine va_lald hx hb hK.1 hP 1 1 rfl rfl (hk_inb_of hi33) dX8_forms_25 ?_
      refine lv_iload_n hx hb dX8_forms_26 rfl (lv_at hl 3 rfl) ?_
      obtain ⟨r34, hr35, k26⟩ := hk_x1 k26
      refine vp_callSi (W.runV (As := [.long (c_this_figures x1.toNatClampNeg), .int y28]) (rest := []) ⟨hx, hb, hml, hown, hts⟩ (c_X8_grows l D cI cJ cZ cO a_this a_this_near a_this_turned a_this_figures a_this_text a_this_sectors a_this_corners a_this_likes a_this_laid a_this_isMirrored a_this_places a_this_placeMany a_this_now a_this_firsts a_this_forms a_this_isKept a_this_keptFigures a_this_keptPieces a_this_keptLaid a_this_keptMirrored c_this_length c_this_doubles w29 c_this_pieces c_this_near (c_this_figures x1.toNatClampNeg) y28 _ hr35) (cwV 2 hts gX8_forms_X8_grows rfl rfl rfl zv_X8_grows ⟨Nat.le_of_ble_eq_true rfl, Nat.le_of_ble_eq_true rfl⟩) (hk_preRV 4 rfl (hP.sub (ws' := [(a_this, .inr (4, [.ref a_this_near, .ref a_this_turned, .ref a_this_figures, .ref a_this_text, .int c_this_length, .ref a_this_sectors, .ref a_this_corners, .int c_this_doubles, .ref a_this_likes, .int w29, .int c_this_pieces, .ref a_this_laid, .ref a_this_isMirrored, .ref a_this_places, .ref a_this_placeMany, .ref a_this_now, .ref a_this_firsts, .ref a_this_forms, .ref a_this_isKept, .ref a_this_keptFigures, .ref a_this_keptPieces, .ref a_this_keptLaid, .ref a_this_keptMirrored])), (a_this_near, .inl (cJ, 64, .inr (.inl c_this_near)))]) [0, 2] rfl) hK rfl) rfl rfl hl.1 rfl (lv_room (Nat.le_of_ble_eq_true rfl)) dX8_forms_27 ⟨Nat.zero_le _, Nat.zero_le _⟩) (fun p37 e36 => ?_)
      rw [e36]
      obtain ⟨v66, v67, v68, v69, g38, k26⟩ := hk_x4 k26
      refine hk_joinM (D := D) (cl := vwCl) (A := A) (H0 := s.heap) (nL := 6) (xs := fun (t9 : (Int32 × Int32 × (Nat → Int64) × (Nat → Int64))) => (113, [(0, .ref a_this), (1, .int x1), (2, .int t9.1), (3, .int y28)], [], [(a_this, .inr (4, [.ref a_this_near, .ref a_this_turned, .ref a_this_figures, .ref a_this_text, .int c_this_length, .ref a_this_sectors, .ref a_this_corners, .int c_this_doubles, .ref a_this_likes, .int t9.2.1, .int c_this_pieces, .ref a_this_laid, .ref a_this_isMirrored, .ref a_this_places, .ref a_this_placeMany, .ref a_this_now, .ref a_this_firsts, .ref a_this_forms, .ref a_this_isKept, .ref a_this_keptFigures, .ref a_this_keptPieces, .ref a_this_keptLaid, .ref a_this_keptMirrored])), (a_this_figures, .inl (cJ, 8, .inr (.inl c_this_figures))), (a_this_near, .inl (cJ, 64, .inr (.inl c_this_near))), (a_this_forms, .inl (cJ, 64, .inr (.inl t9.2.2.1))), (a_this_turned, .inl (cI, 512, .inl c_this_turned)), (a_this_likes, .inl (cJ, 400, .inr (.inl t9.2.2.2)))])) (v66, v67, v68, v69) (fun hjg38 => ?_) ?_
      · refine lv_if_eq (tgt := 113) hx hb dX8_forms_30 (by decide) (fun c39 => ?_) (fun c39 => ?_)
        · replace g38 := hk_ip c39 g38
          have g38 := Option.some.inj g38
          simp only [Prod.mk.injEq] at g38
          obtain ⟨rfl, rfl, rfl, rfl⟩ := g38
          exact hjg38 H locs ls hP hD hS (lv_sub hl [0, 1, 2, 3] rfl)
        replace g38 := hk_in c39 g38
        refine lv_aload_n hx hb dX8_forms_33 rfl (lv_at hl 0 rfl) ?_
        refine va_get (D := D) (ci := 4) (v := .ref a_this_forms) (C := RX8) (T := TX8) (N := 23) hx hb hts zi_X8_forms_X8 hown hK.1 hP 0 rfl rfl 17 (by decide) (hts (.fieldLink RX8 51 "HalfAndHalfAgainModel" "forms" "[J") (List.mem_of_getElem? (i := 2) rfl)) (fun _ h9 => h9) rfl dX8_forms_34 ?_
        refine lv_iload_n hx hb dX8_forms_37 rfl (lv_at hl 2 rfl) ?_
        refine lv_aload_n hx hb dX8_forms_38 rfl (lv_at hl 0 rfl) ?_
        refine lv_aload_n hx hb dX8_forms_39 rfl (lv_at hl 0 rfl) ?_
        refine va_get (D := D) (ci := 4) (v := .ref a_this_figures) (C := RX8) (T := TX8) (N := 23) hx hb hts zi_X8_forms_X8 hown hK.1 hP 0 rfl rfl 2 (by decide) (hts (.fieldLink RX8 17 "HalfAndHalfAgainModel" "figures" "[J") (List.mem_of_getElem? (i := 1) rfl)) (fun _ h9 => h9) rfl dX8_forms_40 ?_
        refine lv_iload_n hx hb dX8_forms_43 rfl (lv_at hl 1 rfl) ?_
        obtain ⟨hi40, g38⟩ := hk_ge g38
        refine va_lald hx hb hK.1 hP 1 1 rfl rfl (hk_inb_of hi40) dX8_forms_44 ?_
        refine lv_lconst (v := (1 : Int64)) hx hb dX8_forms_45 (by decide) ?_
        refine lv_iload_n hx hb dX8_forms_46 rfl (lv_at hl 3 rfl) ?_
        refine lv_lshl (v := (hk_shl (1 : Int64) y28)) hx hb dX8_forms_47 rfl ?_
        refine lv_lor hx hb dX8_forms_48 ?_
        obtain ⟨r41, u42, u43, hr44, g38⟩ := hk_x3 g38
        have hPc := hP.sub (ws' := [(a_this, .inr (4, [.ref a_this_near, .ref a_this_turned, .ref a_this_figures, .ref a_this_text, .int c_this_length, .ref a_this_sectors, .ref a_this_corners, .int c_this_doubles, .ref a_this_likes, .int w29, .int c_this_pieces, .ref a_this_laid, .ref a_this_isMirrored, .ref a_this_places, .ref a_this_placeMany, .ref a_this_now, .ref a_this_firsts, .ref a_this_forms, .ref a_this_isKept, .ref a_this_keptFigures, .ref a_this_keptPieces, .ref a_this_keptLaid, .ref a_this_keptMirrored])), (a_this_turned, .inl (cI, 512, .inl c_this_turned)), (a_this_likes, .inl (cJ, 400, .inr (.inl w31)))]) [0, 4, 5] rfl
        have hDc := hD.sub (ws' := [(a_this, .inr (4, [.ref a_this_near, .ref a_this_turned, .ref a_this_figures, .ref a_this_text, .int c_this_length, .ref a_this_sectors, .ref a_this_corners, .int c_this_doubles, .ref a_this_likes, .int w29, .int c_this_pieces, .ref a_this_laid, .ref a_this_isMirrored, .ref a_this_places, .ref a_this_placeMany, .ref a_this_now, .ref a_this_firsts, .ref a_this_forms, .ref a_this_isKept, .ref a_this_keptFigures, .ref a_this_keptPieces, .ref a_this_keptLaid, .ref a_this_keptMirrored])), (a_this_turned, .inl (cI, 512, .inl c_this_turned)), (a_this_likes, .inl (cJ, 400, .inr (.inl w31)))]) [0, 4, 5] (by decide) rfl
        have hFc := va_free (wc := [(a_this, .inr (4, [.ref a_this_near, .ref a_this_turned, .ref a_this_figures, .ref a_this_text, .int c_this_length, .ref a_this_sectors, .ref a_this_corners, .int c_this_doubles, .ref a_this_likes, .int w29, .int c_this_pieces, .ref a_this_laid, .ref a_this_isMirrored, .ref a_this_places, .ref a_this_placeMany, .ref a_this_now, .ref a_this_firsts, .ref a_this_forms, .ref a_this_isKept, .ref a_this_keptFigures, .ref a_this_keptPieces, .ref a_this_keptLaid, .ref a_this_keptMirrored])), (a_this_turned, .inl (cI, 512, .inl c_this_turned)), (a_this_likes, .inl (cJ, 400, .inr (.inl w31)))]) hD hS hA [0, 4, 5] rfl
        refine va_calll (va_runV (As := [.long ((c_this_figures x1.toNatClampNeg) ||| (hk_shl (1 : Int64) y28))]) (rest := [.int y27, .ref a_this_forms]) ⟨hx, hb, hml, hown, hts⟩ (c_X8_formOf l D cI cJ cZ cO a_this a_this_near a_this_turned a_this_figures a_this_text a_this_sectors a_this_corners a_this_likes a_this_laid a_this_isMirrored a_this_places a_this_placeMany a_this_now a_this_firsts a_this_forms a_this_isKept a_this_keptFigures a_this_keptPieces a_this_keptLaid a_this_keptMirrored H.size c_this_length c_this_doubles w29 c_this_pieces c_this_turned w31 ((c_this_figures x1.toNatClampNeg) ||| (hk_shl (1 : Int64) y28)) _ _ _ hr44) (cwV 1 hts gX8_forms_X8_formOf rfl rfl rfl zv_X8_formOf ⟨Nat.le_of_ble_eq_true rfl, Nat.le_of_ble_eq_true rfl⟩) (hk_preMV 4 rfl hPc hDc hK rfl) rfl rfl hl.1 rfl (lv_room (Nat.le_of_ble_eq_true rfl)) dX8_forms_49 ⟨Nat.zero_le _, Nat.zero_le _⟩) hS (fun q _ h9 => hFc q h9) hFc (fun p45 u9 t9 H1 locs ht hvm hw hB hz1 hk1 hS => ?_)
        obtain ⟨hP1, hD1⟩ := hB
        rw [ht] at hP1
        rw [hw]
        obtain ⟨hP, hD⟩ := va_join (wr := [(a_this_figures, .inl (cJ, 8, .inr (.inl c_this_figures))), (a_this_near, .inl (cJ, 64, .inr (.inl c_this_near))), (a_this_forms, .inl (cJ, 64, .inr (.inl w30)))]) (w1 := [(a_this, .inr (4, [.ref a_this_near, .ref a_this_turned, .ref a_this_figures, .ref a_this_text, .int c_this_length, .ref a_this_sectors, .ref a_this_corners, .int c_this_doubles, .ref a_this_likes, .int u42, .int c_this_pieces, .ref a_this_laid, .ref a_this_isMirrored, .ref a_this_places, .ref a_this_placeMany, .ref a_this_now, .ref a_this_firsts, .ref a_this_forms, .ref a_this_isKept, .ref a_this_keptFigures, .ref a_this_keptPieces, .ref a_this_keptLaid, .ref a_this_keptMirrored])), (a_this_turned, .inl (cI, 512, .inl c_this_turned)), (a_this_likes, .inl (cJ, 400, .inr (.inl u43)))]) hP hD [0, 4, 5] [1, 2, 3] rfl rfl (by decide) (by decide) hk1 hFc hP1 hD1
        generalize H1 = H at hP hS ⊢
        have hP := hP.sub (ws' := [(a_this, .inr (4, [.ref a_this_near, .ref a_this_turned, .ref a_this_figures, .ref a_this_text, .int c_this_length, .ref a_this_sectors, .ref a_this_corners, .int c_this_doubles, .ref a_this_likes, .int u42, .int c_this_pieces, .ref a_this_laid, .ref a_this_isMirrored, .ref a_this_places, .ref a_this_placeMany, .ref a_this_now, .ref a_this_firsts, .ref a_this_forms, .ref a_this_isKept, .ref a_this_keptFigures, .ref a_this_keptPieces, .ref a_this_keptLaid, .ref a_this_keptMirrored])), (a_this_figures, .inl (cJ, 8, .inr (.inl c_this_figures))), (a_this_near, .inl (cJ, 64, .inr (.inl c_this_near))), (a_this_forms, .inl (cJ, 64, .inr (.inl w30))), (a_this_turned, .inl (cI, 512, .inl c_this_turned)), (a_this_likes, .inl (cJ, 400, .inr (.inl u43)))]) [3, 0, 1, 2, 4, 5] rfl
        have hD := hD.sub (ws' := [(a_this, .inr (4, [.ref a_this_near, .ref a_this_turned, .ref a_this_figures, .ref a_this_text, .int c_this_length, .ref a_this_sectors, .ref a_this_corners, .int c_this_doubles, .ref a_this_likes, .int u42, .int c_this_pieces, .ref a_this_laid, .ref a_this_isMirrored, .ref a_this_places, .ref a_this_placeMany, .ref a_this_now, .ref a_this_firsts, .ref a_this_forms, .ref a_this_isKept, .ref a_this_keptFigures, .ref a_this_keptPieces, .ref a_this_keptLaid, .ref a_this_keptMirrored])), (a_this_figures, .inl (cJ, 8, .inr (.inl c_this_figures))), (a_this_near, .inl (cJ, 64, .inr (.inl c_this_near))), (a_this_forms, .inl (cJ, 64, .inr (.inl w30))), (a_this_turned, .inl (cI, 512, .inl c_this_turned)), (a_this_likes, .inl (cJ, 400, .inr (.inl u43)))]) [3, 0, 1, 2, 4, 5] (by decide) rfl
        obtain ⟨hi46, g38⟩ := hk_ge g38
        refine va_last hx hb hK.1 hP hD hS 3 1 rfl rfl (hk_inb_of hi46) dX8_forms_52 (fun H locs hP hD hS => ?_)
        have hP : va_P D vwCl [(a_this, .inr (4, [.ref a_this_near, .ref a_this_turned, .ref a_this_figures, .ref a_this_text, .int c_this_length, .ref a_this_sectors, .ref a_this_corners, .int c_this_doubles, .ref a_this_likes, .int u42, .int c_this_pieces, .ref a_this_laid, .ref a_this_isMirrored, .ref a_this_places, .ref a_this_placeMany, .ref a_this_now, .ref a_this_firsts, .ref a_this_forms, .ref a_this_isKept, .ref a_this_keptFigures, .ref a_this_keptPieces, .ref a_this_keptLaid, .ref a_this_keptMirrored])), (a_this_figures, .inl (cJ, 8, .inr (.inl c_this_figures))), (a_this_near, .inl (cJ, 64, .inr (.inl c_this_near))), (a_this_forms, .inl (cJ, 64, .inr (.inl (vp_updL w30 y27.toNatClampNeg r41)))), (a_this_turned, .inl (cI, 512, .inl c_this_turned)), (a_this_likes, .inl (cJ, 400, .inr (.inl u43)))] H := hP
        have hD : va_D A [(a_this, .inr (4, [.ref a_this_near, .ref a_this_turned, .ref a_this_figures, .ref a_this_text, .int c_this_length, .ref a_this_sectors, .ref a_this_corners, .int c_this_doubles, .ref a_this_likes, .int u42, .int c_this_pieces, .ref a_this_laid, .ref a_this_isMirrored, .ref a_this_places, .ref a_this_placeMany, .ref a_this_now, .ref a_this_firsts, .ref a_this_forms, .ref a_this_isKept, .ref a_this_keptFigures, .ref a_this_keptPieces, .ref a_this_keptLaid, .ref a_this_keptMirrored])), (a_this_figures, .inl (cJ, 8, .inr (.inl c_this_figures))), (a_this_near, .inl (cJ, 64, .inr (.inl c_this_near))), (a_this_forms, .inl (cJ, 64, .inr (.inl (vp_updL w30 y27.toNatClampNeg r41)))), (a_this_turned, .inl (cI, 512, .inl c_this_turned)), (a_this_likes, .inl (cJ, 400, .inr (.inl u43)))] := hD
        refine lv_iconst (v := (1 : Int32)) hx hb dX8_forms_53 (by decide) ?_
        refine lv_istore (lv' := [(4, .int (1 : Int32)), (0, .ref a_this), (1, .int x1), (2, .int y27), (3, .int y28)]) hx hb dX8_forms_54 hl (by decide) rfl (fun ls hl => ?_)
        refine lv_iconst (v := (0 : Int32)) hx hb dX8_forms_56 (by decide) ?_
        refine lv_istore (lv' := [(5, .int (0 : Int32)), (4, .int (1 : Int32)), (0, .ref a_this), (1, .int x1), (2, .int y27), (3, .int y28)]) hx hb dX8_forms_57 hl (by decide) rfl (fun ls hl => ?_)
        obtain ⟨z59, hr58, g38⟩ := hk_x1 g38
        refine hk_loopR (f := st_X8_forms_59 y27 w30 r41) (hd := 59) (nL := 6) (lv := fun t9 => [(0, .ref a_this), (1, .int x1), (2, .int y27), (3, .int y28), (4, .int t9.1), (5, .int t9.2)]) (xs := fun t9 => (100, [(0, .ref a_this), (1, .int x1), (2, .int y27), (3, .int y28), (4, .int t9)], [])) ?_ hr58 ?_ (lv_sub hl [2, 3, 4, 5, 1, 0] rfl)
        · intro t60 q61 k47 hck47 hqk47 ls hl
          obtain ⟨y48, y49⟩ := t60
          have k47 : st_X8_forms_59c y27 w30 r41 y48 y49 = some q61 := k47
          unfold st_X8_forms_59c at k47
          have hl : lv_has ls 6 [(0, .ref a_this), (1, .int x1), (2, .int y27), (3, .int y28), (4, .int y48), (5, .int y49)] := hl
          refine lv_iload hx hb dX8_forms_59 (lv_at hl 5 rfl) ?_
          refine lv_iload_n hx hb dX8_forms_61 rfl (lv_at hl 2 rfl) ?_
          refine lv_icmp_ge (tgt := 100) hx hb dX8_forms_62 (by decide) (fun c50 => ?_) (fun c50 => ?_)
          · replace k47 := hk_ip c50 k47
            exact hqk47 y48 (Option.some.inj k47).symm ls (lv_sub hl [0, 1, 2, 3, 4] rfl)
          replace k47 := hk_in c50 k47
          refine lv_iload hx hb dX8_forms_65 (lv_at hl 4 rfl) ?_
          obtain ⟨v56, g51, k47⟩ := hk_x1 k47
          refine hk_joinR (nL := 6) (xs := fun (t9 : Int32) => (92, [(0, .ref a_this), (1, .int x1), (2, .int y27), (3, .int y28), (5, .int y49)], [.int t9])) v56 (fun hjg51 => ?_) ?_
          · refine lv_if_eq (tgt := 91) hx hb dX8_forms_67 (by decide) (fun c52 => ?_) (fun c52 => ?_)
            · replace g51 := hk_ip c52 g51
              refine lv_iconst (v := (0 : Int32)) hx hb dX8_forms_91 (by decide) ?_
              have g51 := Option.some.inj g51
              subst g51
              exact hjg51 ls (lv_sub hl [0, 1, 2, 3, 5] rfl)
            replace g51 := hk_in c52 g51
            refine lv_aload_n hx hb dX8_forms_70 rfl (lv_at hl 0 rfl) ?_
            refine va_get (D := D) (ci := 4) (v := .ref a_this_forms) (C := RX8) (T := TX8) (N := 23) hx hb hts zi_X8_forms_X8 hown hK.1 hP 0 rfl rfl 17 (by decide) (hts (.fieldLink RX8 51 "HalfAndHalfAgainModel" "forms" "[J") (List.mem_of_getElem? (i := 2) rfl)) (fun _ h9 => h9) rfl dX8_forms_71 ?_
            refine lv_iload hx hb dX8_forms_74 (lv_at hl 5 rfl) ?_
            obtain ⟨hi53, g51⟩ := hk_ge g51
            refine va_lald hx hb hK.1 hP 3 1 rfl rfl (hk_inb_of hi53) dX8_forms_76 ?_
            refine lv_aload_n hx hb dX8_forms_77 rfl (lv_at hl 0 rfl) ?_
            refine va_get (D := D) (ci := 4) (v := .ref a_this_forms) (C := RX8) (T := TX8) (N := 23) hx hb hts zi_X8_forms_X8 hown hK.1 hP 0 rfl rfl 17 (by decide) (hts (.fieldLink RX8 51 "HalfAndHalfAgainModel" "forms" "[J") (List.mem_of_getElem? (i := 2) rfl)) (fun _ h9 => h9) rfl dX8_forms_78 ?_
            refine lv_iload_n hx hb dX8_forms_81 rfl (lv_at hl 2 rfl) ?_
            obtain ⟨hi54, g51⟩ := hk_ge g51
            refine va_lald hx hb hK.1 hP 3 1 rfl rfl (hk_inb_of hi54) dX8_forms_82 ?_
            refine hk_lcmp_eq (tgt := 91) hx hb dX8_forms_83 dX8_forms_84 (by decide) (fun c55 => ?_) (fun c55 => ?_)
            · replace g51 := hk_ip c55 g51
              refine lv_iconst (v := (0 : Int32)) hx hb dX8_forms_91 (by decide) ?_
              have g51 := Option.some.inj g51
              subst g51
              exact hjg51 ls (lv_sub hl [0, 1, 2, 3, 5] rfl)
            replace g51 := hk_in c55 g51
            refine lv_iconst (v := (1 : Int32)) hx hb dX8_forms_87 (by decide) ?_
            refine lv_goto (tgt := 92) hx hb dX8_forms_88 (by decide) ?_
            have g51 := Option.some.inj g51
            subst g51
            exact hjg51 ls (lv_sub hl [0, 1, 2, 3, 5] rfl)
          intro ls hl
          have hl : lv_has ls 6 [(0, .ref a_this), (1, .int x1), (2, .int y27), (3, .int y28), (5, .int y49)] := hl
          show W _ _ _ _ _ _ _ _ _ _ _ _ _ _ _ (F0 m 92 ls [.int v56])
          refine lv_istore (lv' := [(4, .int v56), (0, .ref a_this), (1, .int x1), (2, .int y27), (3, .int y28), (5, .int y49)]) hx hb dX8_forms_92 hl (by decide) rfl (fun ls hl => ?_)
          obtain ⟨x57, ex57, k47⟩ := hk_le k47
          refine lv_iinc (v := x57) (lv' := [(5, .int x57), (4, .int v56), (0, .ref a_this), (1, .int x1), (2, .int y27), (3, .int y28)]) hx hb dX8_forms_94 hl (k := 5) rfl (by rw [ex57]; rfl) (by decide) rfl (fun ls hl => ?_)
          refine lv_goto (tgt := 59) hx hb dX8_forms_97 (by decide) ?_
          exact hck47 (v56, x57) (Option.some.inj k47).symm ls (lv_sub hl [2, 3, 4, 5, 1, 0] rfl)
        intro ls hl
        have hl : lv_has ls 6 [(0, .ref a_this), (1, .int x1), (2, .int y27), (3, .int y28), (4, .int z59)] := hl
        show W _ _ _ _ _ _ _ _ _ _ _ _ _ _ _ (F0 m 100 ls [])
        refine lv_iload_n hx hb dX8_forms_100 rfl (lv_at hl 2 rfl) ?_
        refine lv_iload hx hb dX8_forms_101 (lv_at hl 4 rfl) ?_
        obtain ⟨v64, g62, g38⟩ := hk_lf g38
        refine hk_joinR (nL := 6) (xs := fun (t9 : Int32) => (111, [(0, .ref a_this), (1, .int x1), (3, .int y28)], [.int t9, .int y27])) v64 (fun hjg62 => ?_) ?_
        · refine lv_if_eq (tgt := 110) hx hb dX8_forms_103 (by decide) (fun c63 => ?_) (fun c63 => ?_)
          · replace g62 := hk_ip c63 g62
            refine lv_iconst (v := (0 : Int32)) hx hb dX8_forms_110 (by decide) ?_
            subst g62
            exact hjg62 ls (lv_sub hl [0, 1, 3] rfl)
          replace g62 := hk_in c63 g62
          refine lv_iconst (v := (1 : Int32)) hx hb dX8_forms_106 (by decide) ?_
          refine lv_goto (tgt := 111) hx hb dX8_forms_107 (by decide) ?_
          subst g62
          exact hjg62 ls (lv_sub hl [0, 1, 3] rfl)
        intro ls hl
        have hl : lv_has ls 6 [(0, .ref a_this), (1, .int x1), (3, .int y28)] := hl
        show W _ _ _ _ _ _ _ _ _ _ _ _ _ _ _ (F0 m 111 ls [.int v64, .int y27])
        refine lv_iadd hx hb dX8_forms_111 ?_
        obtain ⟨x65, ex65, g38⟩ := hk_le g38
        refine hk_ti ex65 ?_
        refine lv_istore_n (lv' := [(2, .int x65), (0, .ref a_this), (1, .int x1), (3, .int y28)]) hx hb dX8_forms_112 rfl hl (by decide) rfl (fun ls hl => ?_)
        have g38 := Option.some.inj g38
        simp only [Prod.mk.injEq] at g38
        obtain ⟨rfl, rfl, rfl, rfl⟩ := g38
        exact hjg38 H locs ls hP hD hS (lv_sub hl [1, 2, 0, 3] rfl)
      intro H locs ls hP hD hS hl
      have hl : lv_has ls 6 [(0, .ref a_this), (1, .int x1), (2, .int v66), (3, .int y28)] := hl
      have hP : va_P D vwCl [(a_this, .inr (4, [.ref a_this_near, .ref a_this_turned, .ref a_this_figures, .ref a_this_text, .int c_this_length, .ref a_this_sectors, .ref a_this_corners, .int c_this_doubles, .ref a_this_likes, .int v67, .int c_this_pieces, .ref a_this_laid, .ref a_this_isMirrored, .ref a_this_places, .ref a_this_placeMany, .ref a_this_now, .ref a_this_firsts, .ref a_this_forms, .ref a_this_isKept, .ref a_this_keptFigures, .ref a_this_keptPieces, .ref a_this_keptLaid, .ref a_this_keptMirrored])), (a_this_figures, .inl (cJ, 8, .inr (.inl c_this_figures))), (a_this_near, .inl (cJ, 64, .inr (.inl c_this_near))), (a_this_forms, .inl (cJ, 64, .inr (.inl v68))), (a_this_turned, .inl (cI, 512, .inl c_this_turned)), (a_this_likes, .inl (cJ, 400, .inr (.inl v69)))] H := hP
      have hD : va_D A [(a_this, .inr (4, [.ref a_this_near, .ref a_this_turned, .ref a_this_figures, .ref a_this_text, .int c_this_length, .ref a_this_sectors, .ref a_this_corners, .int c_this_doubles, .ref a_this_likes, .int v67, .int c_this_pieces, .ref a_this_laid, .ref a_this_isMirrored, .ref a_this_places, .ref a_this_placeMany, .ref a_this_now, .ref a_this_firsts, .ref a_this_forms, .ref a_this_isKept, .ref a_this_keptFigures, .ref a_this_keptPieces, .ref a_this_keptLaid, .ref a_this_keptMirrored])), (a_this_figures, .inl (cJ, 8, .inr (.inl c_this_figures))), (a_this_near, .inl (cJ, 64, .inr (.inl c_this_near))), (a_this_forms, .inl (cJ, 64, .inr (.inl v68))), (a_this_turned, .inl (cI, 512, .inl c_this_turned)), (a_this_likes, .inl (cJ, 400, .inr (.inl v69)))] := hD
      show W _ _ _ _ _ _ _ _ _ _ _ _ _ _ _ (F0 m 113 ls [])
      obtain ⟨x70, ex70, k26⟩ := hk_le k26
      refine lv_iinc (v := x70) (lv' := [(3, .int x70), (0, .ref a_this), (1, .int x1), (2, .int v66)]) hx hb dX8_forms_113 hl (k := 3) rfl (by rw [ex70]; rfl) (by decide) rfl (fun ls hl => ?_)
      refine lv_goto (tgt := 13) hx hb dX8_forms_116 (by decide) ?_
      exact hck26 (v66, x70, v67, v68, v69) (Option.some.inj k26).symm H locs ls hP hD hS (lv_sub hl [1, 2, 3, 0] rfl)
    intro H locs ls hP hD hS hl
    have hl : lv_has ls 6 [(2, .int z72)] := hl
    have hP : va_P D vwCl [(a_this, .inr (4, [.ref a_this_near, .ref a_this_turned, .ref a_this_figures, .ref a_this_text, .int c_this_length, .ref a_this_sectors, .ref a_this_corners, .int c_this_doubles, .ref a_this_likes, .int v73, .int c_this_pieces, .ref a_this_laid, .ref a_this_isMirrored, .ref a_this_places, .ref a_this_placeMany, .ref a_this_now, .ref a_this_firsts, .ref a_this_forms, .ref a_this_isKept, .ref a_this_keptFigures, .ref a_this_keptPieces, .ref a_this_keptLaid, .ref a_this_keptMirrored])), (a_this_figures, .inl (cJ, 8, .inr (.inl c_this_figures))), (a_this_near, .inl (cJ, 64, .inr (.inl c_this_near))), (a_this_forms, .inl (cJ, 64, .inr (.inl v74))), (a_this_turned, .inl (cI, 512, .inl c_this_turned)), (a_this_likes, .inl (cJ, 400, .inr (.inl v75)))] H := hP
    have hD : va_D A [(a_this, .inr (4, [.ref a_this_near, .ref a_this_turned, .ref a_this_figures, .ref a_this_text, .int c_this_length, .ref a_this_sectors, .ref a_this_corners, .int c_this_doubles, .ref a_this_likes, .int v73, .int c_this_pieces, .ref a_this_laid, .ref a_this_isMirrored, .ref a_this_places, .ref a_this_placeMany, .ref a_this_now, .ref a_this_firsts, .ref a_this_forms, .ref a_this_isKept, .ref a_this_keptFigures, .ref a_this_keptPieces, .ref a_this_keptLaid, .ref a_this_keptMirrored])), (a_this_figures, .inl (cJ, 8, .inr (.inl c_this_figures))), (a_this_near, .inl (cJ, 64, .inr (.inl c_this_near))), (a_this_forms, .inl (cJ, 64, .inr (.inl v74))), (a_this_turned, .inl (cI, 512, .inl c_this_turned)), (a_this_likes, .inl (cJ, 400, .inr (.inl v75)))] := hD
    show W _ _ _ _ _ _ _ _ _ _ _ _ _ _ _ (F0 m 119 ls [])
    refine lv_iload_n hx hb dX8_forms_119 rfl (lv_at hl 0 rfl) ?_
    subst hQ
    have h := Option.some.inj h
    simp only [Prod.mk.injEq] at h
    obtain ⟨rfl, rfl, rfl, rfl⟩ := h
    exact W.iret hx hb hr (fun t ht hW => ⟨⟨_, (), rfl, rfl, by rw [ht]; exact hP, hD⟩, hS.F ht⟩) hS.2.2 dX8_forms_120
  replace h := hk_ip c25 h
  refine lv_iconst (v := (-1 : Int32)) hx hb dX8_forms_7 (by decide) ?_
  subst hQ
  have h := Option.some.inj h
  simp only [Prod.mk.injEq] at h
  obtain ⟨rfl, rfl, rfl, rfl⟩ := h
  exact W.iret hx hb hr (fun t ht hW => ⟨⟨_, (), rfl, rfl, by rw [ht]; exact hP, hD⟩, hS.F ht⟩) hS.2.2 dX8_forms_8
theorem zv_X8_grow : yX8_grow.cls = RX8 ∧ yX8_grow.cls ≠ "java/lang/invoke/MethodHandle" ∧ yX8_grow.cls ≠ "java/lang/invoke/VarHandle" ∧ (parseMethodDescriptor yX8_grow.desc).map (fun d => d.parameters.length) = some 2 := by decide +kernel
def st_X8_grow_14c (c_this_figures : Nat → Int64) (c_this_near : Nat → Int64) (x1 : Int32) (x2 : Int32) (y27 : Int32) (y28 : Int32) : Option ((Int32 × Int32) ⊕ (Int32 ⊕ Unit)) := if (64 : Int32) ≤ y28 then (some (.inr (.inr ()))) else (hk_gd (hk_inb x1 8) (hk_b1 (f_X8_grows c_this_near (c_this_figures x1.toNatClampNeg) y28) fun r31 => if r31 = 0 then (hk_let (y28 + (1 : Int32)) fun x36 => some (.inl (y27, x36))) else (if y27 = x2 then (some (.inr (.inl y28))) else (hk_let (y27 + (1 : Int32)) fun x38 => hk_let (y28 + (1 : Int32)) fun x39 => some (.inl (x38, x39))))))
def st_X8_grow_14 (c_this_figures : Nat → Int64) (c_this_near : Nat → Int64) (x1 : Int32) (x2 : Int32) (t9 : (Int32 × Int32)) : Option ((Int32 × Int32) ⊕ (Int32 ⊕ Unit)) := st_X8_grow_14c c_this_figures c_this_near x1 x2 t9.1 t9.2
def f_X8_grow (c_this_figures : Nat → Int64) (c_this_near : Nat → Int64)  (x1 : Int32) (x2 : Int32) : Option (Int32 × (Nat → Int64)) := hk_b1 (f_X8_isFigure x1) fun r21 => if r21 = 0 then (some ((-1 : Int32), c_this_figures)) else (hk_b1 (hk_wl (st_X8_grow_14 c_this_figures c_this_near x1 x2) hkF ((0 : Int32), (0 : Int32))) fun r41 => hk_sum r41 (fun z44 => hk_gd (hk_inb x1 8) (hk_gd (hk_inb x1 8) (some (z44, (vp_updL c_this_figures x1.toNatClampNeg ((c_this_figures x1.toNatClampNeg) ||| (hk_shl (1 : Int64) z44))))))) (fun z47 => some ((-9 : Int32), c_this_figures)))
theorem zi_X8_grow_X8 : ∀ w ∈ u_ws RX8 TX8 23, w ∈ wsX8_grow := by decide +kernel
set_option maxHeartbeats 8000000 in
set_option maxRecDepth 100000 in
theorem c_X8_grow (l : Launch) (D : va_G) (cI cJ cZ cO : ClassId) (a_this a_this_near a_this_turned a_this_figures a_this_text a_this_sectors a_this_corners a_this_likes a_this_laid a_this_isMirrored a_this_places a_this_placeMany a_this_now a_this_firsts a_this_forms a_this_isKept a_this_keptFigures a_this_keptPieces a_this_keptLaid a_this_keptMirrored : Nat) (sz : Nat) (c_this_length : Int32) (c_this_doubles : Int32) (c_this_likeMany : Int32) (c_this_pieces : Int32) (c_this_figures : Nat → Int64) (c_this_near : Nat → Int64) (x1 : Int32) (x2 : Int32) (rv : Int32) (u_this_figures : Nat → Int64) (hf : f_X8_grow c_this_figures c_this_near x1 x2 = some (rv, u_this_figures)) : Met l yX8_grow wsX8_grow ({ frames := 2, cells := 0, slots := 0, locals := 45 }) (va_Pc [.ref a_this, .int x1, .int x2] (hkM D cI cJ cZ cO [(a_this, .inr (4, [.ref a_this_near, .ref a_this_turned, .ref a_this_figures, .ref a_this_text, .int c_this_length, .ref a_this_sectors, .ref a_this_corners, .int c_this_doubles, .ref a_this_likes, .int c_this_likeMany, .int c_this_pieces, .ref a_this_laid, .ref a_this_isMirrored, .ref a_this_places, .ref a_this_placeMany, .ref a_this_now, .ref a_this_firsts, .ref a_this_forms, .ref a_this_isKept, .ref a_this_keptFigures, .ref a_this_keptPieces, .ref a_this_keptLaid, .ref a_this_keptMirrored])), (a_this_figures, .inl (cJ, 8, .inr (.inl c_this_figures))), (a_this_near, .inl (cJ, 64, .inr (.inl c_this_near)))] sz)) (va_Qi (fun r (_ : Unit) => r = rv) (fun _ t => va_P D vwCl [(a_this, .inr (4, [.ref a_this_near, .ref a_this_turned, .ref a_this_figures, .ref a_this_text, .int c_this_length, .ref a_this_sectors, .ref a_this_corners, .int c_this_doubles, .ref a_this_likes, .int c_this_likeMany, .int c_this_pieces, .ref a_this_laid, .ref a_this_isMirrored, .ref a_this_places, .ref a_this_placeMany, .ref a_this_now, .ref a_this_firsts, .ref a_this_forms, .ref a_this_isKept, .ref a_this_keptFigures, .ref a_this_keptPieces, .ref a_this_keptLaid, .ref a_this_keptMirrored])), (a_this_figures, .inl (cJ, 8, .inr (.inl u_this_figures))), (a_this_near, .inl (cJ, 64, .inr (.inl c_this_near)))] t.heap ∧ va_D (va_A [(a_this, .inr (4, [.ref a_this_near, .ref a_this_turned, .ref a_this_figures, .ref a_this_text, .int c_this_length, .ref a_this_sectors, .ref a_this_corners, .int c_this_doubles, .ref a_this_likes, .int c_this_likeMany, .int c_this_pieces, .ref a_this_laid, .ref a_this_isMirrored, .ref a_this_places, .ref a_this_placeMany, .ref a_this_now, .ref a_this_firsts, .ref a_this_forms, .ref a_this_isKept, .ref a_this_keptFigures, .ref a_this_keptPieces, .ref a_this_keptLaid, .ref a_this_keptMirrored])), (a_this_figures, .inl (cJ, 8, .inr (.inl c_this_figures))), (a_this_near, .inl (cJ, 64, .inr (.inl c_this_near)))] sz) [(a_this, .inr (4, [.ref a_this_near, .ref a_this_turned, .ref a_this_figures, .ref a_this_text, .int c_this_length, .ref a_this_sectors, .ref a_this_corners, .int c_this_doubles, .ref a_this_likes, .int c_this_likeMany, .int c_this_pieces, .ref a_this_laid, .ref a_this_isMirrored, .ref a_this_places, .ref a_this_placeMany, .ref a_this_now, .ref a_this_firsts, .ref a_this_forms, .ref a_this_isKept, .ref a_this_keptFigures, .ref a_this_keptPieces, .ref a_this_keptLaid, .ref a_this_keptMirrored])), (a_this_figures, .inl (cJ, 8, .inr (.inl u_this_figures))), (a_this_near, .inl (cJ, 64, .inr (.inl c_this_near)))]) (va_A [(a_this, .inr (4, [.ref a_this_near, .ref a_this_turned, .ref a_this_figures, .ref a_this_text, .int c_this_length, .ref a_this_sectors, .ref a_this_corners, .int c_this_doubles, .ref a_this_likes, .int c_this_likeMany, .int c_this_pieces, .ref a_this_laid, .ref a_this_isMirrored, .ref a_this_places, .ref a_this_placeMany, .ref a_this_now, .ref a_this_firsts, .ref a_this_forms, .ref a_this_isKept, .ref a_this_keptFigures, .ref a_this_keptPieces, .ref a_this_keptLaid, .ref a_this_keptMirrored])), (a_this_figures, .inl (cJ, 8, .inr (.inl c_this_figures))), (a_this_near, .inl (cJ, 64, .inr (.inl c_this_near)))] sz)) 0 0 (va_A [(a_this, .inr (4, [.ref a_this_near, .ref a_this_turned, .ref a_this_figures, .ref a_this_text, .int c_this_length, .ref a_this_sectors, .ref a_this_corners, .int c_this_doubles, .ref a_this_likes, .int c_this_likeMany, .int c_this_pieces, .ref a_this_laid, .ref a_this_isMirrored, .ref a_this_places, .ref a_this_placeMany, .ref a_this_now, .ref a_this_firsts, .ref a_this_forms, .ref a_this_isKept, .ref a_this_keptFigures, .ref a_this_keptPieces, .ref a_this_keptLaid, .ref a_this_keptMirrored])), (a_this_figures, .inl (cJ, 8, .inr (.inl c_this_figures))), (a_this_near, .inl (cJ, 64, .inr (.inl c_this_near)))] sz) := by
  refine Met.ofW (cc := cX8_grow) (maxL := 5) (ret := (some .int)) (by decide) rfl ?_
  intro p e s m args below meth c s₁ B hml hv
  obtain ⟨rfl, hsz, hP, hK, hD0⟩ := hv
  have hx := B.exec
  have hb := B.bytes
  have hr := B.returns
  have hts := atoms_spec (ws := wsX8_grow) B.pre
  have hown : s.vm.findClass RX8 = some m.cls := findClass_of_methodNamed B.named
  have hlocks := B.notSynchronized
  have hN := hK.2
  subst hsz
  have hD := hD0.self (sz := s.heap.size)
  generalize hAe : va_A [(a_this, .inr (4, [.ref a_this_near, .ref a_this_turned, .ref a_this_figures, .ref a_this_text, .int c_this_length, .ref a_this_sectors, .ref a_this_corners, .int c_this_doubles, .ref a_this_likes, .int c_this_likeMany, .int c_this_pieces, .ref a_this_laid, .ref a_this_isMirrored, .ref a_this_places, .ref a_this_placeMany, .ref a_this_now, .ref a_this_firsts, .ref a_this_forms, .ref a_this_isKept, .ref a_this_keptFigures, .ref a_this_keptPieces, .ref a_this_keptLaid, .ref a_this_keptMirrored])), (a_this_figures, .inl (cJ, 8, .inr (.inl c_this_figures))), (a_this_near, .inl (cJ, 64, .inr (.inl c_this_near)))] s.heap.size = A at hD ⊢
  have hA : ∀ q : Nat, s.heap.size ≤ q → A q := fun q h => by rw [← hAe]; exact Or.inr h
  have hS : va_S A s.heap s.heap [] := va_S.rf
  have hl := lv_entry ([.ref a_this, .int x1, .int x2]) (n := 5) (Nat.le_of_ble_eq_true rfl)
  rw [lg_entry_eq]
  generalize (lg_sl ([.ref a_this, .int x1, .int x2]) ++ List.replicate (5 - (lg_sl ([.ref a_this, .int x1, .int x2])).length) Slot.unset).toArray = ls at hl ⊢
  have hl : lv_has ls 5 [(0, .ref a_this), (1, .int x1), (2, .int x2)] := hl
  refine hk_Q (fun Q hQ => ?_)
  have h := hf
  unfold f_X8_grow at h
  refine lv_iload_n hx hb dX8_grow_0 rfl (lv_at hl 1 rfl) ?_
  obtain ⟨r21, hr22, h⟩ := hk_x1 h
  refine vp_callSi (W.runS (As := [.int x1]) (rest := []) ⟨hx, hb, hml, hown, hts⟩ (c_X8_isFigure l x1 _ hr22) (va_cwS 1 hts gX8_grow_X8_isFigure rfl rfl rfl zs_X8_isFigure ⟨Nat.le_of_ble_eq_true rfl, Nat.le_of_ble_eq_true rfl⟩) ⟨fun _ _ _ _ q => q, fun _ _ _ => ⟨rfl, trivial⟩⟩ rfl rfl hl.1 rfl (lv_room (Nat.le_of_ble_eq_true rfl)) dX8_grow_1 ⟨Nat.zero_le _, Nat.zero_le _⟩) (fun p24 e23 => ?_)
  rw [e23]
  refine lv_if_ne (tgt := 9) hx hb dX8_grow_4 (by decide) (fun c25 => ?_) (fun c25 => ?_)
  · replace h := hk_in c25 h
    refine lv_iconst (v := (0 : Int32)) hx hb dX8_grow_9 (by decide) ?_
    refine lv_istore_n (lv' := [(3, .int (0 : Int32)), (0, .ref a_this), (1, .int x1), (2, .int x2)]) hx hb dX8_grow_10 rfl hl (by decide) rfl (fun ls hl => ?_)
    refine lv_iconst (v := (0 : Int32)) hx hb dX8_grow_11 (by decide) ?_
    refine lv_istore (lv' := [(4, .int (0 : Int32)), (3, .int (0 : Int32)), (0, .ref a_this), (1, .int x1), (2, .int x2)]) hx hb dX8_grow_12 hl (by decide) rfl (fun ls hl => ?_)
    obtain ⟨r41, hr40, h⟩ := hk_x1 h
    refine hk_loopR (f := st_X8_grow_14 c_this_figures c_this_near x1 x2) (hd := 14) (nL := 5) (lv := fun t9 => [(0, .ref a_this), (1, .int x1), (2, .int x2), (3, .int t9.1), (4, .int t9.2)]) (xs := fun r9 => match r9 with | .inl t9 => (41, [(0, .ref a_this), (1, .int x1), (4, .int t9)], []) | .inr t9 => (66, [], [])) ?_ hr40 ?_ (lv_sub hl [2, 3, 4, 1, 0] rfl)
    · intro t42 q43 k26 hck26 hqk26 ls hl
      obtain ⟨y27, y28⟩ := t42
      have k26 : st_X8_grow_14c c_this_figures c_this_near x1 x2 y27 y28 = some q43 := k26
      unfold st_X8_grow_14c at k26
      have hl : lv_has ls 5 [(0, .ref a_this), (1, .int x1), (2, .int x2), (3, .int y27), (4, .int y28)] := hl
      refine lv_iload hx hb dX8_grow_14 (lv_at hl 4 rfl) ?_
      refine lv_bipush (v := (64 : Int32)) hx hb dX8_grow_16 (by decide) ?_
      refine lv_icmp_ge (tgt := 66) hx hb dX8_grow_18 (by decide) (fun c29 => ?_) (fun c29 => ?_)
      · replace k26 := hk_ip c29 k26
        exact hqk26 (.inr ()) (Option.some.inj k26).symm ls (lv_sub hl [] rfl)
      replace k26 := hk_in c29 k26
      refine lv_aload_n hx hb dX8_grow_21 rfl (lv_at hl 0 rfl) ?_
      refine lv_aload_n hx hb dX8_grow_22 rfl (lv_at hl 0 rfl) ?_
      refine va_get (D := D) (ci := 4) (v := .ref a_this_figures) (C := RX8) (T := TX8) (N := 23) hx hb hts zi_X8_grow_X8 hown hK.1 hP 0 rfl rfl 2 (by decide) (hts (.fieldLink RX8 17 "HalfAndHalfAgainModel" "figures" "[J") (List.mem_of_getElem? (i := 1) rfl)) (fun _ h9 => h9) rfl dX8_grow_23 ?_
      refine lv_iload_n hx hb dX8_grow_26 rfl (lv_at hl 1 rfl) ?_
      obtain ⟨hi30, k26⟩ := hk_ge k26
      refine va_lald hx hb hK.1 hP 1 1 rfl rfl (hk_inb_of hi30) dX8_grow_27 ?_
      refine lv_iload hx hb dX8_grow_28 (lv_at hl 4 rfl) ?_
      obtain ⟨r31, hr32, k26⟩ := hk_x1 k26
      refine vp_callSi (W.runV (As := [.long (c_this_figures x1.toNatClampNeg), .int y28]) (rest := []) ⟨hx, hb, hml, hown, hts⟩ (c_X8_grows l D cI cJ cZ cO a_this a_this_near a_this_turned a_this_figures a_this_text a_this_sectors a_this_corners a_this_likes a_this_laid a_this_isMirrored a_this_places a_this_placeMany a_this_now a_this_firsts a_this_forms a_this_isKept a_this_keptFigures a_this_keptPieces a_this_keptLaid a_this_keptMirrored c_this_length c_this_doubles c_this_likeMany c_this_pieces c_this_near (c_this_figures x1.toNatClampNeg) y28 _ hr32) (cwV 2 hts gX8_grow_X8_grows rfl rfl rfl zv_X8_grows ⟨Nat.le_of_ble_eq_true rfl, Nat.le_of_ble_eq_true rfl⟩) (hk_preRV 4 rfl (hP.sub (ws' := [(a_this, .inr (4, [.ref a_this_near, .ref a_this_turned, .ref a_this_figures, .ref a_this_text, .int c_this_length, .ref a_this_sectors, .ref a_this_corners, .int c_this_doubles, .ref a_this_likes, .int c_this_likeMany, .int c_this_pieces, .ref a_this_laid, .ref a_this_isMirrored, .ref a_this_places, .ref a_this_placeMany, .ref a_this_now, .ref a_this_firsts, .ref a_this_forms, .ref a_this_isKept, .ref a_this_keptFigures, .ref a_this_keptPieces, .ref a_this_keptLaid, .ref a_this_keptMirrored])), (a_this_near, .inl (cJ, 64, .inr (.inl c_this_near)))]) [0, 2] rfl) hK rfl) rfl rfl hl.1 rfl (lv_room (Nat.le_of_ble_eq_true rfl)) dX8_grow_30 ⟨Nat.zero_le _, Nat.zero_le _⟩) (fun p34 e33 => ?_)
      rw [e33]
      refine lv_if_eq (tgt := 60) hx hb dX8_grow_33 (by decide) (fun c35 => ?_) (fun c35 => ?_)
      · replace k26 := hk_ip c35 k26
        obtain ⟨x36, ex36, k26⟩ := hk_le k26
        refine lv_iinc (v := x36) (lv' := [(4, .int x36), (0, .ref a_this), (1, .int x1), (2, .int x2), (3, .int y27)]) hx hb dX8_grow_60 hl (k := 4) rfl (by rw [ex36]; rfl) (by decide) rfl (fun ls hl => ?_)
        refine lv_goto (tgt := 14) hx hb dX8_grow_63 (by decide) ?_
        exact hck26 (y27, x36) (Option.some.inj k26).symm ls (lv_sub hl [1, 2, 3, 4, 0] rfl)
      replace k26 := hk_in c35 k26
      refine lv_iload_n hx hb dX8_grow_36 rfl (lv_at hl 3 rfl) ?_
      refine lv_iload_n hx hb dX8_grow_37 rfl (lv_at hl 2 rfl) ?_
      refine lv_icmp_ne (tgt := 57) hx hb dX8_grow_38 (by decide) (fun c37 => ?_) (fun c37 => ?_)
      · replace k26 := hk_in c37 k26
        obtain ⟨x38, ex38, k26⟩ := hk_le k26
        refine lv_iinc (v := x38) (lv' := [(3, .int x38), (0, .ref a_this), (1, .int x1), (2, .int x2), (4, .int y28)]) hx hb dX8_grow_57 hl (k := 3) rfl (by rw [ex38]; rfl) (by decide) rfl (fun ls hl => ?_)
        obtain ⟨x39, ex39, k26⟩ := hk_le k26
        refine lv_iinc (v := x39) (lv' := [(4, .int x39), (3, .int x38), (0, .ref a_this), (1, .int x1), (2, .int x2)]) hx hb dX8_grow_60 hl (k := 4) rfl (by rw [ex39]; rfl) (by decide) rfl (fun ls hl => ?_)
        refine lv_goto (tgt := 14) hx hb dX8_grow_63 (by decide) ?_
        exact hck26 (x38, x39) (Option.some.inj k26).symm ls (lv_sub hl [2, 3, 4, 1, 0] rfl)
      replace k26 := hk_ip c37 k26
      exact hqk26 (.inl y28) (Option.some.inj k26).symm ls (lv_sub hl [0, 1, 4] rfl)
    intro ls hl
    rcases r41 with r41 | r41
    · replace h := hk_sa h
      generalize r41 = z44 at h hl ⊢
      have hl : lv_has ls 5 [(0, .ref a_this), (1, .int x1), (4, .int z44)] := hl
      show W _ _ _ _ _ _ _ _ _ _ _ _ _ _ _ (F0 m 41 ls [])
      refine lv_aload_n hx hb dX8_grow_41 rfl (lv_at hl 0 rfl) ?_
      refine va_get (D := D) (ci := 4) (v := .ref a_this_figures) (C := RX8) (T := TX8) (N := 23) hx hb hts zi_X8_grow_X8 hown hK.1 hP 0 rfl rfl 2 (by decide) (hts (.fieldLink RX8 17 "HalfAndHalfAgainModel" "figures" "[J") (List.mem_of_getElem? (i := 1) rfl)) (fun _ h9 => h9) rfl dX8_grow_42 ?_
      refine lv_iload_n hx hb dX8_grow_45 rfl (lv_at hl 1 rfl) ?_
      refine lv_dup2_11 hx hb dX8_grow_46 rfl rfl ?_
      obtain ⟨hi45, h⟩ := hk_ge h
      refine va_lald hx hb hK.1 hP 1 1 rfl rfl (hk_inb_of hi45) dX8_grow_47 ?_
      refine lv_lconst (v := (1 : Int64)) hx hb dX8_grow_48 (by decide) ?_
      refine lv_iload hx hb dX8_grow_49 (lv_at hl 2 rfl) ?_
      refine lv_lshl (v := (hk_shl (1 : Int64) z44)) hx hb dX8_grow_51 rfl ?_
      refine lv_lor hx hb dX8_grow_52 ?_
      obtain ⟨hi46, h⟩ := hk_ge h
      refine va_last hx hb hK.1 hP hD hS 1 1 rfl rfl (hk_inb_of hi46) dX8_grow_53 (fun H locs hP hD hS => ?_)
      have hP : va_P D vwCl [(a_this, .inr (4, [.ref a_this_near, .ref a_this_turned, .ref a_this_figures, .ref a_this_text, .int c_this_length, .ref a_this_sectors, .ref a_this_corners, .int c_this_doubles, .ref a_this_likes, .int c_this_likeMany, .int c_this_pieces, .ref a_this_laid, .ref a_this_isMirrored, .ref a_this_places, .ref a_this_placeMany, .ref a_this_now, .ref a_this_firsts, .ref a_this_forms, .ref a_this_isKept, .ref a_this_keptFigures, .ref a_this_keptPieces, .ref a_this_keptLaid, .ref a_this_keptMirrored])), (a_this_figures, .inl (cJ, 8, .inr (.inl (vp_updL c_this_figures x1.toNatClampNeg ((c_this_figures x1.toNatClampNeg) ||| (hk_shl (1 : Int64) z44)))))), (a_this_near, .inl (cJ, 64, .inr (.inl c_this_near)))] H := hP
      have hD : va_D A [(a_this, .inr (4, [.ref a_this_near, .ref a_this_turned, .ref a_this_figures, .ref a_this_text, .int c_this_length, .ref a_this_sectors, .ref a_this_corners, .int c_this_doubles, .ref a_this_likes, .int c_this_likeMany, .int c_this_pieces, .ref a_this_laid, .ref a_this_isMirrored, .ref a_this_places, .ref a_this_placeMany, .ref a_this_now, .ref a_this_firsts, .ref a_this_forms, .ref a_this_isKept, .ref a_this_keptFigures, .ref a_this_keptPieces, .ref a_this_keptLaid, .ref a_this_keptMirrored])), (a_this_figures, .inl (cJ, 8, .inr (.inl (vp_updL c_this_figures x1.toNatClampNeg ((c_this_figures x1.toNatClampNeg) ||| (hk_shl (1 : Int64) z44)))))), (a_this_near, .inl (cJ, 64, .inr (.inl c_this_near)))] := hD
      refine lv_iload hx hb dX8_grow_54 (lv_at hl 2 rfl) ?_
      subst hQ
      have h := Option.some.inj h
      simp only [Prod.mk.injEq] at h
      obtain ⟨rfl, rfl⟩ := h
      exact W.iret hx hb hr (fun t ht hW => ⟨⟨_, (), rfl, rfl, by rw [ht]; exact hP, hD⟩, hS.F ht⟩) hS.2.2 dX8_grow_56
    · replace h := hk_sb h
      generalize r41 = z47 at h hl ⊢
      have hl : lv_has ls 5 [] := hl
      show W _ _ _ _ _ _ _ _ _ _ _ _ _ _ _ (F0 m 66 ls [])
      refine lv_bipush (v := (-9 : Int32)) hx hb dX8_grow_66 (by decide) ?_
      subst hQ
      have h := Option.some.inj h
      simp only [Prod.mk.injEq] at h
      obtain ⟨rfl, rfl⟩ := h
      exact W.iret hx hb hr (fun t ht hW => ⟨⟨_, (), rfl, rfl, by rw [ht]; exact hP, hD⟩, hS.F ht⟩) hS.2.2 dX8_grow_68
  replace h := hk_ip c25 h
  refine lv_iconst (v := (-1 : Int32)) hx hb dX8_grow_7 (by decide) ?_
  subst hQ
  have h := Option.some.inj h
  simp only [Prod.mk.injEq] at h
  obtain ⟨rfl, rfl⟩ := h
  exact W.iret hx hb hr (fun t ht hW => ⟨⟨_, (), rfl, rfl, by rw [ht]; exact hP, hD⟩, hS.F ht⟩) hS.2.2 dX8_grow_8
theorem zv_X8_some : yX8_some.cls = RX8 ∧ yX8_some.cls ≠ "java/lang/invoke/MethodHandle" ∧ yX8_some.cls ≠ "java/lang/invoke/VarHandle" ∧ (parseMethodDescriptor yX8_some.desc).map (fun d => d.parameters.length) = some 0 := by decide +kernel
def st_X8_some_4c (c_this_figures : Nat → Int64) (y22 : Int32) (y23 : Int32) : Option ((Int32 × Int32) ⊕ Int32) := if (8 : Int32) ≤ y23 then (some (.inr y22)) else (hk_gd (hk_inb y23 8) (hk_let (if (c_this_figures y23.toNatClampNeg) = (0 : Int64) then ((0 : Int32)) else ((1 : Int32))) fun v28 => hk_let (y22 + v28) fun x29 => hk_let (y23 + (1 : Int32)) fun x30 => some (.inl (x29, x30))))
def st_X8_some_4 (c_this_figures : Nat → Int64) (t9 : (Int32 × Int32)) : Option ((Int32 × Int32) ⊕ Int32) := st_X8_some_4c c_this_figures t9.1 t9.2
def f_X8_some (c_this_figures : Nat → Int64)   : Option Int32 := hk_b1 (hk_wl (st_X8_some_4 c_this_figures) hkF ((0 : Int32), (0 : Int32))) fun z32 => some z32
theorem zi_X8_some_X8 : ∀ w ∈ u_ws RX8 TX8 23, w ∈ wsX8_some := by decide +kernel
set_option maxHeartbeats 8000000 in
set_option maxRecDepth 100000 in
theorem c_X8_some (l : Launch) (D : va_G) (cI cJ cZ cO : ClassId) (a_this a_this_near a_this_turned a_this_figures a_this_text a_this_sectors a_this_corners a_this_likes a_this_laid a_this_isMirrored a_this_places a_this_placeMany a_this_now a_this_firsts a_this_forms a_this_isKept a_this_keptFigures a_this_keptPieces a_this_keptLaid a_this_keptMirrored : Nat) (c_this_length : Int32) (c_this_doubles : Int32) (c_this_likeMany : Int32) (c_this_pieces : Int32) (c_this_figures : Nat → Int64) (rv : Int32) (hf : f_X8_some c_this_figures = some rv) : Met l yX8_some wsX8_some ({ frames := 0, cells := 0, slots := 0, locals := 0 }) (va_Pc [.ref a_this] (hkR D cI cJ cZ cO [(a_this, .inr (4, [.ref a_this_near, .ref a_this_turned, .ref a_this_figures, .ref a_this_text, .int c_this_length, .ref a_this_sectors, .ref a_this_corners, .int c_this_doubles, .ref a_this_likes, .int c_this_likeMany, .int c_this_pieces, .ref a_this_laid, .ref a_this_isMirrored, .ref a_this_places, .ref a_this_placeMany, .ref a_this_now, .ref a_this_firsts, .ref a_this_forms, .ref a_this_isKept, .ref a_this_keptFigures, .ref a_this_keptPieces, .ref a_this_keptLaid, .ref a_this_keptMirrored])), (a_this_figures, .inl (cJ, 8, .inr (.inl c_this_figures)))])) (vp_Si (fun r => r = rv)) 0 0 (fun _ => False) := by
  refine Met.ofW (cc := cX8_some) (maxL := 3) (ret := (some .int)) (by decide) rfl ?_
  intro p e s m args below meth c s₁ B hml hv
  obtain ⟨rfl, hP, hK⟩ := hv
  have hx := B.exec
  have hb := B.bytes
  have hr := B.returns
  have hts := atoms_spec (ws := wsX8_some) B.pre
  have hown : s.vm.findClass RX8 = some m.cls := findClass_of_methodNamed B.named
  have hlocks := B.notSynchronized
  have hN := hK.2
  have hl := lv_entry ([.ref a_this]) (n := 3) (Nat.le_of_ble_eq_true rfl)
  rw [lg_entry_eq]
  generalize (lg_sl ([.ref a_this]) ++ List.replicate (3 - (lg_sl ([.ref a_this])).length) Slot.unset).toArray = ls at hl ⊢
  have hl : lv_has ls 3 [(0, .ref a_this)] := hl
  refine hk_Q (fun Q hQ => ?_)
  have h := hf
  unfold f_X8_some at h
  refine lv_iconst (v := (0 : Int32)) hx hb dX8_some_0 (by decide) ?_
  refine lv_istore_n (lv' := [(1, .int (0 : Int32)), (0, .ref a_this)]) hx hb dX8_some_1 rfl hl (by decide) rfl (fun ls hl => ?_)
  refine lv_iconst (v := (0 : Int32)) hx hb dX8_some_2 (by decide) ?_
  refine lv_istore_n (lv' := [(2, .int (0 : Int32)), (1, .int (0 : Int32)), (0, .ref a_this)]) hx hb dX8_some_3 rfl hl (by decide) rfl (fun ls hl => ?_)
  obtain ⟨z32, hr31, h⟩ := hk_x1 h
  refine hk_loopR (f := st_X8_some_4 c_this_figures) (hd := 4) (nL := 3) (lv := fun t9 => [(0, .ref a_this), (1, .int t9.1), (2, .int t9.2)]) (xs := fun t9 => (35, [(1, .int t9)], [])) ?_ hr31 ?_ (lv_sub hl [2, 1, 0] rfl)
  · intro t33 q34 k21 hck21 hqk21 ls hl
    obtain ⟨y22, y23⟩ := t33
    have k21 : st_X8_some_4c c_this_figures y22 y23 = some q34 := k21
    unfold st_X8_some_4c at k21
    have hl : lv_has ls 3 [(0, .ref a_this), (1, .int y22), (2, .int y23)] := hl
    refine lv_iload_n hx hb dX8_some_4 rfl (lv_at hl 2 rfl) ?_
    refine lv_bipush (v := (8 : Int32)) hx hb dX8_some_5 (by decide) ?_
    refine lv_icmp_ge (tgt := 35) hx hb dX8_some_7 (by decide) (fun c24 => ?_) (fun c24 => ?_)
    · replace k21 := hk_ip c24 k21
      exact hqk21 y22 (Option.some.inj k21).symm ls (lv_sub hl [1] rfl)
    replace k21 := hk_in c24 k21
    refine lv_iload_n hx hb dX8_some_10 rfl (lv_at hl 1 rfl) ?_
    refine lv_aload_n hx hb dX8_some_11 rfl (lv_at hl 0 rfl) ?_
    refine va_get (D := D) (ci := 4) (v := .ref a_this_figures) (C := RX8) (T := TX8) (N := 23) hx hb hts zi_X8_some_X8 hown hK.1 hP 0 rfl rfl 2 (by decide) (hts (.fieldLink RX8 17 "HalfAndHalfAgainModel" "figures" "[J") (List.mem_of_getElem? (i := 1) rfl)) (fun _ h9 => h9) rfl dX8_some_12 ?_
    refine lv_iload_n hx hb dX8_some_15 rfl (lv_at hl 2 rfl) ?_
    obtain ⟨hi25, k21⟩ := hk_ge k21
    refine va_lald hx hb hK.1 hP 1 1 rfl rfl (hk_inb_of hi25) dX8_some_16 ?_
    refine lv_lconst (v := (0 : Int64)) hx hb dX8_some_17 (by decide) ?_
    obtain ⟨v28, g26, k21⟩ := hk_lf k21
    refine hk_joinR (nL := 3) (xs := fun (t9 : Int32) => (27, [(0, .ref a_this), (2, .int y23)], [.int t9, .int y22])) v28 (fun hjg26 => ?_) ?_
    · refine hk_lcmp_ne (tgt := 26) hx hb dX8_some_18 dX8_some_19 (by decide) (fun c27 => ?_) (fun c27 => ?_)
      · replace g26 := hk_in c27 g26
        refine lv_iconst (v := (1 : Int32)) hx hb dX8_some_26 (by decide) ?_
        subst g26
        exact hjg26 ls (lv_sub hl [0, 2] rfl)
      replace g26 := hk_ip c27 g26
      refine lv_iconst (v := (0 : Int32)) hx hb dX8_some_22 (by decide) ?_
      refine lv_goto (tgt := 27) hx hb dX8_some_23 (by decide) ?_
      subst g26
      exact hjg26 ls (lv_sub hl [0, 2] rfl)
    intro ls hl
    have hl : lv_has ls 3 [(0, .ref a_this), (2, .int y23)] := hl
    show W _ _ _ _ _ _ _ _ _ _ _ _ _ _ _ (F0 m 27 ls [.int v28, .int y22])
    refine lv_iadd hx hb dX8_some_27 ?_
    obtain ⟨x29, ex29, k21⟩ := hk_le k21
    refine hk_ti ex29 ?_
    refine lv_istore_n (lv' := [(1, .int x29), (0, .ref a_this), (2, .int y23)]) hx hb dX8_some_28 rfl hl (by decide) rfl (fun ls hl => ?_)
    obtain ⟨x30, ex30, k21⟩ := hk_le k21
    refine lv_iinc (v := x30) (lv' := [(2, .int x30), (1, .int x29), (0, .ref a_this)]) hx hb dX8_some_29 hl (k := 2) rfl (by rw [ex30]; rfl) (by decide) rfl (fun ls hl => ?_)
    refine lv_goto (tgt := 4) hx hb dX8_some_32 (by decide) ?_
    exact hck21 (x29, x30) (Option.some.inj k21).symm ls (lv_sub hl [2, 1, 0] rfl)
  intro ls hl
  have hl : lv_has ls 3 [(1, .int z32)] := hl
  show W _ _ _ _ _ _ _ _ _ _ _ _ _ _ _ (F0 m 35 ls [])
  refine lv_iload_n hx hb dX8_some_35 rfl (lv_at hl 0 rfl) ?_
  subst hQ
  exact W.iret hx hb hr (fun t ht hW => ⟨_, rfl, Option.some.inj h, ht⟩) (fun _ h9 => by cases h9) dX8_some_36
