/-! walks printed by wip/whole/gen.py -/
theorem zv_X7_idle : yX7_idle.cls = RX7 ∧ yX7_idle.cls ≠ "java/lang/invoke/MethodHandle" ∧ yX7_idle.cls ≠ "java/lang/invoke/VarHandle" ∧ (parseMethodDescriptor yX7_idle.desc).map (fun d => d.parameters.length) = some 1 := by decide +kernel
def st_X7_idle_13c (c_this_now_laid : Int32) (c_this_now_figures : Nat → Int64) (c_this_now_mayMirror : Nat → Int32) (c_this_now_pieces : Nat → Int64) (x1 : Int32) (y27 : Int32) (y28 : Int32) (w29 : Nat → Int32) (w30 : Nat → Int64) (w31 : Nat → Int64) : Option ((Int32 × Int32 × (Nat → Int32) × (Nat → Int64) × (Nat → Int64)) ⊕ (Int32 × (Nat → Int32) × (Nat → Int64) × (Nat → Int64))) := if c_this_now_laid ≤ y28 then (some (.inr (y27, w29, w30, w31))) else (hk_gd (hk_inb x1 8) (hk_b4 (f_X1_findSpots w29 c_this_now_mayMirror c_this_now_pieces w30 w31 y28 (c_this_now_figures x1.toNatClampNeg)) fun r34 u35 u36 u37 => hk_let (if r34 = 0 then (hk_let (y27 ||| (hk_ishl (1 : Int32) y28)) fun x42 => x42) else (y27)) fun v43 => hk_let (y28 + (1 : Int32)) fun x44 => some (.inl (v43, x44, u35, u36, u37))))
def st_X7_idle_13 (c_this_now_laid : Int32) (c_this_now_figures : Nat → Int64) (c_this_now_mayMirror : Nat → Int32) (c_this_now_pieces : Nat → Int64) (x1 : Int32) (t9 : (Int32 × Int32 × (Nat → Int32) × (Nat → Int64) × (Nat → Int64))) : Option ((Int32 × Int32 × (Nat → Int32) × (Nat → Int64) × (Nat → Int64)) ⊕ (Int32 × (Nat → Int32) × (Nat → Int64) × (Nat → Int64))) := st_X7_idle_13c c_this_now_laid c_this_now_figures c_this_now_mayMirror c_this_now_pieces x1 t9.1 t9.2.1 t9.2.2.1 t9.2.2.2.1 t9.2.2.2.2
def f_X7_idle (c_this_now_laid : Int32) (c_this_now_figures : Nat → Int64) (c_this_cover_found : Nat → Int32) (c_this_now_mayMirror : Nat → Int32) (c_this_now_pieces : Nat → Int64) (c_this_cover_turnedSeen : Nat → Int64) (c_this_cover_spots : Nat → Int64)  (x1 : Int32) : Option (Int32 × (Nat → Int32) × (Nat → Int64) × (Nat → Int64)) := hk_b1 (f_X7_noFigure x1) fun r21 => if r21 = 0 then (hk_b4 (hk_wl (st_X7_idle_13 c_this_now_laid c_this_now_figures c_this_now_mayMirror c_this_now_pieces x1) hkF ((0 : Int32), (0 : Int32), c_this_cover_found, c_this_cover_turnedSeen, c_this_cover_spots)) fun z46 v47 v48 v49 => some (z46, v47, v48, v49)) else (some ((-1 : Int32), c_this_cover_found, c_this_cover_turnedSeen, c_this_cover_spots))
theorem zi_X7_idle_X7 : ∀ w ∈ u_ws RX7 TX7 5, w ∈ wsX7_idle := by decide +kernel
theorem zi_X7_idle_X5 : ∀ w ∈ u_ws RX5 TX5 4, w ∈ wsX7_idle := by decide +kernel
set_option maxHeartbeats 8000000 in
set_option maxRecDepth 100000 in
theorem c_X7_idle (l : Launch) (D : va_G) (cI cJ cZ cO : ClassId) (a_this a_this_text a_this_now a_this_slots a_this_cover a_this_formsSeen a_this_now_figures a_this_now_pieces a_this_now_mayMirror a_this_cover_spots a_this_cover_found a_this_cover_turnedSeen a_this_cover_chosen a_this_cover_best : Nat) (sz : Nat) (c_this_now_laid : Int32) (c_this_cover_pieces : Int32) (c_this_cover_ways : Int32) (c_this_now_figures : Nat → Int64) (c_this_cover_found : Nat → Int32) (c_this_now_mayMirror : Nat → Int32) (c_this_now_pieces : Nat → Int64) (c_this_cover_turnedSeen : Nat → Int64) (c_this_cover_spots : Nat → Int64) (x1 : Int32) (rv : Int32) (u_this_cover_found : Nat → Int32) (u_this_cover_turnedSeen : Nat → Int64) (u_this_cover_spots : Nat → Int64) (hf : f_X7_idle c_this_now_laid c_this_now_figures c_this_cover_found c_this_now_mayMirror c_this_now_pieces c_this_cover_turnedSeen c_this_cover_spots x1 = some (rv, u_this_cover_found, u_this_cover_turnedSeen, u_this_cover_spots)) : Met l yX7_idle wsX7_idle ({ frames := 5, cells := 0, slots := 0, locals := 123 }) (va_Pc [.ref a_this, .int x1] (hkM D cI cJ cZ cO [(a_this, .inr (3, [.ref a_this_text, .ref a_this_now, .ref a_this_slots, .ref a_this_cover, .ref a_this_formsSeen])), (a_this_now, .inr (1, [.ref a_this_now_figures, .ref a_this_now_pieces, .ref a_this_now_mayMirror, .int c_this_now_laid])), (a_this_cover, .inr (0, [.ref a_this_cover_spots, .ref a_this_cover_found, .ref a_this_cover_turnedSeen, .ref a_this_cover_chosen, .ref a_this_cover_best, .int c_this_cover_pieces, .int c_this_cover_ways])), (a_this_now_figures, .inl (cJ, 8, .inr (.inl c_this_now_figures))), (a_this_cover_found, .inl (cI, 4, .inl c_this_cover_found)), (a_this_now_mayMirror, .inl (cZ, 4, .inl c_this_now_mayMirror)), (a_this_now_pieces, .inl (cJ, 4, .inr (.inl c_this_now_pieces))), (a_this_cover_turnedSeen, .inl (cJ, 8, .inr (.inl c_this_cover_turnedSeen))), (a_this_cover_spots, .inl (cJ, 384, .inr (.inl c_this_cover_spots)))] sz)) (va_Qi (fun r (_ : Unit) => r = rv) (fun _ t => va_P D vwCl [(a_this, .inr (3, [.ref a_this_text, .ref a_this_now, .ref a_this_slots, .ref a_this_cover, .ref a_this_formsSeen])), (a_this_now, .inr (1, [.ref a_this_now_figures, .ref a_this_now_pieces, .ref a_this_now_mayMirror, .int c_this_now_laid])), (a_this_cover, .inr (0, [.ref a_this_cover_spots, .ref a_this_cover_found, .ref a_this_cover_turnedSeen, .ref a_this_cover_chosen, .ref a_this_cover_best, .int c_this_cover_pieces, .int c_this_cover_ways])), (a_this_now_figures, .inl (cJ, 8, .inr (.inl c_this_now_figures))), (a_this_cover_found, .inl (cI, 4, .inl u_this_cover_found)), (a_this_now_mayMirror, .inl (cZ, 4, .inl c_this_now_mayMirror)), (a_this_now_pieces, .inl (cJ, 4, .inr (.inl c_this_now_pieces))), (a_this_cover_turnedSeen, .inl (cJ, 8, .inr (.inl u_this_cover_turnedSeen))), (a_this_cover_spots, .inl (cJ, 384, .inr (.inl u_this_cover_spots)))] t.heap ∧ va_D (va_A [(a_this, .inr (3, [.ref a_this_text, .ref a_this_now, .ref a_this_slots, .ref a_this_cover, .ref a_this_formsSeen])), (a_this_now, .inr (1, [.ref a_this_now_figures, .ref a_this_now_pieces, .ref a_this_now_mayMirror, .int c_this_now_laid])), (a_this_cover, .inr (0, [.ref a_this_cover_spots, .ref a_this_cover_found, .ref a_this_cover_turnedSeen, .ref a_this_cover_chosen, .ref a_this_cover_best, .int c_this_cover_pieces, .int c_this_cover_ways])), (a_this_now_figures, .inl (cJ, 8, .inr (.inl c_this_now_figures))), (a_this_cover_found, .inl (cI, 4, .inl c_this_cover_found)), (a_this_now_mayMirror, .inl (cZ, 4, .inl c_this_now_mayMirror)), (a_this_now_pieces, .inl (cJ, 4, .inr (.inl c_this_now_pieces))), (a_this_cover_turnedSeen, .inl (cJ, 8, .inr (.inl c_this_cover_turnedSeen))), (a_this_cover_spots, .inl (cJ, 384, .inr (.inl c_this_cover_spots)))] sz) [(a_this, .inr (3, [.ref a_this_text, .ref a_this_now, .ref a_this_slots, .ref a_this_cover, .ref a_this_formsSeen])), (a_this_now, .inr (1, [.ref a_this_now_figures, .ref a_this_now_pieces, .ref a_this_now_mayMirror, .int c_this_now_laid])), (a_this_cover, .inr (0, [.ref a_this_cover_spots, .ref a_this_cover_found, .ref a_this_cover_turnedSeen, .ref a_this_cover_chosen, .ref a_this_cover_best, .int c_this_cover_pieces, .int c_this_cover_ways])), (a_this_now_figures, .inl (cJ, 8, .inr (.inl c_this_now_figures))), (a_this_cover_found, .inl (cI, 4, .inl u_this_cover_found)), (a_this_now_mayMirror, .inl (cZ, 4, .inl c_this_now_mayMirror)), (a_this_now_pieces, .inl (cJ, 4, .inr (.inl c_this_now_pieces))), (a_this_cover_turnedSeen, .inl (cJ, 8, .inr (.inl u_this_cover_turnedSeen))), (a_this_cover_spots, .inl (cJ, 384, .inr (.inl u_this_cover_spots)))]) (va_A [(a_this, .inr (3, [.ref a_this_text, .ref a_this_now, .ref a_this_slots, .ref a_this_cover, .ref a_this_formsSeen])), (a_this_now, .inr (1, [.ref a_this_now_figures, .ref a_this_now_pieces, .ref a_this_now_mayMirror, .int c_this_now_laid])), (a_this_cover, .inr (0, [.ref a_this_cover_spots, .ref a_this_cover_found, .ref a_this_cover_turnedSeen, .ref a_this_cover_chosen, .ref a_this_cover_best, .int c_this_cover_pieces, .int c_this_cover_ways])), (a_this_now_figures, .inl (cJ, 8, .inr (.inl c_this_now_figures))), (a_this_cover_found, .inl (cI, 4, .inl c_this_cover_found)), (a_this_now_mayMirror, .inl (cZ, 4, .inl c_this_now_mayMirror)), (a_this_now_pieces, .inl (cJ, 4, .inr (.inl c_this_now_pieces))), (a_this_cover_turnedSeen, .inl (cJ, 8, .inr (.inl c_this_cover_turnedSeen))), (a_this_cover_spots, .inl (cJ, 384, .inr (.inl c_this_cover_spots)))] sz)) 0 0 (va_A [(a_this, .inr (3, [.ref a_this_text, .ref a_this_now, .ref a_this_slots, .ref a_this_cover, .ref a_this_formsSeen])), (a_this_now, .inr (1, [.ref a_this_now_figures, .ref a_this_now_pieces, .ref a_this_now_mayMirror, .int c_this_now_laid])), (a_this_cover, .inr (0, [.ref a_this_cover_spots, .ref a_this_cover_found, .ref a_this_cover_turnedSeen, .ref a_this_cover_chosen, .ref a_this_cover_best, .int c_this_cover_pieces, .int c_this_cover_ways])), (a_this_now_figures, .inl (cJ, 8, .inr (.inl c_this_now_figures))), (a_this_cover_found, .inl (cI, 4, .inl c_this_cover_found)), (a_this_now_mayMirror, .inl (cZ, 4, .inl c_this_now_mayMirror)), (a_this_now_pieces, .inl (cJ, 4, .inr (.inl c_this_now_pieces))), (a_this_cover_turnedSeen, .inl (cJ, 8, .inr (.inl c_this_cover_turnedSeen))), (a_this_cover_spots, .inl (cJ, 384, .inr (.inl c_this_cover_spots)))] sz) := by
  refine Met.ofW (cc := cX7_idle) (maxL := 4) (ret := (some .int)) (by decide) rfl ?_
  intro p e s m args below meth c s₁ B hml hv
  obtain ⟨rfl, hsz, hP, hK, hD0⟩ := hv
  have hx := B.exec
  have hb := B.bytes
  have hr := B.returns
  have hts := atoms_spec (ws := wsX7_idle) B.pre
  have hown : s.vm.findClass RX7 = some m.cls := findClass_of_methodNamed B.named
  have hlocks := B.notSynchronized
  have hN := hK.2
  subst hsz
  have hD := hD0.self (sz := s.heap.size)
  generalize hAe : va_A [(a_this, .inr (3, [.ref a_this_text, .ref a_this_now, .ref a_this_slots, .ref a_this_cover, .ref a_this_formsSeen])), (a_this_now, .inr (1, [.ref a_this_now_figures, .ref a_this_now_pieces, .ref a_this_now_mayMirror, .int c_this_now_laid])), (a_this_cover, .inr (0, [.ref a_this_cover_spots, .ref a_this_cover_found, .ref a_this_cover_turnedSeen, .ref a_this_cover_chosen, .ref a_this_cover_best, .int c_this_cover_pieces, .int c_this_cover_ways])), (a_this_now_figures, .inl (cJ, 8, .inr (.inl c_this_now_figures))), (a_this_cover_found, .inl (cI, 4, .inl c_this_cover_found)), (a_this_now_mayMirror, .inl (cZ, 4, .inl c_this_now_mayMirror)), (a_this_now_pieces, .inl (cJ, 4, .inr (.inl c_this_now_pieces))), (a_this_cover_turnedSeen, .inl (cJ, 8, .inr (.inl c_this_cover_turnedSeen))), (a_this_cover_spots, .inl (cJ, 384, .inr (.inl c_this_cover_spots)))] s.heap.size = A at hD ⊢
  have hA : ∀ q : Nat, s.heap.size ≤ q → A q := fun q h => by rw [← hAe]; exact Or.inr h
  have hS : va_S A s.heap s.heap [] := va_S.rf
  have hl := lv_entry ([.ref a_this, .int x1]) (n := 4) (Nat.le_of_ble_eq_true rfl)
  rw [lg_entry_eq]
  generalize (lg_sl ([.ref a_this, .int x1]) ++ List.replicate (4 - (lg_sl ([.ref a_this, .int x1])).length) Slot.unset).toArray = ls at hl ⊢
  have hl : lv_has ls 4 [(0, .ref a_this), (1, .int x1)] := hl
  refine hk_Q (fun Q hQ => ?_)
  have h := hf
  unfold f_X7_idle at h
  refine lv_iload_n hx hb dX7_idle_0 rfl (lv_at hl 1 rfl) ?_
  obtain ⟨r21, hr22, h⟩ := hk_x1 h
  refine vp_callSi (W.runS (As := [.int x1]) (rest := []) ⟨hx, hb, hml, hown, hts⟩ (c_X7_noFigure l x1 _ hr22) (va_cwS 1 hts gX7_idle_X7_noFigure rfl rfl rfl zs_X7_noFigure ⟨Nat.le_of_ble_eq_true rfl, Nat.le_of_ble_eq_true rfl⟩) ⟨fun _ _ _ _ q => q, fun _ _ _ => ⟨rfl, trivial⟩⟩ rfl rfl hl.1 rfl (lv_room (Nat.le_of_ble_eq_true rfl)) dX7_idle_1 ⟨Nat.zero_le _, Nat.zero_le _⟩) (fun p24 e23 => ?_)
  rw [e23]
  refine lv_if_eq (tgt := 9) hx hb dX7_idle_4 (by decide) (fun c25 => ?_) (fun c25 => ?_)
  · replace h := hk_ip c25 h
    refine lv_iconst (v := (0 : Int32)) hx hb dX7_idle_9 (by decide) ?_
    refine lv_istore_n (lv' := [(2, .int (0 : Int32)), (0, .ref a_this), (1, .int x1)]) hx hb dX7_idle_10 rfl hl (by decide) rfl (fun ls hl => ?_)
    refine lv_iconst (v := (0 : Int32)) hx hb dX7_idle_11 (by decide) ?_
    refine lv_istore_n (lv' := [(3, .int (0 : Int32)), (2, .int (0 : Int32)), (0, .ref a_this), (1, .int x1)]) hx hb dX7_idle_12 rfl hl (by decide) rfl (fun ls hl => ?_)
    obtain ⟨z46, v47, v48, v49, hr45, h⟩ := hk_x4 h
    refine hk_loopM (f := st_X7_idle_13 c_this_now_laid c_this_now_figures c_this_now_mayMirror c_this_now_pieces x1) (hd := 13) (nL := 4) (lv := fun t9 => [(0, .ref a_this), (1, .int x1), (2, .int t9.1), (3, .int t9.2.1)]) (wf := fun t9 => [(a_this, .inr (3, [.ref a_this_text, .ref a_this_now, .ref a_this_slots, .ref a_this_cover, .ref a_this_formsSeen])), (a_this_now, .inr (1, [.ref a_this_now_figures, .ref a_this_now_pieces, .ref a_this_now_mayMirror, .int c_this_now_laid])), (a_this_cover, .inr (0, [.ref a_this_cover_spots, .ref a_this_cover_found, .ref a_this_cover_turnedSeen, .ref a_this_cover_chosen, .ref a_this_cover_best, .int c_this_cover_pieces, .int c_this_cover_ways])), (a_this_now_figures, .inl (cJ, 8, .inr (.inl c_this_now_figures))), (a_this_cover_found, .inl (cI, 4, .inl t9.2.2.1)), (a_this_now_mayMirror, .inl (cZ, 4, .inl c_this_now_mayMirror)), (a_this_now_pieces, .inl (cJ, 4, .inr (.inl c_this_now_pieces))), (a_this_cover_turnedSeen, .inl (cJ, 8, .inr (.inl t9.2.2.2.1))), (a_this_cover_spots, .inl (cJ, 384, .inr (.inl t9.2.2.2.2)))]) (xs := fun t9 => (60, [(2, .int t9.1)], [], [(a_this, .inr (3, [.ref a_this_text, .ref a_this_now, .ref a_this_slots, .ref a_this_cover, .ref a_this_formsSeen])), (a_this_now, .inr (1, [.ref a_this_now_figures, .ref a_this_now_pieces, .ref a_this_now_mayMirror, .int c_this_now_laid])), (a_this_cover, .inr (0, [.ref a_this_cover_spots, .ref a_this_cover_found, .ref a_this_cover_turnedSeen, .ref a_this_cover_chosen, .ref a_this_cover_best, .int c_this_cover_pieces, .int c_this_cover_ways])), (a_this_now_figures, .inl (cJ, 8, .inr (.inl c_this_now_figures))), (a_this_cover_found, .inl (cI, 4, .inl t9.2.1)), (a_this_now_mayMirror, .inl (cZ, 4, .inl c_this_now_mayMirror)), (a_this_now_pieces, .inl (cJ, 4, .inr (.inl c_this_now_pieces))), (a_this_cover_turnedSeen, .inl (cJ, 8, .inr (.inl t9.2.2.1))), (a_this_cover_spots, .inl (cJ, 384, .inr (.inl t9.2.2.2)))])) ?_ hr45 ?_ hP hD hS (lv_sub hl [2, 3, 1, 0] rfl)
    · intro t50 q51 k26 hck26 hqk26 H locs ls hP hD hS hl
      obtain ⟨y27, y28, w29, w30, w31⟩ := t50
      have k26 : st_X7_idle_13c c_this_now_laid c_this_now_figures c_this_now_mayMirror c_this_now_pieces x1 y27 y28 w29 w30 w31 = some q51 := k26
      unfold st_X7_idle_13c at k26
      have hl : lv_has ls 4 [(0, .ref a_this), (1, .int x1), (2, .int y27), (3, .int y28)] := hl
      have hP : va_P D vwCl [(a_this, .inr (3, [.ref a_this_text, .ref a_this_now, .ref a_this_slots, .ref a_this_cover, .ref a_this_formsSeen])), (a_this_now, .inr (1, [.ref a_this_now_figures, .ref a_this_now_pieces, .ref a_this_now_mayMirror, .int c_this_now_laid])), (a_this_cover, .inr (0, [.ref a_this_cover_spots, .ref a_this_cover_found, .ref a_this_cover_turnedSeen, .ref a_this_cover_chosen, .ref a_this_cover_best, .int c_this_cover_pieces, .int c_this_cover_ways])), (a_this_now_figures, .inl (cJ, 8, .inr (.inl c_this_now_figures))), (a_this_cover_found, .inl (cI, 4, .inl w29)), (a_this_now_mayMirror, .inl (cZ, 4, .inl c_this_now_mayMirror)), (a_this_now_pieces, .inl (cJ, 4, .inr (.inl c_this_now_pieces))), (a_this_cover_turnedSeen, .inl (cJ, 8, .inr (.inl w30))), (a_this_cover_spots, .inl (cJ, 384, .inr (.inl w31)))] H := hP
      have hD : va_D A [(a_this, .inr (3, [.ref a_this_text, .ref a_this_now, .ref a_this_slots, .ref a_this_cover, .ref a_this_formsSeen])), (a_this_now, .inr (1, [.ref a_this_now_figures, .ref a_this_now_pieces, .ref a_this_now_mayMirror, .int c_this_now_laid])), (a_this_cover, .inr (0, [.ref a_this_cover_spots, .ref a_this_cover_found, .ref a_this_cover_turnedSeen, .ref a_this_cover_chosen, .ref a_this_cover_best, .int c_this_cover_pieces, .int c_this_cover_ways])), (a_this_now_figures, .inl (cJ, 8, .inr (.inl c_this_now_figures))), (a_this_cover_found, .inl (cI, 4, .inl w29)), (a_this_now_mayMirror, .inl (cZ, 4, .inl c_this_now_mayMirror)), (a_this_now_pieces, .inl (cJ, 4, .inr (.inl c_this_now_pieces))), (a_this_cover_turnedSeen, .inl (cJ, 8, .inr (.inl w30))), (a_this_cover_spots, .inl (cJ, 384, .inr (.inl w31)))] := hD
      refine lv_iload_n hx hb dX7_idle_13 rfl (lv_at hl 3 rfl) ?_
      refine lv_aload_n hx hb dX7_idle_14 rfl (lv_at hl 0 rfl) ?_
      refine va_get (D := D) (ci := 3) (v := .ref a_this_now) (C := RX7) (T := TX7) (N := 5) hx hb hts zi_X7_idle_X7 hown hK.1 hP 0 rfl rfl 1 (by decide) (hts (.fieldLink RX7 19 "HalfAndHalfAgain" "now" "LHalfAndHalfAgain$Store;") (List.mem_of_getElem? (i := 1) rfl)) (fun _ h9 => h9) rfl dX7_idle_15 ?_
      refine va_get (D := D) (ci := 1) (v := .int c_this_now_laid) (C := RX5) (T := TX5) (N := 4) hx hb hts zi_X7_idle_X5 hown hK.1 hP 1 rfl rfl 3 (by decide) (hts (.fieldLink RX7 148 "HalfAndHalfAgain$Store" "laid" "I") (List.mem_of_getElem? (i := 2) rfl)) (fun _ h9 => h9) rfl dX7_idle_18 ?_
      refine lv_icmp_ge (tgt := 60) hx hb dX7_idle_21 (by decide) (fun c32 => ?_) (fun c32 => ?_)
      · replace k26 := hk_ip c32 k26
        exact hqk26 (y27, w29, w30, w31) (Option.some.inj k26).symm H locs ls hP hD hS (lv_sub hl [2] rfl)
      replace k26 := hk_in c32 k26
      refine lv_aload_n hx hb dX7_idle_24 rfl (lv_at hl 0 rfl) ?_
      refine va_get (D := D) (ci := 3) (v := .ref a_this_cover) (C := RX7) (T := TX7) (N := 5) hx hb hts zi_X7_idle_X7 hown hK.1 hP 0 rfl rfl 3 (by decide) (hts (.fieldLink RX7 30 "HalfAndHalfAgain" "cover" "LHalfAndHalfAgain$Cover;") (List.mem_of_getElem? (i := 3) rfl)) (fun _ h9 => h9) rfl dX7_idle_25 ?_
      refine lv_aload_n hx hb dX7_idle_28 rfl (lv_at hl 0 rfl) ?_
      refine va_get (D := D) (ci := 3) (v := .ref a_this_now) (C := RX7) (T := TX7) (N := 5) hx hb hts zi_X7_idle_X7 hown hK.1 hP 0 rfl rfl 1 (by decide) (hts (.fieldLink RX7 19 "HalfAndHalfAgain" "now" "LHalfAndHalfAgain$Store;") (List.mem_of_getElem? (i := 1) rfl)) (fun _ h9 => h9) rfl dX7_idle_29 ?_
      refine lv_iload_n hx hb dX7_idle_32 rfl (lv_at hl 3 rfl) ?_
      refine lv_aload_n hx hb dX7_idle_33 rfl (lv_at hl 0 rfl) ?_
      refine va_get (D := D) (ci := 3) (v := .ref a_this_now) (C := RX7) (T := TX7) (N := 5) hx hb hts zi_X7_idle_X7 hown hK.1 hP 0 rfl rfl 1 (by decide) (hts (.fieldLink RX7 19 "HalfAndHalfAgain" "now" "LHalfAndHalfAgain$Store;") (List.mem_of_getElem? (i := 1) rfl)) (fun _ h9 => h9) rfl dX7_idle_34 ?_
      refine va_get (D := D) (ci := 1) (v := .ref a_this_now_figures) (C := RX5) (T := TX5) (N := 4) hx hb hts zi_X7_idle_X5 hown hK.1 hP 1 rfl rfl 0 (by decide) (hts (.fieldLink RX7 62 "HalfAndHalfAgain$Store" "figures" "[J") (List.mem_of_getElem? (i := 4) rfl)) (fun _ h9 => h9) rfl dX7_idle_37 ?_
      refine lv_iload_n hx hb dX7_idle_40 rfl (lv_at hl 1 rfl) ?_
      obtain ⟨hi33, k26⟩ := hk_ge k26
      refine va_lald hx hb hK.1 hP 3 1 rfl rfl (hk_inb_of hi33) dX7_idle_41 ?_
      obtain ⟨r34, u35, u36, u37, hr38, k26⟩ := hk_x4 k26
      have hPc := hP.sub (ws' := [(a_this_cover, .inr (0, [.ref a_this_cover_spots, .ref a_this_cover_found, .ref a_this_cover_turnedSeen, .ref a_this_cover_chosen, .ref a_this_cover_best, .int c_this_cover_pieces, .int c_this_cover_ways])), (a_this_now, .inr (1, [.ref a_this_now_figures, .ref a_this_now_pieces, .ref a_this_now_mayMirror, .int c_this_now_laid])), (a_this_cover_found, .inl (cI, 4, .inl w29)), (a_this_now_mayMirror, .inl (cZ, 4, .inl c_this_now_mayMirror)), (a_this_now_pieces, .inl (cJ, 4, .inr (.inl c_this_now_pieces))), (a_this_cover_turnedSeen, .inl (cJ, 8, .inr (.inl w30))), (a_this_cover_spots, .inl (cJ, 384, .inr (.inl w31)))]) [2, 1, 4, 5, 6, 7, 8] rfl
      have hDc := hD.sub (ws' := [(a_this_cover, .inr (0, [.ref a_this_cover_spots, .ref a_this_cover_found, .ref a_this_cover_turnedSeen, .ref a_this_cover_chosen, .ref a_this_cover_best, .int c_this_cover_pieces, .int c_this_cover_ways])), (a_this_now, .inr (1, [.ref a_this_now_figures, .ref a_this_now_pieces, .ref a_this_now_mayMirror, .int c_this_now_laid])), (a_this_cover_found, .inl (cI, 4, .inl w29)), (a_this_now_mayMirror, .inl (cZ, 4, .inl c_this_now_mayMirror)), (a_this_now_pieces, .inl (cJ, 4, .inr (.inl c_this_now_pieces))), (a_this_cover_turnedSeen, .inl (cJ, 8, .inr (.inl w30))), (a_this_cover_spots, .inl (cJ, 384, .inr (.inl w31)))]) [2, 1, 4, 5, 6, 7, 8] (by decide) rfl
      have hFc := va_free (wc := [(a_this_cover, .inr (0, [.ref a_this_cover_spots, .ref a_this_cover_found, .ref a_this_cover_turnedSeen, .ref a_this_cover_chosen, .ref a_this_cover_best, .int c_this_cover_pieces, .int c_this_cover_ways])), (a_this_now, .inr (1, [.ref a_this_now_figures, .ref a_this_now_pieces, .ref a_this_now_mayMirror, .int c_this_now_laid])), (a_this_cover_found, .inl (cI, 4, .inl w29)), (a_this_now_mayMirror, .inl (cZ, 4, .inl c_this_now_mayMirror)), (a_this_now_pieces, .inl (cJ, 4, .inr (.inl c_this_now_pieces))), (a_this_cover_turnedSeen, .inl (cJ, 8, .inr (.inl w30))), (a_this_cover_spots, .inl (cJ, 384, .inr (.inl w31)))]) hD hS hA [2, 1, 4, 5, 6, 7, 8] rfl
      refine va_calli (va_runV (As := [.ref a_this_now, .int y28, .long (c_this_now_figures x1.toNatClampNeg)]) (rest := []) ⟨hx, hb, hml, hown, hts⟩ (c_X1_findSpots l D cI cJ cZ cO a_this_cover a_this_cover_spots a_this_cover_found a_this_cover_turnedSeen a_this_cover_chosen a_this_cover_best a_this_now a_this_now_figures a_this_now_pieces a_this_now_mayMirror H.size c_this_cover_pieces c_this_cover_ways c_this_now_laid w29 c_this_now_mayMirror c_this_now_pieces w30 w31 y28 (c_this_now_figures x1.toNatClampNeg) _ _ _ _ hr38) (cwV 3 hts gX7_idle_X1_findSpots rfl rfl rfl zv_X1_findSpots ⟨Nat.le_of_ble_eq_true rfl, Nat.le_of_ble_eq_true rfl⟩) (hk_preMV 0 rfl hPc hDc hK rfl) rfl rfl hl.1 rfl (lv_room (Nat.le_of_ble_eq_true rfl)) dX7_idle_42 ⟨Nat.zero_le _, Nat.zero_le _⟩) hS (fun q _ h9 => hFc q h9) hFc (fun p39 u9 t9 H1 locs ht hvm hw hB hz1 hk1 hS => ?_)
      obtain ⟨hP1, hD1⟩ := hB
      rw [ht] at hP1
      rw [hw]
      obtain ⟨hP, hD⟩ := va_join (wr := [(a_this, .inr (3, [.ref a_this_text, .ref a_this_now, .ref a_this_slots, .ref a_this_cover, .ref a_this_formsSeen])), (a_this_now_figures, .inl (cJ, 8, .inr (.inl c_this_now_figures)))]) (w1 := [(a_this_cover, .inr (0, [.ref a_this_cover_spots, .ref a_this_cover_found, .ref a_this_cover_turnedSeen, .ref a_this_cover_chosen, .ref a_this_cover_best, .int c_this_cover_pieces, .int c_this_cover_ways])), (a_this_now, .inr (1, [.ref a_this_now_figures, .ref a_this_now_pieces, .ref a_this_now_mayMirror, .int c_this_now_laid])), (a_this_cover_found, .inl (cI, 4, .inl u35)), (a_this_now_mayMirror, .inl (cZ, 4, .inl c_this_now_mayMirror)), (a_this_now_pieces, .inl (cJ, 4, .inr (.inl c_this_now_pieces))), (a_this_cover_turnedSeen, .inl (cJ, 8, .inr (.inl u36))), (a_this_cover_spots, .inl (cJ, 384, .inr (.inl u37)))]) hP hD [2, 1, 4, 5, 6, 7, 8] [0, 3] rfl rfl (by decide) (by decide) hk1 hFc hP1 hD1
      generalize H1 = H at hP hS ⊢
      have hP := hP.sub (ws' := [(a_this, .inr (3, [.ref a_this_text, .ref a_this_now, .ref a_this_slots, .ref a_this_cover, .ref a_this_formsSeen])), (a_this_now, .inr (1, [.ref a_this_now_figures, .ref a_this_now_pieces, .ref a_this_now_mayMirror, .int c_this_now_laid])), (a_this_cover, .inr (0, [.ref a_this_cover_spots, .ref a_this_cover_found, .ref a_this_cover_turnedSeen, .ref a_this_cover_chosen, .ref a_this_cover_best, .int c_this_cover_pieces, .int c_this_cover_ways])), (a_this_now_figures, .inl (cJ, 8, .inr (.inl c_this_now_figures))), (a_this_cover_found, .inl (cI, 4, .inl u35)), (a_this_now_mayMirror, .inl (cZ, 4, .inl c_this_now_mayMirror)), (a_this_now_pieces, .inl (cJ, 4, .inr (.inl c_this_now_pieces))), (a_this_cover_turnedSeen, .inl (cJ, 8, .inr (.inl u36))), (a_this_cover_spots, .inl (cJ, 384, .inr (.inl u37)))]) [0, 3, 2, 1, 4, 5, 6, 7, 8] rfl
      have hD := hD.sub (ws' := [(a_this, .inr (3, [.ref a_this_text, .ref a_this_now, .ref a_this_slots, .ref a_this_cover, .ref a_this_formsSeen])), (a_this_now, .inr (1, [.ref a_this_now_figures, .ref a_this_now_pieces, .ref a_this_now_mayMirror, .int c_this_now_laid])), (a_this_cover, .inr (0, [.ref a_this_cover_spots, .ref a_this_cover_found, .ref a_this_cover_turnedSeen, .ref a_this_cover_chosen, .ref a_this_cover_best, .int c_this_cover_pieces, .int c_this_cover_ways])), (a_this_now_figures, .inl (cJ, 8, .inr (.inl c_this_now_figures))), (a_this_cover_found, .inl (cI, 4, .inl u35)), (a_this_now_mayMirror, .inl (cZ, 4, .inl c_this_now_mayMirror)), (a_this_now_pieces, .inl (cJ, 4, .inr (.inl c_this_now_pieces))), (a_this_cover_turnedSeen, .inl (cJ, 8, .inr (.inl u36))), (a_this_cover_spots, .inl (cJ, 384, .inr (.inl u37)))]) [0, 3, 2, 1, 4, 5, 6, 7, 8] (by decide) rfl
      obtain ⟨v43, g40, k26⟩ := hk_lf k26
      refine hk_joinR (nL := 4) (xs := fun (t9 : Int32) => (54, [(0, .ref a_this), (1, .int x1), (2, .int t9), (3, .int y28)], [])) v43 (fun hjg40 => ?_) ?_
      · refine lv_if_ne (tgt := 54) hx hb dX7_idle_45 (by decide) (fun c41 => ?_) (fun c41 => ?_)
        · replace g40 := hk_in c41 g40
          subst g40
          exact hjg40 ls (lv_sub hl [0, 1, 2, 3] rfl)
        replace g40 := hk_ip c41 g40
        refine lv_iload_n hx hb dX7_idle_48 rfl (lv_at hl 2 rfl) ?_
        refine lv_iconst (v := (1 : Int32)) hx hb dX7_idle_49 (by decide) ?_
        refine lv_iload_n hx hb dX7_idle_50 rfl (lv_at hl 3 rfl) ?_
        refine lv_ishl hx hb dX7_idle_51 ?_
        refine hk_ti (y := (hk_ishl (1 : Int32) y28)) rfl ?_
        refine lv_ior hx hb dX7_idle_52 ?_
        obtain ⟨x42, ex42, g40⟩ := hk_le g40
        refine hk_ti ex42 ?_
        refine lv_istore_n (lv' := [(2, .int x42), (0, .ref a_this), (1, .int x1), (3, .int y28)]) hx hb dX7_idle_53 rfl hl (by decide) rfl (fun ls hl => ?_)
        subst g40
        exact hjg40 ls (lv_sub hl [1, 2, 0, 3] rfl)
      intro ls hl
      have hl : lv_has ls 4 [(0, .ref a_this), (1, .int x1), (2, .int v43), (3, .int y28)] := hl
      show W _ _ _ _ _ _ _ _ _ _ _ _ _ _ _ (F0 m 54 ls [])
      obtain ⟨x44, ex44, k26⟩ := hk_le k26
      refine lv_iinc (v := x44) (lv' := [(3, .int x44), (0, .ref a_this), (1, .int x1), (2, .int v43)]) hx hb dX7_idle_54 hl (k := 3) rfl (by rw [ex44]; rfl) (by decide) rfl (fun ls hl => ?_)
      refine lv_goto (tgt := 13) hx hb dX7_idle_57 (by decide) ?_
      exact hck26 (v43, x44, u35, u36, u37) (Option.some.inj k26).symm H locs ls hP hD hS (lv_sub hl [1, 2, 3, 0] rfl)
    intro H locs ls hP hD hS hl
    have hl : lv_has ls 4 [(2, .int z46)] := hl
    have hP : va_P D vwCl [(a_this, .inr (3, [.ref a_this_text, .ref a_this_now, .ref a_this_slots, .ref a_this_cover, .ref a_this_formsSeen])), (a_this_now, .inr (1, [.ref a_this_now_figures, .ref a_this_now_pieces, .ref a_this_now_mayMirror, .int c_this_now_laid])), (a_this_cover, .inr (0, [.ref a_this_cover_spots, .ref a_this_cover_found, .ref a_this_cover_turnedSeen, .ref a_this_cover_chosen, .ref a_this_cover_best, .int c_this_cover_pieces, .int c_this_cover_ways])), (a_this_now_figures, .inl (cJ, 8, .inr (.inl c_this_now_figures))), (a_this_cover_found, .inl (cI, 4, .inl v47)), (a_this_now_mayMirror, .inl (cZ, 4, .inl c_this_now_mayMirror)), (a_this_now_pieces, .inl (cJ, 4, .inr (.inl c_this_now_pieces))), (a_this_cover_turnedSeen, .inl (cJ, 8, .inr (.inl v48))), (a_this_cover_spots, .inl (cJ, 384, .inr (.inl v49)))] H := hP
    have hD : va_D A [(a_this, .inr (3, [.ref a_this_text, .ref a_this_now, .ref a_this_slots, .ref a_this_cover, .ref a_this_formsSeen])), (a_this_now, .inr (1, [.ref a_this_now_figures, .ref a_this_now_pieces, .ref a_this_now_mayMirror, .int c_this_now_laid])), (a_this_cover, .inr (0, [.ref a_this_cover_spots, .ref a_this_cover_found, .ref a_this_cover_turnedSeen, .ref a_this_cover_chosen, .ref a_this_cover_best, .int c_this_cover_pieces, .int c_this_cover_ways])), (a_this_now_figures, .inl (cJ, 8, .inr (.inl c_this_now_figures))), (a_this_cover_found, .inl (cI, 4, .inl v47)), (a_this_now_mayMirror, .inl (cZ, 4, .inl c_this_now_mayMirror)), (a_this_now_pieces, .inl (cJ, 4, .inr (.inl c_this_now_pieces))), (a_this_cover_turnedSeen, .inl (cJ, 8, .inr (.inl v48))), (a_this_cover_spots, .inl (cJ, 384, .inr (.inl v49)))] := hD
    show W _ _ _ _ _ _ _ _ _ _ _ _ _ _ _ (F0 m 60 ls [])
    refine lv_iload_n hx hb dX7_idle_60 rfl (lv_at hl 0 rfl) ?_
    subst hQ
    have h := Option.some.inj h
    simp only [Prod.mk.injEq] at h
    obtain ⟨rfl, rfl, rfl, rfl⟩ := h
    exact W.iret hx hb hr (fun t ht hW => ⟨⟨_, (), rfl, rfl, by rw [ht]; exact hP, hD⟩, hS.F ht⟩) hS.2.2 dX7_idle_61
  replace h := hk_in c25 h
  refine lv_iconst (v := (-1 : Int32)) hx hb dX7_idle_7 (by decide) ?_
  subst hQ
  have h := Option.some.inj h
  simp only [Prod.mk.injEq] at h
  obtain ⟨rfl, rfl, rfl, rfl⟩ := h
  exact W.iret hx hb hr (fun t ht hW => ⟨⟨_, (), rfl, rfl, by rw [ht]; exact hP, hD⟩, hS.F ht⟩) hS.2.2 dX7_idle_8
theorem zv_X7_grown : yX7_grown.cls = RX7 ∧ yX7_grown.cls ≠ "java/lang/invoke/MethodHandle" ∧ yX7_grown.cls ≠ "java/lang/invoke/VarHandle" ∧ (parseMethodDescriptor yX7_grown.desc).map (fun d => d.parameters.length) = some 1 := by decide +kernel
def f_X7_grown (c_this_now_figures : Nat → Int64)  (x1 : Int32) : Option Int32 := hk_b1 (f_X7_noFigure x1) fun r21 => if r21 = 0 then (hk_gd (hk_inb x1 8) (hk_b1 (f_X0_around (c_this_now_figures x1.toNatClampNeg)) fun r27 => hk_b1 (f_J13_bitCount_95d88 r27) fun r31 => some r31)) else (some (-1 : Int32))
theorem zi_X7_grown_X7 : ∀ w ∈ u_ws RX7 TX7 5, w ∈ wsX7_grown := by decide +kernel
theorem zi_X7_grown_X5 : ∀ w ∈ u_ws RX5 TX5 4, w ∈ wsX7_grown := by decide +kernel
set_option maxHeartbeats 8000000 in
set_option maxRecDepth 100000 in
theorem c_X7_grown (l : Launch) (D : va_G) (cI cJ cZ cO : ClassId) (a_this a_this_text a_this_now a_this_slots a_this_cover a_this_formsSeen a_this_now_figures a_this_now_pieces a_this_now_mayMirror : Nat) (c_this_now_laid : Int32) (c_this_now_figures : Nat → Int64) (x1 : Int32) (rv : Int32) (hf : f_X7_grown c_this_now_figures x1 = some rv) : Met l yX7_grown wsX7_grown ({ frames := 3, cells := 0, slots := 0, locals := 63 }) (va_Pc [.ref a_this, .int x1] (hkR D cI cJ cZ cO [(a_this, .inr (3, [.ref a_this_text, .ref a_this_now, .ref a_this_slots, .ref a_this_cover, .ref a_this_formsSeen])), (a_this_now, .inr (1, [.ref a_this_now_figures, .ref a_this_now_pieces, .ref a_this_now_mayMirror, .int c_this_now_laid])), (a_this_now_figures, .inl (cJ, 8, .inr (.inl c_this_now_figures)))])) (vp_Si (fun r => r = rv)) 0 0 (fun _ => False) := by
  refine Met.ofW (cc := cX7_grown) (maxL := 2) (ret := (some .int)) (by decide) rfl ?_
  intro p e s m args below meth c s₁ B hml hv
  obtain ⟨rfl, hP, hK⟩ := hv
  have hx := B.exec
  have hb := B.bytes
  have hr := B.returns
  have hts := atoms_spec (ws := wsX7_grown) B.pre
  have hown : s.vm.findClass RX7 = some m.cls := findClass_of_methodNamed B.named
  have hlocks := B.notSynchronized
  have hN := hK.2
  have hl := lv_entry ([.ref a_this, .int x1]) (n := 2) (Nat.le_of_ble_eq_true rfl)
  rw [lg_entry_eq]
  generalize (lg_sl ([.ref a_this, .int x1]) ++ List.replicate (2 - (lg_sl ([.ref a_this, .int x1])).length) Slot.unset).toArray = ls at hl ⊢
  have hl : lv_has ls 2 [(0, .ref a_this), (1, .int x1)] := hl
  refine hk_Q (fun Q hQ => ?_)
  have h := hf
  unfold f_X7_grown at h
  refine lv_iload_n hx hb dX7_grown_0 rfl (lv_at hl 1 rfl) ?_
  obtain ⟨r21, hr22, h⟩ := hk_x1 h
  refine vp_callSi (W.runS (As := [.int x1]) (rest := []) ⟨hx, hb, hml, hown, hts⟩ (c_X7_noFigure l x1 _ hr22) (va_cwS 1 hts gX7_grown_X7_noFigure rfl rfl rfl zs_X7_noFigure ⟨Nat.le_of_ble_eq_true rfl, Nat.le_of_ble_eq_true rfl⟩) ⟨fun _ _ _ _ q => q, fun _ _ _ => ⟨rfl, trivial⟩⟩ rfl rfl hl.1 rfl (lv_room (Nat.le_of_ble_eq_true rfl)) dX7_grown_1 ⟨Nat.zero_le _, Nat.zero_le _⟩) (fun p24 e23 => ?_)
  rw [e23]
  refine lv_if_eq (tgt := 11) hx hb dX7_grown_4 (by decide) (fun c25 => ?_) (fun c25 => ?_)
  · replace h := hk_ip c25 h
    refine lv_aload_n hx hb dX7_grown_11 rfl (lv_at hl 0 rfl) ?_
    refine va_get (D := D) (ci := 3) (v := .ref a_this_now) (C := RX7) (T := TX7) (N := 5) hx hb hts zi_X7_grown_X7 hown hK.1 hP 0 rfl rfl 1 (by decide) (hts (.fieldLink RX7 19 "HalfAndHalfAgain" "now" "LHalfAndHalfAgain$Store;") (List.mem_of_getElem? (i := 1) rfl)) (fun _ h9 => h9) rfl dX7_grown_12 ?_
    refine va_get (D := D) (ci := 1) (v := .ref a_this_now_figures) (C := RX5) (T := TX5) (N := 4) hx hb hts zi_X7_grown_X5 hown hK.1 hP 1 rfl rfl 0 (by decide) (hts (.fieldLink RX7 62 "HalfAndHalfAgain$Store" "figures" "[J") (List.mem_of_getElem? (i := 2) rfl)) (fun _ h9 => h9) rfl dX7_grown_15 ?_
    refine lv_iload_n hx hb dX7_grown_18 rfl (lv_at hl 1 rfl) ?_
    obtain ⟨hi26, h⟩ := hk_ge h
    refine va_lald hx hb hK.1 hP 2 1 rfl rfl (hk_inb_of hi26) dX7_grown_19 ?_
    obtain ⟨r27, hr28, h⟩ := hk_x1 h
    refine vp_callSl (W.runS (As := [.long (c_this_now_figures x1.toNatClampNeg)]) (rest := []) ⟨hx, hb, hml, hown, hts⟩ (c_X0_around l (c_this_now_figures x1.toNatClampNeg) _ hr28) (va_cwS 1 hts gX7_grown_X0_around rfl rfl rfl zs_X0_around ⟨Nat.le_of_ble_eq_true rfl, Nat.le_of_ble_eq_true rfl⟩) ⟨fun _ _ _ _ q => q, fun _ _ _ => ⟨rfl, trivial⟩⟩ rfl rfl hl.1 rfl (lv_room (Nat.le_of_ble_eq_true rfl)) dX7_grown_20 ⟨Nat.zero_le _, Nat.zero_le _⟩) (fun p30 e29 => ?_)
    rw [e29]
    obtain ⟨r31, hr32, h⟩ := hk_x1 h
    refine vp_callSi (W.runS (As := [.long r27]) (rest := []) ⟨hx, hb, hml, hown, hts⟩ (c_J13_bitCount_95d88 l r27 _ hr32) (va_cwS 1 hts gX7_grown_J13_bitCount_95d88 rfl rfl rfl zs_J13_bitCount_95d88 ⟨Nat.le_of_ble_eq_true rfl, Nat.le_of_ble_eq_true rfl⟩) ⟨fun _ _ _ _ q => q, fun _ _ _ => ⟨rfl, trivial⟩⟩ rfl rfl hl.1 rfl (lv_room (Nat.le_of_ble_eq_true rfl)) dX7_grown_23 ⟨Nat.zero_le _, Nat.zero_le _⟩) (fun p34 e33 => ?_)
    rw [e33]
    subst hQ
    exact W.iret hx hb hr (fun t ht hW => ⟨_, rfl, Option.some.inj h, ht⟩) (fun _ h9 => by cases h9) dX7_grown_26
  replace h := hk_in c25 h
  refine lv_iconst (v := (-1 : Int32)) hx hb dX7_grown_7 (by decide) ?_
  refine lv_goto (tgt := 26) hx hb dX7_grown_8 (by decide) ?_
  subst hQ
  exact W.iret hx hb hr (fun t ht hW => ⟨_, rfl, Option.some.inj h, ht⟩) (fun _ h9 => by cases h9) dX7_grown_26
theorem zv_X7_countGrownForms : yX7_countGrownForms.cls = RX7 ∧ yX7_countGrownForms.cls ≠ "java/lang/invoke/MethodHandle" ∧ yX7_countGrownForms.cls ≠ "java/lang/invoke/VarHandle" ∧ (parseMethodDescriptor yX7_countGrownForms.desc).map (fun d => d.parameters.length) = some 1 := by decide +kernel
def st_X7_countGrownForms_11c (x1 : Int64) (y26 : Int64) (y27 : Int32) (y28 : Int32) (w29 : Nat → Int64) : Option ((Int64 × Int32 × Int32 × (Nat → Int64)) ⊕ (Int32 × (Nat → Int64))) := if (64 : Int32) ≤ y28 then (some (.inr (y27, w29))) else (if y26 = (0 : Int64) then (some (.inr (y27, w29))) else (hk_let (y26 &&& (-y26)) fun x32 => hk_let (y26 ^^^ x32) fun x33 => hk_b1 (f_X3_leastForm (x1 ||| x32)) fun r34 => hk_b1 (f_X7_isAmong w29 64 y27 r34) fun r38 => hk_b2 (if r38 = 0 then (hk_gd (hk_inb y27 64) (hk_let (y27 + (1 : Int32)) fun x45 => some (x45, (vp_updL w29 y27.toNatClampNeg r34)))) else (some (y27, w29))) fun v46 v47 => hk_let (y28 + (1 : Int32)) fun x48 => some (.inl (x33, v46, x48, v47))))
def st_X7_countGrownForms_11 (x1 : Int64) (t9 : (Int64 × Int32 × Int32 × (Nat → Int64))) : Option ((Int64 × Int32 × Int32 × (Nat → Int64)) ⊕ (Int32 × (Nat → Int64))) := st_X7_countGrownForms_11c x1 t9.1 t9.2.1 t9.2.2.1 t9.2.2.2
def f_X7_countGrownForms (c_this_formsSeen : Nat → Int64)  (x1 : Int64) : Option (Int32 × (Nat → Int64)) := hk_b1 (f_X0_around x1) fun r21 => hk_b2 (hk_wl (st_X7_countGrownForms_11 x1) hkF (r21, (0 : Int32), (0 : Int32), c_this_formsSeen)) fun z50 v51 => some (z50, v51)
theorem zi_X7_countGrownForms_X7 : ∀ w ∈ u_ws RX7 TX7 5, w ∈ wsX7_countGrownForms := by decide +kernel
set_option maxHeartbeats 8000000 in
set_option maxRecDepth 100000 in
theorem c_X7_countGrownForms (l : Launch) (D : va_G) (cI cJ cZ cO : ClassId) (a_this a_this_text a_this_now a_this_slots a_this_cover a_this_formsSeen : Nat) (sz : Nat) (c_this_formsSeen : Nat → Int64) (x1 : Int64) (rv : Int32) (u_this_formsSeen : Nat → Int64) (hf : f_X7_countGrownForms c_this_formsSeen x1 = some (rv, u_this_formsSeen)) : Met l yX7_countGrownForms wsX7_countGrownForms ({ frames := 5, cells := 0, slots := 0, locals := 121 }) (va_Pc [.ref a_this, .long x1] (hkM D cI cJ cZ cO [(a_this, .inr (3, [.ref a_this_text, .ref a_this_now, .ref a_this_slots, .ref a_this_cover, .ref a_this_formsSeen])), (a_this_formsSeen, .inl (cJ, 64, .inr (.inl c_this_formsSeen)))] sz)) (va_Qi (fun r (_ : Unit) => r = rv) (fun _ t => va_P D vwCl [(a_this, .inr (3, [.ref a_this_text, .ref a_this_now, .ref a_this_slots, .ref a_this_cover, .ref a_this_formsSeen])), (a_this_formsSeen, .inl (cJ, 64, .inr (.inl u_this_formsSeen)))] t.heap ∧ va_D (va_A [(a_this, .inr (3, [.ref a_this_text, .ref a_this_now, .ref a_this_slots, .ref a_this_cover, .ref a_this_formsSeen])), (a_this_formsSeen, .inl (cJ, 64, .inr (.inl c_this_formsSeen)))] sz) [(a_this, .inr (3, [.ref a_this_text, .ref a_this_now, .ref a_this_slots, .ref a_this_cover, .ref a_this_formsSeen])), (a_this_formsSeen, .inl (cJ, 64, .inr (.inl u_this_formsSeen)))]) (va_A [(a_this, .inr (3, [.ref a_this_text, .ref a_this_now, .ref a_this_slots, .ref a_this_cover, .ref a_this_formsSeen])), (a_this_formsSeen, .inl (cJ, 64, .inr (.inl c_this_formsSeen)))] sz)) 0 0 (va_A [(a_this, .inr (3, [.ref a_this_text, .ref a_this_now, .ref a_this_slots, .ref a_this_cover, .ref a_this_formsSeen])), (a_this_formsSeen, .inl (cJ, 64, .inr (.inl c_this_formsSeen)))] sz) := by
  refine Met.ofW (cc := cX7_countGrownForms) (maxL := 11) (ret := (some .int)) (by decide) rfl ?_
  intro p e s m args below meth c s₁ B hml hv
  obtain ⟨rfl, hsz, hP, hK, hD0⟩ := hv
  have hx := B.exec
  have hb := B.bytes
  have hr := B.returns
  have hts := atoms_spec (ws := wsX7_countGrownForms) B.pre
  have hown : s.vm.findClass RX7 = some m.cls := findClass_of_methodNamed B.named
  have hlocks := B.notSynchronized
  have hN := hK.2
  subst hsz
  have hD := hD0.self (sz := s.heap.size)
  generalize hAe : va_A [(a_this, .inr (3, [.ref a_this_text, .ref a_this_now, .ref a_this_slots, .ref a_this_cover, .ref a_this_formsSeen])), (a_this_formsSeen, .inl (cJ, 64, .inr (.inl c_this_formsSeen)))] s.heap.size = A at hD ⊢
  have hA : ∀ q : Nat, s.heap.size ≤ q → A q := fun q h => by rw [← hAe]; exact Or.inr h
  have hS : va_S A s.heap s.heap [] := va_S.rf
  have hl := lv_entry ([.ref a_this, .long x1]) (n := 11) (Nat.le_of_ble_eq_true rfl)
  rw [lg_entry_eq]
  generalize (lg_sl ([.ref a_this, .long x1]) ++ List.replicate (11 - (lg_sl ([.ref a_this, .long x1])).length) Slot.unset).toArray = ls at hl ⊢
  have hl : lv_has ls 11 [(0, .ref a_this), (1, .long x1)] := hl
  refine hk_Q (fun Q hQ => ?_)
  have h := hf
  unfold f_X7_countGrownForms at h
  refine lv_lload_n hx hb dX7_countGrownForms_0 rfl (lv_at hl 1 rfl) ?_
  obtain ⟨r21, hr22, h⟩ := hk_x1 h
  refine vp_callSl (W.runS (As := [.long x1]) (rest := []) ⟨hx, hb, hml, hown, hts⟩ (c_X0_around l x1 _ hr22) (va_cwS 1 hts gX7_countGrownForms_X0_around rfl rfl rfl zs_X0_around ⟨Nat.le_of_ble_eq_true rfl, Nat.le_of_ble_eq_true rfl⟩) ⟨fun _ _ _ _ q => q, fun _ _ _ => ⟨rfl, trivial⟩⟩ rfl rfl hl.1 rfl (lv_room (Nat.le_of_ble_eq_true rfl)) dX7_countGrownForms_1 ⟨Nat.zero_le _, Nat.zero_le _⟩) (fun p24 e23 => ?_)
  rw [e23]
  refine lv_lstore_n (lv' := [(3, .long r21), (0, .ref a_this), (1, .long x1)]) hx hb dX7_countGrownForms_4 rfl hl (by decide) rfl (fun ls hl => ?_)
  refine lv_iconst (v := (0 : Int32)) hx hb dX7_countGrownForms_5 (by decide) ?_
  refine lv_istore (lv' := [(5, .int (0 : Int32)), (3, .long r21), (0, .ref a_this), (1, .long x1)]) hx hb dX7_countGrownForms_6 hl (by decide) rfl (fun ls hl => ?_)
  refine lv_iconst (v := (0 : Int32)) hx hb dX7_countGrownForms_8 (by decide) ?_
  refine lv_istore (lv' := [(6, .int (0 : Int32)), (5, .int (0 : Int32)), (3, .long r21), (0, .ref a_this), (1, .long x1)]) hx hb dX7_countGrownForms_9 hl (by decide) rfl (fun ls hl => ?_)
  obtain ⟨z50, v51, hr49, h⟩ := hk_x2 h
  refine hk_loopM (f := st_X7_countGrownForms_11 x1) (hd := 11) (nL := 11) (lv := fun t9 => [(0, .ref a_this), (1, .long x1), (3, .long t9.1), (5, .int t9.2.1), (6, .int t9.2.2.1)]) (wf := fun t9 => [(a_this, .inr (3, [.ref a_this_text, .ref a_this_now, .ref a_this_slots, .ref a_this_cover, .ref a_this_formsSeen])), (a_this_formsSeen, .inl (cJ, 64, .inr (.inl t9.2.2.2)))]) (xs := fun t9 => (76, [(5, .int t9.1)], [], [(a_this, .inr (3, [.ref a_this_text, .ref a_this_now, .ref a_this_slots, .ref a_this_cover, .ref a_this_formsSeen])), (a_this_formsSeen, .inl (cJ, 64, .inr (.inl t9.2)))])) ?_ hr49 ?_ hP hD hS (lv_sub hl [3, 4, 2, 1, 0] rfl)
  · intro t52 q53 k25 hck25 hqk25 H locs ls hP hD hS hl
    obtain ⟨y26, y27, y28, w29⟩ := t52
    have k25 : st_X7_countGrownForms_11c x1 y26 y27 y28 w29 = some q53 := k25
    unfold st_X7_countGrownForms_11c at k25
    have hl : lv_has ls 11 [(0, .ref a_this), (1, .long x1), (3, .long y26), (5, .int y27), (6, .int y28)] := hl
    have hP : va_P D vwCl [(a_this, .inr (3, [.ref a_this_text, .ref a_this_now, .ref a_this_slots, .ref a_this_cover, .ref a_this_formsSeen])), (a_this_formsSeen, .inl (cJ, 64, .inr (.inl w29)))] H := hP
    have hD : va_D A [(a_this, .inr (3, [.ref a_this_text, .ref a_this_now, .ref a_this_slots, .ref a_this_cover, .ref a_this_formsSeen])), (a_this_formsSeen, .inl (cJ, 64, .inr (.inl w29)))] := hD
    refine lv_iload hx hb dX7_countGrownForms_11 (lv_at hl 4 rfl) ?_
    refine lv_bipush (v := (64 : Int32)) hx hb dX7_countGrownForms_13 (by decide) ?_
    refine lv_icmp_ge (tgt := 76) hx hb dX7_countGrownForms_15 (by decide) (fun c30 => ?_) (fun c30 => ?_)
    · replace k25 := hk_ip c30 k25
      exact hqk25 (y27, w29) (Option.some.inj k25).symm H locs ls hP hD hS (lv_sub hl [3] rfl)
    replace k25 := hk_in c30 k25
    refine lv_lload_n hx hb dX7_countGrownForms_18 rfl (lv_at hl 2 rfl) ?_
    refine lv_lconst (v := (0 : Int64)) hx hb dX7_countGrownForms_19 (by decide) ?_
    refine hk_lcmp_eq (tgt := 76) hx hb dX7_countGrownForms_20 dX7_countGrownForms_21 (by decide) (fun c31 => ?_) (fun c31 => ?_)
    · replace k25 := hk_ip c31 k25
      exact hqk25 (y27, w29) (Option.some.inj k25).symm H locs ls hP hD hS (lv_sub hl [3] rfl)
    replace k25 := hk_in c31 k25
    refine lv_lload_n hx hb dX7_countGrownForms_24 rfl (lv_at hl 2 rfl) ?_
    refine lv_lload_n hx hb dX7_countGrownForms_25 rfl (lv_at hl 2 rfl) ?_
    refine lv_lneg hx hb dX7_countGrownForms_26 ?_
    refine lv_land hx hb dX7_countGrownForms_27 ?_
    obtain ⟨x32, ex32, k25⟩ := hk_le k25
    refine hk_tl ex32 ?_
    refine lv_lstore (lv' := [(7, .long x32), (0, .ref a_this), (1, .long x1), (3, .long y26), (5, .int y27), (6, .int y28)]) hx hb dX7_countGrownForms_28 hl (by decide) rfl (fun ls hl => ?_)
    refine lv_lload_n hx hb dX7_countGrownForms_30 rfl (lv_at hl 3 rfl) ?_
    refine lv_lload hx hb dX7_countGrownForms_31 (lv_at hl 0 rfl) ?_
    refine lv_lxor hx hb dX7_countGrownForms_33 ?_
    obtain ⟨x33, ex33, k25⟩ := hk_le k25
    refine hk_tl ex33 ?_
    refine lv_lstore_n (lv' := [(3, .long x33), (7, .long x32), (0, .ref a_this), (1, .long x1), (5, .int y27), (6, .int y28)]) hx hb dX7_countGrownForms_34 rfl hl (by decide) rfl (fun ls hl => ?_)
    refine lv_lload_n hx hb dX7_countGrownForms_35 rfl (lv_at hl 3 rfl) ?_
    refine lv_lload hx hb dX7_countGrownForms_36 (lv_at hl 1 rfl) ?_
    refine lv_lor hx hb dX7_countGrownForms_38 ?_
    obtain ⟨r34, hr35, k25⟩ := hk_x1 k25
    refine vp_callSl (W.runS (As := [.long (x1 ||| x32)]) (rest := []) ⟨hx, hb, hml, hown, hts⟩ (c_X3_leastForm l (x1 ||| x32) _ hr35) (va_cwS 1 hts gX7_countGrownForms_X3_leastForm rfl rfl rfl zs_X3_leastForm ⟨Nat.le_of_ble_eq_true rfl, Nat.le_of_ble_eq_true rfl⟩) (hk_preN hN) rfl rfl hl.1 rfl (lv_room (Nat.le_of_ble_eq_true rfl)) dX7_countGrownForms_39 ⟨Nat.zero_le _, Nat.zero_le _⟩) (fun p37 e36 => ?_)
    rw [e36]
    refine lv_lstore (lv' := [(9, .long r34), (3, .long x33), (7, .long x32), (0, .ref a_this), (1, .long x1), (5, .int y27), (6, .int y28)]) hx hb dX7_countGrownForms_42 hl (by decide) rfl (fun ls hl => ?_)
    refine lv_aload_n hx hb dX7_countGrownForms_44 rfl (lv_at hl 3 rfl) ?_
    refine va_get (D := D) (ci := 3) (v := .ref a_this_formsSeen) (C := RX7) (T := TX7) (N := 5) hx hb hts zi_X7_countGrownForms_X7 hown hK.1 hP 0 rfl rfl 4 (by decide) (hts (.fieldLink RX7 34 "HalfAndHalfAgain" "formsSeen" "[J") (List.mem_of_getElem? (i := 1) rfl)) (fun _ h9 => h9) rfl dX7_countGrownForms_45 ?_
    refine lv_iload hx hb dX7_countGrownForms_48 (lv_at hl 5 rfl) ?_
    refine lv_lload hx hb dX7_countGrownForms_50 (lv_at hl 0 rfl) ?_
    obtain ⟨r38, hr39, k25⟩ := hk_x1 k25
    refine vp_callSi (W.runS (As := [.ref a_this_formsSeen, .int y27, .long r34]) (rest := []) ⟨hx, hb, hml, hown, hts⟩ (c_X7_isAmong l D cI cJ cZ cO a_this_formsSeen w29 64 y27 r34 _ hr39) (va_cwS 3 hts gX7_countGrownForms_X7_isAmong rfl rfl rfl zs_X7_isAmong ⟨Nat.le_of_ble_eq_true rfl, Nat.le_of_ble_eq_true rfl⟩) (hk_preR (hP.sub (ws' := [(a_this_formsSeen, .inl (cJ, 64, .inr (.inl w29)))]) [1] rfl) hK) rfl rfl hl.1 rfl (lv_room (Nat.le_of_ble_eq_true rfl)) dX7_countGrownForms_52 ⟨Nat.zero_le _, Nat.zero_le _⟩) (fun p41 e40 => ?_)
    rw [e40]
    obtain ⟨v46, v47, g42, k25⟩ := hk_x2 k25
    refine hk_joinM (D := D) (cl := vwCl) (A := A) (H0 := s.heap) (nL := 11) (xs := fun (t9 : (Int32 × (Nat → Int64))) => (70, [(0, .ref a_this), (1, .long x1), (3, .long x33), (5, .int t9.1), (6, .int y28)], [], [(a_this, .inr (3, [.ref a_this_text, .ref a_this_now, .ref a_this_slots, .ref a_this_cover, .ref a_this_formsSeen])), (a_this_formsSeen, .inl (cJ, 64, .inr (.inl t9.2)))])) (v46, v47) (fun hjg42 => ?_) ?_
    · refine lv_if_ne (tgt := 70) hx hb dX7_countGrownForms_55 (by decide) (fun c43 => ?_) (fun c43 => ?_)
      · replace g42 := hk_in c43 g42
        have g42 := Option.some.inj g42
        simp only [Prod.mk.injEq] at g42
        obtain ⟨rfl, rfl⟩ := g42
        exact hjg42 H locs ls hP hD hS (lv_sub hl [3, 4, 1, 5, 6] rfl)
      replace g42 := hk_ip c43 g42
      refine lv_aload_n hx hb dX7_countGrownForms_58 rfl (lv_at hl 3 rfl) ?_
      refine va_get (D := D) (ci := 3) (v := .ref a_this_formsSeen) (C := RX7) (T := TX7) (N := 5) hx hb hts zi_X7_countGrownForms_X7 hown hK.1 hP 0 rfl rfl 4 (by decide) (hts (.fieldLink RX7 34 "HalfAndHalfAgain" "formsSeen" "[J") (List.mem_of_getElem? (i := 1) rfl)) (fun _ h9 => h9) rfl dX7_countGrownForms_59 ?_
      refine lv_iload hx hb dX7_countGrownForms_62 (lv_at hl 5 rfl) ?_
      refine lv_lload hx hb dX7_countGrownForms_64 (lv_at hl 0 rfl) ?_
      obtain ⟨hi44, g42⟩ := hk_ge g42
      refine va_last hx hb hK.1 hP hD hS 1 1 rfl rfl (hk_inb_of hi44) dX7_countGrownForms_66 (fun H locs hP hD hS => ?_)
      have hP : va_P D vwCl [(a_this, .inr (3, [.ref a_this_text, .ref a_this_now, .ref a_this_slots, .ref a_this_cover, .ref a_this_formsSeen])), (a_this_formsSeen, .inl (cJ, 64, .inr (.inl (vp_updL w29 y27.toNatClampNeg r34))))] H := hP
      have hD : va_D A [(a_this, .inr (3, [.ref a_this_text, .ref a_this_now, .ref a_this_slots, .ref a_this_cover, .ref a_this_formsSeen])), (a_this_formsSeen, .inl (cJ, 64, .inr (.inl (vp_updL w29 y27.toNatClampNeg r34))))] := hD
      obtain ⟨x45, ex45, g42⟩ := hk_le g42
      refine lv_iinc (v := x45) (lv' := [(5, .int x45), (9, .long r34), (3, .long x33), (7, .long x32), (0, .ref a_this), (1, .long x1), (6, .int y28)]) hx hb dX7_countGrownForms_67 hl (k := 5) rfl (by rw [ex45]; rfl) (by decide) rfl (fun ls hl => ?_)
      have g42 := Option.some.inj g42
      simp only [Prod.mk.injEq] at g42
      obtain ⟨rfl, rfl⟩ := g42
      exact hjg42 H locs ls hP hD hS (lv_sub hl [4, 5, 2, 0, 6] rfl)
    intro H locs ls hP hD hS hl
    have hl : lv_has ls 11 [(0, .ref a_this), (1, .long x1), (3, .long x33), (5, .int v46), (6, .int y28)] := hl
    have hP : va_P D vwCl [(a_this, .inr (3, [.ref a_this_text, .ref a_this_now, .ref a_this_slots, .ref a_this_cover, .ref a_this_formsSeen])), (a_this_formsSeen, .inl (cJ, 64, .inr (.inl v47)))] H := hP
    have hD : va_D A [(a_this, .inr (3, [.ref a_this_text, .ref a_this_now, .ref a_this_slots, .ref a_this_cover, .ref a_this_formsSeen])), (a_this_formsSeen, .inl (cJ, 64, .inr (.inl v47)))] := hD
    show W _ _ _ _ _ _ _ _ _ _ _ _ _ _ _ (F0 m 70 ls [])
    obtain ⟨x48, ex48, k25⟩ := hk_le k25
    refine lv_iinc (v := x48) (lv' := [(6, .int x48), (0, .ref a_this), (1, .long x1), (3, .long x33), (5, .int v46)]) hx hb dX7_countGrownForms_70 hl (k := 4) rfl (by rw [ex48]; rfl) (by decide) rfl (fun ls hl => ?_)
    refine lv_goto (tgt := 11) hx hb dX7_countGrownForms_73 (by decide) ?_
    exact hck25 (x33, v46, x48, v47) (Option.some.inj k25).symm H locs ls hP hD hS (lv_sub hl [1, 2, 3, 4, 0] rfl)
  intro H locs ls hP hD hS hl
  have hl : lv_has ls 11 [(5, .int z50)] := hl
  have hP : va_P D vwCl [(a_this, .inr (3, [.ref a_this_text, .ref a_this_now, .ref a_this_slots, .ref a_this_cover, .ref a_this_formsSeen])), (a_this_formsSeen, .inl (cJ, 64, .inr (.inl v51)))] H := hP
  have hD : va_D A [(a_this, .inr (3, [.ref a_this_text, .ref a_this_now, .ref a_this_slots, .ref a_this_cover, .ref a_this_formsSeen])), (a_this_formsSeen, .inl (cJ, 64, .inr (.inl v51)))] := hD
  show W _ _ _ _ _ _ _ _ _ _ _ _ _ _ _ (F0 m 76 ls [])
  refine lv_iload hx hb dX7_countGrownForms_76 (lv_at hl 0 rfl) ?_
  subst hQ
  have h := Option.some.inj h
  simp only [Prod.mk.injEq] at h
  obtain ⟨rfl, rfl⟩ := h
  exact W.iret hx hb hr (fun t ht hW => ⟨⟨_, (), rfl, rfl, by rw [ht]; exact hP, hD⟩, hS.F ht⟩) hS.2.2 dX7_countGrownForms_78
theorem zv_X7_forms : yX7_forms.cls = RX7 ∧ yX7_forms.cls ≠ "java/lang/invoke/MethodHandle" ∧ yX7_forms.cls ≠ "java/lang/invoke/VarHandle" ∧ (parseMethodDescriptor yX7_forms.desc).map (fun d => d.parameters.length) = some 1 := by decide +kernel
def f_X7_forms (c_this_now_figures : Nat → Int64) (c_this_formsSeen : Nat → Int64)  (x1 : Int32) : Option (Int32 × (Nat → Int64)) := hk_b1 (f_X7_noFigure x1) fun r21 => if r21 = 0 then (hk_gd (hk_inb x1 8) (hk_b2 (f_X7_countGrownForms c_this_formsSeen (c_this_now_figures x1.toNatClampNeg)) fun r27 u28 => some (r27, u28))) else (some ((-1 : Int32), c_this_formsSeen))
theorem zi_X7_forms_X7 : ∀ w ∈ u_ws RX7 TX7 5, w ∈ wsX7_forms := by decide +kernel
theorem zi_X7_forms_X5 : ∀ w ∈ u_ws RX5 TX5 4, w ∈ wsX7_forms := by decide +kernel
set_option maxHeartbeats 8000000 in
set_option maxRecDepth 100000 in
theorem c_X7_forms (l : Launch) (D : va_G) (cI cJ cZ cO : ClassId) (a_this a_this_text a_this_now a_this_slots a_this_cover a_this_formsSeen a_this_now_figures a_this_now_pieces a_this_now_mayMirror : Nat) (sz : Nat) (c_this_now_laid : Int32) (c_this_now_figures : Nat → Int64) (c_this_formsSeen : Nat → Int64) (x1 : Int32) (rv : Int32) (u_this_formsSeen : Nat → Int64) (hf : f_X7_forms c_this_now_figures c_this_formsSeen x1 = some (rv, u_this_formsSeen)) : Met l yX7_forms wsX7_forms ({ frames := 6, cells := 0, slots := 0, locals := 151 }) (va_Pc [.ref a_this, .int x1] (hkM D cI cJ cZ cO [(a_this, .inr (3, [.ref a_this_text, .ref a_this_now, .ref a_this_slots, .ref a_this_cover, .ref a_this_formsSeen])), (a_this_now, .inr (1, [.ref a_this_now_figures, .ref a_this_now_pieces, .ref a_this_now_mayMirror, .int c_this_now_laid])), (a_this_now_figures, .inl (cJ, 8, .inr (.inl c_this_now_figures))), (a_this_formsSeen, .inl (cJ, 64, .inr (.inl c_this_formsSeen)))] sz)) (va_Qi (fun r (_ : Unit) => r = rv) (fun _ t => va_P D vwCl [(a_this, .inr (3, [.ref a_this_text, .ref a_this_now, .ref a_this_slots, .ref a_this_cover, .ref a_this_formsSeen])), (a_this_now, .inr (1, [.ref a_this_now_figures, .ref a_this_now_pieces, .ref a_this_now_mayMirror, .int c_this_now_laid])), (a_this_now_figures, .inl (cJ, 8, .inr (.inl c_this_now_figures))), (a_this_formsSeen, .inl (cJ, 64, .inr (.inl u_this_formsSeen)))] t.heap ∧ va_D (va_A [(a_this, .inr (3, [.ref a_this_text, .ref a_this_now, .ref a_this_slots, .ref a_this_cover, .ref a_this_formsSeen])), (a_this_now, .inr (1, [.ref a_this_now_figures, .ref a_this_now_pieces, .ref a_this_now_mayMirror, .int c_this_now_laid])), (a_this_now_figures, .inl (cJ, 8, .inr (.inl c_this_now_figures))), (a_this_formsSeen, .inl (cJ, 64, .inr (.inl c_this_formsSeen)))] sz) [(a_this, .inr (3, [.ref a_this_text, .ref a_this_now, .ref a_this_slots, .ref a_this_cover, .ref a_this_formsSeen])), (a_this_now, .inr (1, [.ref a_this_now_figures, .ref a_this_now_pieces, .ref a_this_now_mayMirror, .int c_this_now_laid])), (a_this_now_figures, .inl (cJ, 8, .inr (.inl c_this_now_figures))), (a_this_formsSeen, .inl (cJ, 64, .inr (.inl u_this_formsSeen)))]) (va_A [(a_this, .inr (3, [.ref a_this_text, .ref a_this_now, .ref a_this_slots, .ref a_this_cover, .ref a_this_formsSeen])), (a_this_now, .inr (1, [.ref a_this_now_figures, .ref a_this_now_pieces, .ref a_this_now_mayMirror, .int c_this_now_laid])), (a_this_now_figures, .inl (cJ, 8, .inr (.inl c_this_now_figures))), (a_this_formsSeen, .inl (cJ, 64, .inr (.inl c_this_formsSeen)))] sz)) 0 0 (va_A [(a_this, .inr (3, [.ref a_this_text, .ref a_this_now, .ref a_this_slots, .ref a_this_cover, .ref a_this_formsSeen])), (a_this_now, .inr (1, [.ref a_this_now_figures, .ref a_this_now_pieces, .ref a_this_now_mayMirror, .int c_this_now_laid])), (a_this_now_figures, .inl (cJ, 8, .inr (.inl c_this_now_figures))), (a_this_formsSeen, .inl (cJ, 64, .inr (.inl c_this_formsSeen)))] sz) := by
  refine Met.ofW (cc := cX7_forms) (maxL := 2) (ret := (some .int)) (by decide) rfl ?_
  intro p e s m args below meth c s₁ B hml hv
  obtain ⟨rfl, hsz, hP, hK, hD0⟩ := hv
  have hx := B.exec
  have hb := B.bytes
  have hr := B.returns
  have hts := atoms_spec (ws := wsX7_forms) B.pre
  have hown : s.vm.findClass RX7 = some m.cls := findClass_of_methodNamed B.named
  have hlocks := B.notSynchronized
  have hN := hK.2
  subst hsz
  have hD := hD0.self (sz := s.heap.size)
  generalize hAe : va_A [(a_this, .inr (3, [.ref a_this_text, .ref a_this_now, .ref a_this_slots, .ref a_this_cover, .ref a_this_formsSeen])), (a_this_now, .inr (1, [.ref a_this_now_figures, .ref a_this_now_pieces, .ref a_this_now_mayMirror, .int c_this_now_laid])), (a_this_now_figures, .inl (cJ, 8, .inr (.inl c_this_now_figures))), (a_this_formsSeen, .inl (cJ, 64, .inr (.inl c_this_formsSeen)))] s.heap.size = A at hD ⊢
  have hA : ∀ q : Nat, s.heap.size ≤ q → A q := fun q h => by rw [← hAe]; exact Or.inr h
  have hS : va_S A s.heap s.heap [] := va_S.rf
  have hl := lv_entry ([.ref a_this, .int x1]) (n := 2) (Nat.le_of_ble_eq_true rfl)
  rw [lg_entry_eq]
  generalize (lg_sl ([.ref a_this, .int x1]) ++ List.replicate (2 - (lg_sl ([.ref a_this, .int x1])).length) Slot.unset).toArray = ls at hl ⊢
  have hl : lv_has ls 2 [(0, .ref a_this), (1, .int x1)] := hl
  refine hk_Q (fun Q hQ => ?_)
  have h := hf
  unfold f_X7_forms at h
  refine lv_iload_n hx hb dX7_forms_0 rfl (lv_at hl 1 rfl) ?_
  obtain ⟨r21, hr22, h⟩ := hk_x1 h
  refine vp_callSi (W.runS (As := [.int x1]) (rest := []) ⟨hx, hb, hml, hown, hts⟩ (c_X7_noFigure l x1 _ hr22) (va_cwS 1 hts gX7_forms_X7_noFigure rfl rfl rfl zs_X7_noFigure ⟨Nat.le_of_ble_eq_true rfl, Nat.le_of_ble_eq_true rfl⟩) ⟨fun _ _ _ _ q => q, fun _ _ _ => ⟨rfl, trivial⟩⟩ rfl rfl hl.1 rfl (lv_room (Nat.le_of_ble_eq_true rfl)) dX7_forms_1 ⟨Nat.zero_le _, Nat.zero_le _⟩) (fun p24 e23 => ?_)
  rw [e23]
  refine lv_if_eq (tgt := 11) hx hb dX7_forms_4 (by decide) (fun c25 => ?_) (fun c25 => ?_)
  · replace h := hk_ip c25 h
    refine lv_aload_n hx hb dX7_forms_11 rfl (lv_at hl 0 rfl) ?_
    refine lv_aload_n hx hb dX7_forms_12 rfl (lv_at hl 0 rfl) ?_
    refine va_get (D := D) (ci := 3) (v := .ref a_this_now) (C := RX7) (T := TX7) (N := 5) hx hb hts zi_X7_forms_X7 hown hK.1 hP 0 rfl rfl 1 (by decide) (hts (.fieldLink RX7 19 "HalfAndHalfAgain" "now" "LHalfAndHalfAgain$Store;") (List.mem_of_getElem? (i := 1) rfl)) (fun _ h9 => h9) rfl dX7_forms_13 ?_
    refine va_get (D := D) (ci := 1) (v := .ref a_this_now_figures) (C := RX5) (T := TX5) (N := 4) hx hb hts zi_X7_forms_X5 hown hK.1 hP 1 rfl rfl 0 (by decide) (hts (.fieldLink RX7 62 "HalfAndHalfAgain$Store" "figures" "[J") (List.mem_of_getElem? (i := 2) rfl)) (fun _ h9 => h9) rfl dX7_forms_16 ?_
    refine lv_iload_n hx hb dX7_forms_19 rfl (lv_at hl 1 rfl) ?_
    obtain ⟨hi26, h⟩ := hk_ge h
    refine va_lald hx hb hK.1 hP 2 1 rfl rfl (hk_inb_of hi26) dX7_forms_20 ?_
    obtain ⟨r27, u28, hr29, h⟩ := hk_x2 h
    have hPc := hP.sub (ws' := [(a_this, .inr (3, [.ref a_this_text, .ref a_this_now, .ref a_this_slots, .ref a_this_cover, .ref a_this_formsSeen])), (a_this_formsSeen, .inl (cJ, 64, .inr (.inl c_this_formsSeen)))]) [0, 3] rfl
    have hDc := hD.sub (ws' := [(a_this, .inr (3, [.ref a_this_text, .ref a_this_now, .ref a_this_slots, .ref a_this_cover, .ref a_this_formsSeen])), (a_this_formsSeen, .inl (cJ, 64, .inr (.inl c_this_formsSeen)))]) [0, 3] (by decide) rfl
    have hFc := va_free (wc := [(a_this, .inr (3, [.ref a_this_text, .ref a_this_now, .ref a_this_slots, .ref a_this_cover, .ref a_this_formsSeen])), (a_this_formsSeen, .inl (cJ, 64, .inr (.inl c_this_formsSeen)))]) hD hS hA [0, 3] rfl
    refine va_calli (va_runV (As := [.long (c_this_now_figures x1.toNatClampNeg)]) (rest := []) ⟨hx, hb, hml, hown, hts⟩ (c_X7_countGrownForms l D cI cJ cZ cO a_this a_this_text a_this_now a_this_slots a_this_cover a_this_formsSeen s.heap.size c_this_formsSeen (c_this_now_figures x1.toNatClampNeg) _ _ hr29) (cwV 1 hts gX7_forms_X7_countGrownForms rfl rfl rfl zv_X7_countGrownForms ⟨Nat.le_of_ble_eq_true rfl, Nat.le_of_ble_eq_true rfl⟩) (hk_preMV 3 rfl hPc hDc hK rfl) rfl rfl hl.1 rfl (lv_room (Nat.le_of_ble_eq_true rfl)) dX7_forms_21 ⟨Nat.zero_le _, Nat.zero_le _⟩) hS (fun q _ h9 => hFc q h9) hFc (fun p30 u9 t9 H1 locs ht hvm hw hB hz1 hk1 hS => ?_)
    obtain ⟨hP1, hD1⟩ := hB
    rw [ht] at hP1
    rw [hw]
    obtain ⟨hP, hD⟩ := va_join (wr := [(a_this_now, .inr (1, [.ref a_this_now_figures, .ref a_this_now_pieces, .ref a_this_now_mayMirror, .int c_this_now_laid])), (a_this_now_figures, .inl (cJ, 8, .inr (.inl c_this_now_figures)))]) (w1 := [(a_this, .inr (3, [.ref a_this_text, .ref a_this_now, .ref a_this_slots, .ref a_this_cover, .ref a_this_formsSeen])), (a_this_formsSeen, .inl (cJ, 64, .inr (.inl u28)))]) hP hD [0, 3] [1, 2] rfl rfl (by decide) (by decide) hk1 hFc hP1 hD1
    generalize H1 = H at hP hS ⊢
    have hP := hP.sub (ws' := [(a_this, .inr (3, [.ref a_this_text, .ref a_this_now, .ref a_this_slots, .ref a_this_cover, .ref a_this_formsSeen])), (a_this_now, .inr (1, [.ref a_this_now_figures, .ref a_this_now_pieces, .ref a_this_now_mayMirror, .int c_this_now_laid])), (a_this_now_figures, .inl (cJ, 8, .inr (.inl c_this_now_figures))), (a_this_formsSeen, .inl (cJ, 64, .inr (.inl u28)))]) [2, 0, 1, 3] rfl
    have hD := hD.sub (ws' := [(a_this, .inr (3, [.ref a_this_text, .ref a_this_now, .ref a_this_slots, .ref a_this_cover, .ref a_this_formsSeen])), (a_this_now, .inr (1, [.ref a_this_now_figures, .ref a_this_now_pieces, .ref a_this_now_mayMirror, .int c_this_now_laid])), (a_this_now_figures, .inl (cJ, 8, .inr (.inl c_this_now_figures))), (a_this_formsSeen, .inl (cJ, 64, .inr (.inl u28)))]) [2, 0, 1, 3] (by decide) rfl
    subst hQ
    have h := Option.some.inj h
    simp only [Prod.mk.injEq] at h
    obtain ⟨rfl, rfl⟩ := h
    exact W.iret hx hb hr (fun t ht hW => ⟨⟨_, (), rfl, rfl, by rw [ht]; exact hP, hD⟩, hS.F ht⟩) hS.2.2 dX7_forms_24
  replace h := hk_in c25 h
  refine lv_iconst (v := (-1 : Int32)) hx hb dX7_forms_7 (by decide) ?_
  refine lv_goto (tgt := 24) hx hb dX7_forms_8 (by decide) ?_
  subst hQ
  have h := Option.some.inj h
  simp only [Prod.mk.injEq] at h
  obtain ⟨rfl, rfl⟩ := h
  exact W.iret hx hb hr (fun t ht hW => ⟨⟨_, (), rfl, rfl, by rw [ht]; exact hP, hD⟩, hS.F ht⟩) hS.2.2 dX7_forms_24
theorem zv_X7_grow : yX7_grow.cls = RX7 ∧ yX7_grow.cls ≠ "java/lang/invoke/MethodHandle" ∧ yX7_grow.cls ≠ "java/lang/invoke/VarHandle" ∧ (parseMethodDescriptor yX7_grow.desc).map (fun d => d.parameters.length) = some 2 := by decide +kernel
def f_X7_grow (c_this_now_figures : Nat → Int64)  (x1 : Int32) (x2 : Int32) : Option (Int32 × (Nat → Int64)) := hk_b1 (f_X7_noFigure x1) fun r21 => if r21 = 0 then (hk_gd (hk_inb x1 8) (hk_let (c_this_now_figures x1.toNatClampNeg) fun x27 => hk_b1 (f_X0_around x27) fun r28 => hk_b1 (f_X0_cellAt r28 x2) fun r32 => if r32 = (0 : Int64) then (some ((-9 : Int32), c_this_now_figures)) else (hk_gd (hk_inb x1 8) (hk_b1 (f_J13_bitCount_95d88 (r32 - (1 : Int64))) fun r38 => some (r38, (vp_updL c_this_now_figures x1.toNatClampNeg (x27 ||| r32))))))) else (some ((-1 : Int32), c_this_now_figures))
theorem zi_X7_grow_X7 : ∀ w ∈ u_ws RX7 TX7 5, w ∈ wsX7_grow := by decide +kernel
theorem zi_X7_grow_X5 : ∀ w ∈ u_ws RX5 TX5 4, w ∈ wsX7_grow := by decide +kernel
set_option maxHeartbeats 8000000 in
set_option maxRecDepth 100000 in
theorem c_X7_grow (l : Launch) (D : va_G) (cI cJ cZ cO : ClassId) (a_this a_this_text a_this_now a_this_slots a_this_cover a_this_formsSeen a_this_now_figures a_this_now_pieces a_this_now_mayMirror : Nat) (sz : Nat) (c_this_now_laid : Int32) (c_this_now_figures : Nat → Int64) (x1 : Int32) (x2 : Int32) (rv : Int32) (u_this_now_figures : Nat → Int64) (hf : f_X7_grow c_this_now_figures x1 x2 = some (rv, u_this_now_figures)) : Met l yX7_grow wsX7_grow ({ frames := 3, cells := 0, slots := 0, locals := 63 }) (va_Pc [.ref a_this, .int x1, .int x2] (hkM D cI cJ cZ cO [(a_this, .inr (3, [.ref a_this_text, .ref a_this_now, .ref a_this_slots, .ref a_this_cover, .ref a_this_formsSeen])), (a_this_now, .inr (1, [.ref a_this_now_figures, .ref a_this_now_pieces, .ref a_this_now_mayMirror, .int c_this_now_laid])), (a_this_now_figures, .inl (cJ, 8, .inr (.inl c_this_now_figures)))] sz)) (va_Qi (fun r (_ : Unit) => r = rv) (fun _ t => va_P D vwCl [(a_this, .inr (3, [.ref a_this_text, .ref a_this_now, .ref a_this_slots, .ref a_this_cover, .ref a_this_formsSeen])), (a_this_now, .inr (1, [.ref a_this_now_figures, .ref a_this_now_pieces, .ref a_this_now_mayMirror, .int c_this_now_laid])), (a_this_now_figures, .inl (cJ, 8, .inr (.inl u_this_now_figures)))] t.heap ∧ va_D (va_A [(a_this, .inr (3, [.ref a_this_text, .ref a_this_now, .ref a_this_slots, .ref a_this_cover, .ref a_this_formsSeen])), (a_this_now, .inr (1, [.ref a_this_now_figures, .ref a_this_now_pieces, .ref a_this_now_mayMirror, .int c_this_now_laid])), (a_this_now_figures, .inl (cJ, 8, .inr (.inl c_this_now_figures)))] sz) [(a_this, .inr (3, [.ref a_this_text, .ref a_this_now, .ref a_this_slots, .ref a_this_cover, .ref a_this_formsSeen])), (a_this_now, .inr (1, [.ref a_this_now_figures, .ref a_this_now_pieces, .ref a_this_now_mayMirror, .int c_this_now_laid])), (a_this_now_figures, .inl (cJ, 8, .inr (.inl u_this_now_figures)))]) (va_A [(a_this, .inr (3, [.ref a_this_text, .ref a_this_now, .ref a_this_slots, .ref a_this_cover, .ref a_this_formsSeen])), (a_this_now, .inr (1, [.ref a_this_now_figures, .ref a_this_now_pieces, .ref a_this_now_mayMirror, .int c_this_now_laid])), (a_this_now_figures, .inl (cJ, 8, .inr (.inl c_this_now_figures)))] sz)) 0 0 (va_A [(a_this, .inr (3, [.ref a_this_text, .ref a_this_now, .ref a_this_slots, .ref a_this_cover, .ref a_this_formsSeen])), (a_this_now, .inr (1, [.ref a_this_now_figures, .ref a_this_now_pieces, .ref a_this_now_mayMirror, .int c_this_now_laid])), (a_this_now_figures, .inl (cJ, 8, .inr (.inl c_this_now_figures)))] sz) := by
  refine Met.ofW (cc := cX7_grow) (maxL := 7) (ret := (some .int)) (by decide) rfl ?_
  intro p e s m args below meth c s₁ B hml hv
  obtain ⟨rfl, hsz, hP, hK, hD0⟩ := hv
  have hx := B.exec
  have hb := B.bytes
  have hr := B.returns
  have hts := atoms_spec (ws := wsX7_grow) B.pre
  have hown : s.vm.findClass RX7 = some m.cls := findClass_of_methodNamed B.named
  have hlocks := B.notSynchronized
  have hN := hK.2
  subst hsz
  have hD := hD0.self (sz := s.heap.size)
  generalize hAe : va_A [(a_this, .inr (3, [.ref a_this_text, .ref a_this_now, .ref a_this_slots, .ref a_this_cover, .ref a_this_formsSeen])), (a_this_now, .inr (1, [.ref a_this_now_figures, .ref a_this_now_pieces, .ref a_this_now_mayMirror, .int c_this_now_laid])), (a_this_now_figures, .inl (cJ, 8, .inr (.inl c_this_now_figures)))] s.heap.size = A at hD ⊢
  have hA : ∀ q : Nat, s.heap.size ≤ q → A q := fun q h => by rw [← hAe]; exact Or.inr h
  have hS : va_S A s.heap s.heap [] := va_S.rf
  have hl := lv_entry ([.ref a_this, .int x1, .int x2]) (n := 7) (Nat.le_of_ble_eq_true rfl)
  rw [lg_entry_eq]
  generalize (lg_sl ([.ref a_this, .int x1, .int x2]) ++ List.replicate (7 - (lg_sl ([.ref a_this, .int x1, .int x2])).length) Slot.unset).toArray = ls at hl ⊢
  have hl : lv_has ls 7 [(0, .ref a_this), (1, .int x1), (2, .int x2)] := hl
  refine hk_Q (fun Q hQ => ?_)
  have h := hf
  unfold f_X7_grow at h
  refine lv_iload_n hx hb dX7_grow_0 rfl (lv_at hl 1 rfl) ?_
  obtain ⟨r21, hr22, h⟩ := hk_x1 h
  refine vp_callSi (W.runS (As := [.int x1]) (rest := []) ⟨hx, hb, hml, hown, hts⟩ (c_X7_noFigure l x1 _ hr22) (va_cwS 1 hts gX7_grow_X7_noFigure rfl rfl rfl zs_X7_noFigure ⟨Nat.le_of_ble_eq_true rfl, Nat.le_of_ble_eq_true rfl⟩) ⟨fun _ _ _ _ q => q, fun _ _ _ => ⟨rfl, trivial⟩⟩ rfl rfl hl.1 rfl (lv_room (Nat.le_of_ble_eq_true rfl)) dX7_grow_1 ⟨Nat.zero_le _, Nat.zero_le _⟩) (fun p24 e23 => ?_)
  rw [e23]
  refine lv_if_eq (tgt := 9) hx hb dX7_grow_4 (by decide) (fun c25 => ?_) (fun c25 => ?_)
  · replace h := hk_ip c25 h
    refine lv_aload_n hx hb dX7_grow_9 rfl (lv_at hl 0 rfl) ?_
    refine va_get (D := D) (ci := 3) (v := .ref a_this_now) (C := RX7) (T := TX7) (N := 5) hx hb hts zi_X7_grow_X7 hown hK.1 hP 0 rfl rfl 1 (by decide) (hts (.fieldLink RX7 19 "HalfAndHalfAgain" "now" "LHalfAndHalfAgain$Store;") (List.mem_of_getElem? (i := 1) rfl)) (fun _ h9 => h9) rfl dX7_grow_10 ?_
    refine va_get (D := D) (ci := 1) (v := .ref a_this_now_figures) (C := RX5) (T := TX5) (N := 4) hx hb hts zi_X7_grow_X5 hown hK.1 hP 1 rfl rfl 0 (by decide) (hts (.fieldLink RX7 62 "HalfAndHalfAgain$Store" "figures" "[J") (List.mem_of_getElem? (i := 2) rfl)) (fun _ h9 => h9) rfl dX7_grow_13 ?_
    refine lv_iload_n hx hb dX7_grow_16 rfl (lv_at hl 1 rfl) ?_
    obtain ⟨hi26, h⟩ := hk_ge h
    refine va_lald hx hb hK.1 hP 2 1 rfl rfl (hk_inb_of hi26) dX7_grow_17 ?_
    obtain ⟨x27, ex27, h⟩ := hk_le h
    refine hk_tl ex27 ?_
    refine lv_lstore_n (lv' := [(3, .long x27), (0, .ref a_this), (1, .int x1), (2, .int x2)]) hx hb dX7_grow_18 rfl hl (by decide) rfl (fun ls hl => ?_)
    refine lv_lload_n hx hb dX7_grow_19 rfl (lv_at hl 0 rfl) ?_
    obtain ⟨r28, hr29, h⟩ := hk_x1 h
    refine vp_callSl (W.runS (As := [.long x27]) (rest := []) ⟨hx, hb, hml, hown, hts⟩ (c_X0_around l x27 _ hr29) (va_cwS 1 hts gX7_grow_X0_around rfl rfl rfl zs_X0_around ⟨Nat.le_of_ble_eq_true rfl, Nat.le_of_ble_eq_true rfl⟩) ⟨fun _ _ _ _ q => q, fun _ _ _ => ⟨rfl, trivial⟩⟩ rfl rfl hl.1 rfl (lv_room (Nat.le_of_ble_eq_true rfl)) dX7_grow_20 ⟨Nat.zero_le _, Nat.zero_le _⟩) (fun p31 e30 => ?_)
    rw [e30]
    refine lv_iload_n hx hb dX7_grow_23 rfl (lv_at hl 3 rfl) ?_
    obtain ⟨r32, hr33, h⟩ := hk_x1 h
    refine vp_callSl (W.runS (As := [.long r28, .int x2]) (rest := []) ⟨hx, hb, hml, hown, hts⟩ (c_X0_cellAt l r28 x2 _ hr33) (va_cwS 2 hts gX7_grow_X0_cellAt rfl rfl rfl zs_X0_cellAt ⟨Nat.le_of_ble_eq_true rfl, Nat.le_of_ble_eq_true rfl⟩) ⟨fun _ _ _ _ q => q, fun _ _ _ => ⟨rfl, trivial⟩⟩ rfl rfl hl.1 rfl (lv_room (Nat.le_of_ble_eq_true rfl)) dX7_grow_24 ⟨Nat.zero_le _, Nat.zero_le _⟩) (fun p35 e34 => ?_)
    rw [e34]
    refine lv_lstore (lv' := [(5, .long r32), (3, .long x27), (0, .ref a_this), (1, .int x1), (2, .int x2)]) hx hb dX7_grow_27 hl (by decide) rfl (fun ls hl => ?_)
    refine lv_lload hx hb dX7_grow_29 (lv_at hl 0 rfl) ?_
    refine lv_lconst (v := (0 : Int64)) hx hb dX7_grow_31 (by decide) ?_
    refine hk_lcmp_ne (tgt := 39) hx hb dX7_grow_32 dX7_grow_33 (by decide) (fun c36 => ?_) (fun c36 => ?_)
    · replace h := hk_in c36 h
      refine lv_aload_n hx hb dX7_grow_39 rfl (lv_at hl 2 rfl) ?_
      refine va_get (D := D) (ci := 3) (v := .ref a_this_now) (C := RX7) (T := TX7) (N := 5) hx hb hts zi_X7_grow_X7 hown hK.1 hP 0 rfl rfl 1 (by decide) (hts (.fieldLink RX7 19 "HalfAndHalfAgain" "now" "LHalfAndHalfAgain$Store;") (List.mem_of_getElem? (i := 1) rfl)) (fun _ h9 => h9) rfl dX7_grow_40 ?_
      refine va_get (D := D) (ci := 1) (v := .ref a_this_now_figures) (C := RX5) (T := TX5) (N := 4) hx hb hts zi_X7_grow_X5 hown hK.1 hP 1 rfl rfl 0 (by decide) (hts (.fieldLink RX7 62 "HalfAndHalfAgain$Store" "figures" "[J") (List.mem_of_getElem? (i := 2) rfl)) (fun _ h9 => h9) rfl dX7_grow_43 ?_
      refine lv_iload_n hx hb dX7_grow_46 rfl (lv_at hl 3 rfl) ?_
      refine lv_lload_n hx hb dX7_grow_47 rfl (lv_at hl 1 rfl) ?_
      refine lv_lload hx hb dX7_grow_48 (lv_at hl 0 rfl) ?_
      refine lv_lor hx hb dX7_grow_50 ?_
      obtain ⟨hi37, h⟩ := hk_ge h
      refine va_last hx hb hK.1 hP hD hS 2 1 rfl rfl (hk_inb_of hi37) dX7_grow_51 (fun H locs hP hD hS => ?_)
      have hP : va_P D vwCl [(a_this, .inr (3, [.ref a_this_text, .ref a_this_now, .ref a_this_slots, .ref a_this_cover, .ref a_this_formsSeen])), (a_this_now, .inr (1, [.ref a_this_now_figures, .ref a_this_now_pieces, .ref a_this_now_mayMirror, .int c_this_now_laid])), (a_this_now_figures, .inl (cJ, 8, .inr (.inl (vp_updL c_this_now_figures x1.toNatClampNeg (x27 ||| r32)))))] H := hP
      have hD : va_D A [(a_this, .inr (3, [.ref a_this_text, .ref a_this_now, .ref a_this_slots, .ref a_this_cover, .ref a_this_formsSeen])), (a_this_now, .inr (1, [.ref a_this_now_figures, .ref a_this_now_pieces, .ref a_this_now_mayMirror, .int c_this_now_laid])), (a_this_now_figures, .inl (cJ, 8, .inr (.inl (vp_updL c_this_now_figures x1.toNatClampNeg (x27 ||| r32)))))] := hD
      refine lv_lload hx hb dX7_grow_52 (lv_at hl 0 rfl) ?_
      refine lv_lconst (v := (1 : Int64)) hx hb dX7_grow_54 (by decide) ?_
      refine lv_lsub hx hb dX7_grow_55 ?_
      obtain ⟨r38, hr39, h⟩ := hk_x1 h
      refine vp_callSi (W.runS (As := [.long (r32 - (1 : Int64))]) (rest := []) ⟨hx, hb, hml, hown, hts⟩ (c_J13_bitCount_95d88 l (r32 - (1 : Int64)) _ hr39) (va_cwS 1 hts gX7_grow_J13_bitCount_95d88 rfl rfl rfl zs_J13_bitCount_95d88 ⟨Nat.le_of_ble_eq_true rfl, Nat.le_of_ble_eq_true rfl⟩) ⟨fun _ _ _ _ q => q, fun _ _ _ => ⟨rfl, trivial⟩⟩ rfl rfl hl.1 rfl (lv_room (Nat.le_of_ble_eq_true rfl)) dX7_grow_56 ⟨Nat.zero_le _, Nat.zero_le _⟩) (fun p41 e40 => ?_)
      rw [e40]
      subst hQ
      have h := Option.some.inj h
      simp only [Prod.mk.injEq] at h
      obtain ⟨rfl, rfl⟩ := h
      exact W.iret hx hb hr (fun t ht hW => ⟨⟨_, (), rfl, rfl, by rw [ht]; exact hP, hD⟩, hS.F ht⟩) hS.2.2 dX7_grow_59
    replace h := hk_ip c36 h
    refine lv_bipush (v := (-9 : Int32)) hx hb dX7_grow_36 (by decide) ?_
    subst hQ
    have h := Option.some.inj h
    simp only [Prod.mk.injEq] at h
    obtain ⟨rfl, rfl⟩ := h
    exact W.iret hx hb hr (fun t ht hW => ⟨⟨_, (), rfl, rfl, by rw [ht]; exact hP, hD⟩, hS.F ht⟩) hS.2.2 dX7_grow_38
  replace h := hk_in c25 h
  refine lv_iconst (v := (-1 : Int32)) hx hb dX7_grow_7 (by decide) ?_
  subst hQ
  have h := Option.some.inj h
  simp only [Prod.mk.injEq] at h
  obtain ⟨rfl, rfl⟩ := h
  exact W.iret hx hb hr (fun t ht hW => ⟨⟨_, (), rfl, rfl, by rw [ht]; exact hP, hD⟩, hS.F ht⟩) hS.2.2 dX7_grow_8
theorem zv_X7_count : yX7_count.cls = RX7 ∧ yX7_count.cls ≠ "java/lang/invoke/MethodHandle" ∧ yX7_count.cls ≠ "java/lang/invoke/VarHandle" ∧ (parseMethodDescriptor yX7_count.desc).map (fun d => d.parameters.length) = some 1 := by decide +kernel
def f_X7_count (c_this_now_laid : Int32) (c_this_text_length : Int32) (c_this_now_figures : Nat → Int64)  (x1 : Int32) : Option Int32 := if x1 = (0 : Int32) then (some c_this_text_length) else (if x1 = (1 : Int32) then (some c_this_now_laid) else (if x1 = (2 : Int32) then (hk_b1 (f_X5_countFilled c_this_now_figures) fun r24 => some r24) else (if x1 = (3 : Int32) then (hk_b1 (f_X5_countCells c_this_now_figures) fun r29 => some r29) else (some (-2 : Int32)))))
theorem zi_X7_count_X7 : ∀ w ∈ u_ws RX7 TX7 5, w ∈ wsX7_count := by decide +kernel
theorem zi_X7_count_X6 : ∀ w ∈ u_ws RX6 TX6 2, w ∈ wsX7_count := by decide +kernel
theorem zi_X7_count_X5 : ∀ w ∈ u_ws RX5 TX5 4, w ∈ wsX7_count := by decide +kernel
set_option maxHeartbeats 8000000 in
set_option maxRecDepth 100000 in
theorem c_X7_count (l : Launch) (D : va_G) (cI cJ cZ cO : ClassId) (a_this a_this_text a_this_now a_this_slots a_this_cover a_this_formsSeen a_this_now_figures a_this_now_pieces a_this_now_mayMirror a_this_text_bytes : Nat) (c_this_now_laid : Int32) (c_this_text_length : Int32) (c_this_now_figures : Nat → Int64) (x1 : Int32) (rv : Int32) (hf : f_X7_count c_this_now_laid c_this_text_length c_this_now_figures x1 = some rv) : Met l yX7_count wsX7_count ({ frames := 2, cells := 0, slots := 0, locals := 43 }) (va_Pc [.ref a_this, .int x1] (hkR D cI cJ cZ cO [(a_this, .inr (3, [.ref a_this_text, .ref a_this_now, .ref a_this_slots, .ref a_this_cover, .ref a_this_formsSeen])), (a_this_now, .inr (1, [.ref a_this_now_figures, .ref a_this_now_pieces, .ref a_this_now_mayMirror, .int c_this_now_laid])), (a_this_now_figures, .inl (cJ, 8, .inr (.inl c_this_now_figures))), (a_this_text, .inr (2, [.ref a_this_text_bytes, .int c_this_text_length]))])) (vp_Si (fun r => r = rv)) 0 0 (fun _ => False) := by
  refine Met.ofW (cc := cX7_count) (maxL := 2) (ret := (some .int)) (by decide) rfl ?_
  intro p e s m args below meth c s₁ B hml hv
  obtain ⟨rfl, hP, hK⟩ := hv
  have hx := B.exec
  have hb := B.bytes
  have hr := B.returns
  have hts := atoms_spec (ws := wsX7_count) B.pre
  have hown : s.vm.findClass RX7 = some m.cls := findClass_of_methodNamed B.named
  have hlocks := B.notSynchronized
  have hN := hK.2
  have hl := lv_entry ([.ref a_this, .int x1]) (n := 2) (Nat.le_of_ble_eq_true rfl)
  rw [lg_entry_eq]
  generalize (lg_sl ([.ref a_this, .int x1]) ++ List.replicate (2 - (lg_sl ([.ref a_this, .int x1])).length) Slot.unset).toArray = ls at hl ⊢
  have hl : lv_has ls 2 [(0, .ref a_this), (1, .int x1)] := hl
  refine hk_Q (fun Q hQ => ?_)
  have h := hf
  unfold f_X7_count at h
  refine lv_iload_n hx hb dX7_count_0 rfl (lv_at hl 1 rfl) ?_
  by_cases c21 : x1 = (0 : Int32)
  · replace h := hk_ip c21 h
    refine lv_tableIn (off := 31) (tgt := 32) hx hb dX7_count_1 (by rw [c21]; decide) (by rw [c21]; decide) (by rw [c21]; rfl) (by decide) ?_
    refine lv_aload_n hx hb dX7_count_32 rfl (lv_at hl 0 rfl) ?_
    refine va_get (D := D) (ci := 3) (v := .ref a_this_text) (C := RX7) (T := TX7) (N := 5) hx hb hts zi_X7_count_X7 hown hK.1 hP 0 rfl rfl 0 (by decide) (hts (.fieldLink RX7 10 "HalfAndHalfAgain" "text" "LHalfAndHalfAgain$Text;") (List.mem_of_getElem? (i := 1) rfl)) (fun _ h9 => h9) rfl dX7_count_33 ?_
    refine va_get (D := D) (ci := 2) (v := .int c_this_text_length) (C := RX6) (T := TX6) (N := 2) hx hb hts zi_X7_count_X6 hown hK.1 hP 3 rfl rfl 1 (by decide) (hts (.fieldLink RX7 38 "HalfAndHalfAgain$Text" "length" "I") (List.mem_of_getElem? (i := 2) rfl)) (fun _ h9 => h9) rfl dX7_count_36 ?_
    subst hQ
    exact W.iret hx hb hr (fun t ht hW => ⟨_, rfl, Option.some.inj h, ht⟩) (fun _ h9 => by cases h9) dX7_count_39
  replace h := hk_in c21 h
  by_cases c22 : x1 = (1 : Int32)
  · replace h := hk_ip c22 h
    refine lv_tableIn (off := 39) (tgt := 40) hx hb dX7_count_1 (by rw [c22]; decide) (by rw [c22]; decide) (by rw [c22]; rfl) (by decide) ?_
    refine lv_aload_n hx hb dX7_count_40 rfl (lv_at hl 0 rfl) ?_
    refine va_get (D := D) (ci := 3) (v := .ref a_this_now) (C := RX7) (T := TX7) (N := 5) hx hb hts zi_X7_count_X7 hown hK.1 hP 0 rfl rfl 1 (by decide) (hts (.fieldLink RX7 19 "HalfAndHalfAgain" "now" "LHalfAndHalfAgain$Store;") (List.mem_of_getElem? (i := 3) rfl)) (fun _ h9 => h9) rfl dX7_count_41 ?_
    refine va_get (D := D) (ci := 1) (v := .int c_this_now_laid) (C := RX5) (T := TX5) (N := 4) hx hb hts zi_X7_count_X5 hown hK.1 hP 1 rfl rfl 3 (by decide) (hts (.fieldLink RX7 148 "HalfAndHalfAgain$Store" "laid" "I") (List.mem_of_getElem? (i := 4) rfl)) (fun _ h9 => h9) rfl dX7_count_44 ?_
    subst hQ
    exact W.iret hx hb hr (fun t ht hW => ⟨_, rfl, Option.some.inj h, ht⟩) (fun _ h9 => by cases h9) dX7_count_47
  replace h := hk_in c22 h
  by_cases c23 : x1 = (2 : Int32)
  · replace h := hk_ip c23 h
    refine lv_tableIn (off := 47) (tgt := 48) hx hb dX7_count_1 (by rw [c23]; decide) (by rw [c23]; decide) (by rw [c23]; rfl) (by decide) ?_
    refine lv_aload_n hx hb dX7_count_48 rfl (lv_at hl 0 rfl) ?_
    refine va_get (D := D) (ci := 3) (v := .ref a_this_now) (C := RX7) (T := TX7) (N := 5) hx hb hts zi_X7_count_X7 hown hK.1 hP 0 rfl rfl 1 (by decide) (hts (.fieldLink RX7 19 "HalfAndHalfAgain" "now" "LHalfAndHalfAgain$Store;") (List.mem_of_getElem? (i := 3) rfl)) (fun _ h9 => h9) rfl dX7_count_49 ?_
    obtain ⟨r24, hr25, h⟩ := hk_x1 h
    refine vp_callSi (W.runV (As := []) (rest := []) ⟨hx, hb, hml, hown, hts⟩ (c_X5_countFilled l D cI cJ cZ cO a_this_now a_this_now_figures a_this_now_pieces a_this_now_mayMirror c_this_now_laid c_this_now_figures _ hr25) (cwV 0 hts gX7_count_X5_countFilled rfl rfl rfl zv_X5_countFilled ⟨Nat.le_of_ble_eq_true rfl, Nat.le_of_ble_eq_true rfl⟩) (hk_preRV 1 rfl (hP.sub (ws' := [(a_this_now, .inr (1, [.ref a_this_now_figures, .ref a_this_now_pieces, .ref a_this_now_mayMirror, .int c_this_now_laid])), (a_this_now_figures, .inl (cJ, 8, .inr (.inl c_this_now_figures)))]) [1, 2] rfl) hK rfl) rfl rfl hl.1 rfl (lv_room (Nat.le_of_ble_eq_true rfl)) dX7_count_52 ⟨Nat.zero_le _, Nat.zero_le _⟩) (fun p27 e26 => ?_)
    rw [e26]
    subst hQ
    exact W.iret hx hb hr (fun t ht hW => ⟨_, rfl, Option.some.inj h, ht⟩) (fun _ h9 => by cases h9) dX7_count_55
  replace h := hk_in c23 h
  by_cases c28 : x1 = (3 : Int32)
  · replace h := hk_ip c28 h
    refine lv_tableIn (off := 55) (tgt := 56) hx hb dX7_count_1 (by rw [c28]; decide) (by rw [c28]; decide) (by rw [c28]; rfl) (by decide) ?_
    refine lv_aload_n hx hb dX7_count_56 rfl (lv_at hl 0 rfl) ?_
    refine va_get (D := D) (ci := 3) (v := .ref a_this_now) (C := RX7) (T := TX7) (N := 5) hx hb hts zi_X7_count_X7 hown hK.1 hP 0 rfl rfl 1 (by decide) (hts (.fieldLink RX7 19 "HalfAndHalfAgain" "now" "LHalfAndHalfAgain$Store;") (List.mem_of_getElem? (i := 3) rfl)) (fun _ h9 => h9) rfl dX7_count_57 ?_
    obtain ⟨r29, hr30, h⟩ := hk_x1 h
    refine vp_callSi (W.runV (As := []) (rest := []) ⟨hx, hb, hml, hown, hts⟩ (c_X5_countCells l D cI cJ cZ cO a_this_now a_this_now_figures a_this_now_pieces a_this_now_mayMirror c_this_now_laid c_this_now_figures _ hr30) (cwV 0 hts gX7_count_X5_countCells rfl rfl rfl zv_X5_countCells ⟨Nat.le_of_ble_eq_true rfl, Nat.le_of_ble_eq_true rfl⟩) (hk_preRV 1 rfl (hP.sub (ws' := [(a_this_now, .inr (1, [.ref a_this_now_figures, .ref a_this_now_pieces, .ref a_this_now_mayMirror, .int c_this_now_laid])), (a_this_now_figures, .inl (cJ, 8, .inr (.inl c_this_now_figures)))]) [1, 2] rfl) hK rfl) rfl rfl hl.1 rfl (lv_room (Nat.le_of_ble_eq_true rfl)) dX7_count_60 ⟨Nat.zero_le _, Nat.zero_le _⟩) (fun p32 e31 => ?_)
    rw [e31]
    subst hQ
    exact W.iret hx hb hr (fun t ht hW => ⟨_, rfl, Option.some.inj h, ht⟩) (fun _ h9 => by cases h9) dX7_count_63
  replace h := hk_in c28 h
  refine lv_tableOut (tgt := 64) hx hb dX7_count_1 (hk_out4 c21 c22 c23 c28) (by decide) ?_
  refine lv_bipush (v := (-2 : Int32)) hx hb dX7_count_64 (by decide) ?_
  subst hQ
  exact W.iret hx hb hr (fun t ht hW => ⟨_, rfl, Option.some.inj h, ht⟩) (fun _ h9 => by cases h9) dX7_count_66
