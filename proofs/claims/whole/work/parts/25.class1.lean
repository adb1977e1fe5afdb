/-! walks printed by wip/whole/gen.py -/
theorem zv_X7_write : yX7_write.cls = RX7 ∧ yX7_write.cls ≠ "java/lang/invoke/MethodHandle" ∧ yX7_write.cls ≠ "java/lang/invoke/VarHandle" ∧ (parseMethodDescriptor yX7_write.desc).map (fun d => d.parameters.length) = some 2 := by decide +kernel
def f_X7_write (c_this_text_length : Int32) (c_this_text_bytes : Nat → Int32)  (x1 : Int32) (x2 : Int64) : Option (Int32 × Int32 × (Nat → Int32)) := if x1 < (1 : Int32) then (some ((-2 : Int32), c_this_text_length, c_this_text_bytes)) else (if x1 ≤ (8 : Int32) then (if (c_this_text_length + x1) ≤ (16 : Int32) then (hk_b2 (f_X6_append c_this_text_length c_this_text_bytes x1 x2) fun u24 u25 => some (u24, u24, u25)) else (some ((-4 : Int32), c_this_text_length, c_this_text_bytes))) else (some ((-2 : Int32), c_this_text_length, c_this_text_bytes)))
theorem zi_X7_write_X7 : ∀ w ∈ u_ws RX7 TX7 5, w ∈ wsX7_write := by decide +kernel
theorem zi_X7_write_X6 : ∀ w ∈ u_ws RX6 TX6 2, w ∈ wsX7_write := by decide +kernel
set_option maxHeartbeats 8000000 in
set_option maxRecDepth 100000 in
theorem c_X7_write (l : Launch) (D : va_G) (cI cJ cZ cO : ClassId) (a_this a_this_text a_this_now a_this_slots a_this_cover a_this_formsSeen a_this_text_bytes : Nat) (sz : Nat) (c_this_text_length : Int32) (c_this_text_bytes : Nat → Int32) (x1 : Int32) (x2 : Int64) (rv : Int32) (u_this_text_length : Int32) (u_this_text_bytes : Nat → Int32) (hf : f_X7_write c_this_text_length c_this_text_bytes x1 x2 = some (rv, u_this_text_length, u_this_text_bytes)) : Met l yX7_write wsX7_write ({ frames := 1, cells := 0, slots := 0, locals := 24 }) (va_Pc [.ref a_this, .int x1, .long x2] (hkM D cI cJ cZ cO [(a_this, .inr (3, [.ref a_this_text, .ref a_this_now, .ref a_this_slots, .ref a_this_cover, .ref a_this_formsSeen])), (a_this_text, .inr (2, [.ref a_this_text_bytes, .int c_this_text_length])), (a_this_text_bytes, .inl (cI, 16, .inl c_this_text_bytes))] sz)) (va_Qi (fun r (_ : Unit) => r = rv) (fun _ t => va_P D vwCl [(a_this, .inr (3, [.ref a_this_text, .ref a_this_now, .ref a_this_slots, .ref a_this_cover, .ref a_this_formsSeen])), (a_this_text, .inr (2, [.ref a_this_text_bytes, .int u_this_text_length])), (a_this_text_bytes, .inl (cI, 16, .inl u_this_text_bytes))] t.heap ∧ va_D (va_A [(a_this, .inr (3, [.ref a_this_text, .ref a_this_now, .ref a_this_slots, .ref a_this_cover, .ref a_this_formsSeen])), (a_this_text, .inr (2, [.ref a_this_text_bytes, .int c_this_text_length])), (a_this_text_bytes, .inl (cI, 16, .inl c_this_text_bytes))] sz) [(a_this, .inr (3, [.ref a_this_text, .ref a_this_now, .ref a_this_slots, .ref a_this_cover, .ref a_this_formsSeen])), (a_this_text, .inr (2, [.ref a_this_text_bytes, .int u_this_text_length])), (a_this_text_bytes, .inl (cI, 16, .inl u_this_text_bytes))]) (va_A [(a_this, .inr (3, [.ref a_this_text, .ref a_this_now, .ref a_this_slots, .ref a_this_cover, .ref a_this_formsSeen])), (a_this_text, .inr (2, [.ref a_this_text_bytes, .int c_this_text_length])), (a_this_text_bytes, .inl (cI, 16, .inl c_this_text_bytes))] sz)) 0 0 (va_A [(a_this, .inr (3, [.ref a_this_text, .ref a_this_now, .ref a_this_slots, .ref a_this_cover, .ref a_this_formsSeen])), (a_this_text, .inr (2, [.ref a_this_text_bytes, .int c_this_text_length])), (a_this_text_bytes, .inl (cI, 16, .inl c_this_text_bytes))] sz) := by
  refine Met.ofW (cc := cX7_write) (maxL := 4) (ret := (some .int)) (by decide) rfl ?_
  intro p e s m args below meth c s₁ B hml hv
  obtain ⟨rfl, hsz, hP, hK, hD0⟩ := hv
  have hx := B.exec
  have hb := B.bytes
  have hr := B.returns
  have hts := atoms_spec (ws := wsX7_write) B.pre
  have hown : s.vm.findClass RX7 = some m.cls := findClass_of_methodNamed B.named
  have hlocks := B.notSynchronized
  have hN := hK.2
  subst hsz
  have hD := hD0.self (sz := s.heap.size)
  generalize hAe : va_A [(a_this, .inr (3, [.ref a_this_text, .ref a_this_now, .ref a_this_slots, .ref a_this_cover, .ref a_this_formsSeen])), (a_this_text, .inr (2, [.ref a_this_text_bytes, .int c_this_text_length])), (a_this_text_bytes, .inl (cI, 16, .inl c_this_text_bytes))] s.heap.size = A at hD ⊢
  have hA : ∀ q : Nat, s.heap.size ≤ q → A q := fun q h => by rw [← hAe]; exact Or.inr h
  have hS : va_S A s.heap s.heap [] := va_S.rf
  have hl := lv_entry ([.ref a_this, .int x1, .long x2]) (n := 4) (Nat.le_of_ble_eq_true rfl)
  rw [lg_entry_eq]
  generalize (lg_sl ([.ref a_this, .int x1, .long x2]) ++ List.replicate (4 - (lg_sl ([.ref a_this, .int x1, .long x2])).length) Slot.unset).toArray = ls at hl ⊢
  have hl : lv_has ls 4 [(0, .ref a_this), (1, .int x1), (2, .long x2)] := hl
  refine hk_Q (fun Q hQ => ?_)
  have h := hf
  unfold f_X7_write at h
  refine lv_iload_n hx hb dX7_write_0 rfl (lv_at hl 1 rfl) ?_
  refine lv_iconst (v := (1 : Int32)) hx hb dX7_write_1 (by decide) ?_
  refine lv_icmp_lt (tgt := 11) hx hb dX7_write_2 (by decide) (fun c21 => ?_) (fun c21 => ?_)
  · replace h := hk_ip c21 h
    refine lv_bipush (v := (-2 : Int32)) hx hb dX7_write_11 (by decide) ?_
    subst hQ
    have h := Option.some.inj h
    simp only [Prod.mk.injEq] at h
    obtain ⟨rfl, rfl, rfl⟩ := h
    exact W.iret hx hb hr (fun t ht hW => ⟨⟨_, (), rfl, rfl, by rw [ht]; exact hP, hD⟩, hS.F ht⟩) hS.2.2 dX7_write_13
  replace h := hk_in c21 h
  refine lv_iload_n hx hb dX7_write_5 rfl (lv_at hl 1 rfl) ?_
  refine lv_bipush (v := (8 : Int32)) hx hb dX7_write_6 (by decide) ?_
  refine lv_icmp_le (tgt := 14) hx hb dX7_write_8 (by decide) (fun c22 => ?_) (fun c22 => ?_)
  · replace h := hk_ip c22 h
    refine lv_aload_n hx hb dX7_write_14 rfl (lv_at hl 0 rfl) ?_
    refine va_get (D := D) (ci := 3) (v := .ref a_this_text) (C := RX7) (T := TX7) (N := 5) hx hb hts zi_X7_write_X7 hown hK.1 hP 0 rfl rfl 0 (by decide) (hts (.fieldLink RX7 10 "HalfAndHalfAgain" "text" "LHalfAndHalfAgain$Text;") (List.mem_of_getElem? (i := 1) rfl)) (fun _ h9 => h9) rfl dX7_write_15 ?_
    refine va_get (D := D) (ci := 2) (v := .int c_this_text_length) (C := RX6) (T := TX6) (N := 2) hx hb hts zi_X7_write_X6 hown hK.1 hP 1 rfl rfl 1 (by decide) (hts (.fieldLink RX7 38 "HalfAndHalfAgain$Text" "length" "I") (List.mem_of_getElem? (i := 2) rfl)) (fun _ h9 => h9) rfl dX7_write_18 ?_
    refine lv_iload_n hx hb dX7_write_21 rfl (lv_at hl 1 rfl) ?_
    refine lv_iadd hx hb dX7_write_22 ?_
    refine lv_bipush (v := (16 : Int32)) hx hb dX7_write_23 (by decide) ?_
    refine lv_icmp_le (tgt := 31) hx hb dX7_write_25 (by decide) (fun c23 => ?_) (fun c23 => ?_)
    · replace h := hk_ip c23 h
      refine lv_aload_n hx hb dX7_write_31 rfl (lv_at hl 0 rfl) ?_
      refine va_get (D := D) (ci := 3) (v := .ref a_this_text) (C := RX7) (T := TX7) (N := 5) hx hb hts zi_X7_write_X7 hown hK.1 hP 0 rfl rfl 0 (by decide) (hts (.fieldLink RX7 10 "HalfAndHalfAgain" "text" "LHalfAndHalfAgain$Text;") (List.mem_of_getElem? (i := 1) rfl)) (fun _ h9 => h9) rfl dX7_write_32 ?_
      refine lv_iload_n hx hb dX7_write_35 rfl (lv_at hl 1 rfl) ?_
      refine lv_lload_n hx hb dX7_write_36 rfl (lv_at hl 2 rfl) ?_
      obtain ⟨u24, u25, hr26, h⟩ := hk_x2 h
      have hPc := hP.sub (ws' := [(a_this_text, .inr (2, [.ref a_this_text_bytes, .int c_this_text_length])), (a_this_text_bytes, .inl (cI, 16, .inl c_this_text_bytes))]) [1, 2] rfl
      have hDc := hD.sub (ws' := [(a_this_text, .inr (2, [.ref a_this_text_bytes, .int c_this_text_length])), (a_this_text_bytes, .inl (cI, 16, .inl c_this_text_bytes))]) [1, 2] (by decide) rfl
      have hFc := va_free (wc := [(a_this_text, .inr (2, [.ref a_this_text_bytes, .int c_this_text_length])), (a_this_text_bytes, .inl (cI, 16, .inl c_this_text_bytes))]) hD hS hA [1, 2] rfl
      refine va_callv (va_runV (As := [.int x1, .long x2]) (rest := []) ⟨hx, hb, hml, hown, hts⟩ (c_X6_append l D cI cJ cZ cO a_this_text a_this_text_bytes s.heap.size c_this_text_length c_this_text_bytes x1 x2 _ _ hr26) (cwV 2 hts gX7_write_X6_append rfl rfl rfl zv_X6_append ⟨Nat.le_of_ble_eq_true rfl, Nat.le_of_ble_eq_true rfl⟩) (hk_preMV 2 rfl hPc hDc hK rfl) rfl rfl hl.1 rfl (lv_room (Nat.le_of_ble_eq_true rfl)) dX7_write_37 ⟨Nat.zero_le _, Nat.zero_le _⟩) hS (fun q _ h9 => hFc q h9) hFc (fun u9 t9 H1 locs ht hvm hw hB hz1 hk1 hS => ?_)
      obtain ⟨hP1, hD1⟩ := hB
      rw [ht] at hP1
      obtain ⟨hP, hD⟩ := va_join (wr := [(a_this, .inr (3, [.ref a_this_text, .ref a_this_now, .ref a_this_slots, .ref a_this_cover, .ref a_this_formsSeen]))]) (w1 := [(a_this_text, .inr (2, [.ref a_this_text_bytes, .int u24])), (a_this_text_bytes, .inl (cI, 16, .inl u25))]) hP hD [1, 2] [0] rfl rfl (by decide) (by decide) hk1 hFc hP1 hD1
      generalize H1 = H at hP hS ⊢
      have hP := hP.sub (ws' := [(a_this, .inr (3, [.ref a_this_text, .ref a_this_now, .ref a_this_slots, .ref a_this_cover, .ref a_this_formsSeen])), (a_this_text, .inr (2, [.ref a_this_text_bytes, .int u24])), (a_this_text_bytes, .inl (cI, 16, .inl u25))]) [0, 1, 2] rfl
      have hD := hD.sub (ws' := [(a_this, .inr (3, [.ref a_this_text, .ref a_this_now, .ref a_this_slots, .ref a_this_cover, .ref a_this_formsSeen])), (a_this_text, .inr (2, [.ref a_this_text_bytes, .int u24])), (a_this_text_bytes, .inl (cI, 16, .inl u25))]) [0, 1, 2] (by decide) rfl
      refine lv_aload_n hx hb dX7_write_40 rfl (lv_at hl 0 rfl) ?_
      refine va_get (D := D) (ci := 3) (v := .ref a_this_text) (C := RX7) (T := TX7) (N := 5) hx hb hts zi_X7_write_X7 hown hK.1 hP 0 rfl rfl 0 (by decide) (hts (.fieldLink RX7 10 "HalfAndHalfAgain" "text" "LHalfAndHalfAgain$Text;") (List.mem_of_getElem? (i := 1) rfl)) (fun _ h9 => h9) rfl dX7_write_41 ?_
      refine va_get (D := D) (ci := 2) (v := .int u24) (C := RX6) (T := TX6) (N := 2) hx hb hts zi_X7_write_X6 hown hK.1 hP 1 rfl rfl 1 (by decide) (hts (.fieldLink RX7 38 "HalfAndHalfAgain$Text" "length" "I") (List.mem_of_getElem? (i := 2) rfl)) (fun _ h9 => h9) rfl dX7_write_44 ?_
      subst hQ
      have h := Option.some.inj h
      simp only [Prod.mk.injEq] at h
      obtain ⟨rfl, rfl, rfl⟩ := h
      exact W.iret hx hb hr (fun t ht hW => ⟨⟨_, (), rfl, rfl, by rw [ht]; exact hP, hD⟩, hS.F ht⟩) hS.2.2 dX7_write_47
    replace h := hk_in c23 h
    refine lv_bipush (v := (-4 : Int32)) hx hb dX7_write_28 (by decide) ?_
    subst hQ
    have h := Option.some.inj h
    simp only [Prod.mk.injEq] at h
    obtain ⟨rfl, rfl, rfl⟩ := h
    exact W.iret hx hb hr (fun t ht hW => ⟨⟨_, (), rfl, rfl, by rw [ht]; exact hP, hD⟩, hS.F ht⟩) hS.2.2 dX7_write_30
  replace h := hk_in c22 h
  refine lv_bipush (v := (-2 : Int32)) hx hb dX7_write_11 (by decide) ?_
  subst hQ
  have h := Option.some.inj h
  simp only [Prod.mk.injEq] at h
  obtain ⟨rfl, rfl, rfl⟩ := h
  exact W.iret hx hb hr (fun t ht hW => ⟨⟨_, (), rfl, rfl, by rw [ht]; exact hP, hD⟩, hS.F ht⟩) hS.2.2 dX7_write_13
theorem zv_X7_wipe : yX7_wipe.cls = RX7 ∧ yX7_wipe.cls ≠ "java/lang/invoke/MethodHandle" ∧ yX7_wipe.cls ≠ "java/lang/invoke/VarHandle" ∧ (parseMethodDescriptor yX7_wipe.desc).map (fun d => d.parameters.length) = some 0 := by decide +kernel
def f_X7_wipe (c_this_text_length : Int32)   : Option (Int32 × Int32) := some (c_this_text_length, (0 : Int32))
theorem zi_X7_wipe_X7 : ∀ w ∈ u_ws RX7 TX7 5, w ∈ wsX7_wipe := by decide +kernel
theorem zi_X7_wipe_X6 : ∀ w ∈ u_ws RX6 TX6 2, w ∈ wsX7_wipe := by decide +kernel
set_option maxHeartbeats 8000000 in
set_option maxRecDepth 100000 in
theorem c_X7_wipe (l : Launch) (D : va_G) (cI cJ cZ cO : ClassId) (a_this a_this_text a_this_now a_this_slots a_this_cover a_this_formsSeen a_this_text_bytes : Nat) (sz : Nat) (c_this_text_length : Int32) (rv : Int32) (u_this_text_length : Int32) (hf : f_X7_wipe c_this_text_length = some (rv, u_this_text_length)) : Met l yX7_wipe wsX7_wipe ({ frames := 0, cells := 0, slots := 0, locals := 0 }) (va_Pc [.ref a_this] (hkM D cI cJ cZ cO [(a_this, .inr (3, [.ref a_this_text, .ref a_this_now, .ref a_this_slots, .ref a_this_cover, .ref a_this_formsSeen])), (a_this_text, .inr (2, [.ref a_this_text_bytes, .int c_this_text_length]))] sz)) (va_Qi (fun r (_ : Unit) => r = rv) (fun _ t => va_P D vwCl [(a_this, .inr (3, [.ref a_this_text, .ref a_this_now, .ref a_this_slots, .ref a_this_cover, .ref a_this_formsSeen])), (a_this_text, .inr (2, [.ref a_this_text_bytes, .int u_this_text_length]))] t.heap ∧ va_D (va_A [(a_this, .inr (3, [.ref a_this_text, .ref a_this_now, .ref a_this_slots, .ref a_this_cover, .ref a_this_formsSeen])), (a_this_text, .inr (2, [.ref a_this_text_bytes, .int c_this_text_length]))] sz) [(a_this, .inr (3, [.ref a_this_text, .ref a_this_now, .ref a_this_slots, .ref a_this_cover, .ref a_this_formsSeen])), (a_this_text, .inr (2, [.ref a_this_text_bytes, .int u_this_text_length]))]) (va_A [(a_this, .inr (3, [.ref a_this_text, .ref a_this_now, .ref a_this_slots, .ref a_this_cover, .ref a_this_formsSeen])), (a_this_text, .inr (2, [.ref a_this_text_bytes, .int c_this_text_length]))] sz)) 0 0 (va_A [(a_this, .inr (3, [.ref a_this_text, .ref a_this_now, .ref a_this_slots, .ref a_this_cover, .ref a_this_formsSeen])), (a_this_text, .inr (2, [.ref a_this_text_bytes, .int c_this_text_length]))] sz) := by
  refine Met.ofW (cc := cX7_wipe) (maxL := 2) (ret := (some .int)) (by decide) rfl ?_
  intro p e s m args below meth c s₁ B hml hv
  obtain ⟨rfl, hsz, hP, hK, hD0⟩ := hv
  have hx := B.exec
  have hb := B.bytes
  have hr := B.returns
  have hts := atoms_spec (ws := wsX7_wipe) B.pre
  have hown : s.vm.findClass RX7 = some m.cls := findClass_of_methodNamed B.named
  have hlocks := B.notSynchronized
  have hN := hK.2
  subst hsz
  have hD := hD0.self (sz := s.heap.size)
  generalize hAe : va_A [(a_this, .inr (3, [.ref a_this_text, .ref a_this_now, .ref a_this_slots, .ref a_this_cover, .ref a_this_formsSeen])), (a_this_text, .inr (2, [.ref a_this_text_bytes, .int c_this_text_length]))] s.heap.size = A at hD ⊢
  have hA : ∀ q : Nat, s.heap.size ≤ q → A q := fun q h => by rw [← hAe]; exact Or.inr h
  have hS : va_S A s.heap s.heap [] := va_S.rf
  have hl := lv_entry ([.ref a_this]) (n := 2) (Nat.le_of_ble_eq_true rfl)
  rw [lg_entry_eq]
  generalize (lg_sl ([.ref a_this]) ++ List.replicate (2 - (lg_sl ([.ref a_this])).length) Slot.unset).toArray = ls at hl ⊢
  have hl : lv_has ls 2 [(0, .ref a_this)] := hl
  refine hk_Q (fun Q hQ => ?_)
  have h := hf
  unfold f_X7_wipe at h
  refine lv_aload_n hx hb dX7_wipe_0 rfl (lv_at hl 0 rfl) ?_
  refine va_get (D := D) (ci := 3) (v := .ref a_this_text) (C := RX7) (T := TX7) (N := 5) hx hb hts zi_X7_wipe_X7 hown hK.1 hP 0 rfl rfl 0 (by decide) (hts (.fieldLink RX7 10 "HalfAndHalfAgain" "text" "LHalfAndHalfAgain$Text;") (List.mem_of_getElem? (i := 1) rfl)) (fun _ h9 => h9) rfl dX7_wipe_1 ?_
  refine va_get (D := D) (ci := 2) (v := .int c_this_text_length) (C := RX6) (T := TX6) (N := 2) hx hb hts zi_X7_wipe_X6 hown hK.1 hP 1 rfl rfl 1 (by decide) (hts (.fieldLink RX7 38 "HalfAndHalfAgain$Text" "length" "I") (List.mem_of_getElem? (i := 2) rfl)) (fun _ h9 => h9) rfl dX7_wipe_4 ?_
  refine lv_istore_n (lv' := [(1, .int c_this_text_length), (0, .ref a_this)]) hx hb dX7_wipe_7 rfl hl (by decide) rfl (fun ls hl => ?_)
  refine lv_aload_n hx hb dX7_wipe_8 rfl (lv_at hl 1 rfl) ?_
  refine va_get (D := D) (ci := 3) (v := .ref a_this_text) (C := RX7) (T := TX7) (N := 5) hx hb hts zi_X7_wipe_X7 hown hK.1 hP 0 rfl rfl 0 (by decide) (hts (.fieldLink RX7 10 "HalfAndHalfAgain" "text" "LHalfAndHalfAgain$Text;") (List.mem_of_getElem? (i := 1) rfl)) (fun _ h9 => h9) rfl dX7_wipe_9 ?_
  refine lv_iconst (v := (0 : Int32)) hx hb dX7_wipe_12 (by decide) ?_
  refine va_put (D := D) (ci := 2) (v := .int (0 : Int32)) (ty := .int) (C := RX6) (T := TX6) (N := 2) hx hb hts zi_X7_wipe_X6 tyX6 tyX6_ok nmX6 hown hK.1 hP hD hS 1 rfl rfl 1 (by decide) (hts (.fieldLink RX7 38 "HalfAndHalfAgain$Text" "length" "I") (List.mem_of_getElem? (i := 2) rfl)) (fun _ h9 => h9) rfl (by decide +kernel) rfl rfl (Nat.le_of_ble_eq_true rfl) dX7_wipe_13 (fun H locs hP hD hS => ?_)
  have hP : va_P D vwCl [(a_this, .inr (3, [.ref a_this_text, .ref a_this_now, .ref a_this_slots, .ref a_this_cover, .ref a_this_formsSeen])), (a_this_text, .inr (2, [.ref a_this_text_bytes, .int (0 : Int32)]))] H := hP
  have hD : va_D A [(a_this, .inr (3, [.ref a_this_text, .ref a_this_now, .ref a_this_slots, .ref a_this_cover, .ref a_this_formsSeen])), (a_this_text, .inr (2, [.ref a_this_text_bytes, .int (0 : Int32)]))] := hD
  refine lv_iload_n hx hb dX7_wipe_16 rfl (lv_at hl 0 rfl) ?_
  subst hQ
  have h := Option.some.inj h
  simp only [Prod.mk.injEq] at h
  obtain ⟨rfl, rfl⟩ := h
  exact W.iret hx hb hr (fun t ht hW => ⟨⟨_, (), rfl, rfl, by rw [ht]; exact hP, hD⟩, hS.F ht⟩) hS.2.2 dX7_wipe_17
theorem zv_X7_fault : yX7_fault.cls = RX7 ∧ yX7_fault.cls ≠ "java/lang/invoke/MethodHandle" ∧ yX7_fault.cls ≠ "java/lang/invoke/VarHandle" ∧ (parseMethodDescriptor yX7_fault.desc).map (fun d => d.parameters.length) = some 0 := by decide +kernel
def f_X7_fault (c_this_text_length : Int32) (c_this_text_bytes : Nat → Int32)   : Option Int32 := hk_b1 (f_X6_firstFault c_this_text_length c_this_text_bytes) fun r21 => some r21
theorem zi_X7_fault_X7 : ∀ w ∈ u_ws RX7 TX7 5, w ∈ wsX7_fault := by decide +kernel
set_option maxHeartbeats 8000000 in
set_option maxRecDepth 100000 in
theorem c_X7_fault (l : Launch) (D : va_G) (cI cJ cZ cO : ClassId) (a_this a_this_text a_this_now a_this_slots a_this_cover a_this_formsSeen a_this_text_bytes : Nat) (c_this_text_length : Int32) (c_this_text_bytes : Nat → Int32) (rv : Int32) (hf : f_X7_fault c_this_text_length c_this_text_bytes = some rv) : Met l yX7_fault wsX7_fault ({ frames := 2, cells := 0, slots := 0, locals := 41 }) (va_Pc [.ref a_this] (hkR D cI cJ cZ cO [(a_this, .inr (3, [.ref a_this_text, .ref a_this_now, .ref a_this_slots, .ref a_this_cover, .ref a_this_formsSeen])), (a_this_text, .inr (2, [.ref a_this_text_bytes, .int c_this_text_length])), (a_this_text_bytes, .inl (cI, 16, .inl c_this_text_bytes))])) (vp_Si (fun r => r = rv)) 0 0 (fun _ => False) := by
  refine Met.ofW (cc := cX7_fault) (maxL := 1) (ret := (some .int)) (by decide) rfl ?_
  intro p e s m args below meth c s₁ B hml hv
  obtain ⟨rfl, hP, hK⟩ := hv
  have hx := B.exec
  have hb := B.bytes
  have hr := B.returns
  have hts := atoms_spec (ws := wsX7_fault) B.pre
  have hown : s.vm.findClass RX7 = some m.cls := findClass_of_methodNamed B.named
  have hlocks := B.notSynchronized
  have hN := hK.2
  have hl := lv_entry ([.ref a_this]) (n := 1) (Nat.le_of_ble_eq_true rfl)
  rw [lg_entry_eq]
  generalize (lg_sl ([.ref a_this]) ++ List.replicate (1 - (lg_sl ([.ref a_this])).length) Slot.unset).toArray = ls at hl ⊢
  have hl : lv_has ls 1 [(0, .ref a_this)] := hl
  refine hk_Q (fun Q hQ => ?_)
  have h := hf
  unfold f_X7_fault at h
  refine lv_aload_n hx hb dX7_fault_0 rfl (lv_at hl 0 rfl) ?_
  refine va_get (D := D) (ci := 3) (v := .ref a_this_text) (C := RX7) (T := TX7) (N := 5) hx hb hts zi_X7_fault_X7 hown hK.1 hP 0 rfl rfl 0 (by decide) (hts (.fieldLink RX7 10 "HalfAndHalfAgain" "text" "LHalfAndHalfAgain$Text;") (List.mem_of_getElem? (i := 1) rfl)) (fun _ h9 => h9) rfl dX7_fault_1 ?_
  obtain ⟨r21, hr22, h⟩ := hk_x1 h
  refine vp_callSi (W.runV (As := []) (rest := []) ⟨hx, hb, hml, hown, hts⟩ (c_X6_firstFault l D cI cJ cZ cO a_this_text a_this_text_bytes c_this_text_length c_this_text_bytes _ hr22) (cwV 0 hts gX7_fault_X6_firstFault rfl rfl rfl zv_X6_firstFault ⟨Nat.le_of_ble_eq_true rfl, Nat.le_of_ble_eq_true rfl⟩) (hk_preRV 2 rfl (hP.sub (ws' := [(a_this_text, .inr (2, [.ref a_this_text_bytes, .int c_this_text_length])), (a_this_text_bytes, .inl (cI, 16, .inl c_this_text_bytes))]) [1, 2] rfl) hK rfl) rfl rfl hl.1 rfl (lv_room (Nat.le_of_ble_eq_true rfl)) dX7_fault_4 ⟨Nat.zero_le _, Nat.zero_le _⟩) (fun p24 e23 => ?_)
  rw [e23]
  subst hQ
  exact W.iret hx hb hr (fun t ht hW => ⟨_, rfl, Option.some.inj h, ht⟩) (fun _ h9 => by cases h9) dX7_fault_7
theorem zs_X7_noFigure : yX7_noFigure.cls ≠ "java/lang/invoke/MethodHandle" ∧ yX7_noFigure.cls ≠ "java/lang/invoke/VarHandle" ∧ (parseMethodDescriptor yX7_noFigure.desc).map (fun d => d.parameters.length) = some 1 := by decide +kernel
def f_X7_noFigure   (x0 : Int32) : Option Int32 := if x0 < 0 then (some (1 : Int32)) else (if x0 < (8 : Int32) then (some (0 : Int32)) else (some (1 : Int32)))
set_option maxHeartbeats 8000000 in
set_option maxRecDepth 100000 in
theorem c_X7_noFigure (l : Launch) (x0 : Int32) (rv : Int32) (hf : f_X7_noFigure x0 = some rv) : Met l yX7_noFigure wsX7_noFigure ({ frames := 0, cells := 0, slots := 0, locals := 0 }) (va_Pc [.int x0] (fun _ => True)) (vp_Si (fun r => r = rv)) 0 0 (fun _ => False) := by
  refine Met.ofW (cc := cX7_noFigure) (maxL := 1) (ret := (some .boolean)) (by decide) rfl ?_
  intro p e s m args below meth c s₁ B hml hv
  obtain ⟨rfl, -⟩ := hv
  have hx := B.exec
  have hb := B.bytes
  have hr := B.returns
  have hts := atoms_spec (ws := wsX7_noFigure) B.pre
  have hown : s.vm.findClass RX7 = some m.cls := findClass_of_methodNamed B.named
  have hlocks := B.notSynchronized
  have hl := lv_entry ([.int x0]) (n := 1) (Nat.le_of_ble_eq_true rfl)
  rw [lg_entry_eq]
  generalize (lg_sl ([.int x0]) ++ List.replicate (1 - (lg_sl ([.int x0])).length) Slot.unset).toArray = ls at hl ⊢
  have hl : lv_has ls 1 [(0, .int x0)] := hl
  refine hk_Q (fun Q hQ => ?_)
  have h := hf
  unfold f_X7_noFigure at h
  refine lv_iload_n hx hb dX7_noFigure_0 rfl (lv_at hl 0 rfl) ?_
  refine lv_if_lt (tgt := 10) hx hb dX7_noFigure_1 (by decide) (fun c21 => ?_) (fun c21 => ?_)
  · replace h := hk_ip c21 h
    refine lv_iconst (v := (1 : Int32)) hx hb dX7_noFigure_10 (by decide) ?_
    refine lv_goto (tgt := 15) hx hb dX7_noFigure_11 (by decide) ?_
    subst hQ
    exact W.zret hx hb hr rfl (fun t ht hW => ⟨_, rfl, Option.some.inj h, ht⟩) (fun _ h9 => by cases h9) dX7_noFigure_15
  replace h := hk_in c21 h
  refine lv_iload_n hx hb dX7_noFigure_4 rfl (lv_at hl 0 rfl) ?_
  refine lv_bipush (v := (8 : Int32)) hx hb dX7_noFigure_5 (by decide) ?_
  refine lv_icmp_lt (tgt := 14) hx hb dX7_noFigure_7 (by decide) (fun c22 => ?_) (fun c22 => ?_)
  · replace h := hk_ip c22 h
    refine lv_iconst (v := (0 : Int32)) hx hb dX7_noFigure_14 (by decide) ?_
    subst hQ
    exact W.zret hx hb hr rfl (fun t ht hW => ⟨_, rfl, Option.some.inj h, ht⟩) (fun _ h9 => by cases h9) dX7_noFigure_15
  replace h := hk_in c22 h
  refine lv_iconst (v := (1 : Int32)) hx hb dX7_noFigure_10 (by decide) ?_
  refine lv_goto (tgt := 15) hx hb dX7_noFigure_11 (by decide) ?_
  subst hQ
  exact W.zret hx hb hr rfl (fun t ht hW => ⟨_, rfl, Option.some.inj h, ht⟩) (fun _ h9 => by cases h9) dX7_noFigure_15
theorem zv_X7_become : yX7_become.cls = RX7 ∧ yX7_become.cls ≠ "java/lang/invoke/MethodHandle" ∧ yX7_become.cls ≠ "java/lang/invoke/VarHandle" ∧ (parseMethodDescriptor yX7_become.desc).map (fun d => d.parameters.length) = some 2 := by decide +kernel
def f_X7_become (c_this_now_figures : Nat → Int64)  (x1 : Int32) (x2 : Int64) : Option (Int32 × (Nat → Int64)) := hk_gd (hk_inb x1 8) (hk_b1 (f_J13_bitCount_95d88 x2) fun r22 => some (r22, (vp_updL c_this_now_figures x1.toNatClampNeg x2)))
theorem zi_X7_become_X7 : ∀ w ∈ u_ws RX7 TX7 5, w ∈ wsX7_become := by decide +kernel
theorem zi_X7_become_X5 : ∀ w ∈ u_ws RX5 TX5 4, w ∈ wsX7_become := by decide +kernel
set_option maxHeartbeats 8000000 in
set_option maxRecDepth 100000 in
theorem c_X7_become (l : Launch) (D : va_G) (cI cJ cZ cO : ClassId) (a_this a_this_text a_this_now a_this_slots a_this_cover a_this_formsSeen a_this_now_figures a_this_now_pieces a_this_now_mayMirror : Nat) (sz : Nat) (c_this_now_laid : Int32) (c_this_now_figures : Nat → Int64) (x1 : Int32) (x2 : Int64) (rv : Int32) (u_this_now_figures : Nat → Int64) (hf : f_X7_become c_this_now_figures x1 x2 = some (rv, u_this_now_figures)) : Met l yX7_become wsX7_become ({ frames := 1, cells := 0, slots := 0, locals := 21 }) (va_Pc [.ref a_this, .int x1, .long x2] (hkM D cI cJ cZ cO [(a_this, .inr (3, [.ref a_this_text, .ref a_this_now, .ref a_this_slots, .ref a_this_cover, .ref a_this_formsSeen])), (a_this_now, .inr (1, [.ref a_this_now_figures, .ref a_this_now_pieces, .ref a_this_now_mayMirror, .int c_this_now_laid])), (a_this_now_figures, .inl (cJ, 8, .inr (.inl c_this_now_figures)))] sz)) (va_Qi (fun r (_ : Unit) => r = rv) (fun _ t => va_P D vwCl [(a_this, .inr (3, [.ref a_this_text, .ref a_this_now, .ref a_this_slots, .ref a_this_cover, .ref a_this_formsSeen])), (a_this_now, .inr (1, [.ref a_this_now_figures, .ref a_this_now_pieces, .ref a_this_now_mayMirror, .int c_this_now_laid])), (a_this_now_figures, .inl (cJ, 8, .inr (.inl u_this_now_figures)))] t.heap ∧ va_D (va_A [(a_this, .inr (3, [.ref a_this_text, .ref a_this_now, .ref a_this_slots, .ref a_this_cover, .ref a_this_formsSeen])), (a_this_now, .inr (1, [.ref a_this_now_figures, .ref a_this_now_pieces, .ref a_this_now_mayMirror, .int c_this_now_laid])), (a_this_now_figures, .inl (cJ, 8, .inr (.inl c_this_now_figures)))] sz) [(a_this, .inr (3, [.ref a_this_text, .ref a_this_now, .ref a_this_slots, .ref a_this_cover, .ref a_this_formsSeen])), (a_this_now, .inr (1, [.ref a_this_now_figures, .ref a_this_now_pieces, .ref a_this_now_mayMirror, .int c_this_now_laid])), (a_this_now_figures, .inl (cJ, 8, .inr (.inl u_this_now_figures)))]) (va_A [(a_this, .inr (3, [.ref a_this_text, .ref a_this_now, .ref a_this_slots, .ref a_this_cover, .ref a_this_formsSeen])), (a_this_now, .inr (1, [.ref a_this_now_figures, .ref a_this_now_pieces, .ref a_this_now_mayMirror, .int c_this_now_laid])), (a_this_now_figures, .inl (cJ, 8, .inr (.inl c_this_now_figures)))] sz)) 0 0 (va_A [(a_this, .inr (3, [.ref a_this_text, .ref a_this_now, .ref a_this_slots, .ref a_this_cover, .ref a_this_formsSeen])), (a_this_now, .inr (1, [.ref a_this_now_figures, .ref a_this_now_pieces, .ref a_this_now_mayMirror, .int c_this_now_laid])), (a_this_now_figures, .inl (cJ, 8, .inr (.inl c_this_now_figures)))] sz) := by
  refine Met.ofW (cc := cX7_become) (maxL := 4) (ret := (some .int)) (by decide) rfl ?_
  intro p e s m args below meth c s₁ B hml hv
  obtain ⟨rfl, hsz, hP, hK, hD0⟩ := hv
  have hx := B.exec
  have hb := B.bytes
  have hr := B.returns
  have hts := atoms_spec (ws := wsX7_become) B.pre
  have hown : s.vm.findClass RX7 = some m.cls := findClass_of_methodNamed B.named
  have hlocks := B.notSynchronized
  have hN := hK.2
  subst hsz
  have hD := hD0.self (sz := s.heap.size)
  generalize hAe : va_A [(a_this, .inr (3, [.ref a_this_text, .ref a_this_now, .ref a_this_slots, .ref a_this_cover, .ref a_this_formsSeen])), (a_this_now, .inr (1, [.ref a_this_now_figures, .ref a_this_now_pieces, .ref a_this_now_mayMirror, .int c_this_now_laid])), (a_this_now_figures, .inl (cJ, 8, .inr (.inl c_this_now_figures)))] s.heap.size = A at hD ⊢
  have hA : ∀ q : Nat, s.heap.size ≤ q → A q := fun q h => by rw [← hAe]; exact Or.inr h
  have hS : va_S A s.heap s.heap [] := va_S.rf
  have hl := lv_entry ([.ref a_this, .int x1, .long x2]) (n := 4) (Nat.le_of_ble_eq_true rfl)
  rw [lg_entry_eq]
  generalize (lg_sl ([.ref a_this, .int x1, .long x2]) ++ List.replicate (4 - (lg_sl ([.ref a_this, .int x1, .long x2])).length) Slot.unset).toArray = ls at hl ⊢
  have hl : lv_has ls 4 [(0, .ref a_this), (1, .int x1), (2, .long x2)] := hl
  refine hk_Q (fun Q hQ => ?_)
  have h := hf
  unfold f_X7_become at h
  refine lv_aload_n hx hb dX7_become_0 rfl (lv_at hl 0 rfl) ?_
  refine va_get (D := D) (ci := 3) (v := .ref a_this_now) (C := RX7) (T := TX7) (N := 5) hx hb hts zi_X7_become_X7 hown hK.1 hP 0 rfl rfl 1 (by decide) (hts (.fieldLink RX7 19 "HalfAndHalfAgain" "now" "LHalfAndHalfAgain$Store;") (List.mem_of_getElem? (i := 1) rfl)) (fun _ h9 => h9) rfl dX7_become_1 ?_
  refine va_get (D := D) (ci := 1) (v := .ref a_this_now_figures) (C := RX5) (T := TX5) (N := 4) hx hb hts zi_X7_become_X5 hown hK.1 hP 1 rfl rfl 0 (by decide) (hts (.fieldLink RX7 62 "HalfAndHalfAgain$Store" "figures" "[J") (List.mem_of_getElem? (i := 2) rfl)) (fun _ h9 => h9) rfl dX7_become_4 ?_
  refine lv_iload_n hx hb dX7_become_7 rfl (lv_at hl 1 rfl) ?_
  refine lv_lload_n hx hb dX7_become_8 rfl (lv_at hl 2 rfl) ?_
  obtain ⟨hi21, h⟩ := hk_ge h
  refine va_last hx hb hK.1 hP hD hS 2 1 rfl rfl (hk_inb_of hi21) dX7_become_9 (fun H locs hP hD hS => ?_)
  have hP : va_P D vwCl [(a_this, .inr (3, [.ref a_this_text, .ref a_this_now, .ref a_this_slots, .ref a_this_cover, .ref a_this_formsSeen])), (a_this_now, .inr (1, [.ref a_this_now_figures, .ref a_this_now_pieces, .ref a_this_now_mayMirror, .int c_this_now_laid])), (a_this_now_figures, .inl (cJ, 8, .inr (.inl (vp_updL c_this_now_figures x1.toNatClampNeg x2))))] H := hP
  have hD : va_D A [(a_this, .inr (3, [.ref a_this_text, .ref a_this_now, .ref a_this_slots, .ref a_this_cover, .ref a_this_formsSeen])), (a_this_now, .inr (1, [.ref a_this_now_figures, .ref a_this_now_pieces, .ref a_this_now_mayMirror, .int c_this_now_laid])), (a_this_now_figures, .inl (cJ, 8, .inr (.inl (vp_updL c_this_now_figures x1.toNatClampNeg x2))))] := hD
  refine lv_lload_n hx hb dX7_become_10 rfl (lv_at hl 2 rfl) ?_
  obtain ⟨r22, hr23, h⟩ := hk_x1 h
  refine vp_callSi (W.runS (As := [.long x2]) (rest := []) ⟨hx, hb, hml, hown, hts⟩ (c_J13_bitCount_95d88 l x2 _ hr23) (va_cwS 1 hts gX7_become_J13_bitCount_95d88 rfl rfl rfl zs_J13_bitCount_95d88 ⟨Nat.le_of_ble_eq_true rfl, Nat.le_of_ble_eq_true rfl⟩) ⟨fun _ _ _ _ q => q, fun _ _ _ => ⟨rfl, trivial⟩⟩ rfl rfl hl.1 rfl (lv_room (Nat.le_of_ble_eq_true rfl)) dX7_become_11 ⟨Nat.zero_le _, Nat.zero_le _⟩) (fun p25 e24 => ?_)
  rw [e24]
  subst hQ
  have h := Option.some.inj h
  simp only [Prod.mk.injEq] at h
  obtain ⟨rfl, rfl⟩ := h
  exact W.iret hx hb hr (fun t ht hW => ⟨⟨_, (), rfl, rfl, by rw [ht]; exact hP, hD⟩, hS.F ht⟩) hS.2.2 dX7_become_14
theorem zv_X7_word : yX7_word.cls = RX7 ∧ yX7_word.cls ≠ "java/lang/invoke/MethodHandle" ∧ yX7_word.cls ≠ "java/lang/invoke/VarHandle" ∧ (parseMethodDescriptor yX7_word.desc).map (fun d => d.parameters.length) = some 1 := by decide +kernel
def f_X7_word (c_this_text_length : Int32) (c_this_text_bytes : Nat → Int32) (c_this_now_figures : Nat → Int64)  (x1 : Int32) : Option (Int32 × (Nat → Int64)) := hk_b1 (f_X7_noFigure x1) fun r21 => if r21 = 0 then (hk_b1 (f_X6_firstFault c_this_text_length c_this_text_bytes) fun r26 => if r26 = (-9 : Int32) then (hk_b1 (f_X6_cells c_this_text_length c_this_text_bytes) fun r31 => hk_b2 (f_X7_become c_this_now_figures x1 r31) fun r35 u36 => some (r35, u36)) else (some ((-3 : Int32), c_this_now_figures))) else (some ((-1 : Int32), c_this_now_figures))
theorem zi_X7_word_X7 : ∀ w ∈ u_ws RX7 TX7 5, w ∈ wsX7_word := by decide +kernel
set_option maxHeartbeats 8000000 in
set_option maxRecDepth 100000 in
theorem c_X7_word (l : Launch) (D : va_G) (cI cJ cZ cO : ClassId) (a_this a_this_text a_this_now a_this_slots a_this_cover a_this_formsSeen a_this_text_bytes a_this_now_figures a_this_now_pieces a_this_now_mayMirror : Nat) (sz : Nat) (c_this_text_length : Int32) (c_this_now_laid : Int32) (c_this_text_bytes : Nat → Int32) (c_this_now_figures : Nat → Int64) (x1 : Int32) (rv : Int32) (u_this_now_figures : Nat → Int64) (hf : f_X7_word c_this_text_length c_this_text_bytes c_this_now_figures x1 = some (rv, u_this_now_figures)) : Met l yX7_word wsX7_word ({ frames := 2, cells := 0, slots := 0, locals := 44 }) (va_Pc [.ref a_this, .int x1] (hkM D cI cJ cZ cO [(a_this, .inr (3, [.ref a_this_text, .ref a_this_now, .ref a_this_slots, .ref a_this_cover, .ref a_this_formsSeen])), (a_this_text, .inr (2, [.ref a_this_text_bytes, .int c_this_text_length])), (a_this_text_bytes, .inl (cI, 16, .inl c_this_text_bytes)), (a_this_now, .inr (1, [.ref a_this_now_figures, .ref a_this_now_pieces, .ref a_this_now_mayMirror, .int c_this_now_laid])), (a_this_now_figures, .inl (cJ, 8, .inr (.inl c_this_now_figures)))] sz)) (va_Qi (fun r (_ : Unit) => r = rv) (fun _ t => va_P D vwCl [(a_this, .inr (3, [.ref a_this_text, .ref a_this_now, .ref a_this_slots, .ref a_this_cover, .ref a_this_formsSeen])), (a_this_text, .inr (2, [.ref a_this_text_bytes, .int c_this_text_length])), (a_this_text_bytes, .inl (cI, 16, .inl c_this_text_bytes)), (a_this_now, .inr (1, [.ref a_this_now_figures, .ref a_this_now_pieces, .ref a_this_now_mayMirror, .int c_this_now_laid])), (a_this_now_figures, .inl (cJ, 8, .inr (.inl u_this_now_figures)))] t.heap ∧ va_D (va_A [(a_this, .inr (3, [.ref a_this_text, .ref a_this_now, .ref a_this_slots, .ref a_this_cover, .ref a_this_formsSeen])), (a_this_text, .inr (2, [.ref a_this_text_bytes, .int c_this_text_length])), (a_this_text_bytes, .inl (cI, 16, .inl c_this_text_bytes)), (a_this_now, .inr (1, [.ref a_this_now_figures, .ref a_this_now_pieces, .ref a_this_now_mayMirror, .int c_this_now_laid])), (a_this_now_figures, .inl (cJ, 8, .inr (.inl c_this_now_figures)))] sz) [(a_this, .inr (3, [.ref a_this_text, .ref a_this_now, .ref a_this_slots, .ref a_this_cover, .ref a_this_formsSeen])), (a_this_text, .inr (2, [.ref a_this_text_bytes, .int c_this_text_length])), (a_this_text_bytes, .inl (cI, 16, .inl c_this_text_bytes)), (a_this_now, .inr (1, [.ref a_this_now_figures, .ref a_this_now_pieces, .ref a_this_now_mayMirror, .int c_this_now_laid])), (a_this_now_figures, .inl (cJ, 8, .inr (.inl u_this_now_figures)))]) (va_A [(a_this, .inr (3, [.ref a_this_text, .ref a_this_now, .ref a_this_slots, .ref a_this_cover, .ref a_this_formsSeen])), (a_this_text, .inr (2, [.ref a_this_text_bytes, .int c_this_text_length])), (a_this_text_bytes, .inl (cI, 16, .inl c_this_text_bytes)), (a_this_now, .inr (1, [.ref a_this_now_figures, .ref a_this_now_pieces, .ref a_this_now_mayMirror, .int c_this_now_laid])), (a_this_now_figures, .inl (cJ, 8, .inr (.inl c_this_now_figures)))] sz)) 0 0 (va_A [(a_this, .inr (3, [.ref a_this_text, .ref a_this_now, .ref a_this_slots, .ref a_this_cover, .ref a_this_formsSeen])), (a_this_text, .inr (2, [.ref a_this_text_bytes, .int c_this_text_length])), (a_this_text_bytes, .inl (cI, 16, .inl c_this_text_bytes)), (a_this_now, .inr (1, [.ref a_this_now_figures, .ref a_this_now_pieces, .ref a_this_now_mayMirror, .int c_this_now_laid])), (a_this_now_figures, .inl (cJ, 8, .inr (.inl c_this_now_figures)))] sz) := by
  refine Met.ofW (cc := cX7_word) (maxL := 2) (ret := (some .int)) (by decide) rfl ?_
  intro p e s m args below meth c s₁ B hml hv
  obtain ⟨rfl, hsz, hP, hK, hD0⟩ := hv
  have hx := B.exec
  have hb := B.bytes
  have hr := B.returns
  have hts := atoms_spec (ws := wsX7_word) B.pre
  have hown : s.vm.findClass RX7 = some m.cls := findClass_of_methodNamed B.named
  have hlocks := B.notSynchronized
  have hN := hK.2
  subst hsz
  have hD := hD0.self (sz := s.heap.size)
  generalize hAe : va_A [(a_this, .inr (3, [.ref a_this_text, .ref a_this_now, .ref a_this_slots, .ref a_this_cover, .ref a_this_formsSeen])), (a_this_text, .inr (2, [.ref a_this_text_bytes, .int c_this_text_length])), (a_this_text_bytes, .inl (cI, 16, .inl c_this_text_bytes)), (a_this_now, .inr (1, [.ref a_this_now_figures, .ref a_this_now_pieces, .ref a_this_now_mayMirror, .int c_this_now_laid])), (a_this_now_figures, .inl (cJ, 8, .inr (.inl c_this_now_figures)))] s.heap.size = A at hD ⊢
  have hA : ∀ q : Nat, s.heap.size ≤ q → A q := fun q h => by rw [← hAe]; exact Or.inr h
  have hS : va_S A s.heap s.heap [] := va_S.rf
  have hl := lv_entry ([.ref a_this, .int x1]) (n := 2) (Nat.le_of_ble_eq_true rfl)
  rw [lg_entry_eq]
  generalize (lg_sl ([.ref a_this, .int x1]) ++ List.replicate (2 - (lg_sl ([.ref a_this, .int x1])).length) Slot.unset).toArray = ls at hl ⊢
  have hl : lv_has ls 2 [(0, .ref a_this), (1, .int x1)] := hl
  refine hk_Q (fun Q hQ => ?_)
  have h := hf
  unfold f_X7_word at h
  refine lv_iload_n hx hb dX7_word_0 rfl (lv_at hl 1 rfl) ?_
  obtain ⟨r21, hr22, h⟩ := hk_x1 h
  refine vp_callSi (W.runS (As := [.int x1]) (rest := []) ⟨hx, hb, hml, hown, hts⟩ (c_X7_noFigure l x1 _ hr22) (va_cwS 1 hts gX7_word_X7_noFigure rfl rfl rfl zs_X7_noFigure ⟨Nat.le_of_ble_eq_true rfl, Nat.le_of_ble_eq_true rfl⟩) ⟨fun _ _ _ _ q => q, fun _ _ _ => ⟨rfl, trivial⟩⟩ rfl rfl hl.1 rfl (lv_room (Nat.le_of_ble_eq_true rfl)) dX7_word_1 ⟨Nat.zero_le _, Nat.zero_le _⟩) (fun p24 e23 => ?_)
  rw [e23]
  refine lv_if_eq (tgt := 9) hx hb dX7_word_4 (by decide) (fun c25 => ?_) (fun c25 => ?_)
  · replace h := hk_ip c25 h
    refine lv_aload_n hx hb dX7_word_9 rfl (lv_at hl 0 rfl) ?_
    refine va_get (D := D) (ci := 3) (v := .ref a_this_text) (C := RX7) (T := TX7) (N := 5) hx hb hts zi_X7_word_X7 hown hK.1 hP 0 rfl rfl 0 (by decide) (hts (.fieldLink RX7 10 "HalfAndHalfAgain" "text" "LHalfAndHalfAgain$Text;") (List.mem_of_getElem? (i := 1) rfl)) (fun _ h9 => h9) rfl dX7_word_10 ?_
    obtain ⟨r26, hr27, h⟩ := hk_x1 h
    refine vp_callSi (W.runV (As := []) (rest := []) ⟨hx, hb, hml, hown, hts⟩ (c_X6_firstFault l D cI cJ cZ cO a_this_text a_this_text_bytes c_this_text_length c_this_text_bytes _ hr27) (cwV 0 hts gX7_word_X6_firstFault rfl rfl rfl zv_X6_firstFault ⟨Nat.le_of_ble_eq_true rfl, Nat.le_of_ble_eq_true rfl⟩) (hk_preRV 2 rfl (hP.sub (ws' := [(a_this_text, .inr (2, [.ref a_this_text_bytes, .int c_this_text_length])), (a_this_text_bytes, .inl (cI, 16, .inl c_this_text_bytes))]) [1, 2] rfl) hK rfl) rfl rfl hl.1 rfl (lv_room (Nat.le_of_ble_eq_true rfl)) dX7_word_13 ⟨Nat.zero_le _, Nat.zero_le _⟩) (fun p29 e28 => ?_)
    rw [e28]
    refine lv_bipush (v := (-9 : Int32)) hx hb dX7_word_16 (by decide) ?_
    refine lv_icmp_eq (tgt := 24) hx hb dX7_word_18 (by decide) (fun c30 => ?_) (fun c30 => ?_)
    · replace h := hk_ip c30 h
      refine lv_aload_n hx hb dX7_word_24 rfl (lv_at hl 0 rfl) ?_
      refine lv_iload_n hx hb dX7_word_25 rfl (lv_at hl 1 rfl) ?_
      refine lv_aload_n hx hb dX7_word_26 rfl (lv_at hl 0 rfl) ?_
      refine va_get (D := D) (ci := 3) (v := .ref a_this_text) (C := RX7) (T := TX7) (N := 5) hx hb hts zi_X7_word_X7 hown hK.1 hP 0 rfl rfl 0 (by decide) (hts (.fieldLink RX7 10 "HalfAndHalfAgain" "text" "LHalfAndHalfAgain$Text;") (List.mem_of_getElem? (i := 1) rfl)) (fun _ h9 => h9) rfl dX7_word_27 ?_
      obtain ⟨r31, hr32, h⟩ := hk_x1 h
      refine vp_callSl (W.runV (As := []) (rest := [.int x1, .ref a_this]) ⟨hx, hb, hml, hown, hts⟩ (c_X6_cells l D cI cJ cZ cO a_this_text a_this_text_bytes c_this_text_length c_this_text_bytes _ hr32) (cwV 0 hts gX7_word_X6_cells rfl rfl rfl zv_X6_cells ⟨Nat.le_of_ble_eq_true rfl, Nat.le_of_ble_eq_true rfl⟩) (hk_preRV 2 rfl (hP.sub (ws' := [(a_this_text, .inr (2, [.ref a_this_text_bytes, .int c_this_text_length])), (a_this_text_bytes, .inl (cI, 16, .inl c_this_text_bytes))]) [1, 2] rfl) hK rfl) rfl rfl hl.1 rfl (lv_room (Nat.le_of_ble_eq_true rfl)) dX7_word_30 ⟨Nat.zero_le _, Nat.zero_le _⟩) (fun p34 e33 => ?_)
      rw [e33]
      obtain ⟨r35, u36, hr37, h⟩ := hk_x2 h
      have hPc := hP.sub (ws' := [(a_this, .inr (3, [.ref a_this_text, .ref a_this_now, .ref a_this_slots, .ref a_this_cover, .ref a_this_formsSeen])), (a_this_now, .inr (1, [.ref a_this_now_figures, .ref a_this_now_pieces, .ref a_this_now_mayMirror, .int c_this_now_laid])), (a_this_now_figures, .inl (cJ, 8, .inr (.inl c_this_now_figures)))]) [0, 3, 4] rfl
      have hDc := hD.sub (ws' := [(a_this, .inr (3, [.ref a_this_text, .ref a_this_now, .ref a_this_slots, .ref a_this_cover, .ref a_this_formsSeen])), (a_this_now, .inr (1, [.ref a_this_now_figures, .ref a_this_now_pieces, .ref a_this_now_mayMirror, .int c_this_now_laid])), (a_this_now_figures, .inl (cJ, 8, .inr (.inl c_this_now_figures)))]) [0, 3, 4] (by decide) rfl
      have hFc := va_free (wc := [(a_this, .inr (3, [.ref a_this_text, .ref a_this_now, .ref a_this_slots, .ref a_this_cover, .ref a_this_formsSeen])), (a_this_now, .inr (1, [.ref a_this_now_figures, .ref a_this_now_pieces, .ref a_this_now_mayMirror, .int c_this_now_laid])), (a_this_now_figures, .inl (cJ, 8, .inr (.inl c_this_now_figures)))]) hD hS hA [0, 3, 4] rfl
      refine va_calli (va_runV (As := [.int x1, .long r31]) (rest := []) ⟨hx, hb, hml, hown, hts⟩ (c_X7_become l D cI cJ cZ cO a_this a_this_text a_this_now a_this_slots a_this_cover a_this_formsSeen a_this_now_figures a_this_now_pieces a_this_now_mayMirror s.heap.size c_this_now_laid c_this_now_figures x1 r31 _ _ hr37) (cwV 2 hts gX7_word_X7_become rfl rfl rfl zv_X7_become ⟨Nat.le_of_ble_eq_true rfl, Nat.le_of_ble_eq_true rfl⟩) (hk_preMV 3 rfl hPc hDc hK rfl) rfl rfl hl.1 rfl (lv_room (Nat.le_of_ble_eq_true rfl)) dX7_word_33 ⟨Nat.zero_le _, Nat.zero_le _⟩) hS (fun q _ h9 => hFc q h9) hFc (fun p38 u9 t9 H1 locs ht hvm hw hB hz1 hk1 hS => ?_)
      obtain ⟨hP1, hD1⟩ := hB
      rw [ht] at hP1
      rw [hw]
      obtain ⟨hP, hD⟩ := va_join (wr := [(a_this_text, .inr (2, [.ref a_this_text_bytes, .int c_this_text_length])), (a_this_text_bytes, .inl (cI, 16, .inl c_this_text_bytes))]) (w1 := [(a_this, .inr (3, [.ref a_this_text, .ref a_this_now, .ref a_this_slots, .ref a_this_cover, .ref a_this_formsSeen])), (a_this_now, .inr (1, [.ref a_this_now_figures, .ref a_this_now_pieces, .ref a_this_now_mayMirror, .int c_this_now_laid])), (a_this_now_figures, .inl (cJ, 8, .inr (.inl u36)))]) hP hD [0, 3, 4] [1, 2] rfl rfl (by decide) (by decide) hk1 hFc hP1 hD1
      generalize H1 = H at hP hS ⊢
      have hP := hP.sub (ws' := [(a_this, .inr (3, [.ref a_this_text, .ref a_this_now, .ref a_this_slots, .ref a_this_cover, .ref a_this_formsSeen])), (a_this_text, .inr (2, [.ref a_this_text_bytes, .int c_this_text_length])), (a_this_text_bytes, .inl (cI, 16, .inl c_this_text_bytes)), (a_this_now, .inr (1, [.ref a_this_now_figures, .ref a_this_now_pieces, .ref a_this_now_mayMirror, .int c_this_now_laid])), (a_this_now_figures, .inl (cJ, 8, .inr (.inl u36)))]) [2, 0, 1, 3, 4] rfl
      have hD := hD.sub (ws' := [(a_this, .inr (3, [.ref a_this_text, .ref a_this_now, .ref a_this_slots, .ref a_this_cover, .ref a_this_formsSeen])), (a_this_text, .inr (2, [.ref a_this_text_bytes, .int c_this_text_length])), (a_this_text_bytes, .inl (cI, 16, .inl c_this_text_bytes)), (a_this_now, .inr (1, [.ref a_this_now_figures, .ref a_this_now_pieces, .ref a_this_now_mayMirror, .int c_this_now_laid])), (a_this_now_figures, .inl (cJ, 8, .inr (.inl u36)))]) [2, 0, 1, 3, 4] (by decide) rfl
      subst hQ
      have h := Option.some.inj h
      simp only [Prod.mk.injEq] at h
      obtain ⟨rfl, rfl⟩ := h
      exact W.iret hx hb hr (fun t ht hW => ⟨⟨_, (), rfl, rfl, by rw [ht]; exact hP, hD⟩, hS.F ht⟩) hS.2.2 dX7_word_36
    replace h := hk_in c30 h
    refine lv_bipush (v := (-3 : Int32)) hx hb dX7_word_21 (by decide) ?_
    subst hQ
    have h := Option.some.inj h
    simp only [Prod.mk.injEq] at h
    obtain ⟨rfl, rfl⟩ := h
    exact W.iret hx hb hr (fun t ht hW => ⟨⟨_, (), rfl, rfl, by rw [ht]; exact hP, hD⟩, hS.F ht⟩) hS.2.2 dX7_word_23
  replace h := hk_in c25 h
  refine lv_iconst (v := (-1 : Int32)) hx hb dX7_word_7 (by decide) ?_
  subst hQ
  have h := Option.some.inj h
  simp only [Prod.mk.injEq] at h
  obtain ⟨rfl, rfl⟩ := h
  exact W.iret hx hb hr (fun t ht hW => ⟨⟨_, (), rfl, rfl, by rw [ht]; exact hP, hD⟩, hS.F ht⟩) hS.2.2 dX7_word_8
theorem zv_X7_sign : yX7_sign.cls = RX7 ∧ yX7_sign.cls ≠ "java/lang/invoke/MethodHandle" ∧ yX7_sign.cls ≠ "java/lang/invoke/VarHandle" ∧ (parseMethodDescriptor yX7_sign.desc).map (fun d => d.parameters.length) = some 2 := by decide +kernel
def f_X7_sign (c_this_now_figures : Nat → Int64)  (x1 : Int32) (x2 : Int32) : Option Int32 := hk_b1 (f_X7_noFigure x1) fun r21 => if r21 = 0 then (if x2 < 0 then (some (-2 : Int32)) else (if x2 < (16 : Int32) then (hk_gd (hk_inb x1 8) (hk_b1 (f_X0_square (c_this_now_figures x1.toNatClampNeg) x2) fun r29 => hk_b1 (f_X6_signOf r29) fun r33 => some r33)) else (some (-2 : Int32)))) else (some (-1 : Int32))
theorem zi_X7_sign_X7 : ∀ w ∈ u_ws RX7 TX7 5, w ∈ wsX7_sign := by decide +kernel
theorem zi_X7_sign_X5 : ∀ w ∈ u_ws RX5 TX5 4, w ∈ wsX7_sign := by decide +kernel
set_option maxHeartbeats 8000000 in
set_option maxRecDepth 100000 in
theorem c_X7_sign (l : Launch) (D : va_G) (cI cJ cZ cO : ClassId) (a_this a_this_text a_this_now a_this_slots a_this_cover a_this_formsSeen a_this_now_figures a_this_now_pieces a_this_now_mayMirror : Nat) (c_this_now_laid : Int32) (c_this_now_figures : Nat → Int64) (x1 : Int32) (x2 : Int32) (rv : Int32) (hf : f_X7_sign c_this_now_figures x1 x2 = some rv) : Met l yX7_sign wsX7_sign ({ frames := 1, cells := 0, slots := 0, locals := 22 }) (va_Pc [.ref a_this, .int x1, .int x2] (hkR D cI cJ cZ cO [(a_this, .inr (3, [.ref a_this_text, .ref a_this_now, .ref a_this_slots, .ref a_this_cover, .ref a_this_formsSeen])), (a_this_now, .inr (1, [.ref a_this_now_figures, .ref a_this_now_pieces, .ref a_this_now_mayMirror, .int c_this_now_laid])), (a_this_now_figures, .inl (cJ, 8, .inr (.inl c_this_now_figures)))])) (vp_Si (fun r => r = rv)) 0 0 (fun _ => False) := by
  refine Met.ofW (cc := cX7_sign) (maxL := 3) (ret := (some .int)) (by decide) rfl ?_
  intro p e s m args below meth c s₁ B hml hv
  obtain ⟨rfl, hP, hK⟩ := hv
  have hx := B.exec
  have hb := B.bytes
  have hr := B.returns
  have hts := atoms_spec (ws := wsX7_sign) B.pre
  have hown : s.vm.findClass RX7 = some m.cls := findClass_of_methodNamed B.named
  have hlocks := B.notSynchronized
  have hN := hK.2
  have hl := lv_entry ([.ref a_this, .int x1, .int x2]) (n := 3) (Nat.le_of_ble_eq_true rfl)
  rw [lg_entry_eq]
  generalize (lg_sl ([.ref a_this, .int x1, .int x2]) ++ List.replicate (3 - (lg_sl ([.ref a_this, .int x1, .int x2])).length) Slot.unset).toArray = ls at hl ⊢
  have hl : lv_has ls 3 [(0, .ref a_this), (1, .int x1), (2, .int x2)] := hl
  refine hk_Q (fun Q hQ => ?_)
  have h := hf
  unfold f_X7_sign at h
  refine lv_iload_n hx hb dX7_sign_0 rfl (lv_at hl 1 rfl) ?_
  obtain ⟨r21, hr22, h⟩ := hk_x1 h
  refine vp_callSi (W.runS (As := [.int x1]) (rest := []) ⟨hx, hb, hml, hown, hts⟩ (c_X7_noFigure l x1 _ hr22) (va_cwS 1 hts gX7_sign_X7_noFigure rfl rfl rfl zs_X7_noFigure ⟨Nat.le_of_ble_eq_true rfl, Nat.le_of_ble_eq_true rfl⟩) ⟨fun _ _ _ _ q => q, fun _ _ _ => ⟨rfl, trivial⟩⟩ rfl rfl hl.1 rfl (lv_room (Nat.le_of_ble_eq_true rfl)) dX7_sign_1 ⟨Nat.zero_le _, Nat.zero_le _⟩) (fun p24 e23 => ?_)
  rw [e23]
  refine lv_if_eq (tgt := 9) hx hb dX7_sign_4 (by decide) (fun c25 => ?_) (fun c25 => ?_)
  · replace h := hk_ip c25 h
    refine lv_iload_n hx hb dX7_sign_9 rfl (lv_at hl 2 rfl) ?_
    refine lv_if_lt (tgt := 19) hx hb dX7_sign_10 (by decide) (fun c26 => ?_) (fun c26 => ?_)
    · replace h := hk_ip c26 h
      refine lv_bipush (v := (-2 : Int32)) hx hb dX7_sign_19 (by decide) ?_
      subst hQ
      exact W.iret hx hb hr (fun t ht hW => ⟨_, rfl, Option.some.inj h, ht⟩) (fun _ h9 => by cases h9) dX7_sign_21
    replace h := hk_in c26 h
    refine lv_iload_n hx hb dX7_sign_13 rfl (lv_at hl 2 rfl) ?_
    refine lv_bipush (v := (16 : Int32)) hx hb dX7_sign_14 (by decide) ?_
    refine lv_icmp_lt (tgt := 22) hx hb dX7_sign_16 (by decide) (fun c27 => ?_) (fun c27 => ?_)
    · replace h := hk_ip c27 h
      refine lv_aload_n hx hb dX7_sign_22 rfl (lv_at hl 0 rfl) ?_
      refine va_get (D := D) (ci := 3) (v := .ref a_this_now) (C := RX7) (T := TX7) (N := 5) hx hb hts zi_X7_sign_X7 hown hK.1 hP 0 rfl rfl 1 (by decide) (hts (.fieldLink RX7 19 "HalfAndHalfAgain" "now" "LHalfAndHalfAgain$Store;") (List.mem_of_getElem? (i := 1) rfl)) (fun _ h9 => h9) rfl dX7_sign_23 ?_
      refine va_get (D := D) (ci := 1) (v := .ref a_this_now_figures) (C := RX5) (T := TX5) (N := 4) hx hb hts zi_X7_sign_X5 hown hK.1 hP 1 rfl rfl 0 (by decide) (hts (.fieldLink RX7 62 "HalfAndHalfAgain$Store" "figures" "[J") (List.mem_of_getElem? (i := 2) rfl)) (fun _ h9 => h9) rfl dX7_sign_26 ?_
      refine lv_iload_n hx hb dX7_sign_29 rfl (lv_at hl 1 rfl) ?_
      obtain ⟨hi28, h⟩ := hk_ge h
      refine va_lald hx hb hK.1 hP 2 1 rfl rfl (hk_inb_of hi28) dX7_sign_30 ?_
      refine lv_iload_n hx hb dX7_sign_31 rfl (lv_at hl 2 rfl) ?_
      obtain ⟨r29, hr30, h⟩ := hk_x1 h
      refine vp_callSi (W.runS (As := [.long (c_this_now_figures x1.toNatClampNeg), .int x2]) (rest := []) ⟨hx, hb, hml, hown, hts⟩ (c_X0_square l (c_this_now_figures x1.toNatClampNeg) x2 _ hr30) (va_cwS 2 hts gX7_sign_X0_square rfl rfl rfl zs_X0_square ⟨Nat.le_of_ble_eq_true rfl, Nat.le_of_ble_eq_true rfl⟩) ⟨fun _ _ _ _ q => q, fun _ _ _ => ⟨rfl, trivial⟩⟩ rfl rfl hl.1 rfl (lv_room (Nat.le_of_ble_eq_true rfl)) dX7_sign_32 ⟨Nat.zero_le _, Nat.zero_le _⟩) (fun p32 e31 => ?_)
      rw [e31]
      obtain ⟨r33, hr34, h⟩ := hk_x1 h
      refine vp_callSi (W.runS (As := [.int r29]) (rest := []) ⟨hx, hb, hml, hown, hts⟩ (c_X6_signOf l r29 _ hr34) (va_cwS 1 hts gX7_sign_X6_signOf rfl rfl rfl zs_X6_signOf ⟨Nat.le_of_ble_eq_true rfl, Nat.le_of_ble_eq_true rfl⟩) ⟨fun _ _ _ _ q => q, fun _ _ _ => ⟨rfl, trivial⟩⟩ rfl rfl hl.1 rfl (lv_room (Nat.le_of_ble_eq_true rfl)) dX7_sign_35 ⟨Nat.zero_le _, Nat.zero_le _⟩) (fun p36 e35 => ?_)
      rw [e35]
      subst hQ
      exact W.iret hx hb hr (fun t ht hW => ⟨_, rfl, Option.some.inj h, ht⟩) (fun _ h9 => by cases h9) dX7_sign_38
    replace h := hk_in c27 h
    refine lv_bipush (v := (-2 : Int32)) hx hb dX7_sign_19 (by decide) ?_
    subst hQ
    exact W.iret hx hb hr (fun t ht hW => ⟨_, rfl, Option.some.inj h, ht⟩) (fun _ h9 => by cases h9) dX7_sign_21
  replace h := hk_in c25 h
  refine lv_iconst (v := (-1 : Int32)) hx hb dX7_sign_7 (by decide) ?_
  subst hQ
  exact W.iret hx hb hr (fun t ht hW => ⟨_, rfl, Option.some.inj h, ht⟩) (fun _ h9 => by cases h9) dX7_sign_8
theorem zv_X7_figure : yX7_figure.cls = RX7 ∧ yX7_figure.cls ≠ "java/lang/invoke/MethodHandle" ∧ yX7_figure.cls ≠ "java/lang/invoke/VarHandle" ∧ (parseMethodDescriptor yX7_figure.desc).map (fun d => d.parameters.length) = some 1 := by decide +kernel
def f_X7_figure (c_this_now_figures : Nat → Int64)  (x1 : Int32) : Option Int64 := hk_b1 (f_X7_noFigure x1) fun r21 => if r21 = 0 then (hk_gd (hk_inb x1 8) (some (c_this_now_figures x1.toNatClampNeg))) else (some (0 : Int64))
theorem zi_X7_figure_X7 : ∀ w ∈ u_ws RX7 TX7 5, w ∈ wsX7_figure := by decide +kernel
theorem zi_X7_figure_X5 : ∀ w ∈ u_ws RX5 TX5 4, w ∈ wsX7_figure := by decide +kernel
set_option maxHeartbeats 8000000 in
set_option maxRecDepth 100000 in
theorem c_X7_figure (l : Launch) (D : va_G) (cI cJ cZ cO : ClassId) (a_this a_this_text a_this_now a_this_slots a_this_cover a_this_formsSeen a_this_now_figures a_this_now_pieces a_this_now_mayMirror : Nat) (c_this_now_laid : Int32) (c_this_now_figures : Nat → Int64) (x1 : Int32) (rv : Int64) (hf : f_X7_figure c_this_now_figures x1 = some rv) : Met l yX7_figure wsX7_figure ({ frames := 1, cells := 0, slots := 0, locals := 20 }) (va_Pc [.ref a_this, .int x1] (hkR D cI cJ cZ cO [(a_this, .inr (3, [.ref a_this_text, .ref a_this_now, .ref a_this_slots, .ref a_this_cover, .ref a_this_formsSeen])), (a_this_now, .inr (1, [.ref a_this_now_figures, .ref a_this_now_pieces, .ref a_this_now_mayMirror, .int c_this_now_laid])), (a_this_now_figures, .inl (cJ, 8, .inr (.inl c_this_now_figures)))])) (vp_Sl (fun r => r = rv)) 0 0 (fun _ => False) := by
  refine Met.ofW (cc := cX7_figure) (maxL := 2) (ret := (some .long)) (by decide) rfl ?_
  intro p e s m args below meth c s₁ B hml hv
  obtain ⟨rfl, hP, hK⟩ := hv
  have hx := B.exec
  have hb := B.bytes
  have hr := B.returns
  have hts := atoms_spec (ws := wsX7_figure) B.pre
  have hown : s.vm.findClass RX7 = some m.cls := findClass_of_methodNamed B.named
  have hlocks := B.notSynchronized
  have hN := hK.2
  have hl := lv_entry ([.ref a_this, .int x1]) (n := 2) (Nat.le_of_ble_eq_true rfl)
  rw [lg_entry_eq]
  generalize (lg_sl ([.ref a_this, .int x1]) ++ List.replicate (2 - (lg_sl ([.ref a_this, .int x1])).length) Slot.unset).toArray = ls at hl ⊢
  have hl : lv_has ls 2 [(0, .ref a_this), (1, .int x1)] := hl
  refine hk_Q (fun Q hQ => ?_)
  have h := hf
  unfold f_X7_figure at h
  refine lv_iload_n hx hb dX7_figure_0 rfl (lv_at hl 1 rfl) ?_
  obtain ⟨r21, hr22, h⟩ := hk_x1 h
  refine vp_callSi (W.runS (As := [.int x1]) (rest := []) ⟨hx, hb, hml, hown, hts⟩ (c_X7_noFigure l x1 _ hr22) (va_cwS 1 hts gX7_figure_X7_noFigure rfl rfl rfl zs_X7_noFigure ⟨Nat.le_of_ble_eq_true rfl, Nat.le_of_ble_eq_true rfl⟩) ⟨fun _ _ _ _ q => q, fun _ _ _ => ⟨rfl, trivial⟩⟩ rfl rfl hl.1 rfl (lv_room (Nat.le_of_ble_eq_true rfl)) dX7_figure_1 ⟨Nat.zero_le _, Nat.zero_le _⟩) (fun p24 e23 => ?_)
  rw [e23]
  refine lv_if_eq (tgt := 11) hx hb dX7_figure_4 (by decide) (fun c25 => ?_) (fun c25 => ?_)
  · replace h := hk_ip c25 h
    refine lv_aload_n hx hb dX7_figure_11 rfl (lv_at hl 0 rfl) ?_
    refine va_get (D := D) (ci := 3) (v := .ref a_this_now) (C := RX7) (T := TX7) (N := 5) hx hb hts zi_X7_figure_X7 hown hK.1 hP 0 rfl rfl 1 (by decide) (hts (.fieldLink RX7 19 "HalfAndHalfAgain" "now" "LHalfAndHalfAgain$Store;") (List.mem_of_getElem? (i := 1) rfl)) (fun _ h9 => h9) rfl dX7_figure_12 ?_
    refine va_get (D := D) (ci := 1) (v := .ref a_this_now_figures) (C := RX5) (T := TX5) (N := 4) hx hb hts zi_X7_figure_X5 hown hK.1 hP 1 rfl rfl 0 (by decide) (hts (.fieldLink RX7 62 "HalfAndHalfAgain$Store" "figures" "[J") (List.mem_of_getElem? (i := 2) rfl)) (fun _ h9 => h9) rfl dX7_figure_15 ?_
    refine lv_iload_n hx hb dX7_figure_18 rfl (lv_at hl 1 rfl) ?_
    obtain ⟨hi26, h⟩ := hk_ge h
    refine va_lald hx hb hK.1 hP 2 1 rfl rfl (hk_inb_of hi26) dX7_figure_19 ?_
    subst hQ
    exact W.lret hx hb hr (fun t ht hW => ⟨_, rfl, Option.some.inj h, ht⟩) (fun _ h9 => by cases h9) dX7_figure_20
  replace h := hk_in c25 h
  refine lv_lconst (v := (0 : Int64)) hx hb dX7_figure_7 (by decide) ?_
  refine lv_goto (tgt := 20) hx hb dX7_figure_8 (by decide) ?_
  subst hQ
  exact W.lret hx hb hr (fun t ht hW => ⟨_, rfl, Option.some.inj h, ht⟩) (fun _ h9 => by cases h9) dX7_figure_20
theorem zv_X7_change : yX7_change.cls = RX7 ∧ yX7_change.cls ≠ "java/lang/invoke/MethodHandle" ∧ yX7_change.cls ≠ "java/lang/invoke/VarHandle" ∧ (parseMethodDescriptor yX7_change.desc).map (fun d => d.parameters.length) = some 2 := by decide +kernel
def f_X7_change (c_this_now_figures : Nat → Int64)  (x1 : Int32) (x2 : Int64) : Option (Int32 × (Nat → Int64)) := hk_gd (hk_inb x1 8) (hk_let (if (c_this_now_figures x1.toNatClampNeg) = x2 then ((0 : Int32)) else ((1 : Int32))) fun v24 => hk_gd (hk_inb x1 8) (if v24 = 0 then (some ((0 : Int32), (vp_updL c_this_now_figures x1.toNatClampNeg x2))) else (some ((1 : Int32), (vp_updL c_this_now_figures x1.toNatClampNeg x2)))))
theorem zi_X7_change_X7 : ∀ w ∈ u_ws RX7 TX7 5, w ∈ wsX7_change := by decide +kernel
theorem zi_X7_change_X5 : ∀ w ∈ u_ws RX5 TX5 4, w ∈ wsX7_change := by decide +kernel
set_option maxHeartbeats 8000000 in
set_option maxRecDepth 100000 in
theorem c_X7_change (l : Launch) (D : va_G) (cI cJ cZ cO : ClassId) (a_this a_this_text a_this_now a_this_slots a_this_cover a_this_formsSeen a_this_now_figures a_this_now_pieces a_this_now_mayMirror : Nat) (sz : Nat) (c_this_now_laid : Int32) (c_this_now_figures : Nat → Int64) (x1 : Int32) (x2 : Int64) (rv : Int32) (u_this_now_figures : Nat → Int64) (hf : f_X7_change c_this_now_figures x1 x2 = some (rv, u_this_now_figures)) : Met l yX7_change wsX7_change ({ frames := 0, cells := 0, slots := 0, locals := 0 }) (va_Pc [.ref a_this, .int x1, .long x2] (hkM D cI cJ cZ cO [(a_this, .inr (3, [.ref a_this_text, .ref a_this_now, .ref a_this_slots, .ref a_this_cover, .ref a_this_formsSeen])), (a_this_now, .inr (1, [.ref a_this_now_figures, .ref a_this_now_pieces, .ref a_this_now_mayMirror, .int c_this_now_laid])), (a_this_now_figures, .inl (cJ, 8, .inr (.inl c_this_now_figures)))] sz)) (va_Qi (fun r (_ : Unit) => r = rv) (fun _ t => va_P D vwCl [(a_this, .inr (3, [.ref a_this_text, .ref a_this_now, .ref a_this_slots, .ref a_this_cover, .ref a_this_formsSeen])), (a_this_now, .inr (1, [.ref a_this_now_figures, .ref a_this_now_pieces, .ref a_this_now_mayMirror, .int c_this_now_laid])), (a_this_now_figures, .inl (cJ, 8, .inr (.inl u_this_now_figures)))] t.heap ∧ va_D (va_A [(a_this, .inr (3, [.ref a_this_text, .ref a_this_now, .ref a_this_slots, .ref a_this_cover, .ref a_this_formsSeen])), (a_this_now, .inr (1, [.ref a_this_now_figures, .ref a_this_now_pieces, .ref a_this_now_mayMirror, .int c_this_now_laid])), (a_this_now_figures, .inl (cJ, 8, .inr (.inl c_this_now_figures)))] sz) [(a_this, .inr (3, [.ref a_this_text, .ref a_this_now, .ref a_this_slots, .ref a_this_cover, .ref a_this_formsSeen])), (a_this_now, .inr (1, [.ref a_this_now_figures, .ref a_this_now_pieces, .ref a_this_now_mayMirror, .int c_this_now_laid])), (a_this_now_figures, .inl (cJ, 8, .inr (.inl u_this_now_figures)))]) (va_A [(a_this, .inr (3, [.ref a_this_text, .ref a_this_now, .ref a_this_slots, .ref a_this_cover, .ref a_this_formsSeen])), (a_this_now, .inr (1, [.ref a_this_now_figures, .ref a_this_now_pieces, .ref a_this_now_mayMirror, .int c_this_now_laid])), (a_this_now_figures, .inl (cJ, 8, .inr (.inl c_this_now_figures)))] sz)) 0 0 (va_A [(a_this, .inr (3, [.ref a_this_text, .ref a_this_now, .ref a_this_slots, .ref a_this_cover, .ref a_this_formsSeen])), (a_this_now, .inr (1, [.ref a_this_now_figures, .ref a_this_now_pieces, .ref a_this_now_mayMirror, .int c_this_now_laid])), (a_this_now_figures, .inl (cJ, 8, .inr (.inl c_this_now_figures)))] sz) := by
  refine Met.ofW (cc := cX7_change) (maxL := 5) (ret := (some .int)) (by decide) rfl ?_
  intro p e s m args below meth c s₁ B hml hv
  obtain ⟨rfl, hsz, hP, hK, hD0⟩ := hv
  have hx := B.exec
  have hb := B.bytes
  have hr := B.returns
  have hts := atoms_spec (ws := wsX7_change) B.pre
  have hown : s.vm.findClass RX7 = some m.cls := findClass_of_methodNamed B.named
  have hlocks := B.notSynchronized
  have hN := hK.2
  subst hsz
  have hD := hD0.self (sz := s.heap.size)
  generalize hAe : va_A [(a_this, .inr (3, [.ref a_this_text, .ref a_this_now, .ref a_this_slots, .ref a_this_cover, .ref a_this_formsSeen])), (a_this_now, .inr (1, [.ref a_this_now_figures, .ref a_this_now_pieces, .ref a_this_now_mayMirror, .int c_this_now_laid])), (a_this_now_figures, .inl (cJ, 8, .inr (.inl c_this_now_figures)))] s.heap.size = A at hD ⊢
  have hA : ∀ q : Nat, s.heap.size ≤ q → A q := fun q h => by rw [← hAe]; exact Or.inr h
  have hS : va_S A s.heap s.heap [] := va_S.rf
  have hl := lv_entry ([.ref a_this, .int x1, .long x2]) (n := 5) (Nat.le_of_ble_eq_true rfl)
  rw [lg_entry_eq]
  generalize (lg_sl ([.ref a_this, .int x1, .long x2]) ++ List.replicate (5 - (lg_sl ([.ref a_this, .int x1, .long x2])).length) Slot.unset).toArray = ls at hl ⊢
  have hl : lv_has ls 5 [(0, .ref a_this), (1, .int x1), (2, .long x2)] := hl
  refine hk_Q (fun Q hQ => ?_)
  have h := hf
  unfold f_X7_change at h
  refine lv_aload_n hx hb dX7_change_0 rfl (lv_at hl 0 rfl) ?_
  refine va_get (D := D) (ci := 3) (v := .ref a_this_now) (C := RX7) (T := TX7) (N := 5) hx hb hts zi_X7_change_X7 hown hK.1 hP 0 rfl rfl 1 (by decide) (hts (.fieldLink RX7 19 "HalfAndHalfAgain" "now" "LHalfAndHalfAgain$Store;") (List.mem_of_getElem? (i := 1) rfl)) (fun _ h9 => h9) rfl dX7_change_1 ?_
  refine va_get (D := D) (ci := 1) (v := .ref a_this_now_figures) (C := RX5) (T := TX5) (N := 4) hx hb hts zi_X7_change_X5 hown hK.1 hP 1 rfl rfl 0 (by decide) (hts (.fieldLink RX7 62 "HalfAndHalfAgain$Store" "figures" "[J") (List.mem_of_getElem? (i := 2) rfl)) (fun _ h9 => h9) rfl dX7_change_4 ?_
  refine lv_iload_n hx hb dX7_change_7 rfl (lv_at hl 1 rfl) ?_
  obtain ⟨hi21, h⟩ := hk_ge h
  refine va_lald hx hb hK.1 hP 2 1 rfl rfl (hk_inb_of hi21) dX7_change_8 ?_
  refine lv_lload_n hx hb dX7_change_9 rfl (lv_at hl 2 rfl) ?_
  obtain ⟨v24, g22, h⟩ := hk_lf h
  refine hk_joinR (nL := 5) (xs := fun (t9 : Int32) => (19, [(0, .ref a_this), (1, .int x1), (2, .long x2)], [.int t9])) v24 (fun hjg22 => ?_) ?_
  · refine hk_lcmp_eq (tgt := 18) hx hb dX7_change_10 dX7_change_11 (by decide) (fun c23 => ?_) (fun c23 => ?_)
    · replace g22 := hk_ip c23 g22
      refine lv_iconst (v := (0 : Int32)) hx hb dX7_change_18 (by decide) ?_
      subst g22
      exact hjg22 ls (lv_sub hl [0, 1, 2] rfl)
    replace g22 := hk_in c23 g22
    refine lv_iconst (v := (1 : Int32)) hx hb dX7_change_14 (by decide) ?_
    refine lv_goto (tgt := 19) hx hb dX7_change_15 (by decide) ?_
    subst g22
    exact hjg22 ls (lv_sub hl [0, 1, 2] rfl)
  intro ls hl
  have hl : lv_has ls 5 [(0, .ref a_this), (1, .int x1), (2, .long x2)] := hl
  show W _ _ _ _ _ _ _ _ _ _ _ _ _ _ _ (F0 m 19 ls [.int v24])
  refine lv_istore (lv' := [(4, .int v24), (0, .ref a_this), (1, .int x1), (2, .long x2)]) hx hb dX7_change_19 hl (by decide) rfl (fun ls hl => ?_)
  refine lv_aload_n hx hb dX7_change_21 rfl (lv_at hl 1 rfl) ?_
  refine va_get (D := D) (ci := 3) (v := .ref a_this_now) (C := RX7) (T := TX7) (N := 5) hx hb hts zi_X7_change_X7 hown hK.1 hP 0 rfl rfl 1 (by decide) (hts (.fieldLink RX7 19 "HalfAndHalfAgain" "now" "LHalfAndHalfAgain$Store;") (List.mem_of_getElem? (i := 1) rfl)) (fun _ h9 => h9) rfl dX7_change_22 ?_
  refine va_get (D := D) (ci := 1) (v := .ref a_this_now_figures) (C := RX5) (T := TX5) (N := 4) hx hb hts zi_X7_change_X5 hown hK.1 hP 1 rfl rfl 0 (by decide) (hts (.fieldLink RX7 62 "HalfAndHalfAgain$Store" "figures" "[J") (List.mem_of_getElem? (i := 2) rfl)) (fun _ h9 => h9) rfl dX7_change_25 ?_
  refine lv_iload_n hx hb dX7_change_28 rfl (lv_at hl 2 rfl) ?_
  refine lv_lload_n hx hb dX7_change_29 rfl (lv_at hl 3 rfl) ?_
  obtain ⟨hi25, h⟩ := hk_ge h
  refine va_last hx hb hK.1 hP hD hS 2 1 rfl rfl (hk_inb_of hi25) dX7_change_30 (fun H locs hP hD hS => ?_)
  have hP : va_P D vwCl [(a_this, .inr (3, [.ref a_this_text, .ref a_this_now, .ref a_this_slots, .ref a_this_cover, .ref a_this_formsSeen])), (a_this_now, .inr (1, [.ref a_this_now_figures, .ref a_this_now_pieces, .ref a_this_now_mayMirror, .int c_this_now_laid])), (a_this_now_figures, .inl (cJ, 8, .inr (.inl (vp_updL c_this_now_figures x1.toNatClampNeg x2))))] H := hP
  have hD : va_D A [(a_this, .inr (3, [.ref a_this_text, .ref a_this_now, .ref a_this_slots, .ref a_this_cover, .ref a_this_formsSeen])), (a_this_now, .inr (1, [.ref a_this_now_figures, .ref a_this_now_pieces, .ref a_this_now_mayMirror, .int c_this_now_laid])), (a_this_now_figures, .inl (cJ, 8, .inr (.inl (vp_updL c_this_now_figures x1.toNatClampNeg x2))))] := hD
  refine lv_iload hx hb dX7_change_31 (lv_at hl 0 rfl) ?_
  refine lv_if_eq (tgt := 40) hx hb dX7_change_33 (by decide) (fun c26 => ?_) (fun c26 => ?_)
  · replace h := hk_ip c26 h
    refine lv_iconst (v := (0 : Int32)) hx hb dX7_change_40 (by decide) ?_
    subst hQ
    have h := Option.some.inj h
    simp only [Prod.mk.injEq] at h
    obtain ⟨rfl, rfl⟩ := h
    exact W.iret hx hb hr (fun t ht hW => ⟨⟨_, (), rfl, rfl, by rw [ht]; exact hP, hD⟩, hS.F ht⟩) hS.2.2 dX7_change_41
  replace h := hk_in c26 h
  refine lv_iconst (v := (1 : Int32)) hx hb dX7_change_36 (by decide) ?_
  refine lv_goto (tgt := 41) hx hb dX7_change_37 (by decide) ?_
  subst hQ
  have h := Option.some.inj h
  simp only [Prod.mk.injEq] at h
  obtain ⟨rfl, rfl⟩ := h
  exact W.iret hx hb hr (fun t ht hW => ⟨⟨_, (), rfl, rfl, by rw [ht]; exact hP, hD⟩, hS.F ht⟩) hS.2.2 dX7_change_41
theorem zv_X7_set : yX7_set.cls = RX7 ∧ yX7_set.cls ≠ "java/lang/invoke/MethodHandle" ∧ yX7_set.cls ≠ "java/lang/invoke/VarHandle" ∧ (parseMethodDescriptor yX7_set.desc).map (fun d => d.parameters.length) = some 3 := by decide +kernel
def f_X7_set (c_this_now_figures : Nat → Int64)  (x1 : Int32) (x2 : Int32) (x3 : Int32) : Option (Int32 × (Nat → Int64)) := hk_b1 (f_X7_noFigure x1) fun r21 => if r21 = 0 then (if x2 < 0 then (some ((-1 : Int32), c_this_now_figures)) else (if x2 < (64 : Int32) then (hk_let (hk_shl (1 : Int64) x2) fun x28 => hk_gd (hk_inb x1 8) (hk_let (c_this_now_figures x1.toNatClampNeg) fun x30 => hk_let (if x3 = 0 then ((x30 &&& (x28 ^^^ (-1 : Int64)))) else ((x30 ||| x28))) fun v33 => hk_b2 (f_X7_change c_this_now_figures x1 v33) fun r34 u35 => some (r34, u35))) else (some ((-1 : Int32), c_this_now_figures)))) else (some ((-1 : Int32), c_this_now_figures))
theorem zi_X7_set_X7 : ∀ w ∈ u_ws RX7 TX7 5, w ∈ wsX7_set := by decide +kernel
theorem zi_X7_set_X5 : ∀ w ∈ u_ws RX5 TX5 4, w ∈ wsX7_set := by decide +kernel
set_option maxHeartbeats 8000000 in
set_option maxRecDepth 100000 in
theorem c_X7_set (l : Launch) (D : va_G) (cI cJ cZ cO : ClassId) (a_this a_this_text a_this_now a_this_slots a_this_cover a_this_formsSeen a_this_now_figures a_this_now_pieces a_this_now_mayMirror : Nat) (sz : Nat) (c_this_now_laid : Int32) (c_this_now_figures : Nat → Int64) (x1 : Int32) (x2 : Int32) (x3 : Int32) (rv : Int32) (u_this_now_figures : Nat → Int64) (hf : f_X7_set c_this_now_figures x1 x2 x3 = some (rv, u_this_now_figures)) : Met l yX7_set wsX7_set ({ frames := 1, cells := 0, slots := 0, locals := 24 }) (va_Pc [.ref a_this, .int x1, .int x2, .int x3] (hkM D cI cJ cZ cO [(a_this, .inr (3, [.ref a_this_text, .ref a_this_now, .ref a_this_slots, .ref a_this_cover, .ref a_this_formsSeen])), (a_this_now, .inr (1, [.ref a_this_now_figures, .ref a_this_now_pieces, .ref a_this_now_mayMirror, .int c_this_now_laid])), (a_this_now_figures, .inl (cJ, 8, .inr (.inl c_this_now_figures)))] sz)) (va_Qi (fun r (_ : Unit) => r = rv) (fun _ t => va_P D vwCl [(a_this, .inr (3, [.ref a_this_text, .ref a_this_now, .ref a_this_slots, .ref a_this_cover, .ref a_this_formsSeen])), (a_this_now, .inr (1, [.ref a_this_now_figures, .ref a_this_now_pieces, .ref a_this_now_mayMirror, .int c_this_now_laid])), (a_this_now_figures, .inl (cJ, 8, .inr (.inl u_this_now_figures)))] t.heap ∧ va_D (va_A [(a_this, .inr (3, [.ref a_this_text, .ref a_this_now, .ref a_this_slots, .ref a_this_cover, .ref a_this_formsSeen])), (a_this_now, .inr (1, [.ref a_this_now_figures, .ref a_this_now_pieces, .ref a_this_now_mayMirror, .int c_this_now_laid])), (a_this_now_figures, .inl (cJ, 8, .inr (.inl c_this_now_figures)))] sz) [(a_this, .inr (3, [.ref a_this_text, .ref a_this_now, .ref a_this_slots, .ref a_this_cover, .ref a_this_formsSeen])), (a_this_now, .inr (1, [.ref a_this_now_figures, .ref a_this_now_pieces, .ref a_this_now_mayMirror, .int c_this_now_laid])), (a_this_now_figures, .inl (cJ, 8, .inr (.inl u_this_now_figures)))]) (va_A [(a_this, .inr (3, [.ref a_this_text, .ref a_this_now, .ref a_this_slots, .ref a_this_cover, .ref a_this_formsSeen])), (a_this_now, .inr (1, [.ref a_this_now_figures, .ref a_this_now_pieces, .ref a_this_now_mayMirror, .int c_this_now_laid])), (a_this_now_figures, .inl (cJ, 8, .inr (.inl c_this_now_figures)))] sz)) 0 0 (va_A [(a_this, .inr (3, [.ref a_this_text, .ref a_this_now, .ref a_this_slots, .ref a_this_cover, .ref a_this_formsSeen])), (a_this_now, .inr (1, [.ref a_this_now_figures, .ref a_this_now_pieces, .ref a_this_now_mayMirror, .int c_this_now_laid])), (a_this_now_figures, .inl (cJ, 8, .inr (.inl c_this_now_figures)))] sz) := by
  refine Met.ofW (cc := cX7_set) (maxL := 8) (ret := (some .int)) (by decide) rfl ?_
  intro p e s m args below meth c s₁ B hml hv
  obtain ⟨rfl, hsz, hP, hK, hD0⟩ := hv
  have hx := B.exec
  have hb := B.bytes
  have hr := B.returns
  have hts := atoms_spec (ws := wsX7_set) B.pre
  have hown : s.vm.findClass RX7 = some m.cls := findClass_of_methodNamed B.named
  have hlocks := B.notSynchronized
  have hN := hK.2
  subst hsz
  have hD := hD0.self (sz := s.heap.size)
  generalize hAe : va_A [(a_this, .inr (3, [.ref a_this_text, .ref a_this_now, .ref a_this_slots, .ref a_this_cover, .ref a_this_formsSeen])), (a_this_now, .inr (1, [.ref a_this_now_figures, .ref a_this_now_pieces, .ref a_this_now_mayMirror, .int c_this_now_laid])), (a_this_now_figures, .inl (cJ, 8, .inr (.inl c_this_now_figures)))] s.heap.size = A at hD ⊢
  have hA : ∀ q : Nat, s.heap.size ≤ q → A q := fun q h => by rw [← hAe]; exact Or.inr h
  have hS : va_S A s.heap s.heap [] := va_S.rf
  have hl := lv_entry ([.ref a_this, .int x1, .int x2, .int x3]) (n := 8) (Nat.le_of_ble_eq_true rfl)
  rw [lg_entry_eq]
  generalize (lg_sl ([.ref a_this, .int x1, .int x2, .int x3]) ++ List.replicate (8 - (lg_sl ([.ref a_this, .int x1, .int x2, .int x3])).length) Slot.unset).toArray = ls at hl ⊢
  have hl : lv_has ls 8 [(0, .ref a_this), (1, .int x1), (2, .int x2), (3, .int x3)] := hl
  refine hk_Q (fun Q hQ => ?_)
  have h := hf
  unfold f_X7_set at h
  refine lv_iload_n hx hb dX7_set_0 rfl (lv_at hl 1 rfl) ?_
  obtain ⟨r21, hr22, h⟩ := hk_x1 h
  refine vp_callSi (W.runS (As := [.int x1]) (rest := []) ⟨hx, hb, hml, hown, hts⟩ (c_X7_noFigure l x1 _ hr22) (va_cwS 1 hts gX7_set_X7_noFigure rfl rfl rfl zs_X7_noFigure ⟨Nat.le_of_ble_eq_true rfl, Nat.le_of_ble_eq_true rfl⟩) ⟨fun _ _ _ _ q => q, fun _ _ _ => ⟨rfl, trivial⟩⟩ rfl rfl hl.1 rfl (lv_room (Nat.le_of_ble_eq_true rfl)) dX7_set_1 ⟨Nat.zero_le _, Nat.zero_le _⟩) (fun p24 e23 => ?_)
  rw [e23]
  refine lv_if_ne (tgt := 17) hx hb dX7_set_4 (by decide) (fun c25 => ?_) (fun c25 => ?_)
  · replace h := hk_in c25 h
    refine lv_iconst (v := (-1 : Int32)) hx hb dX7_set_17 (by decide) ?_
    subst hQ
    have h := Option.some.inj h
    simp only [Prod.mk.injEq] at h
    obtain ⟨rfl, rfl⟩ := h
    exact W.iret hx hb hr (fun t ht hW => ⟨⟨_, (), rfl, rfl, by rw [ht]; exact hP, hD⟩, hS.F ht⟩) hS.2.2 dX7_set_18
  replace h := hk_ip c25 h
  refine lv_iload_n hx hb dX7_set_7 rfl (lv_at hl 2 rfl) ?_
  refine lv_if_lt (tgt := 17) hx hb dX7_set_8 (by decide) (fun c26 => ?_) (fun c26 => ?_)
  · replace h := hk_ip c26 h
    refine lv_iconst (v := (-1 : Int32)) hx hb dX7_set_17 (by decide) ?_
    subst hQ
    have h := Option.some.inj h
    simp only [Prod.mk.injEq] at h
    obtain ⟨rfl, rfl⟩ := h
    exact W.iret hx hb hr (fun t ht hW => ⟨⟨_, (), rfl, rfl, by rw [ht]; exact hP, hD⟩, hS.F ht⟩) hS.2.2 dX7_set_18
  replace h := hk_in c26 h
  refine lv_iload_n hx hb dX7_set_11 rfl (lv_at hl 2 rfl) ?_
  refine lv_bipush (v := (64 : Int32)) hx hb dX7_set_12 (by decide) ?_
  refine lv_icmp_lt (tgt := 19) hx hb dX7_set_14 (by decide) (fun c27 => ?_) (fun c27 => ?_)
  · replace h := hk_ip c27 h
    refine lv_lconst (v := (1 : Int64)) hx hb dX7_set_19 (by decide) ?_
    refine lv_iload_n hx hb dX7_set_20 rfl (lv_at hl 2 rfl) ?_
    refine lv_lshl (v := (hk_shl (1 : Int64) x2)) hx hb dX7_set_21 rfl ?_
    obtain ⟨x28, ex28, h⟩ := hk_le h
    refine hk_tl ex28 ?_
    refine lv_lstore (lv' := [(4, .long x28), (0, .ref a_this), (1, .int x1), (2, .int x2), (3, .int x3)]) hx hb dX7_set_22 hl (by decide) rfl (fun ls hl => ?_)
    refine lv_aload_n hx hb dX7_set_24 rfl (lv_at hl 1 rfl) ?_
    refine va_get (D := D) (ci := 3) (v := .ref a_this_now) (C := RX7) (T := TX7) (N := 5) hx hb hts zi_X7_set_X7 hown hK.1 hP 0 rfl rfl 1 (by decide) (hts (.fieldLink RX7 19 "HalfAndHalfAgain" "now" "LHalfAndHalfAgain$Store;") (List.mem_of_getElem? (i := 1) rfl)) (fun _ h9 => h9) rfl dX7_set_25 ?_
    refine va_get (D := D) (ci := 1) (v := .ref a_this_now_figures) (C := RX5) (T := TX5) (N := 4) hx hb hts zi_X7_set_X5 hown hK.1 hP 1 rfl rfl 0 (by decide) (hts (.fieldLink RX7 62 "HalfAndHalfAgain$Store" "figures" "[J") (List.mem_of_getElem? (i := 2) rfl)) (fun _ h9 => h9) rfl dX7_set_28 ?_
    refine lv_iload_n hx hb dX7_set_31 rfl (lv_at hl 2 rfl) ?_
    obtain ⟨hi29, h⟩ := hk_ge h
    refine va_lald hx hb hK.1 hP 2 1 rfl rfl (hk_inb_of hi29) dX7_set_32 ?_
    obtain ⟨x30, ex30, h⟩ := hk_le h
    refine hk_tl ex30 ?_
    refine lv_lstore (lv' := [(6, .long x30), (4, .long x28), (0, .ref a_this), (1, .int x1), (2, .int x2), (3, .int x3)]) hx hb dX7_set_33 hl (by decide) rfl (fun ls hl => ?_)
    refine lv_aload_n hx hb dX7_set_35 rfl (lv_at hl 2 rfl) ?_
    refine lv_iload_n hx hb dX7_set_36 rfl (lv_at hl 3 rfl) ?_
    refine lv_iload_n hx hb dX7_set_37 rfl (lv_at hl 5 rfl) ?_
    obtain ⟨v33, g31, h⟩ := hk_lf h
    refine hk_joinR (nL := 8) (xs := fun (t9 : Int64) => (58, [], [.long t9, .int x1, .ref a_this])) v33 (fun hjg31 => ?_) ?_
    · refine lv_if_eq (tgt := 49) hx hb dX7_set_38 (by decide) (fun c32 => ?_) (fun c32 => ?_)
      · replace g31 := hk_ip c32 g31
        refine lv_lload hx hb dX7_set_49 (lv_at hl 0 rfl) ?_
        refine lv_lload hx hb dX7_set_51 (lv_at hl 1 rfl) ?_
        refine lv_ldc2 (v := (-1 : Int64)) hx hb hown (hts (.constantLong RX7 75 (-1)) (List.mem_of_getElem? (i := 3) rfl)) dX7_set_53 ?_
        refine lv_lxor hx hb dX7_set_56 ?_
        refine lv_land hx hb dX7_set_57 ?_
        subst g31
        exact hjg31 ls (lv_sub hl [] rfl)
      replace g31 := hk_in c32 g31
      refine lv_lload hx hb dX7_set_41 (lv_at hl 0 rfl) ?_
      refine lv_lload hx hb dX7_set_43 (lv_at hl 1 rfl) ?_
      refine lv_lor hx hb dX7_set_45 ?_
      refine lv_goto (tgt := 58) hx hb dX7_set_46 (by decide) ?_
      subst g31
      exact hjg31 ls (lv_sub hl [] rfl)
    intro ls hl
    have hl : lv_has ls 8 [] := hl
    show W _ _ _ _ _ _ _ _ _ _ _ _ _ _ _ (F0 m 58 ls [.long v33, .int x1, .ref a_this])
    obtain ⟨r34, u35, hr36, h⟩ := hk_x2 h
    have hPc := hP.sub (ws' := [(a_this, .inr (3, [.ref a_this_text, .ref a_this_now, .ref a_this_slots, .ref a_this_cover, .ref a_this_formsSeen])), (a_this_now, .inr (1, [.ref a_this_now_figures, .ref a_this_now_pieces, .ref a_this_now_mayMirror, .int c_this_now_laid])), (a_this_now_figures, .inl (cJ, 8, .inr (.inl c_this_now_figures)))]) [0, 1, 2] rfl
    have hDc := hD.sub (ws' := [(a_this, .inr (3, [.ref a_this_text, .ref a_this_now, .ref a_this_slots, .ref a_this_cover, .ref a_this_formsSeen])), (a_this_now, .inr (1, [.ref a_this_now_figures, .ref a_this_now_pieces, .ref a_this_now_mayMirror, .int c_this_now_laid])), (a_this_now_figures, .inl (cJ, 8, .inr (.inl c_this_now_figures)))]) [0, 1, 2] (by decide) rfl
    have hFc := va_free (wc := [(a_this, .inr (3, [.ref a_this_text, .ref a_this_now, .ref a_this_slots, .ref a_this_cover, .ref a_this_formsSeen])), (a_this_now, .inr (1, [.ref a_this_now_figures, .ref a_this_now_pieces, .ref a_this_now_mayMirror, .int c_this_now_laid])), (a_this_now_figures, .inl (cJ, 8, .inr (.inl c_this_now_figures)))]) hD hS hA [0, 1, 2] rfl
    refine va_calli (va_runV (As := [.int x1, .long v33]) (rest := []) ⟨hx, hb, hml, hown, hts⟩ (c_X7_change l D cI cJ cZ cO a_this a_this_text a_this_now a_this_slots a_this_cover a_this_formsSeen a_this_now_figures a_this_now_pieces a_this_now_mayMirror s.heap.size c_this_now_laid c_this_now_figures x1 v33 _ _ hr36) (cwV 2 hts gX7_set_X7_change rfl rfl rfl zv_X7_change ⟨Nat.le_of_ble_eq_true rfl, Nat.le_of_ble_eq_true rfl⟩) (hk_preMV 3 rfl hPc hDc hK rfl) rfl rfl hl.1 rfl (lv_room (Nat.le_of_ble_eq_true rfl)) dX7_set_58 ⟨Nat.zero_le _, Nat.zero_le _⟩) hS (fun q _ h9 => hFc q h9) hFc (fun p37 u9 t9 H1 locs ht hvm hw hB hz1 hk1 hS => ?_)
    obtain ⟨hP1, hD1⟩ := hB
    rw [ht] at hP1
    rw [hw]
    obtain ⟨hP, hD⟩ := va_join (wr := []) (w1 := [(a_this, .inr (3, [.ref a_this_text, .ref a_this_now, .ref a_this_slots, .ref a_this_cover, .ref a_this_formsSeen])), (a_this_now, .inr (1, [.ref a_this_now_figures, .ref a_this_now_pieces, .ref a_this_now_mayMirror, .int c_this_now_laid])), (a_this_now_figures, .inl (cJ, 8, .inr (.inl u35)))]) hP hD [0, 1, 2] [] rfl rfl (by decide) (by decide) hk1 hFc hP1 hD1
    generalize H1 = H at hP hS ⊢
    have hP := hP.sub (ws' := [(a_this, .inr (3, [.ref a_this_text, .ref a_this_now, .ref a_this_slots, .ref a_this_cover, .ref a_this_formsSeen])), (a_this_now, .inr (1, [.ref a_this_now_figures, .ref a_this_now_pieces, .ref a_this_now_mayMirror, .int c_this_now_laid])), (a_this_now_figures, .inl (cJ, 8, .inr (.inl u35)))]) [0, 1, 2] rfl
    have hD := hD.sub (ws' := [(a_this, .inr (3, [.ref a_this_text, .ref a_this_now, .ref a_this_slots, .ref a_this_cover, .ref a_this_formsSeen])), (a_this_now, .inr (1, [.ref a_this_now_figures, .ref a_this_now_pieces, .ref a_this_now_mayMirror, .int c_this_now_laid])), (a_this_now_figures, .inl (cJ, 8, .inr (.inl u35)))]) [0, 1, 2] (by decide) rfl
    subst hQ
    have h := Option.some.inj h
    simp only [Prod.mk.injEq] at h
    obtain ⟨rfl, rfl⟩ := h
    exact W.iret hx hb hr (fun t ht hW => ⟨⟨_, (), rfl, rfl, by rw [ht]; exact hP, hD⟩, hS.F ht⟩) hS.2.2 dX7_set_61
  replace h := hk_in c27 h
  refine lv_iconst (v := (-1 : Int32)) hx hb dX7_set_17 (by decide) ?_
  subst hQ
  have h := Option.some.inj h
  simp only [Prod.mk.injEq] at h
  obtain ⟨rfl, rfl⟩ := h
  exact W.iret hx hb hr (fun t ht hW => ⟨⟨_, (), rfl, rfl, by rw [ht]; exact hP, hD⟩, hS.F ht⟩) hS.2.2 dX7_set_18
theorem zv_X7_size : yX7_size.cls = RX7 ∧ yX7_size.cls ≠ "java/lang/invoke/MethodHandle" ∧ yX7_size.cls ≠ "java/lang/invoke/VarHandle" ∧ (parseMethodDescriptor yX7_size.desc).map (fun d => d.parameters.length) = some 1 := by decide +kernel
def f_X7_size (c_this_now_figures : Nat → Int64)  (x1 : Int32) : Option Int32 := hk_b1 (f_X7_noFigure x1) fun r21 => if r21 = 0 then (hk_gd (hk_inb x1 8) (hk_b1 (f_J13_bitCount_95d88 (c_this_now_figures x1.toNatClampNeg)) fun r27 => some r27)) else (some (-1 : Int32))
theorem zi_X7_size_X7 : ∀ w ∈ u_ws RX7 TX7 5, w ∈ wsX7_size := by decide +kernel
theorem zi_X7_size_X5 : ∀ w ∈ u_ws RX5 TX5 4, w ∈ wsX7_size := by decide +kernel
set_option maxHeartbeats 8000000 in
set_option maxRecDepth 100000 in
theorem c_X7_size (l : Launch) (D : va_G) (cI cJ cZ cO : ClassId) (a_this a_this_text a_this_now a_this_slots a_this_cover a_this_formsSeen a_this_now_figures a_this_now_pieces a_this_now_mayMirror : Nat) (c_this_now_laid : Int32) (c_this_now_figures : Nat → Int64) (x1 : Int32) (rv : Int32) (hf : f_X7_size c_this_now_figures x1 = some rv) : Met l yX7_size wsX7_size ({ frames := 1, cells := 0, slots := 0, locals := 21 }) (va_Pc [.ref a_this, .int x1] (hkR D cI cJ cZ cO [(a_this, .inr (3, [.ref a_this_text, .ref a_this_now, .ref a_this_slots, .ref a_this_cover, .ref a_this_formsSeen])), (a_this_now, .inr (1, [.ref a_this_now_figures, .ref a_this_now_pieces, .ref a_this_now_mayMirror, .int c_this_now_laid])), (a_this_now_figures, .inl (cJ, 8, .inr (.inl c_this_now_figures)))])) (vp_Si (fun r => r = rv)) 0 0 (fun _ => False) := by
  refine Met.ofW (cc := cX7_size) (maxL := 2) (ret := (some .int)) (by decide) rfl ?_
  intro p e s m args below meth c s₁ B hml hv
  obtain ⟨rfl, hP, hK⟩ := hv
  have hx := B.exec
  have hb := B.bytes
  have hr := B.returns
  have hts := atoms_spec (ws := wsX7_size) B.pre
  have hown : s.vm.findClass RX7 = some m.cls := findClass_of_methodNamed B.named
  have hlocks := B.notSynchronized
  have hN := hK.2
  have hl := lv_entry ([.ref a_this, .int x1]) (n := 2) (Nat.le_of_ble_eq_true rfl)
  rw [lg_entry_eq]
  generalize (lg_sl ([.ref a_this, .int x1]) ++ List.replicate (2 - (lg_sl ([.ref a_this, .int x1])).length) Slot.unset).toArray = ls at hl ⊢
  have hl : lv_has ls 2 [(0, .ref a_this), (1, .int x1)] := hl
  refine hk_Q (fun Q hQ => ?_)
  have h := hf
  unfold f_X7_size at h
  refine lv_iload_n hx hb dX7_size_0 rfl (lv_at hl 1 rfl) ?_
  obtain ⟨r21, hr22, h⟩ := hk_x1 h
  refine vp_callSi (W.runS (As := [.int x1]) (rest := []) ⟨hx, hb, hml, hown, hts⟩ (c_X7_noFigure l x1 _ hr22) (va_cwS 1 hts gX7_size_X7_noFigure rfl rfl rfl zs_X7_noFigure ⟨Nat.le_of_ble_eq_true rfl, Nat.le_of_ble_eq_true rfl⟩) ⟨fun _ _ _ _ q => q, fun _ _ _ => ⟨rfl, trivial⟩⟩ rfl rfl hl.1 rfl (lv_room (Nat.le_of_ble_eq_true rfl)) dX7_size_1 ⟨Nat.zero_le _, Nat.zero_le _⟩) (fun p24 e23 => ?_)
  rw [e23]
  refine lv_if_eq (tgt := 11) hx hb dX7_size_4 (by decide) (fun c25 => ?_) (fun c25 => ?_)
  · replace h := hk_ip c25 h
    refine lv_aload_n hx hb dX7_size_11 rfl (lv_at hl 0 rfl) ?_
    refine va_get (D := D) (ci := 3) (v := .ref a_this_now) (C := RX7) (T := TX7) (N := 5) hx hb hts zi_X7_size_X7 hown hK.1 hP 0 rfl rfl 1 (by decide) (hts (.fieldLink RX7 19 "HalfAndHalfAgain" "now" "LHalfAndHalfAgain$Store;") (List.mem_of_getElem? (i := 1) rfl)) (fun _ h9 => h9) rfl dX7_size_12 ?_
    refine va_get (D := D) (ci := 1) (v := .ref a_this_now_figures) (C := RX5) (T := TX5) (N := 4) hx hb hts zi_X7_size_X5 hown hK.1 hP 1 rfl rfl 0 (by decide) (hts (.fieldLink RX7 62 "HalfAndHalfAgain$Store" "figures" "[J") (List.mem_of_getElem? (i := 2) rfl)) (fun _ h9 => h9) rfl dX7_size_15 ?_
    refine lv_iload_n hx hb dX7_size_18 rfl (lv_at hl 1 rfl) ?_
    obtain ⟨hi26, h⟩ := hk_ge h
    refine va_lald hx hb hK.1 hP 2 1 rfl rfl (hk_inb_of hi26) dX7_size_19 ?_
    obtain ⟨r27, hr28, h⟩ := hk_x1 h
    refine vp_callSi (W.runS (As := [.long (c_this_now_figures x1.toNatClampNeg)]) (rest := []) ⟨hx, hb, hml, hown, hts⟩ (c_J13_bitCount_95d88 l (c_this_now_figures x1.toNatClampNeg) _ hr28) (va_cwS 1 hts gX7_size_J13_bitCount_95d88 rfl rfl rfl zs_J13_bitCount_95d88 ⟨Nat.le_of_ble_eq_true rfl, Nat.le_of_ble_eq_true rfl⟩) ⟨fun _ _ _ _ q => q, fun _ _ _ => ⟨rfl, trivial⟩⟩ rfl rfl hl.1 rfl (lv_room (Nat.le_of_ble_eq_true rfl)) dX7_size_20 ⟨Nat.zero_le _, Nat.zero_le _⟩) (fun p30 e29 => ?_)
    rw [e29]
    subst hQ
    exact W.iret hx hb hr (fun t ht hW => ⟨_, rfl, Option.some.inj h, ht⟩) (fun _ h9 => by cases h9) dX7_size_23
  replace h := hk_in c25 h
  refine lv_iconst (v := (-1 : Int32)) hx hb dX7_size_7 (by decide) ?_
  refine lv_goto (tgt := 23) hx hb dX7_size_8 (by decide) ?_
  subst hQ
  exact W.iret hx hb hr (fun t ht hW => ⟨_, rfl, Option.some.inj h, ht⟩) (fun _ h9 => by cases h9) dX7_size_23
theorem zv_X7_parts : yX7_parts.cls = RX7 ∧ yX7_parts.cls ≠ "java/lang/invoke/MethodHandle" ∧ yX7_parts.cls ≠ "java/lang/invoke/VarHandle" ∧ (parseMethodDescriptor yX7_parts.desc).map (fun d => d.parameters.length) = some 1 := by decide +kernel
def f_X7_parts (c_this_now_figures : Nat → Int64)  (x1 : Int32) : Option Int32 := hk_b1 (f_X7_noFigure x1) fun r21 => if r21 = 0 then (hk_gd (hk_inb x1 8) (hk_b1 (f_X0_countParts (c_this_now_figures x1.toNatClampNeg)) fun r27 => some r27)) else (some (-1 : Int32))
theorem zi_X7_parts_X7 : ∀ w ∈ u_ws RX7 TX7 5, w ∈ wsX7_parts := by decide +kernel
theorem zi_X7_parts_X5 : ∀ w ∈ u_ws RX5 TX5 4, w ∈ wsX7_parts := by decide +kernel
set_option maxHeartbeats 8000000 in
set_option maxRecDepth 100000 in
theorem c_X7_parts (l : Launch) (D : va_G) (cI cJ cZ cO : ClassId) (a_this a_this_text a_this_now a_this_slots a_this_cover a_this_formsSeen a_this_now_figures a_this_now_pieces a_this_now_mayMirror : Nat) (c_this_now_laid : Int32) (c_this_now_figures : Nat → Int64) (x1 : Int32) (rv : Int32) (hf : f_X7_parts c_this_now_figures x1 = some rv) : Met l yX7_parts wsX7_parts ({ frames := 4, cells := 0, slots := 0, locals := 95 }) (va_Pc [.ref a_this, .int x1] (hkR D cI cJ cZ cO [(a_this, .inr (3, [.ref a_this_text, .ref a_this_now, .ref a_this_slots, .ref a_this_cover, .ref a_this_formsSeen])), (a_this_now, .inr (1, [.ref a_this_now_figures, .ref a_this_now_pieces, .ref a_this_now_mayMirror, .int c_this_now_laid])), (a_this_now_figures, .inl (cJ, 8, .inr (.inl c_this_now_figures)))])) (vp_Si (fun r => r = rv)) 0 0 (fun _ => False) := by
  refine Met.ofW (cc := cX7_parts) (maxL := 2) (ret := (some .int)) (by decide) rfl ?_
  intro p e s m args below meth c s₁ B hml hv
  obtain ⟨rfl, hP, hK⟩ := hv
  have hx := B.exec
  have hb := B.bytes
  have hr := B.returns
  have hts := atoms_spec (ws := wsX7_parts) B.pre
  have hown : s.vm.findClass RX7 = some m.cls := findClass_of_methodNamed B.named
  have hlocks := B.notSynchronized
  have hN := hK.2
  have hl := lv_entry ([.ref a_this, .int x1]) (n := 2) (Nat.le_of_ble_eq_true rfl)
  rw [lg_entry_eq]
  generalize (lg_sl ([.ref a_this, .int x1]) ++ List.replicate (2 - (lg_sl ([.ref a_this, .int x1])).length) Slot.unset).toArray = ls at hl ⊢
  have hl : lv_has ls 2 [(0, .ref a_this), (1, .int x1)] := hl
  refine hk_Q (fun Q hQ => ?_)
  have h := hf
  unfold f_X7_parts at h
  refine lv_iload_n hx hb dX7_parts_0 rfl (lv_at hl 1 rfl) ?_
  obtain ⟨r21, hr22, h⟩ := hk_x1 h
  refine vp_callSi (W.runS (As := [.int x1]) (rest := []) ⟨hx, hb, hml, hown, hts⟩ (c_X7_noFigure l x1 _ hr22) (va_cwS 1 hts gX7_parts_X7_noFigure rfl rfl rfl zs_X7_noFigure ⟨Nat.le_of_ble_eq_true rfl, Nat.le_of_ble_eq_true rfl⟩) ⟨fun _ _ _ _ q => q, fun _ _ _ => ⟨rfl, trivial⟩⟩ rfl rfl hl.1 rfl (lv_room (Nat.le_of_ble_eq_true rfl)) dX7_parts_1 ⟨Nat.zero_le _, Nat.zero_le _⟩) (fun p24 e23 => ?_)
  rw [e23]
  refine lv_if_eq (tgt := 11) hx hb dX7_parts_4 (by decide) (fun c25 => ?_) (fun c25 => ?_)
  · replace h := hk_ip c25 h
    refine lv_aload_n hx hb dX7_parts_11 rfl (lv_at hl 0 rfl) ?_
    refine va_get (D := D) (ci := 3) (v := .ref a_this_now) (C := RX7) (T := TX7) (N := 5) hx hb hts zi_X7_parts_X7 hown hK.1 hP 0 rfl rfl 1 (by decide) (hts (.fieldLink RX7 19 "HalfAndHalfAgain" "now" "LHalfAndHalfAgain$Store;") (List.mem_of_getElem? (i := 1) rfl)) (fun _ h9 => h9) rfl dX7_parts_12 ?_
    refine va_get (D := D) (ci := 1) (v := .ref a_this_now_figures) (C := RX5) (T := TX5) (N := 4) hx hb hts zi_X7_parts_X5 hown hK.1 hP 1 rfl rfl 0 (by decide) (hts (.fieldLink RX7 62 "HalfAndHalfAgain$Store" "figures" "[J") (List.mem_of_getElem? (i := 2) rfl)) (fun _ h9 => h9) rfl dX7_parts_15 ?_
    refine lv_iload_n hx hb dX7_parts_18 rfl (lv_at hl 1 rfl) ?_
    obtain ⟨hi26, h⟩ := hk_ge h
    refine va_lald hx hb hK.1 hP 2 1 rfl rfl (hk_inb_of hi26) dX7_parts_19 ?_
    obtain ⟨r27, hr28, h⟩ := hk_x1 h
    refine vp_callSi (W.runS (As := [.long (c_this_now_figures x1.toNatClampNeg)]) (rest := []) ⟨hx, hb, hml, hown, hts⟩ (c_X0_countParts l (c_this_now_figures x1.toNatClampNeg) _ hr28) (va_cwS 1 hts gX7_parts_X0_countParts rfl rfl rfl zs_X0_countParts ⟨Nat.le_of_ble_eq_true rfl, Nat.le_of_ble_eq_true rfl⟩) ⟨fun _ _ _ _ q => q, fun _ _ _ => ⟨rfl, trivial⟩⟩ rfl rfl hl.1 rfl (lv_room (Nat.le_of_ble_eq_true rfl)) dX7_parts_20 ⟨Nat.zero_le _, Nat.zero_le _⟩) (fun p30 e29 => ?_)
    rw [e29]
    subst hQ
    exact W.iret hx hb hr (fun t ht hW => ⟨_, rfl, Option.some.inj h, ht⟩) (fun _ h9 => by cases h9) dX7_parts_23
  replace h := hk_in c25 h
  refine lv_iconst (v := (-1 : Int32)) hx hb dX7_parts_7 (by decide) ?_
  refine lv_goto (tgt := 23) hx hb dX7_parts_8 (by decide) ?_
  subst hQ
  exact W.iret hx hb hr (fun t ht hW => ⟨_, rfl, Option.some.inj h, ht⟩) (fun _ h9 => by cases h9) dX7_parts_23
theorem zv_X7_holes : yX7_holes.cls = RX7 ∧ yX7_holes.cls ≠ "java/lang/invoke/MethodHandle" ∧ yX7_holes.cls ≠ "java/lang/invoke/VarHandle" ∧ (parseMethodDescriptor yX7_holes.desc).map (fun d => d.parameters.length) = some 1 := by decide +kernel
def f_X7_holes (c_this_now_figures : Nat → Int64)  (x1 : Int32) : Option Int32 := hk_b1 (f_X7_noFigure x1) fun r21 => if r21 = 0 then (hk_gd (hk_inb x1 8) (hk_b1 (f_X0_countHoles (c_this_now_figures x1.toNatClampNeg)) fun r27 => some r27)) else (some (-1 : Int32))
theorem zi_X7_holes_X7 : ∀ w ∈ u_ws RX7 TX7 5, w ∈ wsX7_holes := by decide +kernel
theorem zi_X7_holes_X5 : ∀ w ∈ u_ws RX5 TX5 4, w ∈ wsX7_holes := by decide +kernel
set_option maxHeartbeats 8000000 in
set_option maxRecDepth 100000 in
theorem c_X7_holes (l : Launch) (D : va_G) (cI cJ cZ cO : ClassId) (a_this a_this_text a_this_now a_this_slots a_this_cover a_this_formsSeen a_this_now_figures a_this_now_pieces a_this_now_mayMirror : Nat) (c_this_now_laid : Int32) (c_this_now_figures : Nat → Int64) (x1 : Int32) (rv : Int32) (hf : f_X7_holes c_this_now_figures x1 = some rv) : Met l yX7_holes wsX7_holes ({ frames := 4, cells := 0, slots := 0, locals := 97 }) (va_Pc [.ref a_this, .int x1] (hkR D cI cJ cZ cO [(a_this, .inr (3, [.ref a_this_text, .ref a_this_now, .ref a_this_slots, .ref a_this_cover, .ref a_this_formsSeen])), (a_this_now, .inr (1, [.ref a_this_now_figures, .ref a_this_now_pieces, .ref a_this_now_mayMirror, .int c_this_now_laid])), (a_this_now_figures, .inl (cJ, 8, .inr (.inl c_this_now_figures)))])) (vp_Si (fun r => r = rv)) 0 0 (fun _ => False) := by
  refine Met.ofW (cc := cX7_holes) (maxL := 2) (ret := (some .int)) (by decide) rfl ?_
  intro p e s m args below meth c s₁ B hml hv
  obtain ⟨rfl, hP, hK⟩ := hv
  have hx := B.exec
  have hb := B.bytes
  have hr := B.returns
  have hts := atoms_spec (ws := wsX7_holes) B.pre
  have hown : s.vm.findClass RX7 = some m.cls := findClass_of_methodNamed B.named
  have hlocks := B.notSynchronized
  have hN := hK.2
  have hl := lv_entry ([.ref a_this, .int x1]) (n := 2) (Nat.le_of_ble_eq_true rfl)
  rw [lg_entry_eq]
  generalize (lg_sl ([.ref a_this, .int x1]) ++ List.replicate (2 - (lg_sl ([.ref a_this, .int x1])).length) Slot.unset).toArray = ls at hl ⊢
  have hl : lv_has ls 2 [(0, .ref a_this), (1, .int x1)] := hl
  refine hk_Q (fun Q hQ => ?_)
  have h := hf
  unfold f_X7_holes at h
  refine lv_iload_n hx hb dX7_holes_0 rfl (lv_at hl 1 rfl) ?_
  obtain ⟨r21, hr22, h⟩ := hk_x1 h
  refine vp_callSi (W.runS (As := [.int x1]) (rest := []) ⟨hx, hb, hml, hown, hts⟩ (c_X7_noFigure l x1 _ hr22) (va_cwS 1 hts gX7_holes_X7_noFigure rfl rfl rfl zs_X7_noFigure ⟨Nat.le_of_ble_eq_true rfl, Nat.le_of_ble_eq_true rfl⟩) ⟨fun _ _ _ _ q => q, fun _ _ _ => ⟨rfl, trivial⟩⟩ rfl rfl hl.1 rfl (lv_room (Nat.le_of_ble_eq_true rfl)) dX7_holes_1 ⟨Nat.zero_le _, Nat.zero_le _⟩) (fun p24 e23 => ?_)
  rw [e23]
  refine lv_if_eq (tgt := 11) hx hb dX7_holes_4 (by decide) (fun c25 => ?_) (fun c25 => ?_)
  · replace h := hk_ip c25 h
    refine lv_aload_n hx hb dX7_holes_11 rfl (lv_at hl 0 rfl) ?_
    refine va_get (D := D) (ci := 3) (v := .ref a_this_now) (C := RX7) (T := TX7) (N := 5) hx hb hts zi_X7_holes_X7 hown hK.1 hP 0 rfl rfl 1 (by decide) (hts (.fieldLink RX7 19 "HalfAndHalfAgain" "now" "LHalfAndHalfAgain$Store;") (List.mem_of_getElem? (i := 1) rfl)) (fun _ h9 => h9) rfl dX7_holes_12 ?_
    refine va_get (D := D) (ci := 1) (v := .ref a_this_now_figures) (C := RX5) (T := TX5) (N := 4) hx hb hts zi_X7_holes_X5 hown hK.1 hP 1 rfl rfl 0 (by decide) (hts (.fieldLink RX7 62 "HalfAndHalfAgain$Store" "figures" "[J") (List.mem_of_getElem? (i := 2) rfl)) (fun _ h9 => h9) rfl dX7_holes_15 ?_
    refine lv_iload_n hx hb dX7_holes_18 rfl (lv_at hl 1 rfl) ?_
    obtain ⟨hi26, h⟩ := hk_ge h
    refine va_lald hx hb hK.1 hP 2 1 rfl rfl (hk_inb_of hi26) dX7_holes_19 ?_
    obtain ⟨r27, hr28, h⟩ := hk_x1 h
    refine vp_callSi (W.runS (As := [.long (c_this_now_figures x1.toNatClampNeg)]) (rest := []) ⟨hx, hb, hml, hown, hts⟩ (c_X0_countHoles l (c_this_now_figures x1.toNatClampNeg) _ hr28) (va_cwS 1 hts gX7_holes_X0_countHoles rfl rfl rfl zs_X0_countHoles ⟨Nat.le_of_ble_eq_true rfl, Nat.le_of_ble_eq_true rfl⟩) ⟨fun _ _ _ _ q => q, fun _ _ _ => ⟨rfl, trivial⟩⟩ rfl rfl hl.1 rfl (lv_room (Nat.le_of_ble_eq_true rfl)) dX7_holes_20 ⟨Nat.zero_le _, Nat.zero_le _⟩) (fun p30 e29 => ?_)
    rw [e29]
    subst hQ
    exact W.iret hx hb hr (fun t ht hW => ⟨_, rfl, Option.some.inj h, ht⟩) (fun _ h9 => by cases h9) dX7_holes_23
  replace h := hk_in c25 h
  refine lv_iconst (v := (-1 : Int32)) hx hb dX7_holes_7 (by decide) ?_
  refine lv_goto (tgt := 23) hx hb dX7_holes_8 (by decide) ?_
  subst hQ
  exact W.iret hx hb hr (fun t ht hW => ⟨_, rfl, Option.some.inj h, ht⟩) (fun _ h9 => by cases h9) dX7_holes_23
theorem zv_X7_edges : yX7_edges.cls = RX7 ∧ yX7_edges.cls ≠ "java/lang/invoke/MethodHandle" ∧ yX7_edges.cls ≠ "java/lang/invoke/VarHandle" ∧ (parseMethodDescriptor yX7_edges.desc).map (fun d => d.parameters.length) = some 2 := by decide +kernel
def f_X7_edges (c_this_now_figures : Nat → Int64)  (x1 : Int32) (x2 : Int32) : Option Int32 := hk_b1 (f_X7_noFigure x1) fun r21 => if r21 = 0 then (hk_gd (hk_inb x1 8) (hk_let (c_this_now_figures x1.toNatClampNeg) fun x27 => if x2 = 0 then (hk_b1 (f_X0_straightEdges x27) fun r29 => some r29) else (hk_b1 (f_X0_slantingEdges x27) fun r33 => some r33))) else (some (-1 : Int32))
theorem zi_X7_edges_X7 : ∀ w ∈ u_ws RX7 TX7 5, w ∈ wsX7_edges := by decide +kernel
theorem zi_X7_edges_X5 : ∀ w ∈ u_ws RX5 TX5 4, w ∈ wsX7_edges := by decide +kernel
set_option maxHeartbeats 8000000 in
set_option maxRecDepth 100000 in
theorem c_X7_edges (l : Launch) (D : va_G) (cI cJ cZ cO : ClassId) (a_this a_this_text a_this_now a_this_slots a_this_cover a_this_formsSeen a_this_now_figures a_this_now_pieces a_this_now_mayMirror : Nat) (c_this_now_laid : Int32) (c_this_now_figures : Nat → Int64) (x1 : Int32) (x2 : Int32) (rv : Int32) (hf : f_X7_edges c_this_now_figures x1 x2 = some rv) : Met l yX7_edges wsX7_edges ({ frames := 2, cells := 0, slots := 0, locals := 42 }) (va_Pc [.ref a_this, .int x1, .int x2] (hkR D cI cJ cZ cO [(a_this, .inr (3, [.ref a_this_text, .ref a_this_now, .ref a_this_slots, .ref a_this_cover, .ref a_this_formsSeen])), (a_this_now, .inr (1, [.ref a_this_now_figures, .ref a_this_now_pieces, .ref a_this_now_mayMirror, .int c_this_now_laid])), (a_this_now_figures, .inl (cJ, 8, .inr (.inl c_this_now_figures)))])) (vp_Si (fun r => r = rv)) 0 0 (fun _ => False) := by
  refine Met.ofW (cc := cX7_edges) (maxL := 5) (ret := (some .int)) (by decide) rfl ?_
  intro p e s m args below meth c s₁ B hml hv
  obtain ⟨rfl, hP, hK⟩ := hv
  have hx := B.exec
  have hb := B.bytes
  have hr := B.returns
  have hts := atoms_spec (ws := wsX7_edges) B.pre
  have hown : s.vm.findClass RX7 = some m.cls := findClass_of_methodNamed B.named
  have hlocks := B.notSynchronized
  have hN := hK.2
  have hl := lv_entry ([.ref a_this, .int x1, .int x2]) (n := 5) (Nat.le_of_ble_eq_true rfl)
  rw [lg_entry_eq]
  generalize (lg_sl ([.ref a_this, .int x1, .int x2]) ++ List.replicate (5 - (lg_sl ([.ref a_this, .int x1, .int x2])).length) Slot.unset).toArray = ls at hl ⊢
  have hl : lv_has ls 5 [(0, .ref a_this), (1, .int x1), (2, .int x2)] := hl
  refine hk_Q (fun Q hQ => ?_)
  have h := hf
  unfold f_X7_edges at h
  refine lv_iload_n hx hb dX7_edges_0 rfl (lv_at hl 1 rfl) ?_
  obtain ⟨r21, hr22, h⟩ := hk_x1 h
  refine vp_callSi (W.runS (As := [.int x1]) (rest := []) ⟨hx, hb, hml, hown, hts⟩ (c_X7_noFigure l x1 _ hr22) (va_cwS 1 hts gX7_edges_X7_noFigure rfl rfl rfl zs_X7_noFigure ⟨Nat.le_of_ble_eq_true rfl, Nat.le_of_ble_eq_true rfl⟩) ⟨fun _ _ _ _ q => q, fun _ _ _ => ⟨rfl, trivial⟩⟩ rfl rfl hl.1 rfl (lv_room (Nat.le_of_ble_eq_true rfl)) dX7_edges_1 ⟨Nat.zero_le _, Nat.zero_le _⟩) (fun p24 e23 => ?_)
  rw [e23]
  refine lv_if_eq (tgt := 9) hx hb dX7_edges_4 (by decide) (fun c25 => ?_) (fun c25 => ?_)
  · replace h := hk_ip c25 h
    refine lv_aload_n hx hb dX7_edges_9 rfl (lv_at hl 0 rfl) ?_
    refine va_get (D := D) (ci := 3) (v := .ref a_this_now) (C := RX7) (T := TX7) (N := 5) hx hb hts zi_X7_edges_X7 hown hK.1 hP 0 rfl rfl 1 (by decide) (hts (.fieldLink RX7 19 "HalfAndHalfAgain" "now" "LHalfAndHalfAgain$Store;") (List.mem_of_getElem? (i := 1) rfl)) (fun _ h9 => h9) rfl dX7_edges_10 ?_
    refine va_get (D := D) (ci := 1) (v := .ref a_this_now_figures) (C := RX5) (T := TX5) (N := 4) hx hb hts zi_X7_edges_X5 hown hK.1 hP 1 rfl rfl 0 (by decide) (hts (.fieldLink RX7 62 "HalfAndHalfAgain$Store" "figures" "[J") (List.mem_of_getElem? (i := 2) rfl)) (fun _ h9 => h9) rfl dX7_edges_13 ?_
    refine lv_iload_n hx hb dX7_edges_16 rfl (lv_at hl 1 rfl) ?_
    obtain ⟨hi26, h⟩ := hk_ge h
    refine va_lald hx hb hK.1 hP 2 1 rfl rfl (hk_inb_of hi26) dX7_edges_17 ?_
    obtain ⟨x27, ex27, h⟩ := hk_le h
    refine hk_tl ex27 ?_
    refine lv_lstore_n (lv' := [(3, .long x27), (0, .ref a_this), (1, .int x1), (2, .int x2)]) hx hb dX7_edges_18 rfl hl (by decide) rfl (fun ls hl => ?_)
    refine lv_iload_n hx hb dX7_edges_19 rfl (lv_at hl 3 rfl) ?_
    refine lv_if_eq (tgt := 30) hx hb dX7_edges_20 (by decide) (fun c28 => ?_) (fun c28 => ?_)
    · replace h := hk_ip c28 h
      refine lv_lload_n hx hb dX7_edges_30 rfl (lv_at hl 0 rfl) ?_
      obtain ⟨r29, hr30, h⟩ := hk_x1 h
      refine vp_callSi (W.runS (As := [.long x27]) (rest := []) ⟨hx, hb, hml, hown, hts⟩ (c_X0_straightEdges l x27 _ hr30) (va_cwS 1 hts gX7_edges_X0_straightEdges rfl rfl rfl zs_X0_straightEdges ⟨Nat.le_of_ble_eq_true rfl, Nat.le_of_ble_eq_true rfl⟩) ⟨fun _ _ _ _ q => q, fun _ _ _ => ⟨rfl, trivial⟩⟩ rfl rfl hl.1 rfl (lv_room (Nat.le_of_ble_eq_true rfl)) dX7_edges_31 ⟨Nat.zero_le _, Nat.zero_le _⟩) (fun p32 e31 => ?_)
      rw [e31]
      subst hQ
      exact W.iret hx hb hr (fun t ht hW => ⟨_, rfl, Option.some.inj h, ht⟩) (fun _ h9 => by cases h9) dX7_edges_34
    replace h := hk_in c28 h
    refine lv_lload_n hx hb dX7_edges_23 rfl (lv_at hl 0 rfl) ?_
    obtain ⟨r33, hr34, h⟩ := hk_x1 h
    refine vp_callSi (W.runS (As := [.long x27]) (rest := []) ⟨hx, hb, hml, hown, hts⟩ (c_X0_slantingEdges l x27 _ hr34) (va_cwS 1 hts gX7_edges_X0_slantingEdges rfl rfl rfl zs_X0_slantingEdges ⟨Nat.le_of_ble_eq_true rfl, Nat.le_of_ble_eq_true rfl⟩) ⟨fun _ _ _ _ q => q, fun _ _ _ => ⟨rfl, trivial⟩⟩ rfl rfl hl.1 rfl (lv_room (Nat.le_of_ble_eq_true rfl)) dX7_edges_24 ⟨Nat.zero_le _, Nat.zero_le _⟩) (fun p36 e35 => ?_)
    rw [e35]
    refine lv_goto (tgt := 34) hx hb dX7_edges_27 (by decide) ?_
    subst hQ
    exact W.iret hx hb hr (fun t ht hW => ⟨_, rfl, Option.some.inj h, ht⟩) (fun _ h9 => by cases h9) dX7_edges_34
  replace h := hk_in c25 h
  refine lv_iconst (v := (-1 : Int32)) hx hb dX7_edges_7 (by decide) ?_
  subst hQ
  exact W.iret hx hb hr (fun t ht hW => ⟨_, rfl, Option.some.inj h, ht⟩) (fun _ h9 => by cases h9) dX7_edges_8
theorem zv_X7_corners : yX7_corners.cls = RX7 ∧ yX7_corners.cls ≠ "java/lang/invoke/MethodHandle" ∧ yX7_corners.cls ≠ "java/lang/invoke/VarHandle" ∧ (parseMethodDescriptor yX7_corners.desc).map (fun d => d.parameters.length) = some 2 := by decide +kernel
def f_X7_corners (c_this_now_figures : Nat → Int64)  (x1 : Int32) (x2 : Int32) : Option Int32 := hk_b1 (f_X7_noFigure x1) fun r21 => if r21 = 0 then (if x2 < 0 then (some (-2 : Int32)) else (if x2 ≤ (7 : Int32) then (hk_gd (hk_inb x1 8) (hk_b1 (f_X4_countCorners (c_this_now_figures x1.toNatClampNeg) x2) fun r29 => some r29)) else (some (-2 : Int32)))) else (some (-1 : Int32))
theorem zi_X7_corners_X7 : ∀ w ∈ u_ws RX7 TX7 5, w ∈ wsX7_corners := by decide +kernel
theorem zi_X7_corners_X5 : ∀ w ∈ u_ws RX5 TX5 4, w ∈ wsX7_corners := by decide +kernel
set_option maxHeartbeats 8000000 in
set_option maxRecDepth 100000 in
theorem c_X7_corners (l : Launch) (D : va_G) (cI cJ cZ cO : ClassId) (a_this a_this_text a_this_now a_this_slots a_this_cover a_this_formsSeen a_this_now_figures a_this_now_pieces a_this_now_mayMirror : Nat) (c_this_now_laid : Int32) (c_this_now_figures : Nat → Int64) (x1 : Int32) (x2 : Int32) (rv : Int32) (hf : f_X7_corners c_this_now_figures x1 x2 = some rv) : Met l yX7_corners wsX7_corners ({ frames := 5, cells := 0, slots := 0, locals := 121 }) (va_Pc [.ref a_this, .int x1, .int x2] (hkR D cI cJ cZ cO [(a_this, .inr (3, [.ref a_this_text, .ref a_this_now, .ref a_this_slots, .ref a_this_cover, .ref a_this_formsSeen])), (a_this_now, .inr (1, [.ref a_this_now_figures, .ref a_this_now_pieces, .ref a_this_now_mayMirror, .int c_this_now_laid])), (a_this_now_figures, .inl (cJ, 8, .inr (.inl c_this_now_figures)))])) (vp_Si (fun r => r = rv)) 0 0 (fun _ => False) := by
  refine Met.ofW (cc := cX7_corners) (maxL := 3) (ret := (some .int)) (by decide) rfl ?_
  intro p e s m args below meth c s₁ B hml hv
  obtain ⟨rfl, hP, hK⟩ := hv
  have hx := B.exec
  have hb := B.bytes
  have hr := B.returns
  have hts := atoms_spec (ws := wsX7_corners) B.pre
  have hown : s.vm.findClass RX7 = some m.cls := findClass_of_methodNamed B.named
  have hlocks := B.notSynchronized
  have hN := hK.2
  have hl := lv_entry ([.ref a_this, .int x1, .int x2]) (n := 3) (Nat.le_of_ble_eq_true rfl)
  rw [lg_entry_eq]
  generalize (lg_sl ([.ref a_this, .int x1, .int x2]) ++ List.replicate (3 - (lg_sl ([.ref a_this, .int x1, .int x2])).length) Slot.unset).toArray = ls at hl ⊢
  have hl : lv_has ls 3 [(0, .ref a_this), (1, .int x1), (2, .int x2)] := hl
  refine hk_Q (fun Q hQ => ?_)
  have h := hf
  unfold f_X7_corners at h
  refine lv_iload_n hx hb dX7_corners_0 rfl (lv_at hl 1 rfl) ?_
  obtain ⟨r21, hr22, h⟩ := hk_x1 h
  refine vp_callSi (W.runS (As := [.int x1]) (rest := []) ⟨hx, hb, hml, hown, hts⟩ (c_X7_noFigure l x1 _ hr22) (va_cwS 1 hts gX7_corners_X7_noFigure rfl rfl rfl zs_X7_noFigure ⟨Nat.le_of_ble_eq_true rfl, Nat.le_of_ble_eq_true rfl⟩) ⟨fun _ _ _ _ q => q, fun _ _ _ => ⟨rfl, trivial⟩⟩ rfl rfl hl.1 rfl (lv_room (Nat.le_of_ble_eq_true rfl)) dX7_corners_1 ⟨Nat.zero_le _, Nat.zero_le _⟩) (fun p24 e23 => ?_)
  rw [e23]
  refine lv_if_eq (tgt := 9) hx hb dX7_corners_4 (by decide) (fun c25 => ?_) (fun c25 => ?_)
  · replace h := hk_ip c25 h
    refine lv_iload_n hx hb dX7_corners_9 rfl (lv_at hl 2 rfl) ?_
    refine lv_if_lt (tgt := 19) hx hb dX7_corners_10 (by decide) (fun c26 => ?_) (fun c26 => ?_)
    · replace h := hk_ip c26 h
      refine lv_bipush (v := (-2 : Int32)) hx hb dX7_corners_19 (by decide) ?_
      subst hQ
      exact W.iret hx hb hr (fun t ht hW => ⟨_, rfl, Option.some.inj h, ht⟩) (fun _ h9 => by cases h9) dX7_corners_21
    replace h := hk_in c26 h
    refine lv_iload_n hx hb dX7_corners_13 rfl (lv_at hl 2 rfl) ?_
    refine lv_bipush (v := (7 : Int32)) hx hb dX7_corners_14 (by decide) ?_
    refine lv_icmp_le (tgt := 22) hx hb dX7_corners_16 (by decide) (fun c27 => ?_) (fun c27 => ?_)
    · replace h := hk_ip c27 h
      refine lv_aload_n hx hb dX7_corners_22 rfl (lv_at hl 0 rfl) ?_
      refine va_get (D := D) (ci := 3) (v := .ref a_this_now) (C := RX7) (T := TX7) (N := 5) hx hb hts zi_X7_corners_X7 hown hK.1 hP 0 rfl rfl 1 (by decide) (hts (.fieldLink RX7 19 "HalfAndHalfAgain" "now" "LHalfAndHalfAgain$Store;") (List.mem_of_getElem? (i := 1) rfl)) (fun _ h9 => h9) rfl dX7_corners_23 ?_
      refine va_get (D := D) (ci := 1) (v := .ref a_this_now_figures) (C := RX5) (T := TX5) (N := 4) hx hb hts zi_X7_corners_X5 hown hK.1 hP 1 rfl rfl 0 (by decide) (hts (.fieldLink RX7 62 "HalfAndHalfAgain$Store" "figures" "[J") (List.mem_of_getElem? (i := 2) rfl)) (fun _ h9 => h9) rfl dX7_corners_26 ?_
      refine lv_iload_n hx hb dX7_corners_29 rfl (lv_at hl 1 rfl) ?_
      obtain ⟨hi28, h⟩ := hk_ge h
      refine va_lald hx hb hK.1 hP 2 1 rfl rfl (hk_inb_of hi28) dX7_corners_30 ?_
      refine lv_iload_n hx hb dX7_corners_31 rfl (lv_at hl 2 rfl) ?_
      obtain ⟨r29, hr30, h⟩ := hk_x1 h
      refine vp_callSi (W.runS (As := [.long (c_this_now_figures x1.toNatClampNeg), .int x2]) (rest := []) ⟨hx, hb, hml, hown, hts⟩ (c_X4_countCorners l (c_this_now_figures x1.toNatClampNeg) x2 _ hr30) (va_cwS 2 hts gX7_corners_X4_countCorners rfl rfl rfl zs_X4_countCorners ⟨Nat.le_of_ble_eq_true rfl, Nat.le_of_ble_eq_true rfl⟩) ⟨fun _ _ _ _ q => q, fun _ _ _ => ⟨rfl, trivial⟩⟩ rfl rfl hl.1 rfl (lv_room (Nat.le_of_ble_eq_true rfl)) dX7_corners_32 ⟨Nat.zero_le _, Nat.zero_le _⟩) (fun p32 e31 => ?_)
      rw [e31]
      subst hQ
      exact W.iret hx hb hr (fun t ht hW => ⟨_, rfl, Option.some.inj h, ht⟩) (fun _ h9 => by cases h9) dX7_corners_35
    replace h := hk_in c27 h
    refine lv_bipush (v := (-2 : Int32)) hx hb dX7_corners_19 (by decide) ?_
    subst hQ
    exact W.iret hx hb hr (fun t ht hW => ⟨_, rfl, Option.some.inj h, ht⟩) (fun _ h9 => by cases h9) dX7_corners_21
  replace h := hk_in c25 h
  refine lv_iconst (v := (-1 : Int32)) hx hb dX7_corners_7 (by decide) ?_
  subst hQ
  exact W.iret hx hb hr (fun t ht hW => ⟨_, rfl, Option.some.inj h, ht⟩) (fun _ h9 => by cases h9) dX7_corners_8
theorem zv_X7_convex : yX7_convex.cls = RX7 ∧ yX7_convex.cls ≠ "java/lang/invoke/MethodHandle" ∧ yX7_convex.cls ≠ "java/lang/invoke/VarHandle" ∧ (parseMethodDescriptor yX7_convex.desc).map (fun d => d.parameters.length) = some 1 := by decide +kernel
def f_X7_convex (c_this_now_figures : Nat → Int64)  (x1 : Int32) : Option Int32 := hk_b1 (f_X7_noFigure x1) fun r21 => if r21 = 0 then (hk_gd (hk_inb x1 8) (hk_let (c_this_now_figures x1.toNatClampNeg) fun x27 => hk_b1 (f_X0_countParts x27) fun r28 => hk_b1 (if r28 = (1 : Int32) then (hk_b1 (f_X0_countHoles x27) fun r34 => if r34 = 0 then (some (1 : Int32)) else (some (0 : Int32))) else (some (0 : Int32))) fun v39 => if v39 = 0 then (some (0 : Int32)) else (hk_b1 (f_X4_bulgeOnly x27) fun r41 => if r41 = 0 then (some (0 : Int32)) else (some (1 : Int32))))) else (some (-1 : Int32))
theorem zi_X7_convex_X7 : ∀ w ∈ u_ws RX7 TX7 5, w ∈ wsX7_convex := by decide +kernel
theorem zi_X7_convex_X5 : ∀ w ∈ u_ws RX5 TX5 4, w ∈ wsX7_convex := by decide +kernel
set_option maxHeartbeats 8000000 in
set_option maxRecDepth 100000 in
theorem c_X7_convex (l : Launch) (D : va_G) (cI cJ cZ cO : ClassId) (a_this a_this_text a_this_now a_this_slots a_this_cover a_this_formsSeen a_this_now_figures a_this_now_pieces a_this_now_mayMirror : Nat) (c_this_now_laid : Int32) (c_this_now_figures : Nat → Int64) (x1 : Int32) (rv : Int32) (hf : f_X7_convex c_this_now_figures x1 = some rv) : Met l yX7_convex wsX7_convex ({ frames := 5, cells := 0, slots := 0, locals := 116 }) (va_Pc [.ref a_this, .int x1] (hkR D cI cJ cZ cO [(a_this, .inr (3, [.ref a_this_text, .ref a_this_now, .ref a_this_slots, .ref a_this_cover, .ref a_this_formsSeen])), (a_this_now, .inr (1, [.ref a_this_now_figures, .ref a_this_now_pieces, .ref a_this_now_mayMirror, .int c_this_now_laid])), (a_this_now_figures, .inl (cJ, 8, .inr (.inl c_this_now_figures)))])) (vp_Si (fun r => r = rv)) 0 0 (fun _ => False) := by
  refine Met.ofW (cc := cX7_convex) (maxL := 5) (ret := (some .int)) (by decide) rfl ?_
  intro p e s m args below meth c s₁ B hml hv
  obtain ⟨rfl, hP, hK⟩ := hv
  have hx := B.exec
  have hb := B.bytes
  have hr := B.returns
  have hts := atoms_spec (ws := wsX7_convex) B.pre
  have hown : s.vm.findClass RX7 = some m.cls := findClass_of_methodNamed B.named
  have hlocks := B.notSynchronized
  have hN := hK.2
  have hl := lv_entry ([.ref a_this, .int x1]) (n := 5) (Nat.le_of_ble_eq_true rfl)
  rw [lg_entry_eq]
  generalize (lg_sl ([.ref a_this, .int x1]) ++ List.replicate (5 - (lg_sl ([.ref a_this, .int x1])).length) Slot.unset).toArray = ls at hl ⊢
  have hl : lv_has ls 5 [(0, .ref a_this), (1, .int x1)] := hl
  refine hk_Q (fun Q hQ => ?_)
  have h := hf
  unfold f_X7_convex at h
  refine lv_iload_n hx hb dX7_convex_0 rfl (lv_at hl 1 rfl) ?_
  obtain ⟨r21, hr22, h⟩ := hk_x1 h
  refine vp_callSi (W.runS (As := [.int x1]) (rest := []) ⟨hx, hb, hml, hown, hts⟩ (c_X7_noFigure l x1 _ hr22) (va_cwS 1 hts gX7_convex_X7_noFigure rfl rfl rfl zs_X7_noFigure ⟨Nat.le_of_ble_eq_true rfl, Nat.le_of_ble_eq_true rfl⟩) ⟨fun _ _ _ _ q => q, fun _ _ _ => ⟨rfl, trivial⟩⟩ rfl rfl hl.1 rfl (lv_room (Nat.le_of_ble_eq_true rfl)) dX7_convex_1 ⟨Nat.zero_le _, Nat.zero_le _⟩) (fun p24 e23 => ?_)
  rw [e23]
  refine lv_if_eq (tgt := 9) hx hb dX7_convex_4 (by decide) (fun c25 => ?_) (fun c25 => ?_)
  · replace h := hk_ip c25 h
    refine lv_aload_n hx hb dX7_convex_9 rfl (lv_at hl 0 rfl) ?_
    refine va_get (D := D) (ci := 3) (v := .ref a_this_now) (C := RX7) (T := TX7) (N := 5) hx hb hts zi_X7_convex_X7 hown hK.1 hP 0 rfl rfl 1 (by decide) (hts (.fieldLink RX7 19 "HalfAndHalfAgain" "now" "LHalfAndHalfAgain$Store;") (List.mem_of_getElem? (i := 1) rfl)) (fun _ h9 => h9) rfl dX7_convex_10 ?_
    refine va_get (D := D) (ci := 1) (v := .ref a_this_now_figures) (C := RX5) (T := TX5) (N := 4) hx hb hts zi_X7_convex_X5 hown hK.1 hP 1 rfl rfl 0 (by decide) (hts (.fieldLink RX7 62 "HalfAndHalfAgain$Store" "figures" "[J") (List.mem_of_getElem? (i := 2) rfl)) (fun _ h9 => h9) rfl dX7_convex_13 ?_
    refine lv_iload_n hx hb dX7_convex_16 rfl (lv_at hl 1 rfl) ?_
    obtain ⟨hi26, h⟩ := hk_ge h
    refine va_lald hx hb hK.1 hP 2 1 rfl rfl (hk_inb_of hi26) dX7_convex_17 ?_
    obtain ⟨x27, ex27, h⟩ := hk_le h
    refine hk_tl ex27 ?_
    refine lv_lstore_n (lv' := [(2, .long x27), (0, .ref a_this), (1, .int x1)]) hx hb dX7_convex_18 rfl hl (by decide) rfl (fun ls hl => ?_)
    refine lv_lload_n hx hb dX7_convex_19 rfl (lv_at hl 0 rfl) ?_
    obtain ⟨r28, hr29, h⟩ := hk_x1 h
    refine vp_callSi (W.runS (As := [.long x27]) (rest := []) ⟨hx, hb, hml, hown, hts⟩ (c_X0_countParts l x27 _ hr29) (va_cwS 1 hts gX7_convex_X0_countParts rfl rfl rfl zs_X0_countParts ⟨Nat.le_of_ble_eq_true rfl, Nat.le_of_ble_eq_true rfl⟩) ⟨fun _ _ _ _ q => q, fun _ _ _ => ⟨rfl, trivial⟩⟩ rfl rfl hl.1 rfl (lv_room (Nat.le_of_ble_eq_true rfl)) dX7_convex_20 ⟨Nat.zero_le _, Nat.zero_le _⟩) (fun p31 e30 => ?_)
    rw [e30]
    refine lv_iconst (v := (1 : Int32)) hx hb dX7_convex_23 (by decide) ?_
    obtain ⟨v39, g32, h⟩ := hk_x1 h
    refine hk_joinR (nL := 5) (xs := fun (t9 : Int32) => (39, [(2, .long x27)], [.int t9])) v39 (fun hjg32 => ?_) ?_
    · refine lv_icmp_ne (tgt := 38) hx hb dX7_convex_24 (by decide) (fun c33 => ?_) (fun c33 => ?_)
      · replace g32 := hk_in c33 g32
        refine lv_iconst (v := (0 : Int32)) hx hb dX7_convex_38 (by decide) ?_
        have g32 := Option.some.inj g32
        subst g32
        exact hjg32 ls (lv_sub hl [0] rfl)
      replace g32 := hk_ip c33 g32
      refine lv_lload_n hx hb dX7_convex_27 rfl (lv_at hl 0 rfl) ?_
      obtain ⟨r34, hr35, g32⟩ := hk_x1 g32
      refine vp_callSi (W.runS (As := [.long x27]) (rest := []) ⟨hx, hb, hml, hown, hts⟩ (c_X0_countHoles l x27 _ hr35) (va_cwS 1 hts gX7_convex_X0_countHoles rfl rfl rfl zs_X0_countHoles ⟨Nat.le_of_ble_eq_true rfl, Nat.le_of_ble_eq_true rfl⟩) ⟨fun _ _ _ _ q => q, fun _ _ _ => ⟨rfl, trivial⟩⟩ rfl rfl hl.1 rfl (lv_room (Nat.le_of_ble_eq_true rfl)) dX7_convex_28 ⟨Nat.zero_le _, Nat.zero_le _⟩) (fun p37 e36 => ?_)
      rw [e36]
      refine lv_if_ne (tgt := 38) hx hb dX7_convex_31 (by decide) (fun c38 => ?_) (fun c38 => ?_)
      · replace g32 := hk_in c38 g32
        refine lv_iconst (v := (0 : Int32)) hx hb dX7_convex_38 (by decide) ?_
        have g32 := Option.some.inj g32
        subst g32
        exact hjg32 ls (lv_sub hl [0] rfl)
      replace g32 := hk_ip c38 g32
      refine lv_iconst (v := (1 : Int32)) hx hb dX7_convex_34 (by decide) ?_
      refine lv_goto (tgt := 39) hx hb dX7_convex_35 (by decide) ?_
      have g32 := Option.some.inj g32
      subst g32
      exact hjg32 ls (lv_sub hl [0] rfl)
    intro ls hl
    have hl : lv_has ls 5 [(2, .long x27)] := hl
    show W _ _ _ _ _ _ _ _ _ _ _ _ _ _ _ (F0 m 39 ls [.int v39])
    refine lv_istore (lv' := [(4, .int v39), (2, .long x27)]) hx hb dX7_convex_39 hl (by decide) rfl (fun ls hl => ?_)
    refine lv_iload hx hb dX7_convex_41 (lv_at hl 0 rfl) ?_
    refine lv_if_eq (tgt := 57) hx hb dX7_convex_43 (by decide) (fun c40 => ?_) (fun c40 => ?_)
    · replace h := hk_ip c40 h
      refine lv_iconst (v := (0 : Int32)) hx hb dX7_convex_57 (by decide) ?_
      subst hQ
      exact W.iret hx hb hr (fun t ht hW => ⟨_, rfl, Option.some.inj h, ht⟩) (fun _ h9 => by cases h9) dX7_convex_58
    replace h := hk_in c40 h
    refine lv_lload_n hx hb dX7_convex_46 rfl (lv_at hl 1 rfl) ?_
    obtain ⟨r41, hr42, h⟩ := hk_x1 h
    refine vp_callSi (W.runS (As := [.long x27]) (rest := []) ⟨hx, hb, hml, hown, hts⟩ (c_X4_bulgeOnly l x27 _ hr42) (va_cwS 1 hts gX7_convex_X4_bulgeOnly rfl rfl rfl zs_X4_bulgeOnly ⟨Nat.le_of_ble_eq_true rfl, Nat.le_of_ble_eq_true rfl⟩) ⟨fun _ _ _ _ q => q, fun _ _ _ => ⟨rfl, trivial⟩⟩ rfl rfl hl.1 rfl (lv_room (Nat.le_of_ble_eq_true rfl)) dX7_convex_47 ⟨Nat.zero_le _, Nat.zero_le _⟩) (fun p44 e43 => ?_)
    rw [e43]
    refine lv_if_eq (tgt := 57) hx hb dX7_convex_50 (by decide) (fun c45 => ?_) (fun c45 => ?_)
    · replace h := hk_ip c45 h
      refine lv_iconst (v := (0 : Int32)) hx hb dX7_convex_57 (by decide) ?_
      subst hQ
      exact W.iret hx hb hr (fun t ht hW => ⟨_, rfl, Option.some.inj h, ht⟩) (fun _ h9 => by cases h9) dX7_convex_58
    replace h := hk_in c45 h
    refine lv_iconst (v := (1 : Int32)) hx hb dX7_convex_53 (by decide) ?_
    refine lv_goto (tgt := 58) hx hb dX7_convex_54 (by decide) ?_
    subst hQ
    exact W.iret hx hb hr (fun t ht hW => ⟨_, rfl, Option.some.inj h, ht⟩) (fun _ h9 => by cases h9) dX7_convex_58
  replace h := hk_in c25 h
  refine lv_iconst (v := (-1 : Int32)) hx hb dX7_convex_7 (by decide) ?_
  subst hQ
  exact W.iret hx hb hr (fun t ht hW => ⟨_, rfl, Option.some.inj h, ht⟩) (fun _ h9 => by cases h9) dX7_convex_8
theorem zv_X7_turn : yX7_turn.cls = RX7 ∧ yX7_turn.cls ≠ "java/lang/invoke/MethodHandle" ∧ yX7_turn.cls ≠ "java/lang/invoke/VarHandle" ∧ (parseMethodDescriptor yX7_turn.desc).map (fun d => d.parameters.length) = some 2 := by decide +kernel
def f_X7_turn (c_this_now_figures : Nat → Int64)  (x1 : Int32) (x2 : Int32) : Option (Int32 × (Nat → Int64)) := hk_b1 (f_X7_noFigure x1) fun r21 => if r21 = 0 then (if x2 < 0 then (some ((-2 : Int32), c_this_now_figures)) else (if x2 < (8 : Int32) then (hk_gd (hk_inb x1 8) (hk_b1 (f_X3_turned (c_this_now_figures x1.toNatClampNeg) x2) fun r29 => hk_b2 (f_X7_change c_this_now_figures x1 r29) fun r33 u34 => some (r33, u34))) else (some ((-2 : Int32), c_this_now_figures)))) else (some ((-1 : Int32), c_this_now_figures))
theorem zi_X7_turn_X7 : ∀ w ∈ u_ws RX7 TX7 5, w ∈ wsX7_turn := by decide +kernel
theorem zi_X7_turn_X5 : ∀ w ∈ u_ws RX5 TX5 4, w ∈ wsX7_turn := by decide +kernel
set_option maxHeartbeats 8000000 in
set_option maxRecDepth 100000 in
theorem c_X7_turn (l : Launch) (D : va_G) (cI cJ cZ cO : ClassId) (a_this a_this_text a_this_now a_this_slots a_this_cover a_this_formsSeen a_this_now_figures a_this_now_pieces a_this_now_mayMirror : Nat) (sz : Nat) (c_this_now_laid : Int32) (c_this_now_figures : Nat → Int64) (x1 : Int32) (x2 : Int32) (rv : Int32) (u_this_now_figures : Nat → Int64) (hf : f_X7_turn c_this_now_figures x1 x2 = some (rv, u_this_now_figures)) : Met l yX7_turn wsX7_turn ({ frames := 4, cells := 0, slots := 0, locals := 95 }) (va_Pc [.ref a_this, .int x1, .int x2] (hkM D cI cJ cZ cO [(a_this, .inr (3, [.ref a_this_text, .ref a_this_now, .ref a_this_slots, .ref a_this_cover, .ref a_this_formsSeen])), (a_this_now, .inr (1, [.ref a_this_now_figures, .ref a_this_now_pieces, .ref a_this_now_mayMirror, .int c_this_now_laid])), (a_this_now_figures, .inl (cJ, 8, .inr (.inl c_this_now_figures)))] sz)) (va_Qi (fun r (_ : Unit) => r = rv) (fun _ t => va_P D vwCl [(a_this, .inr (3, [.ref a_this_text, .ref a_this_now, .ref a_this_slots, .ref a_this_cover, .ref a_this_formsSeen])), (a_this_now, .inr (1, [.ref a_this_now_figures, .ref a_this_now_pieces, .ref a_this_now_mayMirror, .int c_this_now_laid])), (a_this_now_figures, .inl (cJ, 8, .inr (.inl u_this_now_figures)))] t.heap ∧ va_D (va_A [(a_this, .inr (3, [.ref a_this_text, .ref a_this_now, .ref a_this_slots, .ref a_this_cover, .ref a_this_formsSeen])), (a_this_now, .inr (1, [.ref a_this_now_figures, .ref a_this_now_pieces, .ref a_this_now_mayMirror, .int c_this_now_laid])), (a_this_now_figures, .inl (cJ, 8, .inr (.inl c_this_now_figures)))] sz) [(a_this, .inr (3, [.ref a_this_text, .ref a_this_now, .ref a_this_slots, .ref a_this_cover, .ref a_this_formsSeen])), (a_this_now, .inr (1, [.ref a_this_now_figures, .ref a_this_now_pieces, .ref a_this_now_mayMirror, .int c_this_now_laid])), (a_this_now_figures, .inl (cJ, 8, .inr (.inl u_this_now_figures)))]) (va_A [(a_this, .inr (3, [.ref a_this_text, .ref a_this_now, .ref a_this_slots, .ref a_this_cover, .ref a_this_formsSeen])), (a_this_now, .inr (1, [.ref a_this_now_figures, .ref a_this_now_pieces, .ref a_this_now_mayMirror, .int c_this_now_laid])), (a_this_now_figures, .inl (cJ, 8, .inr (.inl c_this_now_figures)))] sz)) 0 0 (va_A [(a_this, .inr (3, [.ref a_this_text, .ref a_this_now, .ref a_this_slots, .ref a_this_cover, .ref a_this_formsSeen])), (a_this_now, .inr (1, [.ref a_this_now_figures, .ref a_this_now_pieces, .ref a_this_now_mayMirror, .int c_this_now_laid])), (a_this_now_figures, .inl (cJ, 8, .inr (.inl c_this_now_figures)))] sz) := by
  refine Met.ofW (cc := cX7_turn) (maxL := 3) (ret := (some .int)) (by decide) rfl ?_
  intro p e s m args below meth c s₁ B hml hv
  obtain ⟨rfl, hsz, hP, hK, hD0⟩ := hv
  have hx := B.exec
  have hb := B.bytes
  have hr := B.returns
  have hts := atoms_spec (ws := wsX7_turn) B.pre
  have hown : s.vm.findClass RX7 = some m.cls := findClass_of_methodNamed B.named
  have hlocks := B.notSynchronized
  have hN := hK.2
  subst hsz
  have hD := hD0.self (sz := s.heap.size)
  generalize hAe : va_A [(a_this, .inr (3, [.ref a_this_text, .ref a_this_now, .ref a_this_slots, .ref a_this_cover, .ref a_this_formsSeen])), (a_this_now, .inr (1, [.ref a_this_now_figures, .ref a_this_now_pieces, .ref a_this_now_mayMirror, .int c_this_now_laid])), (a_this_now_figures, .inl (cJ, 8, .inr (.inl c_this_now_figures)))] s.heap.size = A at hD ⊢
  have hA : ∀ q : Nat, s.heap.size ≤ q → A q := fun q h => by rw [← hAe]; exact Or.inr h
  have hS : va_S A s.heap s.heap [] := va_S.rf
  have hl := lv_entry ([.ref a_this, .int x1, .int x2]) (n := 3) (Nat.le_of_ble_eq_true rfl)
  rw [lg_entry_eq]
  generalize (lg_sl ([.ref a_this, .int x1, .int x2]) ++ List.replicate (3 - (lg_sl ([.ref a_this, .int x1, .int x2])).length) Slot.unset).toArray = ls at hl ⊢
  have hl : lv_has ls 3 [(0, .ref a_this), (1, .int x1), (2, .int x2)] := hl
  refine hk_Q (fun Q hQ => ?_)
  have h := hf
  unfold f_X7_turn at h
  refine lv_iload_n hx hb dX7_turn_0 rfl (lv_at hl 1 rfl) ?_
  obtain ⟨r21, hr22, h⟩ := hk_x1 h
  refine vp_callSi (W.runS (As := [.int x1]) (rest := []) ⟨hx, hb, hml, hown, hts⟩ (c_X7_noFigure l x1 _ hr22) (va_cwS 1 hts gX7_turn_X7_noFigure rfl rfl rfl zs_X7_noFigure ⟨Nat.le_of_ble_eq_true rfl, Nat.le_of_ble_eq_true rfl⟩) ⟨fun _ _ _ _ q => q, fun _ _ _ => ⟨rfl, trivial⟩⟩ rfl rfl hl.1 rfl (lv_room (Nat.le_of_ble_eq_true rfl)) dX7_turn_1 ⟨Nat.zero_le _, Nat.zero_le _⟩) (fun p24 e23 => ?_)
  rw [e23]
  refine lv_if_eq (tgt := 9) hx hb dX7_turn_4 (by decide) (fun c25 => ?_) (fun c25 => ?_)
  · replace h := hk_ip c25 h
    refine lv_iload_n hx hb dX7_turn_9 rfl (lv_at hl 2 rfl) ?_
    refine lv_if_lt (tgt := 19) hx hb dX7_turn_10 (by decide) (fun c26 => ?_) (fun c26 => ?_)
    · replace h := hk_ip c26 h
      refine lv_bipush (v := (-2 : Int32)) hx hb dX7_turn_19 (by decide) ?_
      subst hQ
      have h := Option.some.inj h
      simp only [Prod.mk.injEq] at h
      obtain ⟨rfl, rfl⟩ := h
      exact W.iret hx hb hr (fun t ht hW => ⟨⟨_, (), rfl, rfl, by rw [ht]; exact hP, hD⟩, hS.F ht⟩) hS.2.2 dX7_turn_21
    replace h := hk_in c26 h
    refine lv_iload_n hx hb dX7_turn_13 rfl (lv_at hl 2 rfl) ?_
    refine lv_bipush (v := (8 : Int32)) hx hb dX7_turn_14 (by decide) ?_
    refine lv_icmp_lt (tgt := 22) hx hb dX7_turn_16 (by decide) (fun c27 => ?_) (fun c27 => ?_)
    · replace h := hk_ip c27 h
      refine lv_aload_n hx hb dX7_turn_22 rfl (lv_at hl 0 rfl) ?_
      refine lv_iload_n hx hb dX7_turn_23 rfl (lv_at hl 1 rfl) ?_
      refine lv_aload_n hx hb dX7_turn_24 rfl (lv_at hl 0 rfl) ?_
      refine va_get (D := D) (ci := 3) (v := .ref a_this_now) (C := RX7) (T := TX7) (N := 5) hx hb hts zi_X7_turn_X7 hown hK.1 hP 0 rfl rfl 1 (by decide) (hts (.fieldLink RX7 19 "HalfAndHalfAgain" "now" "LHalfAndHalfAgain$Store;") (List.mem_of_getElem? (i := 1) rfl)) (fun _ h9 => h9) rfl dX7_turn_25 ?_
      refine va_get (D := D) (ci := 1) (v := .ref a_this_now_figures) (C := RX5) (T := TX5) (N := 4) hx hb hts zi_X7_turn_X5 hown hK.1 hP 1 rfl rfl 0 (by decide) (hts (.fieldLink RX7 62 "HalfAndHalfAgain$Store" "figures" "[J") (List.mem_of_getElem? (i := 2) rfl)) (fun _ h9 => h9) rfl dX7_turn_28 ?_
      refine lv_iload_n hx hb dX7_turn_31 rfl (lv_at hl 1 rfl) ?_
      obtain ⟨hi28, h⟩ := hk_ge h
      refine va_lald hx hb hK.1 hP 2 1 rfl rfl (hk_inb_of hi28) dX7_turn_32 ?_
      refine lv_iload_n hx hb dX7_turn_33 rfl (lv_at hl 2 rfl) ?_
      obtain ⟨r29, hr30, h⟩ := hk_x1 h
      refine vp_callSl (W.runS (As := [.long (c_this_now_figures x1.toNatClampNeg), .int x2]) (rest := [.int x1, .ref a_this]) ⟨hx, hb, hml, hown, hts⟩ (c_X3_turned l (c_this_now_figures x1.toNatClampNeg) x2 _ hr30) (va_cwS 2 hts gX7_turn_X3_turned rfl rfl rfl zs_X3_turned ⟨Nat.le_of_ble_eq_true rfl, Nat.le_of_ble_eq_true rfl⟩) ⟨fun _ _ _ _ q => q, fun _ _ _ => ⟨rfl, trivial⟩⟩ rfl rfl hl.1 rfl (lv_room (Nat.le_of_ble_eq_true rfl)) dX7_turn_34 ⟨Nat.zero_le _, Nat.zero_le _⟩) (fun p32 e31 => ?_)
      rw [e31]
      obtain ⟨r33, u34, hr35, h⟩ := hk_x2 h
      have hPc := hP.sub (ws' := [(a_this, .inr (3, [.ref a_this_text, .ref a_this_now, .ref a_this_slots, .ref a_this_cover, .ref a_this_formsSeen])), (a_this_now, .inr (1, [.ref a_this_now_figures, .ref a_this_now_pieces, .ref a_this_now_mayMirror, .int c_this_now_laid])), (a_this_now_figures, .inl (cJ, 8, .inr (.inl c_this_now_figures)))]) [0, 1, 2] rfl
      have hDc := hD.sub (ws' := [(a_this, .inr (3, [.ref a_this_text, .ref a_this_now, .ref a_this_slots, .ref a_this_cover, .ref a_this_formsSeen])), (a_this_now, .inr (1, [.ref a_this_now_figures, .ref a_this_now_pieces, .ref a_this_now_mayMirror, .int c_this_now_laid])), (a_this_now_figures, .inl (cJ, 8, .inr (.inl c_this_now_figures)))]) [0, 1, 2] (by decide) rfl
      have hFc := va_free (wc := [(a_this, .inr (3, [.ref a_this_text, .ref a_this_now, .ref a_this_slots, .ref a_this_cover, .ref a_this_formsSeen])), (a_this_now, .inr (1, [.ref a_this_now_figures, .ref a_this_now_pieces, .ref a_this_now_mayMirror, .int c_this_now_laid])), (a_this_now_figures, .inl (cJ, 8, .inr (.inl c_this_now_figures)))]) hD hS hA [0, 1, 2] rfl
      refine va_calli (va_runV (As := [.int x1, .long r29]) (rest := []) ⟨hx, hb, hml, hown, hts⟩ (c_X7_change l D cI cJ cZ cO a_this a_this_text a_this_now a_this_slots a_this_cover a_this_formsSeen a_this_now_figures a_this_now_pieces a_this_now_mayMirror s.heap.size c_this_now_laid c_this_now_figures x1 r29 _ _ hr35) (cwV 2 hts gX7_turn_X7_change rfl rfl rfl zv_X7_change ⟨Nat.le_of_ble_eq_true rfl, Nat.le_of_ble_eq_true rfl⟩) (hk_preMV 3 rfl hPc hDc hK rfl) rfl rfl hl.1 rfl (lv_room (Nat.le_of_ble_eq_true rfl)) dX7_turn_37 ⟨Nat.zero_le _, Nat.zero_le _⟩) hS (fun q _ h9 => hFc q h9) hFc (fun p36 u9 t9 H1 locs ht hvm hw hB hz1 hk1 hS => ?_)
      obtain ⟨hP1, hD1⟩ := hB
      rw [ht] at hP1
      rw [hw]
      obtain ⟨hP, hD⟩ := va_join (wr := []) (w1 := [(a_this, .inr (3, [.ref a_this_text, .ref a_this_now, .ref a_this_slots, .ref a_this_cover, .ref a_this_formsSeen])), (a_this_now, .inr (1, [.ref a_this_now_figures, .ref a_this_now_pieces, .ref a_this_now_mayMirror, .int c_this_now_laid])), (a_this_now_figures, .inl (cJ, 8, .inr (.inl u34)))]) hP hD [0, 1, 2] [] rfl rfl (by decide) (by decide) hk1 hFc hP1 hD1
      generalize H1 = H at hP hS ⊢
      have hP := hP.sub (ws' := [(a_this, .inr (3, [.ref a_this_text, .ref a_this_now, .ref a_this_slots, .ref a_this_cover, .ref a_this_formsSeen])), (a_this_now, .inr (1, [.ref a_this_now_figures, .ref a_this_now_pieces, .ref a_this_now_mayMirror, .int c_this_now_laid])), (a_this_now_figures, .inl (cJ, 8, .inr (.inl u34)))]) [0, 1, 2] rfl
      have hD := hD.sub (ws' := [(a_this, .inr (3, [.ref a_this_text, .ref a_this_now, .ref a_this_slots, .ref a_this_cover, .ref a_this_formsSeen])), (a_this_now, .inr (1, [.ref a_this_now_figures, .ref a_this_now_pieces, .ref a_this_now_mayMirror, .int c_this_now_laid])), (a_this_now_figures, .inl (cJ, 8, .inr (.inl u34)))]) [0, 1, 2] (by decide) rfl
      subst hQ
      have h := Option.some.inj h
      simp only [Prod.mk.injEq] at h
      obtain ⟨rfl, rfl⟩ := h
      exact W.iret hx hb hr (fun t ht hW => ⟨⟨_, (), rfl, rfl, by rw [ht]; exact hP, hD⟩, hS.F ht⟩) hS.2.2 dX7_turn_40
    replace h := hk_in c27 h
    refine lv_bipush (v := (-2 : Int32)) hx hb dX7_turn_19 (by decide) ?_
    subst hQ
    have h := Option.some.inj h
    simp only [Prod.mk.injEq] at h
    obtain ⟨rfl, rfl⟩ := h
    exact W.iret hx hb hr (fun t ht hW => ⟨⟨_, (), rfl, rfl, by rw [ht]; exact hP, hD⟩, hS.F ht⟩) hS.2.2 dX7_turn_21
  replace h := hk_in c25 h
  refine lv_iconst (v := (-1 : Int32)) hx hb dX7_turn_7 (by decide) ?_
  subst hQ
  have h := Option.some.inj h
  simp only [Prod.mk.injEq] at h
  obtain ⟨rfl, rfl⟩ := h
  exact W.iret hx hb hr (fun t ht hW => ⟨⟨_, (), rfl, rfl, by rw [ht]; exact hP, hD⟩, hS.F ht⟩) hS.2.2 dX7_turn_8
theorem zv_X7_shift : yX7_shift.cls = RX7 ∧ yX7_shift.cls ≠ "java/lang/invoke/MethodHandle" ∧ yX7_shift.cls ≠ "java/lang/invoke/VarHandle" ∧ (parseMethodDescriptor yX7_shift.desc).map (fun d => d.parameters.length) = some 3 := by decide +kernel
def f_X7_shift (c_this_now_figures : Nat → Int64)  (x1 : Int32) (x2 : Int32) (x3 : Int32) : Option (Int32 × (Nat → Int64)) := hk_b1 (f_X7_noFigure x1) fun r21 => if r21 = 0 then (if x2 < (-3 : Int32) then (some ((-2 : Int32), c_this_now_figures)) else (if (3 : Int32) < x2 then (some ((-2 : Int32), c_this_now_figures)) else (if x3 < (-3 : Int32) then (some ((-2 : Int32), c_this_now_figures)) else (if x3 ≤ (3 : Int32) then (hk_gd (hk_inb x1 8) (hk_let (c_this_now_figures x1.toNatClampNeg) fun x31 => hk_b1 (f_X3_staysOnBoard x31 x2 x3) fun r32 => if r32 = 0 then (some ((-3 : Int32), c_this_now_figures)) else (hk_b1 (f_X3_shifted x31 x2 x3) fun r37 => hk_b2 (f_X7_become c_this_now_figures x1 r37) fun r41 u42 => some (r41, u42)))) else (some ((-2 : Int32), c_this_now_figures)))))) else (some ((-1 : Int32), c_this_now_figures))
theorem zi_X7_shift_X7 : ∀ w ∈ u_ws RX7 TX7 5, w ∈ wsX7_shift := by decide +kernel
theorem zi_X7_shift_X5 : ∀ w ∈ u_ws RX5 TX5 4, w ∈ wsX7_shift := by decide +kernel
set_option maxHeartbeats 8000000 in
set_option maxRecDepth 100000 in
theorem c_X7_shift (l : Launch) (D : va_G) (cI cJ cZ cO : ClassId) (a_this a_this_text a_this_now a_this_slots a_this_cover a_this_formsSeen a_this_now_figures a_this_now_pieces a_this_now_mayMirror : Nat) (sz : Nat) (c_this_now_laid : Int32) (c_this_now_figures : Nat → Int64) (x1 : Int32) (x2 : Int32) (x3 : Int32) (rv : Int32) (u_this_now_figures : Nat → Int64) (hf : f_X7_shift c_this_now_figures x1 x2 x3 = some (rv, u_this_now_figures)) : Met l yX7_shift wsX7_shift ({ frames := 2, cells := 0, slots := 0, locals := 45 }) (va_Pc [.ref a_this, .int x1, .int x2, .int x3] (hkM D cI cJ cZ cO [(a_this, .inr (3, [.ref a_this_text, .ref a_this_now, .ref a_this_slots, .ref a_this_cover, .ref a_this_formsSeen])), (a_this_now, .inr (1, [.ref a_this_now_figures, .ref a_this_now_pieces, .ref a_this_now_mayMirror, .int c_this_now_laid])), (a_this_now_figures, .inl (cJ, 8, .inr (.inl c_this_now_figures)))] sz)) (va_Qi (fun r (_ : Unit) => r = rv) (fun _ t => va_P D vwCl [(a_this, .inr (3, [.ref a_this_text, .ref a_this_now, .ref a_this_slots, .ref a_this_cover, .ref a_this_formsSeen])), (a_this_now, .inr (1, [.ref a_this_now_figures, .ref a_this_now_pieces, .ref a_this_now_mayMirror, .int c_this_now_laid])), (a_this_now_figures, .inl (cJ, 8, .inr (.inl u_this_now_figures)))] t.heap ∧ va_D (va_A [(a_this, .inr (3, [.ref a_this_text, .ref a_this_now, .ref a_this_slots, .ref a_this_cover, .ref a_this_formsSeen])), (a_this_now, .inr (1, [.ref a_this_now_figures, .ref a_this_now_pieces, .ref a_this_now_mayMirror, .int c_this_now_laid])), (a_this_now_figures, .inl (cJ, 8, .inr (.inl c_this_now_figures)))] sz) [(a_this, .inr (3, [.ref a_this_text, .ref a_this_now, .ref a_this_slots, .ref a_this_cover, .ref a_this_formsSeen])), (a_this_now, .inr (1, [.ref a_this_now_figures, .ref a_this_now_pieces, .ref a_this_now_mayMirror, .int c_this_now_laid])), (a_this_now_figures, .inl (cJ, 8, .inr (.inl u_this_now_figures)))]) (va_A [(a_this, .inr (3, [.ref a_this_text, .ref a_this_now, .ref a_this_slots, .ref a_this_cover, .ref a_this_formsSeen])), (a_this_now, .inr (1, [.ref a_this_now_figures, .ref a_this_now_pieces, .ref a_this_now_mayMirror, .int c_this_now_laid])), (a_this_now_figures, .inl (cJ, 8, .inr (.inl c_this_now_figures)))] sz)) 0 0 (va_A [(a_this, .inr (3, [.ref a_this_text, .ref a_this_now, .ref a_this_slots, .ref a_this_cover, .ref a_this_formsSeen])), (a_this_now, .inr (1, [.ref a_this_now_figures, .ref a_this_now_pieces, .ref a_this_now_mayMirror, .int c_this_now_laid])), (a_this_now_figures, .inl (cJ, 8, .inr (.inl c_this_now_figures)))] sz) := by
  refine Met.ofW (cc := cX7_shift) (maxL := 6) (ret := (some .int)) (by decide) rfl ?_
  intro p e s m args below meth c s₁ B hml hv
  obtain ⟨rfl, hsz, hP, hK, hD0⟩ := hv
  have hx := B.exec
  have hb := B.bytes
  have hr := B.returns
  have hts := atoms_spec (ws := wsX7_shift) B.pre
  have hown : s.vm.findClass RX7 = some m.cls := findClass_of_methodNamed B.named
  have hlocks := B.notSynchronized
  have hN := hK.2
  subst hsz
  have hD := hD0.self (sz := s.heap.size)
  generalize hAe : va_A [(a_this, .inr (3, [.ref a_this_text, .ref a_this_now, .ref a_this_slots, .ref a_this_cover, .ref a_this_formsSeen])), (a_this_now, .inr (1, [.ref a_this_now_figures, .ref a_this_now_pieces, .ref a_this_now_mayMirror, .int c_this_now_laid])), (a_this_now_figures, .inl (cJ, 8, .inr (.inl c_this_now_figures)))] s.heap.size = A at hD ⊢
  have hA : ∀ q : Nat, s.heap.size ≤ q → A q := fun q h => by rw [← hAe]; exact Or.inr h
  have hS : va_S A s.heap s.heap [] := va_S.rf
  have hl := lv_entry ([.ref a_this, .int x1, .int x2, .int x3]) (n := 6) (Nat.le_of_ble_eq_true rfl)
  rw [lg_entry_eq]
  generalize (lg_sl ([.ref a_this, .int x1, .int x2, .int x3]) ++ List.replicate (6 - (lg_sl ([.ref a_this, .int x1, .int x2, .int x3])).length) Slot.unset).toArray = ls at hl ⊢
  have hl : lv_has ls 6 [(0, .ref a_this), (1, .int x1), (2, .int x2), (3, .int x3)] := hl
  refine hk_Q (fun Q hQ => ?_)
  have h := hf
  unfold f_X7_shift at h
  refine lv_iload_n hx hb dX7_shift_0 rfl (lv_at hl 1 rfl) ?_
  obtain ⟨r21, hr22, h⟩ := hk_x1 h
  refine vp_callSi (W.runS (As := [.int x1]) (rest := []) ⟨hx, hb, hml, hown, hts⟩ (c_X7_noFigure l x1 _ hr22) (va_cwS 1 hts gX7_shift_X7_noFigure rfl rfl rfl zs_X7_noFigure ⟨Nat.le_of_ble_eq_true rfl, Nat.le_of_ble_eq_true rfl⟩) ⟨fun _ _ _ _ q => q, fun _ _ _ => ⟨rfl, trivial⟩⟩ rfl rfl hl.1 rfl (lv_room (Nat.le_of_ble_eq_true rfl)) dX7_shift_1 ⟨Nat.zero_le _, Nat.zero_le _⟩) (fun p24 e23 => ?_)
  rw [e23]
  refine lv_if_eq (tgt := 9) hx hb dX7_shift_4 (by decide) (fun c25 => ?_) (fun c25 => ?_)
  · replace h := hk_ip c25 h
    refine lv_iload_n hx hb dX7_shift_9 rfl (lv_at hl 2 rfl) ?_
    refine lv_bipush (v := (-3 : Int32)) hx hb dX7_shift_10 (by decide) ?_
    refine lv_icmp_lt (tgt := 31) hx hb dX7_shift_12 (by decide) (fun c26 => ?_) (fun c26 => ?_)
    · replace h := hk_ip c26 h
      refine lv_bipush (v := (-2 : Int32)) hx hb dX7_shift_31 (by decide) ?_
      subst hQ
      have h := Option.some.inj h
      simp only [Prod.mk.injEq] at h
      obtain ⟨rfl, rfl⟩ := h
      exact W.iret hx hb hr (fun t ht hW => ⟨⟨_, (), rfl, rfl, by rw [ht]; exact hP, hD⟩, hS.F ht⟩) hS.2.2 dX7_shift_33
    replace h := hk_in c26 h
    refine lv_iload_n hx hb dX7_shift_15 rfl (lv_at hl 2 rfl) ?_
    refine lv_iconst (v := (3 : Int32)) hx hb dX7_shift_16 (by decide) ?_
    refine lv_icmp_gt (tgt := 31) hx hb dX7_shift_17 (by decide) (fun c27 => ?_) (fun c27 => ?_)
    · replace h := hk_ip c27 h
      refine lv_bipush (v := (-2 : Int32)) hx hb dX7_shift_31 (by decide) ?_
      subst hQ
      have h := Option.some.inj h
      simp only [Prod.mk.injEq] at h
      obtain ⟨rfl, rfl⟩ := h
      exact W.iret hx hb hr (fun t ht hW => ⟨⟨_, (), rfl, rfl, by rw [ht]; exact hP, hD⟩, hS.F ht⟩) hS.2.2 dX7_shift_33
    replace h := hk_in c27 h
    refine lv_iload_n hx hb dX7_shift_20 rfl (lv_at hl 3 rfl) ?_
    refine lv_bipush (v := (-3 : Int32)) hx hb dX7_shift_21 (by decide) ?_
    refine lv_icmp_lt (tgt := 31) hx hb dX7_shift_23 (by decide) (fun c28 => ?_) (fun c28 => ?_)
    · replace h := hk_ip c28 h
      refine lv_bipush (v := (-2 : Int32)) hx hb dX7_shift_31 (by decide) ?_
      subst hQ
      have h := Option.some.inj h
      simp only [Prod.mk.injEq] at h
      obtain ⟨rfl, rfl⟩ := h
      exact W.iret hx hb hr (fun t ht hW => ⟨⟨_, (), rfl, rfl, by rw [ht]; exact hP, hD⟩, hS.F ht⟩) hS.2.2 dX7_shift_33
    replace h := hk_in c28 h
    refine lv_iload_n hx hb dX7_shift_26 rfl (lv_at hl 3 rfl) ?_
    refine lv_iconst (v := (3 : Int32)) hx hb dX7_shift_27 (by decide) ?_
    refine lv_icmp_le (tgt := 34) hx hb dX7_shift_28 (by decide) (fun c29 => ?_) (fun c29 => ?_)
    · replace h := hk_ip c29 h
      refine lv_aload_n hx hb dX7_shift_34 rfl (lv_at hl 0 rfl) ?_
      refine va_get (D := D) (ci := 3) (v := .ref a_this_now) (C := RX7) (T := TX7) (N := 5) hx hb hts zi_X7_shift_X7 hown hK.1 hP 0 rfl rfl 1 (by decide) (hts (.fieldLink RX7 19 "HalfAndHalfAgain" "now" "LHalfAndHalfAgain$Store;") (List.mem_of_getElem? (i := 1) rfl)) (fun _ h9 => h9) rfl dX7_shift_35 ?_
      refine va_get (D := D) (ci := 1) (v := .ref a_this_now_figures) (C := RX5) (T := TX5) (N := 4) hx hb hts zi_X7_shift_X5 hown hK.1 hP 1 rfl rfl 0 (by decide) (hts (.fieldLink RX7 62 "HalfAndHalfAgain$Store" "figures" "[J") (List.mem_of_getElem? (i := 2) rfl)) (fun _ h9 => h9) rfl dX7_shift_38 ?_
      refine lv_iload_n hx hb dX7_shift_41 rfl (lv_at hl 1 rfl) ?_
      obtain ⟨hi30, h⟩ := hk_ge h
      refine va_lald hx hb hK.1 hP 2 1 rfl rfl (hk_inb_of hi30) dX7_shift_42 ?_
      obtain ⟨x31, ex31, h⟩ := hk_le h
      refine hk_tl ex31 ?_
      refine lv_lstore (lv' := [(4, .long x31), (0, .ref a_this), (1, .int x1), (2, .int x2), (3, .int x3)]) hx hb dX7_shift_43 hl (by decide) rfl (fun ls hl => ?_)
      refine lv_lload hx hb dX7_shift_45 (lv_at hl 0 rfl) ?_
      refine lv_iload_n hx hb dX7_shift_47 rfl (lv_at hl 3 rfl) ?_
      refine lv_iload_n hx hb dX7_shift_48 rfl (lv_at hl 4 rfl) ?_
      obtain ⟨r32, hr33, h⟩ := hk_x1 h
      refine vp_callSi (W.runS (As := [.long x31, .int x2, .int x3]) (rest := []) ⟨hx, hb, hml, hown, hts⟩ (c_X3_staysOnBoard l x31 x2 x3 _ hr33) (va_cwS 3 hts gX7_shift_X3_staysOnBoard rfl rfl rfl zs_X3_staysOnBoard ⟨Nat.le_of_ble_eq_true rfl, Nat.le_of_ble_eq_true rfl⟩) ⟨fun _ _ _ _ q => q, fun _ _ _ => ⟨rfl, trivial⟩⟩ rfl rfl hl.1 rfl (lv_room (Nat.le_of_ble_eq_true rfl)) dX7_shift_49 ⟨Nat.zero_le _, Nat.zero_le _⟩) (fun p35 e34 => ?_)
      rw [e34]
      refine lv_if_ne (tgt := 58) hx hb dX7_shift_52 (by decide) (fun c36 => ?_) (fun c36 => ?_)
      · replace h := hk_in c36 h
        refine lv_aload_n hx hb dX7_shift_58 rfl (lv_at hl 1 rfl) ?_
        refine lv_iload_n hx hb dX7_shift_59 rfl (lv_at hl 2 rfl) ?_
        refine lv_lload hx hb dX7_shift_60 (lv_at hl 0 rfl) ?_
        refine lv_iload_n hx hb dX7_shift_62 rfl (lv_at hl 3 rfl) ?_
        refine lv_iload_n hx hb dX7_shift_63 rfl (lv_at hl 4 rfl) ?_
        obtain ⟨r37, hr38, h⟩ := hk_x1 h
        refine vp_callSl (W.runS (As := [.long x31, .int x2, .int x3]) (rest := [.int x1, .ref a_this]) ⟨hx, hb, hml, hown, hts⟩ (c_X3_shifted l x31 x2 x3 _ hr38) (va_cwS 3 hts gX7_shift_X3_shifted rfl rfl rfl zs_X3_shifted ⟨Nat.le_of_ble_eq_true rfl, Nat.le_of_ble_eq_true rfl⟩) ⟨fun _ _ _ _ q => q, fun _ _ _ => ⟨rfl, trivial⟩⟩ rfl rfl hl.1 rfl (lv_room (Nat.le_of_ble_eq_true rfl)) dX7_shift_64 ⟨Nat.zero_le _, Nat.zero_le _⟩) (fun p40 e39 => ?_)
        rw [e39]
        obtain ⟨r41, u42, hr43, h⟩ := hk_x2 h
        have hPc := hP.sub (ws' := [(a_this, .inr (3, [.ref a_this_text, .ref a_this_now, .ref a_this_slots, .ref a_this_cover, .ref a_this_formsSeen])), (a_this_now, .inr (1, [.ref a_this_now_figures, .ref a_this_now_pieces, .ref a_this_now_mayMirror, .int c_this_now_laid])), (a_this_now_figures, .inl (cJ, 8, .inr (.inl c_this_now_figures)))]) [0, 1, 2] rfl
        have hDc := hD.sub (ws' := [(a_this, .inr (3, [.ref a_this_text, .ref a_this_now, .ref a_this_slots, .ref a_this_cover, .ref a_this_formsSeen])), (a_this_now, .inr (1, [.ref a_this_now_figures, .ref a_this_now_pieces, .ref a_this_now_mayMirror, .int c_this_now_laid])), (a_this_now_figures, .inl (cJ, 8, .inr (.inl c_this_now_figures)))]) [0, 1, 2] (by decide) rfl
        have hFc := va_free (wc := [(a_this, .inr (3, [.ref a_this_text, .ref a_this_now, .ref a_this_slots, .ref a_this_cover, .ref a_this_formsSeen])), (a_this_now, .inr (1, [.ref a_this_now_figures, .ref a_this_now_pieces, .ref a_this_now_mayMirror, .int c_this_now_laid])), (a_this_now_figures, .inl (cJ, 8, .inr (.inl c_this_now_figures)))]) hD hS hA [0, 1, 2] rfl
        refine va_calli (va_runV (As := [.int x1, .long r37]) (rest := []) ⟨hx, hb, hml, hown, hts⟩ (c_X7_become l D cI cJ cZ cO a_this a_this_text a_this_now a_this_slots a_this_cover a_this_formsSeen a_this_now_figures a_this_now_pieces a_this_now_mayMirror s.heap.size c_this_now_laid c_this_now_figures x1 r37 _ _ hr43) (cwV 2 hts gX7_shift_X7_become rfl rfl rfl zv_X7_become ⟨Nat.le_of_ble_eq_true rfl, Nat.le_of_ble_eq_true rfl⟩) (hk_preMV 3 rfl hPc hDc hK rfl) rfl rfl hl.1 rfl (lv_room (Nat.le_of_ble_eq_true rfl)) dX7_shift_67 ⟨Nat.zero_le _, Nat.zero_le _⟩) hS (fun q _ h9 => hFc q h9) hFc (fun p44 u9 t9 H1 locs ht hvm hw hB hz1 hk1 hS => ?_)
        obtain ⟨hP1, hD1⟩ := hB
        rw [ht] at hP1
        rw [hw]
        obtain ⟨hP, hD⟩ := va_join (wr := []) (w1 := [(a_this, .inr (3, [.ref a_this_text, .ref a_this_now, .ref a_this_slots, .ref a_this_cover, .ref a_this_formsSeen])), (a_this_now, .inr (1, [.ref a_this_now_figures, .ref a_this_now_pieces, .ref a_this_now_mayMirror, .int c_this_now_laid])), (a_this_now_figures, .inl (cJ, 8, .inr (.inl u42)))]) hP hD [0, 1, 2] [] rfl rfl (by decide) (by decide) hk1 hFc hP1 hD1
        generalize H1 = H at hP hS ⊢
        have hP := hP.sub (ws' := [(a_this, .inr (3, [.ref a_this_text, .ref a_this_now, .ref a_this_slots, .ref a_this_cover, .ref a_this_formsSeen])), (a_this_now, .inr (1, [.ref a_this_now_figures, .ref a_this_now_pieces, .ref a_this_now_mayMirror, .int c_this_now_laid])), (a_this_now_figures, .inl (cJ, 8, .inr (.inl u42)))]) [0, 1, 2] rfl
        have hD := hD.sub (ws' := [(a_this, .inr (3, [.ref a_this_text, .ref a_this_now, .ref a_this_slots, .ref a_this_cover, .ref a_this_formsSeen])), (a_this_now, .inr (1, [.ref a_this_now_figures, .ref a_this_now_pieces, .ref a_this_now_mayMirror, .int c_this_now_laid])), (a_this_now_figures, .inl (cJ, 8, .inr (.inl u42)))]) [0, 1, 2] (by decide) rfl
        subst hQ
        have h := Option.some.inj h
        simp only [Prod.mk.injEq] at h
        obtain ⟨rfl, rfl⟩ := h
        exact W.iret hx hb hr (fun t ht hW => ⟨⟨_, (), rfl, rfl, by rw [ht]; exact hP, hD⟩, hS.F ht⟩) hS.2.2 dX7_shift_70
      replace h := hk_ip c36 h
      refine lv_bipush (v := (-3 : Int32)) hx hb dX7_shift_55 (by decide) ?_
      subst hQ
      have h := Option.some.inj h
      simp only [Prod.mk.injEq] at h
      obtain ⟨rfl, rfl⟩ := h
      exact W.iret hx hb hr (fun t ht hW => ⟨⟨_, (), rfl, rfl, by rw [ht]; exact hP, hD⟩, hS.F ht⟩) hS.2.2 dX7_shift_57
    replace h := hk_in c29 h
    refine lv_bipush (v := (-2 : Int32)) hx hb dX7_shift_31 (by decide) ?_
    subst hQ
    have h := Option.some.inj h
    simp only [Prod.mk.injEq] at h
    obtain ⟨rfl, rfl⟩ := h
    exact W.iret hx hb hr (fun t ht hW => ⟨⟨_, (), rfl, rfl, by rw [ht]; exact hP, hD⟩, hS.F ht⟩) hS.2.2 dX7_shift_33
  replace h := hk_in c25 h
  refine lv_iconst (v := (-1 : Int32)) hx hb dX7_shift_7 (by decide) ?_
  subst hQ
  have h := Option.some.inj h
  simp only [Prod.mk.injEq] at h
  obtain ⟨rfl, rfl⟩ := h
  exact W.iret hx hb hr (fun t ht hW => ⟨⟨_, (), rfl, rfl, by rw [ht]; exact hP, hD⟩, hS.F ht⟩) hS.2.2 dX7_shift_8
theorem zv_X7_form : yX7_form.cls = RX7 ∧ yX7_form.cls ≠ "java/lang/invoke/MethodHandle" ∧ yX7_form.cls ≠ "java/lang/invoke/VarHandle" ∧ (parseMethodDescriptor yX7_form.desc).map (fun d => d.parameters.length) = some 1 := by decide +kernel
def f_X7_form (c_this_now_figures : Nat → Int64)  (x1 : Int32) : Option Int64 := hk_b1 (f_X7_noFigure x1) fun r21 => if r21 = 0 then (hk_gd (hk_inb x1 8) (hk_b1 (f_X3_leastForm (c_this_now_figures x1.toNatClampNeg)) fun r27 => some r27)) else (some (0 : Int64))
theorem zi_X7_form_X7 : ∀ w ∈ u_ws RX7 TX7 5, w ∈ wsX7_form := by decide +kernel
theorem zi_X7_form_X5 : ∀ w ∈ u_ws RX5 TX5 4, w ∈ wsX7_form := by decide +kernel
set_option maxHeartbeats 8000000 in
set_option maxRecDepth 100000 in
theorem c_X7_form (l : Launch) (D : va_G) (cI cJ cZ cO : ClassId) (a_this a_this_text a_this_now a_this_slots a_this_cover a_this_formsSeen a_this_now_figures a_this_now_pieces a_this_now_mayMirror : Nat) (c_this_now_laid : Int32) (c_this_now_figures : Nat → Int64) (x1 : Int32) (rv : Int64) (hf : f_X7_form c_this_now_figures x1 = some rv) : Met l yX7_form wsX7_form ({ frames := 5, cells := 0, slots := 0, locals := 121 }) (va_Pc [.ref a_this, .int x1] (hkR D cI cJ cZ cO [(a_this, .inr (3, [.ref a_this_text, .ref a_this_now, .ref a_this_slots, .ref a_this_cover, .ref a_this_formsSeen])), (a_this_now, .inr (1, [.ref a_this_now_figures, .ref a_this_now_pieces, .ref a_this_now_mayMirror, .int c_this_now_laid])), (a_this_now_figures, .inl (cJ, 8, .inr (.inl c_this_now_figures)))])) (vp_Sl (fun r => r = rv)) 0 0 (fun _ => False) := by
  refine Met.ofW (cc := cX7_form) (maxL := 2) (ret := (some .long)) (by decide) rfl ?_
  intro p e s m args below meth c s₁ B hml hv
  obtain ⟨rfl, hP, hK⟩ := hv
  have hx := B.exec
  have hb := B.bytes
  have hr := B.returns
  have hts := atoms_spec (ws := wsX7_form) B.pre
  have hown : s.vm.findClass RX7 = some m.cls := findClass_of_methodNamed B.named
  have hlocks := B.notSynchronized
  have hN := hK.2
  have hl := lv_entry ([.ref a_this, .int x1]) (n := 2) (Nat.le_of_ble_eq_true rfl)
  rw [lg_entry_eq]
  generalize (lg_sl ([.ref a_this, .int x1]) ++ List.replicate (2 - (lg_sl ([.ref a_this, .int x1])).length) Slot.unset).toArray = ls at hl ⊢
  have hl : lv_has ls 2 [(0, .ref a_this), (1, .int x1)] := hl
  refine hk_Q (fun Q hQ => ?_)
  have h := hf
  unfold f_X7_form at h
  refine lv_iload_n hx hb dX7_form_0 rfl (lv_at hl 1 rfl) ?_
  obtain ⟨r21, hr22, h⟩ := hk_x1 h
  refine vp_callSi (W.runS (As := [.int x1]) (rest := []) ⟨hx, hb, hml, hown, hts⟩ (c_X7_noFigure l x1 _ hr22) (va_cwS 1 hts gX7_form_X7_noFigure rfl rfl rfl zs_X7_noFigure ⟨Nat.le_of_ble_eq_true rfl, Nat.le_of_ble_eq_true rfl⟩) ⟨fun _ _ _ _ q => q, fun _ _ _ => ⟨rfl, trivial⟩⟩ rfl rfl hl.1 rfl (lv_room (Nat.le_of_ble_eq_true rfl)) dX7_form_1 ⟨Nat.zero_le _, Nat.zero_le _⟩) (fun p24 e23 => ?_)
  rw [e23]
  refine lv_if_eq (tgt := 11) hx hb dX7_form_4 (by decide) (fun c25 => ?_) (fun c25 => ?_)
  · replace h := hk_ip c25 h
    refine lv_aload_n hx hb dX7_form_11 rfl (lv_at hl 0 rfl) ?_
    refine va_get (D := D) (ci := 3) (v := .ref a_this_now) (C := RX7) (T := TX7) (N := 5) hx hb hts zi_X7_form_X7 hown hK.1 hP 0 rfl rfl 1 (by decide) (hts (.fieldLink RX7 19 "HalfAndHalfAgain" "now" "LHalfAndHalfAgain$Store;") (List.mem_of_getElem? (i := 1) rfl)) (fun _ h9 => h9) rfl dX7_form_12 ?_
    refine va_get (D := D) (ci := 1) (v := .ref a_this_now_figures) (C := RX5) (T := TX5) (N := 4) hx hb hts zi_X7_form_X5 hown hK.1 hP 1 rfl rfl 0 (by decide) (hts (.fieldLink RX7 62 "HalfAndHalfAgain$Store" "figures" "[J") (List.mem_of_getElem? (i := 2) rfl)) (fun _ h9 => h9) rfl dX7_form_15 ?_
    refine lv_iload_n hx hb dX7_form_18 rfl (lv_at hl 1 rfl) ?_
    obtain ⟨hi26, h⟩ := hk_ge h
    refine va_lald hx hb hK.1 hP 2 1 rfl rfl (hk_inb_of hi26) dX7_form_19 ?_
    obtain ⟨r27, hr28, h⟩ := hk_x1 h
    refine vp_callSl (W.runS (As := [.long (c_this_now_figures x1.toNatClampNeg)]) (rest := []) ⟨hx, hb, hml, hown, hts⟩ (c_X3_leastForm l (c_this_now_figures x1.toNatClampNeg) _ hr28) (va_cwS 1 hts gX7_form_X3_leastForm rfl rfl rfl zs_X3_leastForm ⟨Nat.le_of_ble_eq_true rfl, Nat.le_of_ble_eq_true rfl⟩) (hk_preN hN) rfl rfl hl.1 rfl (lv_room (Nat.le_of_ble_eq_true rfl)) dX7_form_20 ⟨Nat.zero_le _, Nat.zero_le _⟩) (fun p30 e29 => ?_)
    rw [e29]
    subst hQ
    exact W.lret hx hb hr (fun t ht hW => ⟨_, rfl, Option.some.inj h, ht⟩) (fun _ h9 => by cases h9) dX7_form_23
  replace h := hk_in c25 h
  refine lv_lconst (v := (0 : Int64)) hx hb dX7_form_7 (by decide) ?_
  refine lv_goto (tgt := 23) hx hb dX7_form_8 (by decide) ?_
  subst hQ
  exact W.lret hx hb hr (fun t ht hW => ⟨_, rfl, Option.some.inj h, ht⟩) (fun _ h9 => by cases h9) dX7_form_23
theorem zv_X7_like : yX7_like.cls = RX7 ∧ yX7_like.cls ≠ "java/lang/invoke/MethodHandle" ∧ yX7_like.cls ≠ "java/lang/invoke/VarHandle" ∧ (parseMethodDescriptor yX7_like.desc).map (fun d => d.parameters.length) = some 2 := by decide +kernel
def f_X7_like (c_this_now_figures : Nat → Int64)  (x1 : Int32) (x2 : Int32) : Option Int32 := hk_b1 (f_X7_noFigure x1) fun r21 => if r21 = 0 then (hk_b1 (f_X7_noFigure x2) fun r26 => if r26 = 0 then (hk_gd (hk_inb x1 8) (hk_b1 (f_X3_leastForm (c_this_now_figures x1.toNatClampNeg)) fun r32 => hk_gd (hk_inb x2 8) (hk_b1 (f_X3_leastForm (c_this_now_figures x2.toNatClampNeg)) fun r37 => if r32 = r37 then (some (1 : Int32)) else (some (0 : Int32))))) else (some (-1 : Int32))) else (some (-1 : Int32))
theorem zi_X7_like_X7 : ∀ w ∈ u_ws RX7 TX7 5, w ∈ wsX7_like := by decide +kernel
theorem zi_X7_like_X5 : ∀ w ∈ u_ws RX5 TX5 4, w ∈ wsX7_like := by decide +kernel
set_option maxHeartbeats 8000000 in
set_option maxRecDepth 100000 in
theorem c_X7_like (l : Launch) (D : va_G) (cI cJ cZ cO : ClassId) (a_this a_this_text a_this_now a_this_slots a_this_cover a_this_formsSeen a_this_now_figures a_this_now_pieces a_this_now_mayMirror : Nat) (c_this_now_laid : Int32) (c_this_now_figures : Nat → Int64) (x1 : Int32) (x2 : Int32) (rv : Int32) (hf : f_X7_like c_this_now_figures x1 x2 = some rv) : Met l yX7_like wsX7_like ({ frames := 5, cells := 0, slots := 0, locals := 121 }) (va_Pc [.ref a_this, .int x1, .int x2] (hkR D cI cJ cZ cO [(a_this, .inr (3, [.ref a_this_text, .ref a_this_now, .ref a_this_slots, .ref a_this_cover, .ref a_this_formsSeen])), (a_this_now, .inr (1, [.ref a_this_now_figures, .ref a_this_now_pieces, .ref a_this_now_mayMirror, .int c_this_now_laid])), (a_this_now_figures, .inl (cJ, 8, .inr (.inl c_this_now_figures)))])) (vp_Si (fun r => r = rv)) 0 0 (fun _ => False) := by
  refine Met.ofW (cc := cX7_like) (maxL := 3) (ret := (some .int)) (by decide) rfl ?_
  intro p e s m args below meth c s₁ B hml hv
  obtain ⟨rfl, hP, hK⟩ := hv
  have hx := B.exec
  have hb := B.bytes
  have hr := B.returns
  have hts := atoms_spec (ws := wsX7_like) B.pre
  have hown : s.vm.findClass RX7 = some m.cls := findClass_of_methodNamed B.named
  have hlocks := B.notSynchronized
  have hN := hK.2
  have hl := lv_entry ([.ref a_this, .int x1, .int x2]) (n := 3) (Nat.le_of_ble_eq_true rfl)
  rw [lg_entry_eq]
  generalize (lg_sl ([.ref a_this, .int x1, .int x2]) ++ List.replicate (3 - (lg_sl ([.ref a_this, .int x1, .int x2])).length) Slot.unset).toArray = ls at hl ⊢
  have hl : lv_has ls 3 [(0, .ref a_this), (1, .int x1), (2, .int x2)] := hl
  refine hk_Q (fun Q hQ => ?_)
  have h := hf
  unfold f_X7_like at h
  refine lv_iload_n hx hb dX7_like_0 rfl (lv_at hl 1 rfl) ?_
  obtain ⟨r21, hr22, h⟩ := hk_x1 h
  refine vp_callSi (W.runS (As := [.int x1]) (rest := []) ⟨hx, hb, hml, hown, hts⟩ (c_X7_noFigure l x1 _ hr22) (va_cwS 1 hts gX7_like_X7_noFigure rfl rfl rfl zs_X7_noFigure ⟨Nat.le_of_ble_eq_true rfl, Nat.le_of_ble_eq_true rfl⟩) ⟨fun _ _ _ _ q => q, fun _ _ _ => ⟨rfl, trivial⟩⟩ rfl rfl hl.1 rfl (lv_room (Nat.le_of_ble_eq_true rfl)) dX7_like_1 ⟨Nat.zero_le _, Nat.zero_le _⟩) (fun p24 e23 => ?_)
  rw [e23]
  refine lv_if_ne (tgt := 14) hx hb dX7_like_4 (by decide) (fun c25 => ?_) (fun c25 => ?_)
  · replace h := hk_in c25 h
    refine lv_iconst (v := (-1 : Int32)) hx hb dX7_like_14 (by decide) ?_
    subst hQ
    exact W.iret hx hb hr (fun t ht hW => ⟨_, rfl, Option.some.inj h, ht⟩) (fun _ h9 => by cases h9) dX7_like_15
  replace h := hk_ip c25 h
  refine lv_iload_n hx hb dX7_like_7 rfl (lv_at hl 2 rfl) ?_
  obtain ⟨r26, hr27, h⟩ := hk_x1 h
  refine vp_callSi (W.runS (As := [.int x2]) (rest := []) ⟨hx, hb, hml, hown, hts⟩ (c_X7_noFigure l x2 _ hr27) (va_cwS 1 hts gX7_like_X7_noFigure rfl rfl rfl zs_X7_noFigure ⟨Nat.le_of_ble_eq_true rfl, Nat.le_of_ble_eq_true rfl⟩) ⟨fun _ _ _ _ q => q, fun _ _ _ => ⟨rfl, trivial⟩⟩ rfl rfl hl.1 rfl (lv_room (Nat.le_of_ble_eq_true rfl)) dX7_like_8 ⟨Nat.zero_le _, Nat.zero_le _⟩) (fun p29 e28 => ?_)
  rw [e28]
  refine lv_if_eq (tgt := 16) hx hb dX7_like_11 (by decide) (fun c30 => ?_) (fun c30 => ?_)
  · replace h := hk_ip c30 h
    refine lv_aload_n hx hb dX7_like_16 rfl (lv_at hl 0 rfl) ?_
    refine va_get (D := D) (ci := 3) (v := .ref a_this_now) (C := RX7) (T := TX7) (N := 5) hx hb hts zi_X7_like_X7 hown hK.1 hP 0 rfl rfl 1 (by decide) (hts (.fieldLink RX7 19 "HalfAndHalfAgain" "now" "LHalfAndHalfAgain$Store;") (List.mem_of_getElem? (i := 1) rfl)) (fun _ h9 => h9) rfl dX7_like_17 ?_
    refine va_get (D := D) (ci := 1) (v := .ref a_this_now_figures) (C := RX5) (T := TX5) (N := 4) hx hb hts zi_X7_like_X5 hown hK.1 hP 1 rfl rfl 0 (by decide) (hts (.fieldLink RX7 62 "HalfAndHalfAgain$Store" "figures" "[J") (List.mem_of_getElem? (i := 2) rfl)) (fun _ h9 => h9) rfl dX7_like_20 ?_
    refine lv_iload_n hx hb dX7_like_23 rfl (lv_at hl 1 rfl) ?_
    obtain ⟨hi31, h⟩ := hk_ge h
    refine va_lald hx hb hK.1 hP 2 1 rfl rfl (hk_inb_of hi31) dX7_like_24 ?_
    obtain ⟨r32, hr33, h⟩ := hk_x1 h
    refine vp_callSl (W.runS (As := [.long (c_this_now_figures x1.toNatClampNeg)]) (rest := []) ⟨hx, hb, hml, hown, hts⟩ (c_X3_leastForm l (c_this_now_figures x1.toNatClampNeg) _ hr33) (va_cwS 1 hts gX7_like_X3_leastForm rfl rfl rfl zs_X3_leastForm ⟨Nat.le_of_ble_eq_true rfl, Nat.le_of_ble_eq_true rfl⟩) (hk_preN hN) rfl rfl hl.1 rfl (lv_room (Nat.le_of_ble_eq_true rfl)) dX7_like_25 ⟨Nat.zero_le _, Nat.zero_le _⟩) (fun p35 e34 => ?_)
    rw [e34]
    refine lv_aload_n hx hb dX7_like_28 rfl (lv_at hl 0 rfl) ?_
    refine va_get (D := D) (ci := 3) (v := .ref a_this_now) (C := RX7) (T := TX7) (N := 5) hx hb hts zi_X7_like_X7 hown hK.1 hP 0 rfl rfl 1 (by decide) (hts (.fieldLink RX7 19 "HalfAndHalfAgain" "now" "LHalfAndHalfAgain$Store;") (List.mem_of_getElem? (i := 1) rfl)) (fun _ h9 => h9) rfl dX7_like_29 ?_
    refine va_get (D := D) (ci := 1) (v := .ref a_this_now_figures) (C := RX5) (T := TX5) (N := 4) hx hb hts zi_X7_like_X5 hown hK.1 hP 1 rfl rfl 0 (by decide) (hts (.fieldLink RX7 62 "HalfAndHalfAgain$Store" "figures" "[J") (List.mem_of_getElem? (i := 2) rfl)) (fun _ h9 => h9) rfl dX7_like_32 ?_
    refine lv_iload_n hx hb dX7_like_35 rfl (lv_at hl 2 rfl) ?_
    obtain ⟨hi36, h⟩ := hk_ge h
    refine va_lald hx hb hK.1 hP 2 1 rfl rfl (hk_inb_of hi36) dX7_like_36 ?_
    obtain ⟨r37, hr38, h⟩ := hk_x1 h
    refine vp_callSl (W.runS (As := [.long (c_this_now_figures x2.toNatClampNeg)]) (rest := [.long r32]) ⟨hx, hb, hml, hown, hts⟩ (c_X3_leastForm l (c_this_now_figures x2.toNatClampNeg) _ hr38) (va_cwS 1 hts gX7_like_X3_leastForm rfl rfl rfl zs_X3_leastForm ⟨Nat.le_of_ble_eq_true rfl, Nat.le_of_ble_eq_true rfl⟩) (hk_preN hN) rfl rfl hl.1 rfl (lv_room (Nat.le_of_ble_eq_true rfl)) dX7_like_37 ⟨Nat.zero_le _, Nat.zero_le _⟩) (fun p40 e39 => ?_)
    rw [e39]
    refine hk_lcmp_ne (tgt := 48) hx hb dX7_like_40 dX7_like_41 (by decide) (fun c41 => ?_) (fun c41 => ?_)
    · replace h := hk_in c41 h
      refine lv_iconst (v := (0 : Int32)) hx hb dX7_like_48 (by decide) ?_
      subst hQ
      exact W.iret hx hb hr (fun t ht hW => ⟨_, rfl, Option.some.inj h, ht⟩) (fun _ h9 => by cases h9) dX7_like_49
    replace h := hk_ip c41 h
    refine lv_iconst (v := (1 : Int32)) hx hb dX7_like_44 (by decide) ?_
    refine lv_goto (tgt := 49) hx hb dX7_like_45 (by decide) ?_
    subst hQ
    exact W.iret hx hb hr (fun t ht hW => ⟨_, rfl, Option.some.inj h, ht⟩) (fun _ h9 => by cases h9) dX7_like_49
  replace h := hk_in c30 h
  refine lv_iconst (v := (-1 : Int32)) hx hb dX7_like_14 (by decide) ?_
  subst hQ
  exact W.iret hx hb hr (fun t ht hW => ⟨_, rfl, Option.some.inj h, ht⟩) (fun _ h9 => by cases h9) dX7_like_15
