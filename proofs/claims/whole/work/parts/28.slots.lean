/-! keep and again, by what the slot holds: walks printed by wip/whole/gen.py -/
def f_X7_keep_bad  (x1 : Int32) : Option Int32 := if x1 < 0 then (some (-1 : Int32)) else (if x1 < (2 : Int32) then (none) else (some (-1 : Int32)))
theorem zi_X7_keep_bad_X7 : ∀ w ∈ u_ws RX7 TX7 5, w ∈ wsX7_keep := by decide +kernel
set_option maxHeartbeats 8000000 in
set_option maxRecDepth 100000 in
theorem c_X7_keep_bad (l : Launch) (D : va_G) (cI cJ cZ cO : ClassId) (a_this a_this_text a_this_now a_this_slots a_this_cover a_this_formsSeen : Nat) (x1 : Int32) (rv : Int32) (hf : f_X7_keep_bad  x1 = some rv) : Met l yX7_keep wsX7_keep ({ frames := 2, cells := 0, slots := 0, locals := 32 }) (va_Pc [.ref a_this, .int x1] (hkR D cI cJ cZ cO [(a_this, .inr (3, [.ref a_this_text, .ref a_this_now, .ref a_this_slots, .ref a_this_cover, .ref a_this_formsSeen]))])) (vp_Si (fun r => r = rv)) 0 0 (fun _ => False) := by
  refine Met.ofW (cc := cX7_keep) (maxL := 2) (ret := (some .int)) (by decide) rfl ?_
  intro p e s m args below meth c s₁ B hml hv
  obtain ⟨rfl, hP, hK⟩ := hv
  have hx := B.exec
  have hb := B.bytes
  have hr := B.returns
  have hts := atoms_spec (ws := wsX7_keep) B.pre
  have hown : s.vm.findClass RX7 = some m.cls := findClass_of_methodNamed B.named
  have hlocks := B.notSynchronized
  have hN := hK.2
  have hl := lv_entry ([.ref a_this, .int x1]) (n := 2) (Nat.le_of_ble_eq_true rfl)
  rw [lg_entry_eq]
  generalize (lg_sl ([.ref a_this, .int x1]) ++ List.replicate (2 - (lg_sl ([.ref a_this, .int x1])).length) Slot.unset).toArray = ls at hl ⊢
  have hl : lv_has ls 2 [(0, .ref a_this), (1, .int x1)] := hl
  refine hk_Q (fun Q hQ => ?_)
  have h := hf
  unfold f_X7_keep_bad at h
  refine lv_iload_n hx hb dX7_keep_0 rfl (lv_at hl 1 rfl) ?_
  refine lv_if_lt (tgt := 9) hx hb dX7_keep_1 (by decide) (fun c21 => ?_) (fun c21 => ?_)
  · replace h := hk_ip c21 h
    refine lv_iconst (v := (-1 : Int32)) hx hb dX7_keep_9 (by decide) ?_
    subst hQ
    exact W.iret hx hb hr (fun t ht hW => ⟨_, rfl, Option.some.inj h, ht⟩) (fun _ h9 => by cases h9) dX7_keep_10
  replace h := hk_in c21 h
  refine lv_iload_n hx hb dX7_keep_4 rfl (lv_at hl 1 rfl) ?_
  refine lv_iconst (v := (2 : Int32)) hx hb dX7_keep_5 (by decide) ?_
  refine lv_icmp_lt (tgt := 11) hx hb dX7_keep_6 (by decide) (fun c22 => ?_) (fun c22 => ?_)
  · replace h := hk_ip c22 h
    refine lv_aload_n hx hb dX7_keep_11 rfl (lv_at hl 0 rfl) ?_
    refine va_get (D := D) (ci := 3) (v := .ref a_this_slots) (C := RX7) (T := TX7) (N := 5) hx hb hts zi_X7_keep_bad_X7 hown hK.1 hP 0 rfl rfl 2 (by decide) (hts (.fieldLink RX7 23 "HalfAndHalfAgain" "slots" "[LHalfAndHalfAgain$Store;") (List.mem_of_getElem? (i := 1) rfl)) (fun _ h9 => h9) rfl dX7_keep_12 ?_
    refine lv_iload_n hx hb dX7_keep_15 rfl (lv_at hl 1 rfl) ?_
    cases h
  replace h := hk_in c22 h
  refine lv_iconst (v := (-1 : Int32)) hx hb dX7_keep_9 (by decide) ?_
  subst hQ
  exact W.iret hx hb hr (fun t ht hW => ⟨_, rfl, Option.some.inj h, ht⟩) (fun _ h9 => by cases h9) dX7_keep_10
def f_X7_keep_none (c_this_now_laid : Int32) (c_this_now_figures : Nat → Int64) (c_this_now_pieces : Nat → Int64) (c_this_now_mayMirror : Nat → Int32) (x1 : Int32) : Option (Int32 × Int32 × (Nat → Int64) × (Nat → Int64) × (Nat → Int32)) := if x1 < 0 then (none) else (if x1 < (2 : Int32) then (hk_gd (hk_inb x1 2) (hk_gd (hk_inb x1 2) (hk_b4 (f_X5_copyFrom (0 : Int32) c_this_now_laid (fun _ => 0) c_this_now_figures (fun _ => 0) c_this_now_pieces (fun _ => 0) c_this_now_mayMirror) fun u25 u26 u27 u28 => hk_b1 (f_X5_countFilled c_this_now_figures) fun r31 => some (r31, u25, u26, u27, u28)))) else (none))
theorem zi_X7_keep_none_X7 : ∀ w ∈ u_ws RX7 TX7 5, w ∈ wsX7_keep := by decide +kernel
theorem zi_X7_keep_none_X5 : ∀ w ∈ u_ws RX5 TX5 4, w ∈ wsX7_keep := by decide +kernel
set_option maxHeartbeats 8000000 in
set_option maxRecDepth 100000 in
theorem c_X7_keep_none (l : Launch) (D : va_G) (cI cJ cZ cO : ClassId) (a_this a_this_text a_this_now a_this_slots a_this_cover a_this_formsSeen a_this_now_figures a_this_now_pieces a_this_now_mayMirror : Nat) (sz : Nat) (c_this_now_laid : Int32) (c_this_slots : Nat → Option Nat) (c_this_now_figures : Nat → Int64) (c_this_now_pieces : Nat → Int64) (c_this_now_mayMirror : Nat → Int32) (x1 : Int32) (rv : Int32) (u_kk_laid : Int32) (u_kk_figures : Nat → Int64) (u_kk_pieces : Nat → Int64) (u_kk_mayMirror : Nat → Int32) (hq : c_this_slots x1.toNatClampNeg = none) (hf : f_X7_keep_none c_this_now_laid c_this_now_figures c_this_now_pieces c_this_now_mayMirror x1 = some (rv, u_kk_laid, u_kk_figures, u_kk_pieces, u_kk_mayMirror)) : Met l yX7_keep wsX7_keep ({ frames := 2, cells := 4, slots := 20, locals := 32 }) (va_Pc [.ref a_this, .int x1] (hkM D cI cJ cZ cO [(a_this, .inr (3, [.ref a_this_text, .ref a_this_now, .ref a_this_slots, .ref a_this_cover, .ref a_this_formsSeen])), (a_this_slots, .inl (cO, 2, .inr (.inr (.inr (.inr c_this_slots))))), (a_this_now, .inr (1, [.ref a_this_now_figures, .ref a_this_now_pieces, .ref a_this_now_mayMirror, .int c_this_now_laid])), (a_this_now_figures, .inl (cJ, 8, .inr (.inl c_this_now_figures))), (a_this_now_pieces, .inl (cJ, 4, .inr (.inl c_this_now_pieces))), (a_this_now_mayMirror, .inl (cZ, 4, .inl c_this_now_mayMirror))] sz)) (va_Qi (fun r (_ : Unit) => r = rv) (fun _ t => ∃ a_kk a_kk_figures a_kk_pieces a_kk_mayMirror : Nat, va_P D vwCl [(a_this, .inr (3, [.ref a_this_text, .ref a_this_now, .ref a_this_slots, .ref a_this_cover, .ref a_this_formsSeen])), (a_this_slots, .inl (cO, 2, .inr (.inr (.inr (.inr (va_up c_this_slots x1.toNatClampNeg (some a_kk))))))), (a_this_now, .inr (1, [.ref a_this_now_figures, .ref a_this_now_pieces, .ref a_this_now_mayMirror, .int c_this_now_laid])), (a_this_now_figures, .inl (cJ, 8, .inr (.inl c_this_now_figures))), (a_this_now_pieces, .inl (cJ, 4, .inr (.inl c_this_now_pieces))), (a_this_now_mayMirror, .inl (cZ, 4, .inl c_this_now_mayMirror)), (a_kk, .inr (1, [.ref a_kk_figures, .ref a_kk_pieces, .ref a_kk_mayMirror, .int u_kk_laid])), (a_kk_figures, .inl (cJ, 8, .inr (.inl u_kk_figures))), (a_kk_pieces, .inl (cJ, 4, .inr (.inl u_kk_pieces))), (a_kk_mayMirror, .inl (cZ, 4, .inl u_kk_mayMirror))] t.heap ∧ va_D (va_A [(a_this, .inr (3, [.ref a_this_text, .ref a_this_now, .ref a_this_slots, .ref a_this_cover, .ref a_this_formsSeen])), (a_this_slots, .inl (cO, 2, .inr (.inr (.inr (.inr c_this_slots))))), (a_this_now, .inr (1, [.ref a_this_now_figures, .ref a_this_now_pieces, .ref a_this_now_mayMirror, .int c_this_now_laid])), (a_this_now_figures, .inl (cJ, 8, .inr (.inl c_this_now_figures))), (a_this_now_pieces, .inl (cJ, 4, .inr (.inl c_this_now_pieces))), (a_this_now_mayMirror, .inl (cZ, 4, .inl c_this_now_mayMirror))] sz) [(a_this, .inr (3, [.ref a_this_text, .ref a_this_now, .ref a_this_slots, .ref a_this_cover, .ref a_this_formsSeen])), (a_this_slots, .inl (cO, 2, .inr (.inr (.inr (.inr (va_up c_this_slots x1.toNatClampNeg (some a_kk))))))), (a_this_now, .inr (1, [.ref a_this_now_figures, .ref a_this_now_pieces, .ref a_this_now_mayMirror, .int c_this_now_laid])), (a_this_now_figures, .inl (cJ, 8, .inr (.inl c_this_now_figures))), (a_this_now_pieces, .inl (cJ, 4, .inr (.inl c_this_now_pieces))), (a_this_now_mayMirror, .inl (cZ, 4, .inl c_this_now_mayMirror)), (a_kk, .inr (1, [.ref a_kk_figures, .ref a_kk_pieces, .ref a_kk_mayMirror, .int u_kk_laid])), (a_kk_figures, .inl (cJ, 8, .inr (.inl u_kk_figures))), (a_kk_pieces, .inl (cJ, 4, .inr (.inl u_kk_pieces))), (a_kk_mayMirror, .inl (cZ, 4, .inl u_kk_mayMirror))]) (va_A [(a_this, .inr (3, [.ref a_this_text, .ref a_this_now, .ref a_this_slots, .ref a_this_cover, .ref a_this_formsSeen])), (a_this_slots, .inl (cO, 2, .inr (.inr (.inr (.inr c_this_slots))))), (a_this_now, .inr (1, [.ref a_this_now_figures, .ref a_this_now_pieces, .ref a_this_now_mayMirror, .int c_this_now_laid])), (a_this_now_figures, .inl (cJ, 8, .inr (.inl c_this_now_figures))), (a_this_now_pieces, .inl (cJ, 4, .inr (.inl c_this_now_pieces))), (a_this_now_mayMirror, .inl (cZ, 4, .inl c_this_now_mayMirror))] sz)) 4 20 (va_A [(a_this, .inr (3, [.ref a_this_text, .ref a_this_now, .ref a_this_slots, .ref a_this_cover, .ref a_this_formsSeen])), (a_this_slots, .inl (cO, 2, .inr (.inr (.inr (.inr c_this_slots))))), (a_this_now, .inr (1, [.ref a_this_now_figures, .ref a_this_now_pieces, .ref a_this_now_mayMirror, .int c_this_now_laid])), (a_this_now_figures, .inl (cJ, 8, .inr (.inl c_this_now_figures))), (a_this_now_pieces, .inl (cJ, 4, .inr (.inl c_this_now_pieces))), (a_this_now_mayMirror, .inl (cZ, 4, .inl c_this_now_mayMirror))] sz) := by
  refine Met.ofW (cc := cX7_keep) (maxL := 2) (ret := (some .int)) (by decide) rfl ?_
  intro p e s m args below meth c s₁ B hml hv
  obtain ⟨rfl, hsz, hP, hK, hD0⟩ := hv
  have hx := B.exec
  have hb := B.bytes
  have hr := B.returns
  have hts := atoms_spec (ws := wsX7_keep) B.pre
  have hown : s.vm.findClass RX7 = some m.cls := findClass_of_methodNamed B.named
  have hlocks := B.notSynchronized
  have hN := hK.2
  subst hsz
  have hD := hD0.self (sz := s.heap.size)
  generalize hAe : va_A [(a_this, .inr (3, [.ref a_this_text, .ref a_this_now, .ref a_this_slots, .ref a_this_cover, .ref a_this_formsSeen])), (a_this_slots, .inl (cO, 2, .inr (.inr (.inr (.inr c_this_slots))))), (a_this_now, .inr (1, [.ref a_this_now_figures, .ref a_this_now_pieces, .ref a_this_now_mayMirror, .int c_this_now_laid])), (a_this_now_figures, .inl (cJ, 8, .inr (.inl c_this_now_figures))), (a_this_now_pieces, .inl (cJ, 4, .inr (.inl c_this_now_pieces))), (a_this_now_mayMirror, .inl (cZ, 4, .inl c_this_now_mayMirror))] s.heap.size = A at hD ⊢
  have hA : ∀ q : Nat, s.heap.size ≤ q → A q := fun q h => by rw [← hAe]; exact Or.inr h
  have hS : va_S A s.heap s.heap [] := va_S.rf
  have hl := lv_entry ([.ref a_this, .int x1]) (n := 2) (Nat.le_of_ble_eq_true rfl)
  rw [lg_entry_eq]
  generalize (lg_sl ([.ref a_this, .int x1]) ++ List.replicate (2 - (lg_sl ([.ref a_this, .int x1])).length) Slot.unset).toArray = ls at hl ⊢
  have hl : lv_has ls 2 [(0, .ref a_this), (1, .int x1)] := hl
  refine hk_Q (fun Q hQ => ?_)
  have h := hf
  unfold f_X7_keep_none at h
  refine lv_iload_n hx hb dX7_keep_0 rfl (lv_at hl 1 rfl) ?_
  refine lv_if_lt (tgt := 9) hx hb dX7_keep_1 (by decide) (fun c21 => ?_) (fun c21 => ?_)
  · replace h := hk_ip c21 h
    refine lv_iconst (v := (-1 : Int32)) hx hb dX7_keep_9 (by decide) ?_
    cases h
  replace h := hk_in c21 h
  refine lv_iload_n hx hb dX7_keep_4 rfl (lv_at hl 1 rfl) ?_
  refine lv_iconst (v := (2 : Int32)) hx hb dX7_keep_5 (by decide) ?_
  refine lv_icmp_lt (tgt := 11) hx hb dX7_keep_6 (by decide) (fun c22 => ?_) (fun c22 => ?_)
  · replace h := hk_ip c22 h
    refine lv_aload_n hx hb dX7_keep_11 rfl (lv_at hl 0 rfl) ?_
    refine va_get (D := D) (ci := 3) (v := .ref a_this_slots) (C := RX7) (T := TX7) (N := 5) hx hb hts zi_X7_keep_none_X7 hown hK.1 hP 0 rfl rfl 2 (by decide) (hts (.fieldLink RX7 23 "HalfAndHalfAgain" "slots" "[LHalfAndHalfAgain$Store;") (List.mem_of_getElem? (i := 1) rfl)) (fun _ h9 => h9) rfl dX7_keep_12 ?_
    refine lv_iload_n hx hb dX7_keep_15 rfl (lv_at hl 1 rfl) ?_
    obtain ⟨hi23, h⟩ := hk_ge h
    refine va_aldq hx hb hK.1 hP 1 3 rfl rfl (hk_inb_of hi23) dX7_keep_16 ?_
    rw [show c_this_slots x1.toNatClampNeg = none from hq]
    show W _ _ _ _ _ _ _ _ _ _ _ _ _ _ _ (F0 m 17 ls [.null])
    refine lv_ifnonnullN hx hb dX7_keep_17 ?_
    refine lv_aload_n hx hb dX7_keep_20 rfl (lv_at hl 0 rfl) ?_
    refine va_get (D := D) (ci := 3) (v := .ref a_this_slots) (C := RX7) (T := TX7) (N := 5) hx hb hts zi_X7_keep_none_X7 hown hK.1 hP 0 rfl rfl 2 (by decide) (hts (.fieldLink RX7 23 "HalfAndHalfAgain" "slots" "[LHalfAndHalfAgain$Store;") (List.mem_of_getElem? (i := 1) rfl)) (fun _ h9 => h9) rfl dX7_keep_21 ?_
    refine lv_iload_n hx hb dX7_keep_24 rfl (lv_at hl 1 rfl) ?_
    refine va_new (ci := 1) (fs := [.null, .null, .null, .int 0]) (C := RX5) (T := TX5) (N := 4) hx hb hts zi_X7_keep_none_X5 tyX5 tyX5_ok hown (hts (.classLink RX7 16 RX5) (List.mem_of_getElem? (i := 2) rfl)) (hts (.instantiable RX5 4) (List.mem_of_getElem? (i := 3) rfl)) (hts (.initialized RX5) (List.mem_of_getElem? (i := 4) rfl)) hK.1 hP hD hS hA rfl (fun j hj => by rcases (show j = 0 ∨ j = 1 ∨ j = 2 ∨ j = 3 by omega) with rfl | rfl | rfl | rfl <;> rfl) (Nat.le_of_ble_eq_true rfl) (Nat.le_of_ble_eq_true rfl) dX7_keep_25 (fun a_kk H hP hD hS => ?_)
    have hP : va_P D vwCl [(a_this, .inr (3, [.ref a_this_text, .ref a_this_now, .ref a_this_slots, .ref a_this_cover, .ref a_this_formsSeen])), (a_this_slots, .inl (cO, 2, .inr (.inr (.inr (.inr c_this_slots))))), (a_this_now, .inr (1, [.ref a_this_now_figures, .ref a_this_now_pieces, .ref a_this_now_mayMirror, .int c_this_now_laid])), (a_this_now_figures, .inl (cJ, 8, .inr (.inl c_this_now_figures))), (a_this_now_pieces, .inl (cJ, 4, .inr (.inl c_this_now_pieces))), (a_this_now_mayMirror, .inl (cZ, 4, .inl c_this_now_mayMirror)), (a_kk, .inr (1, [.null, .null, .null, .int (0 : Int32)]))] H := hP
    have hD : va_D A [(a_this, .inr (3, [.ref a_this_text, .ref a_this_now, .ref a_this_slots, .ref a_this_cover, .ref a_this_formsSeen])), (a_this_slots, .inl (cO, 2, .inr (.inr (.inr (.inr c_this_slots))))), (a_this_now, .inr (1, [.ref a_this_now_figures, .ref a_this_now_pieces, .ref a_this_now_mayMirror, .int c_this_now_laid])), (a_this_now_figures, .inl (cJ, 8, .inr (.inl c_this_now_figures))), (a_this_now_pieces, .inl (cJ, 4, .inr (.inl c_this_now_pieces))), (a_this_now_mayMirror, .inl (cZ, 4, .inl c_this_now_mayMirror)), (a_kk, .inr (1, [.null, .null, .null, .int (0 : Int32)]))] := hD
    refine W.widen (k := 1) (n := 4) (Nat.le_of_ble_eq_true rfl) (Nat.le_of_ble_eq_true rfl) ?_
    refine lv_dup hx hb dX7_keep_28 rfl ?_
    have hPc := hP.sub (ws' := [(a_kk, .inr (1, [.null, .null, .null, .int (0 : Int32)]))]) [6] rfl
    have hDc := hD.sub (ws' := [(a_kk, .inr (1, [.null, .null, .null, .int (0 : Int32)]))]) [6] (by decide) rfl
    have hFc := va_free (wc := [(a_kk, .inr (1, [.null, .null, .null, .int (0 : Int32)]))]) hD hS hA [6] rfl
    refine va_callv (va_runIN (As := []) (rest := [.ref a_kk, .int x1, .ref a_this_slots]) ⟨hx, hb, hml, hown, hts⟩ (c_X5_init l D cI cJ cZ cO a_kk H.size) ⟨va_cnB 0 hts ggX7_keep_X5_init rfl rfl rfl hN.2.1 (hts (.initialized RX5) (List.mem_of_getElem? (i := 4) rfl)) zc_X5_init ⟨Nat.le_of_ble_eq_true rfl, Nat.le_of_ble_eq_true rfl⟩, rfl, (hts (.instanceMethod yX5_init) (List.mem_of_getElem? (i := 6) rfl))⟩ (hk_preM hPc hDc hK) rfl rfl hl.1 rfl (lv_room (Nat.le_of_ble_eq_true rfl)) dX7_keep_29 ⟨Nat.le_of_ble_eq_true rfl, Nat.le_of_ble_eq_true rfl⟩) hS (fun q _ h9 => hFc q h9) hFc (fun u9 t9 H1 locs ht hvm hw hB hz1 hk1 hS => ?_)
    obtain ⟨a_kk_figures, a_kk_pieces, a_kk_mayMirror, hP1, hD1⟩ := hB
    rw [ht] at hP1
    obtain ⟨hP, hD⟩ := va_join (wr := [(a_this, .inr (3, [.ref a_this_text, .ref a_this_now, .ref a_this_slots, .ref a_this_cover, .ref a_this_formsSeen])), (a_this_slots, .inl (cO, 2, .inr (.inr (.inr (.inr c_this_slots))))), (a_this_now, .inr (1, [.ref a_this_now_figures, .ref a_this_now_pieces, .ref a_this_now_mayMirror, .int c_this_now_laid])), (a_this_now_figures, .inl (cJ, 8, .inr (.inl c_this_now_figures))), (a_this_now_pieces, .inl (cJ, 4, .inr (.inl c_this_now_pieces))), (a_this_now_mayMirror, .inl (cZ, 4, .inl c_this_now_mayMirror))]) (w1 := [(a_kk, .inr (1, [.ref a_kk_figures, .ref a_kk_pieces, .ref a_kk_mayMirror, .int (0 : Int32)])), (a_kk_figures, .inl (cJ, 8, .inr (.inl (fun _ => 0)))), (a_kk_pieces, .inl (cJ, 4, .inr (.inl (fun _ => 0)))), (a_kk_mayMirror, .inl (cZ, 4, .inl (fun _ => 0)))]) hP hD [6] [0, 1, 2, 3, 4, 5] rfl rfl (by decide) (by decide) hk1 hFc hP1 hD1
    generalize H1 = H at hP hS ⊢
    have hP : va_P D vwCl [(a_this, .inr (3, [.ref a_this_text, .ref a_this_now, .ref a_this_slots, .ref a_this_cover, .ref a_this_formsSeen])), (a_this_slots, .inl (cO, 2, .inr (.inr (.inr (.inr c_this_slots))))), (a_this_now, .inr (1, [.ref a_this_now_figures, .ref a_this_now_pieces, .ref a_this_now_mayMirror, .int c_this_now_laid])), (a_this_now_figures, .inl (cJ, 8, .inr (.inl c_this_now_figures))), (a_this_now_pieces, .inl (cJ, 4, .inr (.inl c_this_now_pieces))), (a_this_now_mayMirror, .inl (cZ, 4, .inl c_this_now_mayMirror)), (a_kk, .inr (1, [.ref a_kk_figures, .ref a_kk_pieces, .ref a_kk_mayMirror, .int (0 : Int32)])), (a_kk_figures, .inl (cJ, 8, .inr (.inl (fun _ => 0)))), (a_kk_pieces, .inl (cJ, 4, .inr (.inl (fun _ => 0)))), (a_kk_mayMirror, .inl (cZ, 4, .inl (fun _ => 0)))] H := hP
    have hD : va_D A [(a_this, .inr (3, [.ref a_this_text, .ref a_this_now, .ref a_this_slots, .ref a_this_cover, .ref a_this_formsSeen])), (a_this_slots, .inl (cO, 2, .inr (.inr (.inr (.inr c_this_slots))))), (a_this_now, .inr (1, [.ref a_this_now_figures, .ref a_this_now_pieces, .ref a_this_now_mayMirror, .int c_this_now_laid])), (a_this_now_figures, .inl (cJ, 8, .inr (.inl c_this_now_figures))), (a_this_now_pieces, .inl (cJ, 4, .inr (.inl c_this_now_pieces))), (a_this_now_mayMirror, .inl (cZ, 4, .inl c_this_now_mayMirror)), (a_kk, .inr (1, [.ref a_kk_figures, .ref a_kk_pieces, .ref a_kk_mayMirror, .int (0 : Int32)])), (a_kk_figures, .inl (cJ, 8, .inr (.inl (fun _ => 0)))), (a_kk_pieces, .inl (cJ, 4, .inr (.inl (fun _ => 0)))), (a_kk_mayMirror, .inl (cZ, 4, .inl (fun _ => 0)))] := hD
    refine W.widen (k := 4) (n := 20) (Nat.le_of_ble_eq_true rfl) (Nat.le_of_ble_eq_true rfl) ?_
    refine va_astq hx hb hK.1 hP hD hS 1 3 6 1 rfl rfl rfl rfl (hk_inb_of hi23) dX7_keep_32 (fun H locs hP hD hS => ?_)
    have hP : va_P D vwCl [(a_this, .inr (3, [.ref a_this_text, .ref a_this_now, .ref a_this_slots, .ref a_this_cover, .ref a_this_formsSeen])), (a_this_slots, .inl (cO, 2, .inr (.inr (.inr (.inr (va_up c_this_slots x1.toNatClampNeg (some a_kk))))))), (a_this_now, .inr (1, [.ref a_this_now_figures, .ref a_this_now_pieces, .ref a_this_now_mayMirror, .int c_this_now_laid])), (a_this_now_figures, .inl (cJ, 8, .inr (.inl c_this_now_figures))), (a_this_now_pieces, .inl (cJ, 4, .inr (.inl c_this_now_pieces))), (a_this_now_mayMirror, .inl (cZ, 4, .inl c_this_now_mayMirror)), (a_kk, .inr (1, [.ref a_kk_figures, .ref a_kk_pieces, .ref a_kk_mayMirror, .int (0 : Int32)])), (a_kk_figures, .inl (cJ, 8, .inr (.inl (fun _ => 0)))), (a_kk_pieces, .inl (cJ, 4, .inr (.inl (fun _ => 0)))), (a_kk_mayMirror, .inl (cZ, 4, .inl (fun _ => 0)))] H := hP
    have hD : va_D A [(a_this, .inr (3, [.ref a_this_text, .ref a_this_now, .ref a_this_slots, .ref a_this_cover, .ref a_this_formsSeen])), (a_this_slots, .inl (cO, 2, .inr (.inr (.inr (.inr (va_up c_this_slots x1.toNatClampNeg (some a_kk))))))), (a_this_now, .inr (1, [.ref a_this_now_figures, .ref a_this_now_pieces, .ref a_this_now_mayMirror, .int c_this_now_laid])), (a_this_now_figures, .inl (cJ, 8, .inr (.inl c_this_now_figures))), (a_this_now_pieces, .inl (cJ, 4, .inr (.inl c_this_now_pieces))), (a_this_now_mayMirror, .inl (cZ, 4, .inl c_this_now_mayMirror)), (a_kk, .inr (1, [.ref a_kk_figures, .ref a_kk_pieces, .ref a_kk_mayMirror, .int (0 : Int32)])), (a_kk_figures, .inl (cJ, 8, .inr (.inl (fun _ => 0)))), (a_kk_pieces, .inl (cJ, 4, .inr (.inl (fun _ => 0)))), (a_kk_mayMirror, .inl (cZ, 4, .inl (fun _ => 0)))] := hD
    refine lv_aload_n hx hb dX7_keep_33 rfl (lv_at hl 0 rfl) ?_
    refine va_get (D := D) (ci := 3) (v := .ref a_this_slots) (C := RX7) (T := TX7) (N := 5) hx hb hts zi_X7_keep_none_X7 hown hK.1 hP 0 rfl rfl 2 (by decide) (hts (.fieldLink RX7 23 "HalfAndHalfAgain" "slots" "[LHalfAndHalfAgain$Store;") (List.mem_of_getElem? (i := 1) rfl)) (fun _ h9 => h9) rfl dX7_keep_34 ?_
    refine lv_iload_n hx hb dX7_keep_37 rfl (lv_at hl 1 rfl) ?_
    obtain ⟨hi24, h⟩ := hk_ge h
    refine va_aldq hx hb hK.1 hP 1 3 rfl rfl (hk_inb_of hi24) dX7_keep_38 ?_
    rw [show (va_up c_this_slots x1.toNatClampNeg (some a_kk)) x1.toNatClampNeg = some a_kk from if_pos rfl]
    show W _ _ _ _ _ _ _ _ _ _ _ _ _ _ _ (F0 m 39 ls [.ref a_kk])
    refine lv_aload_n hx hb dX7_keep_39 rfl (lv_at hl 0 rfl) ?_
    refine va_get (D := D) (ci := 3) (v := .ref a_this_now) (C := RX7) (T := TX7) (N := 5) hx hb hts zi_X7_keep_none_X7 hown hK.1 hP 0 rfl rfl 1 (by decide) (hts (.fieldLink RX7 19 "HalfAndHalfAgain" "now" "LHalfAndHalfAgain$Store;") (List.mem_of_getElem? (i := 5) rfl)) (fun _ h9 => h9) rfl dX7_keep_40 ?_
    obtain ⟨u25, u26, u27, u28, hr29, h⟩ := hk_x4 h
    have hPc := hP.sub (ws' := [(a_kk, .inr (1, [.ref a_kk_figures, .ref a_kk_pieces, .ref a_kk_mayMirror, .int (0 : Int32)])), (a_this_now, .inr (1, [.ref a_this_now_figures, .ref a_this_now_pieces, .ref a_this_now_mayMirror, .int c_this_now_laid])), (a_kk_figures, .inl (cJ, 8, .inr (.inl (fun _ => 0)))), (a_this_now_figures, .inl (cJ, 8, .inr (.inl c_this_now_figures))), (a_kk_pieces, .inl (cJ, 4, .inr (.inl (fun _ => 0)))), (a_this_now_pieces, .inl (cJ, 4, .inr (.inl c_this_now_pieces))), (a_kk_mayMirror, .inl (cZ, 4, .inl (fun _ => 0))), (a_this_now_mayMirror, .inl (cZ, 4, .inl c_this_now_mayMirror))]) [6, 2, 7, 3, 8, 4, 9, 5] rfl
    have hDc := hD.sub (ws' := [(a_kk, .inr (1, [.ref a_kk_figures, .ref a_kk_pieces, .ref a_kk_mayMirror, .int (0 : Int32)])), (a_this_now, .inr (1, [.ref a_this_now_figures, .ref a_this_now_pieces, .ref a_this_now_mayMirror, .int c_this_now_laid])), (a_kk_figures, .inl (cJ, 8, .inr (.inl (fun _ => 0)))), (a_this_now_figures, .inl (cJ, 8, .inr (.inl c_this_now_figures))), (a_kk_pieces, .inl (cJ, 4, .inr (.inl (fun _ => 0)))), (a_this_now_pieces, .inl (cJ, 4, .inr (.inl c_this_now_pieces))), (a_kk_mayMirror, .inl (cZ, 4, .inl (fun _ => 0))), (a_this_now_mayMirror, .inl (cZ, 4, .inl c_this_now_mayMirror))]) [6, 2, 7, 3, 8, 4, 9, 5] (by decide) rfl
    have hFc := va_free (wc := [(a_kk, .inr (1, [.ref a_kk_figures, .ref a_kk_pieces, .ref a_kk_mayMirror, .int (0 : Int32)])), (a_this_now, .inr (1, [.ref a_this_now_figures, .ref a_this_now_pieces, .ref a_this_now_mayMirror, .int c_this_now_laid])), (a_kk_figures, .inl (cJ, 8, .inr (.inl (fun _ => 0)))), (a_this_now_figures, .inl (cJ, 8, .inr (.inl c_this_now_figures))), (a_kk_pieces, .inl (cJ, 4, .inr (.inl (fun _ => 0)))), (a_this_now_pieces, .inl (cJ, 4, .inr (.inl c_this_now_pieces))), (a_kk_mayMirror, .inl (cZ, 4, .inl (fun _ => 0))), (a_this_now_mayMirror, .inl (cZ, 4, .inl c_this_now_mayMirror))]) hD hS hA [6, 2, 7, 3, 8, 4, 9, 5] rfl
    refine va_callv (va_runV (As := [.ref a_this_now]) (rest := []) ⟨hx, hb, hml, hown, hts⟩ (c_X5_copyFrom l D cI cJ cZ cO a_kk a_kk_figures a_kk_pieces a_kk_mayMirror a_this_now a_this_now_figures a_this_now_pieces a_this_now_mayMirror H.size (0 : Int32) c_this_now_laid (fun _ => 0) c_this_now_figures (fun _ => 0) c_this_now_pieces (fun _ => 0) c_this_now_mayMirror _ _ _ _ hr29) (cwV 1 hts gX7_keep_X5_copyFrom rfl rfl rfl zv_X5_copyFrom ⟨Nat.le_of_ble_eq_true rfl, Nat.le_of_ble_eq_true rfl⟩) (hk_preMV 1 rfl hPc hDc hK rfl) rfl rfl hl.1 rfl (lv_room (Nat.le_of_ble_eq_true rfl)) dX7_keep_43 ⟨Nat.le_of_ble_eq_true rfl, Nat.le_of_ble_eq_true rfl⟩) hS (fun q _ h9 => hFc q h9) hFc (fun u9 t9 H1 locs ht hvm hw hB hz1 hk1 hS => ?_)
    obtain ⟨hP1, hD1⟩ := hB
    rw [ht] at hP1
    obtain ⟨hP, hD⟩ := va_join (wr := [(a_this, .inr (3, [.ref a_this_text, .ref a_this_now, .ref a_this_slots, .ref a_this_cover, .ref a_this_formsSeen])), (a_this_slots, .inl (cO, 2, .inr (.inr (.inr (.inr (va_up c_this_slots x1.toNatClampNeg (some a_kk)))))))]) (w1 := [(a_kk, .inr (1, [.ref a_kk_figures, .ref a_kk_pieces, .ref a_kk_mayMirror, .int u25])), (a_this_now, .inr (1, [.ref a_this_now_figures, .ref a_this_now_pieces, .ref a_this_now_mayMirror, .int c_this_now_laid])), (a_kk_figures, .inl (cJ, 8, .inr (.inl u26))), (a_this_now_figures, .inl (cJ, 8, .inr (.inl c_this_now_figures))), (a_kk_pieces, .inl (cJ, 4, .inr (.inl u27))), (a_this_now_pieces, .inl (cJ, 4, .inr (.inl c_this_now_pieces))), (a_kk_mayMirror, .inl (cZ, 4, .inl u28)), (a_this_now_mayMirror, .inl (cZ, 4, .inl c_this_now_mayMirror))]) hP hD [6, 2, 7, 3, 8, 4, 9, 5] [0, 1] rfl rfl (by decide) (by decide) hk1 hFc hP1 hD1
    generalize H1 = H at hP hS ⊢
    have hP := hP.sub (ws' := [(a_this, .inr (3, [.ref a_this_text, .ref a_this_now, .ref a_this_slots, .ref a_this_cover, .ref a_this_formsSeen])), (a_this_slots, .inl (cO, 2, .inr (.inr (.inr (.inr (va_up c_this_slots x1.toNatClampNeg (some a_kk))))))), (a_this_now, .inr (1, [.ref a_this_now_figures, .ref a_this_now_pieces, .ref a_this_now_mayMirror, .int c_this_now_laid])), (a_this_now_figures, .inl (cJ, 8, .inr (.inl c_this_now_figures))), (a_this_now_pieces, .inl (cJ, 4, .inr (.inl c_this_now_pieces))), (a_this_now_mayMirror, .inl (cZ, 4, .inl c_this_now_mayMirror)), (a_kk, .inr (1, [.ref a_kk_figures, .ref a_kk_pieces, .ref a_kk_mayMirror, .int u25])), (a_kk_figures, .inl (cJ, 8, .inr (.inl u26))), (a_kk_pieces, .inl (cJ, 4, .inr (.inl u27))), (a_kk_mayMirror, .inl (cZ, 4, .inl u28))]) [0, 1, 3, 5, 7, 9, 2, 4, 6, 8] rfl
    have hD := hD.sub (ws' := [(a_this, .inr (3, [.ref a_this_text, .ref a_this_now, .ref a_this_slots, .ref a_this_cover, .ref a_this_formsSeen])), (a_this_slots, .inl (cO, 2, .inr (.inr (.inr (.inr (va_up c_this_slots x1.toNatClampNeg (some a_kk))))))), (a_this_now, .inr (1, [.ref a_this_now_figures, .ref a_this_now_pieces, .ref a_this_now_mayMirror, .int c_this_now_laid])), (a_this_now_figures, .inl (cJ, 8, .inr (.inl c_this_now_figures))), (a_this_now_pieces, .inl (cJ, 4, .inr (.inl c_this_now_pieces))), (a_this_now_mayMirror, .inl (cZ, 4, .inl c_this_now_mayMirror)), (a_kk, .inr (1, [.ref a_kk_figures, .ref a_kk_pieces, .ref a_kk_mayMirror, .int u25])), (a_kk_figures, .inl (cJ, 8, .inr (.inl u26))), (a_kk_pieces, .inl (cJ, 4, .inr (.inl u27))), (a_kk_mayMirror, .inl (cZ, 4, .inl u28))]) [0, 1, 3, 5, 7, 9, 2, 4, 6, 8] (by decide) rfl
    refine lv_aload_n hx hb dX7_keep_46 rfl (lv_at hl 0 rfl) ?_
    refine va_get (D := D) (ci := 3) (v := .ref a_this_now) (C := RX7) (T := TX7) (N := 5) hx hb hts zi_X7_keep_none_X7 hown hK.1 hP 0 rfl rfl 1 (by decide) (hts (.fieldLink RX7 19 "HalfAndHalfAgain" "now" "LHalfAndHalfAgain$Store;") (List.mem_of_getElem? (i := 5) rfl)) (fun _ h9 => h9) rfl dX7_keep_47 ?_
    obtain ⟨r31, hr32, h⟩ := hk_x1 h
    refine vp_callSi (W.runV (As := []) (rest := []) ⟨hx, hb, hml, hown, hts⟩ (c_X5_countFilled l D cI cJ cZ cO a_this_now a_this_now_figures a_this_now_pieces a_this_now_mayMirror c_this_now_laid c_this_now_figures _ hr32) (cwV 0 hts gX7_keep_X5_countFilled rfl rfl rfl zv_X5_countFilled ⟨Nat.le_of_ble_eq_true rfl, Nat.le_of_ble_eq_true rfl⟩) (hk_preRV 1 rfl (hP.sub (ws' := [(a_this_now, .inr (1, [.ref a_this_now_figures, .ref a_this_now_pieces, .ref a_this_now_mayMirror, .int c_this_now_laid])), (a_this_now_figures, .inl (cJ, 8, .inr (.inl c_this_now_figures)))]) [2, 3] rfl) hK rfl) rfl rfl hl.1 rfl (lv_room (Nat.le_of_ble_eq_true rfl)) dX7_keep_50 ⟨Nat.le_of_ble_eq_true rfl, Nat.le_of_ble_eq_true rfl⟩) (fun p34 e33 => ?_)
    rw [e33]
    subst hQ
    have h := Option.some.inj h
    simp only [Prod.mk.injEq] at h
    obtain ⟨rfl, rfl, rfl, rfl, rfl⟩ := h
    exact W.iret hx hb hr (fun t ht hW => ⟨⟨_, (), rfl, rfl, a_kk, a_kk_figures, a_kk_pieces, a_kk_mayMirror, by rw [ht]; exact hP, hD⟩, hS.F ht⟩) hS.2.2 dX7_keep_53
  replace h := hk_in c22 h
  refine lv_iconst (v := (-1 : Int32)) hx hb dX7_keep_9 (by decide) ?_
  cases h
def f_X7_keep_some (c_this_now_laid : Int32) (c_kk_laid : Int32) (c_this_now_figures : Nat → Int64) (c_this_now_pieces : Nat → Int64) (c_this_now_mayMirror : Nat → Int32) (c_kk_figures : Nat → Int64) (c_kk_pieces : Nat → Int64) (c_kk_mayMirror : Nat → Int32) (x1 : Int32) : Option (Int32 × Int32 × (Nat → Int64) × (Nat → Int64) × (Nat → Int32)) := if x1 < 0 then (none) else (if x1 < (2 : Int32) then (hk_gd (hk_inb x1 2) (hk_gd (hk_inb x1 2) (hk_b4 (f_X5_copyFrom c_kk_laid c_this_now_laid c_kk_figures c_this_now_figures c_kk_pieces c_this_now_pieces c_kk_mayMirror c_this_now_mayMirror) fun u25 u26 u27 u28 => hk_b1 (f_X5_countFilled c_this_now_figures) fun r31 => some (r31, u25, u26, u27, u28)))) else (none))
theorem zi_X7_keep_some_X7 : ∀ w ∈ u_ws RX7 TX7 5, w ∈ wsX7_keep := by decide +kernel
set_option maxHeartbeats 8000000 in
set_option maxRecDepth 100000 in
theorem c_X7_keep_some (l : Launch) (D : va_G) (cI cJ cZ cO : ClassId) (a_this a_this_text a_this_now a_this_slots a_this_cover a_this_formsSeen a_this_now_figures a_this_now_pieces a_this_now_mayMirror a_kk a_kk_figures a_kk_pieces a_kk_mayMirror : Nat) (sz : Nat) (c_this_now_laid : Int32) (c_kk_laid : Int32) (c_this_slots : Nat → Option Nat) (c_this_now_figures : Nat → Int64) (c_this_now_pieces : Nat → Int64) (c_this_now_mayMirror : Nat → Int32) (c_kk_figures : Nat → Int64) (c_kk_pieces : Nat → Int64) (c_kk_mayMirror : Nat → Int32) (x1 : Int32) (rv : Int32) (u_kk_laid : Int32) (u_kk_figures : Nat → Int64) (u_kk_pieces : Nat → Int64) (u_kk_mayMirror : Nat → Int32) (hq : c_this_slots x1.toNatClampNeg = some a_kk) (hf : f_X7_keep_some c_this_now_laid c_kk_laid c_this_now_figures c_this_now_pieces c_this_now_mayMirror c_kk_figures c_kk_pieces c_kk_mayMirror x1 = some (rv, u_kk_laid, u_kk_figures, u_kk_pieces, u_kk_mayMirror)) : Met l yX7_keep wsX7_keep ({ frames := 2, cells := 0, slots := 0, locals := 32 }) (va_Pc [.ref a_this, .int x1] (hkM D cI cJ cZ cO [(a_this, .inr (3, [.ref a_this_text, .ref a_this_now, .ref a_this_slots, .ref a_this_cover, .ref a_this_formsSeen])), (a_this_slots, .inl (cO, 2, .inr (.inr (.inr (.inr c_this_slots))))), (a_this_now, .inr (1, [.ref a_this_now_figures, .ref a_this_now_pieces, .ref a_this_now_mayMirror, .int c_this_now_laid])), (a_this_now_figures, .inl (cJ, 8, .inr (.inl c_this_now_figures))), (a_this_now_pieces, .inl (cJ, 4, .inr (.inl c_this_now_pieces))), (a_this_now_mayMirror, .inl (cZ, 4, .inl c_this_now_mayMirror)), (a_kk, .inr (1, [.ref a_kk_figures, .ref a_kk_pieces, .ref a_kk_mayMirror, .int c_kk_laid])), (a_kk_figures, .inl (cJ, 8, .inr (.inl c_kk_figures))), (a_kk_pieces, .inl (cJ, 4, .inr (.inl c_kk_pieces))), (a_kk_mayMirror, .inl (cZ, 4, .inl c_kk_mayMirror))] sz)) (va_Qi (fun r (_ : Unit) => r = rv) (fun _ t => va_P D vwCl [(a_this, .inr (3, [.ref a_this_text, .ref a_this_now, .ref a_this_slots, .ref a_this_cover, .ref a_this_formsSeen])), (a_this_slots, .inl (cO, 2, .inr (.inr (.inr (.inr c_this_slots))))), (a_this_now, .inr (1, [.ref a_this_now_figures, .ref a_this_now_pieces, .ref a_this_now_mayMirror, .int c_this_now_laid])), (a_this_now_figures, .inl (cJ, 8, .inr (.inl c_this_now_figures))), (a_this_now_pieces, .inl (cJ, 4, .inr (.inl c_this_now_pieces))), (a_this_now_mayMirror, .inl (cZ, 4, .inl c_this_now_mayMirror)), (a_kk, .inr (1, [.ref a_kk_figures, .ref a_kk_pieces, .ref a_kk_mayMirror, .int u_kk_laid])), (a_kk_figures, .inl (cJ, 8, .inr (.inl u_kk_figures))), (a_kk_pieces, .inl (cJ, 4, .inr (.inl u_kk_pieces))), (a_kk_mayMirror, .inl (cZ, 4, .inl u_kk_mayMirror))] t.heap ∧ va_D (va_A [(a_this, .inr (3, [.ref a_this_text, .ref a_this_now, .ref a_this_slots, .ref a_this_cover, .ref a_this_formsSeen])), (a_this_slots, .inl (cO, 2, .inr (.inr (.inr (.inr c_this_slots))))), (a_this_now, .inr (1, [.ref a_this_now_figures, .ref a_this_now_pieces, .ref a_this_now_mayMirror, .int c_this_now_laid])), (a_this_now_figures, .inl (cJ, 8, .inr (.inl c_this_now_figures))), (a_this_now_pieces, .inl (cJ, 4, .inr (.inl c_this_now_pieces))), (a_this_now_mayMirror, .inl (cZ, 4, .inl c_this_now_mayMirror)), (a_kk, .inr (1, [.ref a_kk_figures, .ref a_kk_pieces, .ref a_kk_mayMirror, .int c_kk_laid])), (a_kk_figures, .inl (cJ, 8, .inr (.inl c_kk_figures))), (a_kk_pieces, .inl (cJ, 4, .inr (.inl c_kk_pieces))), (a_kk_mayMirror, .inl (cZ, 4, .inl c_kk_mayMirror))] sz) [(a_this, .inr (3, [.ref a_this_text, .ref a_this_now, .ref a_this_slots, .ref a_this_cover, .ref a_this_formsSeen])), (a_this_slots, .inl (cO, 2, .inr (.inr (.inr (.inr c_this_slots))))), (a_this_now, .inr (1, [.ref a_this_now_figures, .ref a_this_now_pieces, .ref a_this_now_mayMirror, .int c_this_now_laid])), (a_this_now_figures, .inl (cJ, 8, .inr (.inl c_this_now_figures))), (a_this_now_pieces, .inl (cJ, 4, .inr (.inl c_this_now_pieces))), (a_this_now_mayMirror, .inl (cZ, 4, .inl c_this_now_mayMirror)), (a_kk, .inr (1, [.ref a_kk_figures, .ref a_kk_pieces, .ref a_kk_mayMirror, .int u_kk_laid])), (a_kk_figures, .inl (cJ, 8, .inr (.inl u_kk_figures))), (a_kk_pieces, .inl (cJ, 4, .inr (.inl u_kk_pieces))), (a_kk_mayMirror, .inl (cZ, 4, .inl u_kk_mayMirror))]) (va_A [(a_this, .inr (3, [.ref a_this_text, .ref a_this_now, .ref a_this_slots, .ref a_this_cover, .ref a_this_formsSeen])), (a_this_slots, .inl (cO, 2, .inr (.inr (.inr (.inr c_this_slots))))), (a_this_now, .inr (1, [.ref a_this_now_figures, .ref a_this_now_pieces, .ref a_this_now_mayMirror, .int c_this_now_laid])), (a_this_now_figures, .inl (cJ, 8, .inr (.inl c_this_now_figures))), (a_this_now_pieces, .inl (cJ, 4, .inr (.inl c_this_now_pieces))), (a_this_now_mayMirror, .inl (cZ, 4, .inl c_this_now_mayMirror)), (a_kk, .inr (1, [.ref a_kk_figures, .ref a_kk_pieces, .ref a_kk_mayMirror, .int c_kk_laid])), (a_kk_figures, .inl (cJ, 8, .inr (.inl c_kk_figures))), (a_kk_pieces, .inl (cJ, 4, .inr (.inl c_kk_pieces))), (a_kk_mayMirror, .inl (cZ, 4, .inl c_kk_mayMirror))] sz)) 0 0 (va_A [(a_this, .inr (3, [.ref a_this_text, .ref a_this_now, .ref a_this_slots, .ref a_this_cover, .ref a_this_formsSeen])), (a_this_slots, .inl (cO, 2, .inr (.inr (.inr (.inr c_this_slots))))), (a_this_now, .inr (1, [.ref a_this_now_figures, .ref a_this_now_pieces, .ref a_this_now_mayMirror, .int c_this_now_laid])), (a_this_now_figures, .inl (cJ, 8, .inr (.inl c_this_now_figures))), (a_this_now_pieces, .inl (cJ, 4, .inr (.inl c_this_now_pieces))), (a_this_now_mayMirror, .inl (cZ, 4, .inl c_this_now_mayMirror)), (a_kk, .inr (1, [.ref a_kk_figures, .ref a_kk_pieces, .ref a_kk_mayMirror, .int c_kk_laid])), (a_kk_figures, .inl (cJ, 8, .inr (.inl c_kk_figures))), (a_kk_pieces, .inl (cJ, 4, .inr (.inl c_kk_pieces))), (a_kk_mayMirror, .inl (cZ, 4, .inl c_kk_mayMirror))] sz) := by
  refine Met.ofW (cc := cX7_keep) (maxL := 2) (ret := (some .int)) (by decide) rfl ?_
  intro p e s m args below meth c s₁ B hml hv
  obtain ⟨rfl, hsz, hP, hK, hD0⟩ := hv
  have hx := B.exec
  have hb := B.bytes
  have hr := B.returns
  have hts := atoms_spec (ws := wsX7_keep) B.pre
  have hown : s.vm.findClass RX7 = some m.cls := findClass_of_methodNamed B.named
  have hlocks := B.notSynchronized
  have hN := hK.2
  subst hsz
  have hD := hD0.self (sz := s.heap.size)
  generalize hAe : va_A [(a_this, .inr (3, [.ref a_this_text, .ref a_this_now, .ref a_this_slots, .ref a_this_cover, .ref a_this_formsSeen])), (a_this_slots, .inl (cO, 2, .inr (.inr (.inr (.inr c_this_slots))))), (a_this_now, .inr (1, [.ref a_this_now_figures, .ref a_this_now_pieces, .ref a_this_now_mayMirror, .int c_this_now_laid])), (a_this_now_figures, .inl (cJ, 8, .inr (.inl c_this_now_figures))), (a_this_now_pieces, .inl (cJ, 4, .inr (.inl c_this_now_pieces))), (a_this_now_mayMirror, .inl (cZ, 4, .inl c_this_now_mayMirror)), (a_kk, .inr (1, [.ref a_kk_figures, .ref a_kk_pieces, .ref a_kk_mayMirror, .int c_kk_laid])), (a_kk_figures, .inl (cJ, 8, .inr (.inl c_kk_figures))), (a_kk_pieces, .inl (cJ, 4, .inr (.inl c_kk_pieces))), (a_kk_mayMirror, .inl (cZ, 4, .inl c_kk_mayMirror))] s.heap.size = A at hD ⊢
  have hA : ∀ q : Nat, s.heap.size ≤ q → A q := fun q h => by rw [← hAe]; exact Or.inr h
  have hS : va_S A s.heap s.heap [] := va_S.rf
  have hl := lv_entry ([.ref a_this, .int x1]) (n := 2) (Nat.le_of_ble_eq_true rfl)
  rw [lg_entry_eq]
  generalize (lg_sl ([.ref a_this, .int x1]) ++ List.replicate (2 - (lg_sl ([.ref a_this, .int x1])).length) Slot.unset).toArray = ls at hl ⊢
  have hl : lv_has ls 2 [(0, .ref a_this), (1, .int x1)] := hl
  refine hk_Q (fun Q hQ => ?_)
  have h := hf
  unfold f_X7_keep_some at h
  refine lv_iload_n hx hb dX7_keep_0 rfl (lv_at hl 1 rfl) ?_
  refine lv_if_lt (tgt := 9) hx hb dX7_keep_1 (by decide) (fun c21 => ?_) (fun c21 => ?_)
  · replace h := hk_ip c21 h
    refine lv_iconst (v := (-1 : Int32)) hx hb dX7_keep_9 (by decide) ?_
    cases h
  replace h := hk_in c21 h
  refine lv_iload_n hx hb dX7_keep_4 rfl (lv_at hl 1 rfl) ?_
  refine lv_iconst (v := (2 : Int32)) hx hb dX7_keep_5 (by decide) ?_
  refine lv_icmp_lt (tgt := 11) hx hb dX7_keep_6 (by decide) (fun c22 => ?_) (fun c22 => ?_)
  · replace h := hk_ip c22 h
    refine lv_aload_n hx hb dX7_keep_11 rfl (lv_at hl 0 rfl) ?_
    refine va_get (D := D) (ci := 3) (v := .ref a_this_slots) (C := RX7) (T := TX7) (N := 5) hx hb hts zi_X7_keep_some_X7 hown hK.1 hP 0 rfl rfl 2 (by decide) (hts (.fieldLink RX7 23 "HalfAndHalfAgain" "slots" "[LHalfAndHalfAgain$Store;") (List.mem_of_getElem? (i := 1) rfl)) (fun _ h9 => h9) rfl dX7_keep_12 ?_
    refine lv_iload_n hx hb dX7_keep_15 rfl (lv_at hl 1 rfl) ?_
    obtain ⟨hi23, h⟩ := hk_ge h
    refine va_aldq hx hb hK.1 hP 1 3 rfl rfl (hk_inb_of hi23) dX7_keep_16 ?_
    rw [show c_this_slots x1.toNatClampNeg = some a_kk from hq]
    show W _ _ _ _ _ _ _ _ _ _ _ _ _ _ _ (F0 m 17 ls [.ref a_kk])
    refine lv_ifnonnull (tgt := 33) hx hb dX7_keep_17 (by decide) ?_
    refine lv_aload_n hx hb dX7_keep_33 rfl (lv_at hl 0 rfl) ?_
    refine va_get (D := D) (ci := 3) (v := .ref a_this_slots) (C := RX7) (T := TX7) (N := 5) hx hb hts zi_X7_keep_some_X7 hown hK.1 hP 0 rfl rfl 2 (by decide) (hts (.fieldLink RX7 23 "HalfAndHalfAgain" "slots" "[LHalfAndHalfAgain$Store;") (List.mem_of_getElem? (i := 1) rfl)) (fun _ h9 => h9) rfl dX7_keep_34 ?_
    refine lv_iload_n hx hb dX7_keep_37 rfl (lv_at hl 1 rfl) ?_
    obtain ⟨hi24, h⟩ := hk_ge h
    refine va_aldq hx hb hK.1 hP 1 3 rfl rfl (hk_inb_of hi24) dX7_keep_38 ?_
    rw [show c_this_slots x1.toNatClampNeg = some a_kk from hq]
    show W _ _ _ _ _ _ _ _ _ _ _ _ _ _ _ (F0 m 39 ls [.ref a_kk])
    refine lv_aload_n hx hb dX7_keep_39 rfl (lv_at hl 0 rfl) ?_
    refine va_get (D := D) (ci := 3) (v := .ref a_this_now) (C := RX7) (T := TX7) (N := 5) hx hb hts zi_X7_keep_some_X7 hown hK.1 hP 0 rfl rfl 1 (by decide) (hts (.fieldLink RX7 19 "HalfAndHalfAgain" "now" "LHalfAndHalfAgain$Store;") (List.mem_of_getElem? (i := 5) rfl)) (fun _ h9 => h9) rfl dX7_keep_40 ?_
    obtain ⟨u25, u26, u27, u28, hr29, h⟩ := hk_x4 h
    have hPc := hP.sub (ws' := [(a_kk, .inr (1, [.ref a_kk_figures, .ref a_kk_pieces, .ref a_kk_mayMirror, .int c_kk_laid])), (a_this_now, .inr (1, [.ref a_this_now_figures, .ref a_this_now_pieces, .ref a_this_now_mayMirror, .int c_this_now_laid])), (a_kk_figures, .inl (cJ, 8, .inr (.inl c_kk_figures))), (a_this_now_figures, .inl (cJ, 8, .inr (.inl c_this_now_figures))), (a_kk_pieces, .inl (cJ, 4, .inr (.inl c_kk_pieces))), (a_this_now_pieces, .inl (cJ, 4, .inr (.inl c_this_now_pieces))), (a_kk_mayMirror, .inl (cZ, 4, .inl c_kk_mayMirror)), (a_this_now_mayMirror, .inl (cZ, 4, .inl c_this_now_mayMirror))]) [6, 2, 7, 3, 8, 4, 9, 5] rfl
    have hDc := hD.sub (ws' := [(a_kk, .inr (1, [.ref a_kk_figures, .ref a_kk_pieces, .ref a_kk_mayMirror, .int c_kk_laid])), (a_this_now, .inr (1, [.ref a_this_now_figures, .ref a_this_now_pieces, .ref a_this_now_mayMirror, .int c_this_now_laid])), (a_kk_figures, .inl (cJ, 8, .inr (.inl c_kk_figures))), (a_this_now_figures, .inl (cJ, 8, .inr (.inl c_this_now_figures))), (a_kk_pieces, .inl (cJ, 4, .inr (.inl c_kk_pieces))), (a_this_now_pieces, .inl (cJ, 4, .inr (.inl c_this_now_pieces))), (a_kk_mayMirror, .inl (cZ, 4, .inl c_kk_mayMirror)), (a_this_now_mayMirror, .inl (cZ, 4, .inl c_this_now_mayMirror))]) [6, 2, 7, 3, 8, 4, 9, 5] (by decide) rfl
    have hFc := va_free (wc := [(a_kk, .inr (1, [.ref a_kk_figures, .ref a_kk_pieces, .ref a_kk_mayMirror, .int c_kk_laid])), (a_this_now, .inr (1, [.ref a_this_now_figures, .ref a_this_now_pieces, .ref a_this_now_mayMirror, .int c_this_now_laid])), (a_kk_figures, .inl (cJ, 8, .inr (.inl c_kk_figures))), (a_this_now_figures, .inl (cJ, 8, .inr (.inl c_this_now_figures))), (a_kk_pieces, .inl (cJ, 4, .inr (.inl c_kk_pieces))), (a_this_now_pieces, .inl (cJ, 4, .inr (.inl c_this_now_pieces))), (a_kk_mayMirror, .inl (cZ, 4, .inl c_kk_mayMirror)), (a_this_now_mayMirror, .inl (cZ, 4, .inl c_this_now_mayMirror))]) hD hS hA [6, 2, 7, 3, 8, 4, 9, 5] rfl
    refine va_callv (va_runV (As := [.ref a_this_now]) (rest := []) ⟨hx, hb, hml, hown, hts⟩ (c_X5_copyFrom l D cI cJ cZ cO a_kk a_kk_figures a_kk_pieces a_kk_mayMirror a_this_now a_this_now_figures a_this_now_pieces a_this_now_mayMirror s.heap.size c_kk_laid c_this_now_laid c_kk_figures c_this_now_figures c_kk_pieces c_this_now_pieces c_kk_mayMirror c_this_now_mayMirror _ _ _ _ hr29) (cwV 1 hts gX7_keep_X5_copyFrom rfl rfl rfl zv_X5_copyFrom ⟨Nat.le_of_ble_eq_true rfl, Nat.le_of_ble_eq_true rfl⟩) (hk_preMV 1 rfl hPc hDc hK rfl) rfl rfl hl.1 rfl (lv_room (Nat.le_of_ble_eq_true rfl)) dX7_keep_43 ⟨Nat.zero_le _, Nat.zero_le _⟩) hS (fun q _ h9 => hFc q h9) hFc (fun u9 t9 H1 locs ht hvm hw hB hz1 hk1 hS => ?_)
    obtain ⟨hP1, hD1⟩ := hB
    rw [ht] at hP1
    obtain ⟨hP, hD⟩ := va_join (wr := [(a_this, .inr (3, [.ref a_this_text, .ref a_this_now, .ref a_this_slots, .ref a_this_cover, .ref a_this_formsSeen])), (a_this_slots, .inl (cO, 2, .inr (.inr (.inr (.inr c_this_slots)))))]) (w1 := [(a_kk, .inr (1, [.ref a_kk_figures, .ref a_kk_pieces, .ref a_kk_mayMirror, .int u25])), (a_this_now, .inr (1, [.ref a_this_now_figures, .ref a_this_now_pieces, .ref a_this_now_mayMirror, .int c_this_now_laid])), (a_kk_figures, .inl (cJ, 8, .inr (.inl u26))), (a_this_now_figures, .inl (cJ, 8, .inr (.inl c_this_now_figures))), (a_kk_pieces, .inl (cJ, 4, .inr (.inl u27))), (a_this_now_pieces, .inl (cJ, 4, .inr (.inl c_this_now_pieces))), (a_kk_mayMirror, .inl (cZ, 4, .inl u28)), (a_this_now_mayMirror, .inl (cZ, 4, .inl c_this_now_mayMirror))]) hP hD [6, 2, 7, 3, 8, 4, 9, 5] [0, 1] rfl rfl (by decide) (by decide) hk1 hFc hP1 hD1
    generalize H1 = H at hP hS ⊢
    have hP := hP.sub (ws' := [(a_this, .inr (3, [.ref a_this_text, .ref a_this_now, .ref a_this_slots, .ref a_this_cover, .ref a_this_formsSeen])), (a_this_slots, .inl (cO, 2, .inr (.inr (.inr (.inr c_this_slots))))), (a_this_now, .inr (1, [.ref a_this_now_figures, .ref a_this_now_pieces, .ref a_this_now_mayMirror, .int c_this_now_laid])), (a_this_now_figures, .inl (cJ, 8, .inr (.inl c_this_now_figures))), (a_this_now_pieces, .inl (cJ, 4, .inr (.inl c_this_now_pieces))), (a_this_now_mayMirror, .inl (cZ, 4, .inl c_this_now_mayMirror)), (a_kk, .inr (1, [.ref a_kk_figures, .ref a_kk_pieces, .ref a_kk_mayMirror, .int u25])), (a_kk_figures, .inl (cJ, 8, .inr (.inl u26))), (a_kk_pieces, .inl (cJ, 4, .inr (.inl u27))), (a_kk_mayMirror, .inl (cZ, 4, .inl u28))]) [0, 1, 3, 5, 7, 9, 2, 4, 6, 8] rfl
    have hD := hD.sub (ws' := [(a_this, .inr (3, [.ref a_this_text, .ref a_this_now, .ref a_this_slots, .ref a_this_cover, .ref a_this_formsSeen])), (a_this_slots, .inl (cO, 2, .inr (.inr (.inr (.inr c_this_slots))))), (a_this_now, .inr (1, [.ref a_this_now_figures, .ref a_this_now_pieces, .ref a_this_now_mayMirror, .int c_this_now_laid])), (a_this_now_figures, .inl (cJ, 8, .inr (.inl c_this_now_figures))), (a_this_now_pieces, .inl (cJ, 4, .inr (.inl c_this_now_pieces))), (a_this_now_mayMirror, .inl (cZ, 4, .inl c_this_now_mayMirror)), (a_kk, .inr (1, [.ref a_kk_figures, .ref a_kk_pieces, .ref a_kk_mayMirror, .int u25])), (a_kk_figures, .inl (cJ, 8, .inr (.inl u26))), (a_kk_pieces, .inl (cJ, 4, .inr (.inl u27))), (a_kk_mayMirror, .inl (cZ, 4, .inl u28))]) [0, 1, 3, 5, 7, 9, 2, 4, 6, 8] (by decide) rfl
    refine lv_aload_n hx hb dX7_keep_46 rfl (lv_at hl 0 rfl) ?_
    refine va_get (D := D) (ci := 3) (v := .ref a_this_now) (C := RX7) (T := TX7) (N := 5) hx hb hts zi_X7_keep_some_X7 hown hK.1 hP 0 rfl rfl 1 (by decide) (hts (.fieldLink RX7 19 "HalfAndHalfAgain" "now" "LHalfAndHalfAgain$Store;") (List.mem_of_getElem? (i := 5) rfl)) (fun _ h9 => h9) rfl dX7_keep_47 ?_
    obtain ⟨r31, hr32, h⟩ := hk_x1 h
    refine vp_callSi (W.runV (As := []) (rest := []) ⟨hx, hb, hml, hown, hts⟩ (c_X5_countFilled l D cI cJ cZ cO a_this_now a_this_now_figures a_this_now_pieces a_this_now_mayMirror c_this_now_laid c_this_now_figures _ hr32) (cwV 0 hts gX7_keep_X5_countFilled rfl rfl rfl zv_X5_countFilled ⟨Nat.le_of_ble_eq_true rfl, Nat.le_of_ble_eq_true rfl⟩) (hk_preRV 1 rfl (hP.sub (ws' := [(a_this_now, .inr (1, [.ref a_this_now_figures, .ref a_this_now_pieces, .ref a_this_now_mayMirror, .int c_this_now_laid])), (a_this_now_figures, .inl (cJ, 8, .inr (.inl c_this_now_figures)))]) [2, 3] rfl) hK rfl) rfl rfl hl.1 rfl (lv_room (Nat.le_of_ble_eq_true rfl)) dX7_keep_50 ⟨Nat.zero_le _, Nat.zero_le _⟩) (fun p34 e33 => ?_)
    rw [e33]
    subst hQ
    have h := Option.some.inj h
    simp only [Prod.mk.injEq] at h
    obtain ⟨rfl, rfl, rfl, rfl, rfl⟩ := h
    exact W.iret hx hb hr (fun t ht hW => ⟨⟨_, (), rfl, rfl, by rw [ht]; exact hP, hD⟩, hS.F ht⟩) hS.2.2 dX7_keep_53
  replace h := hk_in c22 h
  refine lv_iconst (v := (-1 : Int32)) hx hb dX7_keep_9 (by decide) ?_
  cases h
def f_X7_again_bad  (x1 : Int32) : Option Int32 := if x1 < 0 then (some (-1 : Int32)) else (if x1 < (2 : Int32) then (none) else (some (-1 : Int32)))
theorem zi_X7_again_bad_X7 : ∀ w ∈ u_ws RX7 TX7 5, w ∈ wsX7_again := by decide +kernel
set_option maxHeartbeats 8000000 in
set_option maxRecDepth 100000 in
theorem c_X7_again_bad (l : Launch) (D : va_G) (cI cJ cZ cO : ClassId) (a_this a_this_text a_this_now a_this_slots a_this_cover a_this_formsSeen : Nat) (x1 : Int32) (rv : Int32) (hf : f_X7_again_bad  x1 = some rv) : Met l yX7_again wsX7_again ({ frames := 1, cells := 0, slots := 0, locals := 22 }) (va_Pc [.ref a_this, .int x1] (hkR D cI cJ cZ cO [(a_this, .inr (3, [.ref a_this_text, .ref a_this_now, .ref a_this_slots, .ref a_this_cover, .ref a_this_formsSeen]))])) (vp_Si (fun r => r = rv)) 0 0 (fun _ => False) := by
  refine Met.ofW (cc := cX7_again) (maxL := 2) (ret := (some .int)) (by decide) rfl ?_
  intro p e s m args below meth c s₁ B hml hv
  obtain ⟨rfl, hP, hK⟩ := hv
  have hx := B.exec
  have hb := B.bytes
  have hr := B.returns
  have hts := atoms_spec (ws := wsX7_again) B.pre
  have hown : s.vm.findClass RX7 = some m.cls := findClass_of_methodNamed B.named
  have hlocks := B.notSynchronized
  have hN := hK.2
  have hl := lv_entry ([.ref a_this, .int x1]) (n := 2) (Nat.le_of_ble_eq_true rfl)
  rw [lg_entry_eq]
  generalize (lg_sl ([.ref a_this, .int x1]) ++ List.replicate (2 - (lg_sl ([.ref a_this, .int x1])).length) Slot.unset).toArray = ls at hl ⊢
  have hl : lv_has ls 2 [(0, .ref a_this), (1, .int x1)] := hl
  refine hk_Q (fun Q hQ => ?_)
  have h := hf
  unfold f_X7_again_bad at h
  refine lv_iload_n hx hb dX7_again_0 rfl (lv_at hl 1 rfl) ?_
  refine lv_if_lt (tgt := 9) hx hb dX7_again_1 (by decide) (fun c21 => ?_) (fun c21 => ?_)
  · replace h := hk_ip c21 h
    refine lv_iconst (v := (-1 : Int32)) hx hb dX7_again_9 (by decide) ?_
    subst hQ
    exact W.iret hx hb hr (fun t ht hW => ⟨_, rfl, Option.some.inj h, ht⟩) (fun _ h9 => by cases h9) dX7_again_10
  replace h := hk_in c21 h
  refine lv_iload_n hx hb dX7_again_4 rfl (lv_at hl 1 rfl) ?_
  refine lv_iconst (v := (2 : Int32)) hx hb dX7_again_5 (by decide) ?_
  refine lv_icmp_lt (tgt := 11) hx hb dX7_again_6 (by decide) (fun c22 => ?_) (fun c22 => ?_)
  · replace h := hk_ip c22 h
    refine lv_aload_n hx hb dX7_again_11 rfl (lv_at hl 0 rfl) ?_
    refine va_get (D := D) (ci := 3) (v := .ref a_this_slots) (C := RX7) (T := TX7) (N := 5) hx hb hts zi_X7_again_bad_X7 hown hK.1 hP 0 rfl rfl 2 (by decide) (hts (.fieldLink RX7 23 "HalfAndHalfAgain" "slots" "[LHalfAndHalfAgain$Store;") (List.mem_of_getElem? (i := 1) rfl)) (fun _ h9 => h9) rfl dX7_again_12 ?_
    refine lv_iload_n hx hb dX7_again_15 rfl (lv_at hl 1 rfl) ?_
    cases h
  replace h := hk_in c22 h
  refine lv_iconst (v := (-1 : Int32)) hx hb dX7_again_9 (by decide) ?_
  subst hQ
  exact W.iret hx hb hr (fun t ht hW => ⟨_, rfl, Option.some.inj h, ht⟩) (fun _ h9 => by cases h9) dX7_again_10
def f_X7_again_none  (x1 : Int32) : Option Int32 := if x1 < 0 then (none) else (if x1 < (2 : Int32) then (hk_gd (hk_inb x1 2) (some (-3 : Int32))) else (none))
theorem zi_X7_again_none_X7 : ∀ w ∈ u_ws RX7 TX7 5, w ∈ wsX7_again := by decide +kernel
set_option maxHeartbeats 8000000 in
set_option maxRecDepth 100000 in
theorem c_X7_again_none (l : Launch) (D : va_G) (cI cJ cZ cO : ClassId) (a_this a_this_text a_this_now a_this_slots a_this_cover a_this_formsSeen : Nat) (c_this_slots : Nat → Option Nat) (x1 : Int32) (rv : Int32) (hq : c_this_slots x1.toNatClampNeg = none) (hf : f_X7_again_none  x1 = some rv) : Met l yX7_again wsX7_again ({ frames := 1, cells := 0, slots := 0, locals := 22 }) (va_Pc [.ref a_this, .int x1] (hkR D cI cJ cZ cO [(a_this, .inr (3, [.ref a_this_text, .ref a_this_now, .ref a_this_slots, .ref a_this_cover, .ref a_this_formsSeen])), (a_this_slots, .inl (cO, 2, .inr (.inr (.inr (.inr c_this_slots)))))])) (vp_Si (fun r => r = rv)) 0 0 (fun _ => False) := by
  refine Met.ofW (cc := cX7_again) (maxL := 2) (ret := (some .int)) (by decide) rfl ?_
  intro p e s m args below meth c s₁ B hml hv
  obtain ⟨rfl, hP, hK⟩ := hv
  have hx := B.exec
  have hb := B.bytes
  have hr := B.returns
  have hts := atoms_spec (ws := wsX7_again) B.pre
  have hown : s.vm.findClass RX7 = some m.cls := findClass_of_methodNamed B.named
  have hlocks := B.notSynchronized
  have hN := hK.2
  have hl := lv_entry ([.ref a_this, .int x1]) (n := 2) (Nat.le_of_ble_eq_true rfl)
  rw [lg_entry_eq]
  generalize (lg_sl ([.ref a_this, .int x1]) ++ List.replicate (2 - (lg_sl ([.ref a_this, .int x1])).length) Slot.unset).toArray = ls at hl ⊢
  have hl : lv_has ls 2 [(0, .ref a_this), (1, .int x1)] := hl
  refine hk_Q (fun Q hQ => ?_)
  have h := hf
  unfold f_X7_again_none at h
  refine lv_iload_n hx hb dX7_again_0 rfl (lv_at hl 1 rfl) ?_
  refine lv_if_lt (tgt := 9) hx hb dX7_again_1 (by decide) (fun c21 => ?_) (fun c21 => ?_)
  · replace h := hk_ip c21 h
    refine lv_iconst (v := (-1 : Int32)) hx hb dX7_again_9 (by decide) ?_
    cases h
  replace h := hk_in c21 h
  refine lv_iload_n hx hb dX7_again_4 rfl (lv_at hl 1 rfl) ?_
  refine lv_iconst (v := (2 : Int32)) hx hb dX7_again_5 (by decide) ?_
  refine lv_icmp_lt (tgt := 11) hx hb dX7_again_6 (by decide) (fun c22 => ?_) (fun c22 => ?_)
  · replace h := hk_ip c22 h
    refine lv_aload_n hx hb dX7_again_11 rfl (lv_at hl 0 rfl) ?_
    refine va_get (D := D) (ci := 3) (v := .ref a_this_slots) (C := RX7) (T := TX7) (N := 5) hx hb hts zi_X7_again_none_X7 hown hK.1 hP 0 rfl rfl 2 (by decide) (hts (.fieldLink RX7 23 "HalfAndHalfAgain" "slots" "[LHalfAndHalfAgain$Store;") (List.mem_of_getElem? (i := 1) rfl)) (fun _ h9 => h9) rfl dX7_again_12 ?_
    refine lv_iload_n hx hb dX7_again_15 rfl (lv_at hl 1 rfl) ?_
    obtain ⟨hi23, h⟩ := hk_ge h
    refine va_aldq hx hb hK.1 hP 1 3 rfl rfl (hk_inb_of hi23) dX7_again_16 ?_
    rw [show c_this_slots x1.toNatClampNeg = none from hq]
    show W _ _ _ _ _ _ _ _ _ _ _ _ _ _ _ (F0 m 17 ls [.null])
    refine lv_ifnonnullN hx hb dX7_again_17 ?_
    refine lv_bipush (v := (-3 : Int32)) hx hb dX7_again_20 (by decide) ?_
    subst hQ
    exact W.iret hx hb hr (fun t ht hW => ⟨_, rfl, Option.some.inj h, ht⟩) (fun _ h9 => by cases h9) dX7_again_22
  replace h := hk_in c22 h
  refine lv_iconst (v := (-1 : Int32)) hx hb dX7_again_9 (by decide) ?_
  cases h
def f_X7_again_some (c_this_now_laid : Int32) (c_kk_laid : Int32) (c_this_now_figures : Nat → Int64) (c_this_now_pieces : Nat → Int64) (c_this_now_mayMirror : Nat → Int32) (c_kk_figures : Nat → Int64) (c_kk_pieces : Nat → Int64) (c_kk_mayMirror : Nat → Int32) (x1 : Int32) : Option (Int32 × Int32 × (Nat → Int64) × (Nat → Int64) × (Nat → Int32)) := if x1 < 0 then (none) else (if x1 < (2 : Int32) then (hk_gd (hk_inb x1 2) (hk_gd (hk_inb x1 2) (hk_b4 (f_X5_copyFrom c_this_now_laid c_kk_laid c_this_now_figures c_kk_figures c_this_now_pieces c_kk_pieces c_this_now_mayMirror c_kk_mayMirror) fun u25 u26 u27 u28 => hk_b1 (f_X5_countFilled u26) fun r31 => some (r31, u25, u26, u27, u28)))) else (none))
theorem zi_X7_again_some_X7 : ∀ w ∈ u_ws RX7 TX7 5, w ∈ wsX7_again := by decide +kernel
set_option maxHeartbeats 8000000 in
set_option maxRecDepth 100000 in
theorem c_X7_again_some (l : Launch) (D : va_G) (cI cJ cZ cO : ClassId) (a_this a_this_text a_this_now a_this_slots a_this_cover a_this_formsSeen a_this_now_figures a_this_now_pieces a_this_now_mayMirror a_kk a_kk_figures a_kk_pieces a_kk_mayMirror : Nat) (sz : Nat) (c_this_now_laid : Int32) (c_kk_laid : Int32) (c_this_slots : Nat → Option Nat) (c_this_now_figures : Nat → Int64) (c_this_now_pieces : Nat → Int64) (c_this_now_mayMirror : Nat → Int32) (c_kk_figures : Nat → Int64) (c_kk_pieces : Nat → Int64) (c_kk_mayMirror : Nat → Int32) (x1 : Int32) (rv : Int32) (u_this_now_laid : Int32) (u_this_now_figures : Nat → Int64) (u_this_now_pieces : Nat → Int64) (u_this_now_mayMirror : Nat → Int32) (hq : c_this_slots x1.toNatClampNeg = some a_kk) (hf : f_X7_again_some c_this_now_laid c_kk_laid c_this_now_figures c_this_now_pieces c_this_now_mayMirror c_kk_figures c_kk_pieces c_kk_mayMirror x1 = some (rv, u_this_now_laid, u_this_now_figures, u_this_now_pieces, u_this_now_mayMirror)) : Met l yX7_again wsX7_again ({ frames := 1, cells := 0, slots := 0, locals := 22 }) (va_Pc [.ref a_this, .int x1] (hkM D cI cJ cZ cO [(a_this, .inr (3, [.ref a_this_text, .ref a_this_now, .ref a_this_slots, .ref a_this_cover, .ref a_this_formsSeen])), (a_this_slots, .inl (cO, 2, .inr (.inr (.inr (.inr c_this_slots))))), (a_this_now, .inr (1, [.ref a_this_now_figures, .ref a_this_now_pieces, .ref a_this_now_mayMirror, .int c_this_now_laid])), (a_this_now_figures, .inl (cJ, 8, .inr (.inl c_this_now_figures))), (a_this_now_pieces, .inl (cJ, 4, .inr (.inl c_this_now_pieces))), (a_this_now_mayMirror, .inl (cZ, 4, .inl c_this_now_mayMirror)), (a_kk, .inr (1, [.ref a_kk_figures, .ref a_kk_pieces, .ref a_kk_mayMirror, .int c_kk_laid])), (a_kk_figures, .inl (cJ, 8, .inr (.inl c_kk_figures))), (a_kk_pieces, .inl (cJ, 4, .inr (.inl c_kk_pieces))), (a_kk_mayMirror, .inl (cZ, 4, .inl c_kk_mayMirror))] sz)) (va_Qi (fun r (_ : Unit) => r = rv) (fun _ t => va_P D vwCl [(a_this, .inr (3, [.ref a_this_text, .ref a_this_now, .ref a_this_slots, .ref a_this_cover, .ref a_this_formsSeen])), (a_this_slots, .inl (cO, 2, .inr (.inr (.inr (.inr c_this_slots))))), (a_this_now, .inr (1, [.ref a_this_now_figures, .ref a_this_now_pieces, .ref a_this_now_mayMirror, .int u_this_now_laid])), (a_this_now_figures, .inl (cJ, 8, .inr (.inl u_this_now_figures))), (a_this_now_pieces, .inl (cJ, 4, .inr (.inl u_this_now_pieces))), (a_this_now_mayMirror, .inl (cZ, 4, .inl u_this_now_mayMirror)), (a_kk, .inr (1, [.ref a_kk_figures, .ref a_kk_pieces, .ref a_kk_mayMirror, .int c_kk_laid])), (a_kk_figures, .inl (cJ, 8, .inr (.inl c_kk_figures))), (a_kk_pieces, .inl (cJ, 4, .inr (.inl c_kk_pieces))), (a_kk_mayMirror, .inl (cZ, 4, .inl c_kk_mayMirror))] t.heap ∧ va_D (va_A [(a_this, .inr (3, [.ref a_this_text, .ref a_this_now, .ref a_this_slots, .ref a_this_cover, .ref a_this_formsSeen])), (a_this_slots, .inl (cO, 2, .inr (.inr (.inr (.inr c_this_slots))))), (a_this_now, .inr (1, [.ref a_this_now_figures, .ref a_this_now_pieces, .ref a_this_now_mayMirror, .int c_this_now_laid])), (a_this_now_figures, .inl (cJ, 8, .inr (.inl c_this_now_figures))), (a_this_now_pieces, .inl (cJ, 4, .inr (.inl c_this_now_pieces))), (a_this_now_mayMirror, .inl (cZ, 4, .inl c_this_now_mayMirror)), (a_kk, .inr (1, [.ref a_kk_figures, .ref a_kk_pieces, .ref a_kk_mayMirror, .int c_kk_laid])), (a_kk_figures, .inl (cJ, 8, .inr (.inl c_kk_figures))), (a_kk_pieces, .inl (cJ, 4, .inr (.inl c_kk_pieces))), (a_kk_mayMirror, .inl (cZ, 4, .inl c_kk_mayMirror))] sz) [(a_this, .inr (3, [.ref a_this_text, .ref a_this_now, .ref a_this_slots, .ref a_this_cover, .ref a_this_formsSeen])), (a_this_slots, .inl (cO, 2, .inr (.inr (.inr (.inr c_this_slots))))), (a_this_now, .inr (1, [.ref a_this_now_figures, .ref a_this_now_pieces, .ref a_this_now_mayMirror, .int u_this_now_laid])), (a_this_now_figures, .inl (cJ, 8, .inr (.inl u_this_now_figures))), (a_this_now_pieces, .inl (cJ, 4, .inr (.inl u_this_now_pieces))), (a_this_now_mayMirror, .inl (cZ, 4, .inl u_this_now_mayMirror)), (a_kk, .inr (1, [.ref a_kk_figures, .ref a_kk_pieces, .ref a_kk_mayMirror, .int c_kk_laid])), (a_kk_figures, .inl (cJ, 8, .inr (.inl c_kk_figures))), (a_kk_pieces, .inl (cJ, 4, .inr (.inl c_kk_pieces))), (a_kk_mayMirror, .inl (cZ, 4, .inl c_kk_mayMirror))]) (va_A [(a_this, .inr (3, [.ref a_this_text, .ref a_this_now, .ref a_this_slots, .ref a_this_cover, .ref a_this_formsSeen])), (a_this_slots, .inl (cO, 2, .inr (.inr (.inr (.inr c_this_slots))))), (a_this_now, .inr (1, [.ref a_this_now_figures, .ref a_this_now_pieces, .ref a_this_now_mayMirror, .int c_this_now_laid])), (a_this_now_figures, .inl (cJ, 8, .inr (.inl c_this_now_figures))), (a_this_now_pieces, .inl (cJ, 4, .inr (.inl c_this_now_pieces))), (a_this_now_mayMirror, .inl (cZ, 4, .inl c_this_now_mayMirror)), (a_kk, .inr (1, [.ref a_kk_figures, .ref a_kk_pieces, .ref a_kk_mayMirror, .int c_kk_laid])), (a_kk_figures, .inl (cJ, 8, .inr (.inl c_kk_figures))), (a_kk_pieces, .inl (cJ, 4, .inr (.inl c_kk_pieces))), (a_kk_mayMirror, .inl (cZ, 4, .inl c_kk_mayMirror))] sz)) 0 0 (va_A [(a_this, .inr (3, [.ref a_this_text, .ref a_this_now, .ref a_this_slots, .ref a_this_cover, .ref a_this_formsSeen])), (a_this_slots, .inl (cO, 2, .inr (.inr (.inr (.inr c_this_slots))))), (a_this_now, .inr (1, [.ref a_this_now_figures, .ref a_this_now_pieces, .ref a_this_now_mayMirror, .int c_this_now_laid])), (a_this_now_figures, .inl (cJ, 8, .inr (.inl c_this_now_figures))), (a_this_now_pieces, .inl (cJ, 4, .inr (.inl c_this_now_pieces))), (a_this_now_mayMirror, .inl (cZ, 4, .inl c_this_now_mayMirror)), (a_kk, .inr (1, [.ref a_kk_figures, .ref a_kk_pieces, .ref a_kk_mayMirror, .int c_kk_laid])), (a_kk_figures, .inl (cJ, 8, .inr (.inl c_kk_figures))), (a_kk_pieces, .inl (cJ, 4, .inr (.inl c_kk_pieces))), (a_kk_mayMirror, .inl (cZ, 4, .inl c_kk_mayMirror))] sz) := by
  refine Met.ofW (cc := cX7_again) (maxL := 2) (ret := (some .int)) (by decide) rfl ?_
  intro p e s m args below meth c s₁ B hml hv
  obtain ⟨rfl, hsz, hP, hK, hD0⟩ := hv
  have hx := B.exec
  have hb := B.bytes
  have hr := B.returns
  have hts := atoms_spec (ws := wsX7_again) B.pre
  have hown : s.vm.findClass RX7 = some m.cls := findClass_of_methodNamed B.named
  have hlocks := B.notSynchronized
  have hN := hK.2
  subst hsz
  have hD := hD0.self (sz := s.heap.size)
  generalize hAe : va_A [(a_this, .inr (3, [.ref a_this_text, .ref a_this_now, .ref a_this_slots, .ref a_this_cover, .ref a_this_formsSeen])), (a_this_slots, .inl (cO, 2, .inr (.inr (.inr (.inr c_this_slots))))), (a_this_now, .inr (1, [.ref a_this_now_figures, .ref a_this_now_pieces, .ref a_this_now_mayMirror, .int c_this_now_laid])), (a_this_now_figures, .inl (cJ, 8, .inr (.inl c_this_now_figures))), (a_this_now_pieces, .inl (cJ, 4, .inr (.inl c_this_now_pieces))), (a_this_now_mayMirror, .inl (cZ, 4, .inl c_this_now_mayMirror)), (a_kk, .inr (1, [.ref a_kk_figures, .ref a_kk_pieces, .ref a_kk_mayMirror, .int c_kk_laid])), (a_kk_figures, .inl (cJ, 8, .inr (.inl c_kk_figures))), (a_kk_pieces, .inl (cJ, 4, .inr (.inl c_kk_pieces))), (a_kk_mayMirror, .inl (cZ, 4, .inl c_kk_mayMirror))] s.heap.size = A at hD ⊢
  have hA : ∀ q : Nat, s.heap.size ≤ q → A q := fun q h => by rw [← hAe]; exact Or.inr h
  have hS : va_S A s.heap s.heap [] := va_S.rf
  have hl := lv_entry ([.ref a_this, .int x1]) (n := 2) (Nat.le_of_ble_eq_true rfl)
  rw [lg_entry_eq]
  generalize (lg_sl ([.ref a_this, .int x1]) ++ List.replicate (2 - (lg_sl ([.ref a_this, .int x1])).length) Slot.unset).toArray = ls at hl ⊢
  have hl : lv_has ls 2 [(0, .ref a_this), (1, .int x1)] := hl
  refine hk_Q (fun Q hQ => ?_)
  have h := hf
  unfold f_X7_again_some at h
  refine lv_iload_n hx hb dX7_again_0 rfl (lv_at hl 1 rfl) ?_
  refine lv_if_lt (tgt := 9) hx hb dX7_again_1 (by decide) (fun c21 => ?_) (fun c21 => ?_)
  · replace h := hk_ip c21 h
    refine lv_iconst (v := (-1 : Int32)) hx hb dX7_again_9 (by decide) ?_
    cases h
  replace h := hk_in c21 h
  refine lv_iload_n hx hb dX7_again_4 rfl (lv_at hl 1 rfl) ?_
  refine lv_iconst (v := (2 : Int32)) hx hb dX7_again_5 (by decide) ?_
  refine lv_icmp_lt (tgt := 11) hx hb dX7_again_6 (by decide) (fun c22 => ?_) (fun c22 => ?_)
  · replace h := hk_ip c22 h
    refine lv_aload_n hx hb dX7_again_11 rfl (lv_at hl 0 rfl) ?_
    refine va_get (D := D) (ci := 3) (v := .ref a_this_slots) (C := RX7) (T := TX7) (N := 5) hx hb hts zi_X7_again_some_X7 hown hK.1 hP 0 rfl rfl 2 (by decide) (hts (.fieldLink RX7 23 "HalfAndHalfAgain" "slots" "[LHalfAndHalfAgain$Store;") (List.mem_of_getElem? (i := 1) rfl)) (fun _ h9 => h9) rfl dX7_again_12 ?_
    refine lv_iload_n hx hb dX7_again_15 rfl (lv_at hl 1 rfl) ?_
    obtain ⟨hi23, h⟩ := hk_ge h
    refine va_aldq hx hb hK.1 hP 1 3 rfl rfl (hk_inb_of hi23) dX7_again_16 ?_
    rw [show c_this_slots x1.toNatClampNeg = some a_kk from hq]
    show W _ _ _ _ _ _ _ _ _ _ _ _ _ _ _ (F0 m 17 ls [.ref a_kk])
    refine lv_ifnonnull (tgt := 23) hx hb dX7_again_17 (by decide) ?_
    refine lv_aload_n hx hb dX7_again_23 rfl (lv_at hl 0 rfl) ?_
    refine va_get (D := D) (ci := 3) (v := .ref a_this_now) (C := RX7) (T := TX7) (N := 5) hx hb hts zi_X7_again_some_X7 hown hK.1 hP 0 rfl rfl 1 (by decide) (hts (.fieldLink RX7 19 "HalfAndHalfAgain" "now" "LHalfAndHalfAgain$Store;") (List.mem_of_getElem? (i := 2) rfl)) (fun _ h9 => h9) rfl dX7_again_24 ?_
    refine lv_aload_n hx hb dX7_again_27 rfl (lv_at hl 0 rfl) ?_
    refine va_get (D := D) (ci := 3) (v := .ref a_this_slots) (C := RX7) (T := TX7) (N := 5) hx hb hts zi_X7_again_some_X7 hown hK.1 hP 0 rfl rfl 2 (by decide) (hts (.fieldLink RX7 23 "HalfAndHalfAgain" "slots" "[LHalfAndHalfAgain$Store;") (List.mem_of_getElem? (i := 1) rfl)) (fun _ h9 => h9) rfl dX7_again_28 ?_
    refine lv_iload_n hx hb dX7_again_31 rfl (lv_at hl 1 rfl) ?_
    obtain ⟨hi24, h⟩ := hk_ge h
    refine va_aldq hx hb hK.1 hP 1 3 rfl rfl (hk_inb_of hi24) dX7_again_32 ?_
    rw [show c_this_slots x1.toNatClampNeg = some a_kk from hq]
    show W _ _ _ _ _ _ _ _ _ _ _ _ _ _ _ (F0 m 33 ls [.ref a_kk, .ref a_this_now])
    obtain ⟨u25, u26, u27, u28, hr29, h⟩ := hk_x4 h
    have hPc := hP.sub (ws' := [(a_this_now, .inr (1, [.ref a_this_now_figures, .ref a_this_now_pieces, .ref a_this_now_mayMirror, .int c_this_now_laid])), (a_kk, .inr (1, [.ref a_kk_figures, .ref a_kk_pieces, .ref a_kk_mayMirror, .int c_kk_laid])), (a_this_now_figures, .inl (cJ, 8, .inr (.inl c_this_now_figures))), (a_kk_figures, .inl (cJ, 8, .inr (.inl c_kk_figures))), (a_this_now_pieces, .inl (cJ, 4, .inr (.inl c_this_now_pieces))), (a_kk_pieces, .inl (cJ, 4, .inr (.inl c_kk_pieces))), (a_this_now_mayMirror, .inl (cZ, 4, .inl c_this_now_mayMirror)), (a_kk_mayMirror, .inl (cZ, 4, .inl c_kk_mayMirror))]) [2, 6, 3, 7, 4, 8, 5, 9] rfl
    have hDc := hD.sub (ws' := [(a_this_now, .inr (1, [.ref a_this_now_figures, .ref a_this_now_pieces, .ref a_this_now_mayMirror, .int c_this_now_laid])), (a_kk, .inr (1, [.ref a_kk_figures, .ref a_kk_pieces, .ref a_kk_mayMirror, .int c_kk_laid])), (a_this_now_figures, .inl (cJ, 8, .inr (.inl c_this_now_figures))), (a_kk_figures, .inl (cJ, 8, .inr (.inl c_kk_figures))), (a_this_now_pieces, .inl (cJ, 4, .inr (.inl c_this_now_pieces))), (a_kk_pieces, .inl (cJ, 4, .inr (.inl c_kk_pieces))), (a_this_now_mayMirror, .inl (cZ, 4, .inl c_this_now_mayMirror)), (a_kk_mayMirror, .inl (cZ, 4, .inl c_kk_mayMirror))]) [2, 6, 3, 7, 4, 8, 5, 9] (by decide) rfl
    have hFc := va_free (wc := [(a_this_now, .inr (1, [.ref a_this_now_figures, .ref a_this_now_pieces, .ref a_this_now_mayMirror, .int c_this_now_laid])), (a_kk, .inr (1, [.ref a_kk_figures, .ref a_kk_pieces, .ref a_kk_mayMirror, .int c_kk_laid])), (a_this_now_figures, .inl (cJ, 8, .inr (.inl c_this_now_figures))), (a_kk_figures, .inl (cJ, 8, .inr (.inl c_kk_figures))), (a_this_now_pieces, .inl (cJ, 4, .inr (.inl c_this_now_pieces))), (a_kk_pieces, .inl (cJ, 4, .inr (.inl c_kk_pieces))), (a_this_now_mayMirror, .inl (cZ, 4, .inl c_this_now_mayMirror)), (a_kk_mayMirror, .inl (cZ, 4, .inl c_kk_mayMirror))]) hD hS hA [2, 6, 3, 7, 4, 8, 5, 9] rfl
    refine va_callv (va_runV (As := [.ref a_kk]) (rest := []) ⟨hx, hb, hml, hown, hts⟩ (c_X5_copyFrom l D cI cJ cZ cO a_this_now a_this_now_figures a_this_now_pieces a_this_now_mayMirror a_kk a_kk_figures a_kk_pieces a_kk_mayMirror s.heap.size c_this_now_laid c_kk_laid c_this_now_figures c_kk_figures c_this_now_pieces c_kk_pieces c_this_now_mayMirror c_kk_mayMirror _ _ _ _ hr29) (cwV 1 hts gX7_again_X5_copyFrom rfl rfl rfl zv_X5_copyFrom ⟨Nat.le_of_ble_eq_true rfl, Nat.le_of_ble_eq_true rfl⟩) (hk_preMV 1 rfl hPc hDc hK rfl) rfl rfl hl.1 rfl (lv_room (Nat.le_of_ble_eq_true rfl)) dX7_again_33 ⟨Nat.zero_le _, Nat.zero_le _⟩) hS (fun q _ h9 => hFc q h9) hFc (fun u9 t9 H1 locs ht hvm hw hB hz1 hk1 hS => ?_)
    obtain ⟨hP1, hD1⟩ := hB
    rw [ht] at hP1
    obtain ⟨hP, hD⟩ := va_join (wr := [(a_this, .inr (3, [.ref a_this_text, .ref a_this_now, .ref a_this_slots, .ref a_this_cover, .ref a_this_formsSeen])), (a_this_slots, .inl (cO, 2, .inr (.inr (.inr (.inr c_this_slots)))))]) (w1 := [(a_this_now, .inr (1, [.ref a_this_now_figures, .ref a_this_now_pieces, .ref a_this_now_mayMirror, .int u25])), (a_kk, .inr (1, [.ref a_kk_figures, .ref a_kk_pieces, .ref a_kk_mayMirror, .int c_kk_laid])), (a_this_now_figures, .inl (cJ, 8, .inr (.inl u26))), (a_kk_figures, .inl (cJ, 8, .inr (.inl c_kk_figures))), (a_this_now_pieces, .inl (cJ, 4, .inr (.inl u27))), (a_kk_pieces, .inl (cJ, 4, .inr (.inl c_kk_pieces))), (a_this_now_mayMirror, .inl (cZ, 4, .inl u28)), (a_kk_mayMirror, .inl (cZ, 4, .inl c_kk_mayMirror))]) hP hD [2, 6, 3, 7, 4, 8, 5, 9] [0, 1] rfl rfl (by decide) (by decide) hk1 hFc hP1 hD1
    generalize H1 = H at hP hS ⊢
    have hP := hP.sub (ws' := [(a_this, .inr (3, [.ref a_this_text, .ref a_this_now, .ref a_this_slots, .ref a_this_cover, .ref a_this_formsSeen])), (a_this_slots, .inl (cO, 2, .inr (.inr (.inr (.inr c_this_slots))))), (a_this_now, .inr (1, [.ref a_this_now_figures, .ref a_this_now_pieces, .ref a_this_now_mayMirror, .int u25])), (a_this_now_figures, .inl (cJ, 8, .inr (.inl u26))), (a_this_now_pieces, .inl (cJ, 4, .inr (.inl u27))), (a_this_now_mayMirror, .inl (cZ, 4, .inl u28)), (a_kk, .inr (1, [.ref a_kk_figures, .ref a_kk_pieces, .ref a_kk_mayMirror, .int c_kk_laid])), (a_kk_figures, .inl (cJ, 8, .inr (.inl c_kk_figures))), (a_kk_pieces, .inl (cJ, 4, .inr (.inl c_kk_pieces))), (a_kk_mayMirror, .inl (cZ, 4, .inl c_kk_mayMirror))]) [0, 1, 2, 4, 6, 8, 3, 5, 7, 9] rfl
    have hD := hD.sub (ws' := [(a_this, .inr (3, [.ref a_this_text, .ref a_this_now, .ref a_this_slots, .ref a_this_cover, .ref a_this_formsSeen])), (a_this_slots, .inl (cO, 2, .inr (.inr (.inr (.inr c_this_slots))))), (a_this_now, .inr (1, [.ref a_this_now_figures, .ref a_this_now_pieces, .ref a_this_now_mayMirror, .int u25])), (a_this_now_figures, .inl (cJ, 8, .inr (.inl u26))), (a_this_now_pieces, .inl (cJ, 4, .inr (.inl u27))), (a_this_now_mayMirror, .inl (cZ, 4, .inl u28)), (a_kk, .inr (1, [.ref a_kk_figures, .ref a_kk_pieces, .ref a_kk_mayMirror, .int c_kk_laid])), (a_kk_figures, .inl (cJ, 8, .inr (.inl c_kk_figures))), (a_kk_pieces, .inl (cJ, 4, .inr (.inl c_kk_pieces))), (a_kk_mayMirror, .inl (cZ, 4, .inl c_kk_mayMirror))]) [0, 1, 2, 4, 6, 8, 3, 5, 7, 9] (by decide) rfl
    refine lv_aload_n hx hb dX7_again_36 rfl (lv_at hl 0 rfl) ?_
    refine va_get (D := D) (ci := 3) (v := .ref a_this_now) (C := RX7) (T := TX7) (N := 5) hx hb hts zi_X7_again_some_X7 hown hK.1 hP 0 rfl rfl 1 (by decide) (hts (.fieldLink RX7 19 "HalfAndHalfAgain" "now" "LHalfAndHalfAgain$Store;") (List.mem_of_getElem? (i := 2) rfl)) (fun _ h9 => h9) rfl dX7_again_37 ?_
    obtain ⟨r31, hr32, h⟩ := hk_x1 h
    refine vp_callSi (W.runV (As := []) (rest := []) ⟨hx, hb, hml, hown, hts⟩ (c_X5_countFilled l D cI cJ cZ cO a_this_now a_this_now_figures a_this_now_pieces a_this_now_mayMirror u25 u26 _ hr32) (cwV 0 hts gX7_again_X5_countFilled rfl rfl rfl zv_X5_countFilled ⟨Nat.le_of_ble_eq_true rfl, Nat.le_of_ble_eq_true rfl⟩) (hk_preRV 1 rfl (hP.sub (ws' := [(a_this_now, .inr (1, [.ref a_this_now_figures, .ref a_this_now_pieces, .ref a_this_now_mayMirror, .int u25])), (a_this_now_figures, .inl (cJ, 8, .inr (.inl u26)))]) [2, 3] rfl) hK rfl) rfl rfl hl.1 rfl (lv_room (Nat.le_of_ble_eq_true rfl)) dX7_again_40 ⟨Nat.zero_le _, Nat.zero_le _⟩) (fun p34 e33 => ?_)
    rw [e33]
    subst hQ
    have h := Option.some.inj h
    simp only [Prod.mk.injEq] at h
    obtain ⟨rfl, rfl, rfl, rfl, rfl⟩ := h
    exact W.iret hx hb hr (fun t ht hW => ⟨⟨_, (), rfl, rfl, by rw [ht]; exact hP, hD⟩, hS.F ht⟩) hS.2.2 dX7_again_43
  replace h := hk_in c22 h
  refine lv_iconst (v := (-1 : Int32)) hx hb dX7_again_9 (by decide) ?_
  cases h
