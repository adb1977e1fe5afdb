/-! walks printed by wip/whole/gen.py: X5_.* X1_.* -X1_countWays -/
theorem zv_X1_addIfWithin : yX1_addIfWithin.cls = RX1 ∧ yX1_addIfWithin.cls ≠ "java/lang/invoke/MethodHandle" ∧ yX1_addIfWithin.cls ≠ "java/lang/invoke/VarHandle" ∧ (parseMethodDescriptor yX1_addIfWithin.desc).map (fun d => d.parameters.length) = some 3 := by decide +kernel
def f_X1_addIfWithin (c_this_found : Nat → Int32) (c_this_spots : Nat → Int64)  (x1 : Int32) (x2 : Int64) (x4 : Int64) : Option ((Nat → Int32) × (Nat → Int64)) := if (x2 &&& (x4 ^^^ (-1 : Int64))) = (0 : Int64) then (hk_gd (hk_inb x1 4) (if (96 : Int32) ≤ (c_this_found x1.toNatClampNeg) then (some (c_this_found, c_this_spots)) else (hk_gd (hk_inb x1 4) (hk_gd (hk_inb ((x1 * (96 : Int32)) + (c_this_found x1.toNatClampNeg)) 384) (hk_gd (hk_inb x1 4) (hk_gd (hk_inb x1 4) (some ((upd c_this_found x1.toNatClampNeg ((c_this_found x1.toNatClampNeg) + (1 : Int32))), (vp_updL c_this_spots ((x1 * (96 : Int32)) + (c_this_found x1.toNatClampNeg)).toNatClampNeg x2))))))))) else (some (c_this_found, c_this_spots))
theorem zi_X1_addIfWithin_X1 : ∀ w ∈ u_ws RX1 TX1 7, w ∈ wsX1_addIfWithin := by decide +kernel
set_option maxHeartbeats 8000000 in
set_option maxRecDepth 100000 in
theorem c_X1_addIfWithin (l : Launch) (D : va_G) (cI cJ cZ cO : ClassId) (a_this a_this_spots a_this_found a_this_turnedSeen a_this_chosen a_this_best : Nat) (sz : Nat) (c_this_pieces : Int32) (c_this_ways : Int32) (c_this_found : Nat → Int32) (c_this_spots : Nat → Int64) (x1 : Int32) (x2 : Int64) (x4 : Int64) (u_this_found : Nat → Int32) (u_this_spots : Nat → Int64) (hf : f_X1_addIfWithin c_this_found c_this_spots x1 x2 x4 = some (u_this_found, u_this_spots)) : Met l yX1_addIfWithin wsX1_addIfWithin ({ frames := 0, cells := 0, slots := 0, locals := 0 }) (va_Pc [.ref a_this, .int x1, .long x2, .long x4] (hkM D cI cJ cZ cO [(a_this, .inr (0, [.ref a_this_spots, .ref a_this_found, .ref a_this_turnedSeen, .ref a_this_chosen, .ref a_this_best, .int c_this_pieces, .int c_this_ways])), (a_this_found, .inl (cI, 4, .inl c_this_found)), (a_this_spots, .inl (cJ, 384, .inr (.inl c_this_spots)))] sz)) (va_Qv (fun (_ : Unit) => True) (fun _ t => va_P D vwCl [(a_this, .inr (0, [.ref a_this_spots, .ref a_this_found, .ref a_this_turnedSeen, .ref a_this_chosen, .ref a_this_best, .int c_this_pieces, .int c_this_ways])), (a_this_found, .inl (cI, 4, .inl u_this_found)), (a_this_spots, .inl (cJ, 384, .inr (.inl u_this_spots)))] t.heap ∧ va_D (va_A [(a_this, .inr (0, [.ref a_this_spots, .ref a_this_found, .ref a_this_turnedSeen, .ref a_this_chosen, .ref a_this_best, .int c_this_pieces, .int c_this_ways])), (a_this_found, .inl (cI, 4, .inl c_this_found)), (a_this_spots, .inl (cJ, 384, .inr (.inl c_this_spots)))] sz) [(a_this, .inr (0, [.ref a_this_spots, .ref a_this_found, .ref a_this_turnedSeen, .ref a_this_chosen, .ref a_this_best, .int c_this_pieces, .int c_this_ways])), (a_this_found, .inl (cI, 4, .inl u_this_found)), (a_this_spots, .inl (cJ, 384, .inr (.inl u_this_spots)))]) (va_A [(a_this, .inr (0, [.ref a_this_spots, .ref a_this_found, .ref a_this_turnedSeen, .ref a_this_chosen, .ref a_this_best, .int c_this_pieces, .int c_this_ways])), (a_this_found, .inl (cI, 4, .inl c_this_found)), (a_this_spots, .inl (cJ, 384, .inr (.inl c_this_spots)))] sz)) 0 0 (va_A [(a_this, .inr (0, [.ref a_this_spots, .ref a_this_found, .ref a_this_turnedSeen, .ref a_this_chosen, .ref a_this_best, .int c_this_pieces, .int c_this_ways])), (a_this_found, .inl (cI, 4, .inl c_this_found)), (a_this_spots, .inl (cJ, 384, .inr (.inl c_this_spots)))] sz) := by
  refine Met.ofW (cc := cX1_addIfWithin) (maxL := 6) (ret := none) (by decide) rfl ?_
  intro p e s m args below meth c s₁ B hml hv
  obtain ⟨rfl, hsz, hP, hK, hD0⟩ := hv
  have hx := B.exec
  have hb := B.bytes
  have hr := B.returns
  have hts := atoms_spec (ws := wsX1_addIfWithin) B.pre
  have hown : s.vm.findClass RX1 = some m.cls := findClass_of_methodNamed B.named
  have hlocks := B.notSynchronized
  have hN := hK.2
  subst hsz
  have hD := hD0.self (sz := s.heap.size)
  generalize hAe : va_A [(a_this, .inr (0, [.ref a_this_spots, .ref a_this_found, .ref a_this_turnedSeen, .ref a_this_chosen, .ref a_this_best, .int c_this_pieces, .int c_this_ways])), (a_this_found, .inl (cI, 4, .inl c_this_found)), (a_this_spots, .inl (cJ, 384, .inr (.inl c_this_spots)))] s.heap.size = A at hD ⊢
  have hA : ∀ q : Nat, s.heap.size ≤ q → A q := fun q h => by rw [← hAe]; exact Or.inr h
  have hS : va_S A s.heap s.heap [] := va_S.rf
  have hl := lv_entry ([.ref a_this, .int x1, .long x2, .long x4]) (n := 6) (Nat.le_of_ble_eq_true rfl)
  rw [lg_entry_eq]
  generalize (lg_sl ([.ref a_this, .int x1, .long x2, .long x4]) ++ List.replicate (6 - (lg_sl ([.ref a_this, .int x1, .long x2, .long x4])).length) Slot.unset).toArray = ls at hl ⊢
  have hl : lv_has ls 6 [(0, .ref a_this), (1, .int x1), (2, .long x2), (4, .long x4)] := hl
  refine hk_Q (fun Q hQ => ?_)
  have h := hf
  unfold f_X1_addIfWithin at h
  refine lv_lload_n hx hb dX1_addIfWithin_0 rfl (lv_at hl 2 rfl) ?_
  refine lv_lload hx hb dX1_addIfWithin_1 (lv_at hl 3 rfl) ?_
  refine lv_ldc2 (v := (-1 : Int64)) hx hb hown (hts (.constantLong RX1 72 (-1)) (List.mem_of_getElem? (i := 1) rfl)) dX1_addIfWithin_3 ?_
  refine lv_lxor hx hb dX1_addIfWithin_6 ?_
  refine lv_land hx hb dX1_addIfWithin_7 ?_
  refine lv_lconst (v := (0 : Int64)) hx hb dX1_addIfWithin_8 (by decide) ?_
  refine hk_lcmp_ne (tgt := 51) hx hb dX1_addIfWithin_9 dX1_addIfWithin_10 (by decide) (fun c21 => ?_) (fun c21 => ?_)
  · replace h := hk_in c21 h
    subst hQ
    have h := Option.some.inj h
    simp only [Prod.mk.injEq] at h
    obtain ⟨rfl, rfl⟩ := h
    exact W.vret hx hb hr (fun t ht hW => ⟨⟨(), rfl, trivial, by rw [ht]; exact hP, hD⟩, hS.F ht⟩) hS.2.2 dX1_addIfWithin_51
  replace h := hk_ip c21 h
  refine lv_aload_n hx hb dX1_addIfWithin_13 rfl (lv_at hl 0 rfl) ?_
  refine va_get (D := D) (ci := 0) (v := .ref a_this_found) (C := RX1) (T := TX1) (N := 7) hx hb hts zi_X1_addIfWithin_X1 hown hK.1 hP 0 rfl rfl 1 (by decide) (hts (.fieldLink RX1 15 "HalfAndHalfAgain$Cover" "found" "[I") (List.mem_of_getElem? (i := 2) rfl)) (fun _ h9 => h9) rfl dX1_addIfWithin_14 ?_
  refine lv_iload_n hx hb dX1_addIfWithin_17 rfl (lv_at hl 1 rfl) ?_
  obtain ⟨hi22, h⟩ := hk_ge h
  refine va_iald hx hb hK.1 hP 1 0 rfl rfl (hk_inb_of hi22) dX1_addIfWithin_18 ?_
  refine lv_bipush (v := (96 : Int32)) hx hb dX1_addIfWithin_19 (by decide) ?_
  refine lv_icmp_ge (tgt := 51) hx hb dX1_addIfWithin_21 (by decide) (fun c23 => ?_) (fun c23 => ?_)
  · replace h := hk_ip c23 h
    subst hQ
    have h := Option.some.inj h
    simp only [Prod.mk.injEq] at h
    obtain ⟨rfl, rfl⟩ := h
    exact W.vret hx hb hr (fun t ht hW => ⟨⟨(), rfl, trivial, by rw [ht]; exact hP, hD⟩, hS.F ht⟩) hS.2.2 dX1_addIfWithin_51
  replace h := hk_in c23 h
  refine lv_aload_n hx hb dX1_addIfWithin_24 rfl (lv_at hl 0 rfl) ?_
  refine va_get (D := D) (ci := 0) (v := .ref a_this_spots) (C := RX1) (T := TX1) (N := 7) hx hb hts zi_X1_addIfWithin_X1 hown hK.1 hP 0 rfl rfl 0 (by decide) (hts (.fieldLink RX1 11 "HalfAndHalfAgain$Cover" "spots" "[J") (List.mem_of_getElem? (i := 3) rfl)) (fun _ h9 => h9) rfl dX1_addIfWithin_25 ?_
  refine lv_iload_n hx hb dX1_addIfWithin_28 rfl (lv_at hl 1 rfl) ?_
  refine lv_bipush (v := (96 : Int32)) hx hb dX1_addIfWithin_29 (by decide) ?_
  refine lv_imul hx hb dX1_addIfWithin_31 ?_
  refine lv_aload_n hx hb dX1_addIfWithin_32 rfl (lv_at hl 0 rfl) ?_
  refine va_get (D := D) (ci := 0) (v := .ref a_this_found) (C := RX1) (T := TX1) (N := 7) hx hb hts zi_X1_addIfWithin_X1 hown hK.1 hP 0 rfl rfl 1 (by decide) (hts (.fieldLink RX1 15 "HalfAndHalfAgain$Cover" "found" "[I") (List.mem_of_getElem? (i := 2) rfl)) (fun _ h9 => h9) rfl dX1_addIfWithin_33 ?_
  refine lv_iload_n hx hb dX1_addIfWithin_36 rfl (lv_at hl 1 rfl) ?_
  obtain ⟨hi24, h⟩ := hk_ge h
  refine va_iald hx hb hK.1 hP 1 0 rfl rfl (hk_inb_of hi24) dX1_addIfWithin_37 ?_
  refine lv_iadd hx hb dX1_addIfWithin_38 ?_
  refine lv_lload_n hx hb dX1_addIfWithin_39 rfl (lv_at hl 2 rfl) ?_
  obtain ⟨hi25, h⟩ := hk_ge h
  refine va_last hx hb hK.1 hP hD hS 2 1 rfl rfl (hk_inb_of hi25) dX1_addIfWithin_40 (fun H locs hP hD hS => ?_)
  have hP : va_P D vwCl [(a_this, .inr (0, [.ref a_this_spots, .ref a_this_found, .ref a_this_turnedSeen, .ref a_this_chosen, .ref a_this_best, .int c_this_pieces, .int c_this_ways])), (a_this_found, .inl (cI, 4, .inl c_this_found)), (a_this_spots, .inl (cJ, 384, .inr (.inl (vp_updL c_this_spots ((x1 * (96 : Int32)) + (c_this_found x1.toNatClampNeg)).toNatClampNeg x2))))] H := hP
  have hD : va_D A [(a_this, .inr (0, [.ref a_this_spots, .ref a_this_found, .ref a_this_turnedSeen, .ref a_this_chosen, .ref a_this_best, .int c_this_pieces, .int c_this_ways])), (a_this_found, .inl (cI, 4, .inl c_this_found)), (a_this_spots, .inl (cJ, 384, .inr (.inl (vp_updL c_this_spots ((x1 * (96 : Int32)) + (c_this_found x1.toNatClampNeg)).toNatClampNeg x2))))] := hD
  refine lv_aload_n hx hb dX1_addIfWithin_41 rfl (lv_at hl 0 rfl) ?_
  refine va_get (D := D) (ci := 0) (v := .ref a_this_found) (C := RX1) (T := TX1) (N := 7) hx hb hts zi_X1_addIfWithin_X1 hown hK.1 hP 0 rfl rfl 1 (by decide) (hts (.fieldLink RX1 15 "HalfAndHalfAgain$Cover" "found" "[I") (List.mem_of_getElem? (i := 2) rfl)) (fun _ h9 => h9) rfl dX1_addIfWithin_42 ?_
  refine lv_iload_n hx hb dX1_addIfWithin_45 rfl (lv_at hl 1 rfl) ?_
  refine lv_dup2_11 hx hb dX1_addIfWithin_46 rfl rfl ?_
  obtain ⟨hi26, h⟩ := hk_ge h
  refine va_iald hx hb hK.1 hP 1 0 rfl rfl (hk_inb_of hi26) dX1_addIfWithin_47 ?_
  refine lv_iconst (v := (1 : Int32)) hx hb dX1_addIfWithin_48 (by decide) ?_
  refine lv_iadd hx hb dX1_addIfWithin_49 ?_
  obtain ⟨hi27, h⟩ := hk_ge h
  refine va_iast hx hb hK.1 hP hD hS 1 0 rfl rfl (hk_inb_of hi27) dX1_addIfWithin_50 (fun H locs hP hD hS => ?_)
  have hP : va_P D vwCl [(a_this, .inr (0, [.ref a_this_spots, .ref a_this_found, .ref a_this_turnedSeen, .ref a_this_chosen, .ref a_this_best, .int c_this_pieces, .int c_this_ways])), (a_this_found, .inl (cI, 4, .inl (upd c_this_found x1.toNatClampNeg ((c_this_found x1.toNatClampNeg) + (1 : Int32))))), (a_this_spots, .inl (cJ, 384, .inr (.inl (vp_updL c_this_spots ((x1 * (96 : Int32)) + (c_this_found x1.toNatClampNeg)).toNatClampNeg x2))))] H := hP
  have hD : va_D A [(a_this, .inr (0, [.ref a_this_spots, .ref a_this_found, .ref a_this_turnedSeen, .ref a_this_chosen, .ref a_this_best, .int c_this_pieces, .int c_this_ways])), (a_this_found, .inl (cI, 4, .inl (upd c_this_found x1.toNatClampNeg ((c_this_found x1.toNatClampNeg) + (1 : Int32))))), (a_this_spots, .inl (cJ, 384, .inr (.inl (vp_updL c_this_spots ((x1 * (96 : Int32)) + (c_this_found x1.toNatClampNeg)).toNatClampNeg x2))))] := hD
  subst hQ
  have h := Option.some.inj h
  simp only [Prod.mk.injEq] at h
  obtain ⟨rfl, rfl⟩ := h
  exact W.vret hx hb hr (fun t ht hW => ⟨⟨(), rfl, trivial, by rw [ht]; exact hP, hD⟩, hS.F ht⟩) hS.2.2 dX1_addIfWithin_51
theorem zv_X1_findShifts : yX1_findShifts.cls = RX1 ∧ yX1_findShifts.cls ≠ "java/lang/invoke/MethodHandle" ∧ yX1_findShifts.cls ≠ "java/lang/invoke/VarHandle" ∧ (parseMethodDescriptor yX1_findShifts.desc).map (fun d => d.parameters.length) = some 3 := by decide +kernel
def st_X1_findShifts_12c (x1 : Int32) (x2 : Int64) (x4 : Int64) (y22 : Int32) (y27 : Int32) (w28 : Nat → Int32) (w29 : Nat → Int64) : Option ((Int32 × (Nat → Int32) × (Nat → Int64)) ⊕ ((Nat → Int32) × (Nat → Int64))) := if (4 : Int32) ≤ y27 then (some (.inr (w28, w29))) else (hk_b1 (f_X3_staysOnBoard x2 y27 y22) fun r31 => hk_b2 (if r31 = 0 then (some (w28, w29)) else (hk_b1 (f_X3_shifted x2 y27 y22) fun r37 => hk_b2 (f_X1_addIfWithin w28 w29 x1 r37 x4) fun u41 u42 => some (u41, u42))) fun v45 v46 => hk_let (y27 + (1 : Int32)) fun x47 => some (.inl (x47, v45, v46)))
def st_X1_findShifts_12 (x1 : Int32) (x2 : Int64) (x4 : Int64) (y22 : Int32) (t9 : (Int32 × (Nat → Int32) × (Nat → Int64))) : Option ((Int32 × (Nat → Int32) × (Nat → Int64)) ⊕ ((Nat → Int32) × (Nat → Int64))) := st_X1_findShifts_12c x1 x2 x4 y22 t9.1 t9.2.1 t9.2.2
def st_X1_findShifts_3c (x1 : Int32) (x2 : Int64) (x4 : Int64) (y22 : Int32) (w23 : Nat → Int32) (w24 : Nat → Int64) : Option ((Int32 × (Nat → Int32) × (Nat → Int64)) ⊕ ((Nat → Int32) × (Nat → Int64))) := if (4 : Int32) ≤ y22 then (some (.inr (w23, w24))) else (hk_b2 (hk_wl (st_X1_findShifts_12 x1 x2 x4 y22) hkF ((0 : Int32), w23, w24)) fun v49 v50 => hk_let (y22 + (1 : Int32)) fun x53 => some (.inl (x53, v49, v50)))
def st_X1_findShifts_3 (x1 : Int32) (x2 : Int64) (x4 : Int64) (t9 : (Int32 × (Nat → Int32) × (Nat → Int64))) : Option ((Int32 × (Nat → Int32) × (Nat → Int64)) ⊕ ((Nat → Int32) × (Nat → Int64))) := st_X1_findShifts_3c x1 x2 x4 t9.1 t9.2.1 t9.2.2
def f_X1_findShifts (c_this_found : Nat → Int32) (c_this_spots : Nat → Int64)  (x1 : Int32) (x2 : Int64) (x4 : Int64) : Option ((Nat → Int32) × (Nat → Int64)) := hk_b2 (hk_wl (st_X1_findShifts_3 x1 x2 x4) hkF ((0 : Int32), c_this_found, c_this_spots)) fun v55 v56 => some (v55, v56)
set_option maxHeartbeats 8000000 in
set_option maxRecDepth 100000 in
theorem c_X1_findShifts (l : Launch) (D : va_G) (cI cJ cZ cO : ClassId) (a_this a_this_spots a_this_found a_this_turnedSeen a_this_chosen a_this_best : Nat) (sz : Nat) (c_this_pieces : Int32) (c_this_ways : Int32) (c_this_found : Nat → Int32) (c_this_spots : Nat → Int64) (x1 : Int32) (x2 : Int64) (x4 : Int64) (u_this_found : Nat → Int32) (u_this_spots : Nat → Int64) (hf : f_X1_findShifts c_this_found c_this_spots x1 x2 x4 = some (u_this_found, u_this_spots)) : Met l yX1_findShifts wsX1_findShifts ({ frames := 2, cells := 0, slots := 0, locals := 45 }) (va_Pc [.ref a_this, .int x1, .long x2, .long x4] (hkM D cI cJ cZ cO [(a_this, .inr (0, [.ref a_this_spots, .ref a_this_found, .ref a_this_turnedSeen, .ref a_this_chosen, .ref a_this_best, .int c_this_pieces, .int c_this_ways])), (a_this_found, .inl (cI, 4, .inl c_this_found)), (a_this_spots, .inl (cJ, 384, .inr (.inl c_this_spots)))] sz)) (va_Qv (fun (_ : Unit) => True) (fun _ t => va_P D vwCl [(a_this, .inr (0, [.ref a_this_spots, .ref a_this_found, .ref a_this_turnedSeen, .ref a_this_chosen, .ref a_this_best, .int c_this_pieces, .int c_this_ways])), (a_this_found, .inl (cI, 4, .inl u_this_found)), (a_this_spots, .inl (cJ, 384, .inr (.inl u_this_spots)))] t.heap ∧ va_D (va_A [(a_this, .inr (0, [.ref a_this_spots, .ref a_this_found, .ref a_this_turnedSeen, .ref a_this_chosen, .ref a_this_best, .int c_this_pieces, .int c_this_ways])), (a_this_found, .inl (cI, 4, .inl c_this_found)), (a_this_spots, .inl (cJ, 384, .inr (.inl c_this_spots)))] sz) [(a_this, .inr (0, [.ref a_this_spots, .ref a_this_found, .ref a_this_turnedSeen, .ref a_this_chosen, .ref a_this_best, .int c_this_pieces, .int c_this_ways])), (a_this_found, .inl (cI, 4, .inl u_this_found)), (a_this_spots, .inl (cJ, 384, .inr (.inl u_this_spots)))]) (va_A [(a_this, .inr (0, [.ref a_this_spots, .ref a_this_found, .ref a_this_turnedSeen, .ref a_this_chosen, .ref a_this_best, .int c_this_pieces, .int c_this_ways])), (a_this_found, .inl (cI, 4, .inl c_this_found)), (a_this_spots, .inl (cJ, 384, .inr (.inl c_this_spots)))] sz)) 0 0 (va_A [(a_this, .inr (0, [.ref a_this_spots, .ref a_this_found, .ref a_this_turnedSeen, .ref a_this_chosen, .ref a_this_best, .int c_this_pieces, .int c_this_ways])), (a_this_found, .inl (cI, 4, .inl c_this_found)), (a_this_spots, .inl (cJ, 384, .inr (.inl c_this_spots)))] sz) := by
  refine Met.ofW (cc := cX1_findShifts) (maxL := 8) (ret := none) (by decide) rfl ?_
  intro p e s m args below meth c s₁ B hml hv
  obtain ⟨rfl, hsz, hP, hK, hD0⟩ := hv
  have hx := B.exec
  have hb := B.bytes
  have hr := B.returns
  have hts := atoms_spec (ws := wsX1_findShifts) B.pre
  have hown : s.vm.findClass RX1 = some m.cls := findClass_of_methodNamed B.named
  have hlocks := B.notSynchronized
  have hN := hK.2
  subst hsz
  have hD := hD0.self (sz := s.heap.size)
  generalize hAe : va_A [(a_this, .inr (0, [.ref a_this_spots, .ref a_this_found, .ref a_this_turnedSeen, .ref a_this_chosen, .ref a_this_best, .int c_this_pieces, .int c_this_ways])), (a_this_found, .inl (cI, 4, .inl c_this_found)), (a_this_spots, .inl (cJ, 384, .inr (.inl c_this_spots)))] s.heap.size = A at hD ⊢
  have hA : ∀ q : Nat, s.heap.size ≤ q → A q := fun q h => by rw [← hAe]; exact Or.inr h
  have hS : va_S A s.heap s.heap [] := va_S.rf
  have hl := lv_entry ([.ref a_this, .int x1, .long x2, .long x4]) (n := 8) (Nat.le_of_ble_eq_true rfl)
  rw [lg_entry_eq]
  generalize (lg_sl ([.ref a_this, .int x1, .long x2, .long x4]) ++ List.replicate (8 - (lg_sl ([.ref a_this, .int x1, .long x2, .long x4])).length) Slot.unset).toArray = ls at hl ⊢
  have hl : lv_has ls 8 [(0, .ref a_this), (1, .int x1), (2, .long x2), (4, .long x4)] := hl
  refine hk_Q (fun Q hQ => ?_)
  have h := hf
  unfold f_X1_findShifts at h
  refine lv_iconst (v := (0 : Int32)) hx hb dX1_findShifts_0 (by decide) ?_
  refine lv_istore (lv' := [(6, .int (0 : Int32)), (0, .ref a_this), (1, .int x1), (2, .long x2), (4, .long x4)]) hx hb dX1_findShifts_1 hl (by decide) rfl (fun ls hl => ?_)
  obtain ⟨v55, v56, hr54, h⟩ := hk_x2 h
  refine hk_loopM (f := st_X1_findShifts_3 x1 x2 x4) (hd := 3) (nL := 8) (lv := fun t9 => [(0, .ref a_this), (1, .int x1), (2, .long x2), (4, .long x4), (6, .int t9.1)]) (wf := fun t9 => [(a_this, .inr (0, [.ref a_this_spots, .ref a_this_found, .ref a_this_turnedSeen, .ref a_this_chosen, .ref a_this_best, .int c_this_pieces, .int c_this_ways])), (a_this_found, .inl (cI, 4, .inl t9.2.1)), (a_this_spots, .inl (cJ, 384, .inr (.inl t9.2.2)))]) (xs := fun t9 => (56, [], [], [(a_this, .inr (0, [.ref a_this_spots, .ref a_this_found, .ref a_this_turnedSeen, .ref a_this_chosen, .ref a_this_best, .int c_this_pieces, .int c_this_ways])), (a_this_found, .inl (cI, 4, .inl t9.1)), (a_this_spots, .inl (cJ, 384, .inr (.inl t9.2)))])) ?_ hr54 ?_ hP hD hS (lv_sub hl [1, 2, 3, 4, 0] rfl)
  · intro t57 q58 k21 hck21 hqk21 H locs ls hP hD hS hl
    obtain ⟨y22, w23, w24⟩ := t57
    have k21 : st_X1_findShifts_3c x1 x2 x4 y22 w23 w24 = some q58 := k21
    unfold st_X1_findShifts_3c at k21
    have hl : lv_has ls 8 [(0, .ref a_this), (1, .int x1), (2, .long x2), (4, .long x4), (6, .int y22)] := hl
    have hP : va_P D vwCl [(a_this, .inr (0, [.ref a_this_spots, .ref a_this_found, .ref a_this_turnedSeen, .ref a_this_chosen, .ref a_this_best, .int c_this_pieces, .int c_this_ways])), (a_this_found, .inl (cI, 4, .inl w23)), (a_this_spots, .inl (cJ, 384, .inr (.inl w24)))] H := hP
    have hD : va_D A [(a_this, .inr (0, [.ref a_this_spots, .ref a_this_found, .ref a_this_turnedSeen, .ref a_this_chosen, .ref a_this_best, .int c_this_pieces, .int c_this_ways])), (a_this_found, .inl (cI, 4, .inl w23)), (a_this_spots, .inl (cJ, 384, .inr (.inl w24)))] := hD
    refine lv_iload hx hb dX1_findShifts_3 (lv_at hl 4 rfl) ?_
    refine lv_iconst (v := (4 : Int32)) hx hb dX1_findShifts_5 (by decide) ?_
    refine lv_icmp_ge (tgt := 56) hx hb dX1_findShifts_6 (by decide) (fun c25 => ?_) (fun c25 => ?_)
    · replace k21 := hk_ip c25 k21
      exact hqk21 (w23, w24) (Option.some.inj k21).symm H locs ls hP hD hS (lv_sub hl [] rfl)
    replace k21 := hk_in c25 k21
    refine lv_iconst (v := (0 : Int32)) hx hb dX1_findShifts_9 (by decide) ?_
    refine lv_istore (lv' := [(7, .int (0 : Int32)), (0, .ref a_this), (1, .int x1), (2, .long x2), (4, .long x4), (6, .int y22)]) hx hb dX1_findShifts_10 hl (by decide) rfl (fun ls hl => ?_)
    obtain ⟨v49, v50, hr48, k21⟩ := hk_x2 k21
    refine hk_loopM (f := st_X1_findShifts_12 x1 x2 x4 y22) (hd := 12) (nL := 8) (lv := fun t9 => [(0, .ref a_this), (1, .int x1), (2, .long x2), (4, .long x4), (6, .int y22), (7, .int t9.1)]) (wf := fun t9 => [(a_this, .inr (0, [.ref a_this_spots, .ref a_this_found, .ref a_this_turnedSeen, .ref a_this_chosen, .ref a_this_best, .int c_this_pieces, .int c_this_ways])), (a_this_found, .inl (cI, 4, .inl t9.2.1)), (a_this_spots, .inl (cJ, 384, .inr (.inl t9.2.2)))]) (xs := fun t9 => (50, [(0, .ref a_this), (1, .int x1), (2, .long x2), (4, .long x4), (6, .int y22)], [], [(a_this, .inr (0, [.ref a_this_spots, .ref a_this_found, .ref a_this_turnedSeen, .ref a_this_chosen, .ref a_this_best, .int c_this_pieces, .int c_this_ways])), (a_this_found, .inl (cI, 4, .inl t9.1)), (a_this_spots, .inl (cJ, 384, .inr (.inl t9.2)))])) ?_ hr48 ?_ hP hD hS (lv_sub hl [1, 2, 3, 4, 5, 0] rfl)
    · intro t51 q52 k26 hck26 hqk26 H locs ls hP hD hS hl
      obtain ⟨y27, w28, w29⟩ := t51
      have k26 : st_X1_findShifts_12c x1 x2 x4 y22 y27 w28 w29 = some q52 := k26
      unfold st_X1_findShifts_12c at k26
      have hl : lv_has ls 8 [(0, .ref a_this), (1, .int x1), (2, .long x2), (4, .long x4), (6, .int y22), (7, .int y27)] := hl
      have hP : va_P D vwCl [(a_this, .inr (0, [.ref a_this_spots, .ref a_this_found, .ref a_this_turnedSeen, .ref a_this_chosen, .ref a_this_best, .int c_this_pieces, .int c_this_ways])), (a_this_found, .inl (cI, 4, .inl w28)), (a_this_spots, .inl (cJ, 384, .inr (.inl w29)))] H := hP
      have hD : va_D A [(a_this, .inr (0, [.ref a_this_spots, .ref a_this_found, .ref a_this_turnedSeen, .ref a_this_chosen, .ref a_this_best, .int c_this_pieces, .int c_this_ways])), (a_this_found, .inl (cI, 4, .inl w28)), (a_this_spots, .inl (cJ, 384, .inr (.inl w29)))] := hD
      refine lv_iload hx hb dX1_findShifts_12 (lv_at hl 5 rfl) ?_
      refine lv_iconst (v := (4 : Int32)) hx hb dX1_findShifts_14 (by decide) ?_
      refine lv_icmp_ge (tgt := 50) hx hb dX1_findShifts_15 (by decide) (fun c30 => ?_) (fun c30 => ?_)
      · replace k26 := hk_ip c30 k26
        exact hqk26 (w28, w29) (Option.some.inj k26).symm H locs ls hP hD hS (lv_sub hl [0, 1, 2, 3, 4] rfl)
      replace k26 := hk_in c30 k26
      refine lv_lload_n hx hb dX1_findShifts_18 rfl (lv_at hl 2 rfl) ?_
      refine lv_iload hx hb dX1_findShifts_19 (lv_at hl 5 rfl) ?_
      refine lv_iload hx hb dX1_findShifts_21 (lv_at hl 4 rfl) ?_
      obtain ⟨r31, hr32, k26⟩ := hk_x1 k26
      refine vp_callSi (W.runS (As := [.long x2, .int y27, .int y22]) (rest := []) ⟨hx, hb, hml, hown, hts⟩ (c_X3_staysOnBoard l x2 y27 y22 _ hr32) (va_cwS 3 hts gX1_findShifts_X3_staysOnBoard rfl rfl rfl zs_X3_staysOnBoard ⟨Nat.le_of_ble_eq_true rfl, Nat.le_of_ble_eq_true rfl⟩) ⟨fun _ _ _ _ q => q, fun _ _ _ => ⟨rfl, trivial⟩⟩ rfl rfl hl.1 rfl (lv_room (Nat.le_of_ble_eq_true rfl)) dX1_findShifts_23 ⟨Nat.zero_le _, Nat.zero_le _⟩) (fun p34 e33 => ?_)
      rw [e33]
      obtain ⟨v45, v46, g35, k26⟩ := hk_x2 k26
      refine hk_joinM (D := D) (cl := vwCl) (A := A) (H0 := s.heap) (nL := 8) (xs := fun (t9 : ((Nat → Int32) × (Nat → Int64))) => (44, [(0, .ref a_this), (1, .int x1), (2, .long x2), (4, .long x4), (6, .int y22), (7, .int y27)], [], [(a_this, .inr (0, [.ref a_this_spots, .ref a_this_found, .ref a_this_turnedSeen, .ref a_this_chosen, .ref a_this_best, .int c_this_pieces, .int c_this_ways])), (a_this_found, .inl (cI, 4, .inl t9.1)), (a_this_spots, .inl (cJ, 384, .inr (.inl t9.2)))])) (v45, v46) (fun hjg35 => ?_) ?_
      · refine lv_if_eq (tgt := 44) hx hb dX1_findShifts_26 (by decide) (fun c36 => ?_) (fun c36 => ?_)
        · replace g35 := hk_ip c36 g35
          have g35 := Option.some.inj g35
          simp only [Prod.mk.injEq] at g35
          obtain ⟨rfl, rfl⟩ := g35
          exact hjg35 H locs ls hP hD hS (lv_sub hl [0, 1, 2, 3, 4, 5] rfl)
        replace g35 := hk_in c36 g35
        refine lv_aload_n hx hb dX1_findShifts_29 rfl (lv_at hl 0 rfl) ?_
        refine lv_iload_n hx hb dX1_findShifts_30 rfl (lv_at hl 1 rfl) ?_
        refine lv_lload_n hx hb dX1_findShifts_31 rfl (lv_at hl 2 rfl) ?_
        refine lv_iload hx hb dX1_findShifts_32 (lv_at hl 5 rfl) ?_
        refine lv_iload hx hb dX1_findShifts_34 (lv_at hl 4 rfl) ?_
        obtain ⟨r37, hr38, g35⟩ := hk_x1 g35
        refine vp_callSl (W.runS (As := [.long x2, .int y27, .int y22]) (rest := [.int x1, .ref a_this]) ⟨hx, hb, hml, hown, hts⟩ (c_X3_shifted l x2 y27 y22 _ hr38) (va_cwS 3 hts gX1_findShifts_X3_shifted rfl rfl rfl zs_X3_shifted ⟨Nat.le_of_ble_eq_true rfl, Nat.le_of_ble_eq_true rfl⟩) ⟨fun _ _ _ _ q => q, fun _ _ _ => ⟨rfl, trivial⟩⟩ rfl rfl hl.1 rfl (lv_room (Nat.le_of_ble_eq_true rfl)) dX1_findShifts_36 ⟨Nat.zero_le _, Nat.zero_le _⟩) (fun p40 e39 => ?_)
        rw [e39]
        refine lv_lload hx hb dX1_findShifts_39 (lv_at hl 3 rfl) ?_
        obtain ⟨u41, u42, hr43, g35⟩ := hk_x2 g35
        have hPc := hP.sub (ws' := [(a_this, .inr (0, [.ref a_this_spots, .ref a_this_found, .ref a_this_turnedSeen, .ref a_this_chosen, .ref a_this_best, .int c_this_pieces, .int c_this_ways])), (a_this_found, .inl (cI, 4, .inl w28)), (a_this_spots, .inl (cJ, 384, .inr (.inl w29)))]) [0, 1, 2] rfl
        have hDc := hD.sub (ws' := [(a_this, .inr (0, [.ref a_this_spots, .ref a_this_found, .ref a_this_turnedSeen, .ref a_this_chosen, .ref a_this_best, .int c_this_pieces, .int c_this_ways])), (a_this_found, .inl (cI, 4, .inl w28)), (a_this_spots, .inl (cJ, 384, .inr (.inl w29)))]) [0, 1, 2] (by decide) rfl
        have hFc := va_free (wc := [(a_this, .inr (0, [.ref a_this_spots, .ref a_this_found, .ref a_this_turnedSeen, .ref a_this_chosen, .ref a_this_best, .int c_this_pieces, .int c_this_ways])), (a_this_found, .inl (cI, 4, .inl w28)), (a_this_spots, .inl (cJ, 384, .inr (.inl w29)))]) hD hS hA [0, 1, 2] rfl
        refine va_callv (va_runV (As := [.int x1, .long r37, .long x4]) (rest := []) ⟨hx, hb, hml, hown, hts⟩ (c_X1_addIfWithin l D cI cJ cZ cO a_this a_this_spots a_this_found a_this_turnedSeen a_this_chosen a_this_best H.size c_this_pieces c_this_ways w28 w29 x1 r37 x4 _ _ hr43) (cwV 3 hts gX1_findShifts_X1_addIfWithin rfl rfl rfl zv_X1_addIfWithin ⟨Nat.le_of_ble_eq_true rfl, Nat.le_of_ble_eq_true rfl⟩) (hk_preMV 0 rfl hPc hDc hK rfl) rfl rfl hl.1 rfl (lv_room (Nat.le_of_ble_eq_true rfl)) dX1_findShifts_41 ⟨Nat.zero_le _, Nat.zero_le _⟩) hS (fun q _ h9 => hFc q h9) hFc (fun u9 t9 H1 locs ht hvm hw hB hz1 hk1 hS => ?_)
        obtain ⟨hP1, hD1⟩ := hB
        rw [ht] at hP1
        obtain ⟨hP, hD⟩ := va_join (wr := []) (w1 := [(a_this, .inr (0, [.ref a_this_spots, .ref a_this_found, .ref a_this_turnedSeen, .ref a_this_chosen, .ref a_this_best, .int c_this_pieces, .int c_this_ways])), (a_this_found, .inl (cI, 4, .inl u41)), (a_this_spots, .inl (cJ, 384, .inr (.inl u42)))]) hP hD [0, 1, 2] [] rfl rfl (by decide) (by decide) hk1 hFc hP1 hD1
        generalize H1 = H at hP hS ⊢
        have hP := hP.sub (ws' := [(a_this, .inr (0, [.ref a_this_spots, .ref a_this_found, .ref a_this_turnedSeen, .ref a_this_chosen, .ref a_this_best, .int c_this_pieces, .int c_this_ways])), (a_this_found, .inl (cI, 4, .inl u41)), (a_this_spots, .inl (cJ, 384, .inr (.inl u42)))]) [0, 1, 2] rfl
        have hD := hD.sub (ws' := [(a_this, .inr (0, [.ref a_this_spots, .ref a_this_found, .ref a_this_turnedSeen, .ref a_this_chosen, .ref a_this_best, .int c_this_pieces, .int c_this_ways])), (a_this_found, .inl (cI, 4, .inl u41)), (a_this_spots, .inl (cJ, 384, .inr (.inl u42)))]) [0, 1, 2] (by decide) rfl
        have g35 := Option.some.inj g35
        simp only [Prod.mk.injEq] at g35
        obtain ⟨rfl, rfl⟩ := g35
        exact hjg35 H locs ls hP hD hS (lv_sub hl [0, 1, 2, 3, 4, 5] rfl)
      intro H locs ls hP hD hS hl
      have hl : lv_has ls 8 [(0, .ref a_this), (1, .int x1), (2, .long x2), (4, .long x4), (6, .int y22), (7, .int y27)] := hl
      have hP : va_P D vwCl [(a_this, .inr (0, [.ref a_this_spots, .ref a_this_found, .ref a_this_turnedSeen, .ref a_this_chosen, .ref a_this_best, .int c_this_pieces, .int c_this_ways])), (a_this_found, .inl (cI, 4, .inl v45)), (a_this_spots, .inl (cJ, 384, .inr (.inl v46)))] H := hP
      have hD : va_D A [(a_this, .inr (0, [.ref a_this_spots, .ref a_this_found, .ref a_this_turnedSeen, .ref a_this_chosen, .ref a_this_best, .int c_this_pieces, .int c_this_ways])), (a_this_found, .inl (cI, 4, .inl v45)), (a_this_spots, .inl (cJ, 384, .inr (.inl v46)))] := hD
      show W _ _ _ _ _ _ _ _ _ _ _ _ _ _ _ (F0 m 44 ls [])
      obtain ⟨x47, ex47, k26⟩ := hk_le k26
      refine lv_iinc (v := x47) (lv' := [(7, .int x47), (0, .ref a_this), (1, .int x1), (2, .long x2), (4, .long x4), (6, .int y22)]) hx hb dX1_findShifts_44 hl (k := 5) rfl (by rw [ex47]; rfl) (by decide) rfl (fun ls hl => ?_)
      refine lv_goto (tgt := 12) hx hb dX1_findShifts_47 (by decide) ?_
      exact hck26 (x47, v45, v46) (Option.some.inj k26).symm H locs ls hP hD hS (lv_sub hl [1, 2, 3, 4, 5, 0] rfl)
    intro H locs ls hP hD hS hl
    have hl : lv_has ls 8 [(0, .ref a_this), (1, .int x1), (2, .long x2), (4, .long x4), (6, .int y22)] := hl
    have hP : va_P D vwCl [(a_this, .inr (0, [.ref a_this_spots, .ref a_this_found, .ref a_this_turnedSeen, .ref a_this_chosen, .ref a_this_best, .int c_this_pieces, .int c_this_ways])), (a_this_found, .inl (cI, 4, .inl v49)), (a_this_spots, .inl (cJ, 384, .inr (.inl v50)))] H := hP
    have hD : va_D A [(a_this, .inr (0, [.ref a_this_spots, .ref a_this_found, .ref a_this_turnedSeen, .ref a_this_chosen, .ref a_this_best, .int c_this_pieces, .int c_this_ways])), (a_this_found, .inl (cI, 4, .inl v49)), (a_this_spots, .inl (cJ, 384, .inr (.inl v50)))] := hD
    show W _ _ _ _ _ _ _ _ _ _ _ _ _ _ _ (F0 m 50 ls [])
    obtain ⟨x53, ex53, k21⟩ := hk_le k21
    refine lv_iinc (v := x53) (lv' := [(6, .int x53), (0, .ref a_this), (1, .int x1), (2, .long x2), (4, .long x4)]) hx hb dX1_findShifts_50 hl (k := 4) rfl (by rw [ex53]; rfl) (by decide) rfl (fun ls hl => ?_)
    refine lv_goto (tgt := 3) hx hb dX1_findShifts_53 (by decide) ?_
    exact hck21 (x53, v49, v50) (Option.some.inj k21).symm H locs ls hP hD hS (lv_sub hl [1, 2, 3, 4, 0] rfl)
  intro H locs ls hP hD hS hl
  have hl : lv_has ls 8 [] := hl
  have hP : va_P D vwCl [(a_this, .inr (0, [.ref a_this_spots, .ref a_this_found, .ref a_this_turnedSeen, .ref a_this_chosen, .ref a_this_best, .int c_this_pieces, .int c_this_ways])), (a_this_found, .inl (cI, 4, .inl v55)), (a_this_spots, .inl (cJ, 384, .inr (.inl v56)))] H := hP
  have hD : va_D A [(a_this, .inr (0, [.ref a_this_spots, .ref a_this_found, .ref a_this_turnedSeen, .ref a_this_chosen, .ref a_this_best, .int c_this_pieces, .int c_this_ways])), (a_this_found, .inl (cI, 4, .inl v55)), (a_this_spots, .inl (cJ, 384, .inr (.inl v56)))] := hD
  show W _ _ _ _ _ _ _ _ _ _ _ _ _ _ _ (F0 m 56 ls [])
  subst hQ
  have h := Option.some.inj h
  simp only [Prod.mk.injEq] at h
  obtain ⟨rfl, rfl⟩ := h
  exact W.vret hx hb hr (fun t ht hW => ⟨⟨(), rfl, trivial, by rw [ht]; exact hP, hD⟩, hS.F ht⟩) hS.2.2 dX1_findShifts_56
theorem zv_X1_findSpots : yX1_findSpots.cls = RX1 ∧ yX1_findSpots.cls ≠ "java/lang/invoke/MethodHandle" ∧ yX1_findSpots.cls ≠ "java/lang/invoke/VarHandle" ∧ (parseMethodDescriptor yX1_findSpots.desc).map (fun d => d.parameters.length) = some 3 := by decide +kernel
def st_X1_findSpots_27c (c_p1_pieces : Nat → Int64) (x2 : Int32) (x3 : Int64) (v25 : Int32) (y27 : Int32) (w28 : Nat → Int32) (w29 : Nat → Int64) (w30 : Nat → Int64) : Option ((Int32 × (Nat → Int32) × (Nat → Int64) × (Nat → Int64)) ⊕ ((Nat → Int32) × (Nat → Int64) × (Nat → Int64))) := if v25 ≤ y27 then (some (.inr (w28, w29, w30))) else (hk_gd (hk_inb x2 4) (hk_b1 (f_X3_turned (c_p1_pieces x2.toNatClampNeg) y27) fun r33 => hk_b1 (f_X3_inCorner r33) fun r37 => hk_gd (hk_inb y27 8) (hk_b1 (f_X7_isAmong (vp_updL w29 y27.toNatClampNeg r37) 8 y27 r37) fun r42 => hk_b2 (if r42 = 0 then (hk_b2 (f_X1_findShifts w28 w30 x2 r37 x3) fun u48 u49 => some (u48, u49)) else (some (w28, w30))) fun v52 v53 => hk_let (y27 + (1 : Int32)) fun x54 => some (.inl (x54, v52, (vp_updL w29 y27.toNatClampNeg r37), v53)))))
def st_X1_findSpots_27 (c_p1_pieces : Nat → Int64) (x2 : Int32) (x3 : Int64) (v25 : Int32) (t9 : (Int32 × (Nat → Int32) × (Nat → Int64) × (Nat → Int64))) : Option ((Int32 × (Nat → Int32) × (Nat → Int64) × (Nat → Int64)) ⊕ ((Nat → Int32) × (Nat → Int64) × (Nat → Int64))) := st_X1_findSpots_27c c_p1_pieces x2 x3 v25 t9.1 t9.2.1 t9.2.2.1 t9.2.2.2
def f_X1_findSpots (c_this_found : Nat → Int32) (c_p1_mayMirror : Nat → Int32) (c_p1_pieces : Nat → Int64) (c_this_turnedSeen : Nat → Int64) (c_this_spots : Nat → Int64)  (x2 : Int32) (x3 : Int64) : Option (Int32 × (Nat → Int32) × (Nat → Int64) × (Nat → Int64)) := hk_gd (hk_inb x2 4) (hk_gd (hk_inb x2 4) (hk_let (if (c_p1_mayMirror x2.toNatClampNeg) = 0 then ((4 : Int32)) else ((8 : Int32))) fun v25 => hk_b3 (hk_wl (st_X1_findSpots_27 c_p1_pieces x2 x3 v25) hkF ((0 : Int32), (upd c_this_found x2.toNatClampNeg (0 : Int32)), c_this_turnedSeen, c_this_spots)) fun v56 v57 v58 => hk_gd (hk_inb x2 4) (some ((v56 x2.toNatClampNeg), v56, v57, v58))))
theorem zi_X1_findSpots_X1 : ∀ w ∈ u_ws RX1 TX1 7, w ∈ wsX1_findSpots := by decide +kernel
theorem zi_X1_findSpots_X5 : ∀ w ∈ u_ws RX5 TX5 4, w ∈ wsX1_findSpots := by decide +kernel
set_option maxHeartbeats 8000000 in
set_option maxRecDepth 100000 in
theorem c_X1_findSpots (l : Launch) (D : va_G) (cI cJ cZ cO : ClassId) (a_this a_this_spots a_this_found a_this_turnedSeen a_this_chosen a_this_best a_p1 a_p1_figures a_p1_pieces a_p1_mayMirror : Nat) (sz : Nat) (c_this_pieces : Int32) (c_this_ways : Int32) (c_p1_laid : Int32) (c_this_found : Nat → Int32) (c_p1_mayMirror : Nat → Int32) (c_p1_pieces : Nat → Int64) (c_this_turnedSeen : Nat → Int64) (c_this_spots : Nat → Int64) (x2 : Int32) (x3 : Int64) (rv : Int32) (u_this_found : Nat → Int32) (u_this_turnedSeen : Nat → Int64) (u_this_spots : Nat → Int64) (hf : f_X1_findSpots c_this_found c_p1_mayMirror c_p1_pieces c_this_turnedSeen c_this_spots x2 x3 = some (rv, u_this_found, u_this_turnedSeen, u_this_spots)) : Met l yX1_findSpots wsX1_findSpots ({ frames := 4, cells := 0, slots := 0, locals := 95 }) (va_Pc [.ref a_this, .ref a_p1, .int x2, .long x3] (hkM D cI cJ cZ cO [(a_this, .inr (0, [.ref a_this_spots, .ref a_this_found, .ref a_this_turnedSeen, .ref a_this_chosen, .ref a_this_best, .int c_this_pieces, .int c_this_ways])), (a_p1, .inr (1, [.ref a_p1_figures, .ref a_p1_pieces, .ref a_p1_mayMirror, .int c_p1_laid])), (a_this_found, .inl (cI, 4, .inl c_this_found)), (a_p1_mayMirror, .inl (cZ, 4, .inl c_p1_mayMirror)), (a_p1_pieces, .inl (cJ, 4, .inr (.inl c_p1_pieces))), (a_this_turnedSeen, .inl (cJ, 8, .inr (.inl c_this_turnedSeen))), (a_this_spots, .inl (cJ, 384, .inr (.inl c_this_spots)))] sz)) (va_Qi (fun r (_ : Unit) => r = rv) (fun _ t => va_P D vwCl [(a_this, .inr (0, [.ref a_this_spots, .ref a_this_found, .ref a_this_turnedSeen, .ref a_this_chosen, .ref a_this_best, .int c_this_pieces, .int c_this_ways])), (a_p1, .inr (1, [.ref a_p1_figures, .ref a_p1_pieces, .ref a_p1_mayMirror, .int c_p1_laid])), (a_this_found, .inl (cI, 4, .inl u_this_found)), (a_p1_mayMirror, .inl (cZ, 4, .inl c_p1_mayMirror)), (a_p1_pieces, .inl (cJ, 4, .inr (.inl c_p1_pieces))), (a_this_turnedSeen, .inl (cJ, 8, .inr (.inl u_this_turnedSeen))), (a_this_spots, .inl (cJ, 384, .inr (.inl u_this_spots)))] t.heap ∧ va_D (va_A [(a_this, .inr (0, [.ref a_this_spots, .ref a_this_found, .ref a_this_turnedSeen, .ref a_this_chosen, .ref a_this_best, .int c_this_pieces, .int c_this_ways])), (a_p1, .inr (1, [.ref a_p1_figures, .ref a_p1_pieces, .ref a_p1_mayMirror, .int c_p1_laid])), (a_this_found, .inl (cI, 4, .inl c_this_found)), (a_p1_mayMirror, .inl (cZ, 4, .inl c_p1_mayMirror)), (a_p1_pieces, .inl (cJ, 4, .inr (.inl c_p1_pieces))), (a_this_turnedSeen, .inl (cJ, 8, .inr (.inl c_this_turnedSeen))), (a_this_spots, .inl (cJ, 384, .inr (.inl c_this_spots)))] sz) [(a_this, .inr (0, [.ref a_this_spots, .ref a_this_found, .ref a_this_turnedSeen, .ref a_this_chosen, .ref a_this_best, .int c_this_pieces, .int c_this_ways])), (a_p1, .inr (1, [.ref a_p1_figures, .ref a_p1_pieces, .ref a_p1_mayMirror, .int c_p1_laid])), (a_this_found, .inl (cI, 4, .inl u_this_found)), (a_p1_mayMirror, .inl (cZ, 4, .inl c_p1_mayMirror)), (a_p1_pieces, .inl (cJ, 4, .inr (.inl c_p1_pieces))), (a_this_turnedSeen, .inl (cJ, 8, .inr (.inl u_this_turnedSeen))), (a_this_spots, .inl (cJ, 384, .inr (.inl u_this_spots)))]) (va_A [(a_this, .inr (0, [.ref a_this_spots, .ref a_this_found, .ref a_this_turnedSeen, .ref a_this_chosen, .ref a_this_best, .int c_this_pieces, .int c_this_ways])), (a_p1, .inr (1, [.ref a_p1_figures, .ref a_p1_pieces, .ref a_p1_mayMirror, .int c_p1_laid])), (a_this_found, .inl (cI, 4, .inl c_this_found)), (a_p1_mayMirror, .inl (cZ, 4, .inl c_p1_mayMirror)), (a_p1_pieces, .inl (cJ, 4, .inr (.inl c_p1_pieces))), (a_this_turnedSeen, .inl (cJ, 8, .inr (.inl c_this_turnedSeen))), (a_this_spots, .inl (cJ, 384, .inr (.inl c_this_spots)))] sz)) 0 0 (va_A [(a_this, .inr (0, [.ref a_this_spots, .ref a_this_found, .ref a_this_turnedSeen, .ref a_this_chosen, .ref a_this_best, .int c_this_pieces, .int c_this_ways])), (a_p1, .inr (1, [.ref a_p1_figures, .ref a_p1_pieces, .ref a_p1_mayMirror, .int c_p1_laid])), (a_this_found, .inl (cI, 4, .inl c_this_found)), (a_p1_mayMirror, .inl (cZ, 4, .inl c_p1_mayMirror)), (a_p1_pieces, .inl (cJ, 4, .inr (.inl c_p1_pieces))), (a_this_turnedSeen, .inl (cJ, 8, .inr (.inl c_this_turnedSeen))), (a_this_spots, .inl (cJ, 384, .inr (.inl c_this_spots)))] sz) := by
  refine Met.ofW (cc := cX1_findSpots) (maxL := 9) (ret := (some .int)) (by decide) rfl ?_
  intro p e s m args below meth c s₁ B hml hv
  obtain ⟨rfl, hsz, hP, hK, hD0⟩ := hv
  have hx := B.exec
  have hb := B.bytes
  have hr := B.returns
  have hts := atoms_spec (ws := wsX1_findSpots) B.pre
  have hown : s.vm.findClass RX1 = some m.cls := findClass_of_methodNamed B.named
  have hlocks := B.notSynchronized
  have hN := hK.2
  subst hsz
  have hD := hD0.self (sz := s.heap.size)
  generalize hAe : va_A [(a_this, .inr (0, [.ref a_this_spots, .ref a_this_found, .ref a_this_turnedSeen, .ref a_this_chosen, .ref a_this_best, .int c_this_pieces, .int c_this_ways])), (a_p1, .inr (1, [.ref a_p1_figures, .ref a_p1_pieces, .ref a_p1_mayMirror, .int c_p1_laid])), (a_this_found, .inl (cI, 4, .inl c_this_found)), (a_p1_mayMirror, .inl (cZ, 4, .inl c_p1_mayMirror)), (a_p1_pieces, .inl (cJ, 4, .inr (.inl c_p1_pieces))), (a_this_turnedSeen, .inl (cJ, 8, .inr (.inl c_this_turnedSeen))), (a_this_spots, .inl (cJ, 384, .inr (.inl c_this_spots)))] s.heap.size = A at hD ⊢
  have hA : ∀ q : Nat, s.heap.size ≤ q → A q := fun q h => by rw [← hAe]; exact Or.inr h
  have hS : va_S A s.heap s.heap [] := va_S.rf
  have hl := lv_entry ([.ref a_this, .ref a_p1, .int x2, .long x3]) (n := 9) (Nat.le_of_ble_eq_true rfl)
  rw [lg_entry_eq]
  generalize (lg_sl ([.ref a_this, .ref a_p1, .int x2, .long x3]) ++ List.replicate (9 - (lg_sl ([.ref a_this, .ref a_p1, .int x2, .long x3])).length) Slot.unset).toArray = ls at hl ⊢
  have hl : lv_has ls 9 [(0, .ref a_this), (1, .ref a_p1), (2, .int x2), (3, .long x3)] := hl
  refine hk_Q (fun Q hQ => ?_)
  have h := hf
  unfold f_X1_findSpots at h
  refine lv_aload_n hx hb dX1_findSpots_0 rfl (lv_at hl 0 rfl) ?_
  refine va_get (D := D) (ci := 0) (v := .ref a_this_found) (C := RX1) (T := TX1) (N := 7) hx hb hts zi_X1_findSpots_X1 hown hK.1 hP 0 rfl rfl 1 (by decide) (hts (.fieldLink RX1 15 "HalfAndHalfAgain$Cover" "found" "[I") (List.mem_of_getElem? (i := 1) rfl)) (fun _ h9 => h9) rfl dX1_findSpots_1 ?_
  refine lv_iload_n hx hb dX1_findSpots_4 rfl (lv_at hl 2 rfl) ?_
  refine lv_iconst (v := (0 : Int32)) hx hb dX1_findSpots_5 (by decide) ?_
  obtain ⟨hi21, h⟩ := hk_ge h
  refine va_iast hx hb hK.1 hP hD hS 2 0 rfl rfl (hk_inb_of hi21) dX1_findSpots_6 (fun H locs hP hD hS => ?_)
  have hP : va_P D vwCl [(a_this, .inr (0, [.ref a_this_spots, .ref a_this_found, .ref a_this_turnedSeen, .ref a_this_chosen, .ref a_this_best, .int c_this_pieces, .int c_this_ways])), (a_p1, .inr (1, [.ref a_p1_figures, .ref a_p1_pieces, .ref a_p1_mayMirror, .int c_p1_laid])), (a_this_found, .inl (cI, 4, .inl (upd c_this_found x2.toNatClampNeg (0 : Int32)))), (a_p1_mayMirror, .inl (cZ, 4, .inl c_p1_mayMirror)), (a_p1_pieces, .inl (cJ, 4, .inr (.inl c_p1_pieces))), (a_this_turnedSeen, .inl (cJ, 8, .inr (.inl c_this_turnedSeen))), (a_this_spots, .inl (cJ, 384, .inr (.inl c_this_spots)))] H := hP
  have hD : va_D A [(a_this, .inr (0, [.ref a_this_spots, .ref a_this_found, .ref a_this_turnedSeen, .ref a_this_chosen, .ref a_this_best, .int c_this_pieces, .int c_this_ways])), (a_p1, .inr (1, [.ref a_p1_figures, .ref a_p1_pieces, .ref a_p1_mayMirror, .int c_p1_laid])), (a_this_found, .inl (cI, 4, .inl (upd c_this_found x2.toNatClampNeg (0 : Int32)))), (a_p1_mayMirror, .inl (cZ, 4, .inl c_p1_mayMirror)), (a_p1_pieces, .inl (cJ, 4, .inr (.inl c_p1_pieces))), (a_this_turnedSeen, .inl (cJ, 8, .inr (.inl c_this_turnedSeen))), (a_this_spots, .inl (cJ, 384, .inr (.inl c_this_spots)))] := hD
  refine lv_aload_n hx hb dX1_findSpots_7 rfl (lv_at hl 1 rfl) ?_
  refine va_get (D := D) (ci := 1) (v := .ref a_p1_mayMirror) (C := RX5) (T := TX5) (N := 4) hx hb hts zi_X1_findSpots_X5 hown hK.1 hP 1 rfl rfl 2 (by decide) (hts (.fieldLink RX1 35 "HalfAndHalfAgain$Store" "mayMirror" "[Z") (List.mem_of_getElem? (i := 2) rfl)) (fun _ h9 => h9) rfl dX1_findSpots_8 ?_
  refine lv_iload_n hx hb dX1_findSpots_11 rfl (lv_at hl 2 rfl) ?_
  obtain ⟨hi22, h⟩ := hk_ge h
  refine va_zald hx hb hK.1 hP 3 2 rfl rfl (hk_inb_of hi22) dX1_findSpots_12 ?_
  obtain ⟨v25, g23, h⟩ := hk_lf h
  refine hk_joinR (nL := 9) (xs := fun (t9 : Int32) => (22, [(0, .ref a_this), (1, .ref a_p1), (2, .int x2), (3, .long x3)], [.int t9])) v25 (fun hjg23 => ?_) ?_
  · refine lv_if_eq (tgt := 21) hx hb dX1_findSpots_13 (by decide) (fun c24 => ?_) (fun c24 => ?_)
    · replace g23 := hk_ip c24 g23
      refine lv_iconst (v := (4 : Int32)) hx hb dX1_findSpots_21 (by decide) ?_
      subst g23
      exact hjg23 ls (lv_sub hl [0, 1, 2, 3] rfl)
    replace g23 := hk_in c24 g23
    refine lv_bipush (v := (8 : Int32)) hx hb dX1_findSpots_16 (by decide) ?_
    refine lv_goto (tgt := 22) hx hb dX1_findSpots_18 (by decide) ?_
    subst g23
    exact hjg23 ls (lv_sub hl [0, 1, 2, 3] rfl)
  intro ls hl
  have hl : lv_has ls 9 [(0, .ref a_this), (1, .ref a_p1), (2, .int x2), (3, .long x3)] := hl
  show W _ _ _ _ _ _ _ _ _ _ _ _ _ _ _ (F0 m 22 ls [.int v25])
  refine lv_istore (lv' := [(5, .int v25), (0, .ref a_this), (1, .ref a_p1), (2, .int x2), (3, .long x3)]) hx hb dX1_findSpots_22 hl (by decide) rfl (fun ls hl => ?_)
  refine lv_iconst (v := (0 : Int32)) hx hb dX1_findSpots_24 (by decide) ?_
  refine lv_istore (lv' := [(6, .int (0 : Int32)), (5, .int v25), (0, .ref a_this), (1, .ref a_p1), (2, .int x2), (3, .long x3)]) hx hb dX1_findSpots_25 hl (by decide) rfl (fun ls hl => ?_)
  obtain ⟨v56, v57, v58, hr55, h⟩ := hk_x3 h
  refine hk_loopM (f := st_X1_findSpots_27 c_p1_pieces x2 x3 v25) (hd := 27) (nL := 9) (lv := fun t9 => [(0, .ref a_this), (1, .ref a_p1), (2, .int x2), (3, .long x3), (5, .int v25), (6, .int t9.1)]) (wf := fun t9 => [(a_this, .inr (0, [.ref a_this_spots, .ref a_this_found, .ref a_this_turnedSeen, .ref a_this_chosen, .ref a_this_best, .int c_this_pieces, .int c_this_ways])), (a_p1, .inr (1, [.ref a_p1_figures, .ref a_p1_pieces, .ref a_p1_mayMirror, .int c_p1_laid])), (a_this_found, .inl (cI, 4, .inl t9.2.1)), (a_p1_mayMirror, .inl (cZ, 4, .inl c_p1_mayMirror)), (a_p1_pieces, .inl (cJ, 4, .inr (.inl c_p1_pieces))), (a_this_turnedSeen, .inl (cJ, 8, .inr (.inl t9.2.2.1))), (a_this_spots, .inl (cJ, 384, .inr (.inl t9.2.2.2)))]) (xs := fun t9 => (87, [(0, .ref a_this), (2, .int x2)], [], [(a_this, .inr (0, [.ref a_this_spots, .ref a_this_found, .ref a_this_turnedSeen, .ref a_this_chosen, .ref a_this_best, .int c_this_pieces, .int c_this_ways])), (a_p1, .inr (1, [.ref a_p1_figures, .ref a_p1_pieces, .ref a_p1_mayMirror, .int c_p1_laid])), (a_this_found, .inl (cI, 4, .inl t9.1)), (a_p1_mayMirror, .inl (cZ, 4, .inl c_p1_mayMirror)), (a_p1_pieces, .inl (cJ, 4, .inr (.inl c_p1_pieces))), (a_this_turnedSeen, .inl (cJ, 8, .inr (.inl t9.2.1))), (a_this_spots, .inl (cJ, 384, .inr (.inl t9.2.2)))])) ?_ hr55 ?_ hP hD hS (lv_sub hl [2, 3, 4, 5, 1, 0] rfl)
  · intro t59 q60 k26 hck26 hqk26 H locs ls hP hD hS hl
    obtain ⟨y27, w28, w29, w30⟩ := t59
    have k26 : st_X1_findSpots_27c c_p1_pieces x2 x3 v25 y27 w28 w29 w30 = some q60 := k26
    unfold st_X1_findSpots_27c at k26
    have hl : lv_has ls 9 [(0, .ref a_this), (1, .ref a_p1), (2, .int x2), (3, .long x3), (5, .int v25), (6, .int y27)] := hl
    have hP : va_P D vwCl [(a_this, .inr (0, [.ref a_this_spots, .ref a_this_found, .ref a_this_turnedSeen, .ref a_this_chosen, .ref a_this_best, .int c_this_pieces, .int c_this_ways])), (a_p1, .inr (1, [.ref a_p1_figures, .ref a_p1_pieces, .ref a_p1_mayMirror, .int c_p1_laid])), (a_this_found, .inl (cI, 4, .inl w28)), (a_p1_mayMirror, .inl (cZ, 4, .inl c_p1_mayMirror)), (a_p1_pieces, .inl (cJ, 4, .inr (.inl c_p1_pieces))), (a_this_turnedSeen, .inl (cJ, 8, .inr (.inl w29))), (a_this_spots, .inl (cJ, 384, .inr (.inl w30)))] H := hP
    have hD : va_D A [(a_this, .inr (0, [.ref a_this_spots, .ref a_this_found, .ref a_this_turnedSeen, .ref a_this_chosen, .ref a_this_best, .int c_this_pieces, .int c_this_ways])), (a_p1, .inr (1, [.ref a_p1_figures, .ref a_p1_pieces, .ref a_p1_mayMirror, .int c_p1_laid])), (a_this_found, .inl (cI, 4, .inl w28)), (a_p1_mayMirror, .inl (cZ, 4, .inl c_p1_mayMirror)), (a_p1_pieces, .inl (cJ, 4, .inr (.inl c_p1_pieces))), (a_this_turnedSeen, .inl (cJ, 8, .inr (.inl w29))), (a_this_spots, .inl (cJ, 384, .inr (.inl w30)))] := hD
    refine lv_iload hx hb dX1_findSpots_27 (lv_at hl 5 rfl) ?_
    refine lv_iload hx hb dX1_findSpots_29 (lv_at hl 4 rfl) ?_
    refine lv_icmp_ge (tgt := 87) hx hb dX1_findSpots_31 (by decide) (fun c31 => ?_) (fun c31 => ?_)
    · replace k26 := hk_ip c31 k26
      exact hqk26 (w28, w29, w30) (Option.some.inj k26).symm H locs ls hP hD hS (lv_sub hl [0, 2] rfl)
    replace k26 := hk_in c31 k26
    refine lv_aload_n hx hb dX1_findSpots_34 rfl (lv_at hl 1 rfl) ?_
    refine va_get (D := D) (ci := 1) (v := .ref a_p1_pieces) (C := RX5) (T := TX5) (N := 4) hx hb hts zi_X1_findSpots_X5 hown hK.1 hP 1 rfl rfl 1 (by decide) (hts (.fieldLink RX1 41 "HalfAndHalfAgain$Store" "pieces" "[J") (List.mem_of_getElem? (i := 3) rfl)) (fun _ h9 => h9) rfl dX1_findSpots_35 ?_
    refine lv_iload_n hx hb dX1_findSpots_38 rfl (lv_at hl 2 rfl) ?_
    obtain ⟨hi32, k26⟩ := hk_ge k26
    refine va_lald hx hb hK.1 hP 4 1 rfl rfl (hk_inb_of hi32) dX1_findSpots_39 ?_
    refine lv_iload hx hb dX1_findSpots_40 (lv_at hl 5 rfl) ?_
    obtain ⟨r33, hr34, k26⟩ := hk_x1 k26
    refine vp_callSl (W.runS (As := [.long (c_p1_pieces x2.toNatClampNeg), .int y27]) (rest := []) ⟨hx, hb, hml, hown, hts⟩ (c_X3_turned l (c_p1_pieces x2.toNatClampNeg) y27 _ hr34) (va_cwS 2 hts gX1_findSpots_X3_turned rfl rfl rfl zs_X3_turned ⟨Nat.le_of_ble_eq_true rfl, Nat.le_of_ble_eq_true rfl⟩) ⟨fun _ _ _ _ q => q, fun _ _ _ => ⟨rfl, trivial⟩⟩ rfl rfl hl.1 rfl (lv_room (Nat.le_of_ble_eq_true rfl)) dX1_findSpots_42 ⟨Nat.zero_le _, Nat.zero_le _⟩) (fun p36 e35 => ?_)
    rw [e35]
    obtain ⟨r37, hr38, k26⟩ := hk_x1 k26
    refine vp_callSl (W.runS (As := [.long r33]) (rest := []) ⟨hx, hb, hml, hown, hts⟩ (c_X3_inCorner l r33 _ hr38) (va_cwS 1 hts gX1_findSpots_X3_inCorner rfl rfl rfl zs_X3_inCorner ⟨Nat.le_of_ble_eq_true rfl, Nat.le_of_ble_eq_true rfl⟩) ⟨fun _ _ _ _ q => q, fun _ _ _ => ⟨rfl, trivial⟩⟩ rfl rfl hl.1 rfl (lv_room (Nat.le_of_ble_eq_true rfl)) dX1_findSpots_45 ⟨Nat.zero_le _, Nat.zero_le _⟩) (fun p40 e39 => ?_)
    rw [e39]
    refine lv_lstore (lv' := [(7, .long r37), (0, .ref a_this), (1, .ref a_p1), (2, .int x2), (3, .long x3), (5, .int v25), (6, .int y27)]) hx hb dX1_findSpots_48 hl (by decide) rfl (fun ls hl => ?_)
    refine lv_aload_n hx hb dX1_findSpots_50 rfl (lv_at hl 1 rfl) ?_
    refine va_get (D := D) (ci := 0) (v := .ref a_this_turnedSeen) (C := RX1) (T := TX1) (N := 7) hx hb hts zi_X1_findSpots_X1 hown hK.1 hP 0 rfl rfl 2 (by decide) (hts (.fieldLink RX1 19 "HalfAndHalfAgain$Cover" "turnedSeen" "[J") (List.mem_of_getElem? (i := 4) rfl)) (fun _ h9 => h9) rfl dX1_findSpots_51 ?_
    refine lv_iload hx hb dX1_findSpots_54 (lv_at hl 6 rfl) ?_
    refine lv_lload hx hb dX1_findSpots_56 (lv_at hl 0 rfl) ?_
    obtain ⟨hi41, k26⟩ := hk_ge k26
    refine va_last hx hb hK.1 hP hD hS 5 1 rfl rfl (hk_inb_of hi41) dX1_findSpots_58 (fun H locs hP hD hS => ?_)
    have hP : va_P D vwCl [(a_this, .inr (0, [.ref a_this_spots, .ref a_this_found, .ref a_this_turnedSeen, .ref a_this_chosen, .ref a_this_best, .int c_this_pieces, .int c_this_ways])), (a_p1, .inr (1, [.ref a_p1_figures, .ref a_p1_pieces, .ref a_p1_mayMirror, .int c_p1_laid])), (a_this_found, .inl (cI, 4, .inl w28)), (a_p1_mayMirror, .inl (cZ, 4, .inl c_p1_mayMirror)), (a_p1_pieces, .inl (cJ, 4, .inr (.inl c_p1_pieces))), (a_this_turnedSeen, .inl (cJ, 8, .inr (.inl (vp_updL w29 y27.toNatClampNeg r37)))), (a_this_spots, .inl (cJ, 384, .inr (.inl w30)))] H := hP
    have hD : va_D A [(a_this, .inr (0, [.ref a_this_spots, .ref a_this_found, .ref a_this_turnedSeen, .ref a_this_chosen, .ref a_this_best, .int c_this_pieces, .int c_this_ways])), (a_p1, .inr (1, [.ref a_p1_figures, .ref a_p1_pieces, .ref a_p1_mayMirror, .int c_p1_laid])), (a_this_found, .inl (cI, 4, .inl w28)), (a_p1_mayMirror, .inl (cZ, 4, .inl c_p1_mayMirror)), (a_p1_pieces, .inl (cJ, 4, .inr (.inl c_p1_pieces))), (a_this_turnedSeen, .inl (cJ, 8, .inr (.inl (vp_updL w29 y27.toNatClampNeg r37)))), (a_this_spots, .inl (cJ, 384, .inr (.inl w30)))] := hD
    refine lv_aload_n hx hb dX1_findSpots_59 rfl (lv_at hl 1 rfl) ?_
    refine va_get (D := D) (ci := 0) (v := .ref a_this_turnedSeen) (C := RX1) (T := TX1) (N := 7) hx hb hts zi_X1_findSpots_X1 hown hK.1 hP 0 rfl rfl 2 (by decide) (hts (.fieldLink RX1 19 "HalfAndHalfAgain$Cover" "turnedSeen" "[J") (List.mem_of_getElem? (i := 4) rfl)) (fun _ h9 => h9) rfl dX1_findSpots_60 ?_
    refine lv_iload hx hb dX1_findSpots_63 (lv_at hl 6 rfl) ?_
    refine lv_lload hx hb dX1_findSpots_65 (lv_at hl 0 rfl) ?_
    obtain ⟨r42, hr43, k26⟩ := hk_x1 k26
    refine vp_callSi (va_Run.run (va_runSN (As := [.ref a_this_turnedSeen, .int y27, .long r37]) (rest := []) ⟨hx, hb, hml, hown, hts⟩ (c_X7_isAmong l D cI cJ cZ cO a_this_turnedSeen (vp_updL w29 y27.toNatClampNeg r37) 8 y27 r37 _ hr43) ⟨va_cnB 3 hts ggX1_findSpots_X7_isAmong rfl rfl rfl hN.2.2.2.2.1 (hts (.initialized RX7) (List.mem_of_getElem? (i := 34) rfl)) zs_X7_isAmong ⟨Nat.le_of_ble_eq_true rfl, Nat.le_of_ble_eq_true rfl⟩, (hts (.static yX7_isAmong) (List.mem_of_getElem? (i := 33) rfl)), trivial⟩ (hk_preR (hP.sub (ws' := [(a_this_turnedSeen, .inl (cJ, 8, .inr (.inl (vp_updL w29 y27.toNatClampNeg r37))))]) [5] rfl) hK) rfl rfl hl.1 rfl (lv_room (Nat.le_of_ble_eq_true rfl)) dX1_findSpots_67 ⟨Nat.zero_le _, Nat.zero_le _⟩)) (fun p45 e44 => ?_)
    rw [e44]
    obtain ⟨v52, v53, g46, k26⟩ := hk_x2 k26
    refine hk_joinM (D := D) (cl := vwCl) (A := A) (H0 := s.heap) (nL := 9) (xs := fun (t9 : ((Nat → Int32) × (Nat → Int64))) => (81, [(0, .ref a_this), (1, .ref a_p1), (2, .int x2), (3, .long x3), (5, .int v25), (6, .int y27)], [], [(a_this, .inr (0, [.ref a_this_spots, .ref a_this_found, .ref a_this_turnedSeen, .ref a_this_chosen, .ref a_this_best, .int c_this_pieces, .int c_this_ways])), (a_p1, .inr (1, [.ref a_p1_figures, .ref a_p1_pieces, .ref a_p1_mayMirror, .int c_p1_laid])), (a_this_found, .inl (cI, 4, .inl t9.1)), (a_p1_mayMirror, .inl (cZ, 4, .inl c_p1_mayMirror)), (a_p1_pieces, .inl (cJ, 4, .inr (.inl c_p1_pieces))), (a_this_turnedSeen, .inl (cJ, 8, .inr (.inl (vp_updL w29 y27.toNatClampNeg r37)))), (a_this_spots, .inl (cJ, 384, .inr (.inl t9.2)))])) (v52, v53) (fun hjg46 => ?_) ?_
    · refine lv_if_ne (tgt := 81) hx hb dX1_findSpots_70 (by decide) (fun c47 => ?_) (fun c47 => ?_)
      · replace g46 := hk_in c47 g46
        have g46 := Option.some.inj g46
        simp only [Prod.mk.injEq] at g46
        obtain ⟨rfl, rfl⟩ := g46
        exact hjg46 H locs ls hP hD hS (lv_sub hl [1, 2, 3, 4, 5, 6] rfl)
      replace g46 := hk_ip c47 g46
      refine lv_aload_n hx hb dX1_findSpots_73 rfl (lv_at hl 1 rfl) ?_
      refine lv_iload_n hx hb dX1_findSpots_74 rfl (lv_at hl 3 rfl) ?_
      refine lv_lload hx hb dX1_findSpots_75 (lv_at hl 0 rfl) ?_
      refine lv_lload_n hx hb dX1_findSpots_77 rfl (lv_at hl 4 rfl) ?_
      obtain ⟨u48, u49, hr50, g46⟩ := hk_x2 g46
      have hPc := hP.sub (ws' := [(a_this, .inr (0, [.ref a_this_spots, .ref a_this_found, .ref a_this_turnedSeen, .ref a_this_chosen, .ref a_this_best, .int c_this_pieces, .int c_this_ways])), (a_this_found, .inl (cI, 4, .inl w28)), (a_this_spots, .inl (cJ, 384, .inr (.inl w30)))]) [0, 2, 6] rfl
      have hDc := hD.sub (ws' := [(a_this, .inr (0, [.ref a_this_spots, .ref a_this_found, .ref a_this_turnedSeen, .ref a_this_chosen, .ref a_this_best, .int c_this_pieces, .int c_this_ways])), (a_this_found, .inl (cI, 4, .inl w28)), (a_this_spots, .inl (cJ, 384, .inr (.inl w30)))]) [0, 2, 6] (by decide) rfl
      have hFc := va_free (wc := [(a_this, .inr (0, [.ref a_this_spots, .ref a_this_found, .ref a_this_turnedSeen, .ref a_this_chosen, .ref a_this_best, .int c_this_pieces, .int c_this_ways])), (a_this_found, .inl (cI, 4, .inl w28)), (a_this_spots, .inl (cJ, 384, .inr (.inl w30)))]) hD hS hA [0, 2, 6] rfl
      refine va_callv (va_runV (As := [.int x2, .long r37, .long x3]) (rest := []) ⟨hx, hb, hml, hown, hts⟩ (c_X1_findShifts l D cI cJ cZ cO a_this a_this_spots a_this_found a_this_turnedSeen a_this_chosen a_this_best H.size c_this_pieces c_this_ways w28 w30 x2 r37 x3 _ _ hr50) (cwV 3 hts gX1_findSpots_X1_findShifts rfl rfl rfl zv_X1_findShifts ⟨Nat.le_of_ble_eq_true rfl, Nat.le_of_ble_eq_true rfl⟩) (hk_preMV 0 rfl hPc hDc hK rfl) rfl rfl hl.1 rfl (lv_room (Nat.le_of_ble_eq_true rfl)) dX1_findSpots_78 ⟨Nat.zero_le _, Nat.zero_le _⟩) hS (fun q _ h9 => hFc q h9) hFc (fun u9 t9 H1 locs ht hvm hw hB hz1 hk1 hS => ?_)
      obtain ⟨hP1, hD1⟩ := hB
      rw [ht] at hP1
      obtain ⟨hP, hD⟩ := va_join (wr := [(a_p1, .inr (1, [.ref a_p1_figures, .ref a_p1_pieces, .ref a_p1_mayMirror, .int c_p1_laid])), (a_p1_mayMirror, .inl (cZ, 4, .inl c_p1_mayMirror)), (a_p1_pieces, .inl (cJ, 4, .inr (.inl c_p1_pieces))), (a_this_turnedSeen, .inl (cJ, 8, .inr (.inl (vp_updL w29 y27.toNatClampNeg r37))))]) (w1 := [(a_this, .inr (0, [.ref a_this_spots, .ref a_this_found, .ref a_this_turnedSeen, .ref a_this_chosen, .ref a_this_best, .int c_this_pieces, .int c_this_ways])), (a_this_found, .inl (cI, 4, .inl u48)), (a_this_spots, .inl (cJ, 384, .inr (.inl u49)))]) hP hD [0, 2, 6] [1, 3, 4, 5] rfl rfl (by decide) (by decide) hk1 hFc hP1 hD1
      generalize H1 = H at hP hS ⊢
      have hP := hP.sub (ws' := [(a_this, .inr (0, [.ref a_this_spots, .ref a_this_found, .ref a_this_turnedSeen, .ref a_this_chosen, .ref a_this_best, .int c_this_pieces, .int c_this_ways])), (a_p1, .inr (1, [.ref a_p1_figures, .ref a_p1_pieces, .ref a_p1_mayMirror, .int c_p1_laid])), (a_this_found, .inl (cI, 4, .inl u48)), (a_p1_mayMirror, .inl (cZ, 4, .inl c_p1_mayMirror)), (a_p1_pieces, .inl (cJ, 4, .inr (.inl c_p1_pieces))), (a_this_turnedSeen, .inl (cJ, 8, .inr (.inl (vp_updL w29 y27.toNatClampNeg r37)))), (a_this_spots, .inl (cJ, 384, .inr (.inl u49)))]) [4, 0, 5, 1, 2, 3, 6] rfl
      have hD := hD.sub (ws' := [(a_this, .inr (0, [.ref a_this_spots, .ref a_this_found, .ref a_this_turnedSeen, .ref a_this_chosen, .ref a_this_best, .int c_this_pieces, .int c_this_ways])), (a_p1, .inr (1, [.ref a_p1_figures, .ref a_p1_pieces, .ref a_p1_mayMirror, .int c_p1_laid])), (a_this_found, .inl (cI, 4, .inl u48)), (a_p1_mayMirror, .inl (cZ, 4, .inl c_p1_mayMirror)), (a_p1_pieces, .inl (cJ, 4, .inr (.inl c_p1_pieces))), (a_this_turnedSeen, .inl (cJ, 8, .inr (.inl (vp_updL w29 y27.toNatClampNeg r37)))), (a_this_spots, .inl (cJ, 384, .inr (.inl u49)))]) [4, 0, 5, 1, 2, 3, 6] (by decide) rfl
      have g46 := Option.some.inj g46
      simp only [Prod.mk.injEq] at g46
      obtain ⟨rfl, rfl⟩ := g46
      exact hjg46 H locs ls hP hD hS (lv_sub hl [1, 2, 3, 4, 5, 6] rfl)
    intro H locs ls hP hD hS hl
    have hl : lv_has ls 9 [(0, .ref a_this), (1, .ref a_p1), (2, .int x2), (3, .long x3), (5, .int v25), (6, .int y27)] := hl
    have hP : va_P D vwCl [(a_this, .inr (0, [.ref a_this_spots, .ref a_this_found, .ref a_this_turnedSeen, .ref a_this_chosen, .ref a_this_best, .int c_this_pieces, .int c_this_ways])), (a_p1, .inr (1, [.ref a_p1_figures, .ref a_p1_pieces, .ref a_p1_mayMirror, .int c_p1_laid])), (a_this_found, .inl (cI, 4, .inl v52)), (a_p1_mayMirror, .inl (cZ, 4, .inl c_p1_mayMirror)), (a_p1_pieces, .inl (cJ, 4, .inr (.inl c_p1_pieces))), (a_this_turnedSeen, .inl (cJ, 8, .inr (.inl (vp_updL w29 y27.toNatClampNeg r37)))), (a_this_spots, .inl (cJ, 384, .inr (.inl v53)))] H := hP
    have hD : va_D A [(a_this, .inr (0, [.ref a_this_spots, .ref a_this_found, .ref a_this_turnedSeen, .ref a_this_chosen, .ref a_this_best, .int c_this_pieces, .int c_this_ways])), (a_p1, .inr (1, [.ref a_p1_figures, .ref a_p1_pieces, .ref a_p1_mayMirror, .int c_p1_laid])), (a_this_found, .inl (cI, 4, .inl v52)), (a_p1_mayMirror, .inl (cZ, 4, .inl c_p1_mayMirror)), (a_p1_pieces, .inl (cJ, 4, .inr (.inl c_p1_pieces))), (a_this_turnedSeen, .inl (cJ, 8, .inr (.inl (vp_updL w29 y27.toNatClampNeg r37)))), (a_this_spots, .inl (cJ, 384, .inr (.inl v53)))] := hD
    show W _ _ _ _ _ _ _ _ _ _ _ _ _ _ _ (F0 m 81 ls [])
    obtain ⟨x54, ex54, k26⟩ := hk_le k26
    refine lv_iinc (v := x54) (lv' := [(6, .int x54), (0, .ref a_this), (1, .ref a_p1), (2, .int x2), (3, .long x3), (5, .int v25)]) hx hb dX1_findSpots_81 hl (k := 5) rfl (by rw [ex54]; rfl) (by decide) rfl (fun ls hl => ?_)
    refine lv_goto (tgt := 27) hx hb dX1_findSpots_84 (by decide) ?_
    exact hck26 (x54, v52, (vp_updL w29 y27.toNatClampNeg r37), v53) (Option.some.inj k26).symm H locs ls hP hD hS (lv_sub hl [1, 2, 3, 4, 5, 0] rfl)
  intro H locs ls hP hD hS hl
  have hl : lv_has ls 9 [(0, .ref a_this), (2, .int x2)] := hl
  have hP : va_P D vwCl [(a_this, .inr (0, [.ref a_this_spots, .ref a_this_found, .ref a_this_turnedSeen, .ref a_this_chosen, .ref a_this_best, .int c_this_pieces, .int c_this_ways])), (a_p1, .inr (1, [.ref a_p1_figures, .ref a_p1_pieces, .ref a_p1_mayMirror, .int c_p1_laid])), (a_this_found, .inl (cI, 4, .inl v56)), (a_p1_mayMirror, .inl (cZ, 4, .inl c_p1_mayMirror)), (a_p1_pieces, .inl (cJ, 4, .inr (.inl c_p1_pieces))), (a_this_turnedSeen, .inl (cJ, 8, .inr (.inl v57))), (a_this_spots, .inl (cJ, 384, .inr (.inl v58)))] H := hP
  have hD : va_D A [(a_this, .inr (0, [.ref a_this_spots, .ref a_this_found, .ref a_this_turnedSeen, .ref a_this_chosen, .ref a_this_best, .int c_this_pieces, .int c_this_ways])), (a_p1, .inr (1, [.ref a_p1_figures, .ref a_p1_pieces, .ref a_p1_mayMirror, .int c_p1_laid])), (a_this_found, .inl (cI, 4, .inl v56)), (a_p1_mayMirror, .inl (cZ, 4, .inl c_p1_mayMirror)), (a_p1_pieces, .inl (cJ, 4, .inr (.inl c_p1_pieces))), (a_this_turnedSeen, .inl (cJ, 8, .inr (.inl v57))), (a_this_spots, .inl (cJ, 384, .inr (.inl v58)))] := hD
  show W _ _ _ _ _ _ _ _ _ _ _ _ _ _ _ (F0 m 87 ls [])
  refine lv_aload_n hx hb dX1_findSpots_87 rfl (lv_at hl 0 rfl) ?_
  refine va_get (D := D) (ci := 0) (v := .ref a_this_found) (C := RX1) (T := TX1) (N := 7) hx hb hts zi_X1_findSpots_X1 hown hK.1 hP 0 rfl rfl 1 (by decide) (hts (.fieldLink RX1 15 "HalfAndHalfAgain$Cover" "found" "[I") (List.mem_of_getElem? (i := 1) rfl)) (fun _ h9 => h9) rfl dX1_findSpots_88 ?_
  refine lv_iload_n hx hb dX1_findSpots_91 rfl (lv_at hl 1 rfl) ?_
  obtain ⟨hi61, h⟩ := hk_ge h
  refine va_iald hx hb hK.1 hP 2 0 rfl rfl (hk_inb_of hi61) dX1_findSpots_92 ?_
  subst hQ
  have h := Option.some.inj h
  simp only [Prod.mk.injEq] at h
  obtain ⟨rfl, rfl, rfl, rfl⟩ := h
  exact W.iret hx hb hr (fun t ht hW => ⟨⟨_, (), rfl, rfl, by rw [ht]; exact hP, hD⟩, hS.F ht⟩) hS.2.2 dX1_findSpots_93
theorem zv_X1_leastSpot : yX1_leastSpot.cls = RX1 ∧ yX1_leastSpot.cls ≠ "java/lang/invoke/MethodHandle" ∧ yX1_leastSpot.cls ≠ "java/lang/invoke/VarHandle" ∧ (parseMethodDescriptor yX1_leastSpot.desc).map (fun d => d.parameters.length) = some 1 := by decide +kernel
def st_X1_leastSpot_5c (c_this_found : Nat → Int32) (c_this_spots : Nat → Int64) (x1 : Int32) (y22 : Int64) (y23 : Int32) : Option ((Int64 × Int32) ⊕ Int64) := hk_gd (hk_inb x1 4) (if (c_this_found x1.toNatClampNeg) ≤ y23 then (some (.inr y22)) else (hk_gd (hk_inb ((x1 * (96 : Int32)) + y23) 384) (hk_let (c_this_spots ((x1 * (96 : Int32)) + y23).toNatClampNeg) fun x27 => hk_b1 (if y23 = 0 then (some x27) else (hk_b1 (f_X7_isLess x27 y22) fun r30 => if r30 = 0 then (some y22) else (some x27))) fun v35 => hk_let (y23 + (1 : Int32)) fun x36 => some (.inl (v35, x36)))))
def st_X1_leastSpot_5 (c_this_found : Nat → Int32) (c_this_spots : Nat → Int64) (x1 : Int32) (t9 : (Int64 × Int32)) : Option ((Int64 × Int32) ⊕ Int64) := st_X1_leastSpot_5c c_this_found c_this_spots x1 t9.1 t9.2
def f_X1_leastSpot (c_this_found : Nat → Int32) (c_this_spots : Nat → Int64)  (x1 : Int32) : Option Int64 := hk_b1 (hk_wl (st_X1_leastSpot_5 c_this_found c_this_spots x1) hkF ((0 : Int64), (0 : Int32))) fun z38 => some z38
theorem zi_X1_leastSpot_X1 : ∀ w ∈ u_ws RX1 TX1 7, w ∈ wsX1_leastSpot := by decide +kernel
set_option maxHeartbeats 8000000 in
set_option maxRecDepth 100000 in
theorem c_X1_leastSpot (l : Launch) (D : va_G) (cI cJ cZ cO : ClassId) (a_this a_this_spots a_this_found a_this_turnedSeen a_this_chosen a_this_best : Nat) (c_this_pieces : Int32) (c_this_ways : Int32) (c_this_found : Nat → Int32) (c_this_spots : Nat → Int64) (x1 : Int32) (rv : Int64) (hf : f_X1_leastSpot c_this_found c_this_spots x1 = some rv) : Met l yX1_leastSpot wsX1_leastSpot ({ frames := 1, cells := 0, slots := 0, locals := 23 }) (va_Pc [.ref a_this, .int x1] (hkR D cI cJ cZ cO [(a_this, .inr (0, [.ref a_this_spots, .ref a_this_found, .ref a_this_turnedSeen, .ref a_this_chosen, .ref a_this_best, .int c_this_pieces, .int c_this_ways])), (a_this_found, .inl (cI, 4, .inl c_this_found)), (a_this_spots, .inl (cJ, 384, .inr (.inl c_this_spots)))])) (vp_Sl (fun r => r = rv)) 0 0 (fun _ => False) := by
  refine Met.ofW (cc := cX1_leastSpot) (maxL := 7) (ret := (some .long)) (by decide) rfl ?_
  intro p e s m args below meth c s₁ B hml hv
  obtain ⟨rfl, hP, hK⟩ := hv
  have hx := B.exec
  have hb := B.bytes
  have hr := B.returns
  have hts := atoms_spec (ws := wsX1_leastSpot) B.pre
  have hown : s.vm.findClass RX1 = some m.cls := findClass_of_methodNamed B.named
  have hlocks := B.notSynchronized
  have hN := hK.2
  have hl := lv_entry ([.ref a_this, .int x1]) (n := 7) (Nat.le_of_ble_eq_true rfl)
  rw [lg_entry_eq]
  generalize (lg_sl ([.ref a_this, .int x1]) ++ List.replicate (7 - (lg_sl ([.ref a_this, .int x1])).length) Slot.unset).toArray = ls at hl ⊢
  have hl : lv_has ls 7 [(0, .ref a_this), (1, .int x1)] := hl
  refine hk_Q (fun Q hQ => ?_)
  have h := hf
  unfold f_X1_leastSpot at h
  refine lv_lconst (v := (0 : Int64)) hx hb dX1_leastSpot_0 (by decide) ?_
  refine lv_lstore_n (lv' := [(2, .long (0 : Int64)), (0, .ref a_this), (1, .int x1)]) hx hb dX1_leastSpot_1 rfl hl (by decide) rfl (fun ls hl => ?_)
  refine lv_iconst (v := (0 : Int32)) hx hb dX1_leastSpot_2 (by decide) ?_
  refine lv_istore (lv' := [(4, .int (0 : Int32)), (2, .long (0 : Int64)), (0, .ref a_this), (1, .int x1)]) hx hb dX1_leastSpot_3 hl (by decide) rfl (fun ls hl => ?_)
  obtain ⟨z38, hr37, h⟩ := hk_x1 h
  refine hk_loopR (f := st_X1_leastSpot_5 c_this_found c_this_spots x1) (hd := 5) (nL := 7) (lv := fun t9 => [(0, .ref a_this), (1, .int x1), (2, .long t9.1), (4, .int t9.2)]) (xs := fun t9 => (53, [(2, .long t9)], [])) ?_ hr37 ?_ (lv_sub hl [2, 3, 1, 0] rfl)
  · intro t39 q40 k21 hck21 hqk21 ls hl
    obtain ⟨y22, y23⟩ := t39
    have k21 : st_X1_leastSpot_5c c_this_found c_this_spots x1 y22 y23 = some q40 := k21
    unfold st_X1_leastSpot_5c at k21
    have hl : lv_has ls 7 [(0, .ref a_this), (1, .int x1), (2, .long y22), (4, .int y23)] := hl
    refine lv_iload hx hb dX1_leastSpot_5 (lv_at hl 3 rfl) ?_
    refine lv_aload_n hx hb dX1_leastSpot_7 rfl (lv_at hl 0 rfl) ?_
    refine va_get (D := D) (ci := 0) (v := .ref a_this_found) (C := RX1) (T := TX1) (N := 7) hx hb hts zi_X1_leastSpot_X1 hown hK.1 hP 0 rfl rfl 1 (by decide) (hts (.fieldLink RX1 15 "HalfAndHalfAgain$Cover" "found" "[I") (List.mem_of_getElem? (i := 1) rfl)) (fun _ h9 => h9) rfl dX1_leastSpot_8 ?_
    refine lv_iload_n hx hb dX1_leastSpot_11 rfl (lv_at hl 1 rfl) ?_
    obtain ⟨hi24, k21⟩ := hk_ge k21
    refine va_iald hx hb hK.1 hP 1 0 rfl rfl (hk_inb_of hi24) dX1_leastSpot_12 ?_
    refine lv_icmp_ge (tgt := 53) hx hb dX1_leastSpot_13 (by decide) (fun c25 => ?_) (fun c25 => ?_)
    · replace k21 := hk_ip c25 k21
      exact hqk21 y22 (Option.some.inj k21).symm ls (lv_sub hl [2] rfl)
    replace k21 := hk_in c25 k21
    refine lv_aload_n hx hb dX1_leastSpot_16 rfl (lv_at hl 0 rfl) ?_
    refine va_get (D := D) (ci := 0) (v := .ref a_this_spots) (C := RX1) (T := TX1) (N := 7) hx hb hts zi_X1_leastSpot_X1 hown hK.1 hP 0 rfl rfl 0 (by decide) (hts (.fieldLink RX1 11 "HalfAndHalfAgain$Cover" "spots" "[J") (List.mem_of_getElem? (i := 2) rfl)) (fun _ h9 => h9) rfl dX1_leastSpot_17 ?_
    refine lv_iload_n hx hb dX1_leastSpot_20 rfl (lv_at hl 1 rfl) ?_
    refine lv_bipush (v := (96 : Int32)) hx hb dX1_leastSpot_21 (by decide) ?_
    refine lv_imul hx hb dX1_leastSpot_23 ?_
    refine lv_iload hx hb dX1_leastSpot_24 (lv_at hl 3 rfl) ?_
    refine lv_iadd hx hb dX1_leastSpot_26 ?_
    obtain ⟨hi26, k21⟩ := hk_ge k21
    refine va_lald hx hb hK.1 hP 2 1 rfl rfl (hk_inb_of hi26) dX1_leastSpot_27 ?_
    obtain ⟨x27, ex27, k21⟩ := hk_le k21
    refine hk_tl ex27 ?_
    refine lv_lstore (lv' := [(5, .long x27), (0, .ref a_this), (1, .int x1), (2, .long y22), (4, .int y23)]) hx hb dX1_leastSpot_28 hl (by decide) rfl (fun ls hl => ?_)
    refine lv_iload hx hb dX1_leastSpot_30 (lv_at hl 4 rfl) ?_
    obtain ⟨v35, g28, k21⟩ := hk_x1 k21
    refine hk_joinR (nL := 7) (xs := fun (t9 : Int64) => (47, [(0, .ref a_this), (1, .int x1), (2, .long t9), (4, .int y23)], [])) v35 (fun hjg28 => ?_) ?_
    · refine lv_if_eq (tgt := 44) hx hb dX1_leastSpot_32 (by decide) (fun c29 => ?_) (fun c29 => ?_)
      · replace g28 := hk_ip c29 g28
        refine lv_lload hx hb dX1_leastSpot_44 (lv_at hl 0 rfl) ?_
        refine lv_lstore_n (lv' := [(2, .long x27), (5, .long x27), (0, .ref a_this), (1, .int x1), (4, .int y23)]) hx hb dX1_leastSpot_46 rfl hl (by decide) rfl (fun ls hl => ?_)
        have g28 := Option.some.inj g28
        subst g28
        exact hjg28 ls (lv_sub hl [2, 3, 0, 4] rfl)
      replace g28 := hk_in c29 g28
      refine lv_lload hx hb dX1_leastSpot_35 (lv_at hl 0 rfl) ?_
      refine lv_lload_n hx hb dX1_leastSpot_37 rfl (lv_at hl 3 rfl) ?_
      obtain ⟨r30, hr31, g28⟩ := hk_x1 g28
      refine vp_callSi (va_Run.run (va_runSN (As := [.long x27, .long y22]) (rest := []) ⟨hx, hb, hml, hown, hts⟩ (c_X7_isLess l x27 y22 _ hr31) ⟨va_cnB 2 hts ggX1_leastSpot_X7_isLess rfl rfl rfl hN.2.2.2.2.2 (hts (.initialized RX7) (List.mem_of_getElem? (i := 4) rfl)) zs_X7_isLess ⟨Nat.le_of_ble_eq_true rfl, Nat.le_of_ble_eq_true rfl⟩, (hts (.static yX7_isLess) (List.mem_of_getElem? (i := 3) rfl)), trivial⟩ ⟨fun _ _ _ _ q => q, fun _ _ _ => ⟨rfl, trivial⟩⟩ rfl rfl hl.1 rfl (lv_room (Nat.le_of_ble_eq_true rfl)) dX1_leastSpot_38 ⟨Nat.zero_le _, Nat.zero_le _⟩)) (fun p33 e32 => ?_)
      rw [e32]
      refine lv_if_eq (tgt := 47) hx hb dX1_leastSpot_41 (by decide) (fun c34 => ?_) (fun c34 => ?_)
      · replace g28 := hk_ip c34 g28
        have g28 := Option.some.inj g28
        subst g28
        exact hjg28 ls (lv_sub hl [1, 2, 3, 4] rfl)
      replace g28 := hk_in c34 g28
      refine lv_lload hx hb dX1_leastSpot_44 (lv_at hl 0 rfl) ?_
      refine lv_lstore_n (lv' := [(2, .long x27), (5, .long x27), (0, .ref a_this), (1, .int x1), (4, .int y23)]) hx hb dX1_leastSpot_46 rfl hl (by decide) rfl (fun ls hl => ?_)
      have g28 := Option.some.inj g28
      subst g28
      exact hjg28 ls (lv_sub hl [2, 3, 0, 4] rfl)
    intro ls hl
    have hl : lv_has ls 7 [(0, .ref a_this), (1, .int x1), (2, .long v35), (4, .int y23)] := hl
    show W _ _ _ _ _ _ _ _ _ _ _ _ _ _ _ (F0 m 47 ls [])
    obtain ⟨x36, ex36, k21⟩ := hk_le k21
    refine lv_iinc (v := x36) (lv' := [(4, .int x36), (0, .ref a_this), (1, .int x1), (2, .long v35)]) hx hb dX1_leastSpot_47 hl (k := 3) rfl (by rw [ex36]; rfl) (by decide) rfl (fun ls hl => ?_)
    refine lv_goto (tgt := 5) hx hb dX1_leastSpot_50 (by decide) ?_
    exact hck21 (v35, x36) (Option.some.inj k21).symm ls (lv_sub hl [1, 2, 3, 0] rfl)
  intro ls hl
  have hl : lv_has ls 7 [(2, .long z38)] := hl
  show W _ _ _ _ _ _ _ _ _ _ _ _ _ _ _ (F0 m 53 ls [])
  refine lv_lload_n hx hb dX1_leastSpot_53 rfl (lv_at hl 0 rfl) ?_
  subst hQ
  exact W.lret hx hb hr (fun t ht hW => ⟨_, rfl, Option.some.inj h, ht⟩) (fun _ h9 => by cases h9) dX1_leastSpot_54
theorem zv_X1_chosenIsBefore : yX1_chosenIsBefore.cls = RX1 ∧ yX1_chosenIsBefore.cls ≠ "java/lang/invoke/MethodHandle" ∧ yX1_chosenIsBefore.cls ≠ "java/lang/invoke/VarHandle" ∧ (parseMethodDescriptor yX1_chosenIsBefore.desc).map (fun d => d.parameters.length) = some 0 := by decide +kernel
def st_X1_chosenIsBefore_2c (c_this_pieces : Int32) (c_this_chosen : Nat → Int64) (c_this_best : Nat → Int64) (y22 : Int32) : Option (Int32 ⊕ (Int32 ⊕ Unit)) := if c_this_pieces ≤ y22 then (some (.inr (.inr ()))) else (hk_gd (hk_inb y22 4) (hk_gd (hk_inb y22 4) (if (c_this_chosen y22.toNatClampNeg) = (c_this_best y22.toNatClampNeg) then (hk_let (y22 + (1 : Int32)) fun x27 => some (.inl x27)) else (some (.inr (.inl y22))))))
def st_X1_chosenIsBefore_2 (c_this_pieces : Int32) (c_this_chosen : Nat → Int64) (c_this_best : Nat → Int64) (t9 : Int32) : Option (Int32 ⊕ (Int32 ⊕ Unit)) := st_X1_chosenIsBefore_2c c_this_pieces c_this_chosen c_this_best t9
def f_X1_chosenIsBefore (c_this_pieces : Int32) (c_this_chosen : Nat → Int64) (c_this_best : Nat → Int64)   : Option Int32 := hk_b1 (hk_wl (st_X1_chosenIsBefore_2 c_this_pieces c_this_chosen c_this_best) hkF (0 : Int32)) fun r29 => hk_sum r29 (fun z32 => hk_gd (hk_inb z32 4) (hk_gd (hk_inb z32 4) (hk_b1 (f_X7_isLess (c_this_chosen z32.toNatClampNeg) (c_this_best z32.toNatClampNeg)) fun r35 => hk_gd (hk_isb r35) (some r35)))) (fun z40 => some (0 : Int32))
theorem zi_X1_chosenIsBefore_X1 : ∀ w ∈ u_ws RX1 TX1 7, w ∈ wsX1_chosenIsBefore := by decide +kernel
set_option maxHeartbeats 8000000 in
set_option maxRecDepth 100000 in
theorem c_X1_chosenIsBefore (l : Launch) (D : va_G) (cI cJ cZ cO : ClassId) (a_this a_this_spots a_this_found a_this_turnedSeen a_this_chosen a_this_best : Nat) (c_this_pieces : Int32) (c_this_ways : Int32) (c_this_chosen : Nat → Int64) (c_this_best : Nat → Int64) (rv : Int32) (hf : f_X1_chosenIsBefore c_this_pieces c_this_chosen c_this_best = some rv) : Met l yX1_chosenIsBefore wsX1_chosenIsBefore ({ frames := 1, cells := 0, slots := 0, locals := 23 }) (va_Pc [.ref a_this] (hkR D cI cJ cZ cO [(a_this, .inr (0, [.ref a_this_spots, .ref a_this_found, .ref a_this_turnedSeen, .ref a_this_chosen, .ref a_this_best, .int c_this_pieces, .int c_this_ways])), (a_this_chosen, .inl (cJ, 4, .inr (.inl c_this_chosen))), (a_this_best, .inl (cJ, 4, .inr (.inl c_this_best)))])) (vp_Si (fun r => r = rv)) 0 0 (fun _ => False) := by
  refine Met.ofW (cc := cX1_chosenIsBefore) (maxL := 2) (ret := (some .boolean)) (by decide) rfl ?_
  intro p e s m args below meth c s₁ B hml hv
  obtain ⟨rfl, hP, hK⟩ := hv
  have hx := B.exec
  have hb := B.bytes
  have hr := B.returns
  have hts := atoms_spec (ws := wsX1_chosenIsBefore) B.pre
  have hown : s.vm.findClass RX1 = some m.cls := findClass_of_methodNamed B.named
  have hlocks := B.notSynchronized
  have hN := hK.2
  have hl := lv_entry ([.ref a_this]) (n := 2) (Nat.le_of_ble_eq_true rfl)
  rw [lg_entry_eq]
  generalize (lg_sl ([.ref a_this]) ++ List.replicate (2 - (lg_sl ([.ref a_this])).length) Slot.unset).toArray = ls at hl ⊢
  have hl : lv_has ls 2 [(0, .ref a_this)] := hl
  refine hk_Q (fun Q hQ => ?_)
  have h := hf
  unfold f_X1_chosenIsBefore at h
  refine lv_iconst (v := (0 : Int32)) hx hb dX1_chosenIsBefore_0 (by decide) ?_
  refine lv_istore_n (lv' := [(1, .int (0 : Int32)), (0, .ref a_this)]) hx hb dX1_chosenIsBefore_1 rfl hl (by decide) rfl (fun ls hl => ?_)
  obtain ⟨r29, hr28, h⟩ := hk_x1 h
  refine hk_loopR (f := st_X1_chosenIsBefore_2 c_this_pieces c_this_chosen c_this_best) (hd := 2) (nL := 2) (lv := fun t9 => [(0, .ref a_this), (1, .int t9)]) (xs := fun r9 => match r9 with | .inl t9 => (26, [(0, .ref a_this), (1, .int t9)], []) | .inr t9 => (48, [], [])) ?_ hr28 ?_ (lv_sub hl [1, 0] rfl)
  · intro y22 q31 k21 hck21 hqk21 ls hl
    have k21 : st_X1_chosenIsBefore_2c c_this_pieces c_this_chosen c_this_best y22 = some q31 := k21
    unfold st_X1_chosenIsBefore_2c at k21
    have hl : lv_has ls 2 [(0, .ref a_this), (1, .int y22)] := hl
    refine lv_iload_n hx hb dX1_chosenIsBefore_2 rfl (lv_at hl 1 rfl) ?_
    refine lv_aload_n hx hb dX1_chosenIsBefore_3 rfl (lv_at hl 0 rfl) ?_
    refine va_get (D := D) (ci := 0) (v := .int c_this_pieces) (C := RX1) (T := TX1) (N := 7) hx hb hts zi_X1_chosenIsBefore_X1 hown hK.1 hP 0 rfl rfl 5 (by decide) (hts (.fieldLink RX1 28 "HalfAndHalfAgain$Cover" "pieces" "I") (List.mem_of_getElem? (i := 1) rfl)) (fun _ h9 => h9) rfl dX1_chosenIsBefore_4 ?_
    refine lv_icmp_ge (tgt := 48) hx hb dX1_chosenIsBefore_7 (by decide) (fun c23 => ?_) (fun c23 => ?_)
    · replace k21 := hk_ip c23 k21
      exact hqk21 (.inr ()) (Option.some.inj k21).symm ls (lv_sub hl [] rfl)
    replace k21 := hk_in c23 k21
    refine lv_aload_n hx hb dX1_chosenIsBefore_10 rfl (lv_at hl 0 rfl) ?_
    refine va_get (D := D) (ci := 0) (v := .ref a_this_chosen) (C := RX1) (T := TX1) (N := 7) hx hb hts zi_X1_chosenIsBefore_X1 hown hK.1 hP 0 rfl rfl 3 (by decide) (hts (.fieldLink RX1 22 "HalfAndHalfAgain$Cover" "chosen" "[J") (List.mem_of_getElem? (i := 2) rfl)) (fun _ h9 => h9) rfl dX1_chosenIsBefore_11 ?_
    refine lv_iload_n hx hb dX1_chosenIsBefore_14 rfl (lv_at hl 1 rfl) ?_
    obtain ⟨hi24, k21⟩ := hk_ge k21
    refine va_lald hx hb hK.1 hP 1 1 rfl rfl (hk_inb_of hi24) dX1_chosenIsBefore_15 ?_
    refine lv_aload_n hx hb dX1_chosenIsBefore_16 rfl (lv_at hl 0 rfl) ?_
    refine va_get (D := D) (ci := 0) (v := .ref a_this_best) (C := RX1) (T := TX1) (N := 7) hx hb hts zi_X1_chosenIsBefore_X1 hown hK.1 hP 0 rfl rfl 4 (by decide) (hts (.fieldLink RX1 25 "HalfAndHalfAgain$Cover" "best" "[J") (List.mem_of_getElem? (i := 3) rfl)) (fun _ h9 => h9) rfl dX1_chosenIsBefore_17 ?_
    refine lv_iload_n hx hb dX1_chosenIsBefore_20 rfl (lv_at hl 1 rfl) ?_
    obtain ⟨hi25, k21⟩ := hk_ge k21
    refine va_lald hx hb hK.1 hP 2 1 rfl rfl (hk_inb_of hi25) dX1_chosenIsBefore_21 ?_
    refine hk_lcmp_eq (tgt := 42) hx hb dX1_chosenIsBefore_22 dX1_chosenIsBefore_23 (by decide) (fun c26 => ?_) (fun c26 => ?_)
    · replace k21 := hk_ip c26 k21
      obtain ⟨x27, ex27, k21⟩ := hk_le k21
      refine lv_iinc (v := x27) (lv' := [(1, .int x27), (0, .ref a_this)]) hx hb dX1_chosenIsBefore_42 hl (k := 1) rfl (by rw [ex27]; rfl) (by decide) rfl (fun ls hl => ?_)
      refine lv_goto (tgt := 2) hx hb dX1_chosenIsBefore_45 (by decide) ?_
      exact hck21 x27 (Option.some.inj k21).symm ls (lv_sub hl [1, 0] rfl)
    replace k21 := hk_in c26 k21
    exact hqk21 (.inl y22) (Option.some.inj k21).symm ls (lv_sub hl [0, 1] rfl)
  intro ls hl
  rcases r29 with r29 | r29
  · replace h := hk_sa h
    generalize r29 = z32 at h hl ⊢
    have hl : lv_has ls 2 [(0, .ref a_this), (1, .int z32)] := hl
    show W _ _ _ _ _ _ _ _ _ _ _ _ _ _ _ (F0 m 26 ls [])
    refine lv_aload_n hx hb dX1_chosenIsBefore_26 rfl (lv_at hl 0 rfl) ?_
    refine va_get (D := D) (ci := 0) (v := .ref a_this_chosen) (C := RX1) (T := TX1) (N := 7) hx hb hts zi_X1_chosenIsBefore_X1 hown hK.1 hP 0 rfl rfl 3 (by decide) (hts (.fieldLink RX1 22 "HalfAndHalfAgain$Cover" "chosen" "[J") (List.mem_of_getElem? (i := 2) rfl)) (fun _ h9 => h9) rfl dX1_chosenIsBefore_27 ?_
    refine lv_iload_n hx hb dX1_chosenIsBefore_30 rfl (lv_at hl 1 rfl) ?_
    obtain ⟨hi33, h⟩ := hk_ge h
    refine va_lald hx hb hK.1 hP 1 1 rfl rfl (hk_inb_of hi33) dX1_chosenIsBefore_31 ?_
    refine lv_aload_n hx hb dX1_chosenIsBefore_32 rfl (lv_at hl 0 rfl) ?_
    refine va_get (D := D) (ci := 0) (v := .ref a_this_best) (C := RX1) (T := TX1) (N := 7) hx hb hts zi_X1_chosenIsBefore_X1 hown hK.1 hP 0 rfl rfl 4 (by decide) (hts (.fieldLink RX1 25 "HalfAndHalfAgain$Cover" "best" "[J") (List.mem_of_getElem? (i := 3) rfl)) (fun _ h9 => h9) rfl dX1_chosenIsBefore_33 ?_
    refine lv_iload_n hx hb dX1_chosenIsBefore_36 rfl (lv_at hl 1 rfl) ?_
    obtain ⟨hi34, h⟩ := hk_ge h
    refine va_lald hx hb hK.1 hP 2 1 rfl rfl (hk_inb_of hi34) dX1_chosenIsBefore_37 ?_
    obtain ⟨r35, hr36, h⟩ := hk_x1 h
    refine vp_callSi (va_Run.run (va_runSN (As := [.long (c_this_chosen z32.toNatClampNeg), .long (c_this_best z32.toNatClampNeg)]) (rest := []) ⟨hx, hb, hml, hown, hts⟩ (c_X7_isLess l (c_this_chosen z32.toNatClampNeg) (c_this_best z32.toNatClampNeg) _ hr36) ⟨va_cnB 2 hts ggX1_chosenIsBefore_X7_isLess rfl rfl rfl hN.2.2.2.2.2 (hts (.initialized RX7) (List.mem_of_getElem? (i := 5) rfl)) zs_X7_isLess ⟨Nat.le_of_ble_eq_true rfl, Nat.le_of_ble_eq_true rfl⟩, (hts (.static yX7_isLess) (List.mem_of_getElem? (i := 4) rfl)), trivial⟩ ⟨fun _ _ _ _ q => q, fun _ _ _ => ⟨rfl, trivial⟩⟩ rfl rfl hl.1 rfl (lv_room (Nat.le_of_ble_eq_true rfl)) dX1_chosenIsBefore_38 ⟨Nat.zero_le _, Nat.zero_le _⟩)) (fun p38 e37 => ?_)
    rw [e37]
    obtain ⟨hz39, h⟩ := hk_ge h
    subst hQ
    exact W.zret hx hb hr (hk_isb_of hz39) (fun t ht hW => ⟨_, rfl, Option.some.inj h, ht⟩) (fun _ h9 => by cases h9) dX1_chosenIsBefore_41
  · replace h := hk_sb h
    generalize r29 = z40 at h hl ⊢
    have hl : lv_has ls 2 [] := hl
    show W _ _ _ _ _ _ _ _ _ _ _ _ _ _ _ (F0 m 48 ls [])
    refine lv_iconst (v := (0 : Int32)) hx hb dX1_chosenIsBefore_48 (by decide) ?_
    subst hQ
    exact W.zret hx hb hr rfl (fun t ht hW => ⟨_, rfl, Option.some.inj h, ht⟩) (fun _ h9 => by cases h9) dX1_chosenIsBefore_49
theorem zv_X1_noteWay : yX1_noteWay.cls = RX1 ∧ yX1_noteWay.cls ≠ "java/lang/invoke/MethodHandle" ∧ yX1_noteWay.cls ≠ "java/lang/invoke/VarHandle" ∧ (parseMethodDescriptor yX1_noteWay.desc).map (fun d => d.parameters.length) = some 0 := by decide +kernel
def st_X1_noteWay_27c (c_this_pieces : Int32) (c_this_chosen : Nat → Int64) (y24 : Int32) (w25 : Nat → Int64) : Option ((Int32 × (Nat → Int64)) ⊕ (Nat → Int64)) := if c_this_pieces ≤ y24 then (some (.inr w25)) else (hk_gd (hk_inb y24 4) (hk_gd (hk_inb y24 4) (hk_let (y24 + (1 : Int32)) fun x29 => some (.inl (x29, (vp_updL w25 y24.toNatClampNeg (c_this_chosen y24.toNatClampNeg)))))))
def st_X1_noteWay_27 (c_this_pieces : Int32) (c_this_chosen : Nat → Int64) (t9 : (Int32 × (Nat → Int64))) : Option ((Int32 × (Nat → Int64)) ⊕ (Nat → Int64)) := st_X1_noteWay_27c c_this_pieces c_this_chosen t9.1 t9.2
def st_X1_noteWay_27'c (c_this_pieces : Int32) (c_this_chosen : Nat → Int64) (y40 : Int32) (w41 : Nat → Int64) : Option ((Int32 × (Nat → Int64)) ⊕ (Nat → Int64)) := if c_this_pieces ≤ y40 then (some (.inr w41)) else (hk_gd (hk_inb y40 4) (hk_gd (hk_inb y40 4) (hk_let (y40 + (1 : Int32)) fun x45 => some (.inl (x45, (vp_updL w41 y40.toNatClampNeg (c_this_chosen y40.toNatClampNeg)))))))
def st_X1_noteWay_27' (c_this_pieces : Int32) (c_this_chosen : Nat → Int64) (t9 : (Int32 × (Nat → Int64))) : Option ((Int32 × (Nat → Int64)) ⊕ (Nat → Int64)) := st_X1_noteWay_27'c c_this_pieces c_this_chosen t9.1 t9.2
def f_X1_noteWay (c_this_pieces : Int32) (c_this_ways : Int32) (c_this_chosen : Nat → Int64) (c_this_best : Nat → Int64)   : Option (Int32 × (Nat → Int64)) := hk_let (c_this_ways + (1 : Int32)) fun x21 => if x21 = (1 : Int32) then (hk_b1 (hk_wl (st_X1_noteWay_27 c_this_pieces c_this_chosen) hkF ((0 : Int32), c_this_best)) fun v31 => some (x21, v31)) else (hk_b1 (f_X1_chosenIsBefore c_this_pieces c_this_chosen c_this_best) fun r34 => if r34 = 0 then (some (x21, c_this_best)) else (hk_b1 (hk_wl (st_X1_noteWay_27' c_this_pieces c_this_chosen) hkF ((0 : Int32), c_this_best)) fun v47 => some (x21, v47)))
theorem zi_X1_noteWay_X1 : ∀ w ∈ u_ws RX1 TX1 7, w ∈ wsX1_noteWay := by decide +kernel
set_option maxHeartbeats 8000000 in
set_option maxRecDepth 100000 in
theorem c_X1_noteWay (l : Launch) (D : va_G) (cI cJ cZ cO : ClassId) (a_this a_this_spots a_this_found a_this_turnedSeen a_this_chosen a_this_best : Nat) (sz : Nat) (c_this_pieces : Int32) (c_this_ways : Int32) (c_this_chosen : Nat → Int64) (c_this_best : Nat → Int64) (u_this_ways : Int32) (u_this_best : Nat → Int64) (hf : f_X1_noteWay c_this_pieces c_this_ways c_this_chosen c_this_best = some (u_this_ways, u_this_best)) : Met l yX1_noteWay wsX1_noteWay ({ frames := 2, cells := 0, slots := 0, locals := 44 }) (va_Pc [.ref a_this] (hkM D cI cJ cZ cO [(a_this, .inr (0, [.ref a_this_spots, .ref a_this_found, .ref a_this_turnedSeen, .ref a_this_chosen, .ref a_this_best, .int c_this_pieces, .int c_this_ways])), (a_this_chosen, .inl (cJ, 4, .inr (.inl c_this_chosen))), (a_this_best, .inl (cJ, 4, .inr (.inl c_this_best)))] sz)) (va_Qv (fun (_ : Unit) => True) (fun _ t => va_P D vwCl [(a_this, .inr (0, [.ref a_this_spots, .ref a_this_found, .ref a_this_turnedSeen, .ref a_this_chosen, .ref a_this_best, .int c_this_pieces, .int u_this_ways])), (a_this_chosen, .inl (cJ, 4, .inr (.inl c_this_chosen))), (a_this_best, .inl (cJ, 4, .inr (.inl u_this_best)))] t.heap ∧ va_D (va_A [(a_this, .inr (0, [.ref a_this_spots, .ref a_this_found, .ref a_this_turnedSeen, .ref a_this_chosen, .ref a_this_best, .int c_this_pieces, .int c_this_ways])), (a_this_chosen, .inl (cJ, 4, .inr (.inl c_this_chosen))), (a_this_best, .inl (cJ, 4, .inr (.inl c_this_best)))] sz) [(a_this, .inr (0, [.ref a_this_spots, .ref a_this_found, .ref a_this_turnedSeen, .ref a_this_chosen, .ref a_this_best, .int c_this_pieces, .int u_this_ways])), (a_this_chosen, .inl (cJ, 4, .inr (.inl c_this_chosen))), (a_this_best, .inl (cJ, 4, .inr (.inl u_this_best)))]) (va_A [(a_this, .inr (0, [.ref a_this_spots, .ref a_this_found, .ref a_this_turnedSeen, .ref a_this_chosen, .ref a_this_best, .int c_this_pieces, .int c_this_ways])), (a_this_chosen, .inl (cJ, 4, .inr (.inl c_this_chosen))), (a_this_best, .inl (cJ, 4, .inr (.inl c_this_best)))] sz)) 0 0 (va_A [(a_this, .inr (0, [.ref a_this_spots, .ref a_this_found, .ref a_this_turnedSeen, .ref a_this_chosen, .ref a_this_best, .int c_this_pieces, .int c_this_ways])), (a_this_chosen, .inl (cJ, 4, .inr (.inl c_this_chosen))), (a_this_best, .inl (cJ, 4, .inr (.inl c_this_best)))] sz) := by
  refine Met.ofW (cc := cX1_noteWay) (maxL := 2) (ret := none) (by decide) rfl ?_
  intro p e s m args below meth c s₁ B hml hv
  obtain ⟨rfl, hsz, hP, hK, hD0⟩ := hv
  have hx := B.exec
  have hb := B.bytes
  have hr := B.returns
  have hts := atoms_spec (ws := wsX1_noteWay) B.pre
  have hown : s.vm.findClass RX1 = some m.cls := findClass_of_methodNamed B.named
  have hlocks := B.notSynchronized
  have hN := hK.2
  subst hsz
  have hD := hD0.self (sz := s.heap.size)
  generalize hAe : va_A [(a_this, .inr (0, [.ref a_this_spots, .ref a_this_found, .ref a_this_turnedSeen, .ref a_this_chosen, .ref a_this_best, .int c_this_pieces, .int c_this_ways])), (a_this_chosen, .inl (cJ, 4, .inr (.inl c_this_chosen))), (a_this_best, .inl (cJ, 4, .inr (.inl c_this_best)))] s.heap.size = A at hD ⊢
  have hA : ∀ q : Nat, s.heap.size ≤ q → A q := fun q h => by rw [← hAe]; exact Or.inr h
  have hS : va_S A s.heap s.heap [] := va_S.rf
  have hl := lv_entry ([.ref a_this]) (n := 2) (Nat.le_of_ble_eq_true rfl)
  rw [lg_entry_eq]
  generalize (lg_sl ([.ref a_this]) ++ List.replicate (2 - (lg_sl ([.ref a_this])).length) Slot.unset).toArray = ls at hl ⊢
  have hl : lv_has ls 2 [(0, .ref a_this)] := hl
  refine hk_Q (fun Q hQ => ?_)
  have h := hf
  unfold f_X1_noteWay at h
  refine lv_aload_n hx hb dX1_noteWay_0 rfl (lv_at hl 0 rfl) ?_
  refine lv_dup hx hb dX1_noteWay_1 rfl ?_
  refine va_get (D := D) (ci := 0) (v := .int c_this_ways) (C := RX1) (T := TX1) (N := 7) hx hb hts zi_X1_noteWay_X1 hown hK.1 hP 0 rfl rfl 6 (by decide) (hts (.fieldLink RX1 32 "HalfAndHalfAgain$Cover" "ways" "I") (List.mem_of_getElem? (i := 1) rfl)) (fun _ h9 => h9) rfl dX1_noteWay_2 ?_
  refine lv_iconst (v := (1 : Int32)) hx hb dX1_noteWay_5 (by decide) ?_
  refine lv_iadd hx hb dX1_noteWay_6 ?_
  obtain ⟨x21, ex21, h⟩ := hk_le h
  refine hk_ti ex21 ?_
  refine va_put (D := D) (ci := 0) (v := .int x21) (ty := .int) (C := RX1) (T := TX1) (N := 7) hx hb hts zi_X1_noteWay_X1 tyX1 tyX1_ok nmX1 hown hK.1 hP hD hS 0 rfl rfl 6 (by decide) (hts (.fieldLink RX1 32 "HalfAndHalfAgain$Cover" "ways" "I") (List.mem_of_getElem? (i := 1) rfl)) (fun _ h9 => h9) rfl (by decide +kernel) rfl rfl (Nat.le_of_ble_eq_true rfl) dX1_noteWay_7 (fun H locs hP hD hS => ?_)
  have hP : va_P D vwCl [(a_this, .inr (0, [.ref a_this_spots, .ref a_this_found, .ref a_this_turnedSeen, .ref a_this_chosen, .ref a_this_best, .int c_this_pieces, .int x21])), (a_this_chosen, .inl (cJ, 4, .inr (.inl c_this_chosen))), (a_this_best, .inl (cJ, 4, .inr (.inl c_this_best)))] H := hP
  have hD : va_D A [(a_this, .inr (0, [.ref a_this_spots, .ref a_this_found, .ref a_this_turnedSeen, .ref a_this_chosen, .ref a_this_best, .int c_this_pieces, .int x21])), (a_this_chosen, .inl (cJ, 4, .inr (.inl c_this_chosen))), (a_this_best, .inl (cJ, 4, .inr (.inl c_this_best)))] := hD
  refine lv_aload_n hx hb dX1_noteWay_10 rfl (lv_at hl 0 rfl) ?_
  refine va_get (D := D) (ci := 0) (v := .int x21) (C := RX1) (T := TX1) (N := 7) hx hb hts zi_X1_noteWay_X1 hown hK.1 hP 0 rfl rfl 6 (by decide) (hts (.fieldLink RX1 32 "HalfAndHalfAgain$Cover" "ways" "I") (List.mem_of_getElem? (i := 1) rfl)) (fun _ h9 => h9) rfl dX1_noteWay_11 ?_
  refine lv_iconst (v := (1 : Int32)) hx hb dX1_noteWay_14 (by decide) ?_
  refine lv_icmp_eq (tgt := 25) hx hb dX1_noteWay_15 (by decide) (fun c22 => ?_) (fun c22 => ?_)
  · replace h := hk_ip c22 h
    refine lv_iconst (v := (0 : Int32)) hx hb dX1_noteWay_25 (by decide) ?_
    refine lv_istore_n (lv' := [(1, .int (0 : Int32)), (0, .ref a_this)]) hx hb dX1_noteWay_26 rfl hl (by decide) rfl (fun ls hl => ?_)
    obtain ⟨v31, hr30, h⟩ := hk_x1 h
    refine hk_loopM (f := st_X1_noteWay_27 c_this_pieces c_this_chosen) (hd := 27) (nL := 2) (lv := fun t9 => [(0, .ref a_this), (1, .int t9.1)]) (wf := fun t9 => [(a_this, .inr (0, [.ref a_this_spots, .ref a_this_found, .ref a_this_turnedSeen, .ref a_this_chosen, .ref a_this_best, .int c_this_pieces, .int x21])), (a_this_chosen, .inl (cJ, 4, .inr (.inl c_this_chosen))), (a_this_best, .inl (cJ, 4, .inr (.inl t9.2)))]) (xs := fun t9 => (53, [], [], [(a_this, .inr (0, [.ref a_this_spots, .ref a_this_found, .ref a_this_turnedSeen, .ref a_this_chosen, .ref a_this_best, .int c_this_pieces, .int x21])), (a_this_chosen, .inl (cJ, 4, .inr (.inl c_this_chosen))), (a_this_best, .inl (cJ, 4, .inr (.inl t9)))])) ?_ hr30 ?_ hP hD hS (lv_sub hl [1, 0] rfl)
    · intro t32 q33 k23 hck23 hqk23 H locs ls hP hD hS hl
      obtain ⟨y24, w25⟩ := t32
      have k23 : st_X1_noteWay_27c c_this_pieces c_this_chosen y24 w25 = some q33 := k23
      unfold st_X1_noteWay_27c at k23
      have hl : lv_has ls 2 [(0, .ref a_this), (1, .int y24)] := hl
      have hP : va_P D vwCl [(a_this, .inr (0, [.ref a_this_spots, .ref a_this_found, .ref a_this_turnedSeen, .ref a_this_chosen, .ref a_this_best, .int c_this_pieces, .int x21])), (a_this_chosen, .inl (cJ, 4, .inr (.inl c_this_chosen))), (a_this_best, .inl (cJ, 4, .inr (.inl w25)))] H := hP
      have hD : va_D A [(a_this, .inr (0, [.ref a_this_spots, .ref a_this_found, .ref a_this_turnedSeen, .ref a_this_chosen, .ref a_this_best, .int c_this_pieces, .int x21])), (a_this_chosen, .inl (cJ, 4, .inr (.inl c_this_chosen))), (a_this_best, .inl (cJ, 4, .inr (.inl w25)))] := hD
      refine lv_iload_n hx hb dX1_noteWay_27 rfl (lv_at hl 1 rfl) ?_
      refine lv_aload_n hx hb dX1_noteWay_28 rfl (lv_at hl 0 rfl) ?_
      refine va_get (D := D) (ci := 0) (v := .int c_this_pieces) (C := RX1) (T := TX1) (N := 7) hx hb hts zi_X1_noteWay_X1 hown hK.1 hP 0 rfl rfl 5 (by decide) (hts (.fieldLink RX1 28 "HalfAndHalfAgain$Cover" "pieces" "I") (List.mem_of_getElem? (i := 2) rfl)) (fun _ h9 => h9) rfl dX1_noteWay_29 ?_
      refine lv_icmp_ge (tgt := 53) hx hb dX1_noteWay_32 (by decide) (fun c26 => ?_) (fun c26 => ?_)
      · replace k23 := hk_ip c26 k23
        exact hqk23 w25 (Option.some.inj k23).symm H locs ls hP hD hS (lv_sub hl [] rfl)
      replace k23 := hk_in c26 k23
      refine lv_aload_n hx hb dX1_noteWay_35 rfl (lv_at hl 0 rfl) ?_
      refine va_get (D := D) (ci := 0) (v := .ref a_this_best) (C := RX1) (T := TX1) (N := 7) hx hb hts zi_X1_noteWay_X1 hown hK.1 hP 0 rfl rfl 4 (by decide) (hts (.fieldLink RX1 25 "HalfAndHalfAgain$Cover" "best" "[J") (List.mem_of_getElem? (i := 3) rfl)) (fun _ h9 => h9) rfl dX1_noteWay_36 ?_
      refine lv_iload_n hx hb dX1_noteWay_39 rfl (lv_at hl 1 rfl) ?_
      refine lv_aload_n hx hb dX1_noteWay_40 rfl (lv_at hl 0 rfl) ?_
      refine va_get (D := D) (ci := 0) (v := .ref a_this_chosen) (C := RX1) (T := TX1) (N := 7) hx hb hts zi_X1_noteWay_X1 hown hK.1 hP 0 rfl rfl 3 (by decide) (hts (.fieldLink RX1 22 "HalfAndHalfAgain$Cover" "chosen" "[J") (List.mem_of_getElem? (i := 4) rfl)) (fun _ h9 => h9) rfl dX1_noteWay_41 ?_
      refine lv_iload_n hx hb dX1_noteWay_44 rfl (lv_at hl 1 rfl) ?_
      obtain ⟨hi27, k23⟩ := hk_ge k23
      refine va_lald hx hb hK.1 hP 1 1 rfl rfl (hk_inb_of hi27) dX1_noteWay_45 ?_
      obtain ⟨hi28, k23⟩ := hk_ge k23
      refine va_last hx hb hK.1 hP hD hS 2 1 rfl rfl (hk_inb_of hi28) dX1_noteWay_46 (fun H locs hP hD hS => ?_)
      have hP : va_P D vwCl [(a_this, .inr (0, [.ref a_this_spots, .ref a_this_found, .ref a_this_turnedSeen, .ref a_this_chosen, .ref a_this_best, .int c_this_pieces, .int x21])), (a_this_chosen, .inl (cJ, 4, .inr (.inl c_this_chosen))), (a_this_best, .inl (cJ, 4, .inr (.inl (vp_updL w25 y24.toNatClampNeg (c_this_chosen y24.toNatClampNeg)))))] H := hP
      have hD : va_D A [(a_this, .inr (0, [.ref a_this_spots, .ref a_this_found, .ref a_this_turnedSeen, .ref a_this_chosen, .ref a_this_best, .int c_this_pieces, .int x21])), (a_this_chosen, .inl (cJ, 4, .inr (.inl c_this_chosen))), (a_this_best, .inl (cJ, 4, .inr (.inl (vp_updL w25 y24.toNatClampNeg (c_this_chosen y24.toNatClampNeg)))))] := hD
      obtain ⟨x29, ex29, k23⟩ := hk_le k23
      refine lv_iinc (v := x29) (lv' := [(1, .int x29), (0, .ref a_this)]) hx hb dX1_noteWay_47 hl (k := 1) rfl (by rw [ex29]; rfl) (by decide) rfl (fun ls hl => ?_)
      refine lv_goto (tgt := 27) hx hb dX1_noteWay_50 (by decide) ?_
      exact hck23 (x29, (vp_updL w25 y24.toNatClampNeg (c_this_chosen y24.toNatClampNeg))) (Option.some.inj k23).symm H locs ls hP hD hS (lv_sub hl [1, 0] rfl)
    intro H locs ls hP hD hS hl
    have hl : lv_has ls 2 [] := hl
    have hP : va_P D vwCl [(a_this, .inr (0, [.ref a_this_spots, .ref a_this_found, .ref a_this_turnedSeen, .ref a_this_chosen, .ref a_this_best, .int c_this_pieces, .int x21])), (a_this_chosen, .inl (cJ, 4, .inr (.inl c_this_chosen))), (a_this_best, .inl (cJ, 4, .inr (.inl v31)))] H := hP
    have hD : va_D A [(a_this, .inr (0, [.ref a_this_spots, .ref a_this_found, .ref a_this_turnedSeen, .ref a_this_chosen, .ref a_this_best, .int c_this_pieces, .int x21])), (a_this_chosen, .inl (cJ, 4, .inr (.inl c_this_chosen))), (a_this_best, .inl (cJ, 4, .inr (.inl v31)))] := hD
    show W _ _ _ _ _ _ _ _ _ _ _ _ _ _ _ (F0 m 53 ls [])
    subst hQ
    have h := Option.some.inj h
    simp only [Prod.mk.injEq] at h
    obtain ⟨rfl, rfl⟩ := h
    exact W.vret hx hb hr (fun t ht hW => ⟨⟨(), rfl, trivial, by rw [ht]; exact hP, hD⟩, hS.F ht⟩) hS.2.2 dX1_noteWay_53
  replace h := hk_in c22 h
  refine lv_aload_n hx hb dX1_noteWay_18 rfl (lv_at hl 0 rfl) ?_
  obtain ⟨r34, hr35, h⟩ := hk_x1 h
  refine vp_callSi (W.runV (As := []) (rest := []) ⟨hx, hb, hml, hown, hts⟩ (c_X1_chosenIsBefore l D cI cJ cZ cO a_this a_this_spots a_this_found a_this_turnedSeen a_this_chosen a_this_best c_this_pieces x21 c_this_chosen c_this_best _ hr35) (cwV 0 hts gX1_noteWay_X1_chosenIsBefore rfl rfl rfl zv_X1_chosenIsBefore ⟨Nat.le_of_ble_eq_true rfl, Nat.le_of_ble_eq_true rfl⟩) (hk_preRV 0 rfl (hP.sub (ws' := [(a_this, .inr (0, [.ref a_this_spots, .ref a_this_found, .ref a_this_turnedSeen, .ref a_this_chosen, .ref a_this_best, .int c_this_pieces, .int x21])), (a_this_chosen, .inl (cJ, 4, .inr (.inl c_this_chosen))), (a_this_best, .inl (cJ, 4, .inr (.inl c_this_best)))]) [0, 1, 2] rfl) hK rfl) rfl rfl hl.1 rfl (lv_room (Nat.le_of_ble_eq_true rfl)) dX1_noteWay_19 ⟨Nat.zero_le _, Nat.zero_le _⟩) (fun p37 e36 => ?_)
  rw [e36]
  refine lv_if_eq (tgt := 53) hx hb dX1_noteWay_22 (by decide) (fun c38 => ?_) (fun c38 => ?_)
  · replace h := hk_ip c38 h
    subst hQ
    have h := Option.some.inj h
    simp only [Prod.mk.injEq] at h
    obtain ⟨rfl, rfl⟩ := h
    exact W.vret hx hb hr (fun t ht hW => ⟨⟨(), rfl, trivial, by rw [ht]; exact hP, hD⟩, hS.F ht⟩) hS.2.2 dX1_noteWay_53
  replace h := hk_in c38 h
  refine lv_iconst (v := (0 : Int32)) hx hb dX1_noteWay_25 (by decide) ?_
  refine lv_istore_n (lv' := [(1, .int (0 : Int32)), (0, .ref a_this)]) hx hb dX1_noteWay_26 rfl hl (by decide) rfl (fun ls hl => ?_)
  obtain ⟨v47, hr46, h⟩ := hk_x1 h
  refine hk_loopM (f := st_X1_noteWay_27' c_this_pieces c_this_chosen) (hd := 27) (nL := 2) (lv := fun t9 => [(0, .ref a_this), (1, .int t9.1)]) (wf := fun t9 => [(a_this, .inr (0, [.ref a_this_spots, .ref a_this_found, .ref a_this_turnedSeen, .ref a_this_chosen, .ref a_this_best, .int c_this_pieces, .int x21])), (a_this_chosen, .inl (cJ, 4, .inr (.inl c_this_chosen))), (a_this_best, .inl (cJ, 4, .inr (.inl t9.2)))]) (xs := fun t9 => (53, [], [], [(a_this, .inr (0, [.ref a_this_spots, .ref a_this_found, .ref a_this_turnedSeen, .ref a_this_chosen, .ref a_this_best, .int c_this_pieces, .int x21])), (a_this_chosen, .inl (cJ, 4, .inr (.inl c_this_chosen))), (a_this_best, .inl (cJ, 4, .inr (.inl t9)))])) ?_ hr46 ?_ hP hD hS (lv_sub hl [1, 0] rfl)
  · intro t48 q49 k39 hck39 hqk39 H locs ls hP hD hS hl
    obtain ⟨y40, w41⟩ := t48
    have k39 : st_X1_noteWay_27'c c_this_pieces c_this_chosen y40 w41 = some q49 := k39
    unfold st_X1_noteWay_27'c at k39
    have hl : lv_has ls 2 [(0, .ref a_this), (1, .int y40)] := hl
    have hP : va_P D vwCl [(a_this, .inr (0, [.ref a_this_spots, .ref a_this_found, .ref a_this_turnedSeen, .ref a_this_chosen, .ref a_this_best, .int c_this_pieces, .int x21])), (a_this_chosen, .inl (cJ, 4, .inr (.inl c_this_chosen))), (a_this_best, .inl (cJ, 4, .inr (.inl w41)))] H := hP
    have hD : va_D A [(a_this, .inr (0, [.ref a_this_spots, .ref a_this_found, .ref a_this_turnedSeen, .ref a_this_chosen, .ref a_this_best, .int c_this_pieces, .int x21])), (a_this_chosen, .inl (cJ, 4, .inr (.inl c_this_chosen))), (a_this_best, .inl (cJ, 4, .inr (.inl w41)))] := hD
    refine lv_iload_n hx hb dX1_noteWay_27 rfl (lv_at hl 1 rfl) ?_
    refine lv_aload_n hx hb dX1_noteWay_28 rfl (lv_at hl 0 rfl) ?_
    refine va_get (D := D) (ci := 0) (v := .int c_this_pieces) (C := RX1) (T := TX1) (N := 7) hx hb hts zi_X1_noteWay_X1 hown hK.1 hP 0 rfl rfl 5 (by decide) (hts (.fieldLink RX1 28 "HalfAndHalfAgain$Cover" "pieces" "I") (List.mem_of_getElem? (i := 2) rfl)) (fun _ h9 => h9) rfl dX1_noteWay_29 ?_
    refine lv_icmp_ge (tgt := 53) hx hb dX1_noteWay_32 (by decide) (fun c42 => ?_) (fun c42 => ?_)
    · replace k39 := hk_ip c42 k39
      exact hqk39 w41 (Option.some.inj k39).symm H locs ls hP hD hS (lv_sub hl [] rfl)
    replace k39 := hk_in c42 k39
    refine lv_aload_n hx hb dX1_noteWay_35 rfl (lv_at hl 0 rfl) ?_
    refine va_get (D := D) (ci := 0) (v := .ref a_this_best) (C := RX1) (T := TX1) (N := 7) hx hb hts zi_X1_noteWay_X1 hown hK.1 hP 0 rfl rfl 4 (by decide) (hts (.fieldLink RX1 25 "HalfAndHalfAgain$Cover" "best" "[J") (List.mem_of_getElem? (i := 3) rfl)) (fun _ h9 => h9) rfl dX1_noteWay_36 ?_
    refine lv_iload_n hx hb dX1_noteWay_39 rfl (lv_at hl 1 rfl) ?_
    refine lv_aload_n hx hb dX1_noteWay_40 rfl (lv_at hl 0 rfl) ?_
    refine va_get (D := D) (ci := 0) (v := .ref a_this_chosen) (C := RX1) (T := TX1) (N := 7) hx hb hts zi_X1_noteWay_X1 hown hK.1 hP 0 rfl rfl 3 (by decide) (hts (.fieldLink RX1 22 "HalfAndHalfAgain$Cover" "chosen" "[J") (List.mem_of_getElem? (i := 4) rfl)) (fun _ h9 => h9) rfl dX1_noteWay_41 ?_
    refine lv_iload_n hx hb dX1_noteWay_44 rfl (lv_at hl 1 rfl) ?_
    obtain ⟨hi43, k39⟩ := hk_ge k39
    refine va_lald hx hb hK.1 hP 1 1 rfl rfl (hk_inb_of hi43) dX1_noteWay_45 ?_
    obtain ⟨hi44, k39⟩ := hk_ge k39
    refine va_last hx hb hK.1 hP hD hS 2 1 rfl rfl (hk_inb_of hi44) dX1_noteWay_46 (fun H locs hP hD hS => ?_)
    have hP : va_P D vwCl [(a_this, .inr (0, [.ref a_this_spots, .ref a_this_found, .ref a_this_turnedSeen, .ref a_this_chosen, .ref a_this_best, .int c_this_pieces, .int x21])), (a_this_chosen, .inl (cJ, 4, .inr (.inl c_this_chosen))), (a_this_best, .inl (cJ, 4, .inr (.inl (vp_updL w41 y40.toNatClampNeg (c_this_chosen y40.toNatClampNeg)))))] H := hP
    have hD : va_D A [(a_this, .inr (0, [.ref a_this_spots, .ref a_this_found, .ref a_this_turnedSeen, .ref a_this_chosen, .ref a_this_best, .int c_this_pieces, .int x21])), (a_this_chosen, .inl (cJ, 4, .inr (.inl c_this_chosen))), (a_this_best, .inl (cJ, 4, .inr (.inl (vp_updL w41 y40.toNatClampNeg (c_this_chosen y40.toNatClampNeg)))))] := hD
    obtain ⟨x45, ex45, k39⟩ := hk_le k39
    refine lv_iinc (v := x45) (lv' := [(1, .int x45), (0, .ref a_this)]) hx hb dX1_noteWay_47 hl (k := 1) rfl (by rw [ex45]; rfl) (by decide) rfl (fun ls hl => ?_)
    refine lv_goto (tgt := 27) hx hb dX1_noteWay_50 (by decide) ?_
    exact hck39 (x45, (vp_updL w41 y40.toNatClampNeg (c_this_chosen y40.toNatClampNeg))) (Option.some.inj k39).symm H locs ls hP hD hS (lv_sub hl [1, 0] rfl)
  intro H locs ls hP hD hS hl
  have hl : lv_has ls 2 [] := hl
  have hP : va_P D vwCl [(a_this, .inr (0, [.ref a_this_spots, .ref a_this_found, .ref a_this_turnedSeen, .ref a_this_chosen, .ref a_this_best, .int c_this_pieces, .int x21])), (a_this_chosen, .inl (cJ, 4, .inr (.inl c_this_chosen))), (a_this_best, .inl (cJ, 4, .inr (.inl v47)))] H := hP
  have hD : va_D A [(a_this, .inr (0, [.ref a_this_spots, .ref a_this_found, .ref a_this_turnedSeen, .ref a_this_chosen, .ref a_this_best, .int c_this_pieces, .int x21])), (a_this_chosen, .inl (cJ, 4, .inr (.inl c_this_chosen))), (a_this_best, .inl (cJ, 4, .inr (.inl v47)))] := hD
  show W _ _ _ _ _ _ _ _ _ _ _ _ _ _ _ (F0 m 53 ls [])
  subst hQ
  have h := Option.some.inj h
  simp only [Prod.mk.injEq] at h
  obtain ⟨rfl, rfl⟩ := h
  exact W.vret hx hb hr (fun t ht hW => ⟨⟨(), rfl, trivial, by rw [ht]; exact hP, hD⟩, hS.F ht⟩) hS.2.2 dX1_noteWay_53
theorem zv_X5_copyFrom : yX5_copyFrom.cls = RX5 ∧ yX5_copyFrom.cls ≠ "java/lang/invoke/MethodHandle" ∧ yX5_copyFrom.cls ≠ "java/lang/invoke/VarHandle" ∧ (parseMethodDescriptor yX5_copyFrom.desc).map (fun d => d.parameters.length) = some 1 := by decide +kernel
def st_X5_copyFrom_2c (c_p1_figures : Nat → Int64) (y22 : Int32) (w23 : Nat → Int64) : Option ((Int32 × (Nat → Int64)) ⊕ (Nat → Int64)) := if (8 : Int32) ≤ y22 then (some (.inr w23)) else (hk_gd (hk_inb y22 8) (hk_gd (hk_inb y22 8) (hk_let (y22 + (1 : Int32)) fun x27 => some (.inl (x27, (vp_updL w23 y22.toNatClampNeg (c_p1_figures y22.toNatClampNeg)))))))
def st_X5_copyFrom_2 (c_p1_figures : Nat → Int64) (t9 : (Int32 × (Nat → Int64))) : Option ((Int32 × (Nat → Int64)) ⊕ (Nat → Int64)) := st_X5_copyFrom_2c c_p1_figures t9.1 t9.2
def st_X5_copyFrom_28c (c_p1_pieces : Nat → Int64) (c_p1_mayMirror : Nat → Int32) (y33 : Int32) (w34 : Nat → Int64) (w35 : Nat → Int32) : Option ((Int32 × (Nat → Int64) × (Nat → Int32)) ⊕ ((Nat → Int64) × (Nat → Int32))) := if (4 : Int32) ≤ y33 then (some (.inr (w34, w35))) else (hk_gd (hk_inb y33 4) (hk_gd (hk_inb y33 4) (hk_gd (hk_inb y33 4) (hk_gd (hk_inb y33 4) (hk_let (y33 + (1 : Int32)) fun x41 => some (.inl (x41, (vp_updL w34 y33.toNatClampNeg (c_p1_pieces y33.toNatClampNeg)), (upd w35 y33.toNatClampNeg (vp_nar .boolean (c_p1_mayMirror y33.toNatClampNeg))))))))))
def st_X5_copyFrom_28 (c_p1_pieces : Nat → Int64) (c_p1_mayMirror : Nat → Int32) (t9 : (Int32 × (Nat → Int64) × (Nat → Int32))) : Option ((Int32 × (Nat → Int64) × (Nat → Int32)) ⊕ ((Nat → Int64) × (Nat → Int32))) := st_X5_copyFrom_28c c_p1_pieces c_p1_mayMirror t9.1 t9.2.1 t9.2.2
def f_X5_copyFrom (c_this_laid : Int32) (c_p1_laid : Int32) (c_this_figures : Nat → Int64) (c_p1_figures : Nat → Int64) (c_this_pieces : Nat → Int64) (c_p1_pieces : Nat → Int64) (c_this_mayMirror : Nat → Int32) (c_p1_mayMirror : Nat → Int32)   : Option (Int32 × (Nat → Int64) × (Nat → Int64) × (Nat → Int32)) := hk_b1 (hk_wl (st_X5_copyFrom_2 c_p1_figures) hkF ((0 : Int32), c_this_figures)) fun v29 => hk_b2 (hk_wl (st_X5_copyFrom_28 c_p1_pieces c_p1_mayMirror) hkF ((0 : Int32), c_this_pieces, c_this_mayMirror)) fun v43 v44 => some (c_p1_laid, v29, v43, v44)
theorem zi_X5_copyFrom_X5 : ∀ w ∈ u_ws RX5 TX5 4, w ∈ wsX5_copyFrom := by decide +kernel
set_option maxHeartbeats 8000000 in
set_option maxRecDepth 100000 in
theorem c_X5_copyFrom (l : Launch) (D : va_G) (cI cJ cZ cO : ClassId) (a_this a_this_figures a_this_pieces a_this_mayMirror a_p1 a_p1_figures a_p1_pieces a_p1_mayMirror : Nat) (sz : Nat) (c_this_laid : Int32) (c_p1_laid : Int32) (c_this_figures : Nat → Int64) (c_p1_figures : Nat → Int64) (c_this_pieces : Nat → Int64) (c_p1_pieces : Nat → Int64) (c_this_mayMirror : Nat → Int32) (c_p1_mayMirror : Nat → Int32) (u_this_laid : Int32) (u_this_figures : Nat → Int64) (u_this_pieces : Nat → Int64) (u_this_mayMirror : Nat → Int32) (hf : f_X5_copyFrom c_this_laid c_p1_laid c_this_figures c_p1_figures c_this_pieces c_p1_pieces c_this_mayMirror c_p1_mayMirror = some (u_this_laid, u_this_figures, u_this_pieces, u_this_mayMirror)) : Met l yX5_copyFrom wsX5_copyFrom ({ frames := 0, cells := 0, slots := 0, locals := 0 }) (va_Pc [.ref a_this, .ref a_p1] (hkM D cI cJ cZ cO [(a_this, .inr (1, [.ref a_this_figures, .ref a_this_pieces, .ref a_this_mayMirror, .int c_this_laid])), (a_p1, .inr (1, [.ref a_p1_figures, .ref a_p1_pieces, .ref a_p1_mayMirror, .int c_p1_laid])), (a_this_figures, .inl (cJ, 8, .inr (.inl c_this_figures))), (a_p1_figures, .inl (cJ, 8, .inr (.inl c_p1_figures))), (a_this_pieces, .inl (cJ, 4, .inr (.inl c_this_pieces))), (a_p1_pieces, .inl (cJ, 4, .inr (.inl c_p1_pieces))), (a_this_mayMirror, .inl (cZ, 4, .inl c_this_mayMirror)), (a_p1_mayMirror, .inl (cZ, 4, .inl c_p1_mayMirror))] sz)) (va_Qv (fun (_ : Unit) => True) (fun _ t => va_P D vwCl [(a_this, .inr (1, [.ref a_this_figures, .ref a_this_pieces, .ref a_this_mayMirror, .int u_this_laid])), (a_p1, .inr (1, [.ref a_p1_figures, .ref a_p1_pieces, .ref a_p1_mayMirror, .int c_p1_laid])), (a_this_figures, .inl (cJ, 8, .inr (.inl u_this_figures))), (a_p1_figures, .inl (cJ, 8, .inr (.inl c_p1_figures))), (a_this_pieces, .inl (cJ, 4, .inr (.inl u_this_pieces))), (a_p1_pieces, .inl (cJ, 4, .inr (.inl c_p1_pieces))), (a_this_mayMirror, .inl (cZ, 4, .inl u_this_mayMirror)), (a_p1_mayMirror, .inl (cZ, 4, .inl c_p1_mayMirror))] t.heap ∧ va_D (va_A [(a_this, .inr (1, [.ref a_this_figures, .ref a_this_pieces, .ref a_this_mayMirror, .int c_this_laid])), (a_p1, .inr (1, [.ref a_p1_figures, .ref a_p1_pieces, .ref a_p1_mayMirror, .int c_p1_laid])), (a_this_figures, .inl (cJ, 8, .inr (.inl c_this_figures))), (a_p1_figures, .inl (cJ, 8, .inr (.inl c_p1_figures))), (a_this_pieces, .inl (cJ, 4, .inr (.inl c_this_pieces))), (a_p1_pieces, .inl (cJ, 4, .inr (.inl c_p1_pieces))), (a_this_mayMirror, .inl (cZ, 4, .inl c_this_mayMirror)), (a_p1_mayMirror, .inl (cZ, 4, .inl c_p1_mayMirror))] sz) [(a_this, .inr (1, [.ref a_this_figures, .ref a_this_pieces, .ref a_this_mayMirror, .int u_this_laid])), (a_p1, .inr (1, [.ref a_p1_figures, .ref a_p1_pieces, .ref a_p1_mayMirror, .int c_p1_laid])), (a_this_figures, .inl (cJ, 8, .inr (.inl u_this_figures))), (a_p1_figures, .inl (cJ, 8, .inr (.inl c_p1_figures))), (a_this_pieces, .inl (cJ, 4, .inr (.inl u_this_pieces))), (a_p1_pieces, .inl (cJ, 4, .inr (.inl c_p1_pieces))), (a_this_mayMirror, .inl (cZ, 4, .inl u_this_mayMirror)), (a_p1_mayMirror, .inl (cZ, 4, .inl c_p1_mayMirror))]) (va_A [(a_this, .inr (1, [.ref a_this_figures, .ref a_this_pieces, .ref a_this_mayMirror, .int c_this_laid])), (a_p1, .inr (1, [.ref a_p1_figures, .ref a_p1_pieces, .ref a_p1_mayMirror, .int c_p1_laid])), (a_this_figures, .inl (cJ, 8, .inr (.inl c_this_figures))), (a_p1_figures, .inl (cJ, 8, .inr (.inl c_p1_figures))), (a_this_pieces, .inl (cJ, 4, .inr (.inl c_this_pieces))), (a_p1_pieces, .inl (cJ, 4, .inr (.inl c_p1_pieces))), (a_this_mayMirror, .inl (cZ, 4, .inl c_this_mayMirror)), (a_p1_mayMirror, .inl (cZ, 4, .inl c_p1_mayMirror))] sz)) 0 0 (va_A [(a_this, .inr (1, [.ref a_this_figures, .ref a_this_pieces, .ref a_this_mayMirror, .int c_this_laid])), (a_p1, .inr (1, [.ref a_p1_figures, .ref a_p1_pieces, .ref a_p1_mayMirror, .int c_p1_laid])), (a_this_figures, .inl (cJ, 8, .inr (.inl c_this_figures))), (a_p1_figures, .inl (cJ, 8, .inr (.inl c_p1_figures))), (a_this_pieces, .inl (cJ, 4, .inr (.inl c_this_pieces))), (a_p1_pieces, .inl (cJ, 4, .inr (.inl c_p1_pieces))), (a_this_mayMirror, .inl (cZ, 4, .inl c_this_mayMirror)), (a_p1_mayMirror, .inl (cZ, 4, .inl c_p1_mayMirror))] sz) := by
  refine Met.ofW (cc := cX5_copyFrom) (maxL := 3) (ret := none) (by decide) rfl ?_
  intro p e s m args below meth c s₁ B hml hv
  obtain ⟨rfl, hsz, hP, hK, hD0⟩ := hv
  have hx := B.exec
  have hb := B.bytes
  have hr := B.returns
  have hts := atoms_spec (ws := wsX5_copyFrom) B.pre
  have hown : s.vm.findClass RX5 = some m.cls := findClass_of_methodNamed B.named
  have hlocks := B.notSynchronized
  have hN := hK.2
  subst hsz
  have hD := hD0.self (sz := s.heap.size)
  generalize hAe : va_A [(a_this, .inr (1, [.ref a_this_figures, .ref a_this_pieces, .ref a_this_mayMirror, .int c_this_laid])), (a_p1, .inr (1, [.ref a_p1_figures, .ref a_p1_pieces, .ref a_p1_mayMirror, .int c_p1_laid])), (a_this_figures, .inl (cJ, 8, .inr (.inl c_this_figures))), (a_p1_figures, .inl (cJ, 8, .inr (.inl c_p1_figures))), (a_this_pieces, .inl (cJ, 4, .inr (.inl c_this_pieces))), (a_p1_pieces, .inl (cJ, 4, .inr (.inl c_p1_pieces))), (a_this_mayMirror, .inl (cZ, 4, .inl c_this_mayMirror)), (a_p1_mayMirror, .inl (cZ, 4, .inl c_p1_mayMirror))] s.heap.size = A at hD ⊢
  have hA : ∀ q : Nat, s.heap.size ≤ q → A q := fun q h => by rw [← hAe]; exact Or.inr h
  have hS : va_S A s.heap s.heap [] := va_S.rf
  have hl := lv_entry ([.ref a_this, .ref a_p1]) (n := 3) (Nat.le_of_ble_eq_true rfl)
  rw [lg_entry_eq]
  generalize (lg_sl ([.ref a_this, .ref a_p1]) ++ List.replicate (3 - (lg_sl ([.ref a_this, .ref a_p1])).length) Slot.unset).toArray = ls at hl ⊢
  have hl : lv_has ls 3 [(0, .ref a_this), (1, .ref a_p1)] := hl
  refine hk_Q (fun Q hQ => ?_)
  have h := hf
  unfold f_X5_copyFrom at h
  refine lv_iconst (v := (0 : Int32)) hx hb dX5_copyFrom_0 (by decide) ?_
  refine lv_istore_n (lv' := [(2, .int (0 : Int32)), (0, .ref a_this), (1, .ref a_p1)]) hx hb dX5_copyFrom_1 rfl hl (by decide) rfl (fun ls hl => ?_)
  obtain ⟨v29, hr28, h⟩ := hk_x1 h
  refine hk_loopM (f := st_X5_copyFrom_2 c_p1_figures) (hd := 2) (nL := 3) (lv := fun t9 => [(0, .ref a_this), (1, .ref a_p1), (2, .int t9.1)]) (wf := fun t9 => [(a_this, .inr (1, [.ref a_this_figures, .ref a_this_pieces, .ref a_this_mayMirror, .int c_this_laid])), (a_p1, .inr (1, [.ref a_p1_figures, .ref a_p1_pieces, .ref a_p1_mayMirror, .int c_p1_laid])), (a_this_figures, .inl (cJ, 8, .inr (.inl t9.2))), (a_p1_figures, .inl (cJ, 8, .inr (.inl c_p1_figures))), (a_this_pieces, .inl (cJ, 4, .inr (.inl c_this_pieces))), (a_p1_pieces, .inl (cJ, 4, .inr (.inl c_p1_pieces))), (a_this_mayMirror, .inl (cZ, 4, .inl c_this_mayMirror)), (a_p1_mayMirror, .inl (cZ, 4, .inl c_p1_mayMirror))]) (xs := fun t9 => (26, [(0, .ref a_this), (1, .ref a_p1)], [], [(a_this, .inr (1, [.ref a_this_figures, .ref a_this_pieces, .ref a_this_mayMirror, .int c_this_laid])), (a_p1, .inr (1, [.ref a_p1_figures, .ref a_p1_pieces, .ref a_p1_mayMirror, .int c_p1_laid])), (a_this_figures, .inl (cJ, 8, .inr (.inl t9))), (a_p1_figures, .inl (cJ, 8, .inr (.inl c_p1_figures))), (a_this_pieces, .inl (cJ, 4, .inr (.inl c_this_pieces))), (a_p1_pieces, .inl (cJ, 4, .inr (.inl c_p1_pieces))), (a_this_mayMirror, .inl (cZ, 4, .inl c_this_mayMirror)), (a_p1_mayMirror, .inl (cZ, 4, .inl c_p1_mayMirror))])) ?_ hr28 ?_ hP hD hS (lv_sub hl [1, 2, 0] rfl)
  · intro t30 q31 k21 hck21 hqk21 H locs ls hP hD hS hl
    obtain ⟨y22, w23⟩ := t30
    have k21 : st_X5_copyFrom_2c c_p1_figures y22 w23 = some q31 := k21
    unfold st_X5_copyFrom_2c at k21
    have hl : lv_has ls 3 [(0, .ref a_this), (1, .ref a_p1), (2, .int y22)] := hl
    have hP : va_P D vwCl [(a_this, .inr (1, [.ref a_this_figures, .ref a_this_pieces, .ref a_this_mayMirror, .int c_this_laid])), (a_p1, .inr (1, [.ref a_p1_figures, .ref a_p1_pieces, .ref a_p1_mayMirror, .int c_p1_laid])), (a_this_figures, .inl (cJ, 8, .inr (.inl w23))), (a_p1_figures, .inl (cJ, 8, .inr (.inl c_p1_figures))), (a_this_pieces, .inl (cJ, 4, .inr (.inl c_this_pieces))), (a_p1_pieces, .inl (cJ, 4, .inr (.inl c_p1_pieces))), (a_this_mayMirror, .inl (cZ, 4, .inl c_this_mayMirror)), (a_p1_mayMirror, .inl (cZ, 4, .inl c_p1_mayMirror))] H := hP
    have hD : va_D A [(a_this, .inr (1, [.ref a_this_figures, .ref a_this_pieces, .ref a_this_mayMirror, .int c_this_laid])), (a_p1, .inr (1, [.ref a_p1_figures, .ref a_p1_pieces, .ref a_p1_mayMirror, .int c_p1_laid])), (a_this_figures, .inl (cJ, 8, .inr (.inl w23))), (a_p1_figures, .inl (cJ, 8, .inr (.inl c_p1_figures))), (a_this_pieces, .inl (cJ, 4, .inr (.inl c_this_pieces))), (a_p1_pieces, .inl (cJ, 4, .inr (.inl c_p1_pieces))), (a_this_mayMirror, .inl (cZ, 4, .inl c_this_mayMirror)), (a_p1_mayMirror, .inl (cZ, 4, .inl c_p1_mayMirror))] := hD
    refine lv_iload_n hx hb dX5_copyFrom_2 rfl (lv_at hl 2 rfl) ?_
    refine lv_bipush (v := (8 : Int32)) hx hb dX5_copyFrom_3 (by decide) ?_
    refine lv_icmp_ge (tgt := 26) hx hb dX5_copyFrom_5 (by decide) (fun c24 => ?_) (fun c24 => ?_)
    · replace k21 := hk_ip c24 k21
      exact hqk21 w23 (Option.some.inj k21).symm H locs ls hP hD hS (lv_sub hl [0, 1] rfl)
    replace k21 := hk_in c24 k21
    refine lv_aload_n hx hb dX5_copyFrom_8 rfl (lv_at hl 0 rfl) ?_
    refine va_get (D := D) (ci := 1) (v := .ref a_this_figures) (C := RX5) (T := TX5) (N := 4) hx hb hts zi_X5_copyFrom_X5 hown hK.1 hP 0 rfl rfl 0 (by decide) (hts (.fieldLink RX5 9 "HalfAndHalfAgain$Store" "figures" "[J") (List.mem_of_getElem? (i := 1) rfl)) (fun _ h9 => h9) rfl dX5_copyFrom_9 ?_
    refine lv_iload_n hx hb dX5_copyFrom_12 rfl (lv_at hl 2 rfl) ?_
    refine lv_aload_n hx hb dX5_copyFrom_13 rfl (lv_at hl 1 rfl) ?_
    refine va_get (D := D) (ci := 1) (v := .ref a_p1_figures) (C := RX5) (T := TX5) (N := 4) hx hb hts zi_X5_copyFrom_X5 hown hK.1 hP 1 rfl rfl 0 (by decide) (hts (.fieldLink RX5 9 "HalfAndHalfAgain$Store" "figures" "[J") (List.mem_of_getElem? (i := 1) rfl)) (fun _ h9 => h9) rfl dX5_copyFrom_14 ?_
    refine lv_iload_n hx hb dX5_copyFrom_17 rfl (lv_at hl 2 rfl) ?_
    obtain ⟨hi25, k21⟩ := hk_ge k21
    refine va_lald hx hb hK.1 hP 3 1 rfl rfl (hk_inb_of hi25) dX5_copyFrom_18 ?_
    obtain ⟨hi26, k21⟩ := hk_ge k21
    refine va_last hx hb hK.1 hP hD hS 2 1 rfl rfl (hk_inb_of hi26) dX5_copyFrom_19 (fun H locs hP hD hS => ?_)
    have hP : va_P D vwCl [(a_this, .inr (1, [.ref a_this_figures, .ref a_this_pieces, .ref a_this_mayMirror, .int c_this_laid])), (a_p1, .inr (1, [.ref a_p1_figures, .ref a_p1_pieces, .ref a_p1_mayMirror, .int c_p1_laid])), (a_this_figures, .inl (cJ, 8, .inr (.inl (vp_updL w23 y22.toNatClampNeg (c_p1_figures y22.toNatClampNeg))))), (a_p1_figures, .inl (cJ, 8, .inr (.inl c_p1_figures))), (a_this_pieces, .inl (cJ, 4, .inr (.inl c_this_pieces))), (a_p1_pieces, .inl (cJ, 4, .inr (.inl c_p1_pieces))), (a_this_mayMirror, .inl (cZ, 4, .inl c_this_mayMirror)), (a_p1_mayMirror, .inl (cZ, 4, .inl c_p1_mayMirror))] H := hP
    have hD : va_D A [(a_this, .inr (1, [.ref a_this_figures, .ref a_this_pieces, .ref a_this_mayMirror, .int c_this_laid])), (a_p1, .inr (1, [.ref a_p1_figures, .ref a_p1_pieces, .ref a_p1_mayMirror, .int c_p1_laid])), (a_this_figures, .inl (cJ, 8, .inr (.inl (vp_updL w23 y22.toNatClampNeg (c_p1_figures y22.toNatClampNeg))))), (a_p1_figures, .inl (cJ, 8, .inr (.inl c_p1_figures))), (a_this_pieces, .inl (cJ, 4, .inr (.inl c_this_pieces))), (a_p1_pieces, .inl (cJ, 4, .inr (.inl c_p1_pieces))), (a_this_mayMirror, .inl (cZ, 4, .inl c_this_mayMirror)), (a_p1_mayMirror, .inl (cZ, 4, .inl c_p1_mayMirror))] := hD
    obtain ⟨x27, ex27, k21⟩ := hk_le k21
    refine lv_iinc (v := x27) (lv' := [(2, .int x27), (0, .ref a_this), (1, .ref a_p1)]) hx hb dX5_copyFrom_20 hl (k := 2) rfl (by rw [ex27]; rfl) (by decide) rfl (fun ls hl => ?_)
    refine lv_goto (tgt := 2) hx hb dX5_copyFrom_23 (by decide) ?_
    exact hck21 (x27, (vp_updL w23 y22.toNatClampNeg (c_p1_figures y22.toNatClampNeg))) (Option.some.inj k21).symm H locs ls hP hD hS (lv_sub hl [1, 2, 0] rfl)
  intro H locs ls hP hD hS hl
  have hl : lv_has ls 3 [(0, .ref a_this), (1, .ref a_p1)] := hl
  have hP : va_P D vwCl [(a_this, .inr (1, [.ref a_this_figures, .ref a_this_pieces, .ref a_this_mayMirror, .int c_this_laid])), (a_p1, .inr (1, [.ref a_p1_figures, .ref a_p1_pieces, .ref a_p1_mayMirror, .int c_p1_laid])), (a_this_figures, .inl (cJ, 8, .inr (.inl v29))), (a_p1_figures, .inl (cJ, 8, .inr (.inl c_p1_figures))), (a_this_pieces, .inl (cJ, 4, .inr (.inl c_this_pieces))), (a_p1_pieces, .inl (cJ, 4, .inr (.inl c_p1_pieces))), (a_this_mayMirror, .inl (cZ, 4, .inl c_this_mayMirror)), (a_p1_mayMirror, .inl (cZ, 4, .inl c_p1_mayMirror))] H := hP
  have hD : va_D A [(a_this, .inr (1, [.ref a_this_figures, .ref a_this_pieces, .ref a_this_mayMirror, .int c_this_laid])), (a_p1, .inr (1, [.ref a_p1_figures, .ref a_p1_pieces, .ref a_p1_mayMirror, .int c_p1_laid])), (a_this_figures, .inl (cJ, 8, .inr (.inl v29))), (a_p1_figures, .inl (cJ, 8, .inr (.inl c_p1_figures))), (a_this_pieces, .inl (cJ, 4, .inr (.inl c_this_pieces))), (a_p1_pieces, .inl (cJ, 4, .inr (.inl c_p1_pieces))), (a_this_mayMirror, .inl (cZ, 4, .inl c_this_mayMirror)), (a_p1_mayMirror, .inl (cZ, 4, .inl c_p1_mayMirror))] := hD
  show W _ _ _ _ _ _ _ _ _ _ _ _ _ _ _ (F0 m 26 ls [])
  refine lv_iconst (v := (0 : Int32)) hx hb dX5_copyFrom_26 (by decide) ?_
  refine lv_istore_n (lv' := [(2, .int (0 : Int32)), (0, .ref a_this), (1, .ref a_p1)]) hx hb dX5_copyFrom_27 rfl hl (by decide) rfl (fun ls hl => ?_)
  obtain ⟨v43, v44, hr42, h⟩ := hk_x2 h
  refine hk_loopM (f := st_X5_copyFrom_28 c_p1_pieces c_p1_mayMirror) (hd := 28) (nL := 3) (lv := fun t9 => [(0, .ref a_this), (1, .ref a_p1), (2, .int t9.1)]) (wf := fun t9 => [(a_this, .inr (1, [.ref a_this_figures, .ref a_this_pieces, .ref a_this_mayMirror, .int c_this_laid])), (a_p1, .inr (1, [.ref a_p1_figures, .ref a_p1_pieces, .ref a_p1_mayMirror, .int c_p1_laid])), (a_this_figures, .inl (cJ, 8, .inr (.inl v29))), (a_p1_figures, .inl (cJ, 8, .inr (.inl c_p1_figures))), (a_this_pieces, .inl (cJ, 4, .inr (.inl t9.2.1))), (a_p1_pieces, .inl (cJ, 4, .inr (.inl c_p1_pieces))), (a_this_mayMirror, .inl (cZ, 4, .inl t9.2.2)), (a_p1_mayMirror, .inl (cZ, 4, .inl c_p1_mayMirror))]) (xs := fun t9 => (63, [(0, .ref a_this), (1, .ref a_p1)], [], [(a_this, .inr (1, [.ref a_this_figures, .ref a_this_pieces, .ref a_this_mayMirror, .int c_this_laid])), (a_p1, .inr (1, [.ref a_p1_figures, .ref a_p1_pieces, .ref a_p1_mayMirror, .int c_p1_laid])), (a_this_figures, .inl (cJ, 8, .inr (.inl v29))), (a_p1_figures, .inl (cJ, 8, .inr (.inl c_p1_figures))), (a_this_pieces, .inl (cJ, 4, .inr (.inl t9.1))), (a_p1_pieces, .inl (cJ, 4, .inr (.inl c_p1_pieces))), (a_this_mayMirror, .inl (cZ, 4, .inl t9.2)), (a_p1_mayMirror, .inl (cZ, 4, .inl c_p1_mayMirror))])) ?_ hr42 ?_ hP hD hS (lv_sub hl [1, 2, 0] rfl)
  · intro t45 q46 k32 hck32 hqk32 H locs ls hP hD hS hl
    obtain ⟨y33, w34, w35⟩ := t45
    have k32 : st_X5_copyFrom_28c c_p1_pieces c_p1_mayMirror y33 w34 w35 = some q46 := k32
    unfold st_X5_copyFrom_28c at k32
    have hl : lv_has ls 3 [(0, .ref a_this), (1, .ref a_p1), (2, .int y33)] := hl
    have hP : va_P D vwCl [(a_this, .inr (1, [.ref a_this_figures, .ref a_this_pieces, .ref a_this_mayMirror, .int c_this_laid])), (a_p1, .inr (1, [.ref a_p1_figures, .ref a_p1_pieces, .ref a_p1_mayMirror, .int c_p1_laid])), (a_this_figures, .inl (cJ, 8, .inr (.inl v29))), (a_p1_figures, .inl (cJ, 8, .inr (.inl c_p1_figures))), (a_this_pieces, .inl (cJ, 4, .inr (.inl w34))), (a_p1_pieces, .inl (cJ, 4, .inr (.inl c_p1_pieces))), (a_this_mayMirror, .inl (cZ, 4, .inl w35)), (a_p1_mayMirror, .inl (cZ, 4, .inl c_p1_mayMirror))] H := hP
    have hD : va_D A [(a_this, .inr (1, [.ref a_this_figures, .ref a_this_pieces, .ref a_this_mayMirror, .int c_this_laid])), (a_p1, .inr (1, [.ref a_p1_figures, .ref a_p1_pieces, .ref a_p1_mayMirror, .int c_p1_laid])), (a_this_figures, .inl (cJ, 8, .inr (.inl v29))), (a_p1_figures, .inl (cJ, 8, .inr (.inl c_p1_figures))), (a_this_pieces, .inl (cJ, 4, .inr (.inl w34))), (a_p1_pieces, .inl (cJ, 4, .inr (.inl c_p1_pieces))), (a_this_mayMirror, .inl (cZ, 4, .inl w35)), (a_p1_mayMirror, .inl (cZ, 4, .inl c_p1_mayMirror))] := hD
    refine lv_iload_n hx hb dX5_copyFrom_28 rfl (lv_at hl 2 rfl) ?_
    refine lv_iconst (v := (4 : Int32)) hx hb dX5_copyFrom_29 (by decide) ?_
    refine lv_icmp_ge (tgt := 63) hx hb dX5_copyFrom_30 (by decide) (fun c36 => ?_) (fun c36 => ?_)
    · replace k32 := hk_ip c36 k32
      exact hqk32 (w34, w35) (Option.some.inj k32).symm H locs ls hP hD hS (lv_sub hl [0, 1] rfl)
    replace k32 := hk_in c36 k32
    refine lv_aload_n hx hb dX5_copyFrom_33 rfl (lv_at hl 0 rfl) ?_
    refine va_get (D := D) (ci := 1) (v := .ref a_this_pieces) (C := RX5) (T := TX5) (N := 4) hx hb hts zi_X5_copyFrom_X5 hown hK.1 hP 0 rfl rfl 1 (by decide) (hts (.fieldLink RX5 15 "HalfAndHalfAgain$Store" "pieces" "[J") (List.mem_of_getElem? (i := 2) rfl)) (fun _ h9 => h9) rfl dX5_copyFrom_34 ?_
    refine lv_iload_n hx hb dX5_copyFrom_37 rfl (lv_at hl 2 rfl) ?_
    refine lv_aload_n hx hb dX5_copyFrom_38 rfl (lv_at hl 1 rfl) ?_
    refine va_get (D := D) (ci := 1) (v := .ref a_p1_pieces) (C := RX5) (T := TX5) (N := 4) hx hb hts zi_X5_copyFrom_X5 hown hK.1 hP 1 rfl rfl 1 (by decide) (hts (.fieldLink RX5 15 "HalfAndHalfAgain$Store" "pieces" "[J") (List.mem_of_getElem? (i := 2) rfl)) (fun _ h9 => h9) rfl dX5_copyFrom_39 ?_
    refine lv_iload_n hx hb dX5_copyFrom_42 rfl (lv_at hl 2 rfl) ?_
    obtain ⟨hi37, k32⟩ := hk_ge k32
    refine va_lald hx hb hK.1 hP 5 1 rfl rfl (hk_inb_of hi37) dX5_copyFrom_43 ?_
    obtain ⟨hi38, k32⟩ := hk_ge k32
    refine va_last hx hb hK.1 hP hD hS 4 1 rfl rfl (hk_inb_of hi38) dX5_copyFrom_44 (fun H locs hP hD hS => ?_)
    have hP : va_P D vwCl [(a_this, .inr (1, [.ref a_this_figures, .ref a_this_pieces, .ref a_this_mayMirror, .int c_this_laid])), (a_p1, .inr (1, [.ref a_p1_figures, .ref a_p1_pieces, .ref a_p1_mayMirror, .int c_p1_laid])), (a_this_figures, .inl (cJ, 8, .inr (.inl v29))), (a_p1_figures, .inl (cJ, 8, .inr (.inl c_p1_figures))), (a_this_pieces, .inl (cJ, 4, .inr (.inl (vp_updL w34 y33.toNatClampNeg (c_p1_pieces y33.toNatClampNeg))))), (a_p1_pieces, .inl (cJ, 4, .inr (.inl c_p1_pieces))), (a_this_mayMirror, .inl (cZ, 4, .inl w35)), (a_p1_mayMirror, .inl (cZ, 4, .inl c_p1_mayMirror))] H := hP
    have hD : va_D A [(a_this, .inr (1, [.ref a_this_figures, .ref a_this_pieces, .ref a_this_mayMirror, .int c_this_laid])), (a_p1, .inr (1, [.ref a_p1_figures, .ref a_p1_pieces, .ref a_p1_mayMirror, .int c_p1_laid])), (a_this_figures, .inl (cJ, 8, .inr (.inl v29))), (a_p1_figures, .inl (cJ, 8, .inr (.inl c_p1_figures))), (a_this_pieces, .inl (cJ, 4, .inr (.inl (vp_updL w34 y33.toNatClampNeg (c_p1_pieces y33.toNatClampNeg))))), (a_p1_pieces, .inl (cJ, 4, .inr (.inl c_p1_pieces))), (a_this_mayMirror, .inl (cZ, 4, .inl w35)), (a_p1_mayMirror, .inl (cZ, 4, .inl c_p1_mayMirror))] := hD
    refine lv_aload_n hx hb dX5_copyFrom_45 rfl (lv_at hl 0 rfl) ?_
    refine va_get (D := D) (ci := 1) (v := .ref a_this_mayMirror) (C := RX5) (T := TX5) (N := 4) hx hb hts zi_X5_copyFrom_X5 hown hK.1 hP 0 rfl rfl 2 (by decide) (hts (.fieldLink RX5 18 "HalfAndHalfAgain$Store" "mayMirror" "[Z") (List.mem_of_getElem? (i := 3) rfl)) (fun _ h9 => h9) rfl dX5_copyFrom_46 ?_
    refine lv_iload_n hx hb dX5_copyFrom_49 rfl (lv_at hl 2 rfl) ?_
    refine lv_aload_n hx hb dX5_copyFrom_50 rfl (lv_at hl 1 rfl) ?_
    refine va_get (D := D) (ci := 1) (v := .ref a_p1_mayMirror) (C := RX5) (T := TX5) (N := 4) hx hb hts zi_X5_copyFrom_X5 hown hK.1 hP 1 rfl rfl 2 (by decide) (hts (.fieldLink RX5 18 "HalfAndHalfAgain$Store" "mayMirror" "[Z") (List.mem_of_getElem? (i := 3) rfl)) (fun _ h9 => h9) rfl dX5_copyFrom_51 ?_
    refine lv_iload_n hx hb dX5_copyFrom_54 rfl (lv_at hl 2 rfl) ?_
    obtain ⟨hi39, k32⟩ := hk_ge k32
    refine va_zald hx hb hK.1 hP 7 2 rfl rfl (hk_inb_of hi39) dX5_copyFrom_55 ?_
    obtain ⟨hi40, k32⟩ := hk_ge k32
    refine va_zast hx hb hK.1 hP hD hS 6 2 rfl rfl (hk_inb_of hi40) dX5_copyFrom_56 (fun H locs hP hD hS => ?_)
    have hP : va_P D vwCl [(a_this, .inr (1, [.ref a_this_figures, .ref a_this_pieces, .ref a_this_mayMirror, .int c_this_laid])), (a_p1, .inr (1, [.ref a_p1_figures, .ref a_p1_pieces, .ref a_p1_mayMirror, .int c_p1_laid])), (a_this_figures, .inl (cJ, 8, .inr (.inl v29))), (a_p1_figures, .inl (cJ, 8, .inr (.inl c_p1_figures))), (a_this_pieces, .inl (cJ, 4, .inr (.inl (vp_updL w34 y33.toNatClampNeg (c_p1_pieces y33.toNatClampNeg))))), (a_p1_pieces, .inl (cJ, 4, .inr (.inl c_p1_pieces))), (a_this_mayMirror, .inl (cZ, 4, .inl (upd w35 y33.toNatClampNeg (vp_nar .boolean (c_p1_mayMirror y33.toNatClampNeg))))), (a_p1_mayMirror, .inl (cZ, 4, .inl c_p1_mayMirror))] H := hP
    have hD : va_D A [(a_this, .inr (1, [.ref a_this_figures, .ref a_this_pieces, .ref a_this_mayMirror, .int c_this_laid])), (a_p1, .inr (1, [.ref a_p1_figures, .ref a_p1_pieces, .ref a_p1_mayMirror, .int c_p1_laid])), (a_this_figures, .inl (cJ, 8, .inr (.inl v29))), (a_p1_figures, .inl (cJ, 8, .inr (.inl c_p1_figures))), (a_this_pieces, .inl (cJ, 4, .inr (.inl (vp_updL w34 y33.toNatClampNeg (c_p1_pieces y33.toNatClampNeg))))), (a_p1_pieces, .inl (cJ, 4, .inr (.inl c_p1_pieces))), (a_this_mayMirror, .inl (cZ, 4, .inl (upd w35 y33.toNatClampNeg (vp_nar .boolean (c_p1_mayMirror y33.toNatClampNeg))))), (a_p1_mayMirror, .inl (cZ, 4, .inl c_p1_mayMirror))] := hD
    obtain ⟨x41, ex41, k32⟩ := hk_le k32
    refine lv_iinc (v := x41) (lv' := [(2, .int x41), (0, .ref a_this), (1, .ref a_p1)]) hx hb dX5_copyFrom_57 hl (k := 2) rfl (by rw [ex41]; rfl) (by decide) rfl (fun ls hl => ?_)
    refine lv_goto (tgt := 28) hx hb dX5_copyFrom_60 (by decide) ?_
    exact hck32 (x41, (vp_updL w34 y33.toNatClampNeg (c_p1_pieces y33.toNatClampNeg)), (upd w35 y33.toNatClampNeg (vp_nar .boolean (c_p1_mayMirror y33.toNatClampNeg)))) (Option.some.inj k32).symm H locs ls hP hD hS (lv_sub hl [1, 2, 0] rfl)
  intro H locs ls hP hD hS hl
  have hl : lv_has ls 3 [(0, .ref a_this), (1, .ref a_p1)] := hl
  have hP : va_P D vwCl [(a_this, .inr (1, [.ref a_this_figures, .ref a_this_pieces, .ref a_this_mayMirror, .int c_this_laid])), (a_p1, .inr (1, [.ref a_p1_figures, .ref a_p1_pieces, .ref a_p1_mayMirror, .int c_p1_laid])), (a_this_figures, .inl (cJ, 8, .inr (.inl v29))), (a_p1_figures, .inl (cJ, 8, .inr (.inl c_p1_figures))), (a_this_pieces, .inl (cJ, 4, .inr (.inl v43))), (a_p1_pieces, .inl (cJ, 4, .inr (.inl c_p1_pieces))), (a_this_mayMirror, .inl (cZ, 4, .inl v44)), (a_p1_mayMirror, .inl (cZ, 4, .inl c_p1_mayMirror))] H := hP
  have hD : va_D A [(a_this, .inr (1, [.ref a_this_figures, .ref a_this_pieces, .ref a_this_mayMirror, .int c_this_laid])), (a_p1, .inr (1, [.ref a_p1_figures, .ref a_p1_pieces, .ref a_p1_mayMirror, .int c_p1_laid])), (a_this_figures, .inl (cJ, 8, .inr (.inl v29))), (a_p1_figures, .inl (cJ, 8, .inr (.inl c_p1_figures))), (a_this_pieces, .inl (cJ, 4, .inr (.inl v43))), (a_p1_pieces, .inl (cJ, 4, .inr (.inl c_p1_pieces))), (a_this_mayMirror, .inl (cZ, 4, .inl v44)), (a_p1_mayMirror, .inl (cZ, 4, .inl c_p1_mayMirror))] := hD
  show W _ _ _ _ _ _ _ _ _ _ _ _ _ _ _ (F0 m 63 ls [])
  refine lv_aload_n hx hb dX5_copyFrom_63 rfl (lv_at hl 0 rfl) ?_
  refine lv_aload_n hx hb dX5_copyFrom_64 rfl (lv_at hl 1 rfl) ?_
  refine va_get (D := D) (ci := 1) (v := .int c_p1_laid) (C := RX5) (T := TX5) (N := 4) hx hb hts zi_X5_copyFrom_X5 hown hK.1 hP 1 rfl rfl 3 (by decide) (hts (.fieldLink RX5 22 "HalfAndHalfAgain$Store" "laid" "I") (List.mem_of_getElem? (i := 4) rfl)) (fun _ h9 => h9) rfl dX5_copyFrom_65 ?_
  refine va_put (D := D) (ci := 1) (v := .int c_p1_laid) (ty := .int) (C := RX5) (T := TX5) (N := 4) hx hb hts zi_X5_copyFrom_X5 tyX5 tyX5_ok nmX5 hown hK.1 hP hD hS 0 rfl rfl 3 (by decide) (hts (.fieldLink RX5 22 "HalfAndHalfAgain$Store" "laid" "I") (List.mem_of_getElem? (i := 4) rfl)) (fun _ h9 => h9) rfl (by decide +kernel) rfl rfl (Nat.le_of_ble_eq_true rfl) dX5_copyFrom_68 (fun H locs hP hD hS => ?_)
  have hP : va_P D vwCl [(a_this, .inr (1, [.ref a_this_figures, .ref a_this_pieces, .ref a_this_mayMirror, .int c_p1_laid])), (a_p1, .inr (1, [.ref a_p1_figures, .ref a_p1_pieces, .ref a_p1_mayMirror, .int c_p1_laid])), (a_this_figures, .inl (cJ, 8, .inr (.inl v29))), (a_p1_figures, .inl (cJ, 8, .inr (.inl c_p1_figures))), (a_this_pieces, .inl (cJ, 4, .inr (.inl v43))), (a_p1_pieces, .inl (cJ, 4, .inr (.inl c_p1_pieces))), (a_this_mayMirror, .inl (cZ, 4, .inl v44)), (a_p1_mayMirror, .inl (cZ, 4, .inl c_p1_mayMirror))] H := hP
  have hD : va_D A [(a_this, .inr (1, [.ref a_this_figures, .ref a_this_pieces, .ref a_this_mayMirror, .int c_p1_laid])), (a_p1, .inr (1, [.ref a_p1_figures, .ref a_p1_pieces, .ref a_p1_mayMirror, .int c_p1_laid])), (a_this_figures, .inl (cJ, 8, .inr (.inl v29))), (a_p1_figures, .inl (cJ, 8, .inr (.inl c_p1_figures))), (a_this_pieces, .inl (cJ, 4, .inr (.inl v43))), (a_p1_pieces, .inl (cJ, 4, .inr (.inl c_p1_pieces))), (a_this_mayMirror, .inl (cZ, 4, .inl v44)), (a_p1_mayMirror, .inl (cZ, 4, .inl c_p1_mayMirror))] := hD
  subst hQ
  have h := Option.some.inj h
  simp only [Prod.mk.injEq] at h
  obtain ⟨rfl, rfl, rfl, rfl⟩ := h
  exact W.vret hx hb hr (fun t ht hW => ⟨⟨(), rfl, trivial, by rw [ht]; exact hP, hD⟩, hS.F ht⟩) hS.2.2 dX5_copyFrom_71
theorem zv_X5_countFilled : yX5_countFilled.cls = RX5 ∧ yX5_countFilled.cls ≠ "java/lang/invoke/MethodHandle" ∧ yX5_countFilled.cls ≠ "java/lang/invoke/VarHandle" ∧ (parseMethodDescriptor yX5_countFilled.desc).map (fun d => d.parameters.length) = some 0 := by decide +kernel
def st_X5_countFilled_4c (c_this_figures : Nat → Int64) (y22 : Int32) (y23 : Int32) : Option ((Int32 × Int32) ⊕ Int32) := if (8 : Int32) ≤ y23 then (some (.inr y22)) else (hk_gd (hk_inb y23 8) (hk_let (if (c_this_figures y23.toNatClampNeg) = (0 : Int64) then (y22) else (hk_let (y22 + (1 : Int32)) fun x28 => x28)) fun v29 => hk_let (y23 + (1 : Int32)) fun x30 => some (.inl (v29, x30))))
def st_X5_countFilled_4 (c_this_figures : Nat → Int64) (t9 : (Int32 × Int32)) : Option ((Int32 × Int32) ⊕ Int32) := st_X5_countFilled_4c c_this_figures t9.1 t9.2
def f_X5_countFilled (c_this_figures : Nat → Int64)   : Option Int32 := hk_b1 (hk_wl (st_X5_countFilled_4 c_this_figures) hkF ((0 : Int32), (0 : Int32))) fun z32 => some z32
theorem zi_X5_countFilled_X5 : ∀ w ∈ u_ws RX5 TX5 4, w ∈ wsX5_countFilled := by decide +kernel
set_option maxHeartbeats 8000000 in
set_option maxRecDepth 100000 in
theorem c_X5_countFilled (l : Launch) (D : va_G) (cI cJ cZ cO : ClassId) (a_this a_this_figures a_this_pieces a_this_mayMirror : Nat) (c_this_laid : Int32) (c_this_figures : Nat → Int64) (rv : Int32) (hf : f_X5_countFilled c_this_figures = some rv) : Met l yX5_countFilled wsX5_countFilled ({ frames := 0, cells := 0, slots := 0, locals := 0 }) (va_Pc [.ref a_this] (hkR D cI cJ cZ cO [(a_this, .inr (1, [.ref a_this_figures, .ref a_this_pieces, .ref a_this_mayMirror, .int c_this_laid])), (a_this_figures, .inl (cJ, 8, .inr (.inl c_this_figures)))])) (vp_Si (fun r => r = rv)) 0 0 (fun _ => False) := by
  refine Met.ofW (cc := cX5_countFilled) (maxL := 3) (ret := (some .int)) (by decide) rfl ?_
  intro p e s m args below meth c s₁ B hml hv
  obtain ⟨rfl, hP, hK⟩ := hv
  have hx := B.exec
  have hb := B.bytes
  have hr := B.returns
  have hts := atoms_spec (ws := wsX5_countFilled) B.pre
  have hown : s.vm.findClass RX5 = some m.cls := findClass_of_methodNamed B.named
  have hlocks := B.notSynchronized
  have hN := hK.2
  have hl := lv_entry ([.ref a_this]) (n := 3) (Nat.le_of_ble_eq_true rfl)
  rw [lg_entry_eq]
  generalize (lg_sl ([.ref a_this]) ++ List.replicate (3 - (lg_sl ([.ref a_this])).length) Slot.unset).toArray = ls at hl ⊢
  have hl : lv_has ls 3 [(0, .ref a_this)] := hl
  refine hk_Q (fun Q hQ => ?_)
  have h := hf
  unfold f_X5_countFilled at h
  refine lv_iconst (v := (0 : Int32)) hx hb dX5_countFilled_0 (by decide) ?_
  refine lv_istore_n (lv' := [(1, .int (0 : Int32)), (0, .ref a_this)]) hx hb dX5_countFilled_1 rfl hl (by decide) rfl (fun ls hl => ?_)
  refine lv_iconst (v := (0 : Int32)) hx hb dX5_countFilled_2 (by decide) ?_
  refine lv_istore_n (lv' := [(2, .int (0 : Int32)), (1, .int (0 : Int32)), (0, .ref a_this)]) hx hb dX5_countFilled_3 rfl hl (by decide) rfl (fun ls hl => ?_)
  obtain ⟨z32, hr31, h⟩ := hk_x1 h
  refine hk_loopR (f := st_X5_countFilled_4 c_this_figures) (hd := 4) (nL := 3) (lv := fun t9 => [(0, .ref a_this), (1, .int t9.1), (2, .int t9.2)]) (xs := fun t9 => (30, [(1, .int t9)], [])) ?_ hr31 ?_ (lv_sub hl [2, 1, 0] rfl)
  · intro t33 q34 k21 hck21 hqk21 ls hl
    obtain ⟨y22, y23⟩ := t33
    have k21 : st_X5_countFilled_4c c_this_figures y22 y23 = some q34 := k21
    unfold st_X5_countFilled_4c at k21
    have hl : lv_has ls 3 [(0, .ref a_this), (1, .int y22), (2, .int y23)] := hl
    refine lv_iload_n hx hb dX5_countFilled_4 rfl (lv_at hl 2 rfl) ?_
    refine lv_bipush (v := (8 : Int32)) hx hb dX5_countFilled_5 (by decide) ?_
    refine lv_icmp_ge (tgt := 30) hx hb dX5_countFilled_7 (by decide) (fun c24 => ?_) (fun c24 => ?_)
    · replace k21 := hk_ip c24 k21
      exact hqk21 y22 (Option.some.inj k21).symm ls (lv_sub hl [1] rfl)
    replace k21 := hk_in c24 k21
    refine lv_aload_n hx hb dX5_countFilled_10 rfl (lv_at hl 0 rfl) ?_
    refine va_get (D := D) (ci := 1) (v := .ref a_this_figures) (C := RX5) (T := TX5) (N := 4) hx hb hts zi_X5_countFilled_X5 hown hK.1 hP 0 rfl rfl 0 (by decide) (hts (.fieldLink RX5 9 "HalfAndHalfAgain$Store" "figures" "[J") (List.mem_of_getElem? (i := 1) rfl)) (fun _ h9 => h9) rfl dX5_countFilled_11 ?_
    refine lv_iload_n hx hb dX5_countFilled_14 rfl (lv_at hl 2 rfl) ?_
    obtain ⟨hi25, k21⟩ := hk_ge k21
    refine va_lald hx hb hK.1 hP 1 1 rfl rfl (hk_inb_of hi25) dX5_countFilled_15 ?_
    refine lv_lconst (v := (0 : Int64)) hx hb dX5_countFilled_16 (by decide) ?_
    obtain ⟨v29, g26, k21⟩ := hk_lf k21
    refine hk_joinR (nL := 3) (xs := fun (t9 : Int32) => (24, [(0, .ref a_this), (1, .int t9), (2, .int y23)], [])) v29 (fun hjg26 => ?_) ?_
    · refine hk_lcmp_eq (tgt := 24) hx hb dX5_countFilled_17 dX5_countFilled_18 (by decide) (fun c27 => ?_) (fun c27 => ?_)
      · replace g26 := hk_ip c27 g26
        subst g26
        exact hjg26 ls (lv_sub hl [0, 1, 2] rfl)
      replace g26 := hk_in c27 g26
      obtain ⟨x28, ex28, g26⟩ := hk_le g26
      refine lv_iinc (v := x28) (lv' := [(1, .int x28), (0, .ref a_this), (2, .int y23)]) hx hb dX5_countFilled_21 hl (k := 1) rfl (by rw [ex28]; rfl) (by decide) rfl (fun ls hl => ?_)
      subst g26
      exact hjg26 ls (lv_sub hl [1, 0, 2] rfl)
    intro ls hl
    have hl : lv_has ls 3 [(0, .ref a_this), (1, .int v29), (2, .int y23)] := hl
    show W _ _ _ _ _ _ _ _ _ _ _ _ _ _ _ (F0 m 24 ls [])
    obtain ⟨x30, ex30, k21⟩ := hk_le k21
    refine lv_iinc (v := x30) (lv' := [(2, .int x30), (0, .ref a_this), (1, .int v29)]) hx hb dX5_countFilled_24 hl (k := 2) rfl (by rw [ex30]; rfl) (by decide) rfl (fun ls hl => ?_)
    refine lv_goto (tgt := 4) hx hb dX5_countFilled_27 (by decide) ?_
    exact hck21 (v29, x30) (Option.some.inj k21).symm ls (lv_sub hl [1, 2, 0] rfl)
  intro ls hl
  have hl : lv_has ls 3 [(1, .int z32)] := hl
  show W _ _ _ _ _ _ _ _ _ _ _ _ _ _ _ (F0 m 30 ls [])
  refine lv_iload_n hx hb dX5_countFilled_30 rfl (lv_at hl 0 rfl) ?_
  subst hQ
  exact W.iret hx hb hr (fun t ht hW => ⟨_, rfl, Option.some.inj h, ht⟩) (fun _ h9 => by cases h9) dX5_countFilled_31
theorem zv_X5_countCells : yX5_countCells.cls = RX5 ∧ yX5_countCells.cls ≠ "java/lang/invoke/MethodHandle" ∧ yX5_countCells.cls ≠ "java/lang/invoke/VarHandle" ∧ (parseMethodDescriptor yX5_countCells.desc).map (fun d => d.parameters.length) = some 0 := by decide +kernel
def st_X5_countCells_4c (c_this_figures : Nat → Int64) (y22 : Int32) (y23 : Int32) : Option ((Int32 × Int32) ⊕ Int32) := if (8 : Int32) ≤ y23 then (some (.inr y22)) else (hk_gd (hk_inb y23 8) (hk_b1 (f_J13_bitCount_95d88 (c_this_figures y23.toNatClampNeg)) fun r26 => hk_let (y22 + r26) fun x30 => hk_let (y23 + (1 : Int32)) fun x31 => some (.inl (x30, x31))))
def st_X5_countCells_4 (c_this_figures : Nat → Int64) (t9 : (Int32 × Int32)) : Option ((Int32 × Int32) ⊕ Int32) := st_X5_countCells_4c c_this_figures t9.1 t9.2
def f_X5_countCells (c_this_figures : Nat → Int64)   : Option Int32 := hk_b1 (hk_wl (st_X5_countCells_4 c_this_figures) hkF ((0 : Int32), (0 : Int32))) fun z33 => some z33
theorem zi_X5_countCells_X5 : ∀ w ∈ u_ws RX5 TX5 4, w ∈ wsX5_countCells := by decide +kernel
set_option maxHeartbeats 8000000 in
set_option maxRecDepth 100000 in
theorem c_X5_countCells (l : Launch) (D : va_G) (cI cJ cZ cO : ClassId) (a_this a_this_figures a_this_pieces a_this_mayMirror : Nat) (c_this_laid : Int32) (c_this_figures : Nat → Int64) (rv : Int32) (hf : f_X5_countCells c_this_figures = some rv) : Met l yX5_countCells wsX5_countCells ({ frames := 1, cells := 0, slots := 0, locals := 21 }) (va_Pc [.ref a_this] (hkR D cI cJ cZ cO [(a_this, .inr (1, [.ref a_this_figures, .ref a_this_pieces, .ref a_this_mayMirror, .int c_this_laid])), (a_this_figures, .inl (cJ, 8, .inr (.inl c_this_figures)))])) (vp_Si (fun r => r = rv)) 0 0 (fun _ => False) := by
  refine Met.ofW (cc := cX5_countCells) (maxL := 3) (ret := (some .int)) (by decide) rfl ?_
  intro p e s m args below meth c s₁ B hml hv
  obtain ⟨rfl, hP, hK⟩ := hv
  have hx := B.exec
  have hb := B.bytes
  have hr := B.returns
  have hts := atoms_spec (ws := wsX5_countCells) B.pre
  have hown : s.vm.findClass RX5 = some m.cls := findClass_of_methodNamed B.named
  have hlocks := B.notSynchronized
  have hN := hK.2
  have hl := lv_entry ([.ref a_this]) (n := 3) (Nat.le_of_ble_eq_true rfl)
  rw [lg_entry_eq]
  generalize (lg_sl ([.ref a_this]) ++ List.replicate (3 - (lg_sl ([.ref a_this])).length) Slot.unset).toArray = ls at hl ⊢
  have hl : lv_has ls 3 [(0, .ref a_this)] := hl
  refine hk_Q (fun Q hQ => ?_)
  have h := hf
  unfold f_X5_countCells at h
  refine lv_iconst (v := (0 : Int32)) hx hb dX5_countCells_0 (by decide) ?_
  refine lv_istore_n (lv' := [(1, .int (0 : Int32)), (0, .ref a_this)]) hx hb dX5_countCells_1 rfl hl (by decide) rfl (fun ls hl => ?_)
  refine lv_iconst (v := (0 : Int32)) hx hb dX5_countCells_2 (by decide) ?_
  refine lv_istore_n (lv' := [(2, .int (0 : Int32)), (1, .int (0 : Int32)), (0, .ref a_this)]) hx hb dX5_countCells_3 rfl hl (by decide) rfl (fun ls hl => ?_)
  obtain ⟨z33, hr32, h⟩ := hk_x1 h
  refine hk_loopR (f := st_X5_countCells_4 c_this_figures) (hd := 4) (nL := 3) (lv := fun t9 => [(0, .ref a_this), (1, .int t9.1), (2, .int t9.2)]) (xs := fun t9 => (28, [(1, .int t9)], [])) ?_ hr32 ?_ (lv_sub hl [2, 1, 0] rfl)
  · intro t34 q35 k21 hck21 hqk21 ls hl
    obtain ⟨y22, y23⟩ := t34
    have k21 : st_X5_countCells_4c c_this_figures y22 y23 = some q35 := k21
    unfold st_X5_countCells_4c at k21
    have hl : lv_has ls 3 [(0, .ref a_this), (1, .int y22), (2, .int y23)] := hl
    refine lv_iload_n hx hb dX5_countCells_4 rfl (lv_at hl 2 rfl) ?_
    refine lv_bipush (v := (8 : Int32)) hx hb dX5_countCells_5 (by decide) ?_
    refine lv_icmp_ge (tgt := 28) hx hb dX5_countCells_7 (by decide) (fun c24 => ?_) (fun c24 => ?_)
    · replace k21 := hk_ip c24 k21
      exact hqk21 y22 (Option.some.inj k21).symm ls (lv_sub hl [1] rfl)
    replace k21 := hk_in c24 k21
    refine lv_iload_n hx hb dX5_countCells_10 rfl (lv_at hl 1 rfl) ?_
    refine lv_aload_n hx hb dX5_countCells_11 rfl (lv_at hl 0 rfl) ?_
    refine va_get (D := D) (ci := 1) (v := .ref a_this_figures) (C := RX5) (T := TX5) (N := 4) hx hb hts zi_X5_countCells_X5 hown hK.1 hP 0 rfl rfl 0 (by decide) (hts (.fieldLink RX5 9 "HalfAndHalfAgain$Store" "figures" "[J") (List.mem_of_getElem? (i := 1) rfl)) (fun _ h9 => h9) rfl dX5_countCells_12 ?_
    refine lv_iload_n hx hb dX5_countCells_15 rfl (lv_at hl 2 rfl) ?_
    obtain ⟨hi25, k21⟩ := hk_ge k21
    refine va_lald hx hb hK.1 hP 1 1 rfl rfl (hk_inb_of hi25) dX5_countCells_16 ?_
    obtain ⟨r26, hr27, k21⟩ := hk_x1 k21
    refine vp_callSi (W.runS (As := [.long (c_this_figures y23.toNatClampNeg)]) (rest := [.int y22]) ⟨hx, hb, hml, hown, hts⟩ (c_J13_bitCount_95d88 l (c_this_figures y23.toNatClampNeg) _ hr27) (va_cwS 1 hts gX5_countCells_J13_bitCount_95d88 rfl rfl rfl zs_J13_bitCount_95d88 ⟨Nat.le_of_ble_eq_true rfl, Nat.le_of_ble_eq_true rfl⟩) ⟨fun _ _ _ _ q => q, fun _ _ _ => ⟨rfl, trivial⟩⟩ rfl rfl hl.1 rfl (lv_room (Nat.le_of_ble_eq_true rfl)) dX5_countCells_17 ⟨Nat.zero_le _, Nat.zero_le _⟩) (fun p29 e28 => ?_)
    rw [e28]
    refine lv_iadd hx hb dX5_countCells_20 ?_
    obtain ⟨x30, ex30, k21⟩ := hk_le k21
    refine hk_ti ex30 ?_
    refine lv_istore_n (lv' := [(1, .int x30), (0, .ref a_this), (2, .int y23)]) hx hb dX5_countCells_21 rfl hl (by decide) rfl (fun ls hl => ?_)
    obtain ⟨x31, ex31, k21⟩ := hk_le k21
    refine lv_iinc (v := x31) (lv' := [(2, .int x31), (1, .int x30), (0, .ref a_this)]) hx hb dX5_countCells_22 hl (k := 2) rfl (by rw [ex31]; rfl) (by decide) rfl (fun ls hl => ?_)
    refine lv_goto (tgt := 4) hx hb dX5_countCells_25 (by decide) ?_
    exact hck21 (x30, x31) (Option.some.inj k21).symm ls (lv_sub hl [2, 1, 0] rfl)
  intro ls hl
  have hl : lv_has ls 3 [(1, .int z33)] := hl
  show W _ _ _ _ _ _ _ _ _ _ _ _ _ _ _ (F0 m 28 ls [])
  refine lv_iload_n hx hb dX5_countCells_28 rfl (lv_at hl 0 rfl) ?_
  subst hQ
  exact W.iret hx hb hr (fun t ht hW => ⟨_, rfl, Option.some.inj h, ht⟩) (fun _ h9 => by cases h9) dX5_countCells_29
