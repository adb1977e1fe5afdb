theorem nt_of {s : State} {args : Array Value} (hts : ∀ w ∈ lw_tbl, w.before args s = true) : hkN s := ⟨va_Nw.of rfl (hts (.methodLinkNest "HalfAndHalfAgain" 9 ⟨"HalfAndHalfAgain$Text", "<init>", "()V"⟩ "HalfAndHalfAgain") (by decide +kernel)), va_Nw.of rfl (hts (.methodLinkNest "HalfAndHalfAgain" 18 ⟨"HalfAndHalfAgain$Store", "<init>", "()V"⟩ "HalfAndHalfAgain") (by decide +kernel)), va_Nw.of rfl (hts (.methodLinkNest "HalfAndHalfAgain" 29 ⟨"HalfAndHalfAgain$Cover", "<init>", "()V"⟩ "HalfAndHalfAgain") (by decide +kernel)), va_Nw.of rfl (hts (.methodLinkNest "HalfAndHalfAgain$Moves" 58 ⟨"HalfAndHalfAgain", "isLess", "(JJ)Z"⟩ "HalfAndHalfAgain") (by decide +kernel)), va_Nw.of rfl (hts (.methodLinkNest "HalfAndHalfAgain$Cover" 53 ⟨"HalfAndHalfAgain", "isAmong", "([JIJ)Z"⟩ "HalfAndHalfAgain") (by decide +kernel)), va_Nw.of rfl (hts (.methodLinkNest "HalfAndHalfAgain$Cover" 74 ⟨"HalfAndHalfAgain", "isLess", "(JJ)Z"⟩ "HalfAndHalfAgain") (by decide +kernel))⟩
theorem aw_int : Cond.arrayClass .int ∈ lw_tbl := by decide +kernel
theorem aw_long : Cond.arrayClass .long ∈ lw_tbl := by decide +kernel
theorem aw_bool : Cond.arrayClass .boolean ∈ lw_tbl := by decide +kernel
theorem aw_obj : Cond.arrayOver (.object "HalfAndHalfAgain$Store") ∈ lw_tbl := by decide +kernel
theorem hk_of {s : State} {args : Array Value} (hts : ∀ w ∈ lw_tbl, w.before args s = true) : ∃ (D : va_G) (cI cJ cZ cO : ClassId), hkK D cI cJ cZ cO s ∧ va_AO "HalfAndHalfAgain$Store" s := by
  have htsL : ∀ w ∈ wsL_law, w.before args s = true := fun w h => hts w (wsL_law_in w h)
  obtain ⟨d0, f0, k0⟩ := u_known (C := RX1) (T := TX1) (N := 7) (n := 7) hts li_x1 (htsL (.instantiable RX1 7) (List.mem_of_getElem? (i := 23) rfl))
  obtain ⟨d1, f1, k1⟩ := u_known (C := RX5) (T := TX5) (N := 4) (n := 4) hts li_x5 (htsL (.instantiable RX5 4) (List.mem_of_getElem? (i := 18) rfl))
  obtain ⟨d2, f2, k2⟩ := u_known (C := RX6) (T := TX6) (N := 2) (n := 2) hts li_x6 (htsL (.instantiable RX6 2) (List.mem_of_getElem? (i := 14) rfl))
  obtain ⟨d3, f3, k3⟩ := u_known (C := RX7) (T := TX7) (N := 5) (n := 5) hts li_x7 (htsL (.instantiable RX7 5) (List.mem_of_getElem? (i := 1) rfl))
  obtain ⟨d4, f4, k4⟩ := u_known (C := RX8) (T := TX8) (N := 23) (n := 23) hts li_x8 (htsL (.instantiable RX8 23) (List.mem_of_getElem? (i := 4) rfl))
  obtain ⟨cI, kI, mI, i1, i2, i3⟩ := Cond.arrayClass_spec (hts _ aw_int)
  obtain ⟨cJ, kJ, mJ, j1, j2, j3⟩ := Cond.arrayClass_spec (hts _ aw_long)
  obtain ⟨cZ, kZ, mZ, z1, z2, z3⟩ := Cond.arrayClass_spec (hts _ aw_bool)
  obtain ⟨mO, cO, kO, o1, o2, o3, o4, o5⟩ := Cond.arrayOver_spec (hts _ aw_obj)
  refine ⟨(fun k => [d0, d1, d2, d3, d4].getD k d0, fun k => [f0, f1, f2, f3, f4].getD k f0), cI, cJ, cZ, cO, ⟨⟨fun k q hq => ?_, fun k q hq => ?_⟩, nt_of hts⟩, va_AO.of (hts _ aw_obj)⟩
  · match k, hq with
    | 0, hq => cases hq; exact k0
    | 1, hq => cases hq; exact k1
    | 2, hq => cases hq; exact k2
    | 3, hq => cases hq; exact k3
    | 4, hq => cases hq; exact k4
    | k + 5, hq => simp [vwCl] at hq
  · match k, hq with
    | 0, hq => cases hq; exact ⟨fun n z => ⟨fun k h => (by cases h), kI, i2, mI, i3⟩, i1⟩
    | 1, hq => cases hq; exact ⟨fun n z => ⟨fun k h => (by cases h), kJ, j2, mJ, j3⟩, j1⟩
    | 2, hq => cases hq; exact ⟨fun n z => ⟨fun k h => (by cases h), kZ, z2, mZ, z3⟩, z1⟩
    | 3, hq => cases hq; exact ⟨fun n z => ⟨fun k h => (by cases h), kO, o3, mO, o4⟩, kO, mO, o3, o4, o1, o5⟩
    | k + 4, hq => simp [hkT] at hq
set_option maxHeartbeats 4000000 in
set_option maxRecDepth 100000 in
theorem whole_start {p : Program} {e : Env} {s : State} {m : MethodId} {below : List Frame} {meth : Method} {c : Code} (l : Launch) (hflags : l.flags = flags0) {b L : Nat} {xs : Nat → Int32} (hL : L ≤ 2560) (C0 : lw_At p s m meth c b L xs) : W p l e room_1 s m #[Value.ref b] below meth c s.heap [] 0 0 (lw_Z below #[Value.ref b] s) (entryFrame m ([Value.ref b] : List Value).toArray 4) := by
  obtain ⟨hx, hb, hr, hml, hown0, hts0, hX, hbl, hlocks, hgv⟩ := C0
  have hown : s.vm.findClass RL = some m.cls := hown0
  have hts : ∀ w ∈ wsL_law, w.before #[Value.ref b] s = true := fun w h => hts0 w (wsL_law_in w h)
  obtain ⟨D, cI, cJ, cZ, cO, hK, hAO⟩ := hk_of hts0
  have hA : ∀ q : Nat, s.heap.size ≤ q → lA s q := fun _ h => h
  have hS : va_S (lA s) s.heap s.heap [] := va_S.rf
  have hP : va_P D vwCl [] s.heap := fun k q h => by simp at h
  have hD : va_D (lA s) [] := ⟨fun i j p q h => by simp at h, fun k q h => by simp at h⟩
  have hl := lv_entry ([.ref b]) (n := 4) (Nat.le_of_ble_eq_true rfl)
  rw [lg_entry_eq]
  generalize (lg_sl ([.ref b]) ++ List.replicate (4 - (lg_sl ([.ref b])).length) Slot.unset).toArray = ls at hl ⊢
  have hl : lv_has ls 4 [(0, .ref b)] := hl
  refine va_new (ci := 3) (fs := [.null, .null, .null, .null, .null]) (C := RX7) (T := TX7) (N := 5) hx hb hts0 li_x7 tyX7 tyX7_ok hown (hts (.classLink RL 7 RX7) (List.mem_of_getElem? (i := 0) rfl)) (hts (.instantiable RX7 5) (List.mem_of_getElem? (i := 1) rfl)) (hts (.initialized RX7) (List.mem_of_getElem? (i := 2) rfl)) hK.1 hP hD hS hA rfl (fun j hj => by rcases (show j = 0 ∨ j = 1 ∨ j = 2 ∨ j = 3 ∨ j = 4 by omega) with rfl | rfl | rfl | rfl | rfl <;> rfl) (Nat.le_of_ble_eq_true rfl) (Nat.le_of_ble_eq_true rfl) dL_law_0 (fun q7 H hP hD hS => ?_)
  have hP : va_P D vwCl [(q7, .inr (3, [.null, .null, .null, .null, .null]))] H := hP
  have hD : va_D (lA s) [(q7, .inr (3, [.null, .null, .null, .null, .null]))] := hD
  refine W.widen (k := 1) (n := 5) (by omega) (by omega) ?_
  refine lv_dup hx hb dL_law_3 rfl ?_
  have hFc := va_free (wc := [(q7, .inr (3, [.null, .null, .null, .null, .null]))]) hD hS hA [0] rfl
  refine va_callv (va_runI (As := []) (rest := [.ref q7]) ⟨hx, hb, hml, hown, hts⟩ (c_X7_init l D cI cJ cZ cO q7 H.size) (cwI 0 hts gL_law_X7_init rfl rfl rfl (hts (.initialized RX7) (List.mem_of_getElem? (i := 2) rfl)) (hts (.methodLink RL 9 yX7_init) (List.mem_of_getElem? (i := 7) rfl)) (hts (.instanceMethod yX7_init) (List.mem_of_getElem? (i := 8) rfl)) rfl (by decide +kernel) ⟨Nat.le_of_ble_eq_true rfl, Nat.le_of_ble_eq_true rfl⟩) ⟨fun _ U g mk q => ⟨q.1, ⟨q.2.1.1, q.2.1.2.1, q.2.1.2.2.1.same rfl, q.2.1.2.2.2⟩, va_AO.moved (Vm.Alike.refl U.vm) q.2.2⟩, fun U hU hW => ⟨rfl, ⟨by rw [hU], by rw [hU]; exact hP, hK.warm hW, hD.weaken (fun _ _ _ _ => trivial)⟩, va_AO.moved hW.alike hAO⟩⟩ rfl rfl hl.1 rfl (lv_room (Nat.le_of_ble_eq_true rfl)) dL_law_4 ⟨Nat.le_of_ble_eq_true rfl, Nat.le_of_ble_eq_true rfl⟩) hS (fun q _ h9 => hFc q h9) hFc (fun u9 t9 H1 locs ht hvm hw hB hz1 hk1 hS => ?_)
  obtain ⟨p1, p2, p3, p4, p5, p6, p7, p8, p9, p10, p11, p12, p13, p14, hP1, hD1⟩ := hB
  rw [ht] at hP1
  have hP : va_P D vwCl (w7 (fun j => [q7, p1, p2, p3, p4, p5, p6, p7, p8, p9, p10, p11, p12, p13, p14].getD j 0) cI cJ cZ cO (nI 0) (fun _ => 0) (nI 0) (fun _ => 0) (fun _ => 0) (fun _ => 0) (fun _ => none) 0 0 (fun _ => 0) (fun _ => 0) (fun _ => 0) (fun _ => 0) (fun _ => 0) (fun _ => 0)) H1 := hP1
  have hD : va_D (lA s) (w7 (fun j => [q7, p1, p2, p3, p4, p5, p6, p7, p8, p9, p10, p11, p12, p13, p14].getD j 0) cI cJ cZ cO (nI 0) (fun _ => 0) (nI 0) (fun _ => 0) (fun _ => 0) (fun _ => 0) (fun _ => none) 0 0 (fun _ => 0) (fun _ => 0) (fun _ => 0) (fun _ => 0) (fun _ => 0) (fun _ => 0)) := hD1.weaken (fun k q _ h => hFc q.1 h)
  clear hP1 hD1 hk1
  generalize H1 = H at hP hS ⊢
  refine W.widen (k := 15) (n := 520) (by omega) (by omega) ?_
  refine lv_astore_n (lv' := [(1, .ref q7), (0, .ref b)]) hx hb dL_law_7 rfl hl (by decide) rfl (fun ls hl => ?_)
  refine va_new (ci := 4) (fs := [.null, .null, .null, .null, .int (0 : Int32), .null, .null, .int (0 : Int32), .null, .int (0 : Int32), .int (0 : Int32), .null, .null, .null, .null, .null, .null, .null, .null, .null, .null, .null, .null]) (C := RX8) (T := TX8) (N := 23) hx hb hts0 li_x8 tyX8 tyX8_ok hown (hts (.classLink RL 10 RX8) (List.mem_of_getElem? (i := 3) rfl)) (hts (.instantiable RX8 23) (List.mem_of_getElem? (i := 4) rfl)) (hts (.initialized RX8) (List.mem_of_getElem? (i := 5) rfl)) hK.1 hP hD hS hA rfl (fun j hj => by rcases (show j = 0 ∨ j = 1 ∨ j = 2 ∨ j = 3 ∨ j = 4 ∨ j = 5 ∨ j = 6 ∨ j = 7 ∨ j = 8 ∨ j = 9 ∨ j = 10 ∨ j = 11 ∨ j = 12 ∨ j = 13 ∨ j = 14 ∨ j = 15 ∨ j = 16 ∨ j = 17 ∨ j = 18 ∨ j = 19 ∨ j = 20 ∨ j = 21 ∨ j = 22 by omega) with rfl | rfl | rfl | rfl | rfl | rfl | rfl | rfl | rfl | rfl | rfl | rfl | rfl | rfl | rfl | rfl | rfl | rfl | rfl | rfl | rfl | rfl | rfl <;> rfl) (Nat.le_of_ble_eq_true rfl) (Nat.le_of_ble_eq_true rfl) dL_law_8 (fun q8 H hP hD hS => ?_)
  refine W.widen (k := 16) (n := 543) (by omega) (by omega) ?_
  refine lv_dup hx hb dL_law_11 rfl ?_
  have hPc := hP.sub (ws' := [(q8, .inr (4, [.null, .null, .null, .null, .int (0 : Int32), .null, .null, .int (0 : Int32), .null, .int (0 : Int32), .int (0 : Int32), .null, .null, .null, .null, .null, .null, .null, .null, .null, .null, .null, .null]))]) [15] rfl
  have hDc := hD.sub (ws' := [(q8, .inr (4, [.null, .null, .null, .null, .int (0 : Int32), .null, .null, .int (0 : Int32), .null, .int (0 : Int32), .int (0 : Int32), .null, .null, .null, .null, .null, .null, .null, .null, .null, .null, .null, .null]))]) [15] (by decide) rfl
  have hFc := va_free (wc := [(q8, .inr (4, [.null, .null, .null, .null, .int (0 : Int32), .null, .null, .int (0 : Int32), .null, .int (0 : Int32), .int (0 : Int32), .null, .null, .null, .null, .null, .null, .null, .null, .null, .null, .null, .null]))]) hD hS hA [15] rfl
  refine va_callv (va_runI (As := []) (rest := [.ref q8]) ⟨hx, hb, hml, hown, hts⟩ (c_X8_init l D cI cJ cZ cO q8 H.size _ _ x8_init) (cwI 0 hts gL_law_X8_init rfl rfl rfl (hts (.initialized RX8) (List.mem_of_getElem? (i := 5) rfl)) (hts (.methodLink RL 12 yX8_init) (List.mem_of_getElem? (i := 52) rfl)) (hts (.instanceMethod yX8_init) (List.mem_of_getElem? (i := 53) rfl)) rfl (by decide +kernel) ⟨Nat.le_of_ble_eq_true rfl, Nat.le_of_ble_eq_true rfl⟩) (hk_preM hPc hDc hK) rfl rfl hl.1 rfl (lv_room (Nat.le_of_ble_eq_true rfl)) dL_law_12 ⟨Nat.le_of_ble_eq_true rfl, Nat.le_of_ble_eq_true rfl⟩) hS (fun q _ h9 => hFc q h9) hFc (fun u9 t9 H1 locs ht hvm hw hB hz1 hk1 hS => ?_)
  obtain ⟨r1, r2, r3, r4, r5, r6, r7, r8, r9, r10, r11, r12, r13, r14, r15, r16, r17, r18, r19, hP1, hD1⟩ := hB
  rw [ht] at hP1
  obtain ⟨hP, hD⟩ := va_join (wr := w7 (fun j => [q7, p1, p2, p3, p4, p5, p6, p7, p8, p9, p10, p11, p12, p13, p14].getD j 0) cI cJ cZ cO (nI 0) (fun _ => 0) (nI 0) (fun _ => 0) (fun _ => 0) (fun _ => 0) (fun _ => none) 0 0 (fun _ => 0) (fun _ => 0) (fun _ => 0) (fun _ => 0) (fun _ => 0) (fun _ => 0)) (w1 := w8 (fun j => [q8, r1, r2, r3, r4, r5, r6, r7, r8, r9, r10, r11, r12, r13, r14, r15, r16, r17, r18, r19].getD j 0) cI cJ cZ cO (nI 0) 0 0 (nI 0) (nwr 64) (tww 64) (fun _ => 0) (fun _ => 0) (fun _ => 0) (fun _ => 0) (fun _ => 0) (fun _ => 0) (fun _ => 0) (fun _ => 0) (fun _ => 0) (fun _ => 0) (fun _ => 0) (fun _ => 0) (fun _ => 0) (fun _ => 0) (fun _ => 0) (fun _ => 0) (fun _ => 0)) hP hD [15] [0, 1, 2, 3, 4, 5, 6, 7, 8, 9, 10, 11, 12, 13, 14] rfl rfl (by decide) (by decide) hk1 hFc hP1 hD1
  clear hP1 hD1 hk1
  generalize H1 = H at hP hS ⊢
  refine W.widen (k := 35) (n := 3280) (by omega) (by omega) ?_
  refine lv_astore_n (lv' := [(2, .ref q8), (1, .ref q7), (0, .ref b)]) hx hb dL_law_15 rfl hl (by decide) rfl (fun ls hl => ?_)
  refine lv_iconst (v := nI 0) hx hb dL_law_16 (by decide) ?_
  refine lv_istore_n (lv' := [(3, .int (nI 0)), (2, .ref q8), (1, .ref q7), (0, .ref b)]) hx hb dL_law_17 rfl hl (by decide) rfl (fun ls hl => ?_)
  have hP : va_P D vwCl ((w7 (fun j => [q7, p1, p2, p3, p4, p5, p6, p7, p8, p9, p10, p11, p12, p13, p14].getD j 0) cI cJ cZ cO (nI 0) (fun _ => 0) (nI 0) (fun _ => 0) (fun _ => 0) (fun _ => 0) (fun _ => none) 0 0 (fun _ => 0) (fun _ => 0) (fun _ => 0) (fun _ => 0) (fun _ => 0) (fun _ => 0) ++ w8 (fun j => [q8, r1, r2, r3, r4, r5, r6, r7, r8, r9, r10, r11, r12, r13, r14, r15, r16, r17, r18, r19].getD j 0) cI cJ cZ cO (nI 0) 0 0 (nI 0) (nwr 64) (tww 64) (fun _ => 0) (fun _ => 0) (fun _ => 0) (fun _ => 0) (fun _ => 0) (fun _ => 0) (fun _ => 0) (fun _ => 0) (fun _ => 0) (fun _ => 0) (fun _ => 0) (fun _ => 0) (fun _ => 0) (fun _ => 0) (fun _ => 0) (fun _ => 0) (fun _ => 0)) ++ []) H := by rw [List.append_nil]; exact hP
  have hD : va_D (lA s) ((w7 (fun j => [q7, p1, p2, p3, p4, p5, p6, p7, p8, p9, p10, p11, p12, p13, p14].getD j 0) cI cJ cZ cO (nI 0) (fun _ => 0) (nI 0) (fun _ => 0) (fun _ => 0) (fun _ => 0) (fun _ => none) 0 0 (fun _ => 0) (fun _ => 0) (fun _ => 0) (fun _ => 0) (fun _ => 0) (fun _ => 0) ++ w8 (fun j => [q8, r1, r2, r3, r4, r5, r6, r7, r8, r9, r10, r11, r12, r13, r14, r15, r16, r17, r18, r19].getD j 0) cI cJ cZ cO (nI 0) 0 0 (nI 0) (nwr 64) (tww 64) (fun _ => 0) (fun _ => 0) (fun _ => 0) (fun _ => 0) (fun _ => 0) (fun _ => 0) (fun _ => 0) (fun _ => 0) (fun _ => 0) (fun _ => 0) (fun _ => 0) (fun _ => 0) (fun _ => 0) (fun _ => 0) (fun _ => 0) (fun _ => 0) (fun _ => 0)) ++ []) := by rw [List.append_nil]; exact hD
  have hI : LI s D cI cJ cZ cO q7 q8 H := ⟨(fun j => [q7, p1, p2, p3, p4, p5, p6, p7, p8, p9, p10, p11, p12, p13, p14].getD j 0), (fun j => [q8, r1, r2, r3, r4, r5, r6, r7, r8, r9, r10, r11, r12, r13, r14, r15, r16, r17, r18, r19].getD j 0), 0, 0, (fun _ => 0), (fun _ => 0), (fun _ => 0), (fun _ => 0), (fun _ => none), 0, 0, (fun _ => 0), (fun _ => 0), (fun _ => 0), (fun _ => 0), (fun _ => 0), (fun _ => 0), 0, 0, (nwr 64), (tww 64), (fun _ => 0), (fun _ => 0), (fun _ => 0), (fun _ => 0), (fun _ => 0), (fun _ => 0), (fun _ => 0), (fun _ => 0), (fun _ => 0), (fun _ => 0), (fun _ => 0), (fun _ => 0), (fun _ => 0), (fun _ => 0), (fun _ => 0), (fun _ => 0), (fun _ => 0), [], rfl, rfl, Nat.zero_le 16, fun i h => absurd h (Nat.not_lt_zero i), ⟨Nat.zero_le 4, fun _ _ => rfl, fun i h => absurd h (Nat.not_lt_zero i), fun _ _ => rfl⟩, fun _ _ => rfl, tabs_init, ⟨[], [], rfl, Or.inl ⟨rfl, rfl, rfl⟩, Or.inl ⟨rfl, rfl, rfl⟩⟩, hP, hD⟩
  exact law_loop ⟨hx, hb, hml, hown, hts, hX, hbl, hK, hL⟩ hr hlocks (L + 1) 0 35 3280 (Nat.zero_le L) (by omega) (by omega) (by omega) H locs ls hI hS (lv_sub hl [3, 2, 1, 0] rfl)
