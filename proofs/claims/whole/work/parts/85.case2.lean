/-! the law's cases, printed by wip/whole/cases.py -/
theorem lk_set {p : Program} {l : Launch} {e : Env} {s : State} {m : MethodId} {below : List Frame} {meth : Method} {c : Code} {b L : Nat} {xs : Nat → Int32} {D : va_G} {cI cJ cZ cO : ClassId} {H : Heap} {locs : List Loc} {cells slots : Nat} {Q : State → Prop} {ls : Array Slot} {i q7 q8 : Nat} (C : LX p s m c b L xs D cI cJ cZ cO) (hi : i + 5 ≤ L) (hI : LI s D cI cJ cZ cO q7 q8 H) (hS : va_S (lA s) s.heap H locs) (hl : lv_has ls 4 [(0, .ref b), (1, .ref q7), (2, .ref q8), (3, .int (nI i))]) (hcl : cells + 4 ≤ 600000 ∧ slots + 20 ≤ 7302250) (kk : ∀ (H : Heap) (locs : List Loc), LI s D cI cJ cZ cO q7 q8 H → va_S (lA s) s.heap H locs → W p l e room_1 s m #[Value.ref b] below meth c H locs (cells + 4) (slots + 20) Q (F0 m 1397 ls [])) : W p l e room_1 s m #[Value.ref b] below meth c H locs cells slots Q (F0 m 369 ls []) := by
  obtain ⟨hx, hb, hml, hown, hts, hX, hbl, hK, hL⟩ := C
  have hbA : ¬ lA s b := Nat.not_le.mpr hbl
  have hA : ∀ q : Nat, s.heap.size ≤ q → lA s q := fun _ h => h
  obtain ⟨P, R, n, k, tb, nf, np, nm, sl, cp, cw, sp, fd, ts, ch, bs, sn, du, lm, nr, tn, rf, rt, se, co, lk, ld, im, pl, pm, rn, fs, fm, ik, kf, kp, kd, km, pool, rfl, rfl, hn, hte, hpc, hfe, htb, hks, hP, hD⟩ := hI
  have hc1 : cells ≤ room_1.cells ∧ slots ≤ room_1.slots := ⟨show cells ≤ 600000 by omega, show slots ≤ 7302250 by omega⟩
  obtain ⟨r, nf2, rf2, e1, e2, hfe2⟩ := pr_set hfe (xs (i + 1)) (xs (i + 2)) (bb (xs (i + 3)))
  refine lv_aload_n hx hb dL_law_369 rfl (lv_at hl 1 rfl) ?_
  refine ls_arg hx hb hX hbl hbA hS 1 (by omega) hL (lv_at hl 0 rfl) (lv_at hl 3 rfl) rfl dL_law_370 dL_law_371 dL_law_372 dL_law_373 dL_law_374 ?_
  refine ls_arg hx hb hX hbl hbA hS 2 (by omega) hL (lv_at hl 0 rfl) (lv_at hl 3 rfl) rfl dL_law_375 dL_law_376 dL_law_377 dL_law_378 dL_law_379 ?_
  refine ls_arg hx hb hX hbl hbA hS 3 (by omega) hL (lv_at hl 0 rfl) (lv_at hl 3 rfl) rfl dL_law_380 dL_law_381 dL_law_382 dL_law_383 dL_law_384 ?_
  refine ls_bool hx hb dL_law_385 dL_law_388 dL_law_389 dL_law_392 ?_
  refine lc_i (w7 P cI cJ cZ cO (nI n) tb (nI k) nf2 np nm sl cp cw sp fd ts ch bs sn ++ w8 R cI cJ cZ cO (nI n) du lm (nI k) nr tn rf rt se co lk ld im pl pm rn fs fm ik kf kp kd km) (rest := []) ⟨hx, hb, hml, hown, hts⟩ hS hA hP hD hK (c_X7_set l D cI cJ cZ cO (P 0) (P 1) (P 3) (P 7) (P 8) (P 14) (P 4) (P 5) (P 6) H.size (nI k) nf (xs (i + 1)) (xs (i + 2)) (bb (xs (i + 3))) _ _ e1) (cwV 3 hts gL_law_X7_set rfl rfl rfl zv_X7_set ⟨Nat.le_of_ble_eq_true rfl, Nat.le_of_ble_eq_true rfl⟩) [0, 3, 4] rfl rfl rfl rfl rfl 3 rfl rfl rfl hl.1 rfl (Nat.le_of_ble_eq_true rfl) dL_law_393 hc1 (fun H locs hP hD hS => ?_)
  refine lv_aload_n hx hb dL_law_396 rfl (lv_at hl 2 rfl) ?_
  refine ls_arg hx hb hX hbl hbA hS 1 (by omega) hL (lv_at hl 0 rfl) (lv_at hl 3 rfl) rfl dL_law_397 dL_law_398 dL_law_399 dL_law_400 dL_law_401 ?_
  refine ls_arg hx hb hX hbl hbA hS 2 (by omega) hL (lv_at hl 0 rfl) (lv_at hl 3 rfl) rfl dL_law_402 dL_law_403 dL_law_404 dL_law_405 dL_law_406 ?_
  refine ls_arg hx hb hX hbl hbA hS 3 (by omega) hL (lv_at hl 0 rfl) (lv_at hl 3 rfl) rfl dL_law_407 dL_law_408 dL_law_409 dL_law_410 dL_law_411 ?_
  refine ls_bool hx hb dL_law_412 dL_law_415 dL_law_416 dL_law_419 ?_
  refine lc_i (w7 P cI cJ cZ cO (nI n) tb (nI k) nf2 np nm sl cp cw sp fd ts ch bs sn ++ w8 R cI cJ cZ cO (nI n) du lm (nI k) nr tn rf2 rt se co lk ld im pl pm rn fs fm ik kf kp kd km) (rest := [.int r]) ⟨hx, hb, hml, hown, hts⟩ hS hA hP hD hK (c_X8_set l D cI cJ cZ cO (R 0) (R 1) (R 2) (R 3) (R 4) (R 5) (R 6) (R 7) (R 8) (R 9) (R 10) (R 11) (R 12) (R 13) (R 14) (R 15) (R 16) (R 17) (R 18) (R 19) H.size (nI n) du lm (nI k) rf (xs (i + 1)) (xs (i + 2)) (bb (xs (i + 3))) _ _ e2) (cwV 3 hts gL_law_X8_set rfl rfl rfl zv_X8_set ⟨Nat.le_of_ble_eq_true rfl, Nat.le_of_ble_eq_true rfl⟩) [15, 18] rfl rfl rfl rfl rfl 4 rfl rfl rfl hl.1 rfl (Nat.le_of_ble_eq_true rfl) dL_law_420 hc1 (fun H locs hP hD hS => ?_)
  refine lv_icmp_eq (tgt := 1397) hx hb dL_law_423 (by decide) (fun _ => ?_) (fun h => absurd rfl h)
  refine W.widen (k := cells + 4) (n := slots + 20) (by omega) (by omega) ?_
  exact kk _ _ ⟨P, R, n, k, tb, nf2, np, nm, sl, cp, cw, sp, fd, ts, ch, bs, sn, du, lm, nr, tn, rf2, rt, se, co, lk, ld, im, pl, pm, rn, fs, fm, ik, kf, kp, kd, km, pool, rfl, rfl, hn, hte, hpc, hfe2, htb, hks, hP, hD⟩ hS
theorem lk_size {p : Program} {l : Launch} {e : Env} {s : State} {m : MethodId} {below : List Frame} {meth : Method} {c : Code} {b L : Nat} {xs : Nat → Int32} {D : va_G} {cI cJ cZ cO : ClassId} {H : Heap} {locs : List Loc} {cells slots : Nat} {Q : State → Prop} {ls : Array Slot} {i q7 q8 : Nat} (C : LX p s m c b L xs D cI cJ cZ cO) (hi : i + 5 ≤ L) (hI : LI s D cI cJ cZ cO q7 q8 H) (hS : va_S (lA s) s.heap H locs) (hl : lv_has ls 4 [(0, .ref b), (1, .ref q7), (2, .ref q8), (3, .int (nI i))]) (hcl : cells + 4 ≤ 600000 ∧ slots + 20 ≤ 7302250) (kk : ∀ (H : Heap) (locs : List Loc), LI s D cI cJ cZ cO q7 q8 H → va_S (lA s) s.heap H locs → W p l e room_1 s m #[Value.ref b] below meth c H locs (cells + 4) (slots + 20) Q (F0 m 1397 ls [])) : W p l e room_1 s m #[Value.ref b] below meth c H locs cells slots Q (F0 m 428 ls []) := by
  obtain ⟨hx, hb, hml, hown, hts, hX, hbl, hK, hL⟩ := C
  have hbA : ¬ lA s b := Nat.not_le.mpr hbl
  have hA : ∀ q : Nat, s.heap.size ≤ q → lA s q := fun _ h => h
  obtain ⟨P, R, n, k, tb, nf, np, nm, sl, cp, cw, sp, fd, ts, ch, bs, sn, du, lm, nr, tn, rf, rt, se, co, lk, ld, im, pl, pm, rn, fs, fm, ik, kf, kp, kd, km, pool, rfl, rfl, hn, hte, hpc, hfe, htb, hks, hP, hD⟩ := hI
  have hc1 : cells ≤ room_1.cells ∧ slots ≤ room_1.slots := ⟨show cells ≤ 600000 by omega, show slots ≤ 7302250 by omega⟩
  obtain ⟨r, e1, e2⟩ := pr_size hfe (xs (i + 1))
  refine lv_aload_n hx hb dL_law_428 rfl (lv_at hl 1 rfl) ?_
  refine ls_arg hx hb hX hbl hbA hS 1 (by omega) hL (lv_at hl 0 rfl) (lv_at hl 3 rfl) rfl dL_law_429 dL_law_430 dL_law_431 dL_law_432 dL_law_433 ?_
  refine lr_i (rest := []) ⟨hx, hb, hml, hown, hts⟩ hP hK (c_X7_size l D cI cJ cZ cO (P 0) (P 1) (P 3) (P 7) (P 8) (P 14) (P 4) (P 5) (P 6) (nI k) nf (xs (i + 1)) _ e1) (cwV 1 hts gL_law_X7_size rfl rfl rfl zv_X7_size ⟨Nat.le_of_ble_eq_true rfl, Nat.le_of_ble_eq_true rfl⟩) [0, 3, 4] rfl 3 rfl rfl rfl hl.1 rfl (Nat.le_of_ble_eq_true rfl) dL_law_434 hc1 ?_
  refine lv_aload_n hx hb dL_law_437 rfl (lv_at hl 2 rfl) ?_
  refine ls_arg hx hb hX hbl hbA hS 1 (by omega) hL (lv_at hl 0 rfl) (lv_at hl 3 rfl) rfl dL_law_438 dL_law_439 dL_law_440 dL_law_441 dL_law_442 ?_
  refine lr_i (rest := [.int r]) ⟨hx, hb, hml, hown, hts⟩ hP hK (c_X8_size l D cI cJ cZ cO (R 0) (R 1) (R 2) (R 3) (R 4) (R 5) (R 6) (R 7) (R 8) (R 9) (R 10) (R 11) (R 12) (R 13) (R 14) (R 15) (R 16) (R 17) (R 18) (R 19) (nI n) du lm (nI k) rf (xs (i + 1)) _ e2) (cwV 1 hts gL_law_X8_size rfl rfl rfl zv_X8_size ⟨Nat.le_of_ble_eq_true rfl, Nat.le_of_ble_eq_true rfl⟩) [15, 18] rfl 4 rfl rfl rfl hl.1 rfl (Nat.le_of_ble_eq_true rfl) dL_law_443 hc1 ?_
  refine lv_icmp_eq (tgt := 1397) hx hb dL_law_446 (by decide) (fun _ => ?_) (fun h => absurd rfl h)
  refine W.widen (k := cells + 4) (n := slots + 20) (by omega) (by omega) ?_
  exact kk _ _ ⟨P, R, n, k, tb, nf, np, nm, sl, cp, cw, sp, fd, ts, ch, bs, sn, du, lm, nr, tn, rf, rt, se, co, lk, ld, im, pl, pm, rn, fs, fm, ik, kf, kp, kd, km, pool, rfl, rfl, hn, hte, hpc, hfe, htb, hks, hP, hD⟩ hS
theorem lk_parts {p : Program} {l : Launch} {e : Env} {s : State} {m : MethodId} {below : List Frame} {meth : Method} {c : Code} {b L : Nat} {xs : Nat → Int32} {D : va_G} {cI cJ cZ cO : ClassId} {H : Heap} {locs : List Loc} {cells slots : Nat} {Q : State → Prop} {ls : Array Slot} {i q7 q8 : Nat} (C : LX p s m c b L xs D cI cJ cZ cO) (hi : i + 5 ≤ L) (hI : LI s D cI cJ cZ cO q7 q8 H) (hS : va_S (lA s) s.heap H locs) (hl : lv_has ls 4 [(0, .ref b), (1, .ref q7), (2, .ref q8), (3, .int (nI i))]) (hcl : cells + 4 ≤ 600000 ∧ slots + 20 ≤ 7302250) (kk : ∀ (H : Heap) (locs : List Loc), LI s D cI cJ cZ cO q7 q8 H → va_S (lA s) s.heap H locs → W p l e room_1 s m #[Value.ref b] below meth c H locs (cells + 4) (slots + 20) Q (F0 m 1397 ls [])) : W p l e room_1 s m #[Value.ref b] below meth c H locs cells slots Q (F0 m 451 ls []) := by
  obtain ⟨hx, hb, hml, hown, hts, hX, hbl, hK, hL⟩ := C
  have hbA : ¬ lA s b := Nat.not_le.mpr hbl
  have hA : ∀ q : Nat, s.heap.size ≤ q → lA s q := fun _ h => h
  obtain ⟨P, R, n, k, tb, nf, np, nm, sl, cp, cw, sp, fd, ts, ch, bs, sn, du, lm, nr, tn, rf, rt, se, co, lk, ld, im, pl, pm, rn, fs, fm, ik, kf, kp, kd, km, pool, rfl, rfl, hn, hte, hpc, hfe, htb, hks, hP, hD⟩ := hI
  have hc1 : cells ≤ room_1.cells ∧ slots ≤ room_1.slots := ⟨show cells ≤ 600000 by omega, show slots ≤ 7302250 by omega⟩
  obtain ⟨r, e1, e2⟩ := pr_parts htb.1 hfe (xs (i + 1))
  refine lv_aload_n hx hb dL_law_451 rfl (lv_at hl 1 rfl) ?_
  refine ls_arg hx hb hX hbl hbA hS 1 (by omega) hL (lv_at hl 0 rfl) (lv_at hl 3 rfl) rfl dL_law_452 dL_law_453 dL_law_454 dL_law_455 dL_law_456 ?_
  refine lr_i (rest := []) ⟨hx, hb, hml, hown, hts⟩ hP hK (c_X7_parts l D cI cJ cZ cO (P 0) (P 1) (P 3) (P 7) (P 8) (P 14) (P 4) (P 5) (P 6) (nI k) nf (xs (i + 1)) _ e1) (cwV 1 hts gL_law_X7_parts rfl rfl rfl zv_X7_parts ⟨Nat.le_of_ble_eq_true rfl, Nat.le_of_ble_eq_true rfl⟩) [0, 3, 4] rfl 3 rfl rfl rfl hl.1 rfl (Nat.le_of_ble_eq_true rfl) dL_law_457 hc1 ?_
  refine lv_aload_n hx hb dL_law_460 rfl (lv_at hl 2 rfl) ?_
  refine ls_arg hx hb hX hbl hbA hS 1 (by omega) hL (lv_at hl 0 rfl) (lv_at hl 3 rfl) rfl dL_law_461 dL_law_462 dL_law_463 dL_law_464 dL_law_465 ?_
  refine lr_i (rest := [.int r]) ⟨hx, hb, hml, hown, hts⟩ hP hK (c_X8_parts l D cI cJ cZ cO (R 0) (R 1) (R 2) (R 3) (R 4) (R 5) (R 6) (R 7) (R 8) (R 9) (R 10) (R 11) (R 12) (R 13) (R 14) (R 15) (R 16) (R 17) (R 18) (R 19) (nI n) du lm (nI k) rf nr (xs (i + 1)) _ e2) (cwV 1 hts gL_law_X8_parts rfl rfl rfl zv_X8_parts ⟨Nat.le_of_ble_eq_true rfl, Nat.le_of_ble_eq_true rfl⟩) [15, 18, 16] rfl 4 rfl rfl rfl hl.1 rfl (Nat.le_of_ble_eq_true rfl) dL_law_466 hc1 ?_
  refine lv_icmp_eq (tgt := 1397) hx hb dL_law_469 (by decide) (fun _ => ?_) (fun h => absurd rfl h)
  refine W.widen (k := cells + 4) (n := slots + 20) (by omega) (by omega) ?_
  exact kk _ _ ⟨P, R, n, k, tb, nf, np, nm, sl, cp, cw, sp, fd, ts, ch, bs, sn, du, lm, nr, tn, rf, rt, se, co, lk, ld, im, pl, pm, rn, fs, fm, ik, kf, kp, kd, km, pool, rfl, rfl, hn, hte, hpc, hfe, htb, hks, hP, hD⟩ hS
theorem lk_holes {p : Program} {l : Launch} {e : Env} {s : State} {m : MethodId} {below : List Frame} {meth : Method} {c : Code} {b L : Nat} {xs : Nat → Int32} {D : va_G} {cI cJ cZ cO : ClassId} {H : Heap} {locs : List Loc} {cells slots : Nat} {Q : State → Prop} {ls : Array Slot} {i q7 q8 : Nat} (C : LX p s m c b L xs D cI cJ cZ cO) (hi : i + 5 ≤ L) (hI : LI s D cI cJ cZ cO q7 q8 H) (hS : va_S (lA s) s.heap H locs) (hl : lv_has ls 4 [(0, .ref b), (1, .ref q7), (2, .ref q8), (3, .int (nI i))]) (hcl : cells + 4 ≤ 600000 ∧ slots + 20 ≤ 7302250) (kk : ∀ (H : Heap) (locs : List Loc), LI s D cI cJ cZ cO q7 q8 H → va_S (lA s) s.heap H locs → W p l e room_1 s m #[Value.ref b] below meth c H locs (cells + 4) (slots + 20) Q (F0 m 1397 ls [])) : W p l e room_1 s m #[Value.ref b] below meth c H locs cells slots Q (F0 m 474 ls []) := by
  obtain ⟨hx, hb, hml, hown, hts, hX, hbl, hK, hL⟩ := C
  have hbA : ¬ lA s b := Nat.not_le.mpr hbl
  have hA : ∀ q : Nat, s.heap.size ≤ q → lA s q := fun _ h => h
  obtain ⟨P, R, n, k, tb, nf, np, nm, sl, cp, cw, sp, fd, ts, ch, bs, sn, du, lm, nr, tn, rf, rt, se, co, lk, ld, im, pl, pm, rn, fs, fm, ik, kf, kp, kd, km, pool, rfl, rfl, hn, hte, hpc, hfe, htb, hks, hP, hD⟩ := hI
  have hc1 : cells ≤ room_1.cells ∧ slots ≤ room_1.slots := ⟨show cells ≤ 600000 by omega, show slots ≤ 7302250 by omega⟩
  obtain ⟨r, e1, e2⟩ := pr_holes htb.1 hfe (xs (i + 1))
  refine lv_aload_n hx hb dL_law_474 rfl (lv_at hl 1 rfl) ?_
  refine ls_arg hx hb hX hbl hbA hS 1 (by omega) hL (lv_at hl 0 rfl) (lv_at hl 3 rfl) rfl dL_law_475 dL_law_476 dL_law_477 dL_law_478 dL_law_479 ?_
  refine lr_i (rest := []) ⟨hx, hb, hml, hown, hts⟩ hP hK (c_X7_holes l D cI cJ cZ cO (P 0) (P 1) (P 3) (P 7) (P 8) (P 14) (P 4) (P 5) (P 6) (nI k) nf (xs (i + 1)) _ e1) (cwV 1 hts gL_law_X7_holes rfl rfl rfl zv_X7_holes ⟨Nat.le_of_ble_eq_true rfl, Nat.le_of_ble_eq_true rfl⟩) [0, 3, 4] rfl 3 rfl rfl rfl hl.1 rfl (Nat.le_of_ble_eq_true rfl) dL_law_480 hc1 ?_
  refine lv_aload_n hx hb dL_law_483 rfl (lv_at hl 2 rfl) ?_
  refine ls_arg hx hb hX hbl hbA hS 1 (by omega) hL (lv_at hl 0 rfl) (lv_at hl 3 rfl) rfl dL_law_484 dL_law_485 dL_law_486 dL_law_487 dL_law_488 ?_
  refine lr_i (rest := [.int r]) ⟨hx, hb, hml, hown, hts⟩ hP hK (c_X8_holes l D cI cJ cZ cO (R 0) (R 1) (R 2) (R 3) (R 4) (R 5) (R 6) (R 7) (R 8) (R 9) (R 10) (R 11) (R 12) (R 13) (R 14) (R 15) (R 16) (R 17) (R 18) (R 19) (nI n) du lm (nI k) rf nr (xs (i + 1)) _ e2) (cwV 1 hts gL_law_X8_holes rfl rfl rfl zv_X8_holes ⟨Nat.le_of_ble_eq_true rfl, Nat.le_of_ble_eq_true rfl⟩) [15, 18, 16] rfl 4 rfl rfl rfl hl.1 rfl (Nat.le_of_ble_eq_true rfl) dL_law_489 hc1 ?_
  refine lv_icmp_eq (tgt := 1397) hx hb dL_law_492 (by decide) (fun _ => ?_) (fun h => absurd rfl h)
  refine W.widen (k := cells + 4) (n := slots + 20) (by omega) (by omega) ?_
  exact kk _ _ ⟨P, R, n, k, tb, nf, np, nm, sl, cp, cw, sp, fd, ts, ch, bs, sn, du, lm, nr, tn, rf, rt, se, co, lk, ld, im, pl, pm, rn, fs, fm, ik, kf, kp, kd, km, pool, rfl, rfl, hn, hte, hpc, hfe, htb, hks, hP, hD⟩ hS
theorem lk_edges {p : Program} {l : Launch} {e : Env} {s : State} {m : MethodId} {below : List Frame} {meth : Method} {c : Code} {b L : Nat} {xs : Nat → Int32} {D : va_G} {cI cJ cZ cO : ClassId} {H : Heap} {locs : List Loc} {cells slots : Nat} {Q : State → Prop} {ls : Array Slot} {i q7 q8 : Nat} (C : LX p s m c b L xs D cI cJ cZ cO) (hi : i + 5 ≤ L) (hI : LI s D cI cJ cZ cO q7 q8 H) (hS : va_S (lA s) s.heap H locs) (hl : lv_has ls 4 [(0, .ref b), (1, .ref q7), (2, .ref q8), (3, .int (nI i))]) (hcl : cells + 4 ≤ 600000 ∧ slots + 20 ≤ 7302250) (kk : ∀ (H : Heap) (locs : List Loc), LI s D cI cJ cZ cO q7 q8 H → va_S (lA s) s.heap H locs → W p l e room_1 s m #[Value.ref b] below meth c H locs (cells + 4) (slots + 20) Q (F0 m 1397 ls [])) : W p l e room_1 s m #[Value.ref b] below meth c H locs cells slots Q (F0 m 497 ls []) := by
  obtain ⟨hx, hb, hml, hown, hts, hX, hbl, hK, hL⟩ := C
  have hbA : ¬ lA s b := Nat.not_le.mpr hbl
  have hA : ∀ q : Nat, s.heap.size ≤ q → lA s q := fun _ h => h
  obtain ⟨P, R, n, k, tb, nf, np, nm, sl, cp, cw, sp, fd, ts, ch, bs, sn, du, lm, nr, tn, rf, rt, se, co, lk, ld, im, pl, pm, rn, fs, fm, ik, kf, kp, kd, km, pool, rfl, rfl, hn, hte, hpc, hfe, htb, hks, hP, hD⟩ := hI
  have hc1 : cells ≤ room_1.cells ∧ slots ≤ room_1.slots := ⟨show cells ≤ 600000 by omega, show slots ≤ 7302250 by omega⟩
  obtain ⟨r, e1, e2⟩ := pr_edges hfe (xs (i + 1)) (bb (xs (i + 2)))
  refine lv_aload_n hx hb dL_law_497 rfl (lv_at hl 1 rfl) ?_
  refine ls_arg hx hb hX hbl hbA hS 1 (by omega) hL (lv_at hl 0 rfl) (lv_at hl 3 rfl) rfl dL_law_498 dL_law_499 dL_law_500 dL_law_501 dL_law_502 ?_
  refine ls_arg hx hb hX hbl hbA hS 2 (by omega) hL (lv_at hl 0 rfl) (lv_at hl 3 rfl) rfl dL_law_503 dL_law_504 dL_law_505 dL_law_506 dL_law_507 ?_
  refine ls_bool hx hb dL_law_508 dL_law_511 dL_law_512 dL_law_515 ?_
  refine lr_i (rest := []) ⟨hx, hb, hml, hown, hts⟩ hP hK (c_X7_edges l D cI cJ cZ cO (P 0) (P 1) (P 3) (P 7) (P 8) (P 14) (P 4) (P 5) (P 6) (nI k) nf (xs (i + 1)) (bb (xs (i + 2))) _ e1) (cwV 2 hts gL_law_X7_edges rfl rfl rfl zv_X7_edges ⟨Nat.le_of_ble_eq_true rfl, Nat.le_of_ble_eq_true rfl⟩) [0, 3, 4] rfl 3 rfl rfl rfl hl.1 rfl (Nat.le_of_ble_eq_true rfl) dL_law_516 hc1 ?_
  refine lv_aload_n hx hb dL_law_519 rfl (lv_at hl 2 rfl) ?_
  refine ls_arg hx hb hX hbl hbA hS 1 (by omega) hL (lv_at hl 0 rfl) (lv_at hl 3 rfl) rfl dL_law_520 dL_law_521 dL_law_522 dL_law_523 dL_law_524 ?_
  refine ls_arg hx hb hX hbl hbA hS 2 (by omega) hL (lv_at hl 0 rfl) (lv_at hl 3 rfl) rfl dL_law_525 dL_law_526 dL_law_527 dL_law_528 dL_law_529 ?_
  refine ls_bool hx hb dL_law_530 dL_law_533 dL_law_534 dL_law_537 ?_
  refine lr_i (rest := [.int r]) ⟨hx, hb, hml, hown, hts⟩ hP hK (c_X8_edges l D cI cJ cZ cO (R 0) (R 1) (R 2) (R 3) (R 4) (R 5) (R 6) (R 7) (R 8) (R 9) (R 10) (R 11) (R 12) (R 13) (R 14) (R 15) (R 16) (R 17) (R 18) (R 19) (nI n) du lm (nI k) rf (xs (i + 1)) (bb (xs (i + 2))) _ e2) (cwV 2 hts gL_law_X8_edges rfl rfl rfl zv_X8_edges ⟨Nat.le_of_ble_eq_true rfl, Nat.le_of_ble_eq_true rfl⟩) [15, 18] rfl 4 rfl rfl rfl hl.1 rfl (Nat.le_of_ble_eq_true rfl) dL_law_538 hc1 ?_
  refine lv_icmp_eq (tgt := 1397) hx hb dL_law_541 (by decide) (fun _ => ?_) (fun h => absurd rfl h)
  refine W.widen (k := cells + 4) (n := slots + 20) (by omega) (by omega) ?_
  exact kk _ _ ⟨P, R, n, k, tb, nf, np, nm, sl, cp, cw, sp, fd, ts, ch, bs, sn, du, lm, nr, tn, rf, rt, se, co, lk, ld, im, pl, pm, rn, fs, fm, ik, kf, kp, kd, km, pool, rfl, rfl, hn, hte, hpc, hfe, htb, hks, hP, hD⟩ hS
theorem lk_corners {p : Program} {l : Launch} {e : Env} {s : State} {m : MethodId} {below : List Frame} {meth : Method} {c : Code} {b L : Nat} {xs : Nat → Int32} {D : va_G} {cI cJ cZ cO : ClassId} {H : Heap} {locs : List Loc} {cells slots : Nat} {Q : State → Prop} {ls : Array Slot} {i q7 q8 : Nat} (C : LX p s m c b L xs D cI cJ cZ cO) (hi : i + 5 ≤ L) (hI : LI s D cI cJ cZ cO q7 q8 H) (hS : va_S (lA s) s.heap H locs) (hl : lv_has ls 4 [(0, .ref b), (1, .ref q7), (2, .ref q8), (3, .int (nI i))]) (hcl : cells + 4 ≤ 600000 ∧ slots + 20 ≤ 7302250) (kk : ∀ (H : Heap) (locs : List Loc), LI s D cI cJ cZ cO q7 q8 H → va_S (lA s) s.heap H locs → W p l e room_1 s m #[Value.ref b] below meth c H locs (cells + 4) (slots + 20) Q (F0 m 1397 ls [])) : W p l e room_1 s m #[Value.ref b] below meth c H locs cells slots Q (F0 m 546 ls []) := by
  obtain ⟨hx, hb, hml, hown, hts, hX, hbl, hK, hL⟩ := C
  have hbA : ¬ lA s b := Nat.not_le.mpr hbl
  have hA : ∀ q : Nat, s.heap.size ≤ q → lA s q := fun _ h => h
  obtain ⟨P, R, n, k, tb, nf, np, nm, sl, cp, cw, sp, fd, ts, ch, bs, sn, du, lm, nr, tn, rf, rt, se, co, lk, ld, im, pl, pm, rn, fs, fm, ik, kf, kp, kd, km, pool, rfl, rfl, hn, hte, hpc, hfe, htb, hks, hP, hD⟩ := hI
  have hc1 : cells ≤ room_1.cells ∧ slots ≤ room_1.slots := ⟨show cells ≤ 600000 by omega, show slots ≤ 7302250 by omega⟩
  obtain ⟨r, du2, co2, se2, e1, e2⟩ := pr_corners hfe du co se (xs (i + 1)) (xs (i + 2))
  refine lv_aload_n hx hb dL_law_546 rfl (lv_at hl 1 rfl) ?_
  refine ls_arg hx hb hX hbl hbA hS 1 (by omega) hL (lv_at hl 0 rfl) (lv_at hl 3 rfl) rfl dL_law_547 dL_law_548 dL_law_549 dL_law_550 dL_law_551 ?_
  refine ls_arg hx hb hX hbl hbA hS 2 (by omega) hL (lv_at hl 0 rfl) (lv_at hl 3 rfl) rfl dL_law_552 dL_law_553 dL_law_554 dL_law_555 dL_law_556 ?_
  refine lr_i (rest := []) ⟨hx, hb, hml, hown, hts⟩ hP hK (c_X7_corners l D cI cJ cZ cO (P 0) (P 1) (P 3) (P 7) (P 8) (P 14) (P 4) (P 5) (P 6) (nI k) nf (xs (i + 1)) (xs (i + 2)) _ e1) (cwV 2 hts gL_law_X7_corners rfl rfl rfl zv_X7_corners ⟨Nat.le_of_ble_eq_true rfl, Nat.le_of_ble_eq_true rfl⟩) [0, 3, 4] rfl 3 rfl rfl rfl hl.1 rfl (Nat.le_of_ble_eq_true rfl) dL_law_557 hc1 ?_
  refine lv_aload_n hx hb dL_law_560 rfl (lv_at hl 2 rfl) ?_
  refine ls_arg hx hb hX hbl hbA hS 1 (by omega) hL (lv_at hl 0 rfl) (lv_at hl 3 rfl) rfl dL_law_561 dL_law_562 dL_law_563 dL_law_564 dL_law_565 ?_
  refine ls_arg hx hb hX hbl hbA hS 2 (by omega) hL (lv_at hl 0 rfl) (lv_at hl 3 rfl) rfl dL_law_566 dL_law_567 dL_law_568 dL_law_569 dL_law_570 ?_
  refine lc_i (w7 P cI cJ cZ cO (nI n) tb (nI k) nf np nm sl cp cw sp fd ts ch bs sn ++ w8 R cI cJ cZ cO (nI n) du2 lm (nI k) nr tn rf rt se2 co2 lk ld im pl pm rn fs fm ik kf kp kd km) (rest := [.int r]) ⟨hx, hb, hml, hown, hts⟩ hS hA hP hD hK (c_X8_corners l D cI cJ cZ cO (R 0) (R 1) (R 2) (R 3) (R 4) (R 5) (R 6) (R 7) (R 8) (R 9) (R 10) (R 11) (R 12) (R 13) (R 14) (R 15) (R 16) (R 17) (R 18) (R 19) H.size (nI n) du lm (nI k) rf co se (xs (i + 1)) (xs (i + 2)) _ _ _ _ e2) (cwV 2 hts gL_law_X8_corners rfl rfl rfl zv_X8_corners ⟨Nat.le_of_ble_eq_true rfl, Nat.le_of_ble_eq_true rfl⟩) [15, 18, 21, 20] rfl rfl rfl rfl rfl 4 rfl rfl rfl hl.1 rfl (Nat.le_of_ble_eq_true rfl) dL_law_571 hc1 (fun H locs hP hD hS => ?_)
  refine lv_icmp_eq (tgt := 1397) hx hb dL_law_574 (by decide) (fun _ => ?_) (fun h => absurd rfl h)
  refine W.widen (k := cells + 4) (n := slots + 20) (by omega) (by omega) ?_
  exact kk _ _ ⟨P, R, n, k, tb, nf, np, nm, sl, cp, cw, sp, fd, ts, ch, bs, sn, du2, lm, nr, tn, rf, rt, se2, co2, lk, ld, im, pl, pm, rn, fs, fm, ik, kf, kp, kd, km, pool, rfl, rfl, hn, hte, hpc, hfe, htb, hks, hP, hD⟩ hS
