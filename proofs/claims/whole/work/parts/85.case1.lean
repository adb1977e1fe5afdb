/-! the law's cases, printed by wip/whole/cases.py -/
theorem lk_write {p : Program} {l : Launch} {e : Env} {s : State} {m : MethodId} {below : List Frame} {meth : Method} {c : Code} {b L : Nat} {xs : Nat → Int32} {D : va_G} {cI cJ cZ cO : ClassId} {H : Heap} {locs : List Loc} {cells slots : Nat} {Q : State → Prop} {ls : Array Slot} {i q7 q8 : Nat} (C : LX p s m c b L xs D cI cJ cZ cO) (hi : i + 5 ≤ L) (hI : LI s D cI cJ cZ cO q7 q8 H) (hS : va_S (lA s) s.heap H locs) (hl : lv_has ls 4 [(0, .ref b), (1, .ref q7), (2, .ref q8), (3, .int (nI i))]) (hcl : cells + 4 ≤ 600000 ∧ slots + 20 ≤ 7302250) (kk : ∀ (H : Heap) (locs : List Loc), LI s D cI cJ cZ cO q7 q8 H → va_S (lA s) s.heap H locs → W p l e room_1 s m #[Value.ref b] below meth c H locs (cells + 4) (slots + 20) Q (F0 m 1397 ls [])) : W p l e room_1 s m #[Value.ref b] below meth c H locs cells slots Q (F0 m 200 ls []) := by
  obtain ⟨hx, hb, hml, hown, hts, hX, hbl, hK, hL⟩ := C
  have hbA : ¬ lA s b := Nat.not_le.mpr hbl
  have hA : ∀ q : Nat, s.heap.size ≤ q → lA s q := fun _ h => h
  obtain ⟨P, R, n, k, tb, nf, np, nm, sl, cp, cw, sp, fd, ts, ch, bs, sn, du, lm, nr, tn, rf, rt, se, co, lk, ld, im, pl, pm, rn, fs, fm, ik, kf, kp, kd, km, pool, rfl, rfl, hn, hte, hpc, hfe, htb, hks, hP, hD⟩ := hI
  have hc1 : cells ≤ room_1.cells ∧ slots ≤ room_1.slots := ⟨show cells ≤ 600000 by omega, show slots ≤ 7302250 by omega⟩
  obtain ⟨r, n2, tb2, rt2, e1, e2, hn2, hte2⟩ := pr_write hn hte (xs (i + 1)) (lgw (xs (i + 2)) (xs (i + 3)))
  refine lv_aload_n hx hb dL_law_200 rfl (lv_at hl 1 rfl) ?_
  refine ls_arg hx hb hX hbl hbA hS 1 (by omega) hL (lv_at hl 0 rfl) (lv_at hl 3 rfl) rfl dL_law_201 dL_law_202 dL_law_203 dL_law_204 dL_law_205 ?_
  refine ls_arg hx hb hX hbl hbA hS 2 (by omega) hL (lv_at hl 0 rfl) (lv_at hl 3 rfl) rfl dL_law_206 dL_law_207 dL_law_208 dL_law_209 dL_law_210 ?_
  refine lv_i2l hx hb dL_law_211 rfl ?_
  refine lv_bipush (v := 32) hx hb dL_law_212 rfl ?_
  refine lv_lshl hx hb dL_law_214 rfl ?_
  refine ls_arg hx hb hX hbl hbA hS 3 (by omega) hL (lv_at hl 0 rfl) (lv_at hl 3 rfl) rfl dL_law_215 dL_law_216 dL_law_217 dL_law_218 dL_law_219 ?_
  refine lv_i2l hx hb dL_law_220 rfl ?_
  refine lv_ldc2 (v := (4294967295 : Int64)) hx hb hown (hts (.constantLong RL 13 (4294967295)) (List.mem_of_getElem? (i := 6) rfl)) dL_law_221 ?_
  refine lv_land hx hb dL_law_224 ?_
  refine lv_lor hx hb dL_law_225 ?_
  refine lc_i (w7 P cI cJ cZ cO (nI n2) tb2 (nI k) nf np nm sl cp cw sp fd ts ch bs sn ++ w8 R cI cJ cZ cO (nI n) du lm (nI k) nr tn rf rt se co lk ld im pl pm rn fs fm ik kf kp kd km) (rest := []) ⟨hx, hb, hml, hown, hts⟩ hS hA hP hD hK (c_X7_write l D cI cJ cZ cO (P 0) (P 1) (P 3) (P 7) (P 8) (P 14) (P 2) H.size (nI n) tb (xs (i + 1)) (lgw (xs (i + 2)) (xs (i + 3))) _ _ _ e1) (cwV 2 hts gL_law_X7_write rfl rfl rfl zv_X7_write ⟨Nat.le_of_ble_eq_true rfl, Nat.le_of_ble_eq_true rfl⟩) [0, 1, 2] rfl rfl rfl rfl rfl 3 rfl rfl rfl hl.1 rfl (Nat.le_of_ble_eq_true rfl) dL_law_226 hc1 (fun H locs hP hD hS => ?_)
  refine lv_aload_n hx hb dL_law_229 rfl (lv_at hl 2 rfl) ?_
  refine ls_arg hx hb hX hbl hbA hS 1 (by omega) hL (lv_at hl 0 rfl) (lv_at hl 3 rfl) rfl dL_law_230 dL_law_231 dL_law_232 dL_law_233 dL_law_234 ?_
  refine ls_arg hx hb hX hbl hbA hS 2 (by omega) hL (lv_at hl 0 rfl) (lv_at hl 3 rfl) rfl dL_law_235 dL_law_236 dL_law_237 dL_law_238 dL_law_239 ?_
  refine lv_i2l hx hb dL_law_240 rfl ?_
  refine lv_bipush (v := 32) hx hb dL_law_241 rfl ?_
  refine lv_lshl hx hb dL_law_243 rfl ?_
  refine ls_arg hx hb hX hbl hbA hS 3 (by omega) hL (lv_at hl 0 rfl) (lv_at hl 3 rfl) rfl dL_law_244 dL_law_245 dL_law_246 dL_law_247 dL_law_248 ?_
  refine lv_i2l hx hb dL_law_249 rfl ?_
  refine lv_ldc2 (v := (4294967295 : Int64)) hx hb hown (hts (.constantLong RL 13 (4294967295)) (List.mem_of_getElem? (i := 6) rfl)) dL_law_250 ?_
  refine lv_land hx hb dL_law_253 ?_
  refine lv_lor hx hb dL_law_254 ?_
  refine lc_i (w7 P cI cJ cZ cO (nI n2) tb2 (nI k) nf np nm sl cp cw sp fd ts ch bs sn ++ w8 R cI cJ cZ cO (nI n2) du lm (nI k) nr tn rf rt2 se co lk ld im pl pm rn fs fm ik kf kp kd km) (rest := [.int r]) ⟨hx, hb, hml, hown, hts⟩ hS hA hP hD hK (c_X8_write l D cI cJ cZ cO (R 0) (R 1) (R 2) (R 3) (R 4) (R 5) (R 6) (R 7) (R 8) (R 9) (R 10) (R 11) (R 12) (R 13) (R 14) (R 15) (R 16) (R 17) (R 18) (R 19) H.size (nI n) du lm (nI k) rt (xs (i + 1)) (lgw (xs (i + 2)) (xs (i + 3))) _ _ _ e2) (cwV 2 hts gL_law_X8_write rfl rfl rfl zv_X8_write ⟨Nat.le_of_ble_eq_true rfl, Nat.le_of_ble_eq_true rfl⟩) [15, 19] rfl rfl rfl rfl rfl 4 rfl rfl rfl hl.1 rfl (Nat.le_of_ble_eq_true rfl) dL_law_255 hc1 (fun H locs hP hD hS => ?_)
  refine lv_icmp_eq (tgt := 1397) hx hb dL_law_258 (by decide) (fun _ => ?_) (fun h => absurd rfl h)
  refine W.widen (k := cells + 4) (n := slots + 20) (by omega) (by omega) ?_
  exact kk _ _ ⟨P, R, n2, k, tb2, nf, np, nm, sl, cp, cw, sp, fd, ts, ch, bs, sn, du, lm, nr, tn, rf, rt2, se, co, lk, ld, im, pl, pm, rn, fs, fm, ik, kf, kp, kd, km, pool, rfl, rfl, hn2, hte2, hpc, hfe, htb, hks, hP, hD⟩ hS
theorem lk_wipe {p : Program} {l : Launch} {e : Env} {s : State} {m : MethodId} {below : List Frame} {meth : Method} {c : Code} {b L : Nat} {xs : Nat → Int32} {D : va_G} {cI cJ cZ cO : ClassId} {H : Heap} {locs : List Loc} {cells slots : Nat} {Q : State → Prop} {ls : Array Slot} {i q7 q8 : Nat} (C : LX p s m c b L xs D cI cJ cZ cO) (hi : i + 5 ≤ L) (hI : LI s D cI cJ cZ cO q7 q8 H) (hS : va_S (lA s) s.heap H locs) (hl : lv_has ls 4 [(0, .ref b), (1, .ref q7), (2, .ref q8), (3, .int (nI i))]) (hcl : cells + 4 ≤ 600000 ∧ slots + 20 ≤ 7302250) (kk : ∀ (H : Heap) (locs : List Loc), LI s D cI cJ cZ cO q7 q8 H → va_S (lA s) s.heap H locs → W p l e room_1 s m #[Value.ref b] below meth c H locs (cells + 4) (slots + 20) Q (F0 m 1397 ls [])) : W p l e room_1 s m #[Value.ref b] below meth c H locs cells slots Q (F0 m 263 ls []) := by
  obtain ⟨hx, hb, hml, hown, hts, hX, hbl, hK, hL⟩ := C
  have hbA : ¬ lA s b := Nat.not_le.mpr hbl
  have hA : ∀ q : Nat, s.heap.size ≤ q → lA s q := fun _ h => h
  obtain ⟨P, R, n, k, tb, nf, np, nm, sl, cp, cw, sp, fd, ts, ch, bs, sn, du, lm, nr, tn, rf, rt, se, co, lk, ld, im, pl, pm, rn, fs, fm, ik, kf, kp, kd, km, pool, rfl, rfl, hn, hte, hpc, hfe, htb, hks, hP, hD⟩ := hI
  have hc1 : cells ≤ room_1.cells ∧ slots ≤ room_1.slots := ⟨show cells ≤ 600000 by omega, show slots ≤ 7302250 by omega⟩
  obtain ⟨r, e1, e2⟩ := pr_wipe n
  refine lv_aload_n hx hb dL_law_263 rfl (lv_at hl 1 rfl) ?_
  refine lc_i (w7 P cI cJ cZ cO (nI 0) tb (nI k) nf np nm sl cp cw sp fd ts ch bs sn ++ w8 R cI cJ cZ cO (nI n) du lm (nI k) nr tn rf rt se co lk ld im pl pm rn fs fm ik kf kp kd km) (rest := []) ⟨hx, hb, hml, hown, hts⟩ hS hA hP hD hK (c_X7_wipe l D cI cJ cZ cO (P 0) (P 1) (P 3) (P 7) (P 8) (P 14) (P 2) H.size (nI n) _ _ e1) (cwV 0 hts gL_law_X7_wipe rfl rfl rfl zv_X7_wipe ⟨Nat.le_of_ble_eq_true rfl, Nat.le_of_ble_eq_true rfl⟩) [0, 1] rfl rfl rfl rfl rfl 3 rfl rfl rfl hl.1 rfl (Nat.le_of_ble_eq_true rfl) dL_law_264 hc1 (fun H locs hP hD hS => ?_)
  refine lv_aload_n hx hb dL_law_267 rfl (lv_at hl 2 rfl) ?_
  refine lc_i (w7 P cI cJ cZ cO (nI 0) tb (nI k) nf np nm sl cp cw sp fd ts ch bs sn ++ w8 R cI cJ cZ cO (nI 0) du lm (nI k) nr tn rf rt se co lk ld im pl pm rn fs fm ik kf kp kd km) (rest := [.int r]) ⟨hx, hb, hml, hown, hts⟩ hS hA hP hD hK (c_X8_wipe l D cI cJ cZ cO (R 0) (R 1) (R 2) (R 3) (R 4) (R 5) (R 6) (R 7) (R 8) (R 9) (R 10) (R 11) (R 12) (R 13) (R 14) (R 15) (R 16) (R 17) (R 18) (R 19) H.size (nI n) du lm (nI k) _ _ e2) (cwV 0 hts gL_law_X8_wipe rfl rfl rfl zv_X8_wipe ⟨Nat.le_of_ble_eq_true rfl, Nat.le_of_ble_eq_true rfl⟩) [15] rfl rfl rfl rfl rfl 4 rfl rfl rfl hl.1 rfl (Nat.le_of_ble_eq_true rfl) dL_law_268 hc1 (fun H locs hP hD hS => ?_)
  refine lv_icmp_eq (tgt := 1397) hx hb dL_law_271 (by decide) (fun _ => ?_) (fun h => absurd rfl h)
  refine W.widen (k := cells + 4) (n := slots + 20) (by omega) (by omega) ?_
  exact kk _ _ ⟨P, R, 0, k, tb, nf, np, nm, sl, cp, cw, sp, fd, ts, ch, bs, sn, du, lm, nr, tn, rf, rt, se, co, lk, ld, im, pl, pm, rn, fs, fm, ik, kf, kp, kd, km, pool, rfl, rfl, (Nat.zero_le 16), (fun i h => absurd h (Nat.not_lt_zero i)), hpc, hfe, htb, hks, hP, hD⟩ hS
theorem lk_fault {p : Program} {l : Launch} {e : Env} {s : State} {m : MethodId} {below : List Frame} {meth : Method} {c : Code} {b L : Nat} {xs : Nat → Int32} {D : va_G} {cI cJ cZ cO : ClassId} {H : Heap} {locs : List Loc} {cells slots : Nat} {Q : State → Prop} {ls : Array Slot} {i q7 q8 : Nat} (C : LX p s m c b L xs D cI cJ cZ cO) (hi : i + 5 ≤ L) (hI : LI s D cI cJ cZ cO q7 q8 H) (hS : va_S (lA s) s.heap H locs) (hl : lv_has ls 4 [(0, .ref b), (1, .ref q7), (2, .ref q8), (3, .int (nI i))]) (hcl : cells + 4 ≤ 600000 ∧ slots + 20 ≤ 7302250) (kk : ∀ (H : Heap) (locs : List Loc), LI s D cI cJ cZ cO q7 q8 H → va_S (lA s) s.heap H locs → W p l e room_1 s m #[Value.ref b] below meth c H locs (cells + 4) (slots + 20) Q (F0 m 1397 ls [])) : W p l e room_1 s m #[Value.ref b] below meth c H locs cells slots Q (F0 m 276 ls []) := by
  obtain ⟨hx, hb, hml, hown, hts, hX, hbl, hK, hL⟩ := C
  have hbA : ¬ lA s b := Nat.not_le.mpr hbl
  have hA : ∀ q : Nat, s.heap.size ≤ q → lA s q := fun _ h => h
  obtain ⟨P, R, n, k, tb, nf, np, nm, sl, cp, cw, sp, fd, ts, ch, bs, sn, du, lm, nr, tn, rf, rt, se, co, lk, ld, im, pl, pm, rn, fs, fm, ik, kf, kp, kd, km, pool, rfl, rfl, hn, hte, hpc, hfe, htb, hks, hP, hD⟩ := hI
  have hc1 : cells ≤ room_1.cells ∧ slots ≤ room_1.slots := ⟨show cells ≤ 600000 by omega, show slots ≤ 7302250 by omega⟩
  obtain ⟨r, e1, e2⟩ := pr_fault hn hte
  refine lv_aload_n hx hb dL_law_276 rfl (lv_at hl 1 rfl) ?_
  refine lr_i (rest := []) ⟨hx, hb, hml, hown, hts⟩ hP hK (c_X7_fault l D cI cJ cZ cO (P 0) (P 1) (P 3) (P 7) (P 8) (P 14) (P 2) (nI n) tb _ e1) (cwV 0 hts gL_law_X7_fault rfl rfl rfl zv_X7_fault ⟨Nat.le_of_ble_eq_true rfl, Nat.le_of_ble_eq_true rfl⟩) [0, 1, 2] rfl 3 rfl rfl rfl hl.1 rfl (Nat.le_of_ble_eq_true rfl) dL_law_277 hc1 ?_
  refine lv_aload_n hx hb dL_law_280 rfl (lv_at hl 2 rfl) ?_
  refine lr_i (rest := [.int r]) ⟨hx, hb, hml, hown, hts⟩ hP hK (c_X8_fault l D cI cJ cZ cO (R 0) (R 1) (R 2) (R 3) (R 4) (R 5) (R 6) (R 7) (R 8) (R 9) (R 10) (R 11) (R 12) (R 13) (R 14) (R 15) (R 16) (R 17) (R 18) (R 19) (nI n) du lm (nI k) rt _ e2) (cwV 0 hts gL_law_X8_fault rfl rfl rfl zv_X8_fault ⟨Nat.le_of_ble_eq_true rfl, Nat.le_of_ble_eq_true rfl⟩) [15, 19] rfl 4 rfl rfl rfl hl.1 rfl (Nat.le_of_ble_eq_true rfl) dL_law_281 hc1 ?_
  refine lv_icmp_eq (tgt := 1397) hx hb dL_law_284 (by decide) (fun _ => ?_) (fun h => absurd rfl h)
  refine W.widen (k := cells + 4) (n := slots + 20) (by omega) (by omega) ?_
  exact kk _ _ ⟨P, R, n, k, tb, nf, np, nm, sl, cp, cw, sp, fd, ts, ch, bs, sn, du, lm, nr, tn, rf, rt, se, co, lk, ld, im, pl, pm, rn, fs, fm, ik, kf, kp, kd, km, pool, rfl, rfl, hn, hte, hpc, hfe, htb, hks, hP, hD⟩ hS
theorem lk_word {p : Program} {l : Launch} {e : Env} {s : State} {m : MethodId} {below : List Frame} {meth : Method} {c : Code} {b L : Nat} {xs : Nat → Int32} {D : va_G} {cI cJ cZ cO : ClassId} {H : Heap} {locs : List Loc} {cells slots : Nat} {Q : State → Prop} {ls : Array Slot} {i q7 q8 : Nat} (C : LX p s m c b L xs D cI cJ cZ cO) (hi : i + 5 ≤ L) (hI : LI s D cI cJ cZ cO q7 q8 H) (hS : va_S (lA s) s.heap H locs) (hl : lv_has ls 4 [(0, .ref b), (1, .ref q7), (2, .ref q8), (3, .int (nI i))]) (hcl : cells + 4 ≤ 600000 ∧ slots + 20 ≤ 7302250) (kk : ∀ (H : Heap) (locs : List Loc), LI s D cI cJ cZ cO q7 q8 H → va_S (lA s) s.heap H locs → W p l e room_1 s m #[Value.ref b] below meth c H locs (cells + 4) (slots + 20) Q (F0 m 1397 ls [])) : W p l e room_1 s m #[Value.ref b] below meth c H locs cells slots Q (F0 m 289 ls []) := by
  obtain ⟨hx, hb, hml, hown, hts, hX, hbl, hK, hL⟩ := C
  have hbA : ¬ lA s b := Nat.not_le.mpr hbl
  have hA : ∀ q : Nat, s.heap.size ≤ q → lA s q := fun _ h => h
  obtain ⟨P, R, n, k, tb, nf, np, nm, sl, cp, cw, sp, fd, ts, ch, bs, sn, du, lm, nr, tn, rf, rt, se, co, lk, ld, im, pl, pm, rn, fs, fm, ik, kf, kp, kd, km, pool, rfl, rfl, hn, hte, hpc, hfe, htb, hks, hP, hD⟩ := hI
  have hc1 : cells ≤ room_1.cells ∧ slots ≤ room_1.slots := ⟨show cells ≤ 600000 by omega, show slots ≤ 7302250 by omega⟩
  obtain ⟨r, nf2, rf2, e1, e2, hfe2⟩ := pr_word hn hte hfe (xs (i + 1))
  refine lv_aload_n hx hb dL_law_289 rfl (lv_at hl 1 rfl) ?_
  refine ls_arg hx hb hX hbl hbA hS 1 (by omega) hL (lv_at hl 0 rfl) (lv_at hl 3 rfl) rfl dL_law_290 dL_law_291 dL_law_292 dL_law_293 dL_law_294 ?_
  refine lc_i (w7 P cI cJ cZ cO (nI n) tb (nI k) nf2 np nm sl cp cw sp fd ts ch bs sn ++ w8 R cI cJ cZ cO (nI n) du lm (nI k) nr tn rf rt se co lk ld im pl pm rn fs fm ik kf kp kd km) (rest := []) ⟨hx, hb, hml, hown, hts⟩ hS hA hP hD hK (c_X7_word l D cI cJ cZ cO (P 0) (P 1) (P 3) (P 7) (P 8) (P 14) (P 2) (P 4) (P 5) (P 6) H.size (nI n) (nI k) tb nf (xs (i + 1)) _ _ e1) (cwV 1 hts gL_law_X7_word rfl rfl rfl zv_X7_word ⟨Nat.le_of_ble_eq_true rfl, Nat.le_of_ble_eq_true rfl⟩) [0, 1, 2, 3, 4] rfl rfl rfl rfl rfl 3 rfl rfl rfl hl.1 rfl (Nat.le_of_ble_eq_true rfl) dL_law_295 hc1 (fun H locs hP hD hS => ?_)
  refine lv_aload_n hx hb dL_law_298 rfl (lv_at hl 2 rfl) ?_
  refine ls_arg hx hb hX hbl hbA hS 1 (by omega) hL (lv_at hl 0 rfl) (lv_at hl 3 rfl) rfl dL_law_299 dL_law_300 dL_law_301 dL_law_302 dL_law_303 ?_
  refine lc_i (w7 P cI cJ cZ cO (nI n) tb (nI k) nf2 np nm sl cp cw sp fd ts ch bs sn ++ w8 R cI cJ cZ cO (nI n) du lm (nI k) nr tn rf2 rt se co lk ld im pl pm rn fs fm ik kf kp kd km) (rest := [.int r]) ⟨hx, hb, hml, hown, hts⟩ hS hA hP hD hK (c_X8_word l D cI cJ cZ cO (R 0) (R 1) (R 2) (R 3) (R 4) (R 5) (R 6) (R 7) (R 8) (R 9) (R 10) (R 11) (R 12) (R 13) (R 14) (R 15) (R 16) (R 17) (R 18) (R 19) H.size (nI n) du lm (nI k) rt rf (xs (i + 1)) _ _ e2) (cwV 1 hts gL_law_X8_word rfl rfl rfl zv_X8_word ⟨Nat.le_of_ble_eq_true rfl, Nat.le_of_ble_eq_true rfl⟩) [15, 19, 18] rfl rfl rfl rfl rfl 4 rfl rfl rfl hl.1 rfl (Nat.le_of_ble_eq_true rfl) dL_law_304 hc1 (fun H locs hP hD hS => ?_)
  refine lv_icmp_eq (tgt := 1397) hx hb dL_law_307 (by decide) (fun _ => ?_) (fun h => absurd rfl h)
  refine W.widen (k := cells + 4) (n := slots + 20) (by omega) (by omega) ?_
  exact kk _ _ ⟨P, R, n, k, tb, nf2, np, nm, sl, cp, cw, sp, fd, ts, ch, bs, sn, du, lm, nr, tn, rf2, rt, se, co, lk, ld, im, pl, pm, rn, fs, fm, ik, kf, kp, kd, km, pool, rfl, rfl, hn, hte, hpc, hfe2, htb, hks, hP, hD⟩ hS
theorem lk_sign {p : Program} {l : Launch} {e : Env} {s : State} {m : MethodId} {below : List Frame} {meth : Method} {c : Code} {b L : Nat} {xs : Nat → Int32} {D : va_G} {cI cJ cZ cO : ClassId} {H : Heap} {locs : List Loc} {cells slots : Nat} {Q : State → Prop} {ls : Array Slot} {i q7 q8 : Nat} (C : LX p s m c b L xs D cI cJ cZ cO) (hi : i + 5 ≤ L) (hI : LI s D cI cJ cZ cO q7 q8 H) (hS : va_S (lA s) s.heap H locs) (hl : lv_has ls 4 [(0, .ref b), (1, .ref q7), (2, .ref q8), (3, .int (nI i))]) (hcl : cells + 4 ≤ 600000 ∧ slots + 20 ≤ 7302250) (kk : ∀ (H : Heap) (locs : List Loc), LI s D cI cJ cZ cO q7 q8 H → va_S (lA s) s.heap H locs → W p l e room_1 s m #[Value.ref b] below meth c H locs (cells + 4) (slots + 20) Q (F0 m 1397 ls [])) : W p l e room_1 s m #[Value.ref b] below meth c H locs cells slots Q (F0 m 312 ls []) := by
  obtain ⟨hx, hb, hml, hown, hts, hX, hbl, hK, hL⟩ := C
  have hbA : ¬ lA s b := Nat.not_le.mpr hbl
  have hA : ∀ q : Nat, s.heap.size ≤ q → lA s q := fun _ h => h
  obtain ⟨P, R, n, k, tb, nf, np, nm, sl, cp, cw, sp, fd, ts, ch, bs, sn, du, lm, nr, tn, rf, rt, se, co, lk, ld, im, pl, pm, rn, fs, fm, ik, kf, kp, kd, km, pool, rfl, rfl, hn, hte, hpc, hfe, htb, hks, hP, hD⟩ := hI
  have hc1 : cells ≤ room_1.cells ∧ slots ≤ room_1.slots := ⟨show cells ≤ 600000 by omega, show slots ≤ 7302250 by omega⟩
  obtain ⟨r, e1, e2⟩ := pr_sign hfe (xs (i + 1)) (xs (i + 2))
  refine lv_aload_n hx hb dL_law_312 rfl (lv_at hl 1 rfl) ?_
  refine ls_arg hx hb hX hbl hbA hS 1 (by omega) hL (lv_at hl 0 rfl) (lv_at hl 3 rfl) rfl dL_law_313 dL_law_314 dL_law_315 dL_law_316 dL_law_317 ?_
  refine ls_arg hx hb hX hbl hbA hS 2 (by omega) hL (lv_at hl 0 rfl) (lv_at hl 3 rfl) rfl dL_law_318 dL_law_319 dL_law_320 dL_law_321 dL_law_322 ?_
  refine lr_i (rest := []) ⟨hx, hb, hml, hown, hts⟩ hP hK (c_X7_sign l D cI cJ cZ cO (P 0) (P 1) (P 3) (P 7) (P 8) (P 14) (P 4) (P 5) (P 6) (nI k) nf (xs (i + 1)) (xs (i + 2)) _ e1) (cwV 2 hts gL_law_X7_sign rfl rfl rfl zv_X7_sign ⟨Nat.le_of_ble_eq_true rfl, Nat.le_of_ble_eq_true rfl⟩) [0, 3, 4] rfl 3 rfl rfl rfl hl.1 rfl (Nat.le_of_ble_eq_true rfl) dL_law_323 hc1 ?_
  refine lv_aload_n hx hb dL_law_326 rfl (lv_at hl 2 rfl) ?_
  refine ls_arg hx hb hX hbl hbA hS 1 (by omega) hL (lv_at hl 0 rfl) (lv_at hl 3 rfl) rfl dL_law_327 dL_law_328 dL_law_329 dL_law_330 dL_law_331 ?_
  refine ls_arg hx hb hX hbl hbA hS 2 (by omega) hL (lv_at hl 0 rfl) (lv_at hl 3 rfl) rfl dL_law_332 dL_law_333 dL_law_334 dL_law_335 dL_law_336 ?_
  refine lr_i (rest := [.int r]) ⟨hx, hb, hml, hown, hts⟩ hP hK (c_X8_sign l D cI cJ cZ cO (R 0) (R 1) (R 2) (R 3) (R 4) (R 5) (R 6) (R 7) (R 8) (R 9) (R 10) (R 11) (R 12) (R 13) (R 14) (R 15) (R 16) (R 17) (R 18) (R 19) (nI n) du lm (nI k) rf (xs (i + 1)) (xs (i + 2)) _ e2) (cwV 2 hts gL_law_X8_sign rfl rfl rfl zv_X8_sign ⟨Nat.le_of_ble_eq_true rfl, Nat.le_of_ble_eq_true rfl⟩) [15, 18] rfl 4 rfl rfl rfl hl.1 rfl (Nat.le_of_ble_eq_true rfl) dL_law_337 hc1 ?_
  refine lv_icmp_eq (tgt := 1397) hx hb dL_law_340 (by decide) (fun _ => ?_) (fun h => absurd rfl h)
  refine W.widen (k := cells + 4) (n := slots + 20) (by omega) (by omega) ?_
  exact kk _ _ ⟨P, R, n, k, tb, nf, np, nm, sl, cp, cw, sp, fd, ts, ch, bs, sn, du, lm, nr, tn, rf, rt, se, co, lk, ld, im, pl, pm, rn, fs, fm, ik, kf, kp, kd, km, pool, rfl, rfl, hn, hte, hpc, hfe, htb, hks, hP, hD⟩ hS
theorem lk_figure {p : Program} {l : Launch} {e : Env} {s : State} {m : MethodId} {below : List Frame} {meth : Method} {c : Code} {b L : Nat} {xs : Nat → Int32} {D : va_G} {cI cJ cZ cO : ClassId} {H : Heap} {locs : List Loc} {cells slots : Nat} {Q : State → Prop} {ls : Array Slot} {i q7 q8 : Nat} (C : LX p s m c b L xs D cI cJ cZ cO) (hi : i + 5 ≤ L) (hI : LI s D cI cJ cZ cO q7 q8 H) (hS : va_S (lA s) s.heap H locs) (hl : lv_has ls 4 [(0, .ref b), (1, .ref q7), (2, .ref q8), (3, .int (nI i))]) (hcl : cells + 4 ≤ 600000 ∧ slots + 20 ≤ 7302250) (kk : ∀ (H : Heap) (locs : List Loc), LI s D cI cJ cZ cO q7 q8 H → va_S (lA s) s.heap H locs → W p l e room_1 s m #[Value.ref b] below meth c H locs (cells + 4) (slots + 20) Q (F0 m 1397 ls [])) : W p l e room_1 s m #[Value.ref b] below meth c H locs cells slots Q (F0 m 345 ls []) := by
  obtain ⟨hx, hb, hml, hown, hts, hX, hbl, hK, hL⟩ := C
  have hbA : ¬ lA s b := Nat.not_le.mpr hbl
  have hA : ∀ q : Nat, s.heap.size ≤ q → lA s q := fun _ h => h
  obtain ⟨P, R, n, k, tb, nf, np, nm, sl, cp, cw, sp, fd, ts, ch, bs, sn, du, lm, nr, tn, rf, rt, se, co, lk, ld, im, pl, pm, rn, fs, fm, ik, kf, kp, kd, km, pool, rfl, rfl, hn, hte, hpc, hfe, htb, hks, hP, hD⟩ := hI
  have hc1 : cells ≤ room_1.cells ∧ slots ≤ room_1.slots := ⟨show cells ≤ 600000 by omega, show slots ≤ 7302250 by omega⟩
  obtain ⟨r, e1, e2⟩ := pr_figure hfe (xs (i + 1))
  refine lv_aload_n hx hb dL_law_345 rfl (lv_at hl 1 rfl) ?_
  refine ls_arg hx hb hX hbl hbA hS 1 (by omega) hL (lv_at hl 0 rfl) (lv_at hl 3 rfl) rfl dL_law_346 dL_law_347 dL_law_348 dL_law_349 dL_law_350 ?_
  refine lr_l (rest := []) ⟨hx, hb, hml, hown, hts⟩ hP hK (c_X7_figure l D cI cJ cZ cO (P 0) (P 1) (P 3) (P 7) (P 8) (P 14) (P 4) (P 5) (P 6) (nI k) nf (xs (i + 1)) _ e1) (cwV 1 hts gL_law_X7_figure rfl rfl rfl zv_X7_figure ⟨Nat.le_of_ble_eq_true rfl, Nat.le_of_ble_eq_true rfl⟩) [0, 3, 4] rfl 3 rfl rfl rfl hl.1 rfl (Nat.le_of_ble_eq_true rfl) dL_law_351 hc1 ?_
  refine lv_aload_n hx hb dL_law_354 rfl (lv_at hl 2 rfl) ?_
  refine ls_arg hx hb hX hbl hbA hS 1 (by omega) hL (lv_at hl 0 rfl) (lv_at hl 3 rfl) rfl dL_law_355 dL_law_356 dL_law_357 dL_law_358 dL_law_359 ?_
  refine lr_l (rest := [.long r]) ⟨hx, hb, hml, hown, hts⟩ hP hK (c_X8_figure l D cI cJ cZ cO (R 0) (R 1) (R 2) (R 3) (R 4) (R 5) (R 6) (R 7) (R 8) (R 9) (R 10) (R 11) (R 12) (R 13) (R 14) (R 15) (R 16) (R 17) (R 18) (R 19) (nI n) du lm (nI k) rf (xs (i + 1)) _ e2) (cwV 1 hts gL_law_X8_figure rfl rfl rfl zv_X8_figure ⟨Nat.le_of_ble_eq_true rfl, Nat.le_of_ble_eq_true rfl⟩) [15, 18] rfl 4 rfl rfl rfl hl.1 rfl (Nat.le_of_ble_eq_true rfl) dL_law_360 hc1 ?_
  refine hk_lcmp_eq (tgt := 1397) hx hb dL_law_363 dL_law_364 (by decide) (fun _ => ?_) (fun h => absurd rfl h)
  refine W.widen (k := cells + 4) (n := slots + 20) (by omega) (by omega) ?_
  exact kk _ _ ⟨P, R, n, k, tb, nf, np, nm, sl, cp, cw, sp, fd, ts, ch, bs, sn, du, lm, nr, tn, rf, rt, se, co, lk, ld, im, pl, pm, rn, fs, fm, ik, kf, kp, kd, km, pool, rfl, rfl, hn, hte, hpc, hfe, htb, hks, hP, hD⟩ hS
