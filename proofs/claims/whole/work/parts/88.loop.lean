def R_law : String := "HalfAndHalfAgainLaw"
def lw_P (b : Addr) (xs : List Int32) (args : Array Value) (s : State) : Prop := args = #[.ref b] ∧ s.IntsAt b xs ∧ xs.length ≤ 2560 ∧ (Jvm.Cond.and given_1 narrow_1).before args s = true
def lw_Q (_ : Array Value) (s : State) (o : Outcome) (t : State) : Prop := o = .returned (some (.int 1)) ∧ Framed s o t [] 600000 7302250
def lw_Z (below : List Frame) (a : Array Value) (s : State) : State → Prop := fun t => ∃ o, t.status = .running ∧ Ended t below o ∧ lw_Q a s o t
/-- the law's own end, with 1 on the stack, nothing written that was there before, its room as the claim has it -/
theorem lw_ret {p : Program} {l : Launch} {e : Env} {s : State} {m : MethodId} {below : List Frame} {meth : Method} {c : Code} {b : Nat} (hx : p.tables.exec = Jvm.exec) (hb : c.code = code) (hr : meth.sig.returnType = ret) (hlocks : meth.locks = false) {pc : Nat} {H : Heap} {ls : Array Slot} (hdg : decode code pc = .ok (.ireturn, 1)) : W p l e room_1 s m #[Value.ref b] below meth c H [] 600000 7302250 (lw_Z below #[Value.ref b] s) (F0 m pc ls [.int 1]) := by
  intro T hT X
  obtain ⟨fs, hret, hrun, hended, hW, hframe⟩ := X.leave (v := some (.int 1)) (hlocks := hlocks) (fun h => by rw [hr] at h; cases h)
  have hmeth' : T.vm.method? m = some meth := X.method'
  refine ⟨T.setFrames fs, ?_, .returned (some (.int 1)), hrun, hended, rfl, ⟨_, rfl⟩, hW, hframe⟩
  jvm_step X.here [X.here.top, hx, hb, hdg, hmeth', hr, ret, narrow_b1]
  (try refine ⟨rfl, ?_⟩); (try refine ⟨rfl, ?_⟩)
  first | (intro acts; rw [hret _ acts rfl rfl rfl]) | rw [hret _ _ rfl rfl rfl]
  exact Steps.refl _
/-- what holds at the law's entry: the machine, the code, the tables' words (any of lw_tbl by 'hts w (by decide +kernel)'), the script of L ints xs at the cell b, what the Statement gives of the start (any of its parts by flat_of_before) -/
def lw_At (p : Program) (s : State) (m : MethodId) (meth : Method) (c : Code) (b L : Nat) (xs : Nat → Int32) : Prop :=
  p.tables.exec = Jvm.exec ∧ c.code = code ∧ meth.sig.returnType = ret ∧ c.maxLocals = 4 ∧ s.vm.findClass R_law = some m.cls ∧ (∀ w ∈ lw_tbl, w.before #[Value.ref b] s = true) ∧ va_X b L xs s s.heap ∧ b < s.heap.size ∧ meth.locks = false ∧ (Jvm.Cond.and given_1 narrow_1).before #[Value.ref b] s = true
/-! the law's loop -/
theorem le5 {i L : Nat} (hi : i ≤ 2560) (hL : L ≤ 2560) (h : ¬ nI L - 5 < nI i) : i + 5 ≤ L := by
  rcases Nat.lt_or_ge L 5 with q | q
  · exfalso
    refine h ?_
    have h0 : nI L - 5 < 0 := by
      rcases (show L = 0 ∨ L = 1 ∨ L = 2 ∨ L = 3 ∨ L = 4 by omega) with rfl | rfl | rfl | rfl | rfl <;> decide
    have h1 : ¬ nI i < 0 := nI_pos (by omega)
    exact Int32.lt_of_lt_of_le h0 (Int32.not_lt.mp h1)
  · rw [show (5 : Int32) = nI 5 from rfl, pk_sub q, nI_ltI (by omega) (by omega)] at h
    omega
theorem sw_in {x : Int32} (h1 : ¬ x.toInt < 0) (h2 : ¬ 37 < x.toInt) : ∃ j : Nat, j < 38 ∧ x.toInt = (j : Int) := ⟨x.toInt.toNat, by omega, by omega⟩
set_option maxRecDepth 20000 in
/-- one call of the script -/
theorem law_switch {p : Program} {l : Launch} {e : Env} {s : State} {m : MethodId} {below : List Frame} {meth : Method} {c : Code} {b L : Nat} {xs : Nat → Int32} {D : va_G} {cI cJ cZ cO : ClassId} {H : Heap} {locs : List Loc} {cells slots : Nat} {Q : State → Prop} {ls : Array Slot} {i q7 q8 : Nat} (C : LX p s m c b L xs D cI cJ cZ cO) (hi : i + 5 ≤ L) (hI : LI s D cI cJ cZ cO q7 q8 H) (hS : va_S (lA s) s.heap H locs) (hl : lv_has ls 4 [(0, .ref b), (1, .ref q7), (2, .ref q8), (3, .int (nI i))]) (hcl : cells + 4 ≤ 600000 ∧ slots + 20 ≤ 7302250) (kk : ∀ (H : Heap) (locs : List Loc), LI s D cI cJ cZ cO q7 q8 H → va_S (lA s) s.heap H locs → W p l e room_1 s m #[Value.ref b] below meth c H locs (cells + 4) (slots + 20) Q (F0 m 1397 ls [])) {x : Int32} : W p l e room_1 s m #[Value.ref b] below meth c H locs cells slots Q (F0 m 32 ls [.int x]) := by
  have hx := C.1
  have hb := C.2.1
  by_cases h1 : x.toInt < 0
  · refine lv_tableOut (tgt := 1397) hx hb dL_law_32 (Or.inl h1) (by decide) ?_
    exact W.widen (k := cells + 4) (n := slots + 20) (by omega) (by omega) (kk _ _ hI hS)
  by_cases h2 : 37 < x.toInt
  · refine lv_tableOut (tgt := 1397) hx hb dL_law_32 (Or.inr h2) (by decide) ?_
    exact W.widen (k := cells + 4) (n := slots + 20) (by omega) (by omega) (kk _ _ hI hS)
  obtain ⟨j, hj, hxj⟩ := sw_in h1 h2
  match j, hj, hxj with
  | 0, _, hxj => exact lv_tableIn (off := 168) (tgt := 200) hx hb dL_law_32 h1 h2 (by rw [hxj]; rfl) (by decide) (lk_write C hi hI hS hl hcl kk)
  | 1, _, hxj => exact lv_tableIn (off := 231) (tgt := 263) hx hb dL_law_32 h1 h2 (by rw [hxj]; rfl) (by decide) (lk_wipe C hi hI hS hl hcl kk)
  | 2, _, hxj => exact lv_tableIn (off := 244) (tgt := 276) hx hb dL_law_32 h1 h2 (by rw [hxj]; rfl) (by decide) (lk_fault C hi hI hS hl hcl kk)
  | 3, _, hxj => exact lv_tableIn (off := 257) (tgt := 289) hx hb dL_law_32 h1 h2 (by rw [hxj]; rfl) (by decide) (lk_word C hi hI hS hl hcl kk)
  | 4, _, hxj => exact lv_tableIn (off := 280) (tgt := 312) hx hb dL_law_32 h1 h2 (by rw [hxj]; rfl) (by decide) (lk_sign C hi hI hS hl hcl kk)
  | 5, _, hxj => exact lv_tableIn (off := 313) (tgt := 345) hx hb dL_law_32 h1 h2 (by rw [hxj]; rfl) (by decide) (lk_figure C hi hI hS hl hcl kk)
  | 6, _, hxj => exact lv_tableIn (off := 337) (tgt := 369) hx hb dL_law_32 h1 h2 (by rw [hxj]; rfl) (by decide) (lk_set C hi hI hS hl hcl kk)
  | 7, _, hxj => exact lv_tableIn (off := 396) (tgt := 428) hx hb dL_law_32 h1 h2 (by rw [hxj]; rfl) (by decide) (lk_size C hi hI hS hl hcl kk)
  | 8, _, hxj => exact lv_tableIn (off := 419) (tgt := 451) hx hb dL_law_32 h1 h2 (by rw [hxj]; rfl) (by decide) (lk_parts C hi hI hS hl hcl kk)
  | 9, _, hxj => exact lv_tableIn (off := 442) (tgt := 474) hx hb dL_law_32 h1 h2 (by rw [hxj]; rfl) (by decide) (lk_holes C hi hI hS hl hcl kk)
  | 10, _, hxj => exact lv_tableIn (off := 465) (tgt := 497) hx hb dL_law_32 h1 h2 (by rw [hxj]; rfl) (by decide) (lk_edges C hi hI hS hl hcl kk)
  | 11, _, hxj => exact lv_tableIn (off := 514) (tgt := 546) hx hb dL_law_32 h1 h2 (by rw [hxj]; rfl) (by decide) (lk_corners C hi hI hS hl hcl kk)
  | 12, _, hxj => exact lv_tableIn (off := 547) (tgt := 579) hx hb dL_law_32 h1 h2 (by rw [hxj]; rfl) (by decide) (lk_convex C hi hI hS hl hcl kk)
  | 13, _, hxj => exact lv_tableIn (off := 570) (tgt := 602) hx hb dL_law_32 h1 h2 (by rw [hxj]; rfl) (by decide) (lk_turn C hi hI hS hl hcl kk)
  | 14, _, hxj => exact lv_tableIn (off := 603) (tgt := 635) hx hb dL_law_32 h1 h2 (by rw [hxj]; rfl) (by decide) (lk_shift C hi hI hS hl hcl kk)
  | 15, _, hxj => exact lv_tableIn (off := 646) (tgt := 678) hx hb dL_law_32 h1 h2 (by rw [hxj]; rfl) (by decide) (lk_form C hi hI hS hl hcl kk)
  | 16, _, hxj => exact lv_tableIn (off := 670) (tgt := 702) hx hb dL_law_32 h1 h2 (by rw [hxj]; rfl) (by decide) (lk_like C hi hI hS hl hcl kk)
  | 17, _, hxj => exact lv_tableIn (off := 703) (tgt := 735) hx hb dL_law_32 h1 h2 (by rw [hxj]; rfl) (by decide) (lk_itself C hi hI hS hl hcl kk)
  | 18, _, hxj => exact lv_tableIn (off := 726) (tgt := 758) hx hb dL_law_32 h1 h2 (by rw [hxj]; rfl) (by decide) (lk_both C hi hI hS hl hcl kk)
  | 19, _, hxj => exact lv_tableIn (off := 779) (tgt := 811) hx hb dL_law_32 h1 h2 (by rw [hxj]; rfl) (by decide) (lk_ahead C hi hI hS hl hcl kk)
  | 20, _, hxj => exact lv_tableIn (off := 822) (tgt := 854) hx hb dL_law_32 h1 h2 (by rw [hxj]; rfl) (by decide) (lk_cut C hi hI hS hl hcl kk)
  | 21, _, hxj => exact lv_tableIn (off := 865) (tgt := 897) hx hb dL_law_32 h1 h2 (by rw [hxj]; rfl) (by decide) (lk_halves C hi hI hS hl hcl kk)
  | 22, _, hxj => exact lv_tableIn (off := 888) (tgt := 920) hx hb dL_law_32 h1 h2 (by rw [hxj]; rfl) (by decide) (lk_split C hi hI hS hl hcl kk)
  | 23, _, hxj => exact lv_tableIn (off := 941) (tgt := 973) hx hb dL_law_32 h1 h2 (by rw [hxj]; rfl) (by decide) (lk_part C hi hI hS hl hcl kk)
  | 24, _, hxj => exact lv_tableIn (off := 984) (tgt := 1016) hx hb dL_law_32 h1 h2 (by rw [hxj]; rfl) (by decide) (lk_lay C hi hI hS hl hcl kk)
  | 25, _, hxj => exact lv_tableIn (off := 1033) (tgt := 1065) hx hb dL_law_32 h1 h2 (by rw [hxj]; rfl) (by decide) (lk_lift C hi hI hS hl hcl kk)
  | 26, _, hxj => exact lv_tableIn (off := 1046) (tgt := 1078) hx hb dL_law_32 h1 h2 (by rw [hxj]; rfl) (by decide) (lk_piece C hi hI hS hl hcl kk)
  | 27, _, hxj => exact lv_tableIn (off := 1070) (tgt := 1102) hx hb dL_law_32 h1 h2 (by rw [hxj]; rfl) (by decide) (lk_places C hi hI hS hl hcl kk)
  | 28, _, hxj => exact lv_tableIn (off := 1103) (tgt := 1135) hx hb dL_law_32 h1 h2 (by rw [hxj]; rfl) (by decide) (lk_place C hi hI hS hl hcl kk)
  | 29, _, hxj => exact lv_tableIn (off := 1137) (tgt := 1169) hx hb dL_law_32 h1 h2 (by rw [hxj]; rfl) (by decide) (lk_ways C hi hI hS hl hcl kk)
  | 30, _, hxj => exact lv_tableIn (off := 1160) (tgt := 1192) hx hb dL_law_32 h1 h2 (by rw [hxj]; rfl) (by decide) (lk_first C hi hI hS hl hcl kk)
  | 31, _, hxj => exact lv_tableIn (off := 1194) (tgt := 1226) hx hb dL_law_32 h1 h2 (by rw [hxj]; rfl) (by decide) (lk_idle C hi hI hS hl hcl kk)
  | 32, _, hxj => exact lv_tableIn (off := 1217) (tgt := 1249) hx hb dL_law_32 h1 h2 (by rw [hxj]; rfl) (by decide) (lk_grown C hi hI hS hl hcl kk)
  | 33, _, hxj => exact lv_tableIn (off := 1240) (tgt := 1272) hx hb dL_law_32 h1 h2 (by rw [hxj]; rfl) (by decide) (lk_forms C hi hI hS hl hcl kk)
  | 34, _, hxj => exact lv_tableIn (off := 1263) (tgt := 1295) hx hb dL_law_32 h1 h2 (by rw [hxj]; rfl) (by decide) (lk_grow C hi hI hS hl hcl kk)
  | 35, _, hxj => exact lv_tableIn (off := 1296) (tgt := 1328) hx hb dL_law_32 h1 h2 (by rw [hxj]; rfl) (by decide) (lk_keep C hi hI hS hl hcl kk)
  | 36, _, hxj => exact lv_tableIn (off := 1319) (tgt := 1351) hx hb dL_law_32 h1 h2 (by rw [hxj]; rfl) (by decide) (lk_again C hi hI hS hl hcl kk)
  | 37, _, hxj => exact lv_tableIn (off := 1342) (tgt := 1374) hx hb dL_law_32 h1 h2 (by rw [hxj]; rfl) (by decide) (lk_count C hi hI hS hl hcl kk)
  | k + 38, hj, _ => exact absurd hj (by omega)
theorem law_loop {p : Program} {l : Launch} {e : Env} {s : State} {m : MethodId} {below : List Frame} {meth : Method} {c : Code} {b L : Nat} {xs : Nat → Int32} {D : va_G} {cI cJ cZ cO : ClassId} {q7 q8 : Nat} (C : LX p s m c b L xs D cI cJ cZ cO) (hr : meth.sig.returnType = ret) (hlocks : meth.locks = false) : ∀ (n i cells slots : Nat), i ≤ L → L + 1 ≤ i + n → cells + 4 * n ≤ 600000 → slots + 20 * n ≤ 7302250 → ∀ (H : Heap) (locs : List Loc) (ls : Array Slot), LI s D cI cJ cZ cO q7 q8 H → va_S (lA s) s.heap H locs → lv_has ls 4 [(0, .ref b), (1, .ref q7), (2, .ref q8), (3, .int (nI i))] → W p l e room_1 s m #[Value.ref b] below meth c H locs cells slots (lw_Z below #[Value.ref b] s) (F0 m 18 ls []) := by
  obtain ⟨hx, hb, hml, hown, hts, hX, hbl, hK, hL⟩ := id C
  have hbA : ¬ lA s b := Nat.not_le.mpr hbl
  intro n
  induction n with
  | zero =>
    intro i cells slots h1 h2
    exact absurd h2 (by omega)
  | succ n ih =>
    intro i cells slots hi hin hc1 hc2 H locs ls hI hS hl
    refine lv_iload_n hx hb dL_law_18 rfl (lv_at hl 3 rfl) ?_
    refine lv_aload_n hx hb dL_law_19 rfl (lv_at hl 0 rfl) ?_
    refine va_slen hx hb hX hbl hbA hS dL_law_20 ?_
    refine lv_iconst (v := 5) hx hb dL_law_21 (by decide) ?_
    refine lv_isub hx hb dL_law_22 ?_
    refine lv_icmp_gt (tgt := 1403) hx hb dL_law_23 (by decide) (fun h5 => ?_) (fun h5 => ?_)
    · refine lv_iconst (v := 1) hx hb dL_law_1403 (by decide) ?_
      refine va_forget (fun q hq => hS.2.2 q hq) ?_
      refine W.widen (k := 600000) (n := 7302250) (by omega) (by omega) ?_
      exact lw_ret hx hb hr hlocks dL_law_1404
    · have hi5 : i + 5 ≤ L := le5 (by omega) hL h5
      refine lv_aload_n hx hb dL_law_26 rfl (lv_at hl 0 rfl) ?_
      refine lv_iload_n hx hb dL_law_27 rfl (lv_at hl 3 rfl) ?_
      refine va_sld hx hb hX hbl hbA hS (vp_in_nI (show i < L by omega) (by omega)) dL_law_28 ?_
      refine lv_bipush (v := 63) hx hb dL_law_29 rfl ?_
      refine lv_iand hx hb dL_law_31 ?_
      refine law_switch C hi5 hI hS hl ⟨by omega, by omega⟩ (fun H locs hI hS => ?_)
      refine lv_iinc (v := nI (i + 5)) (lv' := [(3, .int (nI (i + 5))), (0, .ref b), (1, .ref q7), (2, .ref q8)]) hx hb dL_law_1397 hl (k := 3) rfl (nI_add i 5) (by decide) rfl (fun ls hl => ?_)
      refine lv_goto (tgt := 18) hx hb dL_law_1400 (by decide) ?_
      exact ih (i + 5) (cells + 4) (slots + 20) hi5 (by omega) (by omega) (by omega) H locs ls hI hS (lv_sub hl [1, 2, 3, 0] rfl)
