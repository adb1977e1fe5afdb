/-! the law: rows for worlds with a pool, for its calls, for the script's ints -/
def ups (X : va_W) : List Nat → va_W → va_W
  | i :: is, q :: w => ups (X.set i q) is w
  | _, _ => X
theorem ups_len : ∀ (is : List Nat) (w X : va_W), (ups X is w).length = X.length := by
  intro is
  induction is with
  | nil => intro w X; cases w <;> rfl
  | cons i is ih =>
    intro w X
    cases w with
    | nil => rfl
    | cons q w => show (ups (X.set i q) is w).length = _; rw [ih, List.length_set]
theorem ups_at : ∀ (is : List Nat) (w X : va_W), is.length = w.length → ∀ (k : Nat) (q : Nat × va_E), (ups X is w)[k]? = some q → (∃ j : Nat, w[j]? = some q) ∨ (k ∉ is ∧ X[k]? = some q) := by
  intro is
  induction is with
  | nil =>
    intro w X hl k q h
    cases w with
    | nil => exact Or.inr ⟨List.not_mem_nil, h⟩
    | cons _ _ => cases hl
  | cons i is ih =>
    intro w X hl k q h
    cases w with
    | nil => cases hl
    | cons x w =>
      rcases ih w (X.set i x) (Nat.succ.inj hl) k q h with ⟨j, hj⟩ | ⟨h1, h2⟩
      · exact Or.inl ⟨j + 1, by rw [List.getElem?_cons_succ]; exact hj⟩
      · by_cases e : k = i
        · subst e
          by_cases hkl : k < X.length
          · rw [List.getElem?_set, if_pos rfl, if_pos hkl] at h2
            exact Or.inl ⟨0, h2⟩
          · rw [List.getElem?_set, if_pos rfl, if_neg hkl] at h2
            cases h2
        · rw [List.getElem?_set, if_neg (fun z => e z.symm)] at h2
          exact Or.inr ⟨fun z => (List.mem_cons.mp z).elim e h1, h2⟩
theorem la_at {X X' pl : va_W} (hadr : X'.map (fun q => q.1) = X.map (fun q => q.1)) {k : Nat} {q : Nat × va_E} (h : (X' ++ pl)[k]? = some q) : ∃ e, (X ++ pl)[k]? = some (q.1, e) := by
  have hlen : X'.length = X.length := by
    have := congrArg List.length hadr
    simpa using this
  by_cases hk : k < X'.length
  · rw [List.getElem?_append_left hk] at h
    have h1 : (X'.map (fun q => q.1))[k]? = some q.1 := by rw [List.getElem?_map, h]; rfl
    rw [hadr, List.getElem?_map] at h1
    cases hx : X[k]? with
    | none => rw [hx] at h1; cases h1
    | some y =>
      rw [hx] at h1
      have h2 : y.1 = q.1 := Option.some.inj h1
      refine ⟨y.2, ?_⟩
      rw [List.getElem?_append_left (by omega), hx, ← h2]
  · rw [List.getElem?_append_right (by omega)] at h
    exact ⟨q.2, by rw [List.getElem?_append_right (by omega), ← hlen]; exact h⟩
theorem la_D {A : Nat → Prop} {X X' pl : va_W} (hadr : X'.map (fun q => q.1) = X.map (fun q => q.1)) (hD : va_D A (X ++ pl)) : va_D A (X' ++ pl) := by
  refine ⟨fun i j x y hi hj hxy => ?_, fun k q hk => ?_⟩
  · obtain ⟨e1, h1⟩ := la_at hadr hi
    obtain ⟨e2, h2⟩ := la_at hadr hj
    exact hD.1 i j _ _ h1 h2 hxy
  · obtain ⟨e1, h1⟩ := la_at hadr hk
    exact hD.2 k (q.1, e1) h1
theorem la_in {X cx : va_W} {isC : List Nat} (hC : isC.map (fun i => X[i]?) = cx.map some) {k : Nat} (hm : k ∈ isC) : k < X.length := by
  obtain ⟨j, hj⟩ := List.getElem?_of_mem hm
  have h1 : (isC.map (fun i => X[i]?))[j]? = some (X[k]?) := by rw [List.getElem?_map, hj]; rfl
  rw [hC, List.getElem?_map] at h1
  cases hc : cx[j]? with
  | none => rw [hc] at h1; cases h1
  | some y =>
    rw [hc] at h1
    have h2 : some y = X[k]? := Option.some.inj h1
    exact (List.getElem?_eq_some_iff.mp h2.symm).1
theorem la_C {X cx : va_W} (pl : va_W) {isC : List Nat} (hC : isC.map (fun i => X[i]?) = cx.map some) : isC.map (fun i => (X ++ pl)[i]?) = cx.map some := by
  rw [← hC]
  exact List.map_congr_left (fun i hi => List.getElem?_append_left (la_in hC hi))
theorem la_sub {D : va_G} {cl : List vw_C} {X cx pl : va_W} {H : Heap} (hP : va_P D cl (X ++ pl) H) {isC : List Nat} (hC : isC.map (fun i => X[i]?) = cx.map some) : va_P D cl cx H := by
  intro k q h
  obtain ⟨i, -, h2⟩ := va_in_of isC hC h
  exact hP i q (by rw [List.getElem?_append_left (List.getElem?_eq_some_iff.mp h2).1]; exact h2)
theorem la_P {D : va_G} {cl : List vw_C} {A : Nat → Prop} {X X' cx w1 pl : va_W} {H H1 : Heap} (hP : va_P D cl (X ++ pl) H) (hD : va_D A (X ++ pl)) (isC : List Nat) (hC : isC.map (fun i => X[i]?) = cx.map some) (hX : X' = ups X isC w1) (hlen : isC.length = w1.length) (hk : ∀ q : Nat, q < H.size → ¬ va_A cx H.size q → H1[q]? = H[q]?) (hP1 : va_P D cl w1 H1) : va_P D cl (X' ++ pl) H1 := by
  subst hX
  have out : ∀ (k : Nat) (q : Nat × va_E), (X ++ pl)[k]? = some q → k ∉ isC → va_at D cl q H1 := by
    intro k q h hn
    have hl := (hP k q h).lt
    refine (hP k q h).kept (hk q.1 hl (fun z => ?_))
    rcases z with ⟨k2, e, z⟩ | z
    · obtain ⟨i, h3, h4⟩ := va_in_of isC hC z
      have h4' : (X ++ pl)[i]? = some (q.1, e) := by rw [List.getElem?_append_left (List.getElem?_eq_some_iff.mp h4).1]; exact h4
      have hki := hD.1 k i q (q.1, e) h h4' rfl
      subst hki
      exact hn (List.mem_of_getElem? h3)
    · omega
  intro k q h
  by_cases hkl : k < X.length
  · rw [List.getElem?_append_left (by rw [ups_len]; exact hkl)] at h
    rcases ups_at isC w1 X hlen k q h with ⟨j, hj⟩ | ⟨h1, h2⟩
    · exact hP1 j q hj
    · exact out k q (by rw [List.getElem?_append_left hkl]; exact h2) h1
  · rw [List.getElem?_append_right (by rw [ups_len]; omega), ups_len] at h
    exact out k q (by rw [List.getElem?_append_right (by omega)]; exact h) (fun hm => hkl (la_in hC hm))
section LCR
variable {p : Program} {l : Launch} {e : Env} {R : Room} {s : State} {m : MethodId} {args : Array Value} {below : List Frame} {meth : Method} {c : Code} {H : Heap} {locs : List Loc} {cells slots : Nat} {Q : State → Prop}
variable {pc : Nat} {ls : Array Slot} {rest st : List Value} {A : Nat → Prop} {H0 : Heap} {D : va_G} {cI cJ cZ cO : ClassId}
variable {y : MethodName} {bytes cc : ByteArray} {maxL nL n index : Nat} {ret : Option FieldType} {ws : List Cond} {rm : Room} {Ts : List Cond} {own C : String} {b : Addr} {As : List Value} {X cx w1 pl : va_W}
/-- a call that writes; an int comes back -/
theorem lc_i {rv : Int32} (X' : va_W) (S : CallFix p m c cc nL s args Ts own) (hS : va_S A H0 H locs) (hA : ∀ q, H0.size ≤ q → A q) (hP : va_P D vwCl (X ++ pl) H) (hD : va_D A (X ++ pl)) (hK : hkK D cI cJ cZ cO s)
    (hM : Met l y ws rm (va_Pc (.ref b :: As) (hkM D cI cJ cZ cO cx H.size)) (va_Qi (fun r (_ : Unit) => r = rv) (fun _ t => va_P D vwCl w1 t.heap ∧ va_D (va_A cx H.size) w1) (va_A cx H.size)) 0 0 (va_A cx H.size))
    (cw : CallW R s args own C index y bytes maxL ret ws rm 0 0 n) (isC : List Nat) (hC : isC.map (fun i => X[i]?) = cx.map some) (hnd : va_nd isC = true) (hX : X' = ups X isC w1) (hlen : isC.length = w1.length) (hadr : X'.map (fun q => q.1) = X.map (fun q => q.1))
    (ci : Nat) {r : u_T} {N : Nat} {fs : List Value} (hr : vwCl[ci]? = some (C, r, N)) (he : cx[0]? = some (b, .inr (ci, fs))) (hn : As.length = n) (hz : ls.size = nL) (hst : st = As.reverse ++ .ref b :: rest) (hroom : (rest.map fun v => v.category).sum ≤ 8) (hdg : decode cc pc = .ok (.invokevirtual index, 3)) (hcl : cells ≤ R.cells ∧ slots ≤ R.slots)
    (kk : ∀ (H1 : Heap) (locs1 : List Loc), va_P D vwCl (X' ++ pl) H1 → va_D A (X' ++ pl) → va_S A H0 H1 locs1 → W p l e R s m args below meth c H1 locs1 cells slots Q (F0 m (pc + 3) ls (.int rv :: rest))) : W p l e R s m args below meth c H locs cells slots Q (F0 m pc ls st) := by
  have hFc := va_free (wc := cx) hD hS hA isC (la_C pl hC)
  refine va_calli (va_runV (As := As) (rest := rest) S hM cw (hk_preMV ci hr (la_sub hP hC) (hD.sub isC hnd (la_C pl hC)) hK he) rfl hn hz hst (lv_room hroom) hdg hcl) hS (fun q _ h9 => hFc q h9) hFc (fun r1 u1 t1 H1 locs1 ht hvm hw hB hz1 hk1 hS1 => ?_)
  obtain ⟨hP1, -⟩ := hB
  rw [ht] at hP1
  rw [hw]
  exact kk H1 locs1 (la_P hP hD isC hC hX hlen hk1 hP1) (la_D hadr hD) hS1
/-- a call that writes; a long comes back -/
theorem lc_l {rv : Int64} (X' : va_W) (S : CallFix p m c cc nL s args Ts own) (hS : va_S A H0 H locs) (hA : ∀ q, H0.size ≤ q → A q) (hP : va_P D vwCl (X ++ pl) H) (hD : va_D A (X ++ pl)) (hK : hkK D cI cJ cZ cO s)
    (hM : Met l y ws rm (va_Pc (.ref b :: As) (hkM D cI cJ cZ cO cx H.size)) (va_Ql (fun r (_ : Unit) => r = rv) (fun _ t => va_P D vwCl w1 t.heap ∧ va_D (va_A cx H.size) w1) (va_A cx H.size)) 0 0 (va_A cx H.size))
    (cw : CallW R s args own C index y bytes maxL ret ws rm 0 0 n) (isC : List Nat) (hC : isC.map (fun i => X[i]?) = cx.map some) (hnd : va_nd isC = true) (hX : X' = ups X isC w1) (hlen : isC.length = w1.length) (hadr : X'.map (fun q => q.1) = X.map (fun q => q.1))
    (ci : Nat) {r : u_T} {N : Nat} {fs : List Value} (hr : vwCl[ci]? = some (C, r, N)) (he : cx[0]? = some (b, .inr (ci, fs))) (hn : As.length = n) (hz : ls.size = nL) (hst : st = As.reverse ++ .ref b :: rest) (hroom : (rest.map fun v => v.category).sum ≤ 8) (hdg : decode cc pc = .ok (.invokevirtual index, 3)) (hcl : cells ≤ R.cells ∧ slots ≤ R.slots)
    (kk : ∀ (H1 : Heap) (locs1 : List Loc), va_P D vwCl (X' ++ pl) H1 → va_D A (X' ++ pl) → va_S A H0 H1 locs1 → W p l e R s m args below meth c H1 locs1 cells slots Q (F0 m (pc + 3) ls (.long rv :: rest))) : W p l e R s m args below meth c H locs cells slots Q (F0 m pc ls st) := by
  have hFc := va_free (wc := cx) hD hS hA isC (la_C pl hC)
  refine va_calll (va_runV (As := As) (rest := rest) S hM cw (hk_preMV ci hr (la_sub hP hC) (hD.sub isC hnd (la_C pl hC)) hK he) rfl hn hz hst (lv_room hroom) hdg hcl) hS (fun q _ h9 => hFc q h9) hFc (fun r1 u1 t1 H1 locs1 ht hvm hw hB hz1 hk1 hS1 => ?_)
  obtain ⟨hP1, -⟩ := hB
  rw [ht] at hP1
  rw [hw]
  exact kk H1 locs1 (la_P hP hD isC hC hX hlen hk1 hP1) (la_D hadr hD) hS1
/-- a call that only reads; an int comes back -/
theorem lr_i {rv : Int32} (S : CallFix p m c cc nL s args Ts own) (hP : va_P D vwCl (X ++ pl) H) (hK : hkK D cI cJ cZ cO s)
    (hM : Met l y ws rm (va_Pc (.ref b :: As) (hkR D cI cJ cZ cO cx)) (vp_Si (fun r => r = rv)) 0 0 (fun _ => False))
    (cw : CallW R s args own C index y bytes maxL ret ws rm 0 0 n) (isC : List Nat) (hC : isC.map (fun i => X[i]?) = cx.map some)
    (ci : Nat) {r : u_T} {N : Nat} {fs : List Value} (hr : vwCl[ci]? = some (C, r, N)) (he : cx[0]? = some (b, .inr (ci, fs))) (hn : As.length = n) (hz : ls.size = nL) (hst : st = As.reverse ++ .ref b :: rest) (hroom : (rest.map fun v => v.category).sum ≤ 8) (hdg : decode cc pc = .ok (.invokevirtual index, 3)) (hcl : cells ≤ R.cells ∧ slots ≤ R.slots)
    (kk : W p l e R s m args below meth c H locs cells slots Q (F0 m (pc + 3) ls (.int rv :: rest))) : W p l e R s m args below meth c H locs cells slots Q (F0 m pc ls st) := by
  refine vp_callSi (W.runV (As := As) (rest := rest) S hM cw (hk_preRV ci hr (la_sub hP hC) hK he) rfl hn hz hst (lv_room hroom) hdg hcl) (fun r1 hw => ?_)
  rw [hw]
  exact kk
/-- a call that only reads; a long comes back -/
theorem lr_l {rv : Int64} (S : CallFix p m c cc nL s args Ts own) (hP : va_P D vwCl (X ++ pl) H) (hK : hkK D cI cJ cZ cO s)
    (hM : Met l y ws rm (va_Pc (.ref b :: As) (hkR D cI cJ cZ cO cx)) (vp_Sl (fun r => r = rv)) 0 0 (fun _ => False))
    (cw : CallW R s args own C index y bytes maxL ret ws rm 0 0 n) (isC : List Nat) (hC : isC.map (fun i => X[i]?) = cx.map some)
    (ci : Nat) {r : u_T} {N : Nat} {fs : List Value} (hr : vwCl[ci]? = some (C, r, N)) (he : cx[0]? = some (b, .inr (ci, fs))) (hn : As.length = n) (hz : ls.size = nL) (hst : st = As.reverse ++ .ref b :: rest) (hroom : (rest.map fun v => v.category).sum ≤ 8) (hdg : decode cc pc = .ok (.invokevirtual index, 3)) (hcl : cells ≤ R.cells ∧ slots ≤ R.slots)
    (kk : W p l e R s m args below meth c H locs cells slots Q (F0 m (pc + 3) ls (.long rv :: rest))) : W p l e R s m args below meth c H locs cells slots Q (F0 m pc ls st) := by
  refine vp_callSl (W.runV (As := As) (rest := rest) S hM cw (hk_preRV ci hr (la_sub hP hC) hK he) rfl hn hz hst (lv_room hroom) hdg hcl) (fun r1 hw => ?_)
  rw [hw]
  exact kk
/-- an int of the script: aload_0, iload_3, iconst, iadd, iaload -/
theorem ls_arg (hx : p.tables.exec = Jvm.exec) (hb : c.code = cc) {a L : Nat} {xs : Nat → Int32} (hX : va_X a L xs s H0) (hbl : a < H0.size) (hbA : ¬ A a) (hS : va_S A H0 H locs) {i : Nat} (j : Nat) (hij : i + j < L) (hL : L ≤ 2560) (hl0 : ls[0]? = some (.val (.ref a))) (hl3 : ls[3]? = some (.val (.int (nI i)))) {k : Int} (hv : Int32.ofInt k = nI j)
    (d0 : decode cc pc = .ok (.aload_n 0, 1)) (d1 : decode cc (pc + 1) = .ok (.iload_n 3, 1)) (d2 : decode cc (pc + 2) = .ok (.iconst k, 1)) (d3 : decode cc (pc + 3) = .ok (.iadd, 1)) (d4 : decode cc (pc + 4) = .ok (.iaload, 1))
    (kk : W p l e R s m args below meth c H locs cells slots Q (F0 m (pc + 5) ls (.int (xs (i + j)) :: rest))) : W p l e R s m args below meth c H locs cells slots Q (F0 m pc ls rest) := by
  refine lv_aload_n hx hb d0 rfl hl0 ?_
  refine lv_iload_n hx hb d1 rfl hl3 ?_
  refine lv_iconst (v := nI j) hx hb d2 hv ?_
  refine lv_iadd hx hb d3 ?_
  rw [nI_add]
  refine va_sld hx hb hX hbl hbA hS (vp_in_nI hij (by omega)) d4 ?_
  rw [cl_nI (by omega)]
  exact kk
def bb (x : Int32) : Int32 := if x = 0 then 0 else 1
/-- a number as a boolean: ifeq, iconst_1, goto, iconst_0 -/
theorem ls_bool (hx : p.tables.exec = Jvm.exec) (hb : c.code = cc) {x : Int32} (d0 : decode cc pc = .ok (.ifCond .eq 7, 3)) (d1 : decode cc (pc + 3) = .ok (.iconst 1, 1)) (d2 : decode cc (pc + 4) = .ok (.goto 4, 3)) (d3 : decode cc (pc + 7) = .ok (.iconst 0, 1))
    (kk : W p l e R s m args below meth c H locs cells slots Q (F0 m (pc + 8) ls (.int (bb x) :: rest))) : W p l e R s m args below meth c H locs cells slots Q (F0 m pc ls (.int x :: rest)) := by
  unfold bb at kk
  refine lv_if_eq (tgt := pc + 7) hx hb d0 (by omega) (fun h => ?_) (fun h => ?_)
  · rw [if_pos h] at kk
    exact lv_iconst (v := 0) hx hb d3 (by decide) kk
  · rw [if_neg h] at kk
    refine lv_iconst (v := 1) hx hb d1 (by decide) ?_
    exact lv_goto (tgt := pc + 8) hx hb d2 (by omega) kk
end LCR
