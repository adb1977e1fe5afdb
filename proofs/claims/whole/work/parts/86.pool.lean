/-! keep and again: the pool of kept stores -/
theorem cpy_z {α : Type} {f g : Nat → α} {n i : Nat} (h : i < n) : va_cpy f g 0 0 n i = f i := by
  unfold va_cpy
  rw [if_pos ⟨by omega, by omega⟩, show 0 + (i - 0) = i by omega]
theorem cpy_d {α : Type} {f g : Nat → α} {dp n i : Nat} (h : i < n) : va_cpy f g 0 dp n (dp + i) = f i := by
  unfold va_cpy
  rw [if_pos ⟨by omega, by omega⟩, show 0 + (dp + i - dp) = i by omega]
theorem cpy_s {α : Type} {f g : Nat → α} {sp n i : Nat} (h : i < n) : va_cpy f g sp 0 n i = f (sp + i) := by
  unfold va_cpy
  rw [if_pos ⟨by omega, by omega⟩, show sp + (i - 0) = sp + i by omega]
theorem cpy_o {α : Type} {f g : Nat → α} {sp dp n k : Nat} (h : ¬ (dp ≤ k ∧ k < dp + n)) : va_cpy f g sp dp n k = g k := if_neg h
theorem ks_open {cJ cZ : ClassId} {sl : Nat → Option Nat} {ik : Nat → Int32} {kf : Nat → Int64} {kp : Nat → Int32} {kd : Nat → Int64} {km : Nat → Int32} {D : va_G} {cl : List vw_C} {A : Nat → Prop} {H : Heap} {X pool : va_W} {t : Nat} (ht : t < 2) (h : ks cJ cZ sl ik kf kp kd km pool) (hP : va_P D cl (X ++ pool) H) (hD : va_D A (X ++ pool)) : ∃ K T : va_W, k1 cJ cZ sl ik kf kp kd km t K ∧ k1 cJ cZ sl ik kf kp kd km (1 - t) T ∧ va_P D cl ((X ++ K) ++ T) H ∧ va_D A ((X ++ K) ++ T) := by
  obtain ⟨K0, K1, rfl, h0, h1⟩ := h
  rw [← List.append_assoc] at hP hD
  rcases (show t = 0 ∨ t = 1 by omega) with rfl | rfl
  · exact ⟨K0, K1, h0, h1, hP, hD⟩
  · exact ⟨K1, K0, h1, h0, hP.swap, hD.swap⟩
theorem ks_close {cJ cZ : ClassId} {sl : Nat → Option Nat} {ik : Nat → Int32} {kf : Nat → Int64} {kp : Nat → Int32} {kd : Nat → Int64} {km : Nat → Int32} {D : va_G} {cl : List vw_C} {A : Nat → Prop} {H : Heap} {X K T : va_W} {t : Nat} (ht : t < 2) (h0 : k1 cJ cZ sl ik kf kp kd km t K) (h1 : k1 cJ cZ sl ik kf kp kd km (1 - t) T) (hP : va_P D cl ((X ++ K) ++ T) H) (hD : va_D A ((X ++ K) ++ T)) : ∃ pool : va_W, ks cJ cZ sl ik kf kp kd km pool ∧ va_P D cl (X ++ pool) H ∧ va_D A (X ++ pool) := by
  rcases (show t = 0 ∨ t = 1 by omega) with rfl | rfl
  · exact ⟨K ++ T, ⟨K, T, rfl, h0, h1⟩, by rw [← List.append_assoc]; exact hP, by rw [← List.append_assoc]; exact hD⟩
  · exact ⟨T ++ K, ⟨T, K, rfl, h1, h0⟩, by rw [← List.append_assoc]; exact hP.swap, by rw [← List.append_assoc]; exact hD.swap⟩
theorem k1_frame {cJ cZ : ClassId} {sl sl' : Nat → Option Nat} {ik ik' : Nat → Int32} {kf kf' : Nat → Int64} {kp kp' : Nat → Int32} {kd kd' : Nat → Int64} {km km' : Nat → Int32} {t : Nat} {K : va_W} (h : k1 cJ cZ sl ik kf kp kd km t K) (h1 : sl' t = sl t) (h2 : ik' t = ik t) (h3 : ∀ i, i < 8 → kf' (8 * t + i) = kf (8 * t + i)) (h4 : kp' t = kp t) (h5 : ∀ i, i < 4 → kd' (4 * t + i) = kd (4 * t + i)) (h6 : ∀ i, i < 4 → km' (4 * t + i) = km (4 * t + i)) : k1 cJ cZ sl' ik' kf' kp' kd' km' t K := by
  rcases h with ⟨a1, a2, a3⟩ | ⟨a, b, c, d, n, xf, xp, xm, a1, a2, a3, a4, ⟨b1, b2, b3, b4⟩, a6⟩
  · exact Or.inl ⟨h1.trans a1, h2.trans a2, a3⟩
  · exact Or.inr ⟨a, b, c, d, n, xf, xp, xm, h1.trans a1, by rw [h2]; exact a2, a3, h4.trans a4, ⟨b1, fun i hi => (b2 i hi).trans (h5 i hi).symm, b3, fun i hi => (b4 i hi).trans (h6 i hi).symm⟩, fun i hi => (a6 i hi).trans (h3 i hi).symm⟩
theorem k1_other {cJ cZ : ClassId} {sl sl' : Nat → Option Nat} {ik : Nat → Int32} {kf rf : Nat → Int64} {kp : Nat → Int32} {kd ld : Nat → Int64} {km im : Nat → Int32} {x y : Int32} {t : Nat} (ht : t < 2) {K : va_W} (h : k1 cJ cZ sl ik kf kp kd km (1 - t) K) (h1 : sl' (1 - t) = sl (1 - t)) : k1 cJ cZ sl' (upd ik t x) (va_cpy rf kf 0 (8 * t) 8) (upd kp t y) (va_cpy ld kd 0 (4 * t) 4) (va_cpy im km 0 (4 * t) 4) (1 - t) K :=
  k1_frame h h1 (upd_n (by omega)) (fun i hi => cpy_o (by omega)) (upd_n (by omega)) (fun i hi => cpy_o (by omega)) (fun i hi => cpy_o (by omega))
theorem k1_keep {cJ cZ : ClassId} {sl : Nat → Option Nat} {ik : Nat → Int32} {kf nf rf : Nat → Int64} {kp : Nat → Int32} {kd np ld : Nat → Int64} {km nm im : Nat → Int32} {k t a : Nat} (hpc : pcs k np ld nm im) (hfe : fe nf rf) (hsl : sl t = some a) (b c d : Nat) (xf xp : Nat → Int64) (xm : Nat → Int32) : k1 cJ cZ sl (upd ik t 1) (va_cpy rf kf 0 (8 * t) 8) (upd kp t (nI k)) (va_cpy ld kd 0 (4 * t) 4) (va_cpy (nrb im) km 0 (4 * t) 4) t [(a, .inr (1, [.ref b, .ref c, .ref d, .int (nI k)])), (b, .inl (cJ, 8, .inr (.inl (va_cpy nf xf 0 0 8)))), (c, .inl (cJ, 4, .inr (.inl (va_cpy np xp 0 0 4)))), (d, .inl (cZ, 4, .inl (va_cpy (nrb nm) xm 0 0 4)))] := by
  obtain ⟨h1, h2, h3, h4⟩ := hpc
  refine Or.inr ⟨a, b, c, d, k, va_cpy nf xf 0 0 8, va_cpy np xp 0 0 4, va_cpy (nrb nm) xm 0 0 4, hsl, by rw [upd_s]; decide, rfl, upd_s, ⟨h1, fun i hi => ?_, fun i hi => ?_, fun i hi => ?_⟩, fun i hi => ?_⟩
  · show va_cpy np xp 0 0 4 i = va_cpy ld kd 0 (4 * t) 4 (4 * t + i)
    rw [cpy_z hi, cpy_d hi]; exact h2 i hi
  · rw [cpy_z (by omega)]; exact h3 i hi
  · show va_cpy (nrb nm) xm 0 0 4 i = va_cpy (nrb im) km 0 (4 * t) 4 (4 * t + i)
    rw [cpy_z hi, cpy_d hi]
    show vp_nar .boolean (nm i) = vp_nar .boolean (im i)
    rw [h4 i hi]
  · show va_cpy nf xf 0 0 8 i = va_cpy rf kf 0 (8 * t) 8 (8 * t + i)
    rw [cpy_z hi, cpy_d hi]; exact hfe i hi
theorem pcs_again {n t : Nat} {xp kd np ld : Nat → Int64} {xm km nm im : Nat → Int32} (h : pcs n xp (fun i => kd (4 * t + i)) xm (fun i => km (4 * t + i))) : pcs n (va_cpy xp np 0 0 4) (va_cpy kd ld (4 * t) 0 4) (va_cpy (nrb xm) nm 0 0 4) (va_cpy (nrb km) im (4 * t) 0 4) := by
  obtain ⟨h1, h2, h3, h4⟩ := h
  refine ⟨h1, fun i hi => ?_, fun i hi => ?_, fun i hi => ?_⟩
  · rw [cpy_z hi, cpy_s hi]; exact h2 i hi
  · rw [cpy_z (by omega)]; exact h3 i hi
  · rw [cpy_z hi, cpy_s hi]
    show vp_nar .boolean (xm i) = vp_nar .boolean (km (4 * t + i))
    rw [h4 i hi]
theorem fe_again {t : Nat} {xf kf nf rf : Nat → Int64} (h : fe xf (fun i => kf (8 * t + i))) : fe (va_cpy xf nf 0 0 8) (va_cpy kf rf (8 * t) 0 8) := fun i hi => by
  rw [cpy_z hi, cpy_s hi]; exact h i hi
section LCN
variable {p : Program} {l : Launch} {e : Env} {R : Room} {s : State} {m : MethodId} {args : Array Value} {below : List Frame} {meth : Method} {c : Code} {H : Heap} {locs : List Loc} {cells slots : Nat} {Q : State → Prop}
variable {pc : Nat} {ls : Array Slot} {rest st : List Value} {A : Nat → Prop} {H0 : Heap} {D : va_G} {cI cJ cZ cO : ClassId}
variable {y : MethodName} {bytes cc : ByteArray} {maxL nL n index mc ms : Nat} {ret : Option FieldType} {ws : List Cond} {rm : Room} {Ts : List Cond} {own C : String} {b : Addr} {As : List Value} {X cx pl : va_W} {w1 : Nat → Nat → Nat → Nat → va_W}
/-- a call that makes four cells; an int comes back -/
theorem lc_n {rv : Int32} (X' : Nat → Nat → Nat → Nat → va_W) (S : CallFix p m c cc nL s args Ts own) (hS : va_S A H0 H locs) (hA : ∀ q, H0.size ≤ q → A q) (hP : va_P D vwCl (X ++ pl) H) (hD : va_D A (X ++ pl)) (hK : hkK D cI cJ cZ cO s)
    (hM : Met l y ws rm (va_Pc (.ref b :: As) (hkM D cI cJ cZ cO cx H.size)) (va_Qi (fun r (_ : Unit) => r = rv) (fun _ t => ∃ a1 a2 a3 a4 : Nat, va_P D vwCl (w1 a1 a2 a3 a4) t.heap ∧ va_D (va_A cx H.size) (w1 a1 a2 a3 a4)) (va_A cx H.size)) mc ms (va_A cx H.size))
    (cw : CallW R s args own C index y bytes maxL ret ws rm mc ms n) (isC isR isO : List Nat) (hC : isC.map (fun i => X[i]?) = cx.map some) (hnd : va_nd isC = true) (hR : isR.map (fun i => X[i]?) = (isR.filterMap (fun i => X[i]?)).map some) (hnR : va_nd isR = true) (hdis : ∀ i ∈ isR, i ∉ isC) (hO : ∀ a1 a2 a3 a4, isO.map (fun i => (isR.filterMap (fun i => X[i]?) ++ w1 a1 a2 a3 a4)[i]?) = (X' a1 a2 a3 a4).map some) (hnO : va_nd isO = true)
    (ci : Nat) {r : u_T} {N : Nat} {fs : List Value} (hr : vwCl[ci]? = some (C, r, N)) (he : cx[0]? = some (b, .inr (ci, fs))) (hn : As.length = n) (hz : ls.size = nL) (hst : st = As.reverse ++ .ref b :: rest) (hroom : (rest.map fun v => v.category).sum ≤ 8) (hdg : decode cc pc = .ok (.invokevirtual index, 3)) (hcl : cells + mc ≤ R.cells ∧ slots + ms ≤ R.slots)
    (kk : ∀ (a1 a2 a3 a4 : Nat) (H1 : Heap) (locs1 : List Loc), va_P D vwCl (X' a1 a2 a3 a4 ++ pl) H1 → va_D A (X' a1 a2 a3 a4 ++ pl) → va_S A H0 H1 locs1 → W p l e R s m args below meth c H1 locs1 (cells + mc) (slots + ms) Q (F0 m (pc + 3) ls (.int rv :: rest))) : W p l e R s m args below meth c H locs cells slots Q (F0 m pc ls st) := by
  have hFc := va_free (wc := cx) hD hS hA isC (la_C pl hC)
  refine va_calli (va_runV (As := As) (rest := rest) S hM cw (hk_preMV ci hr (la_sub hP hC) (hD.sub isC hnd (la_C pl hC)) hK he) rfl hn hz hst (lv_room hroom) hdg hcl) hS (fun q _ h9 => hFc q h9) hFc (fun r1 u1 t1 H1 locs1 ht hvm hw hB hz1 hk1 hS1 => ?_)
  obtain ⟨a1, a2, a3, a4, hP1, hD1⟩ := hB
  rw [ht] at hP1
  rw [hw]
  obtain ⟨hP2, hD2⟩ := va_joinQ hP hD isC isR hC hR hnR hdis hk1 hFc hP1 hD1
  exact kk a1 a2 a3 a4 H1 locs1 (hP2.part isO (hO a1 a2 a3 a4)) (hD2.part isO hnO (hO a1 a2 a3 a4)) hS1
end LCN
theorem va_up_s {α : Type} {f : Nat → α} {k : Nat} {x : α} : va_up f k x k = x := if_pos rfl
theorem va_up_n {α : Type} {f : Nat → α} {k j : Nat} {x : α} (h : j ≠ k) : va_up f k x j = f j := if_neg h
