/-! the law's cases, printed by wip/whole/cases.py -/
theorem lk_both {p : Program} {l : Launch} {e : Env} {s : State} {m : MethodId} {below : List Frame} {meth : Method} {c : Code} {b L : Nat} {xs : Nat → Int32} {D : va_G} {cI cJ cZ cO : ClassId} {H : Heap} {locs : List Loc} {cells slots : Nat} {Q : State → Prop} {ls : Array Slot} {i q7 q8 : Nat} (C : LX p s m c b L xs D cI cJ cZ cO) (hi : i + 5 ≤ L) (hI : LI s D cI cJ cZ cO q7 q8 H) (hS : va_S (lA s) s.heap H locs) (hl : lv_has ls 4 [(0, .ref b), (1, .ref q7), (2, .ref q8), (3, .int (nI i))]) (hcl : cells + 4 ≤ 600000 ∧ slots + 20 ≤ 7302250) (kk : ∀ (H : Heap) (locs : List Loc), LI s D cI cJ cZ cO q7 q8 H → va_S (lA s) s.heap H locs → W p l e room_1 s m #[Value.ref b] below meth c H locs (cells + 4) (slots + 20) Q (F0 m 1397 ls [])) : W p l e room_1 s m #[Value.ref b] below meth c H locs cells slots Q (F0 m 758 ls []) := by
  obtain ⟨hx, hb, hml, hown, hts, hX, hbl, hK, hL⟩ := C
  have hbA : ¬ lA s b := Nat.not_le.mpr hbl
  have hA : ∀ q : Nat, s.heap.size ≤ q → lA s q := fun _ h => h
  obtain ⟨P, R, n, k, tb, nf, np, nm, sl, cp, cw, sp, fd, ts, ch, bs, sn, du, lm, nr, tn, rf, rt, se, co, lk, ld, im, pl, pm, rn, fs, fm, ik, kf, kp, kd, km, pool, rfl, rfl, hn, hte, hpc, hfe, htb, hks, hP, hD⟩ := hI
  have hc1 : cells ≤ room_1.cells ∧ slots ≤ room_1.slots := ⟨show cells ≤ 600000 by omega, show slots ≤ 7302250 by omega⟩
  obtain ⟨r, nf2, rf2, e1, e2, hfe2⟩ := pr_both hfe (xs (i + 1)) (xs (i + 2)) (xs (i + 3)) (xs (i + 4))
  refine lv_aload_n hx hb dL_law_758 rfl (lv_at hl 1 rfl) ?_
  refine ls_arg hx hb hX hbl hbA hS 1 (by omega) hL (lv_at hl 0 rfl) (lv_at hl 3 rfl) rfl dL_law_759 dL_law_760 dL_law_761 dL_law_762 dL_law_763 ?_
  refine ls_arg hx hb hX hbl hbA hS 2 (by omega) hL (lv_at hl 0 rfl) (lv_at hl 3 rfl) rfl dL_law_764 dL_law_765 dL_law_766 dL_law_767 dL_law_768 ?_
  refine ls_arg hx hb hX hbl hbA hS 3 (by omega) hL (lv_at hl 0 rfl) (lv_at hl 3 rfl) rfl dL_law_769 dL_law_770 dL_law_771 dL_law_772 dL_law_773 ?_
  refine ls_arg hx hb hX hbl hbA hS 4 (by omega) hL (lv_at hl 0 rfl) (lv_at hl 3 rfl) rfl dL_law_774 dL_law_775 dL_law_776 dL_law_777 dL_law_778 ?_
  refine lc_i (w7 P cI cJ cZ cO (nI n) tb (nI k) nf2 np nm sl cp cw sp fd ts ch bs sn ++ w8 R cI cJ cZ cO (nI n) du lm (nI k) nr tn rf rt se co lk ld im pl pm rn fs fm ik kf kp kd km) (rest := []) ⟨hx, hb, hml, hown, hts⟩ hS hA hP hD hK (c_X7_both l D cI cJ cZ cO (P 0) (P 1) (P 3) (P 7) (P 8) (P 14) (P 4) (P 5) (P 6) H.size (nI k) nf (xs (i + 1)) (xs (i + 2)) (xs (i + 3)) (xs (i + 4)) _ _ e1) (cwV 4 hts gL_law_X7_both rfl rfl rfl zv_X7_both ⟨Nat.le_of_ble_eq_true rfl, Nat.le_of_ble_eq_true rfl⟩) [0, 3, 4] rfl rfl rfl rfl rfl 3 rfl rfl rfl hl.1 rfl (Nat.le_of_ble_eq_true rfl) dL_law_779 hc1 (fun H locs hP hD hS => ?_)
  refine lv_aload_n hx hb dL_law_782 rfl (lv_at hl 2 rfl) ?_
  refine ls_arg hx hb hX hbl hbA hS 1 (by omega) hL (lv_at hl 0 rfl) (lv_at hl 3 rfl) rfl dL_law_783 dL_law_784 dL_law_785 dL_law_786 dL_law_787 ?_
  refine ls_arg hx hb hX hbl hbA hS 2 (by omega) hL (lv_at hl 0 rfl) (lv_at hl 3 rfl) rfl dL_law_788 dL_law_789 dL_law_790 dL_law_791 dL_law_792 ?_
  refine ls_arg hx hb hX hbl hbA hS 3 (by omega) hL (lv_at hl 0 rfl) (lv_at hl 3 rfl) rfl dL_law_793 dL_law_794 dL_law_795 dL_law_796 dL_law_797 ?_
  refine ls_arg hx hb hX hbl hbA hS 4 (by omega) hL (lv_at hl 0 rfl) (lv_at hl 3 rfl) rfl dL_law_798 dL_law_799 dL_law_800 dL_law_801 dL_law_802 ?_
  refine lc_i (w7 P cI cJ cZ cO (nI n) tb (nI k) nf2 np nm sl cp cw sp fd ts ch bs sn ++ w8 R cI cJ cZ cO (nI n) du lm (nI k) nr tn rf2 rt se co lk ld im pl pm rn fs fm ik kf kp kd km) (rest := [.int r]) ⟨hx, hb, hml, hown, hts⟩ hS hA hP hD hK (c_X8_both l D cI cJ cZ cO (R 0) (R 1) (R 2) (R 3) (R 4) (R 5) (R 6) (R 7) (R 8) (R 9) (R 10) (R 11) (R 12) (R 13) (R 14) (R 15) (R 16) (R 17) (R 18) (R 19) H.size (nI n) du lm (nI k) rf (xs (i + 1)) (xs (i + 2)) (xs (i + 3)) (xs (i + 4)) _ _ e2) (cwV 4 hts gL_law_X8_both rfl rfl rfl zv_X8_both ⟨Nat.le_of_ble_eq_true rfl, Nat.le_of_ble_eq_true rfl⟩) [15, 18] rfl rfl rfl rfl rfl 4 rfl rfl rfl hl.1 rfl (Nat.le_of_ble_eq_true rfl) dL_law_803 hc1 (fun H locs hP hD hS => ?_)
  refine lv_icmp_eq (tgt := 1397) hx hb dL_law_806 (by decide) (fun _ => ?_) (fun h => absurd rfl h)
  refine W.widen (k := cells + 4) (n := slots + 20) (by omega) (by omega) ?_
  exact kk _ _ ⟨P, R, n, k, tb, nf2, np, nm, sl, cp, cw, sp, fd, ts, ch, bs, sn, du, lm, nr, tn, rf2, rt, se, co, lk, ld, im, pl, pm, rn, fs, fm, ik, kf, kp, kd, km, pool, rfl, rfl, hn, hte, hpc, hfe2, htb, hks, hP, hD⟩ hS
theorem lk_ahead {p : Program} {l : Launch} {e : Env} {s : State} {m : MethodId} {below : List Frame} {meth : Method} {c : Code} {b L : Nat} {xs : Nat → Int32} {D : va_G} {cI cJ cZ cO : ClassId} {H : Heap} {locs : List Loc} {cells slots : Nat} {Q : State → Prop} {ls : Array Slot} {i q7 q8 : Nat} (C : LX p s m c b L xs D cI cJ cZ cO) (hi : i + 5 ≤ L) (hI : LI s D cI cJ cZ cO q7 q8 H) (hS : va_S (lA s) s.heap H locs) (hl : lv_has ls 4 [(0, .ref b), (1, .ref q7), (2, .ref q8), (3, .int (nI i))]) (hcl : cells + 4 ≤ 600000 ∧ slots + 20 ≤ 7302250) (kk : ∀ (H : Heap) (locs : List Loc), LI s D cI cJ cZ cO q7 q8 H → va_S (lA s) s.heap H locs → W p l e room_1 s m #[Value.ref b] below meth c H locs (cells + 4) (slots + 20) Q (F0 m 1397 ls [])) : W p l e room_1 s m #[Value.ref b] below meth c H locs cells slots Q (F0 m 811 ls []) := by
  obtain ⟨hx, hb, hml, hown, hts, hX, hbl, hK, hL⟩ := C
  have hbA : ¬ lA s b := Nat.not_le.mpr hbl
  have hA : ∀ q : Nat, s.heap.size ≤ q → lA s q := fun _ h => h
  obtain ⟨P, R, n, k, tb, nf, np, nm, sl, cp, cw, sp, fd, ts, ch, bs, sn, du, lm, nr, tn, rf, rt, se, co, lk, ld, im, pl, pm, rn, fs, fm, ik, kf, kp, kd, km, pool, rfl, rfl, hn, hte, hpc, hfe, htb, hks, hP, hD⟩ := hI
  have hc1 : cells ≤ room_1.cells ∧ slots ≤ room_1.slots := ⟨show cells ≤ 600000 by omega, show slots ≤ 7302250 by omega⟩
  obtain ⟨r, e1, e2⟩ := pr_ahead hfe (xs (i + 1)) (xs (i + 2)) (xs (i + 3))
  refine lv_aload_n hx hb dL_law_811 rfl (lv_at hl 1 rfl) ?_
  refine ls_arg hx hb hX hbl hbA hS 1 (by omega) hL (lv_at hl 0 rfl) (lv_at hl 3 rfl) rfl dL_law_812 dL_law_813 dL_law_814 dL_law_815 dL_law_816 ?_
  refine ls_arg hx hb hX hbl hbA hS 2 (by omega) hL (lv_at hl 0 rfl) (lv_at hl 3 rfl) rfl dL_law_817 dL_law_818 dL_law_819 dL_law_820 dL_law_821 ?_
  refine ls_arg hx hb hX hbl hbA hS 3 (by omega) hL (lv_at hl 0 rfl) (lv_at hl 3 rfl) rfl dL_law_822 dL_law_823 dL_law_824 dL_law_825 dL_law_826 ?_
  refine lr_i (rest := []) ⟨hx, hb, hml, hown, hts⟩ hP hK (c_X7_ahead l D cI cJ cZ cO (P 0) (P 1) (P 3) (P 7) (P 8) (P 14) (P 4) (P 5) (P 6) (nI k) nf (xs (i + 1)) (xs (i + 2)) (xs (i + 3)) _ e1) (cwV 3 hts gL_law_X7_ahead rfl rfl rfl zv_X7_ahead ⟨Nat.le_of_ble_eq_true rfl, Nat.le_of_ble_eq_true rfl⟩) [0, 3, 4] rfl 3 rfl rfl rfl hl.1 rfl (Nat.le_of_ble_eq_true rfl) dL_law_827 hc1 ?_
  refine lv_aload_n hx hb dL_law_830 rfl (lv_at hl 2 rfl) ?_
  refine ls_arg hx hb hX hbl hbA hS 1 (by omega) hL (lv_at hl 0 rfl) (lv_at hl 3 rfl) rfl dL_law_831 dL_law_832 dL_law_833 dL_law_834 dL_law_835 ?_
  refine ls_arg hx hb hX hbl hbA hS 2 (by omega) hL (lv_at hl 0 rfl) (lv_at hl 3 rfl) rfl dL_law_836 dL_law_837 dL_law_838 dL_law_839 dL_law_840 ?_
  refine ls_arg hx hb hX hbl hbA hS 3 (by omega) hL (lv_at hl 0 rfl) (lv_at hl 3 rfl) rfl dL_law_841 dL_law_842 dL_law_843 dL_law_844 dL_law_845 ?_
  refine lr_i (rest := [.int r]) ⟨hx, hb, hml, hown, hts⟩ hP hK (c_X8_ahead l D cI cJ cZ cO (R 0) (R 1) (R 2) (R 3) (R 4) (R 5) (R 6) (R 7) (R 8) (R 9) (R 10) (R 11) (R 12) (R 13) (R 14) (R 15) (R 16) (R 17) (R 18) (R 19) (nI n) du lm (nI k) rf (xs (i + 1)) (xs (i + 2)) (xs (i + 3)) _ e2) (cwV 3 hts gL_law_X8_ahead rfl rfl rfl zv_X8_ahead ⟨Nat.le_of_ble_eq_true rfl, Nat.le_of_ble_eq_true rfl⟩) [15, 18] rfl 4 rfl rfl rfl hl.1 rfl (Nat.le_of_ble_eq_true rfl) dL_law_846 hc1 ?_
  refine lv_icmp_eq (tgt := 1397) hx hb dL_law_849 (by decide) (fun _ => ?_) (fun h => absurd rfl h)
  refine W.widen (k := cells + 4) (n := slots + 20) (by omega) (by omega) ?_
  exact kk _ _ ⟨P, R, n, k, tb, nf, np, nm, sl, cp, cw, sp, fd, ts, ch, bs, sn, du, lm, nr, tn, rf, rt, se, co, lk, ld, im, pl, pm, rn, fs, fm, ik, kf, kp, kd, km, pool, rfl, rfl, hn, hte, hpc, hfe, htb, hks, hP, hD⟩ hS
theorem lk_cut {p : Program} {l : Launch} {e : Env} {s : State} {m : MethodId} {below : List Frame} {meth : Method} {c : Code} {b L : Nat} {xs : Nat → Int32} {D : va_G} {cI cJ cZ cO : ClassId} {H : Heap} {locs : List Loc} {cells slots : Nat} {Q : State → Prop} {ls : Array Slot} {i q7 q8 : Nat} (C : LX p s m c b L xs D cI cJ cZ cO) (hi : i + 5 ≤ L) (hI : LI s D cI cJ cZ cO q7 q8 H) (hS : va_S (lA s) s.heap H locs) (hl : lv_has ls 4 [(0, .ref b), (1, .ref q7), (2, .ref q8), (3, .int (nI i))]) (hcl : cells + 4 ≤ 600000 ∧ slots + 20 ≤ 7302250) (kk : ∀ (H : Heap) (locs : List Loc), LI s D cI cJ cZ cO q7 q8 H → va_S (lA s) s.heap H locs → W p l e room_1 s m #[Value.ref b] below meth c H locs (cells + 4) (slots + 20) Q (F0 m 1397 ls [])) : W p l e room_1 s m #[Value.ref b] below meth c H locs cells slots Q (F0 m 854 ls []) := by
  obtain ⟨hx, hb, hml, hown, hts, hX, hbl, hK, hL⟩ := C
  have hbA : ¬ lA s b := Nat.not_le.mpr hbl
  have hA : ∀ q : Nat, s.heap.size ≤ q → lA s q := fun _ h => h
  obtain ⟨P, R, n, k, tb, nf, np, nm, sl, cp, cw, sp, fd, ts, ch, bs, sn, du, lm, nr, tn, rf, rt, se, co, lk, ld, im, pl, pm, rn, fs, fm, ik, kf, kp, kd, km, pool, rfl, rfl, hn, hte, hpc, hfe, htb, hks, hP, hD⟩ := hI
  have hc1 : cells ≤ room_1.cells ∧ slots ≤ room_1.slots := ⟨show cells ≤ 600000 by omega, show slots ≤ 7302250 by omega⟩
  obtain ⟨r, e1, e2⟩ := pr_cut htb.1 hfe (xs (i + 1)) (xs (i + 2)) (xs (i + 3))
  refine lv_aload_n hx hb dL_law_854 rfl (lv_at hl 1 rfl) ?_
  refine ls_arg hx hb hX hbl hbA hS 1 (by omega) hL (lv_at hl 0 rfl) (lv_at hl 3 rfl) rfl dL_law_855 dL_law_856 dL_law_857 dL_law_858 dL_law_859 ?_
  refine ls_arg hx hb hX hbl hbA hS 2 (by omega) hL (lv_at hl 0 rfl) (lv_at hl 3 rfl) rfl dL_law_860 dL_law_861 dL_law_862 dL_law_863 dL_law_864 ?_
  refine ls_arg hx hb hX hbl hbA hS 3 (by omega) hL (lv_at hl 0 rfl) (lv_at hl 3 rfl) rfl dL_law_865 dL_law_866 dL_law_867 dL_law_868 dL_law_869 ?_
  refine lr_i (rest := []) ⟨hx, hb, hml, hown, hts⟩ hP hK (c_X7_cut l D cI cJ cZ cO (P 0) (P 1) (P 3) (P 7) (P 8) (P 14) (P 4) (P 5) (P 6) (nI k) nf (xs (i + 1)) (xs (i + 2)) (xs (i + 3)) _ e1) (cwV 3 hts gL_law_X7_cut rfl rfl rfl zv_X7_cut ⟨Nat.le_of_ble_eq_true rfl, Nat.le_of_ble_eq_true rfl⟩) [0, 3, 4] rfl 3 rfl rfl rfl hl.1 rfl (Nat.le_of_ble_eq_true rfl) dL_law_870 hc1 ?_
  refine lv_aload_n hx hb dL_law_873 rfl (lv_at hl 2 rfl) ?_
  refine ls_arg hx hb hX hbl hbA hS 1 (by omega) hL (lv_at hl 0 rfl) (lv_at hl 3 rfl) rfl dL_law_874 dL_law_875 dL_law_876 dL_law_877 dL_law_878 ?_
  refine ls_arg hx hb hX hbl hbA hS 2 (by omega) hL (lv_at hl 0 rfl) (lv_at hl 3 rfl) rfl dL_law_879 dL_law_880 dL_law_881 dL_law_882 dL_law_883 ?_
  refine ls_arg hx hb hX hbl hbA hS 3 (by omega) hL (lv_at hl 0 rfl) (lv_at hl 3 rfl) rfl dL_law_884 dL_law_885 dL_law_886 dL_law_887 dL_law_888 ?_
  refine lr_i (rest := [.int r]) ⟨hx, hb, hml, hown, hts⟩ hP hK (c_X8_cut l D cI cJ cZ cO (R 0) (R 1) (R 2) (R 3) (R 4) (R 5) (R 6) (R 7) (R 8) (R 9) (R 10) (R 11) (R 12) (R 13) (R 14) (R 15) (R 16) (R 17) (R 18) (R 19) (nI n) du lm (nI k) rf nr (xs (i + 1)) (xs (i + 2)) (xs (i + 3)) _ e2) (cwV 3 hts gL_law_X8_cut rfl rfl rfl zv_X8_cut ⟨Nat.le_of_ble_eq_true rfl, Nat.le_of_ble_eq_true rfl⟩) [15, 18, 16] rfl 4 rfl rfl rfl hl.1 rfl (Nat.le_of_ble_eq_true rfl) dL_law_889 hc1 ?_
  refine lv_icmp_eq (tgt := 1397) hx hb dL_law_892 (by decide) (fun _ => ?_) (fun h => absurd rfl h)
  refine W.widen (k := cells + 4) (n := slots + 20) (by omega) (by omega) ?_
  exact kk _ _ ⟨P, R, n, k, tb, nf, np, nm, sl, cp, cw, sp, fd, ts, ch, bs, sn, du, lm, nr, tn, rf, rt, se, co, lk, ld, im, pl, pm, rn, fs, fm, ik, kf, kp, kd, km, pool, rfl, rfl, hn, hte, hpc, hfe, htb, hks, hP, hD⟩ hS
theorem lk_halves {p : Program} {l : Launch} {e : Env} {s : State} {m : MethodId} {below : List Frame} {meth : Method} {c : Code} {b L : Nat} {xs : Nat → Int32} {D : va_G} {cI cJ cZ cO : ClassId} {H : Heap} {locs : List Loc} {cells slots : Nat} {Q : State → Prop} {ls : Array Slot} {i q7 q8 : Nat} (C : LX p s m c b L xs D cI cJ cZ cO) (hi : i + 5 ≤ L) (hI : LI s D cI cJ cZ cO q7 q8 H) (hS : va_S (lA s) s.heap H locs) (hl : lv_has ls 4 [(0, .ref b), (1, .ref q7), (2, .ref q8), (3, .int (nI i))]) (hcl : cells + 4 ≤ 600000 ∧ slots + 20 ≤ 7302250) (kk : ∀ (H : Heap) (locs : List Loc), LI s D cI cJ cZ cO q7 q8 H → va_S (lA s) s.heap H locs → W p l e room_1 s m #[Value.ref b] below meth c H locs (cells + 4) (slots + 20) Q (F0 m 1397 ls [])) : W p l e room_1 s m #[Value.ref b] below meth c H locs cells slots Q (F0 m 897 ls []) := by
  obtain ⟨hx, hb, hml, hown, hts, hX, hbl, hK, hL⟩ := C
  have hbA : ¬ lA s b := Nat.not_le.mpr hbl
  have hA : ∀ q : Nat, s.heap.size ≤ q → lA s q := fun _ h => h
  obtain ⟨P, R, n, k, tb, nf, np, nm, sl, cp, cw, sp, fd, ts, ch, bs, sn, du, lm, nr, tn, rf, rt, se, co, lk, ld, im, pl, pm, rn, fs, fm, ik, kf, kp, kd, km, pool, rfl, rfl, hn, hte, hpc, hfe, htb, hks, hP, hD⟩ := hI
  have hc1 : cells ≤ room_1.cells ∧ slots ≤ room_1.slots := ⟨show cells ≤ 600000 by omega, show slots ≤ 7302250 by omega⟩
  obtain ⟨r, e1, e2⟩ := pr_halves hfe (xs (i + 1))
  refine lv_aload_n hx hb dL_law_897 rfl (lv_at hl 1 rfl) ?_
  refine ls_arg hx hb hX hbl hbA hS 1 (by omega) hL (lv_at hl 0 rfl) (lv_at hl 3 rfl) rfl dL_law_898 dL_law_899 dL_law_900 dL_law_901 dL_law_902 ?_
  refine lr_i (rest := []) ⟨hx, hb, hml, hown, hts⟩ hP hK (c_X7_halves l D cI cJ cZ cO (P 0) (P 1) (P 3) (P 7) (P 8) (P 14) (P 4) (P 5) (P 6) (nI k) nf (xs (i + 1)) _ e1) (cwV 1 hts gL_law_X7_halves rfl rfl rfl zv_X7_halves ⟨Nat.le_of_ble_eq_true rfl, Nat.le_of_ble_eq_true rfl⟩) [0, 3, 4] rfl 3 rfl rfl rfl hl.1 rfl (Nat.le_of_ble_eq_true rfl) dL_law_903 hc1 ?_
  refine lv_aload_n hx hb dL_law_906 rfl (lv_at hl 2 rfl) ?_
  refine ls_arg hx hb hX hbl hbA hS 1 (by omega) hL (lv_at hl 0 rfl) (lv_at hl 3 rfl) rfl dL_law_907 dL_law_908 dL_law_909 dL_law_910 dL_law_911 ?_
  refine lr_i (rest := [.int r]) ⟨hx, hb, hml, hown, hts⟩ hP hK (c_X8_halves l D cI cJ cZ cO (R 0) (R 1) (R 2) (R 3) (R 4) (R 5) (R 6) (R 7) (R 8) (R 9) (R 10) (R 11) (R 12) (R 13) (R 14) (R 15) (R 16) (R 17) (R 18) (R 19) (nI n) du lm (nI k) rf (xs (i + 1)) _ e2) (cwV 1 hts gL_law_X8_halves rfl rfl rfl zv_X8_halves ⟨Nat.le_of_ble_eq_true rfl, Nat.le_of_ble_eq_true rfl⟩) [15, 18] rfl 4 rfl rfl rfl hl.1 rfl (Nat.le_of_ble_eq_true rfl) dL_law_912 hc1 ?_
  refine lv_icmp_eq (tgt := 1397) hx hb dL_law_915 (by decide) (fun _ => ?_) (fun h => absurd rfl h)
  refine W.widen (k := cells + 4) (n := slots + 20) (by omega) (by omega) ?_
  exact kk _ _ ⟨P, R, n, k, tb, nf, np, nm, sl, cp, cw, sp, fd, ts, ch, bs, sn, du, lm, nr, tn, rf, rt, se, co, lk, ld, im, pl, pm, rn, fs, fm, ik, kf, kp, kd, km, pool, rfl, rfl, hn, hte, hpc, hfe, htb, hks, hP, hD⟩ hS
theorem lk_split {p : Program} {l : Launch} {e : Env} {s : State} {m : MethodId} {below : List Frame} {meth : Method} {c : Code} {b L : Nat} {xs : Nat → Int32} {D : va_G} {cI cJ cZ cO : ClassId} {H : Heap} {locs : List Loc} {cells slots : Nat} {Q : State → Prop} {ls : Array Slot} {i q7 q8 : Nat} (C : LX p s m c b L xs D cI cJ cZ cO) (hi : i + 5 ≤ L) (hI : LI s D cI cJ cZ cO q7 q8 H) (hS : va_S (lA s) s.heap H locs) (hl : lv_has ls 4 [(0, .ref b), (1, .ref q7), (2, .ref q8), (3, .int (nI i))]) (hcl : cells + 4 ≤ 600000 ∧ slots + 20 ≤ 7302250) (kk : ∀ (H : Heap) (locs : List Loc), LI s D cI cJ cZ cO q7 q8 H → va_S (lA s) s.heap H locs → W p l e room_1 s m #[Value.ref b] below meth c H locs (cells + 4) (slots + 20) Q (F0 m 1397 ls [])) : W p l e room_1 s m #[Value.ref b] below meth c H locs cells slots Q (F0 m 920 ls []) := by
  obtain ⟨hx, hb, hml, hown, hts, hX, hbl, hK, hL⟩ := C
  have hbA : ¬ lA s b := Nat.not_le.mpr hbl
  have hA : ∀ q : Nat, s.heap.size ≤ q → lA s q := fun _ h => h
  obtain ⟨P, R, n, k, tb, nf, np, nm, sl, cp, cw, sp, fd, ts, ch, bs, sn, du, lm, nr, tn, rf, rt, se, co, lk, ld, im, pl, pm, rn, fs, fm, ik, kf, kp, kd, km, pool, rfl, rfl, hn, hte, hpc, hfe, htb, hks, hP, hD⟩ := hI
  have hc1 : cells ≤ room_1.cells ∧ slots ≤ room_1.slots := ⟨show cells ≤ 600000 by omega, show slots ≤ 7302250 by omega⟩
  obtain ⟨r, nf2, rf2, e1, e2, hfe2⟩ := pr_split hfe (xs (i + 1)) (xs (i + 2)) (xs (i + 3)) (xs (i + 4))
  refine lv_aload_n hx hb dL_law_920 rfl (lv_at hl 1 rfl) ?_
  refine ls_arg hx hb hX hbl hbA hS 1 (by omega) hL (lv_at hl 0 rfl) (lv_at hl 3 rfl) rfl dL_law_921 dL_law_922 dL_law_923 dL_law_924 dL_law_925 ?_
  refine ls_arg hx hb hX hbl hbA hS 2 (by omega) hL (lv_at hl 0 rfl) (lv_at hl 3 rfl) rfl dL_law_926 dL_law_927 dL_law_928 dL_law_929 dL_law_930 ?_
  refine ls_arg hx hb hX hbl hbA hS 3 (by omega) hL (lv_at hl 0 rfl) (lv_at hl 3 rfl) rfl dL_law_931 dL_law_932 dL_law_933 dL_law_934 dL_law_935 ?_
  refine ls_arg hx hb hX hbl hbA hS 4 (by omega) hL (lv_at hl 0 rfl) (lv_at hl 3 rfl) rfl dL_law_936 dL_law_937 dL_law_938 dL_law_939 dL_law_940 ?_
  refine lc_i (w7 P cI cJ cZ cO (nI n) tb (nI k) nf2 np nm sl cp cw sp fd ts ch bs sn ++ w8 R cI cJ cZ cO (nI n) du lm (nI k) nr tn rf rt se co lk ld im pl pm rn fs fm ik kf kp kd km) (rest := []) ⟨hx, hb, hml, hown, hts⟩ hS hA hP hD hK (c_X7_split l D cI cJ cZ cO (P 0) (P 1) (P 3) (P 7) (P 8) (P 14) (P 4) (P 5) (P 6) H.size (nI k) nf (xs (i + 1)) (xs (i + 2)) (xs (i + 3)) (xs (i + 4)) _ _ e1) (cwV 4 hts gL_law_X7_split rfl rfl rfl zv_X7_split ⟨Nat.le_of_ble_eq_true rfl, Nat.le_of_ble_eq_true rfl⟩) [0, 3, 4] rfl rfl rfl rfl rfl 3 rfl rfl rfl hl.1 rfl (Nat.le_of_ble_eq_true rfl) dL_law_941 hc1 (fun H locs hP hD hS => ?_)
  refine lv_aload_n hx hb dL_law_944 rfl (lv_at hl 2 rfl) ?_
  refine ls_arg hx hb hX hbl hbA hS 1 (by omega) hL (lv_at hl 0 rfl) (lv_at hl 3 rfl) rfl dL_law_945 dL_law_946 dL_law_947 dL_law_948 dL_law_949 ?_
  refine ls_arg hx hb hX hbl hbA hS 2 (by omega) hL (lv_at hl 0 rfl) (lv_at hl 3 rfl) rfl dL_law_950 dL_law_951 dL_law_952 dL_law_953 dL_law_954 ?_
  refine ls_arg hx hb hX hbl hbA hS 3 (by omega) hL (lv_at hl 0 rfl) (lv_at hl 3 rfl) rfl dL_law_955 dL_law_956 dL_law_957 dL_law_958 dL_law_959 ?_
  refine ls_arg hx hb hX hbl hbA hS 4 (by omega) hL (lv_at hl 0 rfl) (lv_at hl 3 rfl) rfl dL_law_960 dL_law_961 dL_law_962 dL_law_963 dL_law_964 ?_
  refine lc_i (w7 P cI cJ cZ cO (nI n) tb (nI k) nf2 np nm sl cp cw sp fd ts ch bs sn ++ w8 R cI cJ cZ cO (nI n) du lm (nI k) nr tn rf2 rt se co lk ld im pl pm rn fs fm ik kf kp kd km) (rest := [.int r]) ⟨hx, hb, hml, hown, hts⟩ hS hA hP hD hK (c_X8_split l D cI cJ cZ cO (R 0) (R 1) (R 2) (R 3) (R 4) (R 5) (R 6) (R 7) (R 8) (R 9) (R 10) (R 11) (R 12) (R 13) (R 14) (R 15) (R 16) (R 17) (R 18) (R 19) H.size (nI n) du lm (nI k) rf (xs (i + 1)) (xs (i + 2)) (xs (i + 3)) (xs (i + 4)) _ _ e2) (cwV 4 hts gL_law_X8_split rfl rfl rfl zv_X8_split ⟨Nat.le_of_ble_eq_true rfl, Nat.le_of_ble_eq_true rfl⟩) [15, 18] rfl rfl rfl rfl rfl 4 rfl rfl rfl hl.1 rfl (Nat.le_of_ble_eq_true rfl) dL_law_965 hc1 (fun H locs hP hD hS => ?_)
  refine lv_icmp_eq (tgt := 1397) hx hb dL_law_968 (by decide) (fun _ => ?_) (fun h => absurd rfl h)
  refine W.widen (k := cells + 4) (n := slots + 20) (by omega) (by omega) ?_
  exact kk _ _ ⟨P, R, n, k, tb, nf2, np, nm, sl, cp, cw, sp, fd, ts, ch, bs, sn, du, lm, nr, tn, rf2, rt, se, co, lk, ld, im, pl, pm, rn, fs, fm, ik, kf, kp, kd, km, pool, rfl, rfl, hn, hte, hpc, hfe2, htb, hks, hP, hD⟩ hS
theorem lk_part {p : Program} {l : Launch} {e : Env} {s : State} {m : MethodId} {below : List Frame} {meth : Method} {c : Code} {b L : Nat} {xs : Nat → Int32} {D : va_G} {cI cJ cZ cO : ClassId} {H : Heap} {locs : List Loc} {cells slots : Nat} {Q : State → Prop} {ls : Array Slot} {i q7 q8 : Nat} (C : LX p s m c b L xs D cI cJ cZ cO) (hi : i + 5 ≤ L) (hI : LI s D cI cJ cZ cO q7 q8 H) (hS : va_S (lA s) s.heap H locs) (hl : lv_has ls 4 [(0, .ref b), (1, .ref q7), (2, .ref q8), (3, .int (nI i))]) (hcl : cells + 4 ≤ 600000 ∧ slots + 20 ≤ 7302250) (kk : ∀ (H : Heap) (locs : List Loc), LI s D cI cJ cZ cO q7 q8 H → va_S (lA s) s.heap H locs → W p l e room_1 s m #[Value.ref b] below meth c H locs (cells + 4) (slots + 20) Q (F0 m 1397 ls [])) : W p l e room_1 s m #[Value.ref b] below meth c H locs cells slots Q (F0 m 973 ls []) := by
  obtain ⟨hx, hb, hml, hown, hts, hX, hbl, hK, hL⟩ := C
  have hbA : ¬ lA s b := Nat.not_le.mpr hbl
  have hA : ∀ q : Nat, s.heap.size ≤ q → lA s q := fun _ h => h
  obtain ⟨P, R, n, k, tb, nf, np, nm, sl, cp, cw, sp, fd, ts, ch, bs, sn, du, lm, nr, tn, rf, rt, se, co, lk, ld, im, pl, pm, rn, fs, fm, ik, kf, kp, kd, km, pool, rfl, rfl, hn, hte, hpc, hfe, htb, hks, hP, hD⟩ := hI
  have hc1 : cells ≤ room_1.cells ∧ slots ≤ room_1.slots := ⟨show cells ≤ 600000 by omega, show slots ≤ 7302250 by omega⟩
  obtain ⟨r, nf2, rf2, e1, e2, hfe2⟩ := pr_part htb.1 hfe (xs (i + 1)) (xs (i + 2)) (xs (i + 3))
  refine lv_aload_n hx hb dL_law_973 rfl (lv_at hl 1 rfl) ?_
  refine ls_arg hx hb hX hbl hbA hS 1 (by omega) hL (lv_at hl 0 rfl) (lv_at hl 3 rfl) rfl dL_law_974 dL_law_975 dL_law_976 dL_law_977 dL_law_978 ?_
  refine ls_arg hx hb hX hbl hbA hS 2 (by omega) hL (lv_at hl 0 rfl) (lv_at hl 3 rfl) rfl dL_law_979 dL_law_980 dL_law_981 dL_law_982 dL_law_983 ?_
  refine ls_arg hx hb hX hbl hbA hS 3 (by omega) hL (lv_at hl 0 rfl) (lv_at hl 3 rfl) rfl dL_law_984 dL_law_985 dL_law_986 dL_law_987 dL_law_988 ?_
  refine lc_i (w7 P cI cJ cZ cO (nI n) tb (nI k) nf2 np nm sl cp cw sp fd ts ch bs sn ++ w8 R cI cJ cZ cO (nI n) du lm (nI k) nr tn rf rt se co lk ld im pl pm rn fs fm ik kf kp kd km) (rest := []) ⟨hx, hb, hml, hown, hts⟩ hS hA hP hD hK (c_X7_part l D cI cJ cZ cO (P 0) (P 1) (P 3) (P 7) (P 8) (P 14) (P 4) (P 5) (P 6) H.size (nI k) nf (xs (i + 1)) (xs (i + 2)) (xs (i + 3)) _ _ e1) (cwV 3 hts gL_law_X7_part rfl rfl rfl zv_X7_part ⟨Nat.le_of_ble_eq_true rfl, Nat.le_of_ble_eq_true rfl⟩) [0, 3, 4] rfl rfl rfl rfl rfl 3 rfl rfl rfl hl.1 rfl (Nat.le_of_ble_eq_true rfl) dL_law_989 hc1 (fun H locs hP hD hS => ?_)
  refine lv_aload_n hx hb dL_law_992 rfl (lv_at hl 2 rfl) ?_
  refine ls_arg hx hb hX hbl hbA hS 1 (by omega) hL (lv_at hl 0 rfl) (lv_at hl 3 rfl) rfl dL_law_993 dL_law_994 dL_law_995 dL_law_996 dL_law_997 ?_
  refine ls_arg hx hb hX hbl hbA hS 2 (by omega) hL (lv_at hl 0 rfl) (lv_at hl 3 rfl) rfl dL_law_998 dL_law_999 dL_law_1000 dL_law_1001 dL_law_1002 ?_
  refine ls_arg hx hb hX hbl hbA hS 3 (by omega) hL (lv_at hl 0 rfl) (lv_at hl 3 rfl) rfl dL_law_1003 dL_law_1004 dL_law_1005 dL_law_1006 dL_law_1007 ?_
  refine lc_i (w7 P cI cJ cZ cO (nI n) tb (nI k) nf2 np nm sl cp cw sp fd ts ch bs sn ++ w8 R cI cJ cZ cO (nI n) du lm (nI k) nr tn rf2 rt se co lk ld im pl pm rn fs fm ik kf kp kd km) (rest := [.int r]) ⟨hx, hb, hml, hown, hts⟩ hS hA hP hD hK (c_X8_part l D cI cJ cZ cO (R 0) (R 1) (R 2) (R 3) (R 4) (R 5) (R 6) (R 7) (R 8) (R 9) (R 10) (R 11) (R 12) (R 13) (R 14) (R 15) (R 16) (R 17) (R 18) (R 19) H.size (nI n) du lm (nI k) rf nr (xs (i + 1)) (xs (i + 2)) (xs (i + 3)) _ _ e2) (cwV 3 hts gL_law_X8_part rfl rfl rfl zv_X8_part ⟨Nat.le_of_ble_eq_true rfl, Nat.le_of_ble_eq_true rfl⟩) [15, 18, 16] rfl rfl rfl rfl rfl 4 rfl rfl rfl hl.1 rfl (Nat.le_of_ble_eq_true rfl) dL_law_1008 hc1 (fun H locs hP hD hS => ?_)
  refine lv_icmp_eq (tgt := 1397) hx hb dL_law_1011 (by decide) (fun _ => ?_) (fun h => absurd rfl h)
  refine W.widen (k := cells + 4) (n := slots + 20) (by omega) (by omega) ?_
  exact kk _ _ ⟨P, R, n, k, tb, nf2, np, nm, sl, cp, cw, sp, fd, ts, ch, bs, sn, du, lm, nr, tn, rf2, rt, se, co, lk, ld, im, pl, pm, rn, fs, fm, ik, kf, kp, kd, km, pool, rfl, rfl, hn, hte, hpc, hfe2, htb, hks, hP, hD⟩ hS
