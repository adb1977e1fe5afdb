/-! arcs, corners, convex -/
def sta (g : Nat → Bool) (s : Nat) : Bool := g s && !g ((s + 7) % 8)
def arl (g : Nat → Bool) (s : Nat) : Nat := fa_first (fun i => !g ((s + i) % 8)) 8
def arc (g : Nat → Bool) (s : Nat) : Nat := if sta g s = true then arl g s else 0
def vl (g : Nat → Bool) (s : Nat) : Nat := if sta g s = true then (if arc g s = 4 then 0 else arc g s) else 8
theorem ff_cong {p q : Nat → Bool} : ∀ n, (∀ i, i < n → p i = q i) → fa_first p n = fa_first q n
  | 0, _ => rfl
  | n + 1, h => by
    show (if fa_first p n < n then fa_first p n else if p n then n else n + 1) = (if fa_first q n < n then fa_first q n else if q n then n else n + 1)
    rw [ff_cong n (fun i hi => h i (by omega)), h n (by omega)]
theorem arl_c {g h : Nat → Bool} (e : ∀ s, s < 8 → g s = h s) (s : Nat) : arl g s = arl h s := ff_cong 8 (fun i _ => by rw [e _ (show (s + i) % 8 < 8 by omega)])
theorem sta_c {g h : Nat → Bool} (e : ∀ s, s < 8 → g s = h s) {s : Nat} (hs : s < 8) : sta g s = sta h s := by
  unfold sta
  rw [e s hs, e _ (show (s + 7) % 8 < 8 by omega)]
theorem arc_c {g h : Nat → Bool} (e : ∀ s, s < 8 → g s = h s) {s : Nat} (hs : s < 8) : arc g s = arc h s := by
  unfold arc
  rw [sta_c e hs, arl_c e]
theorem arl_rng {g : Nat → Bool} {s : Nat} (hs : s < 8) (h : sta g s = true) : 1 ≤ arl g s ∧ arl g s ≤ 7 := by
  unfold sta at h
  rw [Bool.and_eq_true] at h
  constructor
  · rcases Nat.eq_zero_or_pos (arl g s) with q | q
    · have := fa_first_yes (fun i => !g ((s + i) % 8)) 8 (by show arl g s < 8; omega)
      have q' : fa_first (fun i => !g ((s + i) % 8)) 8 = 0 := q
      rw [q'] at this
      simp [Nat.mod_eq_of_lt hs, h.1] at this
    · exact q
  · rcases Nat.lt_or_ge 7 (arl g s) with q | q
    · have := fa_first_no (fun i => !g ((s + i) % 8)) 8 7 q
      simp at this h
      rw [this] at h
      cases h.2
    · exact q
theorem arl_in {g : Nat → Bool} {s i : Nat} (h : i < arl g s) : g ((s + i) % 8) = true := by
  have := fa_first_no (fun i => !g ((s + i) % 8)) 8 i h
  simpa using this
theorem arl_at {g : Nat → Bool} {s : Nat} (h : arl g s < 8) : g ((s + arl g s) % 8) = false := by
  have := fa_first_yes (fun i => !g ((s + i) % 8)) 8 h
  rw [Bool.not_eq_true'] at this
  exact this
theorem x4_arc (r : Int32) {s : Nat} (hs : s < 8) : f_X4_arcFrom r (nI s) = some (nI (arc (bi r) s)) := by
  unfold f_X4_arcFrom
  rw [isFull_bi r (show s < 16 by omega), b1s, i7, nI_add, isFull_bi r (show s + 7 < 16 by omega), b1s, Nat.mod_eq_of_lt hs]
  cases h : sta (bi r) s
  · have ha : arc (bi r) s = 0 := by unfold arc; rw [h]; rfl
    rw [ha]
    unfold sta at h
    cases h1 : bi r s
    · rfl
    · rw [h1, Bool.true_and, Bool.not_eq_false'] at h
      rw [h]; rfl
  · have ha : arc (bi r) s = arl (bi r) s := if_pos h
    have hrg := arl_rng hs h
    rw [ha]
    unfold sta at h
    rw [Bool.and_eq_true, Bool.not_eq_true'] at h
    rw [h.1, h.2, if_pos rfl, if_neg ne_1_0, if_neg (show ¬ false = true by decide), if_pos rfl]
    have e := wl_for (f := st_X4_arcFrom_23 r (nI s)) (fun i => nI i) (e := arl (bi r) s) (r := nI (arl (bi r) s)) (by
      intro i hi
      show st_X4_arcFrom_23c r (nI s) (nI i) = _
      unfold st_X4_arcFrom_23c
      rw [if_neg (show ¬ (8 : Int32) ≤ nI i from nI_ge (show i < 8 by omega) (by decide)), nI_add, isFull_bi r (show s + i < 16 by omega), b1s, arl_in hi, if_pos rfl, if_neg ne_1_0, i1, nI_add]
      rfl) (by
      show st_X4_arcFrom_23c r (nI s) (nI (arl (bi r) s)) = _
      unfold st_X4_arcFrom_23c
      rw [if_neg (show ¬ (8 : Int32) ≤ nI (arl (bi r) s) from nI_ge (show arl (bi r) s < 8 by omega) (by decide)), nI_add, isFull_bi r (show s + arl (bi r) s < 16 by omega), b1s, arl_at (g := bi r) (s := s) (by omega), if_neg (show ¬ false = true by decide), if_pos rfl]) (arl (bi r) s - 1) 1 hkF (by omega) (hkF_big (by omega))
    have e' : hk_wl (st_X4_arcFrom_23 r (nI s)) hkF (1 : Int32) = _ := e
    rw [e', b1s]
def cnd (m : Nat) (g : Nat → Bool) (s : Nat) : Bool := if m = 0 then (decide (1 ≤ vl g s) && decide (vl g s ≤ 7)) else decide (vl g s = m)
theorem vl_c {g h : Nat → Bool} (e : ∀ s, s < 8 → g s = h s) {s : Nat} (hs : s < 8) : vl g s = vl h s := by
  unfold vl
  rw [sta_c e hs, arc_c e hs]
theorem cnd_c {g h : Nat → Bool} (e : ∀ s, s < 8 → g s = h s) {m s : Nat} (hs : s < 8) : cnd m g s = cnd m h s := by
  unfold cnd
  rw [vl_c e hs]
theorem arc_le {g : Nat → Bool} {s : Nat} (hs : s < 8) : arc g s ≤ 7 := by
  unfold arc
  cases h : sta g s
  · exact Nat.zero_le _
  · exact (arl_rng hs h).2
theorem x4_cnd (r : Int32) {m s : Nat} (hm : m ≤ 7) (hs : s < 8) (t : Nat) : st_X4_countCorners_23c (nI m) r (nI t) (nI s) = some (.inl (nI (t + if cnd m (bi r) s = true then 1 else 0), nI (s + 1))) := by
  have ha := arc_le (g := bi r) hs
  unfold st_X4_countCorners_23c
  rw [if_neg (show ¬ (8 : Int32) ≤ nI s from nI_ge hs (by decide)), x4_arc r hs, b1s]
  simp only [hk_let, i1, nI_add]
  have p0 : (nI (arc (bi r) s) = 0) ↔ arc (bi r) s = 0 := ⟨fun q => nI_ij (by omega) (by decide) q, fun q => by rw [q]; rfl⟩
  have p4 : (nI (arc (bi r) s) = 4) ↔ arc (bi r) s = 4 := ⟨fun q => nI_ij (by omega) (by decide) q, fun q => by rw [q]; rfl⟩
  have pm : (nI (arc (bi r) s) = nI m) ↔ arc (bi r) s = m := ⟨fun q => nI_ij (by omega) (by omega) q, fun q => by rw [q]⟩
  have m0 : (nI m = 0) ↔ m = 0 := ⟨fun q => nI_ij (by omega) (by decide) q, fun q => by rw [q]; rfl⟩
  simp only [p0, p4, pm, m0]
  unfold cnd
  cases h : sta (bi r) s
  · have h1 : arc (bi r) s = 0 := by unfold arc; rw [h]; rfl
    have h2 : vl (bi r) s = 8 := by unfold vl; rw [h]; rfl
    rw [h1, h2, if_pos rfl]
    by_cases q : m = 0
    · subst q; rfl
    · rw [if_neg q, decide_eq_false (show ¬ 8 = m by omega)]; rfl
  · have h1 : arc (bi r) s = arl (bi r) s := if_pos h
    have h2 : vl (bi r) s = if arc (bi r) s = 4 then 0 else arc (bi r) s := if_pos h
    have h3 := arl_rng hs h
    rw [← h1] at h3
    rw [h2]
    generalize arc (bi r) s = x at *
    rw [if_neg (show ¬ x = 0 by omega)]
    by_cases q4 : x = 4
    · rw [if_pos q4, if_pos q4]
      by_cases q : m = 0
      · subst q; rfl
      · rw [if_neg q, decide_eq_false (show ¬ 0 = m by omega)]; rfl
    · rw [if_neg q4, if_neg q4]
      by_cases q : m = 0
      · rw [if_pos q, if_pos q, decide_eq_true h3.1, decide_eq_true h3.2]; rfl
      · rw [if_neg q, if_neg q]
        by_cases q2 : x = m
        · rw [if_pos q2, decide_eq_true q2]; rfl
        · rw [if_neg q2, decide_eq_false q2]; rfl
def cdk (c : Int64) (m k : Nat) : Bool := cnd m (rg c (k / 8)) (k % 8)
theorem k8 (p k : Nat) (h : k < 8) : (8 * p + k) / 8 = p ∧ (8 * p + k) % 8 = k := by omega
theorem x4_count (c : Int64) {m : Nat} (hm : m ≤ 7) : f_X4_countCorners c (nI m) = some (nI (fb_ct (cdk c m) 328)) := by
  have e := wl_for0 (f := st_X4_countCorners_5 c (nI m)) (fun p => (nI (fb_ct (cdk c m) (8 * p)), nI p)) (e := 41) (r := nI (fb_ct (cdk c m) 328)) (by
    intro p hp
    show st_X4_countCorners_5c c (nI m) (nI (fb_ct (cdk c m) (8 * p))) (nI p) = _
    unfold st_X4_countCorners_5c
    obtain ⟨v, ev, hv⟩ := x4_ring c hp
    rw [if_neg (show ¬ (41 : Int32) ≤ nI p from nI_ge hp (by decide)), ev, b1s]
    have e1 := wl_for0 (f := st_X4_countCorners_23 (nI m) v) (fun s => (nI (fb_ct (cdk c m) (8 * p) + fb_ct (cnd m (bi v)) s), nI s)) (e := 8) (r := nI (fb_ct (cdk c m) (8 * p) + fb_ct (cnd m (bi v)) 8)) (by
      intro s hs
      show st_X4_countCorners_23c (nI m) v (nI (fb_ct (cdk c m) (8 * p) + fb_ct (cnd m (bi v)) s)) (nI s) = _
      rw [x4_cnd v hm hs, fb_ct_succ, Nat.add_assoc]) (by
      show st_X4_countCorners_23c (nI m) v (nI (fb_ct (cdk c m) (8 * p) + fb_ct (cnd m (bi v)) 8)) (nI 8) = _
      unfold st_X4_countCorners_23c
      rw [if_pos (by decide)]) (by decide)
    have e2 : hk_wl (st_X4_countCorners_23 (nI m) v) hkF (nI (fb_ct (cdk c m) (8 * p)), (0 : Int32)) = _ := e1
    rw [e2, b1s]
    have e3 : fb_ct (cnd m (bi v)) 8 = fb_ct (fun k => cdk c m (8 * p + k)) 8 := fb_ct_cong (fun k hk => by
      show _ = cnd m (rg c ((8 * p + k) / 8)) ((8 * p + k) % 8)
      rw [(k8 p k hk).1, (k8 p k hk).2, cnd_c hv hk])
    simp only [hk_let, i1, nI_add]
    rw [e3, ← fb_ct_split]
    rfl) (by
    show st_X4_countCorners_5c c (nI m) (nI (fb_ct (cdk c m) 328)) (nI 41) = _
    unfold st_X4_countCorners_5c
    rw [if_pos (by decide)]) (by decide)
  unfold f_X4_countCorners
  have e' : hk_wl (st_X4_countCorners_5 c (nI m)) hkF ((0 : Int32), (0 : Int32)) = _ := e
  rw [e', b1s]
/-- the reference's array of corners over one ring -/
def cw (g : Nat → Bool) (w : Nat → Int32) : Nat → Nat → Int32
  | 0 => w
  | s + 1 => if sta g s = true then upd (cw g w s) (vl g s) (cw g w s (vl g s) + 1) else cw g w s
theorem vl_le {g : Nat → Bool} {s : Nat} (hs : s < 8) (h : sta g s = true) : vl g s ≤ 7 := by
  unfold vl
  rw [if_pos h]
  have := arc_le (g := g) hs
  split <;> omega
theorem cw_at (g : Nat → Bool) (w : Nat → Int32) {v : Nat} (hv : v < 8) : ∀ n, n ≤ 8 → cw g w n v = w v + nI (fb_ct (fun s => decide (vl g s = v)) n)
  | 0, _ => by
    show w v = w v + 0
    simp
  | n + 1, hn => by
    have ih := cw_at g w hv n (by omega)
    rw [fb_ct_succ]
    show (if sta g n = true then upd (cw g w n) (vl g n) (cw g w n (vl g n) + 1) else cw g w n) v = _
    cases h : sta g n
    · have h2 : vl g n = 8 := by unfold vl; rw [h]; rfl
      rw [h2, decide_eq_false (show ¬ 8 = v by omega), if_neg (by decide), ih]
      rfl
    · rw [if_pos rfl]
      by_cases q : vl g n = v
      · rw [q, upd_s, ih, decide_eq_true rfl, if_pos rfl, i1, Int32.add_assoc, nI_add]
      · rw [show upd (cw g w n) (vl g n) (cw g w n (vl g n) + 1) v = cw g w n v from if_neg (fun q2 => q q2.symm), ih, decide_eq_false q]
        rfl
theorem x8_arl {w : Nat → Int32} {g : Nat → Bool} (hw : ∀ s, s < 8 → w s = if g s = true then 1 else 0) {s : Nat} (hs : s < 8) (h : sta g s = true) : hk_wl (st_X8_countArcs_36 w (nI s)) hkF (0 : Int32) = some (nI (arl g s)) := by
  have hrg := arl_rng hs h
  exact wl_for0 (f := st_X8_countArcs_36 w (nI s)) (fun i => nI i) (e := arl g s) (r := nI (arl g s)) (by
    intro i hi
    show st_X8_countArcs_36c w (nI s) (nI i) = _
    unfold st_X8_countArcs_36c
    have hm : (s + i) % 8 < 8 := by omega
    rw [if_neg (show ¬ (8 : Int32) ≤ nI i from nI_ge (show i < 8 by omega) (by decide)), nI_add, i8, rem_nI (by omega) (by decide) (by decide), inb_nI hm (by decide), gds, cl_nI (by omega), hw _ hm, arl_in hi, if_pos rfl, if_neg ne_1_0, i1, nI_add]
    rfl) (by
    show st_X8_countArcs_36c w (nI s) (nI (arl g s)) = _
    unfold st_X8_countArcs_36c
    have hm : (s + arl g s) % 8 < 8 := by omega
    rw [if_neg (show ¬ (8 : Int32) ≤ nI (arl g s) from nI_ge (show arl g s < 8 by omega) (by decide)), nI_add, i8, rem_nI (by omega) (by decide) (by decide), inb_nI hm (by decide), gds, cl_nI (by omega), hw _ hm, arl_at (g := g) (s := s) (by omega), if_neg (show ¬ false = true by decide), if_pos rfl]) (by omega)
theorem x8_arcs {w : Nat → Int32} {g : Nat → Bool} (hw : ∀ s, s < 8 → w s = if g s = true then 1 else 0) (d : Nat) (k : Nat → Int32) : f_X8_countArcs (nI d) w k = some (nI (d + if 2 ≤ fb_ct (sta g) 8 then 1 else 0), cw g k 8) := by
  have e := wl_for0 (f := st_X8_countArcs_4 w) (fun s => (nI (fb_ct (sta g) s), nI s, cw g k s)) (e := 8) (r := (nI (fb_ct (sta g) 8), cw g k 8)) (by
    intro s hs
    show st_X8_countArcs_4c w (nI (fb_ct (sta g) s)) (nI s) (cw g k s) = _
    unfold st_X8_countArcs_4c
    have hm : (s + 7) % 8 < 8 := by omega
    rw [if_neg (show ¬ (8 : Int32) ≤ nI s from nI_ge hs (by decide)), inb_nI hs (by decide), gds, cl_nI (by omega), hw s hs]
    simp only [i7, nI_add, i8, rem_nI (show s + 7 < 2 ^ 31 by omega) (show 0 < 8 by decide) (show 8 < 2 ^ 31 by decide), inb_nI hm (show 8 < 2 ^ 31 by decide), gds, cl_nI (show (s + 7) % 8 < 2 ^ 31 by omega), hw _ hm]
    have hcw : cw g k (s + 1) = if sta g s = true then upd (cw g k s) (vl g s) (cw g k s (vl g s) + 1) else cw g k s := rfl
    simp only [fb_ct_succ, hcw]
    cases h : sta g s
    · unfold sta at h
      cases h1 : g s
      · simp only [Bool.false_eq_true, if_false, if_true, b2s, hk_let, i1, nI_add, Nat.add_zero]
      · rw [h1, Bool.true_and, Bool.not_eq_false'] at h
        rw [h]
        simp only [Bool.false_eq_true, if_false, if_true, ne_1_0, b2s, hk_let, Nat.add_zero]
        rw [i1, nI_add]
    · have hl := x8_arl hw hs h
      have hrg := arl_rng hs h
      have hvl : vl g s = if arl g s = 4 then 0 else arl g s := by
        have q1 : vl g s = if arc g s = 4 then 0 else arc g s := if_pos h
        have q2 : arc g s = arl g s := if_pos h
        rw [q1, q2]
      have hv9 : (if arl g s = 4 then 0 else arl g s) < 9 := by split <;> omega
      have hv : (if nI (arl g s) = 4 then (0 : Int32) else nI (arl g s)) = nI (if arl g s = 4 then 0 else arl g s) := by
        by_cases q : arl g s = 4
        · rw [q]; rfl
        · have q3 : ¬ nI (arl g s) = (4 : Int32) := fun q2 => q (nI_ij (by omega) (by decide) q2)
          rw [if_neg q, if_neg q3]
      have h0 := h
      unfold sta at h0
      rw [Bool.and_eq_true, Bool.not_eq_true'] at h0
      rw [h0.1, h0.2]
      simp only [Bool.false_eq_true, if_false, if_true, ne_1_0, hl, b1s, hk_let, hv, hvl]
      rw [inb_nI hv9 (by decide), gds, gds, b2s, cl_nI (by omega), i1, nI_add, nI_add]) (by
    show st_X8_countArcs_4c w (nI (fb_ct (sta g) 8)) (nI 8) (cw g k 8) = _
    unfold st_X8_countArcs_4c
    rw [if_pos (by decide)]) (by decide)
  unfold f_X8_countArcs
  have e' : hk_wl (st_X8_countArcs_4 w) hkF ((0 : Int32), (0 : Int32), k) = _ := e
  rw [e', b2s]
  have hle := fb_ct_le (sta g) 8
  generalize fb_ct (sta g) 8 = x at *
  simp only [hk_let]
  by_cases q : 2 ≤ x
  · rw [if_pos q, if_neg (show ¬ nI x ≤ 1 from nI_ge (show 1 < x by omega) (by omega)), i1, nI_add]
  · rw [if_neg q, if_pos (show nI x ≤ 1 from (nI_leI (b := 1) (by omega) (by decide)).mpr (by omega)), i0, nI_add]
