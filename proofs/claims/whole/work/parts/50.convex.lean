/-! corners and convex, both sides -/
def zr (w : Nat → Int32) : Nat → Nat → Int32
  | 0 => w
  | n + 1 => upd (zr w n) n 0
theorem zr_at {w : Nat → Int32} : ∀ {n v : Nat}, v < n → zr w n v = 0
  | n + 1, v, h => by
    show upd (zr w n) n 0 v = 0
    by_cases e : v = n
    · rw [e, upd_s]
    · rw [show upd (zr w n) n 0 v = zr w n v from if_neg e]
      exact zr_at (by omega)
def sc (c : Int64) (w : Nat → Int32) : Nat → Nat → Int32
  | 0 => w
  | p + 1 => wrB (rg c p) (sc c w p) 8
def cr (c : Int64) (w : Nat → Int32) : Nat → Nat → Int32
  | 0 => w
  | p + 1 => cw (rg c p) (cr c w p) 8
def dbl (c : Int64) : Nat → Nat
  | 0 => 0
  | p + 1 => dbl c p + if 2 ≤ fb_ct (sta (rg c p)) 8 then 1 else 0
theorem x8_zr (w : Nat → Int32) : hk_wl st_X8_layCorners_2 hkF ((0 : Int32), w) = some (zr w 9) :=
  wl_for0 (f := st_X8_layCorners_2) (fun n => (nI n, zr w n)) (e := 9) (r := zr w 9) (by
    intro n hn
    show st_X8_layCorners_2c (nI n) (zr w n) = _
    unfold st_X8_layCorners_2c
    rw [if_neg (show ¬ (9 : Int32) ≤ nI n from nI_ge hn (by decide)), inb_nI hn (by decide), gds, cl_nI (by omega), i1, nI_add]
    rfl) (by
    show st_X8_layCorners_2c (nI 9) (zr w 9) = _
    unfold st_X8_layCorners_2c
    rw [if_pos (by decide)]) (by decide)
theorem x8_lay1 (c : Int64) (k w : Nat → Int32) : hk_wl (st_X8_layCorners_28 c) hkF ((0 : Int32), (0 : Int32), k, w) = some (nI (dbl c 25), cr c k 25, sc c w 25) :=
  wl_for0 (f := st_X8_layCorners_28 c) (fun p => (nI p, nI (dbl c p), cr c k p, sc c w p)) (e := 25) (r := (nI (dbl c 25), cr c k 25, sc c w 25)) (by
    intro p hp
    show st_X8_layCorners_28c c (nI p) (nI (dbl c p)) (cr c k p) (sc c w p) = _
    unfold st_X8_layCorners_28c
    have hg : rg c p = rgC c (p / 5) (p % 5) := by
      funext s
      exact if_pos hp
    rw [if_neg (show ¬ (25 : Int32) ≤ nI p from nI_ge hp (by decide)), i5, div_nI (by omega) (by decide) (by decide), rem_nI (by omega) (by decide) (by decide), x8_layCorner c (show p / 5 < 5 by omega) (show p % 5 < 5 by omega), b1s, ← hg, x8_arcs (g := rg c p) (fun s hs => wrB_at hs), b2s, i1, nI_add]
    rfl) (by
    show st_X8_layCorners_28c c (nI 25) _ _ _ = _
    unfold st_X8_layCorners_28c
    rw [if_pos (by decide)]) (by decide)
theorem x8_lay2 (c : Int64) (k w : Nat → Int32) : hk_wl (st_X8_layCorners_57 c) hkF ((0 : Int32), nI (dbl c 25), cr c k 25, sc c w 25) = some (nI (dbl c 41), cr c k 41, sc c w 41) :=
  wl_for0 (f := st_X8_layCorners_57 c) (fun p => (nI p, nI (dbl c (25 + p)), cr c k (25 + p), sc c w (25 + p))) (e := 16) (r := (nI (dbl c 41), cr c k 41, sc c w 41)) (by
    intro p hp
    show st_X8_layCorners_57c c (nI p) (nI (dbl c (25 + p))) (cr c k (25 + p)) (sc c w (25 + p)) = _
    unfold st_X8_layCorners_57c
    have hg : rg c (25 + p) = rgM c p := by
      funext s
      show (if 25 + p < 25 then rgC c ((25 + p) / 5) ((25 + p) % 5) s else rgM c (25 + p - 25) s) = _
      rw [if_neg (by omega), show 25 + p - 25 = p by omega]
    rw [if_neg (show ¬ (16 : Int32) ≤ nI p from nI_ge hp (by decide)), x8_layMidst c hp, b1s, ← hg, x8_arcs (g := rg c (25 + p)) (fun s hs => wrB_at hs), b2s, i1, nI_add]
    rfl) (by
    show st_X8_layCorners_57c c (nI 16) _ _ _ = _
    unfold st_X8_layCorners_57c
    rw [if_pos (by decide)]) (by decide)
theorem x8_layCorners (d : Int32) (k w : Nat → Int32) (c : Int64) : f_X8_layCorners d k w c = some (nI (dbl c 41), cr c (zr k 9) 41, sc c w 41) := by
  unfold f_X8_layCorners
  rw [x8_zr, b1s, x8_lay1, b3s, x8_lay2, b3s]
def vlk (c : Int64) (v k : Nat) : Bool := decide (vl (rg c (k / 8)) (k % 8) = v)
theorem cr_at (c : Int64) (k : Nat → Int32) {v : Nat} (hv : v < 8) : ∀ p, cr c (zr k 9) p v = nI (fb_ct (vlk c v) (8 * p))
  | 0 => zr_at (show v < 9 by omega)
  | p + 1 => by
    show cw (rg c p) (cr c (zr k 9) p) 8 v = _
    rw [cw_at _ _ hv 8 (by omega), cr_at c k hv p, nI_add, show 8 * (p + 1) = 8 * p + 8 by omega, fb_ct_split]
    have : fb_ct (fun s => decide (vl (rg c p) s = v)) 8 = fb_ct (fun s => vlk c v (8 * p + s)) 8 := fb_ct_cong (fun s hs => by
      show _ = decide (vl (rg c ((8 * p + s) / 8)) ((8 * p + s) % 8) = v)
      rw [(k8 p s hs).1, (k8 p s hs).2])
    rw [this]
def vup (c : Int64) (n k : Nat) : Bool := decide (1 ≤ vl (rg c (k / 8)) (k % 8)) && decide (vl (rg c (k / 8)) (k % 8) ≤ n)
theorem vup_s (c : Int64) (n m : Nat) : fb_ct (vup c (n + 1)) m = fb_ct (vup c n) m + fb_ct (vlk c (n + 1)) m := by
  rw [← fb_ct_or]
  · refine fb_ct_cong (fun k _ => ?_)
    unfold vup vlk
    generalize vl (rg c (k / 8)) (k % 8) = x
    by_cases h1 : x = n + 1
    · subst h1; simp
    · by_cases h2 : x ≤ n
      · simp [h1, h2, show x ≤ n + 1 by omega]
      · simp [h1, h2, show ¬ x ≤ n + 1 by omega]
  · intro k _
    unfold vup vlk
    generalize vl (rg c (k / 8)) (k % 8) = x
    rw [Bool.and_eq_true, decide_eq_true_eq, decide_eq_true_eq, decide_eq_true_eq]
    omega
theorem x8_sum (c : Int64) (k : Nat → Int32) : hk_wl (st_X8_corners_39 (cr c (zr k 9) 41)) hkF ((0 : Int32), (1 : Int32)) = some (nI (fb_ct (vup c 7) 328)) := by
  have z : fb_ct (vup c 0) 328 = 0 := fb_ct_zero.mpr (fun k _ => by
    unfold vup
    generalize vl (rg c (k / 8)) (k % 8) = x
    by_cases h : x = 0
    · subst h; rfl
    · rw [decide_eq_false (show ¬ x ≤ 0 by omega), Bool.and_false])
  have e := wl_for0 (f := st_X8_corners_39 (cr c (zr k 9) 41)) (fun i => (nI (fb_ct (vup c i) 328), nI (i + 1))) (e := 7) (r := nI (fb_ct (vup c 7) 328)) (by
    intro i hi
    show st_X8_corners_39c _ (nI (fb_ct (vup c i) 328)) (nI (i + 1)) = _
    unfold st_X8_corners_39c
    rw [if_neg (show ¬ (8 : Int32) ≤ nI (i + 1) from nI_ge (show i + 1 < 8 by omega) (by decide)), inb_nI (show i + 1 < 9 by omega) (by decide), gds, cl_nI (by omega), cr_at c k (show i + 1 < 8 by omega)]
    simp only [hk_let, i1, nI_add, vup_s]) (by
    show st_X8_corners_39c _ (nI (fb_ct (vup c 7) 328)) (nI 8) = _
    unfold st_X8_corners_39c
    rw [if_pos (by decide)]) (by decide)
  have e' : hk_wl (st_X8_corners_39 (cr c (zr k 9) 41)) hkF (nI (fb_ct (vup c 0) 328), nI 1) = _ := e
  rw [z] at e'
  exact e'
theorem cdk_0 (c : Int64) : fb_ct (cdk c 0) 328 = fb_ct (vup c 7) 328 := fb_ct_cong (fun k _ => rfl)
theorem cdk_m (c : Int64) {m : Nat} (h : ¬ m = 0) : fb_ct (cdk c m) 328 = fb_ct (vlk c m) 328 := fb_ct_cong (fun k _ => if_neg h)
theorem pr_corners {a b : Nat → Int64} (h : fe a b) (d : Int32) (k w : Nat → Int32) (x y : Int32) : ∃ r d' k' w', f_X7_corners a x y = some r ∧ f_X8_corners d b k w x y = some (r, d', k', w') := by
  unfold f_X7_corners f_X8_corners
  rcases ix_cases x 8 (by decide) with ⟨j, hj, rfl⟩ | hx
  · rw [noF_0 hj, isF_1 hj, b1s, b1s, if_pos rfl, if_neg ne_1_0]
    rcases ix_cases y 8 (by decide) with ⟨m, hm, rfl⟩ | hy
    · have n0 : ¬ nI m < 0 := fun q => by
        have h1 := (nI_ltI (show m < 2 ^ 31 by omega) (show 0 < 2 ^ 31 by decide)).mp q
        omega
      have n7 : nI m ≤ 7 := (nI_leI (b := 7) (by omega) (by decide)).mpr (by omega)
      rw [if_neg n0, if_pos n7, show f_X8_in (nI m).toInt64 0 7 = some 1 from in_nI (n := 7) (by omega) (by decide), b1s, if_neg ne_1_0, inb_nI hj (by decide), gds, gds, cl_nI (by omega), h j hj, x4_count _ (by omega), b1s, x8_layCorners, b3s, x8_sum, b1s]
      by_cases q : m = 0
      · subst q
        rw [if_pos (show nI 0 = 0 from rfl), cdk_0]
        exact ⟨_, _, _, _, rfl, rfl⟩
      · have q' : ¬ nI m = 0 := fun e => q (nI_ij (by omega) (by decide) e)
        rw [if_neg q', inb_nI (show m < 9 by omega) (by decide), gds, cl_nI (by omega), cr_at _ _ hm, cdk_m _ q]
        exact ⟨_, _, _, _, rfl, rfl⟩
    · rw [show f_X8_in y.toInt64 0 7 = some 0 from in_out (n := 7) (by decide) hy, b1s, if_pos rfl]
      refine ⟨-2, d, k, w, ?_, rfl⟩
      rcases hy with hy | hy
      · rw [if_pos hy]
      · by_cases hn : y < 0
        · rw [if_pos hn]
        · rw [if_neg hn, if_neg (fun q => by
            rw [Int32.le_iff_toInt_le] at q hy
            have e8 : (nI 8).toInt = 8 := by decide
            have e7 : (7 : Int32).toInt = 7 := by decide
            omega)]
  · rw [noF_1 hx, isF_0 hx, b1s, b1s]
    exact ⟨-1, d, k, w, by simp, by simp⟩
theorem arc_0 {g : Nat → Bool} {s : Nat} (hs : s < 8) : arc g s = 0 ↔ sta g s = false := by
  unfold arc
  cases h : sta g s
  · simp
  · have := arl_rng hs h
    rw [if_pos rfl]
    constructor
    · intro q; omega
    · intro q; cases q
def blg (g : Nat → Bool) : Bool := decide (fa_first (fun s => decide (4 < arc g s)) 8 = 8) && decide (fb_ct (sta g) 8 ≤ 1)
theorem x4_blg (r : Int32) : f_X4_bulgesAt r = some (if blg (bi r) = true then 1 else 0) := by
  have hle := fa_first_le (fun s => decide (4 < arc (bi r) s)) 8
  have hno := fa_first_no (fun s => decide (4 < arc (bi r) s)) 8
  have hyes := fa_first_yes (fun s => decide (4 < arc (bi r) s)) 8
  have hb : blg (bi r) = (decide (fa_first (fun s => decide (4 < arc (bi r) s)) 8 = 8) && decide (fb_ct (sta (bi r)) 8 ≤ 1)) := rfl
  rw [hb]
  generalize fa_first (fun s => decide (4 < arc (bi r) s)) 8 = e at *
  have hl := wl_for0 (f := st_X4_bulgesAt_4 r) (fun s => (nI (fb_ct (sta (bi r)) s), nI s)) (e := e) (r := if e = 8 then .inr (nI (fb_ct (sta (bi r)) 8)) else .inl ()) (by
    intro s hs
    have h8 : s < 8 := by omega
    have h4 := hno s hs
    rw [decide_eq_false_iff_not] at h4
    show st_X4_bulgesAt_4c r (nI (fb_ct (sta (bi r)) s)) (nI s) = _
    unfold st_X4_bulgesAt_4c
    rw [if_neg (show ¬ (8 : Int32) ≤ nI s from nI_ge h8 (by decide)), x4_arc r h8, b1s, if_pos (show nI (arc (bi r) s) ≤ 4 from (nI_leI (b := 4) (by omega) (by decide)).mpr (by omega))]
    simp only [hk_let, fb_ct_succ, i1, nI_add]
    cases h : sta (bi r) s
    · rw [(arc_0 h8).mpr h, if_pos (show nI 0 ≤ 0 by decide)]; rfl
    · have h0 : ¬ arc (bi r) s = 0 := fun q => by rw [(arc_0 h8).mp q] at h; cases h
      rw [if_neg (show ¬ nI (arc (bi r) s) ≤ 0 from nI_ge (show 0 < arc (bi r) s by omega) (by omega))]; rfl) (by
    show st_X4_bulgesAt_4c r (nI (fb_ct (sta (bi r)) e)) (nI e) = _
    unfold st_X4_bulgesAt_4c
    by_cases q : e = 8
    · rw [if_pos q, q, if_pos (show (8 : Int32) ≤ nI 8 by decide)]
    · have h8 : e < 8 := by omega
      have h4 := hyes h8
      have h7 := arc_le (g := bi r) h8
      rw [decide_eq_true_eq] at h4
      rw [if_neg q, if_neg (show ¬ (8 : Int32) ≤ nI e from nI_ge h8 (by decide)), x4_arc r h8, b1s, if_neg (show ¬ nI (arc (bi r) e) ≤ 4 from nI_ge h4 (by omega))]) (by omega)
  unfold f_X4_bulgesAt
  have e' : hk_wl (st_X4_bulgesAt_4 r) hkF ((0 : Int32), (0 : Int32)) = _ := hl
  rw [e', b1s]
  have hc := fb_ct_le (sta (bi r)) 8
  generalize fb_ct (sta (bi r)) 8 = x at *
  by_cases q : e = 8
  · rw [if_pos q, decide_eq_true q, Bool.true_and]
    show (if 2 ≤ nI x then some (0 : Int32) else some 1) = _
    by_cases q2 : x ≤ 1
    · rw [decide_eq_true q2, if_pos rfl, if_neg (show ¬ (2 : Int32) ≤ nI x from nI_ge (show x < 2 by omega) (by decide))]
    · rw [decide_eq_false q2, if_neg (show ¬ false = true by decide), if_pos (show (2 : Int32) ≤ nI x from (nI_leI (a := 2) (by decide) (by omega)).mpr (by omega))]
  · rw [if_neg q, decide_eq_false q, Bool.false_and]
    rfl
theorem blg_c {g h : Nat → Bool} (e : ∀ s, s < 8 → g s = h s) : blg g = blg h := by
  unfold blg
  rw [ff_cong 8 (fun i hi => by rw [arc_c e hi]), fb_ct_cong (fun k hk => sta_c e hk)]
def blo (c : Int64) : Bool := decide (fa_first (fun p => !blg (rg c p)) 41 = 41)
theorem blo_all (c : Int64) : blo c = true ↔ ∀ p, p < 41 → blg (rg c p) = true := by
  have hle := fa_first_le (fun p => !blg (rg c p)) 41
  have hno := fa_first_no (fun p => !blg (rg c p)) 41
  have hyes := fa_first_yes (fun p => !blg (rg c p)) 41
  unfold blo
  rw [decide_eq_true_eq]
  generalize fa_first (fun p => !blg (rg c p)) 41 = e at *
  constructor
  · intro q p hp
    have := hno p (by omega)
    rwa [Bool.not_eq_false'] at this
  · intro q
    rcases Nat.lt_or_ge e 41 with q2 | q2
    · have := hyes q2
      rw [q e q2] at this
      cases this
    · omega
theorem x4_bulge (c : Int64) : f_X4_bulgeOnly c = some (if blo c = true then 1 else 0) := by
  have hB : blo c = decide (fa_first (fun p => !blg (rg c p)) 41 = 41) := rfl
  rw [hB]
  have hle := fa_first_le (fun p => !blg (rg c p)) 41
  have hno := fa_first_no (fun p => !blg (rg c p)) 41
  have hyes := fa_first_yes (fun p => !blg (rg c p)) 41
  generalize fa_first (fun p => !blg (rg c p)) 41 = e at *
  have hl := wl_for0 (f := st_X4_bulgeOnly_2 c) (fun p => nI p) (e := e) (r := if e = 41 then .inr () else .inl ()) (by
    intro p hp
    have h41 : p < 41 := by omega
    have h4 := hno p hp
    rw [Bool.not_eq_false'] at h4
    obtain ⟨v, ev, hv⟩ := x4_ring c h41
    show st_X4_bulgeOnly_2c c (nI p) = _
    unfold st_X4_bulgeOnly_2c
    rw [if_neg (show ¬ (41 : Int32) ≤ nI p from nI_ge h41 (by decide)), ev, b1s, x4_blg, b1s, blg_c hv, h4, if_pos rfl, if_neg ne_1_0, i1, nI_add]
    rfl) (by
    show st_X4_bulgeOnly_2c c (nI e) = _
    unfold st_X4_bulgeOnly_2c
    by_cases q : e = 41
    · rw [if_pos q, q, if_pos (show (41 : Int32) ≤ nI 41 by decide)]
    · have h41 : e < 41 := by omega
      have h4 := hyes h41
      rw [Bool.not_eq_true'] at h4
      obtain ⟨v, ev, hv⟩ := x4_ring c h41
      rw [if_neg q, if_neg (show ¬ (41 : Int32) ≤ nI e from nI_ge h41 (by decide)), ev, b1s, x4_blg, b1s, blg_c hv, h4, if_neg (show ¬ false = true by decide), if_pos rfl]) (by omega)
  unfold f_X4_bulgeOnly
  have e' : hk_wl (st_X4_bulgeOnly_2 c) hkF (0 : Int32) = _ := hl
  rw [e', b1s]
  by_cases q : e = 41
  · rw [if_pos q, decide_eq_true q]
    rfl
  · rw [if_neg q, decide_eq_false q]
    rfl
theorem dbl_0 (c : Int64) : ∀ n, dbl c n ≤ n ∧ (dbl c n = 0 ↔ ∀ p, p < n → fb_ct (sta (rg c p)) 8 ≤ 1)
  | 0 => ⟨Nat.le_refl _, ⟨fun _ p hp => by omega, fun _ => rfl⟩⟩
  | n + 1 => by
    obtain ⟨h1, h2⟩ := dbl_0 c n
    have e : dbl c (n + 1) = dbl c n + if 2 ≤ fb_ct (sta (rg c n)) 8 then 1 else 0 := rfl
    rw [e]
    by_cases q : 2 ≤ fb_ct (sta (rg c n)) 8
    · rw [if_pos q]
      refine ⟨by omega, fun k => by omega, fun k => ?_⟩
      have := k n (by omega)
      omega
    · rw [if_neg q]
      refine ⟨by omega, fun k p hp => ?_, fun k => h2.mpr (fun p hp => k p (by omega))⟩
      by_cases hpn : p = n
      · subst hpn; omega
      · exact h2.mp k p (by omega)
theorem bok (c : Int64) : (∀ p, p < 41 → blg (rg c p) = true) ↔ dbl c 41 = 0 ∧ (fb_ct (vlk c 5) 328 + fb_ct (vlk c 6) 328) + fb_ct (vlk c 7) 328 = 0 := by
  have hd := (dbl_0 c 41).2
  constructor
  · intro h
    have hb := fun p hp => h p hp
    refine ⟨hd.mpr (fun p hp => ?_), ?_⟩
    · have := h p hp
      unfold blg at this
      rw [Bool.and_eq_true, decide_eq_true_eq, decide_eq_true_eq] at this
      exact this.2
    · have key : ∀ v, 4 < v → v < 8 → fb_ct (vlk c v) 328 = 0 := fun v hv4 hv8 => fb_ct_zero.mpr (fun k hk => by
        have := h (k / 8) (by omega)
        unfold blg at this
        rw [Bool.and_eq_true, decide_eq_true_eq, decide_eq_true_eq] at this
        have hs := fa_first_no (fun s => decide (4 < arc (rg c (k / 8)) s)) 8 (k % 8) (by rw [this.1]; omega)
        rw [decide_eq_false_iff_not] at hs
        unfold vlk vl
        rw [decide_eq_false_iff_not]
        split
        · split <;> omega
        · omega)
      rw [key 5 (by omega) (by omega), key 6 (by omega) (by omega), key 7 (by omega) (by omega)]
  · rintro ⟨h1, h2⟩ p hp
    have hst := hd.mp h1 p hp
    unfold blg
    rw [Bool.and_eq_true, decide_eq_true_eq, decide_eq_true_eq]
    refine ⟨?_, hst⟩
    have hle := fa_first_le (fun s => decide (4 < arc (rg c p) s)) 8
    have hyes := fa_first_yes (fun s => decide (4 < arc (rg c p) s)) 8
    generalize fa_first (fun s => decide (4 < arc (rg c p) s)) 8 = e at *
    rcases Nat.lt_or_ge e 8 with q | q
    · exfalso
      have h4 := hyes q
      rw [decide_eq_true_eq] at h4
      have h7 := arc_le (g := rg c p) q
      have hs : sta (rg c p) e = true := by
        cases hh : sta (rg c p) e
        · have := (arc_0 q).mpr hh; omega
        · rfl
      have hv : vl (rg c p) e = arc (rg c p) e := by
        unfold vl
        rw [if_pos hs, if_neg (by omega)]
      have hz : ∀ v, vl (rg c p) e = v → fb_ct (vlk c v) 328 = 0 → False := fun v hv hz => by
        have := fb_ct_zero.mp hz (8 * p + e) (by omega)
        unfold vlk at this
        rw [(k8 p e q).1, (k8 p e q).2, decide_eq_false_iff_not] at this
        exact this hv
      have h5 : arc (rg c p) e = 5 ∨ arc (rg c p) e = 6 ∨ arc (rg c p) e = 7 := by omega
      rcases h5 with h5 | h5 | h5
      · exact hz 5 (by omega) (by omega)
      · exact hz 6 (by omega) (by omega)
      · exact hz 7 (by omega) (by omega)
    · omega
theorem npt_0 : npt 0 = 0 := by
  have := npt_lt (f := 0) (n := 0)
  rcases Nat.eq_zero_or_pos (npt 0) with q | q
  · exact q
  · exact absurd rfl (this q)
theorem hol_le (f : Int64) : ∀ n, hol f n ≤ n
  | 0 => Nat.le_refl _
  | n + 1 => by
    have := hol_le f n
    unfold hol
    split <;> omega
theorem pr_convex {nr : Nat → Int64} (hn : ∀ i, i < 64 → nr i = nearT i) {a b : Nat → Int64} (h : fe a b) (d : Int32) (k w : Nat → Int32) (x : Int32) : ∃ r d' k' w', f_X7_convex a x = some r ∧ f_X8_convex d b k w nr x = some (r, d', k', w') := by
  unfold f_X7_convex f_X8_convex
  rcases ix_cases x 8 (by decide) with ⟨j, hj, rfl⟩ | hx
  · rw [noF_0 hj, isF_1 hj, b1s, b1s, if_pos rfl, if_neg ne_1_0]
    simp only [inb_nI hj (show 8 < 2 ^ 31 by decide), gds, cl_nI (show j < 2 ^ 31 by omega), h j hj, hk_let, x0_countParts, x8_partsOf hn, x8_layCorners, b1s, b3s, x0_holes, x8_holes hn, x4_bulge, show hk_inb 5 9 = true from rfl, show hk_inb 6 9 = true from rfl, show hk_inb 7 9 = true from rfl, show (5 : Int32).toNatClampNeg = 5 from rfl, show (6 : Int32).toNatClampNeg = 6 from rfl, show (7 : Int32).toNatClampNeg = 7 from rfl, cr_at (b j) k (show 5 < 8 by decide), cr_at (b j) k (show 6 < 8 by decide), cr_at (b j) k (show 7 < 8 by decide), nI_add]
    have hz : npt (b j) ≤ 64 := npt_le _
    have hd := (dbl_0 (b j) 41).1
    have h5 := fb_ct_le (vlk (b j) 5) (8 * 41)
    have h6 := fb_ct_le (vlk (b j) 6) (8 * 41)
    have h7 := fb_ct_le (vlk (b j) 7) (8 * 41)
    have hb := bok (b j)
    rw [show 328 = 8 * 41 from rfl] at hb
    have q1 : (nI (npt (b j)) = 1) ↔ npt (b j) = 1 := ⟨fun q => nI_ij (by omega) (by decide) q, fun q => by rw [q]; rfl⟩
    have q2 : (nI (dbl (b j) 41) = 0) ↔ dbl (b j) 41 = 0 := ⟨fun q => nI_ij (by omega) (by decide) q, fun q => by rw [q]; rfl⟩
    have q3 : (nI (fb_ct (vlk (b j) 5) (8 * 41) + fb_ct (vlk (b j) 6) (8 * 41) + fb_ct (vlk (b j) 7) (8 * 41)) = 0) ↔ fb_ct (vlk (b j) 5) (8 * 41) + fb_ct (vlk (b j) 6) (8 * 41) + fb_ct (vlk (b j) 7) (8 * 41) = 0 := ⟨fun q => nI_ij (by omega) (by decide) q, fun q => by rw [q]; rfl⟩
    have q0 : b j = 0 → ¬ npt (b j) = 1 := fun e => by rw [e, npt_0]; decide
    simp only [q1, q2, q3]
    generalize nI (hol (b j ^^^ -1) (npt (b j ^^^ -1))) = y
    by_cases p1 : npt (b j) = 1
    · have p0 : ¬ b j = 0 := fun e => q0 e p1
      by_cases p2 : y = 0
      · by_cases p3 : blo (b j) = true
        · obtain ⟨p4, p5⟩ := hb.mp ((blo_all _).mp p3)
          simp only [p1, p0, p2, p3, p4, p5, if_true, if_false, b1s, ne_1_0]
          exact ⟨_, _, _, _, rfl, rfl⟩
        · by_cases p4 : dbl (b j) 41 = 0
          · have p5 : ¬ fb_ct (vlk (b j) 5) (8 * 41) + fb_ct (vlk (b j) 6) (8 * 41) + fb_ct (vlk (b j) 7) (8 * 41) = 0 := fun q => p3 ((blo_all _).mpr (hb.mpr ⟨p4, q⟩))
            rw [if_neg p3]
            simp only [p1, p0, p2, p4, p5, if_true, if_false, b1s, ne_1_0]
            exact ⟨_, _, _, _, rfl, rfl⟩
          · rw [if_neg p3]
            simp only [p1, p0, p2, p4, if_true, if_false, b1s, ne_1_0]
            exact ⟨_, _, _, _, rfl, rfl⟩
      · simp only [p1, p0, p2, if_true, if_false, b1s, ne_1_0]
        exact ⟨_, _, _, _, rfl, rfl⟩
    · simp only [p1, if_false, b1s, ite_self, if_true]
      exact ⟨_, _, _, _, rfl, rfl⟩
  · rw [noF_1 hx, isF_0 hx, b1s, b1s]
    exact ⟨-1, d, k, w, by simp, by simp⟩
