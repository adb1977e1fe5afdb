/-! forms -/
def gfm (c : Int64) (j : Nat) : Int64 := lf (c ||| hk_shl 1 (nI j))
theorem enm_add {n : Nat} {w : Nat → Int64} {S T : Int64 → Prop} {v : Int64} (h : enm n w S) (hv : ¬ S v) (hT : ∀ u, T u ↔ S u ∨ u = v) : enm (n + 1) (vp_updL w n v) T := by
  refine ⟨fun i j hij hj => ?_, fun u => ?_⟩
  · rw [updL_n (show i ≠ n by omega)]
    by_cases e : j = n
    · rw [e, updL_s]
      exact fun q => hv ((h.2 v).mp ⟨i, by omega, q⟩)
    · rw [updL_n e]
      exact h.1 i j hij (by omega)
  · rw [hT]
    constructor
    · rintro ⟨i, hi, e⟩
      by_cases q : i = n
      · rw [q, updL_s] at e; exact Or.inr e.symm
      · rw [updL_n q] at e; exact Or.inl ((h.2 u).mp ⟨i, by omega, e⟩)
    · rintro (q | q)
      · obtain ⟨i, hi, e⟩ := (h.2 u).mpr q
        exact ⟨i, by omega, by rw [updL_n (show i ≠ n by omega)]; exact e⟩
      · exact ⟨n, by omega, by rw [updL_s, q]⟩
theorem enm_old {n : Nat} {w : Nat → Int64} {S T : Int64 → Prop} {v : Int64} (h : enm n w S) (hv : S v) (hT : ∀ u, T u ↔ S u ∨ u = v) : enm n w T := enm_c h (fun u => by
  rw [hT]
  exact ⟨Or.inl, fun k => k.elim id (fun e => by rw [e]; exact hv)⟩)
theorem enm_upd {n : Nat} {w : Nat → Int64} {S : Int64 → Prop} (h : enm n w S) (v : Int64) : enm n (vp_updL w n v) S := by
  refine ⟨fun i j hij hj => ?_, fun u => ?_⟩
  · rw [updL_n (show i ≠ n by omega), updL_n (show j ≠ n by omega)]
    exact h.1 i j hij hj
  · rw [← h.2 u]
    constructor
    · rintro ⟨i, hi, e⟩
      rw [updL_n (show i ≠ n by omega)] at e
      exact ⟨i, hi, e⟩
    · rintro ⟨i, hi, e⟩
      exact ⟨i, hi, by rw [updL_n (show i ≠ n by omega)]; exact e⟩
theorem x8_fm1 {n : Nat} (hn : n < 64) (w : Nat → Int64) (r : Int64) : ∃ z, hk_wl (st_X8_forms_59 (nI n) w r) hkF ((1 : Int32), (0 : Int32)) = some z ∧ (z = 0 ↔ ∃ i, i < n ∧ w i = r) := by
  refine wl_inv (f := st_X8_forms_59 (nI n) w r) (fun i s => s.2 = nI i ∧ (s.1 = 0 ↔ ∃ j, j < i ∧ w j = r)) (fun z => z = 0 ↔ ∃ i, i < n ∧ w i = r) (e := n) ?_ ?_ (by omega) ⟨rfl, fun q => absurd q ne_1_0, fun ⟨j, hj, _⟩ => by omega⟩
  · rintro i ⟨f, y⟩ hi ⟨h1, h2⟩
    dsimp only at h1 h2
    subst h1
    show ∃ s', st_X8_forms_59c (nI n) w r f (nI i) = some (.inl s') ∧ _
    unfold st_X8_forms_59c
    rw [if_neg (nI_ge hi (by omega)), inb_nI (show i < 64 by omega) (by decide), gds, inb_nI hn (by decide), gds, cl_nI (show i < 2 ^ 31 by omega), cl_nI (show n < 2 ^ 31 by omega), updL_s, updL_n (show i ≠ n by omega), show nI i + 1 = nI (i + 1) from by rw [i1, nI_add]]
    have up : (∃ j, j < i + 1 ∧ w j = r) ↔ (∃ j, j < i ∧ w j = r) ∨ w i = r := by
      constructor
      · rintro ⟨j, a, b⟩
        by_cases q : j = i
        · rw [q] at b; exact Or.inr b
        · exact Or.inl ⟨j, by omega, b⟩
      · rintro (⟨j, a, b⟩ | b)
        · exact ⟨j, by omega, b⟩
        · exact ⟨i, by omega, b⟩
    by_cases hf : f = 0
    · rw [if_pos hf, b1s]
      exact ⟨_, rfl, rfl, fun _ => up.mpr (Or.inl (h2.mp hf)), fun _ => rfl⟩
    · rw [if_neg hf]
      by_cases q : w i = r
      · rw [if_pos q, b1s]
        exact ⟨_, rfl, rfl, fun _ => up.mpr (Or.inr q), fun _ => rfl⟩
      · rw [if_neg q, b1s]
        refine ⟨_, rfl, rfl, fun z => absurd z ne_1_0, fun z => ?_⟩
        rcases up.mp z with z | z
        · exact absurd (h2.mpr z) hf
        · exact absurd z q
  · rintro ⟨f, y⟩ ⟨h1, h2⟩
    dsimp only at h1 h2
    subst h1
    show ∃ z, st_X8_forms_59c (nI n) w r f (nI n) = some (.inr z) ∧ _
    unfold st_X8_forms_59c
    rw [if_pos (Int32.le_refl _)]
    exact ⟨_, rfl, h2⟩
theorem x8_fm {nr : Nat → Int64} (hn : ∀ i, i < 64 → nr i = nearT i) {tn : Nat → Int32} (ht : ∀ t i, t < 8 → i < 64 → tn (64 * t + i) = nI (turnT t i)) (b : Nat → Int64) {j : Nat} (hj : j < 8) (lm : Int32) (fm lk : Nat → Int64) : ∃ r, hk_wl (st_X8_forms_13 b nr tn (nI j)) hkF ((0 : Int32), (0 : Int32), lm, fm, lk) = some r ∧ ∃ n g, n ≤ 64 ∧ r.1 = nI n ∧ enm n g (fun u => ∃ i, i < 64 ∧ bl (aro (b j)) i = true ∧ u = gfm (b j) i) := by
  refine wl_inv (f := st_X8_forms_13 b nr tn (nI j)) (fun i s => s.2.1 = nI i ∧ ∃ n, n ≤ i ∧ s.1 = nI n ∧ enm n s.2.2.2.1 (fun u => ∃ m, m < i ∧ bl (aro (b j)) m = true ∧ u = gfm (b j) m)) (fun r => ∃ n g, n ≤ 64 ∧ r.1 = nI n ∧ enm n g (fun u => ∃ i, i < 64 ∧ bl (aro (b j)) i = true ∧ u = gfm (b j) i)) (e := 64) ?_ ?_ (by decide) ⟨rfl, 0, by omega, rfl, fun a b _ hb => by omega, fun u => ⟨fun ⟨a, ha, _⟩ => by omega, fun ⟨m, hm, _⟩ => by omega⟩⟩
  · rintro i ⟨y, z, v, w, u⟩ hi ⟨h1, n, h2, h3, h4⟩
    dsimp only at h1 h3 h4
    subst h1 h3
    show ∃ s', st_X8_forms_13c b nr tn (nI j) (nI n) (nI i) v w u = some (.inl s') ∧ _
    unfold st_X8_forms_13c
    rw [if_neg (show ¬ (64 : Int32) ≤ nI i from nI_ge hi (by decide)), inb_nI hj (by decide), gds, gds, cl_nI (show j < 2 ^ 31 by omega), x8_grows hn _ hi, b1s, show nI i + 1 = nI (i + 1) from by rw [i1, nI_add]]
    have up : ∀ q, (∃ m, m < i + 1 ∧ bl (aro (b j)) m = true ∧ q = gfm (b j) m) ↔ (∃ m, m < i ∧ bl (aro (b j)) m = true ∧ q = gfm (b j) m) ∨ (bl (aro (b j)) i = true ∧ q = gfm (b j) i) := fun q => by
      constructor
      · rintro ⟨m, a, c⟩
        by_cases e : m = i
        · rw [e] at c; exact Or.inr c
        · exact Or.inl ⟨m, by omega, c⟩
      · rintro (⟨m, a, c⟩ | c)
        · exact ⟨m, by omega, c⟩
        · exact ⟨i, by omega, c⟩
    cases hb : bl (aro (b j)) i
    · rw [if_neg (show ¬ false = true by decide), if_pos rfl, b4s]
      refine ⟨_, rfl, rfl, n, by omega, rfl, enm_c h4 (fun q => ?_)⟩
      rw [up q, hb]
      exact ⟨Or.inl, fun k => k.elim id (fun ⟨a, _⟩ => by cases a)⟩
    · obtain ⟨m1, w1, e1⟩ := x8_form ht v u (b j ||| hk_shl 1 (nI i))
      obtain ⟨z1, e2, e3⟩ := x8_fm1 (show n < 64 by omega) w (lf (b j ||| hk_shl 1 (nI i)))
      rw [if_pos rfl, if_neg ne_1_0, e1, b3s, inb_nI (show n < 64 by omega) (by decide), gds, e2, b1s, cl_nI (show n < 2 ^ 31 by omega)]
      simp only [hk_let]
      have hT : ∀ q, (∃ m, m < i + 1 ∧ bl (aro (b j)) m = true ∧ q = gfm (b j) m) ↔ (∃ m, m < i ∧ bl (aro (b j)) m = true ∧ q = gfm (b j) m) ∨ q = gfm (b j) i := fun q => by
        rw [up q, hb]
        exact or_congr_right ⟨fun k => k.2, fun k => ⟨rfl, k⟩⟩
      by_cases hz : z1 = 0
      · rw [if_pos hz, b4s, i0, nI_add, Nat.add_zero]
        exact ⟨_, rfl, rfl, n, by omega, rfl, enm_old (enm_upd h4 _) ((h4.2 _).mp (e3.mp hz)) hT⟩
      · rw [if_neg hz, b4s, i1, nI_add]
        exact ⟨_, rfl, rfl, n + 1, by omega, rfl, enm_add h4 (fun k => hz (e3.mpr ((h4.2 _).mpr k))) hT⟩
  · rintro ⟨y, z, v, w, u⟩ ⟨h1, n, h2, h3, h4⟩
    dsimp only at h1 h3 h4
    subst h1 h3
    show ∃ r, st_X8_forms_13c b nr tn (nI j) (nI n) (nI 64) v w u = some (.inr r) ∧ _
    unfold st_X8_forms_13c
    rw [if_pos (show (64 : Int32) ≤ nI 64 by decide)]
    exact ⟨_, rfl, n, w, h2, rfl, h4⟩
theorem rb_low {c : Int64} {m : Nat} (hm : m < popc c) : ¬ rb c m = 0 ∧ low (rb c m) < 64 ∧ bl c (low (rb c m)) = true ∧ fb_ct (bl c) (low (rb c m)) = m := by
  obtain ⟨i, hi, h1, h2⟩ := fb_ct_kth (p := bl c) (n := 64) hm
  have nz : ¬ rb c m = 0 := fun e => by
    have := (rb_bit c m hi).mpr ⟨h1, by omega⟩
    rw [e, bl_0] at this; cases this
  obtain ⟨l1, l2, l3⟩ := low_of nz
  have hc := (rb_bit c m l1).mp l2
  refine ⟨nz, l1, hc.1, ?_⟩
  rcases Nat.lt_or_ge m (fb_ct (bl c) (low (rb c m))) with q | q
  · obtain ⟨k, hk, e1, e2⟩ := fb_ct_kth q
    have := (rb_bit c m (show k < 64 by omega)).mpr ⟨e1, by omega⟩
    rw [l3 k hk] at this; cases this
  · omega
theorem x7_fm (c : Int64) (fm : Nat → Int64) : ∃ n g w', n ≤ 64 ∧ f_X7_countGrownForms fm c = some (nI n, w') ∧ enm n g (fun u => ∃ i, i < 64 ∧ bl (aro c) i = true ∧ u = gfm c i) := by
  have hp := popc_le (aro c)
  have e := wl_inv (f := st_X7_countGrownForms_11 c) (fun m s => s.1 = rb (aro c) m ∧ s.2.2.1 = nI m ∧ ∃ n, n ≤ m ∧ s.2.1 = nI n ∧ enm n s.2.2.2 (fun u => ∃ i, i < 64 ∧ bl (aro c) i = true ∧ fb_ct (bl (aro c)) i < m ∧ u = gfm c i)) (fun r => ∃ n g, n ≤ 64 ∧ r.1 = nI n ∧ enm n g (fun u => ∃ i, i < 64 ∧ bl (aro c) i = true ∧ u = gfm c i)) (e := popc (aro c)) (s := (aro c, (0 : Int32), (0 : Int32), fm)) (by
    rintro m ⟨x, y, z, w⟩ hm ⟨h1, h2, n, h3, h4, h5⟩
    dsimp only at h1 h2 h4 h5
    subst h1 h2 h4
    show ∃ s', st_X7_countGrownForms_11c c (rb (aro c) m) (nI n) (nI m) w = some (.inl s') ∧ _
    unfold st_X7_countGrownForms_11c
    obtain ⟨nz, l1, l2, l3⟩ := rb_low hm
    have hb2 : rb (aro c) (m + 1) = rb (aro c) m ^^^ (rb (aro c) m &&& -rb (aro c) m) := rfl
    rw [if_neg (show ¬ (64 : Int32) ≤ nI m from nI_ge (show m < 64 by omega) (by decide)), if_neg nz]
    simp only [hk_let]
    rw [← hb2, lowbit nz, x3_least, b1s, among w (by decide) (show n ≤ 64 by omega), b1s, show nI m + 1 = nI (m + 1) from by rw [i1, nI_add]]
    have hT : ∀ q, (∃ i, i < 64 ∧ bl (aro c) i = true ∧ fb_ct (bl (aro c)) i < m + 1 ∧ q = gfm c i) ↔ (∃ i, i < 64 ∧ bl (aro c) i = true ∧ fb_ct (bl (aro c)) i < m ∧ q = gfm c i) ∨ q = gfm c (low (rb (aro c) m)) := fun q => by
      constructor
      · rintro ⟨i, a1, a2, a3, a4⟩
        by_cases z : fb_ct (bl (aro c)) i = m
        · have := fb_ct_kth_one a2 l2 (by omega)
          rw [this] at a4; exact Or.inr a4
        · exact Or.inl ⟨i, a1, a2, by omega, a4⟩
      · rintro (⟨i, a1, a2, a3, a4⟩ | a4)
        · exact ⟨i, a1, a2, by omega, a4⟩
        · exact ⟨_, l1, l2, by omega, a4⟩
    have hle := fa_first_le (fun i => decide (w i = lf (c ||| hk_shl 1 (nI (low (rb (aro c) m)))))) n
    have hno := fa_first_no (fun i => decide (w i = lf (c ||| hk_shl 1 (nI (low (rb (aro c) m)))))) n
    have hyes := fa_first_yes (fun i => decide (w i = lf (c ||| hk_shl 1 (nI (low (rb (aro c) m)))))) n
    by_cases q : fa_first (fun i => decide (w i = lf (c ||| hk_shl 1 (nI (low (rb (aro c) m)))))) n = n
    · rw [if_pos q, if_pos rfl, inb_nI (show n < 64 by omega) (by decide), gds, b2s, cl_nI (by omega), i1, nI_add]
      refine ⟨_, rfl, rfl, rfl, n + 1, by omega, rfl, enm_add h5 (fun k => ?_) hT⟩
      obtain ⟨i, hi, ei⟩ := (h5.2 _).mpr k
      have := hno i (by omega)
      rw [decide_eq_false_iff_not] at this
      exact this ei
    · rw [if_neg q, if_neg ne_1_0, b2s]
      have := hyes (by omega)
      rw [decide_eq_true_eq] at this
      exact ⟨_, rfl, rfl, rfl, n, by omega, rfl, enm_old h5 ((h5.2 _).mp ⟨_, (by omega : fa_first (fun i => decide (w i = lf (c ||| hk_shl 1 (nI (low (rb (aro c) m)))))) n < n), this⟩) hT⟩) (by
    rintro ⟨x, y, z, w⟩ ⟨h1, h2, n, h3, h4, h5⟩
    dsimp only at h1 h2 h4 h5
    subst h1 h2 h4
    show ∃ r, st_X7_countGrownForms_11c c (rb (aro c) (popc (aro c))) (nI n) (nI (popc (aro c))) w = some (.inr r) ∧ _
    unfold st_X7_countGrownForms_11c
    have hz : rb (aro c) (popc (aro c)) = 0 := (bl_eq0 _).mpr (fun i hi => by
      cases hb : bl (rb (aro c) (popc (aro c))) i
      · rfl
      · have h1 := (rb_bit (aro c) _ hi).mp hb
        have h2 := ct_lt (p := bl (aro c)) hi h1.1
        have h3 := h1.2
        unfold popc at h3
        omega)
    rw [hz, if_pos rfl, ite_self]
    refine ⟨_, rfl, n, w, by omega, rfl, enm_c h5 (fun u => ⟨fun ⟨i, a1, a2, a3, a4⟩ => ⟨i, a1, a2, a4⟩, fun ⟨i, a1, a2, a4⟩ => ⟨i, a1, a2, ?_, a4⟩⟩)⟩
    exact ct_lt (p := bl (aro c)) a1 a2) (by omega) ⟨rfl, rfl, 0, by omega, rfl, fun a b _ hb => by omega, fun u => ⟨fun ⟨a, ha, _⟩ => by omega, fun ⟨i, _, _, a3, _⟩ => by omega⟩⟩
  obtain ⟨⟨r1, r2⟩, e1, n, g, e2, e3, e4⟩ := e
  dsimp only at e3
  subst e3
  unfold f_X7_countGrownForms
  rw [aro_f, b1s, e1, b2s]
  exact ⟨n, g, r2, e2, rfl, e4⟩
theorem pr_forms {nr : Nat → Int64} (hn : ∀ i, i < 64 → nr i = nearT i) {tn : Nat → Int32} (ht : ∀ t i, t < 8 → i < 64 → tn (64 * t + i) = nI (turnT t i)) {a b : Nat → Int64} (h : fe a b) (sn : Nat → Int64) (lm : Int32) (fm lk : Nat → Int64) (x : Int32) : ∃ r sn' lm' fm' lk', f_X7_forms a sn x = some (r, sn') ∧ f_X8_forms lm b nr fm tn lk x = some (r, lm', fm', lk') := by
  unfold f_X7_forms f_X8_forms
  rcases ix_cases x 8 (by decide) with ⟨j, hj, rfl⟩ | hx
  · obtain ⟨n, g, w', e1, e2, e3⟩ := x7_fm (b j) sn
    obtain ⟨⟨r1, r2, r3, r4⟩, e4, n', g', e5, e6, e7⟩ := x8_fm hn ht b hj lm fm lk
    dsimp only at e6
    have ee := enm_eq e3 e7
    subst e6 ee
    rw [noF_0 hj, isF_1 hj, b1s, b1s, if_pos rfl, if_neg ne_1_0, inb_nI hj (by decide), gds, cl_nI (by omega), h j hj, e2, b2s, e4, b4s]
    exact ⟨_, _, _, _, _, rfl, rfl⟩
  · rw [noF_1 hx, isF_0 hx, b1s, b1s]
    exact ⟨-1, sn, lm, fm, lk, by simp, by simp⟩
