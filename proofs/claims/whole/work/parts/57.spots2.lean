/-! the cap; all spots of a piece -/
def sqt (t s : Nat) : Nat := turnT t (4 * s) / 4
theorem sq_1 : ∀ t, t < 8 → ∀ i, i < 64 → turnT t i / 4 = sqt t (i / 4) := by decide +kernel
theorem sq_2 : ∀ t, t < 8 → ∀ s, s < 16 → ∀ r, r < 16 → ¬ s = r → ¬ sqt t s = sqt t r := by decide +kernel
theorem sq_3 : ∀ t, t < 8 → ∀ i, i < 64 → tp t i % 4 = tp t (i % 4) % 4 := by decide +kernel
theorem turn_cell {x : Int64} {t : Nat} (ht : t < 8) {i : Nat} (h : bl x i = true) : bl (trn x t) (turnT t i) = true ∧ turnT t i < 64 := by
  have htp := tp_ok t ht i (bl_lt h)
  simp only [Bool.and_eq_true, decide_eq_true_eq] at htp
  rw [trn_bit x t htp.2.2.1, htp.2.2.2]
  exact ⟨h, htp.2.2.1⟩
theorem cell_turn {x : Int64} {t : Nat} (ht : t < 8) {j : Nat} (h : bl (trn x t) j = true) : bl x (tp t j) = true ∧ tp t j < 64 ∧ turnT t (tp t j) = j := by
  have htp := tp_ok t ht j (bl_lt h)
  simp only [Bool.and_eq_true, decide_eq_true_eq] at htp
  rw [trn_bit x t (bl_lt h)] at h
  exact ⟨h, htp.1, htp.2.1⟩
theorem ct12a {P : Nat → Bool} (h : ∀ m, m < 16 → m % 4 = 3 → P m = false) : fb_ct P 16 ≤ 12 := by
  have : fb_ct P 16 ≤ fb_ct (fun m => decide (¬ m % 4 = 3)) 16 := fb_ct_sub (fun m hm hp => by
    rw [decide_eq_true_eq]
    intro q
    rw [h m hm q] at hp; cases hp)
  have e : fb_ct (fun m => decide (¬ m % 4 = 3)) 16 = 12 := by decide
  omega
theorem ct12b {P : Nat → Bool} (h : ∀ m, m < 16 → m / 4 = 3 → P m = false) : fb_ct P 16 ≤ 12 := by
  have : fb_ct P 16 ≤ fb_ct (fun m => decide (¬ m / 4 = 3)) 16 := fb_ct_sub (fun m hm hp => by
    rw [decide_eq_true_eq]
    intro q
    rw [h m hm q] at hp; cases hp)
  have e : fb_ct (fun m => decide (¬ m / 4 = 3)) 16 = 12 := by decide
  omega
theorem stk_12 {c : Int64} {i j : Nat} (hi : bl c i = true) (hj : bl c j = true) (h : ¬ i / 4 = j / 4) : fb_ct (stk c) 16 ≤ 12 := by
  have li := bl_lt hi
  have lj := bl_lt hj
  by_cases q : i / 4 % 4 = j / 4 % 4
  · refine ct12b (fun m hm h3 => ?_)
    cases hs : stk c m
    · rfl
    · have a1 := sty_in (x := c) (d := m % 4 + 3) (e := m / 4 + 3) hs hi
      have a2 := sty_in (x := c) (d := m % 4 + 3) (e := m / 4 + 3) hs hj
      omega
  · refine ct12a (fun m hm h3 => ?_)
    cases hs : stk c m
    · rfl
    · have a1 := sty_in (x := c) (d := m % 4 + 3) (e := m / 4 + 3) hs hi
      have a2 := sty_in (x := c) (d := m % 4 + 3) (e := m / 4 + 3) hs hj
      omega
def newc (p : Int64) (t : Nat) : Bool := decide (fa_first (fun r => decide (crn (trn p r) = crn (trn p t))) t = t)
theorem newc_t {p : Int64} {t : Nat} : newc p t = true ↔ ∀ r, r < t → ¬ crn (trn p r) = crn (trn p t) := by
  have hle := fa_first_le (fun r => decide (crn (trn p r) = crn (trn p t))) t
  have hno := fa_first_no (fun r => decide (crn (trn p r) = crn (trn p t))) t
  have hyes := fa_first_yes (fun r => decide (crn (trn p r) = crn (trn p t))) t
  unfold newc
  rw [decide_eq_true_eq]
  generalize fa_first (fun r => decide (crn (trn p r) = crn (trn p t))) t = e at *
  constructor
  · intro q r hr
    have := hno r (by omega)
    rwa [decide_eq_false_iff_not] at this
  · intro q
    rcases Nat.lt_or_ge e t with z | z
    · have := hyes z
      rw [decide_eq_true_eq] at this
      exact absurd this (q e z)
    · omega
theorem pat_q : ∀ q, q < 16 → ∀ t, t < 8 → 4 ≤ t → (List.range 4).any (fun r => (List.range 4).all (fun j => q.testBit (tp t j % 4) == q.testBit (tp r j % 4))) = true := by decide +kernel
theorem ex_q (P : Nat → Bool) : ∃ q, q < 16 ∧ ∀ i, i < 4 → q.testBit i = P i := by
  refine ⟨(P 0).toNat + 2 * (P 1).toNat + 4 * (P 2).toNat + 8 * (P 3).toNat, ?_, fun i hi => ?_⟩
  · cases P 0 <;> cases P 1 <;> cases P 2 <;> cases P 3 <;> decide
  · have h4 : i = 0 ∨ i = 1 ∨ i = 2 ∨ i = 3 := by omega
    rcases h4 with rfl | rfl | rfl | rfl <;> cases P 0 <;> cases P 1 <;> cases P 2 <;> cases P 3 <;> rfl
theorem one_sq {p : Int64} (h0 : ¬ p = 0) {s : Nat} (hs : ∀ i, bl p i = true → i / 4 = s) {t : Nat} (ht : t < 8) (j : Nat) : bl (crn (trn p t)) j = true ↔ j < 4 ∧ bl p (4 * s + tp t j % 4) = true := by
  have hy0 := trn_ne0 h0 ht
  obtain ⟨a, b, ha, hb, h1, h2, h3⟩ := cor_ex (trn p t)
  obtain ⟨⟨i1, p1, q1⟩, ⟨i2, p2, q2⟩⟩ := h2 hy0
  have hsq : ∀ i, bl (trn p t) i = true → i / 4 = sqt t s := fun i hi => by
    obtain ⟨g1, g2, g3⟩ := cell_turn ht hi
    rw [← g3, sq_1 t ht _ g2, hs _ g1]
  have c1 := hsq _ p1
  have c2 := hsq _ p2
  have l1 := bl_lt p1
  have hs' : sqt t s < 16 := by omega
  have e4 : 16 * b + 4 * a = 4 * sqt t s := by omega
  rw [h3, e4]
  obtain ⟨i0, hi0, hb0⟩ := bl_ne0 h0
  have hs0 := hs i0 hb0
  constructor
  · intro h
    have g := hsq _ h
    have hj : j < 4 := by omega
    obtain ⟨g1, g2, g3⟩ := cell_turn ht h
    have g4 := hs _ g1
    have g5 := sq_3 t ht _ (bl_lt h)
    rw [show (4 * sqt t s + j) % 4 = j by omega] at g5
    refine ⟨hj, ?_⟩
    rw [show 4 * s + tp t j % 4 = tp t (4 * sqt t s + j) by omega]
    exact g1
  · rintro ⟨hj, h⟩
    have hlt : 4 * sqt t s + j < 64 := by omega
    have htp := tp_ok t ht _ hlt
    simp only [Bool.and_eq_true, decide_eq_true_eq] at htp
    rw [trn_bit p t hlt]
    have g5 := sq_3 t ht _ hlt
    rw [show (4 * sqt t s + j) % 4 = j by omega] at g5
    have g6 := sq_1 t ht _ htp.1
    rw [htp.2.1] at g6
    have g7 : tp t (4 * sqt t s + j) / 4 = s := by
      by_cases q : tp t (4 * sqt t s + j) / 4 = s
      · exact q
      · exact absurd (show sqt t (tp t (4 * sqt t s + j) / 4) = sqt t s by omega) (sq_2 t ht _ (by omega) _ (by omega) q)
    rw [show tp t (4 * sqt t s + j) = 4 * s + tp t j % 4 by omega]
    exact h
theorem cap {p : Int64} (h0 : ¬ p = 0) : ∃ B, (∀ t, t < 8 → fb_ct (stk (crn (trn p t))) 16 ≤ B) ∧ B * fb_ct (newc p) 8 ≤ 96 := by
  obtain ⟨i0, hi0, hb0⟩ := bl_ne0 h0
  by_cases hA : ∃ j, bl p j = true ∧ ¬ j / 4 = i0 / 4
  · obtain ⟨j, hj, hne⟩ := hA
    refine ⟨12, fun t ht => ?_, ?_⟩
    · obtain ⟨a, b, ha, hb, h1, h2, h3⟩ := cor_ex (trn p t)
      obtain ⟨u1, u2⟩ := turn_cell ht hb0
      obtain ⟨v1, v2⟩ := turn_cell ht hj
      have w1 := h1 _ u1
      have w2 := h1 _ v1
      have hd := sq_2 t ht (i0 / 4) (by omega) (j / 4) (by have := bl_lt hj; omega) (fun q => hne q.symm)
      rw [← sq_1 t ht _ hi0, ← sq_1 t ht _ (bl_lt hj)] at hd
      refine stk_12 (i := turnT t i0 - (16 * b + 4 * a)) (j := turnT t j - (16 * b + 4 * a)) ?_ ?_ ?_
      · rw [h3, show 16 * b + 4 * a + (turnT t i0 - (16 * b + 4 * a)) = turnT t i0 by omega]; exact u1
      · rw [h3, show 16 * b + 4 * a + (turnT t j - (16 * b + 4 * a)) = turnT t j by omega]; exact v1
      · omega
    · have := fb_ct_le (newc p) 8
      omega
  · have hs : ∀ i, bl p i = true → i / 4 = i0 / 4 := fun i hi => Classical.byContradiction (fun q => hA ⟨i, hi, q⟩)
    refine ⟨16, fun t ht => fb_ct_le _ _, ?_⟩
    have h4 : ∀ t, t < 8 → 4 ≤ t → newc p t = false := fun t ht h4 => by
      cases hn : newc p t
      · rfl
      · exfalso
        obtain ⟨q, hq, hP⟩ := ex_q (fun τ => bl p (4 * (i0 / 4) + τ))
        have := pat_q q hq t ht h4
        rw [List.any_eq_true] at this
        obtain ⟨r, hr, hall⟩ := this
        rw [List.mem_range] at hr
        rw [List.all_eq_true] at hall
        refine newc_t.mp hn r (by omega) (bl_iff (fun j hj => ?_))
        rw [one_sq h0 hs (show r < 8 by omega), one_sq h0 hs ht]
        refine and_congr_right (fun hj4 => ?_)
        have e := hall j (List.mem_range.mpr hj4)
        rw [beq_iff_eq, hP _ (by omega), hP _ (by omega)] at e
        have e : bl p (4 * (i0 / 4) + tp t j % 4) = bl p (4 * (i0 / 4) + tp r j % 4) := e
        rw [e]
    have : fb_ct (newc p) 8 ≤ fb_ct (fun t => decide (t < 4)) 8 := fb_ct_sub (fun t ht hp => by
      rw [decide_eq_true_eq]
      rcases Nat.lt_or_ge t 4 with z | z
      · exact z
      · rw [h4 t ht z] at hp; cases hp)
    have e : fb_ct (fun t => decide (t < 4)) 8 = 4 := by decide
    omega
theorem among (w : Nat → Int64) {N t : Nat} (hN : N < 1000) (ht : t ≤ N) (x : Int64) : f_X7_isAmong w N (nI t) x = some (if fa_first (fun i => decide (w i = x)) t = t then 0 else 1) := by
  have hle := fa_first_le (fun i => decide (w i = x)) t
  have hno := fa_first_no (fun i => decide (w i = x)) t
  have hyes := fa_first_yes (fun i => decide (w i = x)) t
  generalize fa_first (fun i => decide (w i = x)) t = e at *
  have hl : hk_wl (st_X7_isAmong_3 w N (nI t) x) hkF (0 : Int32) = some (if e = t then .inr () else .inl ()) := wl_for0 (f := st_X7_isAmong_3 w N (nI t) x) (fun i => nI i) (e := e) (r := if e = t then .inr () else .inl ()) (by
    intro i hi
    have h0 := hno i hi
    rw [decide_eq_false_iff_not] at h0
    show st_X7_isAmong_3c w N (nI t) x (nI i) = _
    unfold st_X7_isAmong_3c
    rw [if_neg (nI_ge (show i < t by omega) (by omega)), if_neg (show ¬ Int32.ofNat N ≤ nI i from nI_ge (show i < N by omega) (by omega)), inb_nI (show i < N by omega) (by omega), gds, cl_nI (by omega), if_neg h0, i1, nI_add]
    rfl) (by
    show st_X7_isAmong_3c w N (nI t) x (nI e) = _
    unfold st_X7_isAmong_3c
    by_cases q : e = t
    · rw [if_pos q, q, if_pos (Int32.le_refl _)]
    · have h0 := hyes (by omega)
      rw [decide_eq_true_eq] at h0
      rw [if_neg q, if_neg (nI_ge (show e < t by omega) (by omega)), if_neg (show ¬ Int32.ofNat N ≤ nI e from nI_ge (show e < N by omega) (by omega)), inb_nI (show e < N by omega) (by omega), gds, cl_nI (by omega), if_pos h0]) (by omega)
  unfold f_X7_isAmong
  rw [hl, b1s]
  by_cases q : e = t
  · rw [if_pos q, if_pos q]; rfl
  · rw [if_neg q, if_neg q]; rfl
theorem find_spots {k : Nat} (hk : k < 4) (fd : Nat → Int32) (mm : Nat → Int32) (pc : Nat → Int64) (hp : ¬ pc k = 0) (ts : Nat → Int64) (sp : Nat → Int64) (f : Int64) : ∃ fd' ts' sp' n, f_X1_findSpots fd mm pc ts sp (nI k) f = some (nI n, fd', ts', sp') ∧ n ≤ 96 ∧ spt k n fd sp fd' sp' (WK (pc k) (TT (mm k)) f) := by
  obtain ⟨B, hB1, hB2⟩ := cap hp
  have hT := TT_8 (mm k)
  have e := wl_inv (f := st_X1_findSpots_27 pc (nI k) f (nI (TT (mm k)))) (fun t s => s.1 = nI t ∧ (∀ r, r < t → s.2.2.1 r = crn (trn (pc k) r)) ∧ ∃ n, n ≤ B * fb_ct (newc (pc k)) t ∧ spt k n fd sp s.2.1 s.2.2.2 (WK (pc k) t f)) (fun r => ∃ n, n ≤ 96 ∧ spt k n fd sp r.1 r.2.2 (WK (pc k) (TT (mm k)) f)) (e := TT (mm k)) (s := ((0 : Int32), upd fd k 0, ts, sp)) (by
    rintro t ⟨y, v, w, z⟩ ht ⟨h1, h2, n, h3, h4⟩
    dsimp only at h1 h2 h4
    subst h1
    show ∃ s', st_X1_findSpots_27c pc (nI k) f (nI (TT (mm k))) (nI t) v w z = some (.inl s') ∧ _
    unfold st_X1_findSpots_27c
    have ht8 : t < 8 := by omega
    have hy0 := trn_ne0 hp ht8
    rw [if_neg (nI_ge ht (by omega)), inb_nI hk (by decide), gds, cl_nI (show k < 2 ^ 31 by omega), x3_turned _ ht8, b1s, x3_crn, b1s, inb_nI ht8 (by decide), gds, cl_nI (show t < 2 ^ 31 by omega), among _ (by decide) (show t ≤ 8 by omega), b1s, show nI t + 1 = nI (t + 1) from by rw [i1, nI_add]]
    have hff : fa_first (fun i => decide (vp_updL w t (crn (trn (pc k) t)) i = crn (trn (pc k) t))) t = fa_first (fun r => decide (crn (trn (pc k) r) = crn (trn (pc k) t))) t := ff_cong t (fun i hi => by rw [updL_n (show i ≠ t by omega), h2 i hi])
    rw [hff]
    have hnw : newc (pc k) t = decide (fa_first (fun r => decide (crn (trn (pc k) r) = crn (trn (pc k) t))) t = t) := rfl
    have hts : ∀ r, r < t + 1 → vp_updL w t (crn (trn (pc k) t)) r = crn (trn (pc k) r) := fun r hr => by
      by_cases q : r = t
      · rw [q, updL_s]
      · rw [updL_n q]; exact h2 r (by omega)
    have hct : fb_ct (newc (pc k)) (t + 1) = fb_ct (newc (pc k)) t + (if newc (pc k) t = true then 1 else 0) := fb_ct_succ _ _
    have hmo := fb_ct_mono (newc (pc k)) (show t + 1 ≤ 8 by omega)
    have hmo2 : B * fb_ct (newc (pc k)) (t + 1) ≤ 96 := Nat.le_trans (Nat.mul_le_mul_left B hmo) hB2
    have hup : ∀ u, WK (pc k) (t + 1) f u ↔ WK (pc k) t f u ∨ (¬ u = 0 ∧ crn u = crn (trn (pc k) t)) ∧ wth u f := fun u => by
      unfold WK
      rw [LK_crn hp (show t + 1 ≤ 8 by omega), LK_crn hp (show t ≤ 8 by omega)]
      constructor
      · rintro ⟨⟨a1, r, a2, a3⟩, a4⟩
        by_cases q : r = t
        · rw [q] at a3; exact Or.inr ⟨⟨a1, a3.symm⟩, a4⟩
        · exact Or.inl ⟨⟨a1, r, by omega, a3⟩, a4⟩
      · rintro (⟨⟨a1, r, a2, a3⟩, a4⟩ | ⟨⟨a1, a3⟩, a4⟩)
        · exact ⟨⟨a1, r, by omega, a3⟩, a4⟩
        · exact ⟨⟨a1, t, by omega, a3.symm⟩, a4⟩
    by_cases q : fa_first (fun r => decide (crn (trn (pc k) r) = crn (trn (pc k) t))) t = t
    · have hnew : newc (pc k) t = true := by rw [hnw, decide_eq_true q]
      rw [if_pos q, if_pos rfl]
      rw [hnew, if_pos rfl] at hct
      rw [hct, Nat.mul_add, Nat.mul_one] at hmo2
      have hb := hB1 t ht8
      obtain ⟨v', w', n', e1, e2, e3⟩ := x1_shifts hk (crn_ne0 hy0) (crn_crn hy0) f (n0 := n) (by omega) (S := WK (pc k) t f) (fun u hu hc => by
        obtain ⟨_, r, a2, a3⟩ := ((LK_crn hp (show t ≤ 8 by omega) u).mp hu.1)
        exact newc_t.mp hnew r a2 (by rw [a3, hc])) h4
      rw [e1, b2s, b2s]
      exact ⟨_, rfl, rfl, hts, n', by rw [hct, Nat.mul_add, Nat.mul_one]; omega, spt_c e3 (fun u => (hup u).symm)⟩
    · have hnew : newc (pc k) t = false := by rw [hnw, decide_eq_false q]
      rw [if_neg q, if_neg ne_1_0, b2s]
      rw [hnew] at hct
      refine ⟨_, rfl, rfl, hts, n, by rw [hct]; exact h3, spt_c h4 (fun u => ?_)⟩
      rw [hup u]
      refine ⟨Or.inl, fun k => ?_⟩
      rcases k with k | ⟨⟨a1, a2⟩, a3⟩
      · exact k
      · have hex : ∃ r, r < t ∧ crn (trn (pc k) r) = crn (trn (pc k) t) := Classical.byContradiction (fun z => by
          rw [newc_t.mpr (fun r hr e => z ⟨r, hr, e⟩)] at hnew; cases hnew)
        obtain ⟨r, b1, b2⟩ := hex
        exact ⟨(LK_crn hp (show t ≤ 8 by omega) u).mpr ⟨a1, r, b1, by rw [b2, a2]⟩, a3⟩) (by
    rintro ⟨y, v, w, z⟩ ⟨h1, h2, n, h3, h4⟩
    dsimp only at h1 h2 h4
    subst h1
    show ∃ r, st_X1_findSpots_27c pc (nI k) f (nI (TT (mm k))) (nI (TT (mm k))) v w z = some (.inr r) ∧ _
    unfold st_X1_findSpots_27c
    rw [if_pos (Int32.le_refl _)]
    have hmo := fb_ct_mono (newc (pc k)) hT
    exact ⟨_, rfl, n, Nat.le_trans h3 (Nat.le_trans (Nat.mul_le_mul_left B hmo) hB2), h4⟩) (by omega) ⟨rfl, fun r hr => by omega, 0, Nat.zero_le _, upd_s, ⟨fun a b _ hb => by omega, fun u => ⟨fun ⟨a, ha, _⟩ => by omega, fun ⟨⟨t, _, _, a1, _⟩, _⟩ => by omega⟩⟩, fun i hi => upd_n hi, fun _ _ => rfl⟩
  obtain ⟨⟨r1, r2, r3⟩, e1, n, e2, e3⟩ := e
  unfold f_X1_findSpots
  simp only [inb_nI hk (show 4 < 2 ^ 31 by decide), gds, cl_nI (show k < 2 ^ 31 by omega), hk_let, TT_f, e1, b3s]
  have e4 : r1 k = nI n := e3.1
  rw [e4]
  exact ⟨_, _, _, n, rfl, e2, e3⟩
