/-! a figure moved into the corner -/
def uv (x : Int64) : Nat := x.toBitVec.toNat
theorem uv_lt (x : Int64) : uv x < 2 ^ 64 := x.toBitVec.isLt
theorem uv_lN (x : Int64) : lN (uv x) = x := by
  apply Int64.toBitVec_inj.mp
  show BitVec.ofNat 64 x.toBitVec.toNat = x.toBitVec
  exact BitVec.eq_of_toNat_eq (by rw [BitVec.toNat_ofNat]; exact Nat.mod_eq_of_lt x.toBitVec.isLt)
theorem uv_inj {x y : Int64} (h : uv x = uv y) : x = y := by rw [← uv_lN x, ← uv_lN y, h]
theorem less_uv (x y : Int64) : f_X8_less x y = some (if uv x < uv y then 1 else 0) := by
  unfold f_X8_less
  have h := ultL (uv_lt x) (uv_lt y)
  rw [uv_lN, uv_lN] at h
  by_cases q : uv x < uv y
  · rw [if_pos q, if_neg (fun q2 => by have := h.mp q2; omega)]
  · rw [if_neg q, if_pos (h.mpr (by omega))]
theorem isLess_uv (x y : Int64) : f_X7_isLess x y = some (if uv x < uv y then 1 else 0) := less_uv x y
def ru (x : Int64) : Nat → Int64
  | 0 => x
  | n + 1 => hk_ushr (ru x n) 16
def cu (x : Int64) : Nat → Int64
  | 0 => x
  | n + 1 => hk_ushr (cu x n) 4
theorem ru_bit (x : Int64) : ∀ n i, bl (ru x n) i = bl x (16 * n + i)
  | 0, i => by rw [show 16 * 0 + i = i by omega]; rfl
  | n + 1, i => by
    show bl (hk_ushr (ru x n) (nI 16)) i = _
    rw [bl_ushr _ (by decide), ru_bit x n, show 16 * n + (16 + i) = 16 * (n + 1) + i by omega]
theorem cu_bit (x : Int64) : ∀ n i, bl (cu x n) i = bl x (4 * n + i)
  | 0, i => by rw [show 4 * 0 + i = i by omega]; rfl
  | n + 1, i => by
    show bl (hk_ushr (cu x n) (nI 4)) i = _
    rw [bl_ushr _ (by decide), cu_bit x n, show 4 * n + (4 + i) = 4 * (n + 1) + i by omega]
def rw0 (x : Int64) : Nat := fa_first (fun n => decide (¬ ru x n &&& 65535 = 0)) 3
def cl0 (x : Int64) : Nat := fa_first (fun n => decide (¬ cu x n &&& 4222189076152335 = 0)) 3
def crn (x : Int64) : Int64 := cu (ru x (rw0 x)) (cl0 (ru x (rw0 x)))
theorem x3_c1 (x : Int64) : hk_wl st_X3_inCorner_5 hkF (x, (0 : Int32)) = some (ru x (rw0 x)) := by
  have hle := fa_first_le (fun n => decide (¬ ru x n &&& 65535 = 0)) 3
  have hno := fa_first_no (fun n => decide (¬ ru x n &&& 65535 = 0)) 3
  have hyes := fa_first_yes (fun n => decide (¬ ru x n &&& 65535 = 0)) 3
  unfold rw0
  generalize fa_first (fun n => decide (¬ ru x n &&& 65535 = 0)) 3 = e at *
  exact wl_for0 (f := st_X3_inCorner_5) (fun n => (ru x n, nI n)) (e := e) (r := ru x e) (by
    intro n hn
    have h0 := hno n hn
    rw [decide_eq_false_iff_not] at h0
    have h1 : ru x n &&& 65535 = 0 := Classical.byContradiction (fun q => h0 q)
    show st_X3_inCorner_5c (ru x n) (nI n) = _
    unfold st_X3_inCorner_5c
    rw [if_neg (show ¬ (3 : Int32) ≤ nI n from nI_ge (show n < 3 by omega) (by decide)), if_pos h1, i1, nI_add]
    rfl) (by
    show st_X3_inCorner_5c (ru x e) (nI e) = _
    unfold st_X3_inCorner_5c
    by_cases q : e < 3
    · have h0 := hyes q
      rw [decide_eq_true_eq] at h0
      rw [if_neg (show ¬ (3 : Int32) ≤ nI e from nI_ge q (by decide)), if_neg h0]
    · rw [if_pos (show (3 : Int32) ≤ nI e from (nI_leI (a := 3) (by decide) (by omega)).mpr (by omega))]) (by omega)
theorem x3_c2 (x : Int64) : hk_wl st_X3_inCorner_35 hkF (x, (0 : Int32)) = some (cu x (cl0 x)) := by
  have hle := fa_first_le (fun n => decide (¬ cu x n &&& 4222189076152335 = 0)) 3
  have hno := fa_first_no (fun n => decide (¬ cu x n &&& 4222189076152335 = 0)) 3
  have hyes := fa_first_yes (fun n => decide (¬ cu x n &&& 4222189076152335 = 0)) 3
  unfold cl0
  generalize fa_first (fun n => decide (¬ cu x n &&& 4222189076152335 = 0)) 3 = e at *
  exact wl_for0 (f := st_X3_inCorner_35) (fun n => (cu x n, nI n)) (e := e) (r := cu x e) (by
    intro n hn
    have h0 := hno n hn
    rw [decide_eq_false_iff_not] at h0
    have h1 : cu x n &&& 4222189076152335 = 0 := Classical.byContradiction (fun q => h0 q)
    show st_X3_inCorner_35c (cu x n) (nI n) = _
    unfold st_X3_inCorner_35c
    rw [if_neg (show ¬ (3 : Int32) ≤ nI n from nI_ge (show n < 3 by omega) (by decide)), if_pos h1, i1, nI_add]
    rfl) (by
    show st_X3_inCorner_35c (cu x e) (nI e) = _
    unfold st_X3_inCorner_35c
    by_cases q : e < 3
    · have h0 := hyes q
      rw [decide_eq_true_eq] at h0
      rw [if_neg (show ¬ (3 : Int32) ≤ nI e from nI_ge q (by decide)), if_neg h0]
    · rw [if_pos (show (3 : Int32) ≤ nI e from (nI_leI (a := 3) (by decide) (by omega)).mpr (by omega))]) (by omega)
theorem x3_crn (x : Int64) : f_X3_inCorner x = some (crn x) := by
  unfold f_X3_inCorner
  rw [x3_c1, b1s, x3_c2, b1s]
  rfl
theorem r0_bit : ∀ i, i < 64 → bl 65535 i = decide (i / 16 = 0) := by decide +kernel
theorem c0_bit : ∀ i, i < 64 → bl 4222189076152335 i = decide (i / 4 % 4 = 0) := by decide +kernel
/-- a figure's lowest column and row -/
def cor (x : Int64) (a b : Nat) : Prop := a ≤ 3 ∧ b ≤ 3 ∧ (∀ i, bl x i = true → b ≤ i / 16 ∧ a ≤ i / 4 % 4) ∧ (¬ x = 0 → (∃ i, bl x i = true ∧ i / 16 = b) ∧ ∃ i, bl x i = true ∧ i / 4 % 4 = a) ∧ ∀ j, bl (crn x) j = bl x (16 * b + 4 * a + j)
theorem cor_ex (x : Int64) : ∃ a b, cor x a b := by
  have hle := fa_first_le (fun n => decide (¬ ru x n &&& 65535 = 0)) 3
  have hno := fa_first_no (fun n => decide (¬ ru x n &&& 65535 = 0)) 3
  have hyes := fa_first_yes (fun n => decide (¬ ru x n &&& 65535 = 0)) 3
  have hc : crn x = cu (ru x (rw0 x)) (cl0 (ru x (rw0 x))) := rfl
  unfold rw0 at hc
  generalize fa_first (fun n => decide (¬ ru x n &&& 65535 = 0)) 3 = b at *
  have hle2 := fa_first_le (fun n => decide (¬ cu (ru x b) n &&& 4222189076152335 = 0)) 3
  have hno2 := fa_first_no (fun n => decide (¬ cu (ru x b) n &&& 4222189076152335 = 0)) 3
  have hyes2 := fa_first_yes (fun n => decide (¬ cu (ru x b) n &&& 4222189076152335 = 0)) 3
  unfold cl0 at hc
  generalize fa_first (fun n => decide (¬ cu (ru x b) n &&& 4222189076152335 = 0)) 3 = a at *
  have hrow : ∀ i, bl x i = true → b ≤ i / 16 := fun i hb => by
    have hi := bl_lt hb
    rcases Nat.lt_or_ge (i / 16) b with q | q
    · have h0 := hno _ q
      rw [decide_eq_false_iff_not] at h0
      have h1 : ru x (i / 16) &&& 65535 = 0 := Classical.byContradiction (fun q => h0 q)
      have h2 := (bl_eq0 _).mp h1 (i % 16) (by omega)
      rw [bl_and, ru_bit, r0_bit _ (by omega), decide_eq_true (show i % 16 / 16 = 0 by omega), Bool.and_true, show 16 * (i / 16) + i % 16 = i by omega, hb] at h2
      cases h2
    · exact q
  have hcol : ∀ i, bl x i = true → a ≤ i / 4 % 4 := fun i hb => by
    have hi := bl_lt hb
    have hr := hrow i hb
    rcases Nat.lt_or_ge (i / 4 % 4) a with q | q
    · have h0 := hno2 _ q
      rw [decide_eq_false_iff_not] at h0
      have h1 : cu (ru x b) (i / 4 % 4) &&& 4222189076152335 = 0 := Classical.byContradiction (fun q => h0 q)
      have h2 := (bl_eq0 _).mp h1 (i - 16 * b - 4 * (i / 4 % 4)) (by omega)
      rw [bl_and, cu_bit, ru_bit, c0_bit _ (by omega), decide_eq_true (show (i - 16 * b - 4 * (i / 4 % 4)) / 4 % 4 = 0 by omega), Bool.and_true, show 16 * b + (4 * (i / 4 % 4) + (i - 16 * b - 4 * (i / 4 % 4))) = i by omega, hb] at h2
      cases h2
    · exact q
  refine ⟨a, b, hle2, hle, fun i hb => ⟨hrow i hb, hcol i hb⟩, fun h0 => ⟨?_, ?_⟩, fun j => ?_⟩
  · rcases Nat.lt_or_ge b 3 with q | q
    · have h1 := hyes q
      rw [decide_eq_true_eq] at h1
      obtain ⟨i, hi, h2⟩ := bl_ne0 h1
      rw [bl_and, Bool.and_eq_true, ru_bit, r0_bit i hi, decide_eq_true_eq] at h2
      exact ⟨_, h2.1, by omega⟩
    · obtain ⟨i, hi, h1⟩ := bl_ne0 h0
      have := hrow i h1
      exact ⟨i, h1, by omega⟩
  · rcases Nat.lt_or_ge a 3 with q | q
    · have h1 := hyes2 q
      rw [decide_eq_true_eq] at h1
      obtain ⟨i, hi, h2⟩ := bl_ne0 h1
      rw [bl_and, Bool.and_eq_true, cu_bit, ru_bit, c0_bit i hi, decide_eq_true_eq] at h2
      exact ⟨_, h2.1, by omega⟩
    · obtain ⟨i, hi, h1⟩ := bl_ne0 h0
      have := hcol i h1
      exact ⟨i, h1, by omega⟩
  · rw [hc, cu_bit, ru_bit, Nat.add_assoc]
theorem uv_crn (x : Int64) : uv (crn x) ≤ uv x := by
  obtain ⟨a, b, _, _, _, _, h⟩ := cor_ex x
  have e : (crn x).toBitVec = x.toBitVec >>> (16 * b + 4 * a) := BitVec.eq_of_getLsbD_eq (fun i hi => by
    rw [BitVec.getLsbD_ushiftRight]
    exact h i)
  unfold uv
  rw [e, BitVec.toNat_ushiftRight, Nat.shiftRight_eq_div_pow]
  exact Nat.div_le_self _ _
theorem sty_in {x : Int64} {d e : Nat} (h : sty x d e = true) {i : Nat} (hb : bl x i = true) : (3 ≤ i / 16 + e ∧ i / 16 + e ≤ 6) ∧ (3 ≤ i / 4 % 4 + d ∧ i / 4 % 4 + d ≤ 6) := by
  have := (sty_all x d e).mp h i (bl_lt hb) hb
  unfold inB at this
  simp only [Bool.and_eq_true, decide_eq_true_eq] at this
  exact this
theorem bl_iff {x y : Int64} (h : ∀ j, j < 64 → (bl x j = true ↔ bl y j = true)) : x = y := bl_ext (fun j hj => by
  have := h j hj
  cases h1 : bl x j <;> cases h2 : bl y j <;> simp_all)
theorem shf_cell {x : Int64} {d e : Nat} (hd : d < 7) (he : e < 7) (h : sty x d e = true) {i : Nat} (hb : bl x i = true) : bl (shf x d e) (i + (4 * d + 16 * e) - 60) = true := by
  have hr := sty_rng h (bl_lt hb) hb
  exact (shf_bit x hd he (by omega)).mpr ⟨i, bl_lt hb, hb, by omega⟩
theorem shf_ne0 {x : Int64} {d e : Nat} (hd : d < 7) (he : e < 7) (h : sty x d e = true) (h0 : ¬ x = 0) : ¬ shf x d e = 0 := fun q => by
  obtain ⟨i, hi, hb⟩ := bl_ne0 h0
  have := shf_cell hd he h hb
  rw [q, bl_0] at this; cases this
theorem crn_shf {x : Int64} {d e : Nat} (hd : d < 7) (he : e < 7) (h : sty x d e = true) (h0 : ¬ x = 0) : crn (shf x d e) = crn x := by
  obtain ⟨a, b, ha, hb, h1, h2, h3⟩ := cor_ex x
  obtain ⟨a', b', ha', hb', h1', h2', h3'⟩ := cor_ex (shf x d e)
  obtain ⟨⟨i1, p1, q1⟩, ⟨i2, p2, q2⟩⟩ := h2 h0
  obtain ⟨⟨j1, r1, s1⟩, ⟨j2, r2, s2⟩⟩ := h2' (shf_ne0 hd he h h0)
  have c1 := h1' _ (shf_cell hd he h p1)
  have c2 := h1' _ (shf_cell hd he h p2)
  obtain ⟨k1, _, u1, v1⟩ := (shf_bit x hd he (bl_lt r1)).mp r1
  obtain ⟨k2, _, u2, v2⟩ := (shf_bit x hd he (bl_lt r2)).mp r2
  have t1 := sty_in h p1
  have t2 := sty_in h p2
  have t3 := sty_in h u1
  have t4 := sty_in h u2
  have w1 := h1 _ u1
  have w2 := h1 _ u2
  have eb : b' + 3 = b + e := by omega
  have ea : a' + 3 = a + d := by omega
  refine bl_iff (fun j hj => ?_)
  rw [h3', h3]
  constructor
  · intro q
    obtain ⟨i, _, q1, q2⟩ := (shf_bit x hd he (bl_lt q)).mp q
    rw [show 16 * b + 4 * a + j = i by omega]
    exact q1
  · intro q
    have := shf_cell hd he h q
    rw [show 16 * b + 4 * a + j + (4 * d + 16 * e) - 60 = 16 * b' + 4 * a' + j by omega] at this
    exact this
theorem shf_of {x y : Int64} (hx : ¬ x = 0) (hy : ¬ y = 0) (h : crn x = crn y) : ∃ d e, d < 7 ∧ e < 7 ∧ sty x d e = true ∧ shf x d e = y := by
  obtain ⟨a, b, ha, hb, h1, h2, h3⟩ := cor_ex x
  obtain ⟨a', b', ha', hb', h1', h2', h3'⟩ := cor_ex y
  have hxy : ∀ j, bl x (16 * b + 4 * a + j) = bl y (16 * b' + 4 * a' + j) := fun j => by rw [← h3, ← h3', h]
  have hfw : ∀ i, bl x i = true → bl y (16 * b' + 4 * a' + (i - (16 * b + 4 * a))) = true := fun i hi => by
    have := h1 i hi
    rw [← hxy, show 16 * b + 4 * a + (i - (16 * b + 4 * a)) = i by omega]; exact hi
  have hst : sty x (a' + 3 - a) (b' + 3 - b) = true := (sty_all x _ _).mpr (fun i hi hb => by
    have e1 := hfw i hb
    have e2 := h1 i hb
    have e3 := h1' _ e1
    have e4 := bl_lt e1
    unfold inB
    simp only [Bool.and_eq_true, decide_eq_true_eq]
    omega)
  refine ⟨a' + 3 - a, b' + 3 - b, by omega, by omega, hst, bl_iff (fun j hj => ?_)⟩
  rw [shf_bit x (by omega) (by omega) hj]
  constructor
  · rintro ⟨i, hi, e1, e2⟩
    have e3 := h1 i e1
    have := hfw i e1
    rw [show 16 * b' + 4 * a' + (i - (16 * b + 4 * a)) = j by omega] at this
    exact this
  · intro q
    have e3 := h1' j q
    have e4 : bl x (16 * b + 4 * a + (j - (16 * b' + 4 * a'))) = true := by
      rw [hxy, show 16 * b' + 4 * a' + (j - (16 * b' + 4 * a')) = j by omega]; exact q
    exact ⟨_, bl_lt e4, e4, by omega⟩
theorem crn_0 : crn 0 = 0 := by
  obtain ⟨a, b, _, _, _, _, h⟩ := cor_ex 0
  exact bl_ext (fun j _ => by rw [h, bl_0, bl_0])
theorem crn_is {x : Int64} (h0 : ¬ x = 0) : ∃ d e, d ≤ 3 ∧ e ≤ 3 ∧ sty x d e = true ∧ shf x d e = crn x := by
  obtain ⟨a, b, ha, hb, h1, h2, h3⟩ := cor_ex x
  refine ⟨3 - a, 3 - b, by omega, by omega, (sty_all x _ _).mpr (fun i hi hb => ?_), bl_iff (fun j hj => ?_)⟩
  · have := h1 i hb
    unfold inB
    simp only [Bool.and_eq_true, decide_eq_true_eq]
    omega
  · rw [h3, shf_bit x (by omega) (by omega) hj]
    constructor
    · rintro ⟨i, hi, e1, e2⟩
      rw [show 16 * b + 4 * a + j = i by omega]; exact e1
    · intro q
      exact ⟨_, bl_lt q, q, by omega⟩
theorem crn_ne0 {x : Int64} (h0 : ¬ x = 0) : ¬ crn x = 0 := by
  obtain ⟨d, e, hd, he, h1, h2⟩ := crn_is h0
  rw [← h2]
  exact shf_ne0 (by omega) (by omega) h1 h0
theorem crn_crn {x : Int64} (h0 : ¬ x = 0) : crn (crn x) = crn x := by
  obtain ⟨d, e, hd, he, h1, h2⟩ := crn_is h0
  rw [← h2]
  rw [crn_shf (by omega) (by omega) h1 h0, h2]
