/-! shifts -/
def o3 (d : Nat) : Int32 := nI d - 3
theorem o3_cases (y : Int32) : (∃ d, d < 7 ∧ y = o3 d) ∨ (y < -3 ∨ 3 < y) := by
  by_cases h : -3 ≤ y.toInt ∧ y.toInt ≤ 3
  · refine Or.inl ⟨(y.toInt + 3).toNat, by omega, ?_⟩
    apply Int32.toInt_inj.mp
    have hz : (y.toInt + 3).toNat < 7 := by omega
    have key : ∀ z, z < 7 → (o3 z).toInt = (z : Int) - 3 := by decide +kernel
    rw [key _ hz]; omega
  · refine Or.inr ?_
    have e4 : (-3 : Int32).toInt = -3 := by decide
    have e8 : (3 : Int32).toInt = 3 := by decide
    rw [Int32.lt_iff_toInt_lt, Int32.lt_iff_toInt_lt, e4, e8]; omega
def inB (v d : Nat) : Bool := decide (3 ≤ v + d) && decide (v + d ≤ 6)
def okB (x : Int64) (d e i : Nat) : Bool := !bl x i || (inB (i / 16) e && inB (i / 4 % 4) d)
def stB (x : Int64) (d e : Nat) : Nat → Bool
  | 0 => true
  | n + 1 => stB x d e n && okB x d e n
theorem stB_all (x : Int64) (d e : Nat) : ∀ n, stB x d e n = true ↔ ∀ i, i < n → okB x d e i = true
  | 0 => ⟨fun _ i hi => by omega, fun _ => rfl⟩
  | n + 1 => by
    show (stB x d e n && okB x d e n) = true ↔ _
    rw [Bool.and_eq_true, stB_all x d e n]
    constructor
    · rintro ⟨h1, h2⟩ i hi
      by_cases q : i = n
      · rw [q]; exact h2
      · exact h1 i (by omega)
    · intro h
      exact ⟨fun i hi => h i (by omega), h n (by omega)⟩
def sty (x : Int64) (d e : Nat) : Bool := stB x d e 64
theorem o3_in : ∀ r, r < 4 → ∀ d, d < 7 → f_X8_in (nI r + o3 d).toInt64 0 3 = some (if inB r d = true then 1 else 0) := by decide +kernel
theorem x8_stays (x : Int64) {d e : Nat} (hd : d < 7) (he : e < 7) : f_X8_stays x (o3 d) (o3 e) = some (if sty x d e = true then 1 else 0) := by
  have hl := wl_for0 (f := st_X8_stays_6 x (o3 d) (o3 e)) (fun n => ((if stB x d e n = true then (1 : Int32) else 0), nI n)) (e := 64) (r := if stB x d e 64 = true then (1 : Int32) else 0) (by
    intro n hn
    show st_X8_stays_6c x (o3 d) (o3 e) (if stB x d e n = true then (1 : Int32) else 0) (nI n) = _
    unfold st_X8_stays_6c
    rw [if_neg (show ¬ (64 : Int32) ≤ nI n from nI_ge hn (by decide)), has_nI x hn, b1s, i16, i4, div_nI (by omega) (by decide) (by decide), div_nI (by omega) (by decide) (by decide), rem_nI (by omega) (by decide) (by decide), o3_in _ (show n / 16 < 4 by omega) e he, b1s, o3_in _ (show n / 4 % 4 < 4 by omega) d hd, b1s]
    have hs : stB x d e (n + 1) = (stB x d e n && (!bl x n || (inB (n / 16) e && inB (n / 4 % 4) d))) := rfl
    rw [hs, show nI n + 1 = nI (n + 1) from by rw [i1, nI_add]]
    cases stB x d e n <;> cases bl x n <;> cases inB (n / 16) e <;> cases inB (n / 4 % 4) d <;> rfl) (by
    show st_X8_stays_6c x (o3 d) (o3 e) _ (nI 64) = _
    unfold st_X8_stays_6c
    rw [if_pos (by decide)]) (by decide)
  unfold f_X8_stays
  have e' : hk_wl (st_X8_stays_6 x (o3 d) (o3 e)) hkF ((1 : Int32), (0 : Int32)) = _ := hl
  rw [e', b1s]
  unfold sty
  cases stB x d e 64 <;> rfl
def ab (d : Nat) : Nat := if d ≤ 3 then 3 - d else d - 3
def vi (d k : Nat) : Nat := if d ≤ 3 then k else 3 - k
theorem o3_abs : ∀ d, d < 7 → hk_abs (o3 d) = nI (ab d) := by decide +kernel
theorem o3_le : ∀ d, d < 7 → (o3 d ≤ 0 ↔ d ≤ 3) := by decide +kernel
theorem o3_vi : ∀ d, d < 7 → ∀ k, k < 3 → (if o3 d ≤ 0 then nI k else (3 : Int32) - nI k) = nI (vi d k) := by decide +kernel
theorem cm_bit : ∀ v, v < 4 → ∀ i, i < 64 → bl (hk_shl 4222189076152335 (nI (4 * v))) i = decide (i / 4 % 4 = v) := by decide +kernel
theorem rm_bit : ∀ v, v < 4 → ∀ i, i < 64 → bl (hk_shl 65535 (nI (16 * v))) i = decide (i / 16 = v) := by decide +kernel
theorem vi_lt {d k : Nat} (hk : k < 3) : vi d k < 4 := by unfold vi; split <;> omega
theorem ab_le {d : Nat} (hd : d < 7) : ab d ≤ 3 := by unfold ab; split <;> omega
/-- the sides that a shift would push off -/
def sdE (x : Int64) (M : Nat → Int64) (d : Nat) : Nat := fa_first (fun k => decide (¬ x &&& M (vi d k) = 0)) (ab d)
theorem sdE_all {x : Int64} {M : Nat → Int64} {P : Nat → Nat} (hM : ∀ v, v < 4 → ∀ i, i < 64 → bl (M v) i = decide (P i = v)) (hP : ∀ i, i < 64 → P i < 4) {d : Nat} (hd : d < 7) : sdE x M d = ab d ↔ ∀ i, i < 64 → bl x i = true → inB (P i) d = true := by
  have hle := fa_first_le (fun k => decide (¬ x &&& M (vi d k) = 0)) (ab d)
  have hno := fa_first_no (fun k => decide (¬ x &&& M (vi d k) = 0)) (ab d)
  have hyes := fa_first_yes (fun k => decide (¬ x &&& M (vi d k) = 0)) (ab d)
  unfold sdE
  generalize fa_first (fun k => decide (¬ x &&& M (vi d k) = 0)) (ab d) = e at *
  have hab := ab_le hd
  constructor
  · intro q i hi hb
    have hp := hP i hi
    have key : ∀ k, k < ab d → ¬ vi d k = P i := fun k hk hv => by
      have := hno k (by omega)
      rw [decide_eq_false_iff_not] at this
      have h0 : x &&& M (vi d k) = 0 := Classical.byContradiction (fun q => this q)
      have hz := (bl_eq0 _).mp h0 i hi
      rw [bl_and, hb, hM _ (vi_lt (by omega)) i hi, decide_eq_true hv.symm] at hz
      cases hz
    unfold inB
    rw [Bool.and_eq_true, decide_eq_true_eq, decide_eq_true_eq]
    by_cases h3 : d ≤ 3
    · have ha : ab d = 3 - d := if_pos h3
      refine ⟨?_, by omega⟩
      rcases Nat.lt_or_ge (P i + d) 3 with w | w
      · exact absurd (show vi d (P i) = P i from if_pos h3) (key (P i) (by omega))
      · exact w
    · have ha : ab d = d - 3 := if_neg h3
      refine ⟨by omega, ?_⟩
      rcases Nat.lt_or_ge 6 (P i + d) with w | w
      · exact absurd (show vi d (3 - P i) = P i from by unfold vi; rw [if_neg h3]; omega) (key (3 - P i) (by omega))
      · exact w
  · intro h
    rcases Nat.lt_or_ge e (ab d) with q | q
    · exfalso
      have hy := hyes q
      rw [decide_eq_true_eq] at hy
      obtain ⟨i, hi, hb⟩ := bl_ne0 hy
      rw [bl_and, Bool.and_eq_true, hM _ (vi_lt (by omega)) i hi, decide_eq_true_eq] at hb
      have := h i hi hb.1
      unfold inB at this
      rw [Bool.and_eq_true, decide_eq_true_eq, decide_eq_true_eq] at this
      have hv := hb.2
      unfold vi at hv
      unfold ab at q
      by_cases h3 : d ≤ 3
      · rw [if_pos h3] at hv q; omega
      · rw [if_neg h3] at hv q; omega
    · omega
theorem x3_st1 (x : Int64) {d : Nat} (hd : d < 7) : hk_wl (st_X3_staysOnBoard_3 x (o3 d)) hkF (0 : Int32) = some (if sdE x (fun v => hk_shl 4222189076152335 (nI (4 * v))) d = ab d then .inr () else .inl ()) := by
  have hle := fa_first_le (fun k => decide (¬ x &&& (fun v => hk_shl 4222189076152335 (nI (4 * v))) (vi d k) = 0)) (ab d)
  have hno := fa_first_no (fun k => decide (¬ x &&& (fun v => hk_shl 4222189076152335 (nI (4 * v))) (vi d k) = 0)) (ab d)
  have hyes := fa_first_yes (fun k => decide (¬ x &&& (fun v => hk_shl 4222189076152335 (nI (4 * v))) (vi d k) = 0)) (ab d)
  unfold sdE
  generalize fa_first (fun k => decide (¬ x &&& (fun v => hk_shl 4222189076152335 (nI (4 * v))) (vi d k) = 0)) (ab d) = e at *
  have hab := ab_le hd
  exact wl_for0 (f := st_X3_staysOnBoard_3 x (o3 d)) (fun k => nI k) (e := e) (r := if e = ab d then .inr () else .inl ()) (by
    intro k hk
    have h0 := hno k hk
    rw [decide_eq_false_iff_not] at h0
    have h1 : x &&& hk_shl 4222189076152335 (nI (4 * vi d k)) = 0 := Classical.byContradiction (fun q => h0 q)
    show st_X3_staysOnBoard_3c x (o3 d) (nI k) = _
    unfold st_X3_staysOnBoard_3c
    rw [o3_abs d hd, if_neg (nI_ge (show k < ab d by omega) (by omega))]
    simp only [hk_let]
    rw [o3_vi d hd k (by omega), show (4 : Int32) * nI (vi d k) = nI (4 * vi d k) from by rw [i4, pk_mul], if_pos h1, i1, nI_add]) (by
    show st_X3_staysOnBoard_3c x (o3 d) (nI e) = _
    unfold st_X3_staysOnBoard_3c
    rw [o3_abs d hd]
    by_cases q : e = ab d
    · rw [if_pos q, q, if_pos (Int32.le_refl _)]
    · have hy := hyes (by omega)
      rw [decide_eq_true_eq] at hy
      have h1 : ¬ x &&& hk_shl 4222189076152335 (nI (4 * vi d e)) = 0 := hy
      rw [if_neg q, if_neg (nI_ge (show e < ab d by omega) (by omega))]
      simp only [hk_let]
      rw [o3_vi d hd e (by omega), show (4 : Int32) * nI (vi d e) = nI (4 * vi d e) from by rw [i4, pk_mul], if_neg h1]) (by omega)
theorem x3_st2 (x : Int64) {d : Nat} (hd : d < 7) : hk_wl (st_X3_staysOnBoard_49 x (o3 d)) hkF (0 : Int32) = some (if sdE x (fun v => hk_shl 65535 (nI (16 * v))) d = ab d then .inr () else .inl ()) := by
  have hle := fa_first_le (fun k => decide (¬ x &&& (fun v => hk_shl 65535 (nI (16 * v))) (vi d k) = 0)) (ab d)
  have hno := fa_first_no (fun k => decide (¬ x &&& (fun v => hk_shl 65535 (nI (16 * v))) (vi d k) = 0)) (ab d)
  have hyes := fa_first_yes (fun k => decide (¬ x &&& (fun v => hk_shl 65535 (nI (16 * v))) (vi d k) = 0)) (ab d)
  unfold sdE
  generalize fa_first (fun k => decide (¬ x &&& (fun v => hk_shl 65535 (nI (16 * v))) (vi d k) = 0)) (ab d) = e at *
  have hab := ab_le hd
  exact wl_for0 (f := st_X3_staysOnBoard_49 x (o3 d)) (fun k => nI k) (e := e) (r := if e = ab d then .inr () else .inl ()) (by
    intro k hk
    have h0 := hno k hk
    rw [decide_eq_false_iff_not] at h0
    have h1 : x &&& hk_shl 65535 (nI (16 * vi d k)) = 0 := Classical.byContradiction (fun q => h0 q)
    show st_X3_staysOnBoard_49c x (o3 d) (nI k) = _
    unfold st_X3_staysOnBoard_49c
    rw [o3_abs d hd, if_neg (nI_ge (show k < ab d by omega) (by omega))]
    simp only [hk_let]
    rw [o3_vi d hd k (by omega), show (16 : Int32) * nI (vi d k) = nI (16 * vi d k) from by rw [i16, pk_mul], if_pos h1, i1, nI_add]) (by
    show st_X3_staysOnBoard_49c x (o3 d) (nI e) = _
    unfold st_X3_staysOnBoard_49c
    rw [o3_abs d hd]
    by_cases q : e = ab d
    · rw [if_pos q, q, if_pos (Int32.le_refl _)]
    · have hy := hyes (by omega)
      rw [decide_eq_true_eq] at hy
      have h1 : ¬ x &&& hk_shl 65535 (nI (16 * vi d e)) = 0 := hy
      rw [if_neg q, if_neg (nI_ge (show e < ab d by omega) (by omega))]
      simp only [hk_let]
      rw [o3_vi d hd e (by omega), show (16 : Int32) * nI (vi d e) = nI (16 * vi d e) from by rw [i16, pk_mul], if_neg h1]) (by omega)
theorem sty_all (x : Int64) (d e : Nat) : sty x d e = true ↔ ∀ i, i < 64 → bl x i = true → inB (i / 16) e = true ∧ inB (i / 4 % 4) d = true := by
  unfold sty
  rw [stB_all]
  constructor
  · intro h i hi hb
    have := h i hi
    unfold okB at this
    rw [hb, Bool.not_true, Bool.false_or, Bool.and_eq_true] at this
    exact this
  · intro h i hi
    unfold okB
    cases hb : bl x i
    · rfl
    · rw [Bool.not_true, Bool.false_or, Bool.and_eq_true]
      exact h i hi hb
theorem x3_stays (x : Int64) {d e : Nat} (hd : d < 7) (he : e < 7) : f_X3_staysOnBoard x (o3 d) (o3 e) = some (if sty x d e = true then 1 else 0) := by
  have h1 := sdE_all (x := x) (P := fun i => i / 4 % 4) cm_bit (fun i hi => by show i / 4 % 4 < 4; omega) hd
  have h2 := sdE_all (x := x) (P := fun i => i / 16) rm_bit (fun i hi => by show i / 16 < 4; omega) he
  have h3 := sty_all x d e
  unfold f_X3_staysOnBoard
  rw [x3_st1 x hd, b1s, x3_st2 x he, b1s]
  by_cases q1 : sdE x (fun v => hk_shl 4222189076152335 (nI (4 * v))) d = ab d
  · by_cases q2 : sdE x (fun v => hk_shl 65535 (nI (16 * v))) e = ab e
    · rw [if_pos q1, if_pos q2, if_pos (h3.mpr (fun i hi hb => ⟨h2.mp q2 i hi hb, h1.mp q1 i hi hb⟩))]
      rfl
    · rw [if_pos q1, if_neg q2, if_neg (fun q => q2 (h2.mpr (fun i hi hb => (h3.mp q i hi hb).1)))]
      rfl
  · rw [if_neg q1, if_neg (fun q => q1 (h1.mpr (fun i hi hb => (h3.mp q i hi hb).2)))]
    rfl
def shf (x : Int64) (d e : Nat) : Int64 := if 60 ≤ 4 * d + 16 * e then hk_shl x (nI (4 * d + 16 * e - 60)) else hk_ushr x (nI (60 - (4 * d + 16 * e)))
theorem shf_bit (x : Int64) {d e : Nat} (hd : d < 7) (he : e < 7) {j : Nat} (hj : j < 64) : bl (shf x d e) j = true ↔ ∃ i, i < 64 ∧ bl x i = true ∧ i + (4 * d + 16 * e) = j + 60 := by
  unfold shf
  by_cases h : 60 ≤ 4 * d + 16 * e
  · rw [if_pos h, bl_shl x (by omega) hj, Bool.and_eq_true, decide_eq_true_eq]
    constructor
    · rintro ⟨h1, h2⟩
      exact ⟨_, bl_lt h2, h2, by omega⟩
    · rintro ⟨i, hi, h1, h2⟩
      rw [show j - (4 * d + 16 * e - 60) = i by omega]
      exact ⟨by omega, h1⟩
  · rw [if_neg h, bl_ushr x (by omega)]
    constructor
    · intro h2
      exact ⟨_, bl_lt h2, h2, by omega⟩
    · rintro ⟨i, hi, h1, h2⟩
      rw [show 60 - (4 * d + 16 * e) + j = i by omega]
      exact h1
theorem sh_nn : ∀ d, d < 7 → ∀ e, e < 7 → (0 ≤ (4 : Int32) * o3 d + 16 * o3 e ↔ 60 ≤ 4 * d + 16 * e) := by decide +kernel
theorem sh_p : ∀ d, d < 7 → ∀ e, e < 7 → 60 ≤ 4 * d + 16 * e → (4 : Int32) * o3 d + 16 * o3 e = nI (4 * d + 16 * e - 60) := by decide +kernel
theorem sh_m : ∀ d, d < 7 → ∀ e, e < 7 → ¬ 60 ≤ 4 * d + 16 * e → -((4 : Int32) * o3 d + 16 * o3 e) = nI (60 - (4 * d + 16 * e)) := by decide +kernel
theorem x3_shifted (x : Int64) {d e : Nat} (hd : d < 7) (he : e < 7) : f_X3_shifted x (o3 d) (o3 e) = some (shf x d e) := by
  unfold f_X3_shifted shf
  simp only [hk_let]
  by_cases h : 60 ≤ 4 * d + 16 * e
  · rw [if_pos h, if_pos ((sh_nn d hd e he).mpr h), sh_p d hd e he h]
  · rw [if_neg h, if_neg (fun q => h ((sh_nn d hd e he).mp q)), sh_m d hd e he h]
theorem sh_i : ∀ d, d < 7 → ∀ e, e < 7 → ∀ i, i < 64 → 60 ≤ i + (4 * d + 16 * e) → nI i + ((16 : Int32) * o3 e + 4 * o3 d) = nI (i + (4 * d + 16 * e) - 60) := by decide +kernel
def sha (x : Int64) (d e : Nat) : Nat → Int64
  | 0 => 0
  | n + 1 => sha x d e n ||| (if bl x n = true then hk_shl 1 (nI (n + (4 * d + 16 * e) - 60)) else 0)
theorem sty_rng {x : Int64} {d e : Nat} (h : sty x d e = true) {i : Nat} (hi : i < 64) (hb : bl x i = true) : 60 ≤ i + (4 * d + 16 * e) ∧ i + (4 * d + 16 * e) < 124 := by
  have := (sty_all x d e).mp h i hi hb
  unfold inB at this
  simp only [Bool.and_eq_true, decide_eq_true_eq] at this
  omega
theorem sha_bit {x : Int64} {d e : Nat} (h : sty x d e = true) : ∀ n, n ≤ 64 → ∀ j, j < 64 → (bl (sha x d e n) j = true ↔ ∃ i, i < n ∧ bl x i = true ∧ i + (4 * d + 16 * e) = j + 60)
  | 0, _, j, _ => by
    show bl 0 j = true ↔ _
    rw [bl_0]
    exact ⟨fun q => (by cases q), fun ⟨i, hi, _⟩ => by omega⟩
  | n + 1, hn, j, hj => by
    have ih := sha_bit h n (by omega) j hj
    show bl (sha x d e n ||| (if bl x n = true then hk_shl 1 (nI (n + (4 * d + 16 * e) - 60)) else 0)) j = true ↔ _
    rw [bl_or, Bool.or_eq_true, ih]
    constructor
    · rintro (⟨i, hi, h1, h2⟩ | q)
      · exact ⟨i, by omega, h1, h2⟩
      · by_cases hb : bl x n = true
        · have hr := sty_rng h (show n < 64 by omega) hb
          rw [if_pos hb, bl_one (by omega) hj, decide_eq_true_eq] at q
          exact ⟨n, by omega, hb, by omega⟩
        · rw [if_neg hb, bl_0] at q; cases q
    · rintro ⟨i, hi, h1, h2⟩
      by_cases hin : i = n
      · subst hin
        have hr := sty_rng h (show i < 64 by omega) h1
        refine Or.inr ?_
        rw [if_pos h1, bl_one (by omega) hj, decide_eq_true_eq]
        omega
      · exact Or.inl ⟨i, by omega, h1, h2⟩
theorem sha_64 {x : Int64} {d e : Nat} (hd : d < 7) (he : e < 7) (h : sty x d e = true) : sha x d e 64 = shf x d e := bl_ext (fun j hj => by
  have key : bl (sha x d e 64) j = true ↔ bl (shf x d e) j = true := by
    rw [sha_bit h 64 (by omega) j hj, shf_bit x hd he hj]
  cases h1 : bl (sha x d e 64) j <;> cases h2 : bl (shf x d e) j <;> simp_all)
theorem x8_shifted {x : Int64} {d e : Nat} (hd : d < 7) (he : e < 7) (h : sty x d e = true) : f_X8_shifted x (o3 d) (o3 e) = some (shf x d e) := by
  have hl := wl_for0 (f := st_X8_shifted_16 x (16 * o3 e + 4 * o3 d)) (fun n => (sha x d e n, nI n)) (e := 64) (r := sha x d e 64) (by
    intro n hn
    show st_X8_shifted_16c x (16 * o3 e + 4 * o3 d) (sha x d e n) (nI n) = _
    unfold st_X8_shifted_16c
    rw [if_neg (show ¬ (64 : Int32) ≤ nI n from nI_ge hn (by decide)), has_nI x hn, b1s]
    simp only [hk_let]
    rw [show nI n + 1 = nI (n + 1) from by rw [i1, nI_add]]
    have hs : sha x d e (n + 1) = sha x d e n ||| (if bl x n = true then hk_shl 1 (nI (n + (4 * d + 16 * e) - 60)) else 0) := rfl
    rw [hs]
    cases hb : bl x n
    · rfl
    · rw [if_pos rfl, if_neg ne_1_0, sh_i d hd e he n hn (sty_rng h hn hb).1]
      rfl) (by
    show st_X8_shifted_16c x (16 * o3 e + 4 * o3 d) (sha x d e 64) (nI 64) = _
    unfold st_X8_shifted_16c
    rw [if_pos (by decide)]) (by decide)
  unfold f_X8_shifted
  simp only [hk_let]
  have e' : hk_wl (st_X8_shifted_16 x (16 * o3 e + 4 * o3 d)) hkF ((0 : Int64), (0 : Int32)) = _ := hl
  rw [e', b1s, sha_64 hd he h]
theorem o3_lo : ∀ d, d < 7 → ¬ o3 d < -3 := by decide +kernel
theorem o3_hi : ∀ d, d < 7 → ¬ 3 < o3 d := by decide +kernel
theorem o3_h2 : ∀ d, d < 7 → o3 d ≤ 3 := by decide +kernel
theorem o3_33 : ∀ d, d < 7 → f_X8_in (o3 d).toInt64 (-3) 3 = some 1 := by decide +kernel
theorem o3_out {y : Int32} (h : y < -3 ∨ 3 < y) : f_X8_in y.toInt64 (-3) 3 = some 0 := in_lt (by
  have e4 : (-3 : Int32).toInt = -3 := by decide
  have e8 : (3 : Int32).toInt = 3 := by decide
  rw [Int32.lt_iff_toInt_lt, Int32.lt_iff_toInt_lt, e4, e8] at h
  rw [show (-3 : Int64).toInt = -3 by decide, show (3 : Int64).toInt = 3 by decide]
  exact h)
theorem pr_shift {a b : Nat → Int64} (h : fe a b) (x y z : Int32) : ∃ r a' b', f_X7_shift a x y z = some (r, a') ∧ f_X8_shift b x y z = some (r, b') ∧ fe a' b' := by
  unfold f_X7_shift f_X8_shift
  rcases ix_cases x 8 (by decide) with ⟨j, hj, rfl⟩ | hx
  · rw [noF_0 hj, isF_1 hj, b1s, b1s, if_pos rfl, if_neg ne_1_0]
    rcases o3_cases y with ⟨d, hd, rfl⟩ | hy
    · rw [if_neg (o3_lo d hd), if_neg (o3_hi d hd), o3_33 d hd, b1s, if_neg ne_1_0]
      rcases o3_cases z with ⟨e, he, rfl⟩ | hz
      · rw [if_neg (o3_lo e he), if_pos (o3_h2 e he), o3_33 e he, b1s, if_neg ne_1_0]
        simp only [inb_nI hj (show 8 < 2 ^ 31 by decide), gds, cl_nI (show j < 2 ^ 31 by omega), h j hj, x3_stays _ hd he, x8_stays _ hd he, b1s, hk_let]
        cases hs : sty (b j) d e
        · exact ⟨-3, a, b, rfl, rfl, h⟩
        · simp only [if_true, ne_1_0, if_false, x3_shifted _ hd he, x8_shifted hd he hs, b1s, become_s _ hj, b2s, ones_popc, updL_s]
          exact ⟨_, _, _, rfl, rfl, fe_upd h j _⟩
      · rw [o3_out hz, b1s, if_pos rfl]
        refine ⟨-2, a, b, ?_, rfl, h⟩
        rcases hz with hz | hz
        · rw [if_pos hz]
        · have n1 : ¬ z ≤ 3 := fun q => by rw [Int32.lt_iff_toInt_lt] at hz; rw [Int32.le_iff_toInt_le] at q; omega
          rw [if_neg n1]
          split <;> rfl
    · rw [o3_out hy, b1s, if_pos rfl]
      refine ⟨-2, a, b, ?_, rfl, h⟩
      rcases hy with hy | hy
      · rw [if_pos hy]
      · rw [if_pos hy]
        split <;> rfl
  · rw [noF_1 hx, isF_0 hx, b1s, b1s]
    exact ⟨-1, a, b, by simp, by simp, h⟩
