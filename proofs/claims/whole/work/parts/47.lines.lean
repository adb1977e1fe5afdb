/-! lines -/
def og (z : Nat) : Int32 := nI z - 4
def lin (f z : Nat) : Int64 := (f_X2_cellsAhead (nI f) (og z)).getD 0
def lnLo (f : Nat) : Nat := if f = 2 then 0 else 4
def lnHi (f : Nat) : Nat := if f = 3 then 12 else 8
def isL (f z : Nat) : Bool := decide (lnLo f ≤ z) && decide (z ≤ lnHi f)
theorem ln_none : ∀ f, f < 4 → ∀ z, z < 13 → f_X2_isNone (nI f) (og z) = some (if isL f z then 0 else 1) := by decide +kernel
theorem ln_is : ∀ f, f < 4 → ∀ z, z < 13 → f_X8_isLine (nI f) (og z) = some (if isL f z then 1 else 0) := by decide +kernel
theorem ln_x2 : ∀ f, f < 4 → ∀ z, z < 13 → f_X2_cellsAhead (nI f) (og z) = some (lin f z) := by decide +kernel
theorem ln_x8 : ∀ f, f < 4 → ∀ z, z < 13 → isL f z = true → f_X8_aheadOf (nI f) (og z) = some (lin f z) := by decide +kernel
theorem og_s : ∀ z, z < 13 → og z + 1 = og (z + 1) := by decide +kernel
theorem og_9 : ∀ z, z < 13 → ¬ 9 ≤ og z := by decide +kernel
theorem og_lo : ∀ f, f < 4 → f_X2_lowest (nI f) = some (og (lnLo f)) := by decide +kernel
theorem og_hi : ∀ f, f < 4 → f_X2_highest (nI f) = some (og (lnHi f)) := by decide +kernel
theorem og_le : ∀ a, a < 14 → ∀ b, b < 14 → (og a < og b ↔ a < b) := by decide +kernel
theorem og_cases (y : Int32) : (∃ z, z < 13 ∧ y = og z) ∨ (y < -4 ∨ 8 < y) := by
  by_cases h : -4 ≤ y.toInt ∧ y.toInt ≤ 8
  · refine Or.inl ⟨(y.toInt + 4).toNat, by omega, ?_⟩
    apply Int32.toInt_inj.mp
    have hz : (y.toInt + 4).toNat < 13 := by omega
    have key : ∀ z, z < 13 → (og z).toInt = (z : Int) - 4 := by decide +kernel
    rw [key _ hz]; omega
  · refine Or.inr ?_
    have e4 : (-4 : Int32).toInt = -4 := by decide
    have e8 : (8 : Int32).toInt = 8 := by decide
    rw [Int32.lt_iff_toInt_lt, Int32.lt_iff_toInt_lt, e4, e8]; omega
theorem in_lt {y : Int32} {lo hi : Int64} (h : y.toInt < lo.toInt ∨ hi.toInt < y.toInt) : f_X8_in y.toInt64 lo hi = some 0 := by
  apply in_0
  rw [Int64.lt_iff_toInt_lt, Int64.lt_iff_toInt_lt, Int32.toInt_toInt64]
  exact h
theorem ln_cases (x y : Int32) : (∃ L, f_X2_isNone x y = some 0 ∧ f_X8_isLine x y = some 1 ∧ f_X2_cellsAhead x y = some L ∧ f_X8_aheadOf x y = some L) ∨ (f_X2_isNone x y = some 1 ∧ f_X8_isLine x y = some 0) := by
  rcases ix_cases x 4 (by decide) with ⟨f, hf, rfl⟩ | hx
  · rcases og_cases y with ⟨z, hz, rfl⟩ | hy
    · rw [ln_none f hf z hz, ln_is f hf z hz]
      cases h : isL f z
      · exact Or.inr ⟨rfl, rfl⟩
      · exact Or.inl ⟨lin f z, rfl, rfl, ln_x2 f hf z hz, ln_x8 f hf z hz h⟩
    · refine Or.inr ⟨?_, ?_⟩
      · unfold f_X2_isNone
        rw [og_lo f hf, og_hi f hf, b1s, b1s]
        have q0 : ¬ nI f < 0 := fun q => by
          have h1 := (nI_ltI (show f < 2 ^ 31 by omega) (show 0 < 2 ^ 31 by decide)).mp q
          omega
        have q4 : ¬ (4 : Int32) ≤ nI f := nI_ge hf (by decide)
        rw [if_neg q0, if_neg q4]
        rcases hy with hy | hy
        · have : y < og (lnLo f) := by
            have h0 : ∀ f, f < 4 → (-4 : Int32).toInt ≤ (og (lnLo f)).toInt := by decide +kernel
            have h1 := h0 f hf
            rw [Int32.lt_iff_toInt_lt] at hy ⊢
            omega
          rw [if_pos this]
        · have h0 : ∀ f, f < 4 → (og (lnHi f)).toInt ≤ (8 : Int32).toInt := by decide +kernel
          have h1 := h0 f hf
          have : ¬ y ≤ og (lnHi f) := by
            rw [Int32.lt_iff_toInt_lt] at hy
            rw [Int32.le_iff_toInt_le]
            omega
          rw [if_neg this]
          split <;> rfl
      · unfold f_X8_isLine
        rw [in_nI (show f ≤ 3 by omega) (by decide) |> (fun e => show f_X8_in (nI f).toInt64 0 3 = some 1 from e), b1s, if_neg ne_1_0]
        have e4 : (-4 : Int32).toInt = -4 := by decide
        have e8 : (8 : Int32).toInt = 8 := by decide
        rw [Int32.lt_iff_toInt_lt, Int32.lt_iff_toInt_lt, e4, e8] at hy
        have k1 : f_X8_in y.toInt64 (-4) 4 = some 0 := in_lt (by
          rw [show (-4 : Int64).toInt = -4 by decide, show (4 : Int64).toInt = 4 by decide]; omega)
        have k2 : f_X8_in y.toInt64 0 8 = some 0 := in_lt (by
          rw [show (0 : Int64).toInt = 0 by decide, show (8 : Int64).toInt = 8 by decide]; omega)
        have k3 : f_X8_in y.toInt64 0 4 = some 0 := in_lt (by
          rw [show (0 : Int64).toInt = 0 by decide, show (4 : Int64).toInt = 4 by decide]; omega)
        rw [k1, k2, k3]
        simp only [b1s, if_true, ite_self]
  · refine Or.inr ⟨?_, ?_⟩
    · unfold f_X2_isNone
      rcases hx with hx | hx
      · rw [if_pos hx]
      · rw [i4, if_pos hx]
        split <;> rfl
    · unfold f_X8_isLine
      rw [show f_X8_in x.toInt64 0 3 = some 0 from in_out (n := 3) (by decide) hx, b1s, if_pos rfl]
theorem pr_ahead {a b : Nat → Int64} (h : fe a b) (x y z : Int32) : ∃ r, f_X7_ahead a x y z = some r ∧ f_X8_ahead b x y z = some r := by
  unfold f_X7_ahead f_X8_ahead
  rcases ix_cases x 8 (by decide) with ⟨j, hj, rfl⟩ | hx
  · rw [noF_0 hj, isF_1 hj, b1s, b1s, if_pos rfl, if_neg ne_1_0, inb_nI hj (by decide), gds, gds, cl_nI (by omega), h j hj]
    rcases ln_cases y z with ⟨L, e1, e2, e3, e4⟩ | ⟨e1, e2⟩
    · rw [e1, e2, e3, e4, b1s, b1s, b1s, b1s, if_pos rfl, if_neg ne_1_0, bitCount_popc, ones_popc, b1s]
      exact ⟨_, rfl, rfl⟩
    · rw [e1, e2, b1s, b1s, if_neg ne_1_0, if_pos rfl]
      exact ⟨_, rfl, rfl⟩
  · rw [noF_1 hx, isF_0 hx, b1s, b1s]
    exact ⟨-1, by simp, by simp⟩
theorem pr_cut {nr : Nat → Int64} (hn : ∀ i, i < 64 → nr i = nearT i) {a b : Nat → Int64} (h : fe a b) (x y z : Int32) : ∃ r, f_X7_cut a x y z = some r ∧ f_X8_cut b nr x y z = some r := by
  unfold f_X7_cut f_X8_cut
  rcases ix_cases x 8 (by decide) with ⟨j, hj, rfl⟩ | hx
  · rw [noF_0 hj, isF_1 hj, b1s, b1s, if_pos rfl, if_neg ne_1_0, inb_nI hj (by decide)]
    rcases ln_cases y z with ⟨L, e1, e2, e3, e4⟩ | ⟨e1, e2⟩
    · simp only [e1, e2, e3, e4, b1s, gds, hk_let, cl_nI (show j < 2 ^ 31 by omega), h j hj, x0_countParts, x8_partsOf hn, if_true, if_neg ne_1_0]
      exact ⟨_, rfl, rfl⟩
    · rw [e1, e2, b1s, b1s, if_neg ne_1_0, if_pos rfl]
      exact ⟨_, rfl, rfl⟩
  · rw [noF_1 hx, isF_0 hx, b1s, b1s]
    exact ⟨-1, by simp, by simp⟩
theorem pr_split {a b : Nat → Int64} (h : fe a b) (x y z w : Int32) : ∃ r a' b', f_X7_split a x y z w = some (r, a') ∧ f_X8_split b x y z w = some (r, b') ∧ fe a' b' := by
  unfold f_X7_split f_X8_split
  rcases ix_cases x 8 (by decide) with ⟨j, hj, rfl⟩ | hx
  · rw [noF_0 hj, isF_1 hj, b1s, b1s, if_pos rfl, if_neg ne_1_0]
    rcases ix_cases w 8 (by decide) with ⟨k, hk, rfl⟩ | hx
    · rw [noF_0 hk, isF_1 hk, b1s, b1s, if_pos rfl, if_neg ne_1_0]
      rcases ln_cases y z with ⟨L, e1, e2, e3, e4⟩ | ⟨e1, e2⟩
      · rw [e1, e2, b1s, b1s, if_pos rfl, if_neg ne_1_0]
        by_cases hjk : j = k
        · rw [hjk, if_pos rfl, if_pos rfl]
          exact ⟨_, _, _, rfl, rfl, h⟩
        · have hne : ¬ nI j = nI k := fun e => hjk (nI_ij (by omega) (by omega) e)
          rw [if_neg hne, if_neg hne]
          simp only [e3, e4, b1s, gds, hk_let, inb_nI hj (show 8 < 2 ^ 31 by decide), inb_nI hk (show 8 < 2 ^ 31 by decide), cl_nI (show j < 2 ^ 31 by omega), cl_nI (show k < 2 ^ 31 by omega), become_s _ hk, b2s, ones_popc, updL_n hjk, updL_n (Ne.symm hjk), updL_s, h j hj]
          refine ⟨_, _, _, rfl, rfl, fun i hi => ?_⟩
          have hi := h i hi
          by_cases h1 : i = j
          · subst h1
            rw [updL_n hjk, updL_s, updL_s]
          · by_cases h2 : i = k
            · subst h2
              rw [updL_s, updL_n h1, updL_s]
            · rw [updL_n h2, updL_n h1, updL_n h1, updL_n h2]
              exact hi
      · rw [e1, e2, b1s, b1s, if_neg ne_1_0, if_pos rfl]
        exact ⟨_, _, _, rfl, rfl, h⟩
    · rw [noF_1 hx, isF_0 hx, b1s, b1s]
      exact ⟨-1, a, b, by simp, by simp, h⟩
  · rw [noF_1 hx, isF_0 hx, b1s, b1s]
    exact ⟨-1, a, b, by simp, by simp, h⟩
def hvp (c : Int64) (f z : Nat) : Bool := isL f z && decide (2 * popc (c &&& lin f z) = popc c)
def hvt (c : Int64) : Nat → Nat
  | 0 => 0
  | f + 1 => hvt c f + fb_ct (hvp c f) 13
theorem hv_eq (c L : Int64) : (nI (popc (c &&& L)) = nI (popc (c &&& (L ^^^ (-1))))) ↔ 2 * popc (c &&& L) = popc c := by
  have h := popc_split c L
  have h1 := popc_le (c &&& L)
  have h2 := popc_le (c &&& (L ^^^ (-1)))
  constructor
  · intro e
    have := nI_ij (by omega) (by omega) e
    omega
  · intro e
    rw [show popc (c &&& (L ^^^ (-1))) = popc (c &&& L) by omega]
theorem x2_hv1 (c : Int64) (t : Nat) {f : Nat} (hf : f < 4) : hk_wl (st_X2_countHalving_23 c (nI f)) hkF (nI t, og (lnLo f)) = some (nI (t + fb_ct (hvp c f) 13)) := by
  have l0 : lnLo f ≤ lnHi f := by unfold lnLo lnHi; split <;> split <;> omega
  have l1 : lnHi f ≤ 12 := by unfold lnHi; split <;> omega
  have s0 : fb_ct (hvp c f) (lnLo f) = 0 := fb_ct_zero.mpr (fun k hk => by
    unfold hvp isL
    rw [decide_eq_false (show ¬ lnLo f ≤ k by omega)]; rfl)
  have s1 : fb_ct (hvp c f) 13 = fb_ct (hvp c f) (lnHi f + 1) := by
    rw [show 13 = (lnHi f + 1) + (12 - lnHi f) by omega, fb_ct_split]
    rw [(fb_ct_zero (p := fun k => hvp c f (lnHi f + 1 + k))).mpr (fun k hk => by
      unfold hvp isL
      rw [decide_eq_false (show ¬ lnHi f + 1 + k ≤ lnHi f by omega), Bool.and_false]; rfl)]
    rfl
  have e := wl_for0 (f := st_X2_countHalving_23 c (nI f)) (fun i => (nI (t + fb_ct (hvp c f) (lnLo f + i)), og (lnLo f + i))) (e := lnHi f + 1 - lnLo f) (r := nI (t + fb_ct (hvp c f) 13)) (by
    intro i hi
    show st_X2_countHalving_23c c (nI f) (nI (t + fb_ct (hvp c f) (lnLo f + i))) (og (lnLo f + i)) = _
    have hz : lnLo f + i < 13 := by omega
    have hL : isL f (lnLo f + i) = true := by
      unfold isL
      rw [decide_eq_true (show lnLo f ≤ lnLo f + i by omega), decide_eq_true (show lnLo f + i ≤ lnHi f by omega)]; rfl
    have hlt : ¬ og (lnHi f) < og (lnLo f + i) := fun q => by
      have := (og_le _ (show lnHi f < 14 by omega) _ (show lnLo f + i < 14 by omega)).mp q
      omega
    unfold st_X2_countHalving_23c
    rw [og_hi f hf, b1s, if_neg hlt, ln_x2 f hf _ hz, b1s, bitCount_popc, b1s, bitCount_popc, b1s]
    simp only [hk_let, hv_eq, og_s _ hz]
    rw [show lnLo f + (i + 1) = lnLo f + i + 1 by omega, fb_ct_succ]
    have hp : hvp c f (lnLo f + i) = decide (2 * popc (c &&& lin f (lnLo f + i)) = popc c) := by
      unfold hvp; rw [hL, Bool.true_and]
    rw [hp]
    by_cases q : 2 * popc (c &&& lin f (lnLo f + i)) = popc c
    · rw [if_pos q, decide_eq_true q, if_pos rfl, i1, nI_add, Nat.add_assoc]
    · rw [if_neg q, decide_eq_false q]
      rfl) (by
    show st_X2_countHalving_23c c (nI f) (nI (t + fb_ct (hvp c f) (lnLo f + (lnHi f + 1 - lnLo f)))) (og (lnLo f + (lnHi f + 1 - lnLo f))) = _
    rw [show lnLo f + (lnHi f + 1 - lnLo f) = lnHi f + 1 by omega]
    unfold st_X2_countHalving_23c
    have hlt : og (lnHi f) < og (lnHi f + 1) := (og_le _ (show lnHi f < 14 by omega) _ (show lnHi f + 1 < 14 by omega)).mpr (by omega)
    rw [og_hi f hf, b1s, if_pos hlt, s1]) (by omega)
  have e' : hk_wl (st_X2_countHalving_23 c (nI f)) hkF (nI (t + fb_ct (hvp c f) (lnLo f + 0)), og (lnLo f + 0)) = _ := e
  rw [Nat.add_zero, s0, Nat.add_zero] at e'
  exact e'
theorem x2_hv {c : Int64} (h0 : ¬ c = 0) : f_X2_countHalving c = some (nI (hvt c 4)) := by
  unfold f_X2_countHalving
  have e := wl_for0 (f := st_X2_countHalving_12 c) (fun f => (nI (hvt c f), nI f)) (e := 4) (r := nI (hvt c 4)) (by
    intro f hf
    show st_X2_countHalving_12c c (nI (hvt c f)) (nI f) = _
    unfold st_X2_countHalving_12c
    rw [i4, if_neg (nI_ge hf (by decide)), og_lo f hf, b1s, x2_hv1 c _ hf, b1s]
    simp only [hk_let, i1, nI_add]
    rfl) (by
    show st_X2_countHalving_12c c (nI (hvt c 4)) (nI 4) = _
    unfold st_X2_countHalving_12c
    rw [i4, if_pos (by decide)]) (by decide)
  have e' : hk_wl (st_X2_countHalving_12 c) hkF ((0 : Int32), (0 : Int32)) = _ := e
  rw [if_neg h0, e', b1s]
theorem x8_hv1 {b : Nat → Int64} {j : Nat} (hj : j < 8) (t : Nat) {f : Nat} (hf : f < 4) : hk_wl (st_X8_halves_33 b (nI j) (nI f)) hkF (nI t, (-4 : Int32)) = some (nI (t + fb_ct (hvp (b j) f) 13)) := by
  have e := wl_for0 (f := st_X8_halves_33 b (nI j) (nI f)) (fun i => (nI (t + fb_ct (hvp (b j) f) i), og i)) (e := 13) (r := nI (t + fb_ct (hvp (b j) f) 13)) (by
    intro i hi
    show st_X8_halves_33c b (nI j) (nI f) (nI (t + fb_ct (hvp (b j) f) i)) (og i) = _
    unfold st_X8_halves_33c
    rw [if_neg (og_9 i hi), ln_is f hf i hi, b1s]
    simp only [hk_let, og_s i hi, inb_nI hj (show 8 < 2 ^ 31 by decide), gds, cl_nI (show j < 2 ^ 31 by omega), ones_popc, b1s]
    rw [fb_ct_succ]
    have hp : hvp (b j) f i = (isL f i && decide (2 * popc (b j &&& lin f i) = popc (b j))) := rfl
    rw [hp]
    cases hL : isL f i
    · rw [if_neg (show ¬ false = true by decide), if_pos rfl, b1s, Bool.false_and, if_neg (show ¬ false = true by decide), i0, nI_add]
      rfl
    · have h1 := popc_le (b j &&& lin f i)
      have h2 := popc_le (b j)
      rw [if_pos rfl, if_neg ne_1_0, ln_x8 f hf i hi hL, b1s, i2, pk_mul, Bool.true_and]
      by_cases q : 2 * popc (b j &&& lin f i) = popc (b j)
      · rw [q, if_pos rfl, b1s, decide_eq_true rfl, if_pos rfl, i1, nI_add, Nat.add_assoc]
      · have hne : ¬ nI (2 * popc (b j &&& lin f i)) = nI (popc (b j)) := fun e => q (nI_ij (by omega) (by omega) e)
        rw [if_neg hne, b1s, decide_eq_false q, if_neg (show ¬ false = true by decide), i0, nI_add]
        rfl) (by
    show st_X8_halves_33c b (nI j) (nI f) (nI (t + fb_ct (hvp (b j) f) 13)) (og 13) = _
    unfold st_X8_halves_33c
    rw [if_pos (by decide)]) (by decide)
  exact e
theorem pr_halves {a b : Nat → Int64} (h : fe a b) (x : Int32) : ∃ r, f_X7_halves a x = some r ∧ f_X8_halves b x = some r := by
  unfold f_X7_halves f_X8_halves
  rcases ix_cases x 8 (by decide) with ⟨j, hj, rfl⟩ | hx
  · rw [noF_0 hj, isF_1 hj, b1s, b1s, if_pos rfl, if_neg ne_1_0, inb_nI hj (by decide), gds, cl_nI (by omega), h j hj]
    by_cases h0 : b j = 0
    · refine ⟨0, ?_, ?_⟩
      · unfold f_X2_countHalving
        rw [if_pos h0, b1s]
      · have : hk_wl (st_X8_halves_13 b (nI j)) hkF ((0 : Int32), (0 : Int32)) = some 0 := by
          unfold hkF
          refine wl_end ?_
          show st_X8_halves_13c b (nI j) 0 0 = _
          unfold st_X8_halves_13c
          rw [if_neg (by decide), inb_nI hj (by decide), gds, cl_nI (by omega), if_pos h0]
        rw [this, b1s]
    · have e := wl_for0 (f := st_X8_halves_13 b (nI j)) (fun f => (nI (hvt (b j) f), nI f)) (e := 4) (r := nI (hvt (b j) 4)) (by
        intro f hf
        show st_X8_halves_13c b (nI j) (nI (hvt (b j) f)) (nI f) = _
        unfold st_X8_halves_13c
        rw [if_neg (show ¬ (4 : Int32) ≤ nI f from nI_ge hf (by decide)), inb_nI hj (by decide), gds, cl_nI (by omega), if_neg h0, x8_hv1 hj _ hf, b1s]
        simp only [hk_let, i1, nI_add]
        rfl) (by
        show st_X8_halves_13c b (nI j) (nI (hvt (b j) 4)) (nI 4) = _
        unfold st_X8_halves_13c
        rw [i4, if_pos (by decide)]) (by decide)
      have e' : hk_wl (st_X8_halves_13 b (nI j)) hkF ((0 : Int32), (0 : Int32)) = _ := e
      rw [x2_hv h0, b1s, e', b1s]
      exact ⟨_, rfl, rfl⟩
  · rw [noF_1 hx, isF_0 hx, b1s, b1s]
    exact ⟨-1, by simp, by simp⟩
