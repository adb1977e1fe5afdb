/-! points: the eight sectors about a corner or a midst -/
theorem ish_k : ∀ k, k < 32 → (nI k &&& 31).toBitVec.smod 32 = BitVec.ofNat 32 k := by decide +kernel
theorem bi_ishl (x : Int32) {k : Nat} (hk : k < 32) {i : Nat} (hi : i < 32) : bi (hk_ishl x (nI k)) i = (decide (k ≤ i) && bi x (i - k)) := by
  unfold hk_ishl bi
  rw [Int32.toBitVec_shiftLeft, ish_k k hk, BitVec.shiftLeft_eq', BitVec.toNat_ofNat, Nat.mod_eq_of_lt (show k < 2 ^ 32 by omega), BitVec.getLsbD_shiftLeft]
  by_cases h : k ≤ i
  · simp [hi, h, Nat.not_lt.mpr h]
  · simp [hi, h, Nat.lt_of_not_le h]
theorem bi_ishr (x : Int32) {k : Nat} (hk : k < 32) {i : Nat} (hi : k + i < 32) : bi (hk_ishr x (nI k)) i = bi x (k + i) := by
  unfold hk_ishr bi
  rw [Int32.toBitVec_shiftRight, ish_k k hk, BitVec.sshiftRight_eq', BitVec.toNat_ofNat, Nat.mod_eq_of_lt (show k < 2 ^ 32 by omega), BitVec.getLsbD_sshiftRight]
  have h1 : ¬ 32 ≤ i := by omega
  simp [hi, h1]
theorem bi_1 (i : Nat) : bi 1 i = decide (i = 0) := by
  rw [show (1 : Int32) = nI (2 ^ 0) from rfl, bi_nI _ _ (by decide), Nat.testBit_two_pow]
  by_cases h : i = 0
  · simp [h]
  · simp [h]; omega
theorem bi_0 (i : Nat) : bi 0 i = false := by
  rw [i0, bi_nI _ _ (by decide), Nat.zero_testBit]
theorem bi_t1 (x : Int32) {a i : Nat} (ha : a < 32) (hi : i < 32) : bi (hk_ishr x (nI a) &&& 1) i = (decide (i = 0) && bi x a) := by
  rw [bi_and, bi_1]
  by_cases h : i = 0
  · subst h; rw [bi_ishr x ha (by omega)]; simp
  · simp [h]
theorem bi_t0 (x : Int32) (i : Nat) : bi (x &&& 1) i = (decide (i = 0) && bi x 0) := by
  rw [bi_and, bi_1]
  by_cases h : i = 0
  · subst h; simp
  · simp [h]
theorem bi_ts (x : Int32) {p : Bool} (hx : ∀ i, i < 32 → bi x i = (decide (i = 0) && p)) {k i : Nat} (hk : k < 32) (hi : i < 32) : bi (hk_ishl x (nI k)) i = (decide (i = k) && p) := by
  rw [bi_ishl x hk hi]
  by_cases h : k ≤ i
  · rw [hx _ (by omega)]
    by_cases h2 : i = k
    · subst h2; simp
    · simp [h2, show ¬ i - k = 0 by omega]
  · simp [h, show ¬ i = k by omega]
theorem and1_bi (x : Int32) {k : Nat} (hk : k < 32) : (hk_ishr x (nI k) &&& 1 = 0) ↔ bi x k = false := by
  constructor
  · intro e
    have := bi_t1 x hk (show 0 < 32 by decide)
    rw [e, bi_0] at this
    simpa using this.symm
  · intro e
    apply bi_ext
    intro i hi
    rw [bi_t1 x hk hi, e, bi_0, Bool.and_false]
theorem k7 : ∀ t, t < 16 → nI t &&& 7 = nI (t % 8) := by decide +kernel
theorem isFull_bi (r : Int32) {t : Nat} (ht : t < 16) : f_X4_isFull r (nI t) = some (if bi r (t % 8) = true then 1 else 0) := by
  unfold f_X4_isFull
  rw [k7 t ht]
  cases h : bi r (t % 8)
  · rw [if_pos ((and1_bi r (show t % 8 < 32 by omega)).mpr h)]; rfl
  · rw [if_neg (fun q => by rw [(and1_bi r (show t % 8 < 32 by omega)).mp q] at h; cases h)]; rfl
/-- row or column, counted from the one before the board -/
def om (R : Nat) : Int32 := nI R - 1
theorem om_s (R : Nat) : om (R + 1) = nI R := by
  unfold om
  rw [i1, pk_sub (by omega)]; rfl
def sqv (c : Int64) (R C t : Nat) : Bool := if (1 ≤ R ∧ R ≤ 4) ∧ (1 ≤ C ∧ C ≤ 4) then bl c (16 * (R - 1) + 4 * (C - 1) + t) else false
theorem om_lt : ∀ R, R < 6 → (om R < 0 ↔ R = 0) := by decide +kernel
theorem om_gt : ∀ R, R < 6 → (3 < om R ↔ R = 5) := by decide +kernel
theorem om_le : ∀ R, R < 6 → (om R ≤ 3 ↔ R < 5) := by decide +kernel
theorem om_in : ∀ R, R < 6 → f_X8_in (om R).toInt64 0 3 = some (if 1 ≤ R ∧ R ≤ 4 then 1 else 0) := by decide +kernel
theorem om_p {R : Nat} (h : 1 ≤ R) : om R = nI (R - 1) := by rw [show R = R - 1 + 1 by omega, om_s]; rfl
theorem sq_bi (c : Int64) {x : Nat} (hx : x < 16) {t : Nat} (ht : t < 4) : ∃ v, f_X0_square c (nI x) = some v ∧ ∀ t, t < 4 → bi v t = bl c (4 * x + t) := by
  refine ⟨_, rfl, fun t ht => ?_⟩
  rw [bi_and, i4, pk_mul, bi_l2i _ (by omega), bl_ushr _ (by omega), i15, bi_nI _ _ (by decide), show (15 : Nat) = 2 ^ 4 - 1 from rfl, Nat.testBit_two_pow_sub_one, decide_eq_true ht, Bool.and_true]
theorem sqAt (c : Int64) {x y : Int32} {R C : Nat} (hx : x = om R) (hy : y = om C) (hR : R < 6) (hC : C < 6) : ∃ v, f_X4_squareAt c x y = some v ∧ ∀ t, t < 4 → bi v t = sqv c R C t := by
  subst hx hy
  unfold f_X4_squareAt
  by_cases h : (1 ≤ R ∧ R ≤ 4) ∧ (1 ≤ C ∧ C ≤ 4)
  · obtain ⟨v, e, hv⟩ := sq_bi c (show 4 * (R - 1) + (C - 1) < 16 by omega) (show 0 < 4 by decide)
    refine ⟨v, ?_, fun t ht => ?_⟩
    · rw [if_neg (fun q => by have := (om_lt R hR).mp q; omega), if_neg (fun q => by have := (om_gt R hR).mp q; omega), if_neg (fun q => by have := (om_lt C hC).mp q; omega), if_pos ((om_le C hC).mpr (by omega)), om_p h.1.1, om_p h.2.1, i4, pk_mul, nI_add, e, b1s]
    · unfold sqv
      rw [if_pos h, hv t ht]
      congr 1
      omega
  · refine ⟨0, ?_, fun t ht => by unfold sqv; rw [if_neg h, bi_0]⟩
    by_cases h1 : om R < 0
    · rw [if_pos h1]
    · rw [if_neg h1]
      by_cases h2 : 3 < om R
      · rw [if_pos h2]
      · rw [if_neg h2]
        by_cases h3 : om C < 0
        · rw [if_pos h3]
        · rw [if_neg h3]
          have n1 : ¬ R = 0 := fun q => h1 ((om_lt R hR).mpr q)
          have n2 : ¬ R = 5 := fun q => h2 ((om_gt R hR).mpr q)
          have n3 : ¬ C = 0 := fun q => h3 ((om_lt C hC).mpr q)
          rw [if_neg (fun q => by have := (om_le C hC).mp q; omega)]
theorem x8_sec (c : Int64) {x y z : Int32} {R C t : Nat} (hx : x = om R) (hy : y = om C) (hz : z = nI t) (hR : R < 6) (hC : C < 6) (ht : t < 4) : (hk_b1 (f_X8_in (x.toInt64) (0 : Int64) (3 : Int64)) fun r36 => hk_b1 (if r36 = 0 then (some (0 : Int32)) else (hk_b1 (f_X8_in (y.toInt64) (0 : Int64) (3 : Int64)) fun r42 => if r42 = 0 then (some (0 : Int32)) else (hk_b1 (f_X8_has c ((((16 : Int32) * x) + ((4 : Int32) * y)) + z)) fun r47 => if r47 = 0 then (some (0 : Int32)) else (some (1 : Int32))))) fun v52 => some v52) = some (if sqv c R C t = true then 1 else 0) := by
  subst hx hy hz
  rw [om_in R hR, om_in C hC, b1s]
  by_cases h1 : 1 ≤ R ∧ R ≤ 4
  · rw [if_pos h1, if_neg ne_1_0, b1s]
    by_cases h2 : 1 ≤ C ∧ C ≤ 4
    · have hv : sqv c R C t = bl c (16 * (R - 1) + 4 * (C - 1) + t) := if_pos ⟨h1, h2⟩
      rw [hv, if_pos h2, if_neg ne_1_0, om_p h1.1, om_p h2.1, i4, i16, pk_mul, pk_mul, nI_add, nI_add, has_nI c (by omega), b1s]
      cases bl c (16 * (R - 1) + 4 * (C - 1) + t) <;> rfl
    · have hv : sqv c R C t = false := if_neg (fun q => h2 q.2)
      rw [hv, if_neg h2, if_pos rfl]; rfl
  · have hv : sqv c R C t = false := if_neg (fun q => h1 q.1)
    rw [hv, if_neg h1, if_pos rfl]; rfl
/-- sectors about a corner -/
def rgC (c : Int64) (r k s : Nat) : Bool :=
  if s = 0 then sqv c r (k + 1) 3 else if s = 1 then sqv c r (k + 1) 2 else if s = 2 then sqv c (r + 1) (k + 1) 0 else if s = 3 then sqv c (r + 1) (k + 1) 3 else if s = 4 then sqv c (r + 1) k 1 else if s = 5 then sqv c (r + 1) k 0 else if s = 6 then sqv c r k 2 else if s = 7 then sqv c r k 1 else false
theorem s8 {s : Nat} (h : s < 8) : s = 0 ∨ s = 1 ∨ s = 2 ∨ s = 3 ∨ s = 4 ∨ s = 5 ∨ s = 6 ∨ s = 7 := by omega
theorem x4_ringC (c : Int64) {r k : Nat} (hr : r < 5) (hk : k < 5) : ∃ v, f_X4_ringAboutCorner c (nI r) (nI k) = some v ∧ ∀ s, s < 8 → bi v s = rgC c r k s := by
  obtain ⟨v1, e1, h1⟩ := sqAt c (x := nI r - 1) (y := nI k) (R := r) (C := k + 1) rfl (om_s k).symm (by omega) (by omega)
  obtain ⟨v2, e2, h2⟩ := sqAt c (x := nI r) (y := nI k) (R := r + 1) (C := k + 1) (om_s r).symm (om_s k).symm (by omega) (by omega)
  obtain ⟨v3, e3, h3⟩ := sqAt c (x := nI r) (y := nI k - 1) (R := r + 1) (C := k) (om_s r).symm rfl (by omega) (by omega)
  obtain ⟨v4, e4, h4⟩ := sqAt c (x := nI r - 1) (y := nI k - 1) (R := r) (C := k) rfl rfl (by omega) (by omega)
  unfold f_X4_ringAboutCorner
  rw [e1, e2, e3, e4, b1s, b1s, b1s, b1s]
  refine ⟨_, rfl, fun s hs => ?_⟩
  have hs' : s < 32 := by omega
  rw [bi_or, bi_or, bi_or, bi_or, bi_or, bi_or, bi_or]
  rw [bi_t1 v1 (show 3 < 32 by decide) hs' |> (fun e => show bi (hk_ishr v1 3 &&& 1) s = _ from e)]
  rw [bi_ts (hk_ishr v1 2 &&& 1) (fun i hi => bi_t1 v1 (show 2 < 32 by decide) hi) (show 1 < 32 by decide) hs' |> (fun e => show bi (hk_ishl (hk_ishr v1 2 &&& 1) 1) s = _ from e)]
  rw [bi_ts (v2 &&& 1) (fun i hi => bi_t0 v2 i) (show 2 < 32 by decide) hs' |> (fun e => show bi (hk_ishl (v2 &&& 1) 2) s = _ from e)]
  rw [bi_ts (hk_ishr v2 3 &&& 1) (fun i hi => bi_t1 v2 (show 3 < 32 by decide) hi) (show 3 < 32 by decide) hs' |> (fun e => show bi (hk_ishl (hk_ishr v2 3 &&& 1) 3) s = _ from e)]
  rw [bi_ts (hk_ishr v3 1 &&& 1) (fun i hi => bi_t1 v3 (show 1 < 32 by decide) hi) (show 4 < 32 by decide) hs' |> (fun e => show bi (hk_ishl (hk_ishr v3 1 &&& 1) 4) s = _ from e)]
  rw [bi_ts (v3 &&& 1) (fun i hi => bi_t0 v3 i) (show 5 < 32 by decide) hs' |> (fun e => show bi (hk_ishl (v3 &&& 1) 5) s = _ from e)]
  rw [bi_ts (hk_ishr v4 2 &&& 1) (fun i hi => bi_t1 v4 (show 2 < 32 by decide) hi) (show 6 < 32 by decide) hs' |> (fun e => show bi (hk_ishl (hk_ishr v4 2 &&& 1) 6) s = _ from e)]
  rw [bi_ts (hk_ishr v4 1 &&& 1) (fun i hi => bi_t1 v4 (show 1 < 32 by decide) hi) (show 7 < 32 by decide) hs' |> (fun e => show bi (hk_ishl (hk_ishr v4 1 &&& 1) 7) s = _ from e)]
  rw [h1 3 (by decide), h1 2 (by decide), h2 0 (by decide), h2 3 (by decide), h3 1 (by decide), h3 0 (by decide), h4 2 (by decide), h4 1 (by decide)]
  unfold rgC
  rcases s8 hs with q | q | q | q | q | q | q | q <;> subst q <;> simp
def wrB (g : Nat → Bool) (w : Nat → Int32) : Nat → Nat → Int32
  | 0 => w
  | n + 1 => upd (wrB g w n) n (if g n = true then 1 else 0)
theorem wrB_at {g : Nat → Bool} {w : Nat → Int32} : ∀ {n s : Nat}, s < n → wrB g w n s = if g s = true then 1 else 0
  | n + 1, s, h => by
    show (upd (wrB g w n) n (if g n = true then 1 else 0)) s = _
    by_cases e : s = n
    · rw [e, upd_s]
    · rw [show upd (wrB g w n) n (if g n = true then 1 else 0) s = wrB g w n s from if_neg e]
      exact wrB_at (by omega)
theorem narB (b : Bool) : vp_nar .boolean (if b = true then 1 else 0) = if b = true then 1 else 0 := by cases b <;> rfl
theorem x8_lc (c : Int64) {r k : Nat} (hr : r < 5) (hk : k < 5) (w : Nat → Int32) {s : Nat} (hs : s < 8) : st_X8_layCorner_3c c (nI r) (nI k) (nI s) w = some (.inl (nI (s + 1), upd w s (if rgC c r k s = true then 1 else 0))) := by
  have key : ∀ (x y z : Int32) (R C t : Nat), x = om R → y = om C → z = nI t → R < 6 → C < 6 → t < 4 → (hk_b1 (f_X8_in (x.toInt64) (0 : Int64) (3 : Int64)) fun r36 => hk_b1 (if r36 = 0 then (some (0 : Int32)) else (hk_b1 (f_X8_in (y.toInt64) (0 : Int64) (3 : Int64)) fun r42 => if r42 = 0 then (some (0 : Int32)) else (hk_b1 (f_X8_has c ((((16 : Int32) * x) + ((4 : Int32) * y)) + z)) fun r47 => if r47 = 0 then (some (0 : Int32)) else (some (1 : Int32))))) fun v52 => hk_gd (hk_inb (nI s) 8) (some (.inl (nI s + (1 : Int32), upd w (nI s).toNatClampNeg (vp_nar .boolean v52)))) : Option ((Int32 × (Nat → Int32)) ⊕ (Nat → Int32))) = some (.inl (nI (s + 1), upd w s (if sqv c R C t = true then 1 else 0))) := by
    intro x y z R C t hx hy hz hR hC ht
    have e := x8_sec c hx hy hz hR hC ht
    cases e1 : f_X8_in (x.toInt64) (0 : Int64) (3 : Int64) with
    | none => rw [e1] at e; cases e
    | some v1 =>
      rw [e1, b1s] at e
      rw [b1s]
      cases e2 : (if v1 = 0 then (some (0 : Int32)) else (hk_b1 (f_X8_in (y.toInt64) (0 : Int64) (3 : Int64)) fun r42 => if r42 = 0 then (some (0 : Int32)) else (hk_b1 (f_X8_has c ((((16 : Int32) * x) + ((4 : Int32) * y)) + z)) fun r47 => if r47 = 0 then (some (0 : Int32)) else (some (1 : Int32))))) with
      | none => rw [e2] at e; cases e
      | some v2 =>
        rw [e2, b1s] at e
        rw [b1s, Option.some.inj e, inb_nI hs (by decide), gds, cl_nI (by omega), narB, i1, nI_add]
  have n8 : ¬ (8 : Int32) ≤ nI s := nI_ge hs (by decide)
  unfold st_X8_layCorner_3c
  rw [if_neg n8]
  rcases s8 hs with q | q | q | q | q | q | q | q <;> subst q
  · simp only [hk_let, eq_true (show (nI 0 / 2 : Int32) = 0 by decide), eq_false (show ¬ (nI 0 / 2 : Int32) = 3 by decide), eq_false (show ¬ (2 : Int32) ≤ nI 0 / 2 by decide), eq_true (show hk_rem (nI 0) 2 = 0 by decide), if_true, if_false]
    exact key (nI r - 1) (nI k) (hk_rem (nI 0 / 2 + 3) 4) r (k + 1) 3 rfl (om_s k).symm (by decide) (by omega) (by omega) (by decide)
  · simp only [hk_let, eq_true (show (nI 1 / 2 : Int32) = 0 by decide), eq_false (show ¬ (nI 1 / 2 : Int32) = 3 by decide), eq_false (show ¬ (2 : Int32) ≤ nI 1 / 2 by decide), eq_false (show ¬ hk_rem (nI 1) 2 = 0 by decide), if_true, if_false]
    exact key (nI r - 1) (nI k) (hk_rem (nI 1 / 2 + 2) 4) r (k + 1) 2 rfl (om_s k).symm (by decide) (by omega) (by omega) (by decide)
  · simp only [hk_let, eq_false (show ¬ (nI 2 / 2 : Int32) = 0 by decide), eq_false (show ¬ (nI 2 / 2 : Int32) = 3 by decide), eq_false (show ¬ (2 : Int32) ≤ nI 2 / 2 by decide), eq_true (show hk_rem (nI 2) 2 = 0 by decide), if_true, if_false]
    exact key (nI r) (nI k) (hk_rem (nI 2 / 2 + 3) 4) (r + 1) (k + 1) 0 (om_s r).symm (om_s k).symm (by decide) (by omega) (by omega) (by decide)
  · simp only [hk_let, eq_false (show ¬ (nI 3 / 2 : Int32) = 0 by decide), eq_false (show ¬ (nI 3 / 2 : Int32) = 3 by decide), eq_false (show ¬ (2 : Int32) ≤ nI 3 / 2 by decide), eq_false (show ¬ hk_rem (nI 3) 2 = 0 by decide), if_true, if_false]
    exact key (nI r) (nI k) (hk_rem (nI 3 / 2 + 2) 4) (r + 1) (k + 1) 3 (om_s r).symm (om_s k).symm (by decide) (by omega) (by omega) (by decide)
  · simp only [hk_let, eq_false (show ¬ (nI 4 / 2 : Int32) = 0 by decide), eq_false (show ¬ (nI 4 / 2 : Int32) = 3 by decide), eq_true (show (2 : Int32) ≤ nI 4 / 2 by decide), eq_true (show hk_rem (nI 4) 2 = 0 by decide), if_true, if_false]
    exact key (nI r) (nI k - 1) (hk_rem (nI 4 / 2 + 3) 4) (r + 1) k 1 (om_s r).symm rfl (by decide) (by omega) (by omega) (by decide)
  · simp only [hk_let, eq_false (show ¬ (nI 5 / 2 : Int32) = 0 by decide), eq_false (show ¬ (nI 5 / 2 : Int32) = 3 by decide), eq_true (show (2 : Int32) ≤ nI 5 / 2 by decide), eq_false (show ¬ hk_rem (nI 5) 2 = 0 by decide), if_true, if_false]
    exact key (nI r) (nI k - 1) (hk_rem (nI 5 / 2 + 2) 4) (r + 1) k 0 (om_s r).symm rfl (by decide) (by omega) (by omega) (by decide)
  · simp only [hk_let, eq_false (show ¬ (nI 6 / 2 : Int32) = 0 by decide), eq_true (show (nI 6 / 2 : Int32) = 3 by decide), eq_true (show (2 : Int32) ≤ nI 6 / 2 by decide), eq_true (show hk_rem (nI 6) 2 = 0 by decide), if_true, if_false]
    exact key (nI r - 1) (nI k - 1) (hk_rem (nI 6 / 2 + 3) 4) r k 2 rfl rfl (by decide) (by omega) (by omega) (by decide)
  · simp only [hk_let, eq_false (show ¬ (nI 7 / 2 : Int32) = 0 by decide), eq_true (show (nI 7 / 2 : Int32) = 3 by decide), eq_true (show (2 : Int32) ≤ nI 7 / 2 by decide), eq_false (show ¬ hk_rem (nI 7) 2 = 0 by decide), if_true, if_false]
    exact key (nI r - 1) (nI k - 1) (hk_rem (nI 7 / 2 + 2) 4) r k 1 rfl rfl (by decide) (by omega) (by omega) (by decide)
theorem x8_layCorner (c : Int64) {r k : Nat} (hr : r < 5) (hk : k < 5) (w : Nat → Int32) : f_X8_layCorner w c (nI r) (nI k) = some (wrB (rgC c r k) w 8) := by
  have e := wl_for0 (f := st_X8_layCorner_3 c (nI r) (nI k)) (fun s => (nI s, wrB (rgC c r k) w s)) (e := 8) (r := wrB (rgC c r k) w 8) (fun s hs => x8_lc c hr hk _ hs) (by
    show st_X8_layCorner_3c c (nI r) (nI k) (nI 8) _ = _
    unfold st_X8_layCorner_3c
    rw [if_pos (by decide)]) (by decide)
  unfold f_X8_layCorner
  have e' : hk_wl (st_X8_layCorner_3 c (nI r) (nI k)) hkF ((0 : Int32), w) = _ := e
  rw [e', b1s]
/-- sectors about a midst -/
def rgM (c : Int64) (q s : Nat) : Bool := bl c (4 * q + s / 2)
theorem x8_layMidst (c : Int64) {q : Nat} (hq : q < 16) (w : Nat → Int32) : f_X8_layMidst w c (nI q) = some (wrB (rgM c q) w 8) := by
  have e := wl_for0 (f := st_X8_layMidst_3 c (nI q)) (fun s => (nI s, wrB (rgM c q) w s)) (e := 8) (r := wrB (rgM c q) w 8) (by
    intro s hs
    show st_X8_layMidst_3c c (nI q) (nI s) _ = _
    unfold st_X8_layMidst_3c
    rw [if_neg (show ¬ (8 : Int32) ≤ nI s from nI_ge hs (by decide)), i4, pk_mul, i2, div_nI (by omega) (by decide) (by decide), nI_add, has_nI c (show 4 * q + s / 2 < 64 by omega), b1s, inb_nI hs (by decide), gds, cl_nI (by omega), narB, i1, nI_add]
    rfl) (by
    show st_X8_layMidst_3c c (nI q) (nI 8) _ = _
    unfold st_X8_layMidst_3c
    rw [if_pos (by decide)]) (by decide)
  unfold f_X8_layMidst
  have e' : hk_wl (st_X8_layMidst_3 c (nI q)) hkF ((0 : Int32), w) = _ := e
  rw [e', b1s]
def mR (x : Int32) : Nat → Int32
  | 0 => 0
  | n + 1 => if bi x n = true then mR x n ||| hk_ishl 3 (nI (2 * n)) else mR x n
theorem mR_bi (x : Int32) : ∀ n, n ≤ 4 → ∀ s, s < 8 → bi (mR x n) s = (decide (s / 2 < n) && bi x (s / 2))
  | 0, _, s, _ => by
    show bi 0 s = _
    rw [bi_0]; simp
  | n + 1, hn, s, hs => by
    have ih := mR_bi x n (by omega) s hs
    have h3 : bi (hk_ishl 3 (nI (2 * n))) s = decide (s / 2 = n) := by
      rw [bi_ishl 3 (by omega) (by omega), i3, bi_nI _ _ (by decide), show (3 : Nat) = 2 ^ 2 - 1 from rfl, Nat.testBit_two_pow_sub_one]
      by_cases h : s / 2 = n
      · rw [decide_eq_true (show 2 * n ≤ s by omega), decide_eq_true (show s - 2 * n < 2 by omega), decide_eq_true h]; rfl
      · rw [decide_eq_false h]
        by_cases h2 : 2 * n ≤ s
        · rw [decide_eq_false (show ¬ s - 2 * n < 2 by omega), Bool.and_false]
        · rw [decide_eq_false h2, Bool.false_and]
    show bi (if bi x n = true then mR x n ||| hk_ishl 3 (nI (2 * n)) else mR x n) s = _
    by_cases h : s / 2 = n
    · have i1 : decide (s / 2 < n) = false := decide_eq_false (by omega)
      have i2 : decide (s / 2 < n + 1) = true := decide_eq_true (by omega)
      rw [i2, h]
      rw [i1] at ih
      cases hb : bi x n
      · rw [if_neg (by decide), ih]; rfl
      · rw [if_pos rfl, bi_or, ih, h3, decide_eq_true h]; rfl
    · have i2 : decide (s / 2 < n + 1) = decide (s / 2 < n) := by
        by_cases q : s / 2 < n
        · rw [decide_eq_true q, decide_eq_true (by omega)]
        · rw [decide_eq_false q, decide_eq_false (by omega)]
      rw [i2]
      cases hb : bi x n
      · rw [if_neg (by decide), ih]
      · rw [if_pos rfl, bi_or, ih, h3, decide_eq_false h, Bool.or_false]
theorem x4_midst (x : Int32) : f_X4_ringAboutMidst x = some (mR x 4) := by
  have e := wl_for0 (f := st_X4_ringAboutMidst_4 x) (fun n => (mR x n, nI n)) (e := 4) (r := mR x 4) (by
    intro n hn
    show st_X4_ringAboutMidst_4c x (mR x n) (nI n) = _
    unfold st_X4_ringAboutMidst_4c
    rw [if_neg (show ¬ (4 : Int32) ≤ nI n from nI_ge hn (by decide))]
    simp only [hk_let]
    rw [i2, pk_mul]
    cases hb : bi x n
    · rw [if_pos ((and1_bi x (show n < 32 by omega)).mpr hb), i1, nI_add]
      have : mR x (n + 1) = mR x n := if_neg (by rw [hb]; decide)
      rw [this]
    · rw [if_neg (fun q => by rw [(and1_bi x (show n < 32 by omega)).mp q] at hb; cases hb), i1, nI_add]
      have : mR x (n + 1) = mR x n ||| hk_ishl 3 (nI (2 * n)) := if_pos hb
      rw [this]) (by
    show st_X4_ringAboutMidst_4c x (mR x 4) (nI 4) = _
    unfold st_X4_ringAboutMidst_4c
    rw [if_pos (by decide)]) (by decide)
  unfold f_X4_ringAboutMidst
  have e' : hk_wl (st_X4_ringAboutMidst_4 x) hkF ((0 : Int32), (0 : Int32)) = _ := e
  rw [e', b1s]
/-- sectors about point p -/
def rg (c : Int64) (p s : Nat) : Bool := if p < 25 then rgC c (p / 5) (p % 5) s else rgM c (p - 25) s
theorem x4_ring (c : Int64) {p : Nat} (hp : p < 41) : ∃ v, f_X4_ringAbout c (nI p) = some v ∧ ∀ s, s < 8 → bi v s = rg c p s := by
  unfold f_X4_ringAbout
  by_cases h : p < 25
  · obtain ⟨v, e, hv⟩ := x4_ringC c (show p / 5 < 5 by omega) (show p % 5 < 5 by omega)
    refine ⟨v, ?_, fun s hs => ?_⟩
    · rw [if_neg (show ¬ (25 : Int32) ≤ nI p from nI_ge h (by decide)), i5, div_nI (by omega) (by decide) (by decide), rem_nI (by omega) (by decide) (by decide), e, b1s]
    · rw [hv s hs]; unfold rg; rw [if_pos h]
  · obtain ⟨v, e, hv⟩ := sq_bi c (show p - 25 < 16 by omega) (show 0 < 4 by decide)
    refine ⟨mR v 4, ?_, fun s hs => ?_⟩
    · rw [if_pos (show (25 : Int32) ≤ nI p from (nI_leI (a := 25) (by decide) (by omega)).mpr (by omega)), i25, pk_sub (by omega), e, b1s, x4_midst, b1s]
    · rw [mR_bi v 4 (by omega) s hs, decide_eq_true (by omega), Bool.true_and, hv _ (by omega)]
      unfold rg rgM
      rw [if_neg h]
