/-! growth -/
def aro (c : Int64) : Int64 := nbr c &&& (c ^^^ (-1))
theorem aro_f (c : Int64) : f_X0_around c = some (aro c) := by
  unfold f_X0_around
  rw [nbr_f, b1s]
  rfl
theorem nI_ij {a b : Nat} (ha : a < 2 ^ 31) (hb : b < 2 ^ 31) (h : nI a = nI b) : a = b := by
  have := congrArg Int32.toNatClampNeg h
  rw [cl_nI ha, cl_nI hb] at this
  exact this
theorem x8_grows {nr : Nat → Int64} (hn : ∀ i, i < 64 → nr i = nearT i) (c : Int64) {i : Nat} (hi : i < 64) : f_X8_grows nr c (nI i) = some (if bl (aro c) i = true then 1 else 0) := by
  unfold f_X8_grows
  rw [has_nI c hi, b1s, inb_nI hi (by decide), gds, cl_nI (by omega), hn i hi]
  have ha : bl (aro c) i = true ↔ (nearT i &&& c ≠ 0) ∧ bl c i = false := by
    unfold aro
    rw [bl_and, bl_not _ hi, Bool.and_eq_true, Bool.not_eq_true', nbr_bit c hi]
    refine and_congr_left (fun _ => ⟨?_, ?_⟩)
    · rintro ⟨k, hk, h1, h2⟩ e
      have := (bl_eq0 _).mp e k hk
      rw [bl_and, h1, Bool.and_true] at this
      rw [adj_sym k hk i hi] at h2
      unfold adj at h2
      rw [this] at h2
      cases h2
    · intro h
      obtain ⟨k, hk, h1⟩ := bl_ne0 h
      rw [bl_and, Bool.and_eq_true] at h1
      exact ⟨k, hk, h1.2, by rw [adj_sym k hk i hi]; exact h1.1⟩
  cases h1 : bl c i
  · rw [if_neg (show ¬ false = true by decide), if_pos rfl]
    by_cases h2 : nearT i &&& c = 0
    · rw [if_pos h2, if_neg (fun q => (ha.mp q).1 h2)]
    · rw [if_neg h2, if_pos (ha.mpr ⟨h2, h1⟩)]
  · rw [if_pos rfl, if_neg ne_1_0, if_neg (fun q => by rw [(ha.mp q).2] at h1; cases h1)]
theorem pr_grown {nr : Nat → Int64} (hn : ∀ i, i < 64 → nr i = nearT i) {a b : Nat → Int64} (h : fe a b) (x : Int32) : ∃ r, f_X7_grown a x = some r ∧ f_X8_grown b nr x = some r := by
  unfold f_X7_grown f_X8_grown
  rcases ix_cases x 8 (by decide) with ⟨j, hj, rfl⟩ | hx
  · rw [noF_0 hj, isF_1 hj, b1s, b1s, if_pos rfl, if_neg ne_1_0, inb_nI hj (by decide), gds, cl_nI (by omega), aro_f, b1s, bitCount_popc, b1s, h j hj]
    have e := wl_for0 (f := st_X8_grown_13 b nr (nI j)) (fun i => (nI (fb_ct (bl (aro (b j))) i), nI i)) (e := 64) (r := nI (popc (aro (b j)))) (by
      intro i hi
      show st_X8_grown_13c b nr (nI j) (nI (fb_ct (bl (aro (b j))) i)) (nI i) = _
      unfold st_X8_grown_13c
      simp only [i64, if_neg (nI_ge hi (show 64 < 2 ^ 31 by decide)), inb_nI hj (show 8 < 2 ^ 31 by decide), gds, cl_nI (show j < 2 ^ 31 by omega), x8_grows hn _ hi, b1s, hk_let, fb_ct_succ, i1, nI_add]
      cases bl (aro (b j)) i <;> simp [show ¬ nI 1 = (0 : Int32) by decide, nI_add]) (by
      show st_X8_grown_13c b nr (nI j) (nI (fb_ct (bl (aro (b j))) 64)) (nI 64) = _
      unfold st_X8_grown_13c
      rw [i64, if_pos (by decide)]
      rfl) (by decide)
    refine ⟨_, rfl, ?_⟩
    have e' : hk_wl (st_X8_grown_13 b nr (nI j)) hkF ((0 : Int32), (0 : Int32)) = _ := e
    rw [e', b1s]
  · rw [noF_1 hx, isF_0 hx, b1s, b1s]
    exact ⟨-1, by simp, by simp⟩
/-- the cells without their lowest n -/
def rb (c : Int64) : Nat → Int64
  | 0 => c
  | n + 1 => rb c n ^^^ (rb c n &&& (-rb c n))
theorem ct_lt {p : Nat → Bool} {i k : Nat} (h : i < k) (hp : p i = true) : fb_ct p i < fb_ct p k := by
  have h1 := fb_ct_mono p (show i + 1 ≤ k from h)
  rw [fb_ct_succ, hp, if_pos rfl] at h1
  omega
theorem rb_bit (c : Int64) : ∀ (n : Nat) {j : Nat}, j < 64 → (bl (rb c n) j = true ↔ bl c j = true ∧ n ≤ fb_ct (bl c) j)
  | 0, j, hj => by
    show bl c j = true ↔ _
    simp
  | n + 1, j, hj => by
    have ih := fun {j : Nat} (hj : j < 64) => rb_bit c n hj
    show bl (rb c n ^^^ (rb c n &&& (-rb c n))) j = true ↔ _
    by_cases h0 : rb c n = 0
    · have hf : bl (rb c n ^^^ (rb c n &&& (-rb c n))) j = false := by rw [h0, bl_xor, bl_and, bl_0]; rfl
      rw [hf]
      refine ⟨fun q => (by cases q), fun ⟨q1, q2⟩ => ?_⟩
      have := (ih hj).mpr ⟨q1, by omega⟩
      rw [h0, bl_0] at this; cases this
    · obtain ⟨l1, l2, l3⟩ := low_of h0
      rw [lowbit h0, bl_xor, bl_one l1 hj]
      have hc := (ih l1).mp l2
      have hct : fb_ct (bl c) (low (rb c n)) = n := by
        rcases Nat.lt_or_ge n (fb_ct (bl c) (low (rb c n))) with q | q
        · obtain ⟨i, hi, h1, h2⟩ := fb_ct_kth q
          have := (ih (show i < 64 by omega)).mpr ⟨h1, by omega⟩
          rw [l3 i hi] at this; cases this
        · omega
      by_cases hjk : j = low (rb c n)
      · rw [hjk, l2, decide_eq_true rfl]
        refine ⟨fun q => (by cases q), fun ⟨_, q⟩ => by omega⟩
      · rw [decide_eq_false hjk, Bool.xor_false, ih hj]
        refine ⟨fun ⟨q1, q2⟩ => ⟨q1, ?_⟩, fun ⟨q1, q2⟩ => ⟨q1, by omega⟩⟩
        rcases Nat.lt_or_ge j (low (rb c n)) with q | q
        · have := (ih hj).mpr ⟨q1, q2⟩
          rw [l3 j q] at this; cases this
        · have := ct_lt (p := bl c) (show low (rb c n) < j by omega) hc.1
          omega
/-- the first set cell before which x set cells lie -/
def fnd (c : Int64) (x : Int32) : Nat := fa_first (fun i => bl c i && decide (nI (fb_ct (bl c) i) = x)) 64
theorem fnd_yes {c : Int64} {x : Int32} (h : fnd c x < 64) : bl c (fnd c x) = true ∧ nI (fb_ct (bl c) (fnd c x)) = x := by
  have := fa_first_yes (fun i => bl c i && decide (nI (fb_ct (bl c) i) = x)) 64 h
  rw [Bool.and_eq_true, decide_eq_true_eq] at this
  exact this
theorem fnd_no {c : Int64} {x : Int32} {i : Nat} (h : i < fnd c x) (hb : bl c i = true) : ¬ nI (fb_ct (bl c) i) = x := by
  have := fa_first_no (fun i => bl c i && decide (nI (fb_ct (bl c) i) = x)) 64 i h
  simpa [hb] using this
theorem fnd_le (c : Int64) (x : Int32) : fnd c x ≤ 64 := fa_first_le _ _
theorem x0_cellAt_y {c : Int64} {x : Int32} (h : fnd c x < 64) : f_X0_cellAt c x = some (hk_shl 1 (nI (fnd c x))) := by
  obtain ⟨h1, h2⟩ := fnd_yes h
  generalize hk : fnd c x = k at *
  have hct := fb_ct_le (bl c) k
  have nz : ∀ n, n ≤ fb_ct (bl c) k → ¬ rb c n = 0 := fun n hn e => by
    have := (rb_bit c n h).mpr ⟨h1, hn⟩
    rw [e, bl_0] at this; cases this
  have e := wl_for0 (f := st_X0_cellAt_5 x) (fun n => (rb c n, nI n)) (e := fb_ct (bl c) k) (r := Sum.inl (hk_shl 1 (nI k))) (by
    intro n hn
    show st_X0_cellAt_5c x (rb c n) (nI n) = _
    unfold st_X0_cellAt_5c
    have hx : ¬ nI n = x := fun e => by
      rw [← h2] at e
      have := nI_ij (show n < 2 ^ 31 by omega) (show fb_ct (bl c) k < 2 ^ 31 by omega) e
      omega
    rw [i64, if_neg (nI_ge (show n < 64 by omega) (by decide)), if_neg (nz n (by omega))]
    simp only [hk_let]
    rw [if_neg hx, i1, nI_add]
    rfl) (by
    show st_X0_cellAt_5c x (rb c (fb_ct (bl c) k)) (nI (fb_ct (bl c) k)) = _
    unfold st_X0_cellAt_5c
    rw [i64, if_neg (nI_ge (show fb_ct (bl c) k < 64 by omega) (by decide)), if_neg (nz _ (by omega))]
    simp only [hk_let]
    rw [if_pos h2, lowbit (nz _ (by omega))]
    have hl : low (rb c (fb_ct (bl c) k)) = k := low_is h ((rb_bit c _ h).mpr ⟨h1, by omega⟩) (fun i hi => by
      cases hb : bl (rb c (fb_ct (bl c) k)) i
      · rfl
      · have := (rb_bit c _ (show i < 64 by omega)).mp hb
        have := ct_lt (p := bl c) hi this.1
        omega)
    rw [hl]) (by omega)
  unfold f_X0_cellAt
  have e' : hk_wl (st_X0_cellAt_5 x) hkF (c, (0 : Int32)) = _ := e
  rw [e', b1s]
  rfl
theorem x0_cellAt_n {c : Int64} {x : Int32} (h : fnd c x = 64) : f_X0_cellAt c x = some 0 := by
  have hp := popc_le c
  have e := wl_for0 (f := st_X0_cellAt_5 x) (fun n => (rb c n, nI n)) (e := popc c) (r := Sum.inr ()) (by
    intro n hn
    show st_X0_cellAt_5c x (rb c n) (nI n) = _
    unfold st_X0_cellAt_5c
    obtain ⟨i, hi, h1, h2⟩ := fb_ct_kth (p := bl c) (n := 64) hn
    have nz : ¬ rb c n = 0 := fun e => by
      have := (rb_bit c n hi).mpr ⟨h1, by omega⟩
      rw [e, bl_0] at this; cases this
    have hx : ¬ nI n = x := by
      rw [← h2]
      exact fnd_no (by omega) h1
    rw [i64, if_neg (nI_ge (show n < 64 by omega) (by decide)), if_neg nz]
    simp only [hk_let]
    rw [if_neg hx, i1, nI_add]
    rfl) (by
    show st_X0_cellAt_5c x (rb c (popc c)) (nI (popc c)) = _
    unfold st_X0_cellAt_5c
    have hz : rb c (popc c) = 0 := (bl_eq0 _).mpr (fun i hi => by
      cases hb : bl (rb c (popc c)) i
      · rfl
      · have h1 := (rb_bit c _ hi).mp hb
        have h2 := ct_lt (p := bl c) hi h1.1
        have h3 := h1.2
        unfold popc at h3
        omega)
    rw [hz, if_pos rfl]
    split <;> rfl) (by omega)
  unfold f_X0_cellAt
  have e' : hk_wl (st_X0_cellAt_5 x) hkF (c, (0 : Int32)) = _ := e
  rw [e', b1s]
  rfl
theorem x8_grow_l {nr : Nat → Int64} (hn : ∀ i, i < 64 → nr i = nearT i) {b : Nat → Int64} {j : Nat} (hj : j < 8) (x : Int32) : hk_wl (st_X8_grow_14 b nr (nI j) x) hkF ((0 : Int32), (0 : Int32)) = some (if fnd (aro (b j)) x = 64 then .inr () else .inl (nI (fnd (aro (b j)) x))) := by
  have hle := fnd_le (aro (b j)) x
  have e := wl_for0 (f := st_X8_grow_14 b nr (nI j) x) (fun i => (nI (fb_ct (bl (aro (b j))) i), nI i)) (e := fnd (aro (b j)) x) (r := if fnd (aro (b j)) x = 64 then .inr () else .inl (nI (fnd (aro (b j)) x))) (by
    intro i hi
    have hi64 : i < 64 := by omega
    have hno := fun q => fnd_no hi q
    generalize fnd (aro (b j)) x = k at *
    show st_X8_grow_14c b nr (nI j) x (nI (fb_ct (bl (aro (b j))) i)) (nI i) = _
    unfold st_X8_grow_14c
    rw [i64, if_neg (nI_ge hi64 (by decide)), inb_nI hj (by decide), gds, cl_nI (by omega), x8_grows hn _ hi64, b1s]
    simp only [fb_ct_succ]
    cases hb : bl (aro (b j)) i
    · simp only [hk_let, i1, nI_add, Bool.false_eq_true, if_false, if_true, Nat.add_zero]
    · simp only [hk_let, if_neg (hno hb), i1, nI_add, if_true, show ¬ nI 1 = (0 : Int32) by decide, if_false]) (by
    show st_X8_grow_14c b nr (nI j) x (nI (fb_ct (bl (aro (b j))) (fnd (aro (b j)) x))) (nI (fnd (aro (b j)) x)) = _
    have hyes := fun q => fnd_yes (c := aro (b j)) (x := x) q
    generalize fnd (aro (b j)) x = k at *
    unfold st_X8_grow_14c
    by_cases h64 : k = 64
    · rw [if_pos h64, h64, i64, if_pos (by decide)]
    · have hk : k < 64 := by omega
      rw [if_neg h64, i64, if_neg (nI_ge hk (by decide)), inb_nI hj (by decide), gds, cl_nI (by omega), x8_grows hn _ hk, b1s, if_pos (hyes hk).1, if_neg ne_1_0, if_pos (hyes hk).2]) (by omega)
  exact e
theorem popc_m1 : ∀ k, k < 64 → popc (hk_shl 1 (nI k) - 1) = k := by decide +kernel
theorem pr_grow {nr : Nat → Int64} (hn : ∀ i, i < 64 → nr i = nearT i) {a b : Nat → Int64} (h : fe a b) (x y : Int32) : ∃ r a' b', f_X7_grow a x y = some (r, a') ∧ f_X8_grow b nr x y = some (r, b') ∧ fe a' b' := by
  unfold f_X7_grow f_X8_grow
  rcases ix_cases x 8 (by decide) with ⟨j, hj, rfl⟩ | hx
  · have hle := fnd_le (aro (b j)) y
    rw [noF_0 hj, isF_1 hj, b1s, b1s, if_pos rfl, if_neg ne_1_0, inb_nI hj (by decide), gds, x8_grow_l hn hj, b1s]
    simp only [hk_let, cl_nI (show j < 2 ^ 31 by omega), h j hj, aro_f, b1s, gds]
    by_cases h64 : fnd (aro (b j)) y = 64
    · rw [x0_cellAt_n h64, b1s, if_pos rfl, if_pos h64]
      exact ⟨_, a, b, rfl, rfl, h⟩
    · have hk : fnd (aro (b j)) y < 64 := by omega
      rw [x0_cellAt_y hk, b1s, if_neg (one_ne0 hk), if_neg h64, bitCount_popc, b1s, popc_m1 _ hk]
      exact ⟨_, _, _, rfl, rfl, fe_upd h j _⟩
  · rw [noF_1 hx, isF_0 hx, b1s, b1s]
    exact ⟨-1, a, b, by simp, by simp, h⟩
