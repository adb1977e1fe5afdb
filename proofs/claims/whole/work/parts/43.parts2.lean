/-! the class's part; the lowest bit; all parts one by one -/
theorem bl_neg (x : Int64) {i : Nat} (hi : i < 64) : bl (-x) i = (bl x i ^^ decide (∃ j, j < i ∧ bl x j = true)) := by
  show (-x).toBitVec.getLsbD i = _
  rw [Int64.toBitVec_neg, BitVec.getLsbD_neg]
  simp only [hi, decide_true, Bool.true_and]
  rfl
def low (x : Int64) : Nat := fa_first (bl x) 64
theorem low_of {x : Int64} (h : ¬ x = 0) : low x < 64 ∧ bl x (low x) = true ∧ ∀ i, i < low x → bl x i = false := by
  have h1 : low x < 64 := by
    rcases Nat.lt_or_ge (low x) 64 with q | q
    · exact q
    · obtain ⟨i, hi, hb⟩ := bl_ne0 h
      have := fa_first_no (bl x) 64 i (by have : 64 ≤ fa_first (bl x) 64 := q; omega)
      rw [hb] at this; cases this
  exact ⟨h1, fa_first_yes (bl x) 64 h1, fun i hi => fa_first_no (bl x) 64 i hi⟩
theorem low_is {x : Int64} {k : Nat} (hk : k < 64) (hb : bl x k = true) (hl : ∀ i, i < k → bl x i = false) : low x = k := by
  have h0 : ¬ x = 0 := fun e => by rw [e, bl_0] at hb; cases hb
  obtain ⟨h1, h2, h3⟩ := low_of h0
  rcases Nat.lt_trichotomy (low x) k with q | q | q
  · rw [hl _ q] at h2; cases h2
  · exact q
  · rw [h3 _ q] at hb; cases hb
theorem lowbit {x : Int64} (h : ¬ x = 0) : x &&& (-x) = hk_shl 1 (nI (low x)) := by
  obtain ⟨h1, h2, h3⟩ := low_of h
  apply bl_ext
  intro i hi
  rw [bl_and, bl_neg x hi, bl_one h1 hi]
  rcases Nat.lt_trichotomy i (low x) with q | q | q
  · rw [h3 i q]
    have : ¬ i = low x := by omega
    simp [this]
  · rw [q, h2]
    have : ¬ ∃ j, j < low x ∧ bl x j = true := fun ⟨j, hj, hb⟩ => by rw [h3 j hj] at hb; cases hb
    simp [this]
  · have e : ∃ j, j < i ∧ bl x j = true := ⟨low x, q, h2⟩
    have : ¬ i = low x := by omega
    cases bl x i <;> simp [this, e]
theorem one_ne0 {k : Nat} (hk : k < 64) : ¬ hk_shl 1 (nI k) = 0 := fun e => by
  have := bl_one hk hk
  rw [e, bl_0] at this
  simp at this
theorem one_sbs {k : Nat} (hk : k < 64) {w : Int64} (hw : bl w k = true) : sbs (hk_shl 1 (nI k)) w := fun i hi h => by
  rw [bl_one hk hi] at h
  rw [of_decide_eq_true h]; exact hw
theorem and_sbs {a b : Int64} (h : sbs a b) : a &&& b = a := bl_ext (fun i hi => by
  rw [bl_and]
  cases ha : bl a i with
  | true => rw [h i hi ha]; rfl
  | false => rfl)
theorem x0_partFrom {w : Int64} {k : Nat} (hk : k < 64) (hw : bl w k = true) : ∃ p, f_X0_partFrom (hk_shl 1 (nI k)) w = some p ∧ isC w k p := by
  unfold f_X0_partFrom
  simp only [hk_let]
  rw [and_sbs (one_sbs hk hw)]
  obtain ⟨r, h1, p, rfl, h2⟩ := wl_meas (f := st_X0_partFrom_8 w) (fun s => ∃ n, s.2 = nI n ∧ n + 1 ≤ popc s.1 ∧ bl s.1 k = true ∧ sbs s.1 w ∧ (∀ q, bl q k = true → clo w q → sbs s.1 q)) (fun s => 64 - popc s.1) (fun r => ∃ p, r = .inl p ∧ isC w k p) (by
    rintro ⟨p, i⟩ ⟨n, rfl, g1, g2, g3, g4⟩
    dsimp only at g1 g2 g3 g4 ⊢
    have hp := popc_le p
    have hst : st_X0_partFrom_8 w (p, nI n) = if ((p ||| nbr p) &&& w) = p then some (.inr (.inl p)) else some (.inl ((p ||| nbr p) &&& w, nI (n + 1))) := by
      show st_X0_partFrom_8c w p (nI n) = _
      unfold st_X0_partFrom_8c
      rw [i64, if_neg (nI_ge (show n < 64 by omega) (by decide)), nbr_f, b1s]
      simp only [hk_let, i1, nI_add]
    have hin : ∀ j, j < 64 → (bl ((p ||| nbr p) &&& w) j = true ↔ (bl p j = true ∨ ∃ i, i < 64 ∧ bl p i = true ∧ adj i j = true) ∧ bl w j = true) := by
      intro j hj
      rw [bl_and, bl_or, Bool.and_eq_true, Bool.or_eq_true, nbr_bit p hj]
    have hup : sbs p ((p ||| nbr p) &&& w) := fun j hj hb => (hin j hj).mpr ⟨Or.inl hb, g3 j hj hb⟩
    by_cases e : ((p ||| nbr p) &&& w) = p
    · right
      refine ⟨.inl p, by rw [hst, if_pos e], p, rfl, g2, g3, ?_, g4⟩
      intro i j hi hj hb ha hf
      rw [← e]
      exact (hin j hj).mpr ⟨Or.inr ⟨i, hi, hb, ha⟩, hf⟩
    · left
      have l1 := popc_lt hup (fun q => e q.symm)
      have l2 := popc_le ((p ||| nbr p) &&& w)
      refine ⟨_, by rw [hst, if_neg e], ⟨n + 1, rfl, (by show n + 1 + 1 ≤ popc ((p ||| nbr p) &&& w); omega), hup k hk g2, fun j hj hb => ((hin j hj).mp hb).2, fun q hq hc j hj hb => ?_⟩, by dsimp only; omega⟩
      obtain ⟨hb | ⟨i, hi, hb, ha⟩, hf⟩ := (hin j hj).mp hb
      · exact g4 q hq hc j hj hb
      · exact hc i j hi hj (g4 q hq hc i hi hb) ha hf) hkF (hk_shl 1 (nI k), 0) (by
    refine ⟨0, rfl, ?_, ?_, one_sbs hk hw, fun q hq _ => one_sbs hk hq⟩
    · have : ¬ popc (hk_shl 1 (nI k)) = 0 := by rw [popc_eq0]; exact one_ne0 hk
      show 0 + 1 ≤ popc (hk_shl 1 (nI k))
      omega
    · show bl (hk_shl 1 (nI k)) k = true
      rw [bl_one hk hk]; simp) (by
    show 64 - popc (hk_shl 1 (nI k)) < hkF
    have h9 : (100 : Nat) < hkF := hkF_pos
    omega)
  exact ⟨p, by rw [h1, b1s]; rfl, h2⟩
theorem isC_ex {f : Int64} {k : Nat} (hk : k < 64) (hf : bl f k = true) : ∃ p, isC f k p := by
  obtain ⟨p, -, h⟩ := x0_partFrom hk hf
  exact ⟨p, h⟩
noncomputable def cmp (f : Int64) (k : Nat) : Int64 := Classical.epsilon (fun p => isC f k p)
theorem cmp_is {f : Int64} {k : Nat} (hk : k < 64) (hf : bl f k = true) : isC f k (cmp f k) := Classical.epsilon_spec (isC_ex hk hf)
/-- what is left behind n parts -/
noncomputable def rmn (f : Int64) : Nat → Int64
  | 0 => f
  | n + 1 => rmn f n &&& (cmp f (low (rmn f n)) ^^^ (-1))
noncomputable def prt (f : Int64) (n : Nat) : Int64 := cmp f (low (rmn f n))
theorem rmn_sbs (f : Int64) : ∀ n, sbs (rmn f n) f
  | 0 => sbs_rf f
  | n + 1 => fun i hi h => by
    have h : bl (rmn f n &&& (cmp f (low (rmn f n)) ^^^ (-1))) i = true := h
    rw [bl_and, Bool.and_eq_true] at h
    exact rmn_sbs f n i hi h.1
theorem rmn_0 {f : Int64} {n : Nat} (h : rmn f n = 0) : rmn f (n + 1) = 0 := by
  show rmn f n &&& _ = 0
  rw [h]
  apply bl_ext
  intro i hi
  rw [bl_and, bl_0, Bool.false_and]
theorem rmn_0s {f : Int64} {n : Nat} (h : rmn f n = 0) : ∀ d, rmn f (n + d) = 0
  | 0 => h
  | d + 1 => rmn_0 (rmn_0s h d)
theorem prt_is {f : Int64} {n : Nat} (h : ¬ rmn f n = 0) : isC f (low (rmn f n)) (prt f n) := by
  obtain ⟨h1, h2, -⟩ := low_of h
  exact cmp_is h1 (rmn_sbs f n _ h1 h2)
theorem rmn_clo (f : Int64) : ∀ n, clo f (rmn f n)
  | 0 => fun _ _ _ _ _ _ h => h
  | n + 1 => by
    by_cases h0 : rmn f n = 0
    · rw [rmn_0 h0]
      intro i j hi hj h; rw [bl_0] at h; cases h
    · intro i j hi hj hb ha hf
      have hb : bl (rmn f n &&& (prt f n ^^^ (-1))) i = true := hb
      show bl (rmn f n &&& (prt f n ^^^ (-1))) j = true
      rw [bl_and, bl_not _ hi, Bool.and_eq_true] at hb
      rw [bl_and, bl_not _ hj, Bool.and_eq_true]
      refine ⟨rmn_clo f n i j hi hj hb.1 ha hf, ?_⟩
      cases hp : bl (prt f n) j with
      | false => rfl
      | true =>
        have hi2 : bl (prt f n) i = true := (prt_is h0).2.2.1 j i hj hi hp (by rw [adj_sym j hj i hi]; exact ha) (rmn_sbs f n i hi hb.1)
        rw [hi2] at hb; exact absurd hb.2 (by simp)
theorem isC_up {f r : Int64} {k : Nat} {p : Int64} (hr : clo f r) (hs : sbs r f) (h : isC r k p) : isC f k p := by
  refine ⟨h.1, sbs_tr h.2.1 hs, fun i j hi hj hb ha hf => ?_, fun q hq hc => h.2.2.2 q hq (fun i j hi hj hb ha hf => hc i j hi hj hb ha (hs j hj hf))⟩
  exact h.2.2.1 i j hi hj hb ha (hr i j hi hj (h.2.1 i hi hb) ha hf)
theorem x0_next {f : Int64} {n : Nat} (h : ¬ rmn f n = 0) : f_X0_partFrom (rmn f n &&& (-rmn f n)) (rmn f n) = some (prt f n) := by
  obtain ⟨h1, h2, -⟩ := low_of h
  rw [lowbit h]
  obtain ⟨p, e, hp⟩ := x0_partFrom h1 h2
  rw [e, isC_one (isC_up (rmn_clo f n) (rmn_sbs f n) hp) (prt_is h)]
theorem rmn_lt {f : Int64} {n : Nat} (h : ¬ rmn f n = 0) : popc (rmn f (n + 1)) < popc (rmn f n) := by
  refine popc_lt (fun i hi hb => ?_) (fun e => ?_)
  · have hb : bl (rmn f n &&& (prt f n ^^^ (-1))) i = true := hb
    rw [bl_and, Bool.and_eq_true] at hb; exact hb.1
  · obtain ⟨h1, h2, -⟩ := low_of h
    have h3 := (prt_is h).1
    have h4 : bl (rmn f (n + 1)) (low (rmn f n)) = true := by rw [e]; exact h2
    have h4 : bl (rmn f n &&& (prt f n ^^^ (-1))) (low (rmn f n)) = true := h4
    rw [bl_and, bl_not _ h1, h3] at h4
    simp at h4
theorem rmn_bd (f : Int64) : ∀ n, rmn f n = 0 ∨ popc (rmn f n) + n ≤ 64
  | 0 => Or.inr (by show popc f + 0 ≤ 64; have := popc_le f; omega)
  | n + 1 => by
    rcases rmn_bd f n with h | h
    · exact Or.inl (rmn_0 h)
    · by_cases h0 : rmn f n = 0
      · exact Or.inl (rmn_0 h0)
      · have := rmn_lt h0
        exact Or.inr (by omega)
theorem rmn_64 (f : Int64) : rmn f 64 = 0 := by
  rcases rmn_bd f 64 with h | h
  · exact h
  · exact popc_eq0.mp (by omega)
noncomputable def npt (f : Int64) : Nat := fa_first (fun n => decide (rmn f n = 0)) 64
theorem npt_le (f : Int64) : npt f ≤ 64 := fa_first_le _ _
theorem npt_lt {f : Int64} {n : Nat} (h : n < npt f) : ¬ rmn f n = 0 := by
  have := fa_first_no (fun n => decide (rmn f n = 0)) 64 n h
  exact of_decide_eq_false this
theorem npt_at (f : Int64) : rmn f (npt f) = 0 := by
  rcases Nat.lt_or_ge (npt f) 64 with h | h
  · have := fa_first_yes (fun n => decide (rmn f n = 0)) 64 h
    exact of_decide_eq_true this
  · have e : npt f = 64 := Nat.le_antisymm (npt_le f) h
    rw [e]; exact rmn_64 f
theorem npt_ge {f : Int64} {n : Nat} (h : npt f ≤ n) : rmn f n = 0 := by
  have := rmn_0s (npt_at f) (n - npt f)
  rw [show npt f + (n - npt f) = n by omega] at this
  exact this
theorem prt_ne0 {f : Int64} {n : Nat} (h : n < npt f) : ¬ prt f n = 0 := fun e => by
  have := (prt_is (npt_lt h)).1
  rw [e, bl_0] at this; cases this
theorem x0_countParts (f : Int64) : f_X0_countParts f = some (nI (npt f)) := by
  unfold f_X0_countParts
  have hle := npt_le f
  have hlt : ∀ n, n < npt f → ¬ rmn f n = 0 := fun n h => npt_lt h
  have hat := npt_at f
  generalize npt f = N at hle hlt hat ⊢
  have e := wl_for0 (f := st_X0_countParts_8) (fun i => (rmn f i, nI i, nI i)) (e := N) (r := nI (N)) (by
    intro i hi
    show st_X0_countParts_8c (rmn f i) (nI i) (nI i) = _
    unfold st_X0_countParts_8c
    rw [i64, if_neg (nI_ge (show i < 64 by omega) (by decide)), if_neg (hlt i hi), x0_next (hlt i hi), b1s]
    simp only [hk_let, i1, nI_add]
    rfl) (by
    show st_X0_countParts_8c (rmn f (N)) (nI (N)) (nI (N)) = _
    unfold st_X0_countParts_8c
    by_cases c : (64 : Int32) ≤ nI (N)
    · rw [if_pos c]
    · rw [if_neg c, if_pos (hat)]) (by omega)
  have e2 : hk_wl st_X0_countParts_8 hkF (f, (0 : Int32), (0 : Int32)) = some (nI (N)) := e
  rw [e2, b1s]
/-- the i-th part; none: 0 -/
noncomputable def pth (f : Int64) (m : Nat) : Int64 := if m < npt f then prt f m else 0
theorem x0_partAt {f : Int64} {m : Nat} (hm : m < 2 ^ 31) : f_X0_partAt f (nI m) = some (pth f m) := by
  unfold f_X0_partAt pth
  have hle := npt_le f
  have hlt : ∀ n, n < npt f → ¬ rmn f n = 0 := fun n h => npt_lt h
  have hat := npt_at f
  generalize npt f = N at hle hlt hat ⊢
  by_cases h : m < N
  · have e := wl_for0 (f := st_X0_partAt_5 (nI m)) (fun i => (rmn f i, nI i)) (e := m) (r := Sum.inl (prt f m)) (by
      intro i hi
      show st_X0_partAt_5c (nI m) (rmn f i) (nI i) = _
      unfold st_X0_partAt_5c
      rw [i64, if_neg (nI_ge (show i < 64 by omega) (by decide)), if_neg (hlt i (by omega)), x0_next (hlt i (by omega)), b1s, if_neg (by rw [nI_eq (by omega) hm]; omega)]
      simp only [hk_let, i1, nI_add]
      rfl) (by
      show st_X0_partAt_5c (nI m) (rmn f m) (nI m) = _
      unfold st_X0_partAt_5c
      rw [i64, if_neg (nI_ge (show m < 64 by omega) (by decide)), if_neg (hlt m h), x0_next (hlt m h), b1s, if_pos rfl]) (by omega)
    have e2 : hk_wl (st_X0_partAt_5 (nI m)) hkF (f, (0 : Int32)) = some (Sum.inl (prt f m)) := e
    rw [e2, b1s, if_pos h]; rfl
  · have e := wl_for0 (f := st_X0_partAt_5 (nI m)) (fun i => (rmn f i, nI i)) (e := N) (r := Sum.inr ()) (by
      intro i hi
      show st_X0_partAt_5c (nI m) (rmn f i) (nI i) = _
      unfold st_X0_partAt_5c
      rw [i64, if_neg (nI_ge (show i < 64 by omega) (by decide)), if_neg (hlt i hi), x0_next (hlt i hi), b1s, if_neg (by rw [nI_eq (by omega) hm]; omega)]
      simp only [hk_let, i1, nI_add]
      rfl) (by
      show st_X0_partAt_5c (nI m) (rmn f (N)) (nI (N)) = _
      unfold st_X0_partAt_5c
      by_cases c : (64 : Int32) ≤ nI (N)
      · rw [if_pos c]
      · rw [if_neg c, if_pos (hat)]) (by omega)
    have e2 : hk_wl (st_X0_partAt_5 (nI m)) hkF (f, (0 : Int32)) = some (Sum.inr ()) := e
    rw [e2, b1s, if_neg h]; rfl
theorem x0_partAt_neg {f : Int64} {x : Int32} (hx : x < 0) : f_X0_partAt f x = some 0 := by
  unfold f_X0_partAt
  have hle := npt_le f
  have hlt : ∀ n, n < npt f → ¬ rmn f n = 0 := fun n h => npt_lt h
  have hat := npt_at f
  generalize npt f = N at hle hlt hat ⊢
  have hne : ∀ i, i < 64 → ¬ nI i = x := fun i hi e => by rw [← e] at hx; exact nI_pos (by omega) hx
  have e := wl_for0 (f := st_X0_partAt_5 x) (fun i => (rmn f i, nI i)) (e := N) (r := Sum.inr ()) (by
    intro i hi
    show st_X0_partAt_5c x (rmn f i) (nI i) = _
    unfold st_X0_partAt_5c
    rw [i64, if_neg (nI_ge (show i < 64 by omega) (by decide)), if_neg (hlt i hi), x0_next (hlt i hi), b1s, if_neg (hne i (by omega))]
    simp only [hk_let, i1, nI_add]
    rfl) (by
    show st_X0_partAt_5c x (rmn f (N)) (nI (N)) = _
    unfold st_X0_partAt_5c
    by_cases c : (64 : Int32) ≤ nI (N)
    · rw [if_pos c]
    · rw [if_neg c, if_pos (hat)]) (by omega)
  have e2 : hk_wl (st_X0_partAt_5 x) hkF (f, (0 : Int32)) = some (Sum.inr ()) := e
  rw [e2, b1s]; rfl
