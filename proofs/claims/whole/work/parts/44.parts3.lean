/-! the reference's parts and holes; the calls parts, holes, part -/
theorem x8_partOf {nr : Nat → Int64} (hn : ∀ i, i < 64 → nr i = nearT i) (f : Int64) {m : Nat} (hm : m < 2 ^ 31) : f_X8_partOf nr f (nI m) = some (pth f m) := by
  unfold f_X8_partOf
  obtain ⟨r, h1, h2⟩ := wl_meas (f := st_X8_partOf_9 nr f (nI m)) (fun s => ∃ n c, s = (rmn f n, nI n, nI c) ∧ c ≤ 64 ∧ n ≤ m ∧ ∀ i, i < c → bl (rmn f n) i = false) (fun s => 64 - s.2.2.toNatClampNeg) (fun r => r = if m < npt f then .inl (prt f m) else .inr ()) (by
    rintro s ⟨n, c, rfl, hc, hnm, hlo⟩
    have hst : st_X8_partOf_9 nr f (nI m) (rmn f n, nI n, nI c) = st_X8_partOf_9c nr f (nI m) (rmn f n) (nI n) (nI c) := rfl
    rw [hst]
    unfold st_X8_partOf_9c
    by_cases h64 : c = 64
    · right
      subst h64
      refine ⟨.inr (), by rw [i64, if_pos (nI_le (Nat.le_refl 64) (by decide))], ?_⟩
      have hz : rmn f n = 0 := (bl_eq0 _).mpr hlo
      rw [if_neg (fun q => npt_lt (show n < npt f by omega) hz)]
    · have hc2 : c < 64 := by omega
      rw [i64, if_neg (nI_ge hc2 (by decide)), has_nI _ hc2, b1s]
      cases hb : bl (rmn f n) c with
      | false =>
        left
        refine ⟨(rmn f n, nI n, nI (c + 1)), ?_, ⟨n, c + 1, rfl, by omega, hnm, fun i hi => ?_⟩, ?_⟩
        · simp only [Bool.false_eq_true, if_false, if_true, hk_let, i1, nI_add]
        · by_cases e : i = c
          · rw [e]; exact hb
          · exact hlo i (by omega)
        · show 64 - (nI (c + 1)).toNatClampNeg < 64 - (nI c).toNatClampNeg
          rw [cl_nI (by omega), cl_nI (by omega)]; omega
      | true =>
        have hz : ¬ rmn f n = 0 := fun e => by rw [e, bl_0] at hb; cases hb
        have hlow : low (rmn f n) = c := low_is hc2 hb hlo
        obtain ⟨p, e1, hp⟩ := x8_partAt hn hc2 (rmn_sbs f n c hc2 hb)
        have hpn : p = prt f n := by
          have := prt_is hz
          rw [hlow] at this
          exact isC_one hp this
        subst hpn
        have hlt : n < npt f := by
          rcases Nat.lt_or_ge n (npt f) with q | q
          · exact q
          · exact absurd (npt_ge q) hz
        simp only [if_true, if_neg ne_1_0, e1, b1s]
        by_cases hmn : n = m
        · right
          subst hmn
          exact ⟨.inl (prt f n), by rw [if_pos rfl], by rw [if_pos hlt]⟩
        · left
          refine ⟨(rmn f (n + 1), nI (n + 1), nI (c + 1)), ?_, ⟨n + 1, c + 1, rfl, by omega, by omega, fun i hi => ?_⟩, ?_⟩
          · rw [if_neg (by rw [nI_eq (by omega) hm]; exact hmn)]
            simp only [hk_let, i1, nI_add]
            rfl
          · show bl (rmn f n &&& (prt f n ^^^ (-1))) i = false
            rw [bl_and]
            by_cases e : i = c
            · rw [e, bl_not _ hc2, hp.1]; simp
            · rw [hlo i (by omega)]; rfl
          · show 64 - (nI (c + 1)).toNatClampNeg < 64 - (nI c).toNatClampNeg
            rw [cl_nI (by omega), cl_nI (by omega)]; omega) hkF (f, (0 : Int32), (0 : Int32)) ⟨0, 0, rfl, by omega, by omega, fun i hi => absurd hi (Nat.not_lt_zero i)⟩ (by
    show 64 - (0 : Int32).toNatClampNeg < hkF
    have h9 : (100 : Nat) < hkF := hkF_pos
    omega)
  rw [h1, b1s, h2]
  unfold pth
  by_cases h : m < npt f
  · rw [if_pos h, if_pos h]; rfl
  · rw [if_neg h, if_neg h]; rfl
theorem x8_partsOf {nr : Nat → Int64} (hn : ∀ i, i < 64 → nr i = nearT i) (f : Int64) : f_X8_partsOf nr f = some (nI (npt f)) := by
  unfold f_X8_partsOf
  have hle := npt_le f
  have hlt : ∀ n, n < npt f → ¬ pth f n = 0 := fun n h => by unfold pth; rw [if_pos h]; exact prt_ne0 h
  have hat : pth f (npt f) = 0 := by unfold pth; rw [if_neg (by omega)]
  generalize npt f = N at hle hlt hat ⊢
  have e := wl_for0 (f := st_X8_partsOf_2 nr f) (fun i => nI i) (e := N) (r := nI N) (by
    intro i hi
    show st_X8_partsOf_2c nr f (nI i) = _
    unfold st_X8_partsOf_2c
    rw [x8_partOf hn f (by omega), b1s, if_neg (hlt i hi)]
    simp only [hk_let, i1, nI_add]) (by
    show st_X8_partsOf_2c nr f (nI N) = _
    unfold st_X8_partsOf_2c
    rw [x8_partOf hn f (by omega), b1s, if_pos hat]) (by omega)
  rw [show (0 : Int32) = nI 0 from rfl, e, b1s]
/-- a cell at the rim -/
def rmb (p : Int64) : Nat → Bool
  | 0 => false
  | i + 1 => rmb p i || (bl p i && decide (besI i = -9))
theorem x8_rim (p : Int64) : hk_wl (st_X8_holesOf_40 p) hkF ((0 : Int32), (0 : Int32)) = some (if rmb p 64 = true then 1 else 0) := by
  have e := wl_for0 (f := st_X8_holesOf_40 p) (fun i => ((if rmb p i = true then 1 else 0 : Int32), nI i)) (e := 64) (r := if rmb p 64 = true then 1 else 0) (by
    intro i hi
    show st_X8_holesOf_40c p (if rmb p i = true then 1 else 0) (nI i) = _
    unfold st_X8_holesOf_40c
    rw [i64, if_neg (nI_ge hi (by decide)), has_nI _ hi, b1s, bes_d i hi, b1s]
    simp only [hk_let, i1, nI_add, rmb]
    by_cases h1 : rmb p i = true
    · simp [h1, b1s, show ¬ nI 1 = (0 : Int32) by decide]
    · by_cases h2 : bl p i = true
      · by_cases h3 : besI i = -9
        · simp [h1, h2, b1s, h3, show ¬ nI 1 = (0 : Int32) by decide]
        · simp [h1, h2, b1s, h3, show ¬ nI 1 = (0 : Int32) by decide]
      · simp [h1, h2, b1s]) (by
    show st_X8_holesOf_40c p (if rmb p 64 = true then 1 else 0) (nI 64) = _
    unfold st_X8_holesOf_40c
    rw [i64, if_pos (by decide)]) (by decide)
  exact e
theorem rim_bits : ∀ i, i < 64 → bl 7227186721292038425 i = decide (besI i = -9) := by decide +kernel
theorem rmb_ex (p : Int64) : ∀ n, rmb p n = true ↔ ∃ i, i < n ∧ bl p i = true ∧ besI i = -9
  | 0 => ⟨fun h => (by cases h), fun ⟨i, hi, _⟩ => absurd hi (Nat.not_lt_zero i)⟩
  | n + 1 => by
    show (rmb p n || (bl p n && decide (besI n = -9))) = true ↔ _
    rw [Bool.or_eq_true, Bool.and_eq_true, rmb_ex p n, decide_eq_true_eq]
    constructor
    · rintro (⟨i, hi, h⟩ | h)
      · exact ⟨i, by omega, h⟩
      · exact ⟨n, by omega, h⟩
    · rintro ⟨i, hi, h⟩
      by_cases e : i = n
      · subst e; exact Or.inr h
      · exact Or.inl ⟨i, by omega, h⟩
theorem rim_0 (p : Int64) : (p &&& 7227186721292038425 = 0) ↔ rmb p 64 = false := by
  rw [bl_eq0, ← Bool.not_eq_true, rmb_ex]
  constructor
  · rintro h ⟨i, hi, h1, h2⟩
    have := h i hi
    rw [bl_and, h1, rim_bits i hi, h2] at this
    simp at this
  · intro h i hi
    rw [bl_and, rim_bits i hi]
    cases h1 : bl p i with
    | false => rfl
    | true =>
      have : ¬ besI i = -9 := fun h2 => h ⟨i, hi, h1, h2⟩
      simp [this]
noncomputable def hol (g : Int64) : Nat → Nat
  | 0 => 0
  | n + 1 => hol g n + if rmb (prt g n) 64 = true then 0 else 1
theorem x0_holes (c : Int64) : f_X0_countHoles c = some (nI (hol (c ^^^ (-1)) (npt (c ^^^ (-1))))) := by
  unfold f_X0_countHoles
  simp only [hk_let]
  generalize c ^^^ (-1) = g
  have hle := npt_le g
  have hlt : ∀ n, n < npt g → ¬ rmn g n = 0 := fun n h => npt_lt h
  have hat := npt_at g
  generalize npt g = N at hle hlt hat ⊢
  have e := wl_for0 (f := st_X0_countHoles_12) (fun i => (rmn g i, nI (hol g i), nI i)) (e := N) (r := nI (hol g N)) (by
    intro i hi
    show st_X0_countHoles_12c (rmn g i) (nI (hol g i)) (nI i) = _
    unfold st_X0_countHoles_12c
    rw [i64, if_neg (nI_ge (show i < 64 by omega) (by decide)), if_neg (hlt i hi), x0_next (hlt i hi), b1s]
    simp only [hk_let, i1, nI_add, hol]
    by_cases h : rmb (prt g i) 64 = true
    · rw [if_pos h, if_neg (fun q => by rw [(rim_0 _).mp q] at h; cases h)]; rfl
    · rw [if_neg h, if_pos ((rim_0 _).mpr (by simpa using h))]; rfl) (by
    show st_X0_countHoles_12c (rmn g N) (nI (hol g N)) (nI N) = _
    unfold st_X0_countHoles_12c
    by_cases c : (64 : Int32) ≤ nI N
    · rw [if_pos c]
    · rw [if_neg c, if_pos hat]) (by omega)
  have e2 : hk_wl st_X0_countHoles_12 hkF (g, (0 : Int32), (0 : Int32)) = some (nI (hol g N)) := e
  rw [e2, b1s]
theorem x8_holes {nr : Nat → Int64} (hn : ∀ i, i < 64 → nr i = nearT i) (c : Int64) : f_X8_holesOf nr c = some (nI (hol (c ^^^ (-1)) (npt (c ^^^ (-1))))) := by
  unfold f_X8_holesOf
  have hle := npt_le (c ^^^ (-1))
  have hlt : ∀ n, n < npt (c ^^^ (-1)) → ¬ prt (c ^^^ (-1)) n = 0 := fun n h => prt_ne0 h
  have hpt : ∀ n, n < npt (c ^^^ (-1)) → pth (c ^^^ (-1)) n = prt (c ^^^ (-1)) n := fun n h => by unfold pth; rw [if_pos h]
  have hat : pth (c ^^^ (-1)) (npt (c ^^^ (-1))) = 0 := by unfold pth; rw [if_neg (by omega)]
  generalize npt (c ^^^ (-1)) = N at hle hlt hpt hat ⊢
  have e := wl_for0 (f := st_X8_holesOf_5 nr c) (fun i => (nI (hol (c ^^^ (-1)) i), nI i)) (e := N) (r := nI (hol (c ^^^ (-1)) N)) (by
    intro i hi
    show st_X8_holesOf_5c nr c (nI (hol (c ^^^ (-1)) i)) (nI i) = _
    unfold st_X8_holesOf_5c
    rw [x8_partOf hn _ (show i < 2 ^ 31 by omega), b1s, b1s, hpt i hi, if_neg (hlt i hi), x8_rim, b1s]
    simp only [hk_let, i1, nI_add, hol]
    by_cases h : rmb (prt (c ^^^ (-1)) i) 64 = true
    · simp only [if_pos h, if_neg (show ¬ nI 1 = (0 : Int32) by decide)]
      rw [i0, nI_add]
    · simp only [if_neg h, if_true]
      rw [nI_add]) (by
    show st_X8_holesOf_5c nr c (nI (hol (c ^^^ (-1)) N)) (nI N) = _
    unfold st_X8_holesOf_5c
    rw [x8_partOf hn _ (show N < 2 ^ 31 by omega), b1s, hat, if_pos rfl]) (by omega)
  have e2 : hk_wl (st_X8_holesOf_5 nr c) hkF ((0 : Int32), (0 : Int32)) = some (nI (hol (c ^^^ (-1)) N)) := e
  rw [e2, b1s]
theorem pr_parts {nr : Nat → Int64} (hn : ∀ i, i < 64 → nr i = nearT i) {a b : Nat → Int64} (h : fe a b) (x : Int32) : ∃ r, f_X7_parts a x = some r ∧ f_X8_parts b nr x = some r := by
  unfold f_X7_parts f_X8_parts
  rcases ix_cases x 8 (by decide) with ⟨j, hj, rfl⟩ | hx
  · rw [noF_0 hj, isF_1 hj, b1s, b1s, inb_nI hj (by decide), gds, gds, cl_nI (by omega), x0_countParts, x8_partsOf hn, b1s, b1s]
    exact ⟨nI (npt (a j)), by simp, by simp [h j hj]⟩
  · rw [noF_1 hx, isF_0 hx, b1s, b1s]
    exact ⟨-1, by simp, by simp⟩
theorem pr_holes {nr : Nat → Int64} (hn : ∀ i, i < 64 → nr i = nearT i) {a b : Nat → Int64} (h : fe a b) (x : Int32) : ∃ r, f_X7_holes a x = some r ∧ f_X8_holes b nr x = some r := by
  unfold f_X7_holes f_X8_holes
  rcases ix_cases x 8 (by decide) with ⟨j, hj, rfl⟩ | hx
  · rw [noF_0 hj, isF_1 hj, b1s, b1s, inb_nI hj (by decide), gds, gds, cl_nI (by omega), x0_holes, x8_holes hn, b1s, b1s, h j hj]
    exact ⟨nI (hol (b j ^^^ (-1)) (npt (b j ^^^ (-1)))), by rw [if_pos rfl], by rw [if_neg ne_1_0]⟩
  · rw [noF_1 hx, isF_0 hx, b1s, b1s]
    exact ⟨-1, by simp, by simp⟩
theorem pr_part {nr : Nat → Int64} (hn : ∀ i, i < 64 → nr i = nearT i) {a b : Nat → Int64} (h : fe a b) (x y z : Int32) : ∃ r a' b', f_X7_part a x y z = some (r, a') ∧ f_X8_part b nr x y z = some (r, b') ∧ fe a' b' := by
  unfold f_X7_part f_X8_part
  rcases ix_cases x 8 (by decide) with ⟨j, hj, rfl⟩ | hx
  · rw [noF_0 hj, isF_1 hj, b1s, b1s]
    simp only [if_true, if_neg ne_1_0]
    rcases ix_cases y 8 (by decide) with ⟨k, hk, rfl⟩ | hy
    · rw [noF_0 hk, isF_1 hk, b1s, b1s]
      simp only [if_true, if_neg ne_1_0, inb_nI hj (show 8 < 2 ^ 31 by decide), inb_nI hk (show 8 < 2 ^ 31 by decide), gds, cl_nI (show j < 2 ^ 31 by omega), cl_nI (show k < 2 ^ 31 by omega), h k hk]
      have key : ∀ v, (∃ r a' b', (hk_b1 (some v) fun r32 => if r32 = (0 : Int64) then some ((-3 : Int32), a) else hk_b2 (f_X7_become a (nI j) r32) fun r37 u38 => some (r37, u38)) = some (r, a') ∧ (hk_b1 (some v) fun v38 => if v38 = (0 : Int64) then some ((-3 : Int32), b) else hk_b1 (f_X8_ones v38) fun r41 => some (r41, vp_updL b j v38)) = some (r, b') ∧ fe a' b') := by
        intro v
        rw [b1s, b1s]
        by_cases e : v = 0
        · rw [if_pos e, if_pos e]; exact ⟨_, _, _, rfl, rfl, h⟩
        · rw [if_neg e, if_neg e, become_s a hj, b2s, ones_popc, b1s]; exact ⟨_, _, _, rfl, rfl, fe_upd h j v⟩
      by_cases hz : z < 0
      · rw [x0_partAt_neg hz, if_neg (by rw [fa_lt] at hz; rw [fa_le]; omega)]
        exact key 0
      · obtain ⟨m, hm, rfl⟩ := nI_of hz
        rw [x0_partAt hm, if_pos (nI_pos' hm), x8_partOf hn _ hm, show (hk_b1 (some (pth (b k) m)) fun r34 => some r34) = some (pth (b k) m) from rfl]
        exact key _
    · rw [noF_1 hy, isF_0 hy, b1s, b1s]
      exact ⟨-1, a, b, by simp, by simp, h⟩
  · rw [noF_1 hx, isF_0 hx, b1s, b1s]
    exact ⟨-1, a, b, by simp, by simp, h⟩
