/-- the bytes up to the length -/
def te (n : Nat) (a b : Nat → Int32) : Prop := ∀ i, i < n → a i = b i
def bad (a : Nat → Int32) (i : Nat) : Bool := decide (f_X8_valueOf (a i) = some (-9))
theorem ne_m9 {d : Nat} (h : d < 16) : ¬ nI d = -9 := by
  intro e
  have := congrArg Int32.toInt e
  rw [nI_toInt (by omega)] at this
  rw [show (-9 : Int32).toInt = -9 from rfl] at this
  omega
theorem bad_t {a : Nat → Int32} {i : Nat} (h : bad a i = true) : f_X6_valueOf (a i) = some (-1) ∧ f_X8_valueOf (a i) = some (-9) := by
  have h1 : f_X8_valueOf (a i) = some (-9) := of_decide_eq_true h
  rcases val_cases (a i) with ⟨d, hd, _, e2⟩ | h2
  · rw [e2] at h1
    exact absurd (Option.some.inj h1) (ne_m9 hd)
  · exact h2
theorem bad_f {a : Nat → Int32} {i : Nat} (h : bad a i = false) : ∃ d, d < 16 ∧ f_X6_valueOf (a i) = some (nI d) ∧ f_X8_valueOf (a i) = some (nI d) := by
  rcases val_cases (a i) with h2 | ⟨_, e2⟩
  · exact h2
  · unfold bad at h
    rw [e2] at h
    simp at h
theorem bad_c {n : Nat} {a b : Nat → Int32} (h : te n a b) {i : Nat} (hi : i < n) : bad a i = bad b i := by unfold bad; rw [h i hi]
/-- the first fault -/
def flt (n : Nat) (a : Nat → Int32) : Int32 := if fa_first (bad a) n = 16 then -9 else nI (fa_first (bad a) n)
theorem ff_c {n : Nat} {a b : Nat → Int32} (h : te n a b) : fa_first (bad a) n = fa_first (bad b) n := by
  have key : ∀ m, m ≤ n → fa_first (bad a) m = fa_first (bad b) m := by
    intro m
    induction m with
    | zero => intro _; rfl
    | succ m ih =>
      intro hm
      show (if fa_first (bad a) m < m then fa_first (bad a) m else if bad a m then m else m + 1) = (if fa_first (bad b) m < m then fa_first (bad b) m else if bad b m then m else m + 1)
      rw [ih (by omega), bad_c h (show m < n by omega)]
  exact key n (Nat.le_refl _)
theorem x8_fault {n : Nat} (hn : n ≤ 16) (a : Nat → Int32) : f_X8_faultOf (nI n) a = some (flt n a) := by
  unfold f_X8_faultOf
  have hle := fa_first_le (bad a) n
  have h := wl_for0 (f := st_X8_faultOf_2 (nI n) a) (fun i => nI i) (e := fa_first (bad a) n) (r := nI (fa_first (bad a) n)) (by
    intro i hi
    obtain ⟨d, hd, -, e2⟩ := bad_f (fa_first_no (bad a) n i hi)
    show st_X8_faultOf_2c (nI n) a (nI i) = _
    unfold st_X8_faultOf_2c
    rw [if_neg (by rw [nI_leI (by omega) (by omega)]; omega), inb_nI (show i < 16 by omega) (by decide), gds, cl_nI (by omega), e2, b1s, if_neg (ne_m9 hd)]
    simp only [hk_let]
    rw [i1, nI_add]) (by
    show st_X8_faultOf_2c (nI n) a (nI (fa_first (bad a) n)) = _
    unfold st_X8_faultOf_2c
    by_cases hlt : fa_first (bad a) n < n
    · rw [if_neg (by rw [nI_leI (by omega) (by omega)]; omega), inb_nI (show fa_first (bad a) n < 16 by omega) (by decide), gds, cl_nI (by omega), (bad_t (fa_first_yes (bad a) n hlt)).2, b1s, if_pos rfl]
    · rw [if_pos (by rw [nI_leI (by omega) (by omega)]; omega)]) (by omega)
  rw [show (0 : Int32) = nI 0 from rfl, h, b1s]
  unfold flt
  rw [i16]
  by_cases e : fa_first (bad a) n = 16
  · rw [if_pos e, if_pos (by rw [e])]
  · rw [if_neg e, if_neg (by rw [nI_eq (by omega) (by decide)]; exact e)]
theorem x6_fault {n : Nat} (hn : n ≤ 16) (a : Nat → Int32) : f_X6_firstFault (nI n) a = some (flt n a) := by
  unfold f_X6_firstFault
  have hle := fa_first_le (bad a) n
  have h := wl_for0 (f := st_X6_firstFault_2 (nI n) a) (fun i => nI i) (e := fa_first (bad a) n) (r := if fa_first (bad a) n < n then .inl (nI (fa_first (bad a) n)) else .inr ()) (by
    intro i hi
    obtain ⟨d, hd, e2, -⟩ := bad_f (fa_first_no (bad a) n i hi)
    show st_X6_firstFault_2c (nI n) a (nI i) = _
    unfold st_X6_firstFault_2c
    rw [if_neg (by rw [nI_leI (by omega) (by omega)]; omega), inb_nI (show i < 16 by omega) (by decide), gds, cl_nI (by omega), e2, b1s, if_pos (nI_pos' (by omega))]
    simp only [hk_let]
    rw [i1, nI_add]) (by
    show st_X6_firstFault_2c (nI n) a (nI (fa_first (bad a) n)) = _
    unfold st_X6_firstFault_2c
    by_cases hlt : fa_first (bad a) n < n
    · rw [if_neg (by rw [nI_leI (by omega) (by omega)]; omega), inb_nI (show fa_first (bad a) n < 16 by omega) (by decide), gds, cl_nI (by omega), (bad_t (fa_first_yes (bad a) n hlt)).1, b1s, if_neg (by decide), if_pos hlt]
    · rw [if_pos (by rw [nI_leI (by omega) (by omega)]; omega), if_neg hlt]) (by omega)
  rw [show (0 : Int32) = nI 0 from rfl, h, b1s]
  unfold flt
  by_cases hlt : fa_first (bad a) n < n
  · rw [if_pos hlt, if_neg (show ¬ fa_first (bad a) n = 16 by omega)]; rfl
  · rw [if_neg hlt]
    have e : fa_first (bad a) n = n := by omega
    show (if (16 : Int32) ≤ nI n then some (-9) else some (nI n)) = _
    rw [e, i16]
    by_cases h16 : n = 16
    · rw [if_pos h16, if_pos (by rw [nI_leI (by decide) (by omega)]; omega)]
    · rw [if_neg h16, if_neg (by rw [nI_leI (by decide) (by omega)]; omega)]
theorem pr_fault {n : Nat} (hn : n ≤ 16) {a b : Nat → Int32} (h : te n a b) : ∃ r, f_X7_fault (nI n) a = some r ∧ f_X8_fault (nI n) b = some r := by
  refine ⟨flt n a, ?_, ?_⟩
  · unfold f_X7_fault; rw [x6_fault hn, b1s]
  · unfold f_X8_fault; rw [x8_fault hn, b1s]; unfold flt; rw [ff_c h]
/-- the cells of the first i signs -/
def cel (a : Nat → Int32) : Nat → Int64
  | 0 => 0
  | i + 1 => cel a i ||| hk_shl ((f_X8_valueOf (a i)).getD 0).toInt64 (nI 4 * nI i)
theorem flt16 {n : Nat} {a : Nat → Int32} (hn : n ≤ 16) (h : flt n a = -9) : n = 16 ∧ ∀ i, i < 16 → bad a i = false := by
  have hle := fa_first_le (bad a) n
  unfold flt at h
  by_cases e : fa_first (bad a) n = 16
  · refine ⟨by omega, fun i hi => fa_first_no (bad a) n i (by omega)⟩
  · rw [if_neg e] at h
    have := congrArg Int32.toInt h
    rw [nI_toInt (by omega), show (-9 : Int32).toInt = -9 from rfl] at this
    omega
theorem x6_cells {a : Nat → Int32} (hg : ∀ i, i < 16 → bad a i = false) : f_X6_cells (nI 16) a = some (cel a 16) := by
  unfold f_X6_cells
  have h := wl_for0 (f := st_X6_cells_4 (nI 16) a) (fun i => (cel a i, nI i)) (e := 16) (r := cel a 16) (by
    intro i hi
    obtain ⟨d, hd, e1, e2⟩ := bad_f (hg i hi)
    show st_X6_cells_4c (nI 16) a (cel a i) (nI i) = _
    unfold st_X6_cells_4c
    rw [if_neg (by rw [nI_leI (by omega) (by omega)]; omega), inb_nI (show i < 16 by omega) (by decide), gds, cl_nI (by omega), e1, b1s]
    simp only [hk_let, cel, e2, Option.getD_some]
    rw [i1, nI_add, i4]) (by
    show st_X6_cells_4c (nI 16) a (cel a 16) (nI 16) = _
    unfold st_X6_cells_4c
    rw [if_pos (by rw [nI_leI (by omega) (by omega)]; omega)]) (by decide)
  rw [show ((0 : Int64), (0 : Int32)) = (cel a 0, nI 0) from rfl, h, b1s]
theorem x8_word {a : Nat → Int32} (hg : ∀ i, i < 16 → bad a i = false) (f : Nat → Int64) {j : Nat} (hj : j < 8) : hk_wl (st_X8_word_30 a (nI j)) hkF ((0 : Int32), vp_updL f j 0) = some (vp_updL f j (cel a 16)) := by
  have h := wl_for0 (f := st_X8_word_30 a (nI j)) (fun i => (nI i, vp_updL f j (cel a i))) (e := 16) (r := vp_updL f j (cel a 16)) (by
    intro i hi
    obtain ⟨d, hd, e1, e2⟩ := bad_f (hg i hi)
    show st_X8_word_30c a (nI j) (nI i) (vp_updL f j (cel a i)) = _
    unfold st_X8_word_30c
    simp only [hk_let, inb_nI hj (show 8 < 2 ^ 31 by decide), inb_nI hi (show 16 < 2 ^ 31 by decide), gds, cl_nI (show j < 2 ^ 31 by omega), cl_nI (show i < 2 ^ 31 by omega), e2, b1s, updL_s, updL_u, cel, Option.getD_some]
    rw [i16, if_neg (by rw [nI_leI (by omega) (by omega)]; omega), i1, nI_add, i4]) (by
    show st_X8_word_30c a (nI j) (nI 16) (vp_updL f j (cel a 16)) = _
    unfold st_X8_word_30c
    rw [i16, if_pos (by rw [nI_leI (by omega) (by omega)]; omega)]) (by decide)
  exact h
theorem cel_c {a b : Nat → Int32} (h : te 16 a b) : ∀ i, i ≤ 16 → cel a i = cel b i
  | 0, _ => rfl
  | i + 1, hi => by
    show cel a i ||| _ = cel b i ||| _
    rw [cel_c h i (by omega), h i (by omega)]
theorem m9_m9 : ¬ (-9 : Int32) = 0 := by decide
theorem pr_word {n : Nat} (hn : n ≤ 16) {s t : Nat → Int32} (ht : te n s t) {a b : Nat → Int64} (h : fe a b) (x : Int32) : ∃ r a' b', f_X7_word (nI n) s a x = some (r, a') ∧ f_X8_word (nI n) t b x = some (r, b') ∧ fe a' b' := by
  unfold f_X7_word f_X8_word
  rcases ix_cases x 8 (by decide) with ⟨j, hj, rfl⟩ | hx
  · have ef : flt n t = flt n s := by unfold flt; rw [ff_c ht]
    rw [noF_0 hj, isF_1 hj, b1s, b1s, x6_fault hn, x8_fault hn, b1s, b1s, ef]
    simp only [if_pos, if_neg (show ¬ (1 : Int32) = 0 by decide)]
    by_cases e : flt n s = -9
    · obtain ⟨rfl, hg⟩ := flt16 hn e
      have hg2 : ∀ i, i < 16 → bad t i = false := fun i hi => by rw [← bad_c ht hi]; exact hg i hi
      simp only [if_pos e, x6_cells hg, b1s, become_s a hj, b2s, inb_nI hj (show 8 < 2 ^ 31 by decide), gds, cl_nI (show j < 2 ^ 31 by omega), x8_word hg2 b hj, updL_s, ones_popc]
      rw [cel_c ht 16 (by omega)]
      exact ⟨_, _, _, rfl, rfl, fe_upd h j _⟩
    · simp only [if_neg e]
      exact ⟨_, _, _, rfl, rfl, h⟩
  · rw [noF_1 hx, isF_0 hx, b1s, b1s]
    exact ⟨-1, a, b, by simp, by simp, h⟩
