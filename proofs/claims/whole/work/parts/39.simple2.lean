theorem pr_wipe (n : Nat) : ∃ r, f_X7_wipe (nI n) = some (r, nI 0) ∧ f_X8_wipe (nI n) = some (r, nI 0) := ⟨nI n, rfl, rfl⟩
theorem in_03 (x : Int32) : (∃ n, n ≤ 3 ∧ x = nI n ∧ f_X8_in x.toInt64 0 3 = some 1 ∧ ¬ x < 0 ∧ x ≤ 3) ∨ ((x < 0 ∨ ¬ x ≤ 3) ∧ f_X8_in x.toInt64 0 3 = some 0) := by
  rcases ix_cases x 4 (by decide) with ⟨j, hj, rfl⟩ | hx
  · left
    exact ⟨j, by omega, rfl, by rw [show (3 : Int64) = lN 3 from rfl]; exact in_nI (by omega) (by decide), nI_pos (by omega), by rw [i3, nI_leI (by omega) (by decide)]; omega⟩
  · right
    refine ⟨?_, by rw [show (3 : Int64) = lN 3 from rfl]; exact in_out (by decide) hx⟩
    rcases hx with hx | hx
    · exact Or.inl hx
    · right
      rw [i3, fa_le]; rw [fa_le] at hx
      rw [nI_toInt (by decide)] at hx ⊢
      omega
theorem pr_both {a b : Nat → Int64} (h : fe a b) (x w y z : Int32) : ∃ r a' b', f_X7_both a x w y z = some (r, a') ∧ f_X8_both b x w y z = some (r, b') ∧ fe a' b' := by
  unfold f_X7_both f_X8_both
  rcases ix_cases x 8 (by decide) with ⟨j, hj, rfl⟩ | hx
  · rw [noF_0 hj, isF_1 hj, b1s, b1s]
    simp only [if_pos, if_neg ne_1_0]
    rcases ix_cases y 8 (by decide) with ⟨k, hk, rfl⟩ | hy
    · rw [noF_0 hk, isF_1 hk, b1s, b1s]
      simp only [if_pos, if_neg ne_1_0]
      rcases ix_cases z 8 (by decide) with ⟨m, hm, rfl⟩ | hz
      · rw [noF_0 hm, isF_1 hm, b1s, b1s]
        simp only [if_pos, if_neg ne_1_0]
        rcases in_03 w with ⟨n, hn, rfl, e, h1, h2⟩ | ⟨hw, e⟩
        · rw [e, b1s]
          simp only [if_neg h1, if_pos h2, if_neg ne_1_0, inb_nI hj (show 8 < 2 ^ 31 by decide), inb_nI hk (show 8 < 2 ^ 31 by decide), inb_nI hm (show 8 < 2 ^ 31 by decide), gds, cl_nI (show j < 2 ^ 31 by omega), cl_nI (show k < 2 ^ 31 by omega), cl_nI (show m < 2 ^ 31 by omega), hk_let, h k hk, h m hm, updL_s, ones_popc, b1s]
          unfold f_X7_combined
          rcases (show n = 0 ∨ n = 1 ∨ n = 2 ∨ n = 3 by omega) with rfl | rfl | rfl | rfl
          · simp only [if_pos (show nI 0 = (0 : Int32) from rfl), b1s, become_s a hj, b2s]
            exact ⟨_, _, _, rfl, rfl, fe_upd h j _⟩
          · simp only [if_neg (show ¬ nI 1 = (0 : Int32) by decide), if_pos (show nI 1 = (1 : Int32) from rfl), b1s, become_s a hj, b2s]
            exact ⟨_, _, _, rfl, rfl, fe_upd h j _⟩
          · simp only [if_neg (show ¬ nI 2 = (0 : Int32) by decide), if_neg (show ¬ nI 2 = (1 : Int32) by decide), if_pos (show nI 2 = (2 : Int32) from rfl), b1s, become_s a hj, b2s]
            exact ⟨_, _, _, rfl, rfl, fe_upd h j _⟩
          · simp only [if_neg (show ¬ nI 3 = (0 : Int32) by decide), if_neg (show ¬ nI 3 = (1 : Int32) by decide), if_neg (show ¬ nI 3 = (2 : Int32) by decide), b1s, become_s a hj, b2s]
            exact ⟨_, _, _, rfl, rfl, fe_upd h j _⟩
        · rw [e, b1s, if_pos rfl]
          refine ⟨-2, a, b, ?_, rfl, h⟩
          rcases hw with hw | hw
          · rw [if_pos hw]
          · by_cases h1 : w < 0
            · rw [if_pos h1]
            · rw [if_neg h1, if_neg hw]
      · rw [noF_1 hz, isF_0 hz, b1s, b1s]
        exact ⟨-1, a, b, by simp, by simp, h⟩
    · rw [noF_1 hy, isF_0 hy, b1s, b1s]
      exact ⟨-1, a, b, by simp, by simp, h⟩
  · rw [noF_1 hx, isF_0 hx, b1s, b1s]
    exact ⟨-1, a, b, by simp, by simp, h⟩
theorem pr_lift {n : Nat} (hn : n ≤ 4) : ∃ r n', f_X7_lift (nI n) = some (r, nI n') ∧ f_X8_lift (nI n) = some (r, nI n') ∧ n' ≤ n := by
  unfold f_X7_lift f_X8_lift
  by_cases h : n = 0
  · subst h
    exact ⟨-3, 0, by rw [if_neg (by decide)], by rw [if_pos (show nI 0 = 0 from rfl)], by omega⟩
  · rw [if_pos (by rw [i1, nI_leI (by decide) (by omega)]; omega), if_neg (by rw [i0, nI_eq (by omega) (by decide)]; exact h)]
    simp only [hk_let, i1, pk_sub (show 1 ≤ n by omega)]
    exact ⟨_, n - 1, rfl, rfl, by omega⟩
/-- a piece's number, or not -/
theorem pc_cases {n : Nat} (hn : n ≤ 4) (x : Int32) : (∃ k, k < n ∧ x = nI k ∧ f_X7_noPiece (nI n) x = some 0 ∧ f_X8_isPiece (nI n) x = some 1) ∨ (f_X7_noPiece (nI n) x = some 1 ∧ f_X8_isPiece (nI n) x = some 0) := by
  unfold f_X7_noPiece f_X8_isPiece
  rcases ix_cases x n (by omega) with ⟨j, hj, rfl⟩ | hx
  · left
    refine ⟨j, hj, rfl, ?_, ?_⟩
    · rw [if_neg (nI_pos (by omega)), if_neg (by rw [nI_leI (by omega) (by omega)]; omega), if_pos (by rw [i4, nI_ltI (by omega) (by decide)]; omega)]
    · rw [i1, pk_sub (show 1 ≤ n by omega), nI_l (show n - 1 < 2 ^ 31 by omega), in_nI (show j ≤ n - 1 by omega) (by omega), b1s, isb1, gds]; rfl
  · right
    refine ⟨?_, ?_⟩
    · rcases hx with hx | hx
      · rw [if_pos hx]
      · by_cases h0 : x < 0
        · rw [if_pos h0]
        · rw [if_neg h0, if_pos hx]
    · have e : f_X8_in x.toInt64 0 ((nI n - 1).toInt64) = some 0 := by
        by_cases h0 : n = 0
        · subst h0
          by_cases hx0 : x < 0
          · exact in_0 (Or.inl (by rw [show (0 : Int64) = (0 : Int32).toInt64 from rfl, fa_wide_lt]; exact hx0))
          · refine in_0 (Or.inr ?_)
            rw [fa_wide_lt]
            rw [show nI 0 - 1 = (-1 : Int32) from rfl, fa_lt, show (-1 : Int32).toInt = -1 from rfl]
            rw [fa_lt, show (0 : Int32).toInt = 0 from rfl] at hx0
            omega
        · rw [i1, pk_sub (show 1 ≤ n by omega), nI_l (show n - 1 < 2 ^ 31 by omega)]
          exact in_out (n := n - 1) (by omega) (by rw [show n - 1 + 1 = n by omega]; exact hx)
      rw [e, b1s, isb0, gds]
theorem pr_piece {n : Nat} (hn : n ≤ 4) {p q : Nat → Int64} (h : ∀ i, i < 4 → p i = q i) (x : Int32) : ∃ r, f_X7_piece (nI n) p x = some r ∧ f_X8_piece (nI n) q x = some r := by
  unfold f_X7_piece f_X8_piece
  rcases pc_cases hn x with ⟨k, hk, rfl, e1, e2⟩ | ⟨e1, e2⟩
  · rw [e1, e2, b1s, b1s, inb_nI (show k < 4 by omega) (by decide), gds, gds, cl_nI (by omega), h k (by omega)]
    exact ⟨q k, by simp, by simp⟩
  · rw [e1, e2, b1s, b1s]
    exact ⟨0, by simp, by simp⟩
theorem nar0 : vp_nar .boolean 0 = 0 := rfl
theorem nar1 : vp_nar .boolean 1 = 1 := rfl
theorem updL_c {k : Nat} {a b : Nat → Int64} (h : ∀ i, i < k → a i = b i) (j : Nat) (v : Int64) : ∀ i, i < k → vp_updL a j v i = vp_updL b j v i := by
  intro i hi
  unfold vp_updL
  by_cases e : i = j
  · rw [if_pos e, if_pos e]
  · rw [if_neg e, if_neg e]; exact h i hi
theorem upd_c {k : Nat} {a b : Nat → Int32} (h : ∀ i, i < k → a i = b i) (j : Nat) (v : Int32) : ∀ i, i < k → upd a j v i = upd b j v i := by
  intro i hi
  by_cases e : i = j
  · subst e; rw [upd_s, upd_s]
  · rw [pk_un e, pk_un e]; exact h i hi
theorem pr_lay {n : Nat} (hn : n ≤ 4) {a b : Nat → Int64} (h : fe a b) {p q : Nat → Int64} (hp : ∀ i, i < 4 → p i = q i) (hz : ∀ i, i < n → ¬ p i = 0) {m k : Nat → Int32} (hm : ∀ i, i < 4 → m i = k i) (x y : Int32) : ∃ r n' p' q' m' k', f_X7_lay (nI n) a p m x y = some (r, nI n', p', m') ∧ f_X8_lay (nI n) b q k x y = some (r, nI n', q', k') ∧ n' ≤ 4 ∧ (∀ i, i < 4 → p' i = q' i) ∧ (∀ i, i < n' → ¬ p' i = 0) ∧ (∀ i, i < 4 → m' i = k' i) := by
  unfold f_X7_lay f_X8_lay
  rcases ix_cases x 8 (by decide) with ⟨j, hj, rfl⟩ | hx
  · rw [noF_0 hj, isF_1 hj, b1s, b1s]
    simp only [if_pos, if_neg ne_1_0, inb_nI hj (show 8 < 2 ^ 31 by decide), gds, cl_nI (show j < 2 ^ 31 by omega), h j hj]
    by_cases e : b j = 0
    · rw [if_pos e, if_pos e]
      exact ⟨_, n, _, _, _, _, rfl, rfl, hn, hp, hz, hm⟩
    · rw [if_neg e, if_neg e]
      by_cases e4 : n = 4
      · subst e4
        rw [if_neg (by decide), if_pos (by decide)]
        exact ⟨_, 4, _, _, _, _, rfl, rfl, hn, hp, hz, hm⟩
      · rw [if_pos (by rw [i4, nI_ltI (by omega) (by decide)]; omega), if_neg (by rw [i4, nI_eq (by omega) (by decide)]; exact e4)]
        simp only [inb_nI (show n < 4 by omega) (show 4 < 2 ^ 31 by decide), gds, hk_let, i1, nI_add, cl_nI (show n < 2 ^ 31 by omega)]
        refine ⟨_, n + 1, _, _, _, _, rfl, rfl, by omega, updL_c hp n _, ?_, upd_c hm n _⟩
        intro i hi
        by_cases ei : i = n
        · subst ei; rw [updL_s]; exact e
        · rw [updL_n ei]; exact hz i (by omega)
  · rw [noF_1 hx, isF_0 hx, b1s, b1s]
    exact ⟨-1, n, _, _, _, _, by simp, by simp, hn, hp, hz, hm⟩
/-- how many figures are not empty, how many cells all have -/
def fil (a : Nat → Int64) : Nat → Nat
  | 0 => 0
  | i + 1 => fil a i + if a i = 0 then 0 else 1
def cls (a : Nat → Int64) : Nat → Nat
  | 0 => 0
  | i + 1 => cls a i + popc (a i)
theorem fil_c {a b : Nat → Int64} (h : fe a b) : ∀ i, i ≤ 8 → fil a i = fil b i
  | 0, _ => rfl
  | i + 1, hi => by show fil a i + _ = fil b i + _; rw [fil_c h i (by omega), h i (by omega)]
theorem cls_c {a b : Nat → Int64} (h : fe a b) : ∀ i, i ≤ 8 → cls a i = cls b i
  | 0, _ => rfl
  | i + 1, hi => by show cls a i + _ = cls b i + _; rw [cls_c h i (by omega), h i (by omega)]
theorem x5_fil (a : Nat → Int64) : f_X5_countFilled a = some (nI (fil a 8)) := by
  unfold f_X5_countFilled
  have h := wl_for0 (f := st_X5_countFilled_4 a) (fun i => (nI (fil a i), nI i)) (e := 8) (r := nI (fil a 8)) (by
    intro i hi
    show st_X5_countFilled_4c a (nI (fil a i)) (nI i) = _
    unfold st_X5_countFilled_4c
    rw [i8, if_neg (nI_ge hi (by decide))]
    simp only [inb_nI hi (show 8 < 2 ^ 31 by decide), gds, hk_let, cl_nI (show i < 2 ^ 31 by omega), i1, nI_add, fil]
    by_cases e : a i = 0
    · rw [if_pos e, if_pos e]; rfl
    · rw [if_neg e, if_neg e]) (by
    show st_X5_countFilled_4c a (nI (fil a 8)) (nI 8) = _
    unfold st_X5_countFilled_4c
    rw [i8, if_pos (by decide)]) (by decide)
  rw [show ((0 : Int32), (0 : Int32)) = (nI (fil a 0), nI 0) from rfl, h, b1s]
theorem x8_fil (a : Nat → Int64) : f_X8_some a = some (nI (fil a 8)) := by
  unfold f_X8_some
  have h := wl_for0 (f := st_X8_some_4 a) (fun i => (nI (fil a i), nI i)) (e := 8) (r := nI (fil a 8)) (by
    intro i hi
    show st_X8_some_4c a (nI (fil a i)) (nI i) = _
    unfold st_X8_some_4c
    rw [i8, if_neg (nI_ge hi (by decide))]
    simp only [inb_nI hi (show 8 < 2 ^ 31 by decide), gds, hk_let, cl_nI (show i < 2 ^ 31 by omega), i1, nI_add, fil]
    by_cases e : a i = 0
    · rw [if_pos e, if_pos e, i0, nI_add]
    · rw [if_neg e, if_neg e, nI_add]) (by
    show st_X8_some_4c a (nI (fil a 8)) (nI 8) = _
    unfold st_X8_some_4c
    rw [i8, if_pos (by decide)]) (by decide)
  rw [show ((0 : Int32), (0 : Int32)) = (nI (fil a 0), nI 0) from rfl, h, b1s]
theorem x5_cls (a : Nat → Int64) : f_X5_countCells a = some (nI (cls a 8)) := by
  unfold f_X5_countCells
  have h := wl_for0 (f := st_X5_countCells_4 a) (fun i => (nI (cls a i), nI i)) (e := 8) (r := nI (cls a 8)) (by
    intro i hi
    show st_X5_countCells_4c a (nI (cls a i)) (nI i) = _
    unfold st_X5_countCells_4c
    rw [i8, if_neg (nI_ge hi (by decide))]
    simp only [inb_nI hi (show 8 < 2 ^ 31 by decide), gds, hk_let, cl_nI (show i < 2 ^ 31 by omega), i1, nI_add, bitCount_popc, b1s, cls]) (by
    show st_X5_countCells_4c a (nI (cls a 8)) (nI 8) = _
    unfold st_X5_countCells_4c
    rw [i8, if_pos (by decide)]) (by decide)
  rw [show ((0 : Int32), (0 : Int32)) = (nI (cls a 0), nI 0) from rfl, h, b1s]
theorem x8_cls (a : Nat → Int64) : hk_wl (st_X8_count_4 a) hkF ((0 : Int32), (0 : Int32)) = some (nI (cls a 8)) := by
  have h := wl_for0 (f := st_X8_count_4 a) (fun i => (nI (cls a i), nI i)) (e := 8) (r := nI (cls a 8)) (by
    intro i hi
    show st_X8_count_4c a (nI (cls a i)) (nI i) = _
    unfold st_X8_count_4c
    rw [i8, if_neg (nI_ge hi (by decide))]
    simp only [inb_nI hi (show 8 < 2 ^ 31 by decide), gds, hk_let, cl_nI (show i < 2 ^ 31 by omega), i1, nI_add, ones_popc, b1s, cls]) (by
    show st_X8_count_4c a (nI (cls a 8)) (nI 8) = _
    unfold st_X8_count_4c
    rw [i8, if_pos (by decide)]) (by decide)
  exact h
theorem pr_count (l n : Int32) {a b : Nat → Int64} (h : fe a b) (x : Int32) : ∃ r, f_X7_count n l a x = some r ∧ f_X8_count l n b x = some r := by
  unfold f_X7_count f_X8_count
  rw [x8_cls, b1s, x8_fil, x5_fil, x5_cls, b1s, b1s, b1s, fil_c h 8 (Nat.le_refl 8), cls_c h 8 (Nat.le_refl 8)]
  by_cases c0 : x = 0
  · exact ⟨l, by rw [if_pos c0], by rw [if_pos c0]⟩
  by_cases c1 : x = 1
  · exact ⟨n, by rw [if_neg c0, if_pos c1], by rw [if_neg c0, if_pos c1]⟩
  by_cases c2 : x = 2
  · exact ⟨_, by rw [if_neg c0, if_neg c1, if_pos c2], by rw [if_neg c0, if_neg c1, if_pos c2]⟩
  by_cases c3 : x = 3
  · exact ⟨_, by rw [if_neg c0, if_neg c1, if_neg c2, if_pos c3], by rw [if_neg c0, if_neg c1, if_neg c2, if_pos c3]⟩
  · exact ⟨-2, by rw [if_neg c0, if_neg c1, if_neg c2, if_neg c3], by rw [if_neg c0, if_neg c1, if_neg c2, if_neg c3]⟩
