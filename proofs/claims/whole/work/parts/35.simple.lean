/-! the simple calls -/
def fe (a b : Nat → Int64) : Prop := ∀ i, i < 8 → a i = b i
theorem fe_upd {a b : Nat → Int64} (h : fe a b) (j : Nat) (v : Int64) : fe (vp_updL a j v) (vp_updL b j v) := by
  intro i hi
  unfold vp_updL
  by_cases e : i = j
  · rw [if_pos e, if_pos e]
  · rw [if_neg e, if_neg e]; exact h i hi
theorem updL_n {f : Nat → Int64} {k j : Nat} {x : Int64} (h : j ≠ k) : vp_updL f k x j = f j := if_neg h
theorem updL_u (f : Nat → Int64) (k : Nat) (a b : Int64) : vp_updL (vp_updL f k a) k b = vp_updL f k b := by
  funext j
  unfold vp_updL
  by_cases h : j = k
  · rw [if_pos h, if_pos h]
  · rw [if_neg h, if_neg h, if_neg h]
theorem become_s (f : Nat → Int64) {j : Nat} (hj : j < 8) (v : Int64) : f_X7_become f (nI j) v = some (nI (popc v), vp_updL f j v) := by
  unfold f_X7_become
  rw [inb_nI hj (by decide), gds, bitCount_popc, b1s, cl_nI (by omega)]
theorem change_s (f : Nat → Int64) {j : Nat} (hj : j < 8) (v : Int64) : f_X7_change f (nI j) v = some (if f j = v then 0 else 1, vp_updL f j v) := by
  unfold f_X7_change
  simp only [hk_let, inb_nI hj (show 8 < 2 ^ 31 by decide), gds, cl_nI (show j < 2 ^ 31 by omega)]
  by_cases h : f j = v
  · simp [h]
  · simp [h]
theorem pr_figure {a b : Nat → Int64} (h : fe a b) (x : Int32) : ∃ r, f_X7_figure a x = some r ∧ f_X8_figure b x = some r := by
  unfold f_X7_figure f_X8_figure
  rcases ix_cases x 8 (by decide) with ⟨j, hj, rfl⟩ | hx
  · rw [noF_0 hj, isF_1 hj, b1s, b1s, inb_nI hj (by decide), gds, gds, cl_nI (by omega)]
    exact ⟨a j, by simp, by simp [h j hj]⟩
  · rw [noF_1 hx, isF_0 hx, b1s, b1s]
    exact ⟨0, by simp, by simp⟩
theorem pr_size {a b : Nat → Int64} (h : fe a b) (x : Int32) : ∃ r, f_X7_size a x = some r ∧ f_X8_size b x = some r := by
  unfold f_X7_size f_X8_size
  rcases ix_cases x 8 (by decide) with ⟨j, hj, rfl⟩ | hx
  · rw [noF_0 hj, isF_1 hj, b1s, b1s, inb_nI hj (by decide), gds, gds, cl_nI (by omega), bitCount_popc, ones_popc, b1s, b1s]
    exact ⟨nI (popc (a j)), by simp, by simp [h j hj]⟩
  · rw [noF_1 hx, isF_0 hx, b1s, b1s]
    exact ⟨-1, by simp, by simp⟩
theorem pr_set {a b : Nat → Int64} (h : fe a b) (x y z : Int32) : ∃ r a' b', f_X7_set a x y z = some (r, a') ∧ f_X8_set b x y z = some (r, b') ∧ fe a' b' := by
  unfold f_X7_set f_X8_set
  rcases ix_cases x 8 (by decide) with ⟨j, hj, rfl⟩ | hx
  · rw [noF_0 hj, isF_1 hj, b1s, b1s]
    rcases ix_cases y 64 (by decide) with ⟨k, hk, rfl⟩ | hy
    · have h1 : ¬ nI k < 0 := nI_pos (by omega)
      have h2 : nI k < 64 := by rw [i64]; exact nI_lt hk (by decide)
      rw [show (63 : Int64) = lN 63 from rfl, in_nI (show k ≤ 63 by omega) (by decide), b1s]
      simp only [hk_let, inb_nI hj (show 8 < 2 ^ 31 by decide), gds, cl_nI (show j < 2 ^ 31 by omega), if_pos, if_neg h1, if_pos h2, if_neg (show ¬ (1 : Int32) = 0 by decide), change_s a hj, b2s, h j hj, updL_s]
      generalize hv : (if z = 0 then b j &&& (hk_shl 1 (nI k) ^^^ (-1)) else b j ||| hk_shl 1 (nI k)) = v
      by_cases e : b j = v
      · refine ⟨0, _, _, by rw [if_pos e], by rw [if_pos e], fe_upd h j v⟩
      · refine ⟨1, _, _, by rw [if_neg e], by rw [if_neg e], fe_upd h j v⟩
    · rw [show (63 : Int64) = lN 63 from rfl, in_out (by decide) hy, b1s]
      refine ⟨-1, a, b, ?_, by simp, h⟩
      by_cases h1 : y < 0
      · simp [h1]
      · have h2 : ¬ y < 64 := by
          have := hy.resolve_left h1
          rw [i64, fa_lt]; rw [fa_le] at this; omega
        simp [h1, h2]
  · rw [noF_1 hx, isF_0 hx, b1s, b1s]
    exact ⟨-1, a, b, by simp, by simp, h⟩
