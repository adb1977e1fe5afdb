/-! ways that go on from what is chosen -/
def xt (n : Nat) (W : Nat → Int64 → Prop) (ch : Nat → Int64) (U : Nat → Bool) (left : Int64) (w : List Int64) : Prop := w.length = n ∧ (∀ i, i < n → U i = true → w.getD i 0 = ch i) ∧ (∀ i, i < n → U i = false → W i (w.getD i 0)) ∧ (∀ i j, i < n → j < n → ¬ i = j → U i = false → U j = false → ∀ b, b < 64 → bl (w.getD i 0) b = true → bl (w.getD j 0) b = false) ∧ ∀ b, b < 64 → (bl left b = true ↔ ∃ i, i < n ∧ U i = false ∧ bl (w.getD i 0) b = true)
def uU (U : Nat → Bool) (i : Nat) : Nat → Bool := fun j => if j = i then true else U j
theorem uU_s (U : Nat → Bool) (i : Nat) : uU U i i = true := if_pos rfl
theorem uU_n (U : Nat → Bool) {i j : Nat} (h : ¬ j = i) : uU U i j = U j := if_neg h
theorem uU_f {U : Nat → Bool} {i j : Nat} (h : uU U i j = false) : ¬ j = i ∧ U j = false := by
  by_cases e : j = i
  · rw [e, uU_s] at h; cases h
  · rw [uU_n U e] at h; exact ⟨e, h⟩
theorem xt_step {n : Nat} {W : Nat → Int64 → Prop} {ch : Nat → Int64} {U : Nat → Bool} {left : Int64} {i : Nat} (hi : i < n) (hU : U i = false) {s : Int64} (hW : W i s) (hs : wth s left) (w : List Int64) : xt n W (vp_updL ch i s) (uU U i) (left ^^^ s) w ↔ xt n W ch U left w ∧ w.getD i 0 = s := by
  have hsb := (wth_bit s left).mp hs
  have hx : ∀ b, b < 64 → (bl (left ^^^ s) b = true ↔ bl left b = true ∧ bl s b = false) := fun b hb => by
    rw [bl_xor]
    cases h1 : bl s b
    · simp
    · rw [hsb b hb h1]; simp
  constructor
  · rintro ⟨h1, h2, h3, h4, h5⟩
    have hwi : w.getD i 0 = s := by rw [h2 i hi (uU_s U i), updL_s]
    have hdis : ∀ j, j < n → ¬ j = i → U j = false → ∀ b, b < 64 → bl (w.getD j 0) b = true → bl s b = false := fun j hj hji hUj b hb hbj => ((hx b hb).mp ((h5 b hb).mpr ⟨j, hj, by rw [uU_n U hji]; exact hUj, hbj⟩)).2
    refine ⟨⟨h1, fun j hj hUj => ?_, fun j hj hUj => ?_, fun j k hj hk hjk hUj hUk b hb hbj => ?_, fun b hb => ?_⟩, hwi⟩
    · have hji : ¬ j = i := fun e => by rw [e, hU] at hUj; cases hUj
      rw [h2 j hj (by rw [uU_n U hji]; exact hUj), updL_n hji]
    · by_cases hji : j = i
      · rw [hji, hwi]; exact hW
      · exact h3 j hj (by rw [uU_n U hji]; exact hUj)
    · by_cases hji : j = i
      · rw [hji, hwi] at hbj
        cases hk2 : bl (w.getD k 0) b
        · rfl
        · rw [hdis k hk (fun e => hjk (by rw [hji, e])) hUk b hb hk2] at hbj; cases hbj
      · by_cases hki : k = i
        · rw [hki, hwi]; exact hdis j hj hji hUj b hb hbj
        · exact h4 j k hj hk hjk (by rw [uU_n U hji]; exact hUj) (by rw [uU_n U hki]; exact hUk) b hb hbj
    · constructor
      · intro hl
        cases hsb2 : bl s b
        · obtain ⟨j, a1, a2, a3⟩ := (h5 b hb).mp ((hx b hb).mpr ⟨hl, hsb2⟩)
          exact ⟨j, a1, (uU_f a2).2, a3⟩
        · exact ⟨i, hi, hU, by rw [hwi]; exact hsb2⟩
      · rintro ⟨j, a1, a2, a3⟩
        by_cases hji : j = i
        · rw [hji, hwi] at a3; exact hsb b hb a3
        · exact ((hx b hb).mp ((h5 b hb).mpr ⟨j, a1, by rw [uU_n U hji]; exact a2, a3⟩)).1
  · rintro ⟨⟨h1, h2, h3, h4, h5⟩, hwi⟩
    refine ⟨h1, fun j hj hUj => ?_, fun j hj hUj => h3 j hj (uU_f hUj).2, fun j k hj hk hjk hUj hUk => h4 j k hj hk hjk (uU_f hUj).2 (uU_f hUk).2, fun b hb => ?_⟩
    · by_cases hji : j = i
      · rw [hji, hwi, updL_s]
      · rw [uU_n U hji] at hUj
        rw [h2 j hj hUj, updL_n hji]
    · rw [hx b hb, h5 b hb]
      constructor
      · rintro ⟨⟨j, a1, a2, a3⟩, a4⟩
        have hji : ¬ j = i := fun e => by rw [e, hwi, a4] at a3; cases a3
        exact ⟨j, a1, by rw [uU_n U hji]; exact a2, a3⟩
      · rintro ⟨j, a1, a2, a3⟩
        obtain ⟨k1, k2⟩ := uU_f a2
        refine ⟨⟨j, a1, k2, a3⟩, ?_⟩
        have := h4 j i a1 hi k1 k2 hU b hb a3
        rw [hwi] at this
        exact this
