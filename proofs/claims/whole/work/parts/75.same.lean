/-! the two sets of ways are one -/
theorem tl_iff {S : Nat → Int64 → Prop} : ∀ (w : List Int64) (y : Nat) (l : Int64), tl S y l w ↔ (∀ i, i < w.length → S (y + i) (w.getD i 0) ∧ wth (w.getD i 0) l) ∧ ∀ i j, i < j → j < w.length → w.getD i 0 &&& w.getD j 0 = 0
  | [], y, l => ⟨fun _ => ⟨fun i hi => absurd hi (Nat.not_lt_zero _), fun i j _ hj => absurd hj (Nat.not_lt_zero _)⟩, fun _ => trivial⟩
  | a :: w, y, l => by
    have ih := tl_iff (S := S) w (y + 1) (l &&& (a ^^^ (-1)))
    show S y a ∧ wth a l ∧ tl S (y + 1) (l &&& (a ^^^ (-1))) w ↔ _
    rw [ih]
    constructor
    · rintro ⟨h1, h2, h3, h4⟩
      refine ⟨fun i hi => ?_, fun i j hij hj => ?_⟩
      · cases i with
        | zero => exact ⟨h1, h2⟩
        | succ i =>
          obtain ⟨g1, g2⟩ := h3 i (by rw [List.length_cons] at hi; omega)
          refine ⟨?_, ((wth_and _ _ _).mp g2).1⟩
          rw [show y + (i + 1) = y + 1 + i by omega]
          exact g1
      · rw [List.length_cons] at hj
        cases i with
        | zero =>
          obtain ⟨j', rfl⟩ : ∃ j', j = j' + 1 := ⟨j - 1, by omega⟩
          exact ((wth_and _ _ _).mp (h3 j' (by omega)).2).2
        | succ i =>
          obtain ⟨j', rfl⟩ : ∃ j', j = j' + 1 := ⟨j - 1, by omega⟩
          exact h4 i j' (by omega) (by omega)
    · rintro ⟨h1, h2⟩
      have h0 := h1 0 (by rw [List.length_cons]; omega)
      refine ⟨h0.1, h0.2, fun i hi => ?_, fun i j hij hj => h2 (i + 1) (j + 1) (by omega) (by rw [List.length_cons]; omega)⟩
      have g := h1 (i + 1) (by rw [List.length_cons]; omega)
      rw [show y + (i + 1) = y + 1 + i by omega] at g
      exact ⟨g.1, (wth_and _ _ _).mpr ⟨g.2, h2 0 (i + 1) (by omega) (by rw [List.length_cons]; omega)⟩⟩
def rst (l : Int64) : List Int64 → Int64
  | [] => l
  | a :: w => rst (l &&& (a ^^^ (-1))) w
def smL : List Int64 → Nat
  | [] => 0
  | a :: w => popc a + smL w
theorem rst_pop {S : Nat → Int64 → Prop} : ∀ (w : List Int64) (y : Nat) (l : Int64), tl S y l w → popc l = smL w + popc (rst l w)
  | [], y, l, _ => by show popc l = 0 + popc l; omega
  | a :: w, y, l, h => by
    obtain ⟨_, h2, h3⟩ := h
    have ih := rst_pop w (y + 1) _ h3
    have hs := popc_split l a
    have ha : l &&& a = a := by
      rw [Int64.and_comm]
      exact and_sbs ((wth_bit a l).mp h2)
    rw [ha] at hs
    show popc l = popc a + smL w + popc (rst (l &&& (a ^^^ (-1))) w)
    omega
theorem rst_bit : ∀ (w : List Int64) (l : Int64) (b : Nat), b < 64 → bl l b = true → bl (rst l w) b = false → ∃ i, i < w.length ∧ bl (w.getD i 0) b = true
  | [], l, b, _, h1, h2 => by
    have h2 : bl l b = false := h2
    rw [h1] at h2; cases h2
  | a :: w, l, b, hb, h1, h2 => by
    cases ha : bl a b
    · obtain ⟨i, hi, e⟩ := rst_bit w (l &&& (a ^^^ (-1))) b hb (by rw [bl_and, bl_not _ hb, h1, ha]; rfl) h2
      exact ⟨i + 1, by rw [List.length_cons]; omega, e⟩
    · exact ⟨0, by rw [List.length_cons]; omega, ha⟩
