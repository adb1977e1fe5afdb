theorem smL_sm (ld : Nat → Int64) : ∀ (w : List Int64) (y : Nat), (∀ i, i < w.length → popc (w.getD i 0) = popc (ld (y + i))) → smL w + sm ld y = sm ld (y + w.length)
  | [], y, _ => by show 0 + sm ld y = sm ld (y + 0); rw [Nat.zero_add, Nat.add_zero]
  | a :: w, y, h => by
    have h0 : popc a = popc (ld y) := h 0 (by rw [List.length_cons]; omega)
    have ih := smL_sm ld w (y + 1) (fun i hi => by
      have := h (i + 1) (by rw [List.length_cons]; omega)
      rw [show y + (i + 1) = y + 1 + i by omega] at this
      exact this)
    have hs : sm ld (y + 1) = sm ld y + popc (ld y) := rfl
    rw [List.length_cons, show y + (w.length + 1) = y + 1 + w.length by omega, ← ih, hs]
    show popc a + smL w + sm ld y = _
    omega
theorem xt_WY {n : Nat} {ld : Nat → Int64} {mm : Nat → Int32} {f : Int64} (hs : sm ld n = popc f) (ch : Nat → Int64) (w : List Int64) : xt n (fun j => WK (ld j) (TT (mm j)) f) ch (fun _ => false) f w ↔ WY ld mm f n w := by
  constructor
  · rintro ⟨h1, _, h3, h4, h5⟩
    refine ⟨hs, h1, (tl_iff w 0 f).mpr ⟨fun i hi => ?_, fun i j hij hj => ?_⟩⟩
    · have := h3 i (by omega) rfl
      rw [Nat.zero_add]
      exact ⟨this, this.2⟩
    · exact (dis_bit _ _).mpr (fun b hb hbi => h4 i j (by omega) (by omega) (by omega) rfl rfl b hb hbi)
  · rintro ⟨_, h1, h2⟩
    obtain ⟨g1, g2⟩ := (tl_iff w 0 f).mp h2
    have hW : ∀ i, i < n → WK (ld i) (TT (mm i)) f (w.getD i 0) := fun i hi => by
      have := (g1 i (by omega)).1
      rw [Nat.zero_add] at this
      exact this
    have hp := rst_pop w 0 f h2
    have hsm := smL_sm ld w 0 (fun i hi => by rw [Nat.zero_add]; exact popc_WK (TT_8 _) (hW i (by omega)))
    have hz0 : sm ld 0 = 0 := rfl
    rw [Nat.zero_add, h1, hs] at hsm
    have hr : rst f w = 0 := popc_eq0.mp (by omega)
    refine ⟨h1, fun i _ q => (by cases q), fun i hi _ => hW i hi, fun i j hi hj hij _ _ b hb hbi => ?_, fun b hb => ⟨fun hl => ?_, fun ⟨i, hi, _, hbi⟩ => ?_⟩⟩
    · rcases Nat.lt_or_ge i j with z | z
      · exact (dis_bit _ _).mp (g2 i j z (by omega)) b hb hbi
      · cases hbj : bl (w.getD j 0) b
        · rfl
        · rw [(dis_bit _ _).mp (g2 j i (by omega) (by omega)) b hb hbj] at hbi; cases hbi
    · obtain ⟨i, hi, e⟩ := rst_bit w f b hb hl (by rw [hr, bl_0])
      exact ⟨i, by omega, rfl, e⟩
    · exact (wth_bit _ _).mp (hW i hi).2 b hb hbi
