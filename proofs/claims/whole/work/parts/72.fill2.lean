/-! the class fills: all levels -/
theorem ls_ext : ∀ (n : Nat) (u v : List Int64), u.length = n → v.length = n → (∀ i, i < n → u.getD i 0 = v.getD i 0) → u = v
  | 0, [], [], _, _, _ => rfl
  | n + 1, a :: u, b :: v, h1, h2, h => by
    rw [List.length_cons] at h1 h2
    have h0 : a = b := h 0 (by omega)
    rw [h0, ls_ext n u v (by omega) (by omega) (fun i hi => h (i + 1) (by omega))]
theorem xt_end {n : Nat} {W : Nat → Int64 → Prop} {ch : Nat → Int64} {U : Nat → Bool} (hU : ∀ i, i < n → U i = true) (left : Int64) (w : List Int64) : xt n W ch U left w ↔ left = 0 ∧ w = lsR ch 0 n := by
  constructor
  · rintro ⟨h1, h2, _, _, h5⟩
    refine ⟨(bl_eq0 _).mpr (fun b hb => ?_), ls_ext n _ _ h1 (lsR_len ch n 0) (fun i hi => ?_)⟩
    · cases hl : bl left b
      · rfl
      · obtain ⟨i, a1, a2, _⟩ := (h5 b hb).mp hl
        rw [hU i a1] at a2; cases a2
    · rw [h2 i hi (hU i hi), lsR_at ch n 0 i hi, Nat.zero_add]
  · rintro ⟨h1, rfl⟩
    refine ⟨lsR_len ch n 0, fun i hi _ => by rw [lsR_at ch n 0 i hi, Nat.zero_add], fun i hi q => ?_, fun i j hi _ _ q => ?_, fun b hb => ⟨fun q => ?_, fun ⟨i, hi, q, _⟩ => ?_⟩⟩
    · rw [hU i hi] at q; cases q
    · rw [hU i hi] at q; cases q
    · rw [h1, bl_0] at q; cases q
    · rw [hU i hi] at q; cases q
