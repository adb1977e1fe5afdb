theorem ne_1_0 : ¬ (1 : Int32) = 0 := by decide
theorem pr_sign {a b : Nat → Int64} (h : fe a b) (x y : Int32) : ∃ r, f_X7_sign a x y = some r ∧ f_X8_sign b x y = some r := by
  unfold f_X7_sign f_X8_sign
  rcases ix_cases x 8 (by decide) with ⟨j, hj, rfl⟩ | hx
  · rw [noF_0 hj, isF_1 hj, b1s, b1s]
    simp only [if_pos, if_neg ne_1_0]
    rcases ix_cases y 16 (by decide) with ⟨k, hk, rfl⟩ | hy
    · rw [show (15 : Int64) = lN 15 from rfl, in_nI (show k ≤ 15 by omega) (by decide), b1s]
      simp only [if_neg (nI_pos (show k < 2 ^ 31 by omega)), i16, if_pos (nI_lt hk (show 16 < 2 ^ 31 by decide)), inb_nI hj (show 8 < 2 ^ 31 by decide), gds, cl_nI (show j < 2 ^ 31 by omega), f_X0_square, b1s, h j hj, hk_let, if_neg ne_1_0, i4, pk_mul]
      have e := low_eq (b j) (k := 4 * k) (b := 4) (by omega) (by decide)
      rw [show nI (2 ^ 4 - 1) = (15 : Int32) from rfl, show lN (2 ^ 4 - 1) = lN 15 from rfl] at e
      rw [e]
      unfold f_X6_signOf
      generalize (hk_shr (b j) (nI (4 * k)) &&& lN 15).toInt32 = v
      by_cases h10 : (10 : Int32) ≤ v
      · refine ⟨87 + v, ?_, by simp [h10]⟩
        simp only [if_pos h10, b1s]
        rw [show (97 : Int32) + v - 10 = 87 + v from by
          rw [Int32.add_comm 97 v, Int32.add_comm 87 v]
          apply Int32.toBitVec_inj.mp
          rw [Int32.toBitVec_sub, Int32.toBitVec_add, Int32.toBitVec_add, show (97 : Int32).toBitVec = 97#32 from rfl, show (10 : Int32).toBitVec = 10#32 from rfl, show (87 : Int32).toBitVec = 87#32 from rfl]
          apply BitVec.eq_of_toNat_eq
          rw [BitVec.toNat_sub, BitVec.toNat_add, BitVec.toNat_add]
          simp only [BitVec.toNat_ofNat]
          have := v.toBitVec.isLt
          omega]
      · exact ⟨48 + v, by simp [h10, b1s], by simp [h10]⟩
    · rw [show (15 : Int64) = lN 15 from rfl, in_out (by decide) hy, b1s]
      refine ⟨-2, ?_, by simp⟩
      by_cases h1 : y < 0
      · simp [h1]
      · have h2 : ¬ y < 16 := by
          have := hy.resolve_left h1
          rw [i16, fa_lt]; rw [fa_le] at this; omega
        simp [h1, h2]
  · rw [noF_1 hx, isF_0 hx, b1s, b1s]
    exact ⟨-1, by simp, by simp⟩
/-- the bytes of a long, the highest of n first, come behind n0 bytes -/
def wr (v : Int64) (t : Nat → Int32) (n0 n : Nat) : Nat → Nat → Int32
  | 0 => t
  | i + 1 => upd (wr v t n0 n i) (n0 + i) (((hk_shr v (nI (8 * (n - 1 - i)))) &&& lN 255).toInt32)
theorem m1_nI (k : Nat) : nI (k + 1) + (-1) = nI k := pk_m1 k
theorem wr_m1 {i n : Nat} (hi : i < n) : nI (n - 1 - i) + (-1) = (if i + 1 = n then -1 else nI (n - 1 - (i + 1))) := by
  by_cases e : i + 1 = n
  · rw [if_pos e, show n - 1 - i = 0 by omega]; rfl
  · rw [if_neg e, show n - 1 - i = (n - 1 - (i + 1)) + 1 by omega, m1_nI]
theorem x8_wr (v : Int64) (t : Nat → Int32) {n0 n : Nat} (hn : 1 ≤ n) (hs : n0 + n ≤ 16) : hk_wl (st_X8_write_34 v) hkF (nI (n - 1), nI n0, t) = some (nI (n0 + n), wr v t n0 n n) := by
  have h := wl_for0 (f := st_X8_write_34 v) (fun i => (if i = n then -1 else nI (n - 1 - i), nI (n0 + i), wr v t n0 n i)) (e := n) (r := (nI (n0 + n), wr v t n0 n n)) (by
    intro i hi
    show st_X8_write_34c v (if i = n then -1 else nI (n - 1 - i)) (nI (n0 + i)) (wr v t n0 n i) = _
    rw [if_neg (show ¬ i = n by omega)]
    unfold st_X8_write_34c
    simp only [if_neg (nI_pos (show n - 1 - i < 2 ^ 31 by omega)), inb_nI (show n0 + i < 16 by omega) (show 16 < 2 ^ 31 by decide), gds, hk_let, cl_nI (show n0 + i < 2 ^ 31 by omega), i1, nI_add, i8, pk_mul, wr]
    rw [show nI (n - 1 - i) + -nI 1 = (if i + 1 = n then -nI 1 else nI (n - 1 - (i + 1))) from wr_m1 hi]
    rfl) (by
    show st_X8_write_34c v (if n = n then -1 else nI (n - 1 - n)) (nI (n0 + n)) (wr v t n0 n n) = _
    rw [if_pos rfl]
    unfold st_X8_write_34c
    rw [if_pos (by decide)]) (by omega)
  rw [if_neg (show ¬ 0 = n by omega)] at h
  exact h
theorem x6_wr (v : Int64) (t : Nat → Int32) {n0 n : Nat} (hn : 1 ≤ n) (hn8 : n ≤ 8) (hs : n0 + n ≤ 16) : hk_wl (st_X6_append_5 v) hkF (nI (n - 1), nI n0, t) = some (nI (n0 + n), wr v t n0 n n) := by
  have h := wl_for0 (f := st_X6_append_5 v) (fun i => (if i = n then -1 else nI (n - 1 - i), nI (n0 + i), wr v t n0 n i)) (e := n) (r := (nI (n0 + n), wr v t n0 n n)) (by
    intro i hi
    show st_X6_append_5c v (if i = n then -1 else nI (n - 1 - i)) (nI (n0 + i)) (wr v t n0 n i) = _
    rw [if_neg (show ¬ i = n by omega)]
    unfold st_X6_append_5c
    have e := low_eq v (k := 8 * (n - 1 - i)) (b := 8) (by omega) (by decide)
    rw [show nI (2 ^ 8 - 1) = (255 : Int32) from rfl, show lN (2 ^ 8 - 1) = lN 255 from rfl] at e
    simp only [if_neg (nI_pos (show n - 1 - i < 2 ^ 31 by omega)), i16, if_neg (nI_ge (show n0 + i < 16 by omega) (show 16 < 2 ^ 31 by decide)), inb_nI (show n0 + i < 16 by omega) (show 16 < 2 ^ 31 by decide), gds, hk_let, cl_nI (show n0 + i < 2 ^ 31 by omega), i1, nI_add, i8, pk_mul, wr, e]
    rw [show nI (n - 1 - i) + -nI 1 = (if i + 1 = n then -nI 1 else nI (n - 1 - (i + 1))) from wr_m1 hi]
    rfl) (by
    show st_X6_append_5c v (if n = n then -1 else nI (n - 1 - n)) (nI (n0 + n)) (wr v t n0 n n) = _
    rw [if_pos rfl]
    unfold st_X6_append_5c
    rw [if_pos (by decide)]) (by omega)
  rw [if_neg (show ¬ 0 = n by omega)] at h
  exact h
theorem wr_e {v : Int64} {s t : Nat → Int32} {n0 n : Nat} (h : te n0 s t) : ∀ i, te (n0 + i) (wr v s n0 n i) (wr v t n0 n i)
  | 0 => h
  | i + 1 => by
    intro k hk
    show upd _ _ _ k = upd _ _ _ k
    by_cases e : k = n0 + i
    · subst e; rw [upd_s, upd_s]
    · rw [pk_un e, pk_un e]; exact wr_e h i k (by omega)
theorem in_18 (x : Int32) : (∃ n, 1 ≤ n ∧ n ≤ 8 ∧ x = nI n ∧ f_X8_in x.toInt64 1 8 = some 1) ∨ ((x < 1 ∨ ¬ x ≤ 8) ∧ f_X8_in x.toInt64 1 8 = some 0) := by
  by_cases hn : x < 0
  · right
    have h1 : x < 1 := by rw [fa_lt] at hn ⊢; rw [show (1 : Int32).toInt = 1 from rfl]; rw [show (0 : Int32).toInt = 0 from rfl] at hn; omega
    exact ⟨Or.inl h1, in_0 (Or.inl (by rw [show (1 : Int64) = (1 : Int32).toInt64 from rfl, fa_wide_lt]; exact h1))⟩
  · obtain ⟨j, hj, rfl⟩ := nI_of hn
    rw [show (1 : Int64) = lN 1 from rfl, show (8 : Int64) = lN 8 from rfl, in_rng hj (by decide) (by decide), i1, i8, nI_ltI hj (by decide), nI_leI hj (by decide)]
    by_cases h : 1 ≤ j ∧ j ≤ 8
    · left; exact ⟨j, h.1, h.2, rfl, by rw [if_pos h]⟩
    · right; exact ⟨by omega, by rw [if_neg h]⟩
theorem pr_write {n : Nat} (hn : n ≤ 16) {s t : Nat → Int32} (h : te n s t) (x : Int32) (v : Int64) : ∃ r n' s' t', f_X7_write (nI n) s x v = some (r, nI n', s') ∧ f_X8_write (nI n) t x v = some (r, nI n', t') ∧ n' ≤ 16 ∧ te n' s' t' := by
  unfold f_X7_write f_X8_write
  rcases in_18 x with ⟨k, h1, h8, rfl, e⟩ | ⟨hx, e⟩
  · rw [e, b1s, if_neg (by rw [i1, nI_ltI (by omega) (by decide)]; omega), if_pos (by rw [i8, nI_leI (by omega) (by decide)]; omega), if_neg ne_1_0, nI_add, i16]
    have hc : nI (n + k) ≤ nI 16 ↔ n + k ≤ 16 := nI_leI (by omega) (by decide)
    by_cases hs : n + k ≤ 16
    · rw [if_pos (hc.mpr hs), if_pos (hc.mpr hs)]
      unfold f_X6_append
      simp only [hk_let, i1, pk_sub h1]
      rw [x6_wr v s h1 h8 hs, x8_wr v t h1 hs]
      exact ⟨_, _, _, _, rfl, rfl, hs, wr_e h k⟩
    · rw [if_neg (fun q => hs (hc.mp q)), if_neg (fun q => hs (hc.mp q))]
      exact ⟨_, _, _, _, rfl, rfl, hn, h⟩
  · rw [e, b1s, if_pos rfl]
    refine ⟨-2, n, s, t, ?_, rfl, hn, h⟩
    rcases hx with hx | hx
    · rw [if_pos hx]
    · by_cases h1 : x < 1
      · rw [if_pos h1]
      · rw [if_neg h1, if_neg hx]
