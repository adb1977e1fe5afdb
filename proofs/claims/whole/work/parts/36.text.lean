/-! the text: write, fault, word, sign -/
def bi (x : Int32) (i : Nat) : Bool := x.toBitVec.getLsbD i
theorem bi_ext {x y : Int32} (h : ∀ i, i < 32 → bi x i = bi y i) : x = y := Int32.toBitVec_inj.mp (BitVec.eq_of_getLsbD_eq h)
theorem bi_and (x y : Int32) (i : Nat) : bi (x &&& y) i = (bi x i && bi y i) := by unfold bi; rw [Int32.toBitVec_and, BitVec.getLsbD_and]
theorem bi_or (x y : Int32) (i : Nat) : bi (x ||| y) i = (bi x i || bi y i) := by unfold bi; rw [Int32.toBitVec_or, BitVec.getLsbD_or]
theorem bi_nI (n i : Nat) (h : n < 2 ^ 32) : bi (nI n) i = n.testBit i := by
  show (BitVec.ofNat 32 n).getLsbD i = _
  rw [BitVec.getLsbD_ofNat]
  by_cases hi : i < 32
  · simp [hi]
  · have : n.testBit i = false := Nat.testBit_lt_two_pow (Nat.lt_of_lt_of_le h (Nat.pow_le_pow_right (by decide) (by omega)))
    simp [hi, this]
theorem bi_l2i (x : Int64) {i : Nat} (hi : i < 32) : bi x.toInt32 i = bl x i := by
  show (x.toBitVec.signExtend 32).getLsbD i = x.toBitVec.getLsbD i
  rw [BitVec.getLsbD_signExtend]
  simp [hi, show i < 64 by omega]
theorem low_eq (x : Int64) {k b : Nat} (hk : k + b ≤ 64) (hb : b ≤ 31) : ((hk_ushr x (nI k)).toInt32) &&& nI (2 ^ b - 1) = ((hk_shr x (nI k)) &&& lN (2 ^ b - 1)).toInt32 := by
  by_cases h0 : b = 0
  · subst h0
    rw [show (2 ^ 0 - 1 : Nat) = 0 from rfl, show nI 0 = 0 from rfl, show lN 0 = 0 from rfl]
    simp
  have hp : 2 ^ b ≤ 2 ^ 31 := Nat.pow_le_pow_right (by decide) hb
  have hp2 : (2 ^ 31 : Nat) = 2147483648 := by decide
  have hp3 : (2 ^ 64 : Nat) = 18446744073709551616 := by decide
  have hp4 : (2 ^ 32 : Nat) = 4294967296 := by decide
  apply bi_ext
  intro i hi
  rw [bi_and, bi_l2i _ hi, bi_l2i _ hi, bl_and, bi_nI _ _ (by omega), bl_lN _ _ (by omega), Nat.testBit_two_pow_sub_one, bl_ushr x (by omega)]
  by_cases h : i < b
  · rw [bl_shr x (by omega) (by omega)]
  · simp [h]
theorem in_rng {j lo hi : Nat} (hj : j < 2 ^ 31) (h1 : lo < 2 ^ 31) (h2 : hi < 2 ^ 31) : f_X8_in (nI j).toInt64 (lN lo) (lN hi) = some (if lo ≤ j ∧ j ≤ hi then 1 else 0) := by
  rw [nI_l hj]
  by_cases h : lo ≤ j ∧ j ≤ hi
  · rw [in_1 ((lN_le h1 hj).mpr h.1) ((lN_le hj h2).mpr h.2), if_pos h]
  · rw [in_0 (by rw [lN_lt hj h1, lN_lt h2 hj]; omega), if_neg h]
theorem val_cases (v : Int32) : (∃ d, d < 16 ∧ f_X6_valueOf v = some (nI d) ∧ f_X8_valueOf v = some (nI d)) ∨ (f_X6_valueOf v = some (-1) ∧ f_X8_valueOf v = some (-9)) := by
  unfold f_X6_valueOf f_X8_valueOf
  by_cases hn : v < 0
  · right
    have h1 : v < 48 := by rw [fa_lt] at hn ⊢; rw [show (48 : Int32).toInt = 48 from rfl]; rw [show (0 : Int32).toInt = 0 from rfl] at hn; omega
    have h2 : v < 97 := by rw [fa_lt] at hn ⊢; rw [show (97 : Int32).toInt = 97 from rfl]; rw [show (0 : Int32).toInt = 0 from rfl] at hn; omega
    have g1 : f_X8_in v.toInt64 48 57 = some 0 := in_0 (Or.inl (by rw [show (48 : Int64) = (48 : Int32).toInt64 from rfl, fa_wide_lt]; exact h1))
    have g2 : f_X8_in v.toInt64 97 102 = some 0 := in_0 (Or.inl (by rw [show (97 : Int64) = (97 : Int32).toInt64 from rfl, fa_wide_lt]; exact h2))
    simp [h1, h2, g1, g2, b1s]
  · obtain ⟨j, hj, rfl⟩ := nI_of hn
    rw [show (48 : Int64) = lN 48 from rfl, show (57 : Int64) = lN 57 from rfl, show (97 : Int64) = lN 97 from rfl, show (102 : Int64) = lN 102 from rfl, in_rng hj (by decide) (by decide), in_rng hj (by decide) (by decide)]
    simp only [b1s, i48, i57, i97, i102, i87, i10, nI_ltI hj (show 48 < 2 ^ 31 by decide), nI_ltI hj (show 97 < 2 ^ 31 by decide), nI_ltI (show 57 < 2 ^ 31 by decide) hj, nI_ltI (show 102 < 2 ^ 31 by decide) hj]
    rcases Nat.lt_or_ge j 48 with h | h
    · right; simp [h, show j < 97 by omega, show ¬ 48 ≤ j by omega, show ¬ 97 ≤ j by omega]
    rcases Nat.lt_or_ge 57 j with h2 | h2
    · rcases Nat.lt_or_ge j 97 with h3 | h3
      · right; simp [h2, h3, show ¬ j < 48 by omega, show ¬ j ≤ 57 by omega, show ¬ 97 ≤ j by omega]
      rcases Nat.lt_or_ge 102 j with h4 | h4
      · right; simp [h2, h4, show ¬ j < 48 by omega, show ¬ j < 97 by omega, show ¬ j ≤ 57 by omega, show ¬ j ≤ 102 by omega]
      · left
        refine ⟨j - 87, by omega, ?_, ?_⟩
        · simp only [if_neg (show ¬ j < 48 by omega), if_pos h2, if_neg (show ¬ j < 97 by omega), if_neg (show ¬ 102 < j by omega)]
          rw [pk_sub h3, nI_add, show j - 97 + 10 = j - 87 by omega]
        · simp only [if_neg (show ¬ (48 ≤ j ∧ j ≤ 57) by omega), if_pos (show 97 ≤ j ∧ j ≤ 102 from ⟨h3, h4⟩), if_pos, if_neg (show ¬ (1 : Int32) = 0 by decide)]
          rw [pk_sub (by omega)]
    · left
      refine ⟨j - 48, by omega, ?_, ?_⟩
      · simp only [if_neg (show ¬ j < 48 by omega), if_neg (show ¬ 57 < j by omega)]
        rw [pk_sub h]
      · simp only [if_pos (show 48 ≤ j ∧ j ≤ 57 from ⟨h, h2⟩), if_neg (show ¬ (1 : Int32) = 0 by decide)]
        rw [pk_sub h]
