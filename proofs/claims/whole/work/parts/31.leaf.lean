/-! small functions of both sides -/
theorem i0 : (0 : Int32) = nI 0 := rfl
theorem i1 : (1 : Int32) = nI 1 := rfl
theorem i2 : (2 : Int32) = nI 2 := rfl
theorem i3 : (3 : Int32) = nI 3 := rfl
theorem i4 : (4 : Int32) = nI 4 := rfl
theorem i5 : (5 : Int32) = nI 5 := rfl
theorem i6 : (6 : Int32) = nI 6 := rfl
theorem i7 : (7 : Int32) = nI 7 := rfl
theorem i8 : (8 : Int32) = nI 8 := rfl
theorem i9 : (9 : Int32) = nI 9 := rfl
theorem i10 : (10 : Int32) = nI 10 := rfl
theorem i14 : (14 : Int32) = nI 14 := rfl
theorem i15 : (15 : Int32) = nI 15 := rfl
theorem i16 : (16 : Int32) = nI 16 := rfl
theorem i24 : (24 : Int32) = nI 24 := rfl
theorem i25 : (25 : Int32) = nI 25 := rfl
theorem i26 : (26 : Int32) = nI 26 := rfl
theorem i32 : (32 : Int32) = nI 32 := rfl
theorem i48 : (48 : Int32) = nI 48 := rfl
theorem i49 : (49 : Int32) = nI 49 := rfl
theorem i57 : (57 : Int32) = nI 57 := rfl
theorem i63 : (63 : Int32) = nI 63 := rfl
theorem i64 : (64 : Int32) = nI 64 := rfl
theorem i87 : (87 : Int32) = nI 87 := rfl
theorem i97 : (97 : Int32) = nI 97 := rfl
theorem i102 : (102 : Int32) = nI 102 := rfl
theorem i255 : (255 : Int32) = nI 255 := rfl
theorem i384 : (384 : Int32) = nI 384 := rfl
theorem i400 : (400 : Int32) = nI 400 := rfl
theorem i1600 : (1600 : Int32) = nI 1600 := rfl
theorem i96 : (96 : Int32) = nI 96 := rfl
theorem b1s {A R : Type} (a : A) (f : A → Option R) : hk_b1 (some a) f = f a := rfl
theorem b2s {A B R : Type} (a : A) (b : B) (f : A → B → Option R) : hk_b2 (some (a, b)) f = f a b := rfl
theorem b3s {A B C R : Type} (a : A) (b : B) (c : C) (f : A → B → C → Option R) : hk_b3 (some (a, b, c)) f = f a b c := rfl
theorem b4s {A B C D R : Type} (a : A) (b : B) (c : C) (d : D) (f : A → B → C → D → Option R) : hk_b4 (some (a, b, c, d)) f = f a b c d := rfl
theorem b5s {A B C D E R : Type} (a : A) (b : B) (c : C) (d : D) (e : E) (f : A → B → C → D → E → Option R) : hk_b5 (some (a, b, c, d, e)) f = f a b c d e := rfl
theorem b6s {A B C D E F R : Type} (a : A) (b : B) (c : C) (d : D) (e : E) (g : F) (f : A → B → C → D → E → F → Option R) : hk_b6 (some (a, b, c, d, e, g)) f = f a b c d e g := rfl
theorem b7s {A B C D E F G R : Type} (a : A) (b : B) (c : C) (d : D) (e : E) (g : F) (i : G) (f : A → B → C → D → E → F → G → Option R) : hk_b7 (some (a, b, c, d, e, g, i)) f = f a b c d e g i := rfl
theorem gds {A : Type} (x : Option A) : hk_gd true x = x := rfl
theorem inb_nI {j N : Nat} (h : j < N) (hN : N < 2 ^ 31) : hk_inb (nI j) N = true := decide_eq_true (vp_in_nI h hN)
theorem cl_nI {j : Nat} (h : j < 2 ^ 31) : (nI j).toNatClampNeg = j := nI_clamp h
theorem isb0 : hk_isb 0 = true := rfl
theorem isb1 : hk_isb 1 = true := rfl
theorem upd_s {f : Nat → Int32} {k : Nat} {x : Int32} : upd f k x k = x := pk_us
theorem updL_s {f : Nat → Int64} {k : Nat} {x : Int64} : vp_updL f k x k = x := pk_uLs
theorem nI_ge64 {i : Nat} (hi : i < 2 ^ 31) (n : Nat) (hn : n < 2 ^ 31) : nI n ≤ nI i ↔ n ≤ i := nI_leI hn hi
theorem in_1 {x lo hi : Int64} (h1 : lo ≤ x) (h2 : x ≤ hi) : f_X8_in x lo hi = some 1 := by
  unfold f_X8_in
  rw [if_neg (by rw [fa_lt64]; rw [fa_le64] at h1; omega), if_neg (by rw [fa_lt64]; rw [fa_le64] at h2; omega)]
theorem in_0 {x lo hi : Int64} (h : x < lo ∨ hi < x) : f_X8_in x lo hi = some 0 := by
  unfold f_X8_in
  by_cases h1 : x < lo
  · rw [if_pos h1]
  · rw [if_neg h1, if_pos (h.resolve_left h1)]
/-- an int between 0 and n - 1, or not -/
theorem ix_cases (x : Int32) (n : Nat) (hn : n < 2 ^ 31) : (∃ j, j < n ∧ x = nI j) ∨ (x < 0 ∨ nI n ≤ x) := by
  rcases pk_ix x hn with h | h | h
  · exact Or.inr (Or.inl h)
  · exact Or.inr (Or.inr h)
  · exact Or.inl h
theorem in_nI {j n : Nat} (h : j ≤ n) (hn : n < 2 ^ 31) : f_X8_in (nI j).toInt64 0 (lN n) = some 1 := by
  rw [nI_l (show j < 2 ^ 31 by omega)]
  exact in_1 ((lN_le (by decide) (by omega)).mpr (Nat.zero_le j)) ((lN_le (by omega) hn).mpr h)
theorem in_out {x : Int32} {n : Nat} (hn : n + 1 < 2 ^ 31) (h : x < 0 ∨ nI (n + 1) ≤ x) : f_X8_in x.toInt64 0 (lN n) = some 0 := by
  apply in_0
  rcases h with h | h
  · left
    rw [show (0 : Int64) = (0 : Int32).toInt64 from rfl, fa_wide_lt]; exact h
  · right
    rw [fa_lt64, lN_toInt (by omega), Int32.toInt_toInt64]
    rw [fa_le, nI_toInt hn] at h
    omega
theorem isF_1 {j : Nat} (h : j < 8) : f_X8_isFigure (nI j) = some 1 := by
  unfold f_X8_isFigure
  rw [show (7 : Int64) = lN 7 from rfl, in_nI (show j ≤ 7 by omega) (by decide), b1s, isb1, gds]
theorem isF_0 {x : Int32} (h : x < 0 ∨ nI 8 ≤ x) : f_X8_isFigure x = some 0 := by
  unfold f_X8_isFigure
  rw [show (7 : Int64) = lN 7 from rfl, in_out (by decide) h, b1s, isb0, gds]
theorem noF_0 {j : Nat} (h : j < 8) : f_X7_noFigure (nI j) = some 0 := by
  unfold f_X7_noFigure
  have h1 : ¬ nI j < 0 := nI_pos (by omega)
  have h2 : nI j < 8 := by rw [i8]; exact nI_lt h (by decide)
  simp [h1, h2]
theorem noF_1 {x : Int32} (h : x < 0 ∨ nI 8 ≤ x) : f_X7_noFigure x = some 1 := by
  unfold f_X7_noFigure
  by_cases h1 : x < 0
  · simp [h1]
  · have h2 : ¬ x < 8 := by
      rw [i8]
      have := h.resolve_left h1
      rw [fa_lt]; rw [fa_le] at this; omega
    simp [h1, h2]
theorem has_nI (x : Int64) {k : Nat} (hk : k < 64) : f_X8_has x (nI k) = some (if bl x k = true then 1 else 0) := by
  unfold f_X8_has
  rw [and1, bl_shr0 x hk]
  cases bl x k <;> simp
theorem hkF_pos : 100 < hkF := by unfold hkF; omega
theorem ones_popc (x : Int64) : f_X8_ones x = some (nI (popc x)) := by
  unfold f_X8_ones
  have h := wl_for0 (f := st_X8_ones_4 x) (fun i => (nI (fb_ct (bl x) i), nI i)) (e := 64) (r := nI (fb_ct (bl x) 64)) (by
    intro i hi
    show st_X8_ones_4c x (nI (fb_ct (bl x) i)) (nI i) = _
    unfold st_X8_ones_4c
    rw [i64, if_neg (by rw [nI_leI (by decide) (by omega)]; omega), and1, bl_shr0 x hi]
    simp only [hk_let, fb_ct_succ]
    cases hb : bl x i
    · simp only [Bool.false_eq_true, if_false, Nat.add_zero]
      rw [show ((0 : Int64).toInt32) = nI 0 from rfl, show (1 : Int32) = nI 1 from rfl, nI_add, nI_add, Nat.add_zero]
    · simp only [if_true]
      rw [show ((1 : Int64).toInt32) = nI 1 from rfl, show (1 : Int32) = nI 1 from rfl, nI_add, nI_add]) (by
    show st_X8_ones_4c x (nI (fb_ct (bl x) 64)) (nI 64) = _
    unfold st_X8_ones_4c
    rw [i64, if_pos (by rw [nI_leI (by decide) (by decide)]; omega)]) (by decide)
  have h2 : hk_wl (st_X8_ones_4 x) hkF ((0 : Int32), (0 : Int32)) = some (nI (fb_ct (bl x) 64)) := h
  rw [h2, b1s]
  rfl
