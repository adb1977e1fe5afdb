/-! edges; growth -/
def acr (c : Int64) : Int64 := (((hk_shl ((c &&& 2459565876494606882) &&& 1152657617789587455) 6) ||| (hk_ushr ((c &&& (-8608480567731124088)) &&& (-4222189076152336)) 6)) ||| (hk_shl (c &&& 4919131752989213764) 14)) ||| (hk_ushr (c &&& 1229782938247303441) 14)
def nxs (c : Int64) : Int64 := (hk_shl (c &&& 8608480567731124087) 1) ||| (hk_ushr (c &&& (-8608480567731124088)) 3)
theorem acr_f (c : Int64) : f_X0_acrossSides c = some (acr c) := rfl
theorem nxs_f (c : Int64) : f_X0_nextInSquare c = some (nxs c) := rfl
def bsN (j : Nat) : Nat := (besI j).toNatClampNeg
theorem bs_ok : ∀ j, j < 64 → (decide (besI j = -9) || (decide (besI j = nI (bsN j)) && decide (bsN j < 64))) = true := by decide +kernel
theorem ac1 : ∀ j, j < 64 → 6 ≤ j → bl 2459565876494606882 (j - 6) = true → bl 1152657617789587455 (j - 6) = true → (!decide (besI j = -9) && decide (bsN j = j - 6)) = true := by decide +kernel
theorem ac2 : ∀ j, j < 58 → bl (-8608480567731124088) (6 + j) = true → bl (-4222189076152336) (6 + j) = true → (!decide (besI j = -9) && decide (bsN j = 6 + j)) = true := by decide +kernel
theorem ac3 : ∀ j, j < 64 → 14 ≤ j → bl 4919131752989213764 (j - 14) = true → (!decide (besI j = -9) && decide (bsN j = j - 14)) = true := by decide +kernel
theorem ac4 : ∀ j, j < 50 → bl 1229782938247303441 (14 + j) = true → (!decide (besI j = -9) && decide (bsN j = 14 + j)) = true := by decide +kernel
theorem acB : ∀ j, j < 64 → (decide (besI j = -9) || ((decide (bsN j + 6 = j) && (bl 2459565876494606882 (bsN j) && bl 1152657617789587455 (bsN j))) || ((decide (bsN j = 6 + j) && (bl (-8608480567731124088) (bsN j) && bl (-4222189076152336) (bsN j))) || ((decide (bsN j + 14 = j) && bl 4919131752989213764 (bsN j)) || (decide (bsN j = 14 + j) && bl 1229782938247303441 (bsN j)))))) = true := by decide +kernel
theorem acr_bit (c : Int64) {j : Nat} (hj : j < 64) : bl (acr c) j = true ↔ ¬ besI j = -9 ∧ bl c (bsN j) = true := by
  unfold acr
  simp only [bl_or, i6, i14, bl_shl _ (show 6 < 64 by decide) hj, bl_shl _ (show 14 < 64 by decide) hj, bl_ushr _ (show 6 < 64 by decide), bl_ushr _ (show 14 < 64 by decide), bl_and, Bool.or_eq_true, Bool.and_eq_true, decide_eq_true_eq]
  constructor
  · rintro (((⟨a, ⟨b, d⟩, e⟩ | ⟨⟨b, d⟩, e⟩) | ⟨a, b, d⟩) | ⟨b, d⟩)
    · have h := ac1 j hj a d e
      simp only [Bool.and_eq_true, Bool.not_eq_true', decide_eq_false_iff_not, decide_eq_true_eq] at h
      exact ⟨h.1, by rw [h.2]; exact b⟩
    · have h := ac2 j (by have := bl_lt b; omega) d e
      simp only [Bool.and_eq_true, Bool.not_eq_true', decide_eq_false_iff_not, decide_eq_true_eq] at h
      exact ⟨h.1, by rw [h.2]; exact b⟩
    · have h := ac3 j hj a d
      simp only [Bool.and_eq_true, Bool.not_eq_true', decide_eq_false_iff_not, decide_eq_true_eq] at h
      exact ⟨h.1, by rw [h.2]; exact b⟩
    · have h := ac4 j (by have := bl_lt b; omega) d
      simp only [Bool.and_eq_true, Bool.not_eq_true', decide_eq_false_iff_not, decide_eq_true_eq] at h
      exact ⟨h.1, by rw [h.2]; exact b⟩
  · rintro ⟨hne, hb⟩
    have h := acB j hj
    simp only [Bool.or_eq_true, Bool.and_eq_true, decide_eq_true_eq] at h
    rcases h with h | ⟨e, d, d2⟩ | ⟨e, d, d2⟩ | ⟨e, d⟩ | ⟨e, d⟩
    · exact absurd h hne
    · rw [show bsN j = j - 6 by omega] at hb d d2
      exact Or.inl (Or.inl (Or.inl ⟨by omega, ⟨hb, d⟩, d2⟩))
    · rw [e] at hb d d2
      exact Or.inl (Or.inl (Or.inr ⟨⟨hb, d⟩, d2⟩))
    · rw [show bsN j = j - 14 by omega] at hb d
      exact Or.inl (Or.inr ⟨by omega, hb, d⟩)
    · rw [e] at hb d
      exact Or.inr ⟨hb, d⟩
def stE (c : Int64) (j : Nat) : Bool := bl (c &&& (acr c ^^^ (-1))) j
theorem x0_straight (c : Int64) : f_X0_straightEdges c = some (nI (fb_ct (stE c) 64)) := by
  unfold f_X0_straightEdges
  rw [acr_f, b1s, bitCount_popc, b1s]
  rfl
def nxt (i : Nat) : Nat := i - i % 4 + (i + 1) % 4
def prv (j : Nat) : Nat := j - j % 4 + (j % 4 + 3) % 4
theorem nx1 : ∀ j, j < 64 → 1 ≤ j → bl 8608480567731124087 (j - 1) = true → prv j = j - 1 := by decide +kernel
theorem nx2 : ∀ j, j < 61 → bl (-8608480567731124088) (3 + j) = true → prv j = 3 + j := by decide +kernel
theorem nxB : ∀ j, j < 64 → ((decide (prv j + 1 = j) && bl 8608480567731124087 (prv j)) || (decide (prv j = 3 + j) && bl (-8608480567731124088) (prv j))) = true := by decide +kernel
theorem nxs_bit (c : Int64) {j : Nat} (hj : j < 64) : bl (nxs c) j = bl c (prv j) := by
  have key : bl (nxs c) j = true ↔ bl c (prv j) = true := by
    unfold nxs
    simp only [bl_or, i1, i3, bl_shl _ (show 1 < 64 by decide) hj, bl_ushr _ (show 3 < 64 by decide), bl_and, Bool.or_eq_true, Bool.and_eq_true, decide_eq_true_eq]
    constructor
    · rintro (⟨a, b, d⟩ | ⟨b, d⟩)
      · rw [nx1 j hj a d]; exact b
      · rw [nx2 j (by have := bl_lt b; omega) d]; exact b
    · intro hb
      have h := nxB j hj
      simp only [Bool.or_eq_true, Bool.and_eq_true, decide_eq_true_eq] at h
      rcases h with ⟨e, d⟩ | ⟨e, d⟩
      · rw [show prv j = j - 1 by omega] at hb d
        exact Or.inl ⟨by omega, hb, d⟩
      · rw [e] at hb d
        exact Or.inr ⟨hb, d⟩
  cases h1 : bl (nxs c) j <;> cases h2 : bl c (prv j) <;> simp_all
def slE (c : Int64) (i : Nat) : Bool := bl c i ^^ bl c (nxt i)
theorem ct_4 {p q : Nat → Bool} : ∀ n, (∀ s, s < n → (if p (4 * s) then 1 else 0) + (if p (4 * s + 1) then 1 else 0) + (if p (4 * s + 2) then 1 else 0) + (if p (4 * s + 3) then 1 else 0) = (if q (4 * s) then 1 else 0) + (if q (4 * s + 1) then 1 else 0) + (if q (4 * s + 2) then 1 else 0) + (if q (4 * s + 3) then 1 else 0)) → fb_ct p (4 * n) = fb_ct q (4 * n)
  | 0, _ => rfl
  | n + 1, h => by
    rw [show 4 * (n + 1) = 4 * n + 1 + 1 + 1 + 1 by omega]
    simp only [fb_ct_succ]
    have ih := ct_4 n (fun s hs => h s (by omega))
    have h1 := h n (by omega)
    rw [ih]
    omega
theorem x0_slanting (c : Int64) : f_X0_slantingEdges c = some (nI (fb_ct (slE c) 64)) := by
  unfold f_X0_slantingEdges
  rw [nxs_f, b1s, bitCount_popc, b1s]
  congr 2
  unfold popc
  refine ct_4 16 (fun s hs => ?_)
  have e0 := nxs_bit c (show 4 * s < 64 by omega)
  have e1 := nxs_bit c (show 4 * s + 1 < 64 by omega)
  have e2 := nxs_bit c (show 4 * s + 2 < 64 by omega)
  have e3 := nxs_bit c (show 4 * s + 3 < 64 by omega)
  rw [show prv (4 * s) = 4 * s + 3 by unfold prv; omega] at e0
  rw [show prv (4 * s + 1) = 4 * s by unfold prv; omega] at e1
  rw [show prv (4 * s + 2) = 4 * s + 1 by unfold prv; omega] at e2
  rw [show prv (4 * s + 3) = 4 * s + 2 by unfold prv; omega] at e3
  unfold slE
  rw [bl_xor, bl_xor, bl_xor, bl_xor, e0, e1, e2, e3, show nxt (4 * s) = 4 * s + 1 by unfold nxt; omega, show nxt (4 * s + 1) = 4 * s + 2 by unfold nxt; omega, show nxt (4 * s + 2) = 4 * s + 3 by unfold nxt; omega, show nxt (4 * s + 3) = 4 * s by unfold nxt; omega]
  cases bl c (4 * s) <;> cases bl c (4 * s + 1) <;> cases bl c (4 * s + 2) <;> cases bl c (4 * s + 3) <;> rfl
theorem has_bes (c : Int64) {j : Nat} (hj : j < 64) (h : ¬ besI j = -9) : f_X8_has c (besI j) = some (if bl c (bsN j) = true then 1 else 0) := by
  have := bs_ok j hj
  simp only [Bool.or_eq_true, Bool.and_eq_true, decide_eq_true_eq] at this
  rcases this with q | ⟨q, q2⟩
  · exact absurd q h
  · rw [q]; exact has_nI c q2
theorem x8_straight {b : Nat → Int64} {j : Nat} (hj : j < 8) : hk_wl (st_X8_edges_14 b (nI j) 0) hkF ((0 : Int32), (0 : Int32)) = some (nI (fb_ct (stE (b j)) 64)) := by
  have e := wl_for0 (f := st_X8_edges_14 b (nI j) 0) (fun i => (nI (fb_ct (stE (b j)) i), nI i)) (e := 64) (r := nI (fb_ct (stE (b j)) 64)) (by
    intro i hi
    show st_X8_edges_14c b (nI j) 0 (nI (fb_ct (stE (b j)) i)) (nI i) = _
    unfold st_X8_edges_14c
    simp only [i64, if_neg (nI_ge hi (show 64 < 2 ^ 31 by decide)), inb_nI hj (show 8 < 2 ^ 31 by decide), gds, cl_nI (show j < 2 ^ 31 by omega), has_nI _ hi, bes_d i hi, b1s, hk_let, if_true, i1, nI_add, fb_ct_succ]
    have hs : stE (b j) i = true ↔ bl (b j) i = true ∧ (besI i = -9 ∨ ¬ bl (b j) (bsN i) = true) := by
      unfold stE
      rw [bl_and, bl_not _ hi, Bool.and_eq_true, Bool.not_eq_true', ← Bool.not_eq_true, acr_bit _ hi]
      by_cases q : besI i = -9 <;> simp [q]
    by_cases h1 : bl (b j) i = true
    · by_cases h2 : besI i = -9
      · rw [if_pos (hs.mpr ⟨h1, Or.inl h2⟩)]
        simp [h1, h2, b1s, show ¬ nI 1 = (0 : Int32) by decide, nI_add]
      · by_cases h3 : bl (b j) (bsN i) = true
        · have hn : ¬ stE (b j) i = true := fun q => by
            rcases (hs.mp q).2 with q | q
            · exact h2 q
            · exact q h3
          rw [if_neg hn, has_bes _ hi h2]
          simp [h1, h2, h3, b1s, show ¬ nI 1 = (0 : Int32) by decide]
        · rw [if_pos (hs.mpr ⟨h1, Or.inr h3⟩), has_bes _ hi h2]
          simp [h1, h2, h3, b1s, show ¬ nI 1 = (0 : Int32) by decide, nI_add]
    · have hn : ¬ stE (b j) i = true := fun q => h1 (hs.mp q).1
      rw [if_neg hn]
      simp [h1, b1s]) (by
    show st_X8_edges_14c b (nI j) 0 (nI (fb_ct (stE (b j)) 64)) (nI 64) = _
    unfold st_X8_edges_14c
    rw [i64, if_pos (by decide)]) (by decide)
  exact e
theorem x8_slanting {b : Nat → Int64} {j : Nat} (hj : j < 8) {x : Int32} (hx : ¬ x = 0) : hk_wl (st_X8_edges_14 b (nI j) x) hkF ((0 : Int32), (0 : Int32)) = some (nI (fb_ct (slE (b j)) 64)) := by
  have e := wl_for0 (f := st_X8_edges_14 b (nI j) x) (fun i => (nI (fb_ct (slE (b j)) i), nI i)) (e := 64) (r := nI (fb_ct (slE (b j)) 64)) (by
    intro i hi
    have hm : i % 4 ≤ i := Nat.mod_le _ _
    show st_X8_edges_14c b (nI j) x (nI (fb_ct (slE (b j)) i)) (nI i) = _
    unfold st_X8_edges_14c
    have en : (nI i - hk_rem (nI i) (nI 4)) + hk_rem (nI (i + 1)) (nI 4) = nI (nxt i) := by
      rw [rem_nI (by omega) (by decide) (by decide), rem_nI (by omega) (by decide) (by decide), pk_sub hm, nI_add]; rfl
    have hnx : nxt i < 64 := by unfold nxt; omega
    simp only [i64, if_neg (nI_ge hi (show 64 < 2 ^ 31 by decide)), inb_nI hj (show 8 < 2 ^ 31 by decide), gds, cl_nI (show j < 2 ^ 31 by omega), has_nI _ hi, bes_d i hi, b1s, hk_let, if_neg hx, i1, i4, en, has_nI _ hnx, nI_add, fb_ct_succ]
    have hsl : slE (b j) i = (bl (b j) i ^^ bl (b j) (nxt i)) := rfl
    rw [hsl]
    cases bl (b j) i <;> cases bl (b j) (nxt i) <;> simp [show ¬ nI 1 = (0 : Int32) by decide, show ¬ (0 : Int32) = nI 1 by decide, nI_add]) (by
    show st_X8_edges_14c b (nI j) x (nI (fb_ct (slE (b j)) 64)) (nI 64) = _
    unfold st_X8_edges_14c
    rw [i64, if_pos (by decide)]) (by decide)
  exact e
theorem pr_edges {a b : Nat → Int64} (h : fe a b) (x y : Int32) : ∃ r, f_X7_edges a x y = some r ∧ f_X8_edges b x y = some r := by
  unfold f_X7_edges f_X8_edges
  rcases ix_cases x 8 (by decide) with ⟨j, hj, rfl⟩ | hx
  · rw [noF_0 hj, isF_1 hj, b1s, b1s]
    simp only [if_true, if_neg ne_1_0, inb_nI hj (show 8 < 2 ^ 31 by decide), gds, cl_nI (show j < 2 ^ 31 by omega), hk_let, h j hj, x0_straight, x0_slanting, b1s]
    by_cases hy : y = 0
    · subst hy
      rw [if_pos rfl, x8_straight hj, b1s]
      exact ⟨_, rfl, rfl⟩
    · rw [if_neg hy, x8_slanting hj hy, b1s]
      exact ⟨_, rfl, rfl⟩
  · rw [noF_1 hx, isF_0 hx, b1s, b1s]
    exact ⟨-1, by simp, by simp⟩
