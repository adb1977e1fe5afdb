/-! neighbours, and parts as closed sets -/
def adj (i j : Nat) : Bool := bl (nearT i) j
def nbr (c : Int64) : Int64 := ((((hk_shl (c &&& 8608480567731124087) 1) ||| (hk_ushr (c &&& (-8608480567731124088)) 3)) ||| ((hk_ushr (c &&& (-1229782938247303442)) 1) ||| (hk_shl (c &&& 1229782938247303441) 3)))) ||| ((((hk_shl ((c &&& 2459565876494606882) &&& 1152657617789587455) 6) ||| (hk_ushr ((c &&& (-8608480567731124088)) &&& (-4222189076152336)) 6)) ||| (hk_shl (c &&& 4919131752989213764) 14)) ||| (hk_ushr (c &&& 1229782938247303441) 14))
theorem nbr_f (c : Int64) : f_X0_neighbours c = some (nbr c) := rfl
theorem adj_sym : ∀ i, i < 64 → ∀ j, j < 64 → adj i j = adj j i := by decide +kernel
theorem adj_irr : ∀ i, i < 64 → adj i i = false := by decide +kernel
theorem nb1 : ∀ j, j < 64 → 1 ≤ j → bl 8608480567731124087 (j - 1) = true → adj (j - 1) j = true := by decide +kernel
theorem nb2 : ∀ j, j < 61 → bl (-8608480567731124088) (3 + j) = true → adj (3 + j) j = true := by decide +kernel
theorem nb3 : ∀ j, j < 63 → bl (-1229782938247303442) (1 + j) = true → adj (1 + j) j = true := by decide +kernel
theorem nb4 : ∀ j, j < 64 → 3 ≤ j → bl 1229782938247303441 (j - 3) = true → adj (j - 3) j = true := by decide +kernel
theorem nb5 : ∀ j, j < 64 → 6 ≤ j → bl 2459565876494606882 (j - 6) = true → bl 1152657617789587455 (j - 6) = true → adj (j - 6) j = true := by decide +kernel
theorem nb6 : ∀ j, j < 58 → bl (-8608480567731124088) (6 + j) = true → bl (-4222189076152336) (6 + j) = true → adj (6 + j) j = true := by decide +kernel
theorem nb7 : ∀ j, j < 64 → 14 ≤ j → bl 4919131752989213764 (j - 14) = true → adj (j - 14) j = true := by decide +kernel
theorem nb8 : ∀ j, j < 50 → bl 1229782938247303441 (14 + j) = true → adj (14 + j) j = true := by decide +kernel
theorem nb_allB : ∀ i, i < 64 → ∀ j, j < 64 → (!adj i j || ((decide (i + 1 = j) && bl 8608480567731124087 i) || ((decide (i = 3 + j) && bl (-8608480567731124088) i) || ((decide (i = 1 + j) && bl (-1229782938247303442) i) || ((decide (i + 3 = j) && bl 1229782938247303441 i) || ((decide (i + 6 = j) && (bl 2459565876494606882 i && bl 1152657617789587455 i)) || ((decide (i = 6 + j) && (bl (-8608480567731124088) i && bl (-4222189076152336) i)) || ((decide (i + 14 = j) && bl 4919131752989213764 i) || (decide (i = 14 + j) && bl 1229782938247303441 i))))))))) = true := by decide +kernel
theorem nb_all (i : Nat) (hi : i < 64) (j : Nat) (hj : j < 64) (h : adj i j = true) : (i + 1 = j ∧ bl 8608480567731124087 i = true) ∨ (i = 3 + j ∧ bl (-8608480567731124088) i = true) ∨ (i = 1 + j ∧ bl (-1229782938247303442) i = true) ∨ (i + 3 = j ∧ bl 1229782938247303441 i = true) ∨ (i + 6 = j ∧ bl 2459565876494606882 i = true ∧ bl 1152657617789587455 i = true) ∨ (i = 6 + j ∧ bl (-8608480567731124088) i = true ∧ bl (-4222189076152336) i = true) ∨ (i + 14 = j ∧ bl 4919131752989213764 i = true) ∨ (i = 14 + j ∧ bl 1229782938247303441 i = true) := by
  have h1 := nb_allB i hi j hj
  rw [h] at h1
  simpa only [Bool.not_true, Bool.false_or, Bool.or_eq_true, Bool.and_eq_true, decide_eq_true_eq] using h1
theorem bl_lt {x : Int64} {i : Nat} (h : bl x i = true) : i < 64 := by
  rcases Nat.lt_or_ge i 64 with h1 | h1
  · exact h1
  · rw [bl_big h1] at h; cases h
theorem nbr_bit (c : Int64) {j : Nat} (hj : j < 64) : bl (nbr c) j = true ↔ ∃ i, i < 64 ∧ bl c i = true ∧ adj i j = true := by
  unfold nbr
  simp only [bl_or, i1, i3, i6, i14, bl_shl _ (show 1 < 64 by decide) hj, bl_shl _ (show 3 < 64 by decide) hj, bl_shl _ (show 6 < 64 by decide) hj, bl_shl _ (show 14 < 64 by decide) hj, bl_ushr _ (show 1 < 64 by decide), bl_ushr _ (show 3 < 64 by decide), bl_ushr _ (show 6 < 64 by decide), bl_ushr _ (show 14 < 64 by decide), bl_and, Bool.or_eq_true, Bool.and_eq_true, decide_eq_true_eq]
  constructor
  · intro h
    rcases h with (((⟨a, b, d⟩ | ⟨b, d⟩) | (⟨b, d⟩ | ⟨a, b, d⟩)) | (((⟨a, ⟨b, d⟩, e⟩ | ⟨⟨b, d⟩, e⟩) | ⟨a, b, d⟩) | ⟨b, d⟩))
    · exact ⟨j - 1, by omega, b, nb1 j hj a d⟩
    · exact ⟨3 + j, bl_lt b, b, nb2 j (by have := bl_lt b; omega) d⟩
    · exact ⟨1 + j, bl_lt b, b, nb3 j (by have := bl_lt b; omega) d⟩
    · exact ⟨j - 3, by omega, b, nb4 j hj a d⟩
    · exact ⟨j - 6, by omega, b, nb5 j hj a d e⟩
    · exact ⟨6 + j, bl_lt b, b, nb6 j (by have := bl_lt b; omega) d e⟩
    · exact ⟨j - 14, by omega, b, nb7 j hj a d⟩
    · exact ⟨14 + j, bl_lt b, b, nb8 j (by have := bl_lt b; omega) d⟩
  · rintro ⟨i, hi, b, hn⟩
    rcases nb_all i hi j hj hn with ⟨e, d⟩ | ⟨e, d⟩ | ⟨e, d⟩ | ⟨e, d⟩ | ⟨e, d, d2⟩ | ⟨e, d, d2⟩ | ⟨e, d⟩ | ⟨e, d⟩
    · have : i = j - 1 := by omega
      subst this
      exact Or.inl (Or.inl (Or.inl ⟨by omega, b, d⟩))
    · subst e; exact Or.inl (Or.inl (Or.inr ⟨b, d⟩))
    · subst e; exact Or.inl (Or.inr (Or.inl ⟨b, d⟩))
    · have : i = j - 3 := by omega
      subst this
      exact Or.inl (Or.inr (Or.inr ⟨by omega, b, d⟩))
    · have : i = j - 6 := by omega
      subst this
      exact Or.inr (Or.inl (Or.inl (Or.inl ⟨by omega, ⟨b, d⟩, d2⟩)))
    · subst e; exact Or.inr (Or.inl (Or.inl (Or.inr ⟨⟨b, d⟩, d2⟩)))
    · have : i = j - 14 := by omega
      subst this
      exact Or.inr (Or.inl (Or.inr ⟨by omega, b, d⟩))
    · subst e; exact Or.inr (Or.inr ⟨b, d⟩)
/-- a set in another -/
def sbs (a b : Int64) : Prop := ∀ i, i < 64 → bl a i = true → bl b i = true
theorem sbs_rf (a : Int64) : sbs a a := fun _ _ h => h
theorem sbs_tr {a b c : Int64} (h1 : sbs a b) (h2 : sbs b c) : sbs a c := fun i hi h => h2 i hi (h1 i hi h)
theorem sbs_as {a b : Int64} (h1 : sbs a b) (h2 : sbs b a) : a = b := bl_ext (fun i hi => by
  cases ha : bl a i with
  | true => rw [h1 i hi ha]
  | false =>
    cases hb : bl b i with
    | true => rw [h2 i hi hb] at ha; cases ha
    | false => rfl)
theorem popc_mono {a b : Int64} (h : sbs a b) : popc a ≤ popc b := fb_ct_sub (fun k hk => h k hk)
theorem popc_split (a b : Int64) : popc (a &&& b) + popc (a &&& (b ^^^ (-1))) = popc a := by
  have h := fb_ct_or (p := bl (a &&& b)) (q := bl (a &&& (b ^^^ (-1)))) (n := 64) (fun k hk => by
    rw [bl_and, bl_and, bl_not _ hk]
    cases bl a k <;> cases bl b k <;> simp)
  unfold popc
  rw [← h]
  exact fb_ct_cong (fun k hk => by
    rw [bl_and, bl_and, bl_not _ hk]
    cases bl a k <;> cases bl b k <;> simp)
theorem popc_lt {a b : Int64} (h : sbs a b) (hn : ¬ a = b) : popc a < popc b := by
  have h1 := popc_split b a
  have h2 : b &&& a = a := bl_ext (fun i hi => by
    rw [bl_and]
    cases ha : bl a i with
    | true => rw [h i hi ha]; rfl
    | false => rw [Bool.and_false])
  rw [h2] at h1
  have h3 : ¬ popc (b &&& (a ^^^ (-1))) = 0 := by
    rw [popc_eq0]
    intro e
    apply hn
    refine sbs_as h (fun i hi hb => ?_)
    have := (bl_eq0 _).mp e i hi
    rw [bl_and, bl_not _ hi, hb] at this
    simpa using this
  omega
def clo (f p : Int64) : Prop := ∀ i j, i < 64 → j < 64 → bl p i = true → adj i j = true → bl f j = true → bl p j = true
/-- the part of f in which cell k lies -/
def isC (f : Int64) (k : Nat) (p : Int64) : Prop := bl p k = true ∧ sbs p f ∧ clo f p ∧ ∀ q, bl q k = true → clo f q → sbs p q
theorem isC_one {f : Int64} {k : Nat} {p q : Int64} (h1 : isC f k p) (h2 : isC f k q) : p = q := sbs_as (h1.2.2.2 q h2.1 h2.2.2.1) (h2.2.2.2 p h1.1 h1.2.2.1)
/-- one pass of the reference over all cells -/
def pas (f : Int64) (p : Int64) : Nat → Int64
  | 0 => p
  | i + 1 => pas f p i ||| (if bl (pas f p i) i = true then nearT i &&& f else 0)
theorem x8_pas {nr : Nat → Int64} (hn : ∀ i, i < 64 → nr i = nearT i) (f p : Int64) : hk_wl (st_X8_partAt_23 nr f) hkF (p, (0 : Int32)) = some (pas f p 64) := by
  have e := wl_for0 (f := st_X8_partAt_23 nr f) (fun i => (pas f p i, nI i)) (e := 64) (r := pas f p 64) (by
    intro i hi
    show st_X8_partAt_23c nr f (pas f p i) (nI i) = _
    unfold st_X8_partAt_23c
    rw [i64, if_neg (nI_ge hi (by decide)), has_nI _ hi, b1s]
    simp only [inb_nI hi (show 64 < 2 ^ 31 by decide), gds, cl_nI (show i < 2 ^ 31 by omega), hk_let, i1, nI_add, hn i hi, pas]
    cases hb : bl (pas f p i) i with
    | true =>
      simp only [if_true]
      rw [if_neg (by decide), b1s]
    | false =>
      simp only [Bool.false_eq_true, if_false, if_true]
      rw [b1s]) (by
    show st_X8_partAt_23c nr f (pas f p 64) (nI 64) = _
    unfold st_X8_partAt_23c
    rw [i64, if_pos (by decide)]) (by decide)
  exact e
theorem pas_up (f p : Int64) : ∀ i, sbs p (pas f p i)
  | 0 => sbs_rf p
  | i + 1 => fun k hk h => by
    show bl (pas f p i ||| _) k = true
    rw [bl_or, pas_up f p i k hk h]; rfl
theorem pas_mono (f p : Int64) (i : Nat) : ∀ d, sbs (pas f p i) (pas f p (i + d))
  | 0 => sbs_rf _
  | d + 1 => fun k hk h => by
    show bl (pas f p (i + d) ||| _) k = true
    rw [bl_or, pas_mono f p i d k hk h]; rfl
theorem pas_least {f p q : Int64} (hq : clo f q) (h : sbs p q) : ∀ i, i ≤ 64 → sbs (pas f p i) q
  | 0, _ => h
  | i + 1, hi => fun k hk hb => by
    have hb : bl (pas f p i ||| (if bl (pas f p i) i = true then nearT i &&& f else 0)) k = true := hb
    rw [bl_or, Bool.or_eq_true] at hb
    rcases hb with hb | hb
    · exact pas_least hq h i (by omega) k hk hb
    · by_cases c : bl (pas f p i) i = true
      · rw [if_pos c, bl_and, Bool.and_eq_true] at hb
        exact hq i k (by omega) hk (pas_least hq h i (by omega) i (by omega) c) hb.1 hb.2
      · rw [if_neg c, bl_0] at hb; cases hb
theorem pas_in {f p : Int64} (h : sbs p f) : ∀ i, sbs (pas f p i) f
  | 0 => h
  | i + 1 => fun k hk hb => by
    have hb : bl (pas f p i ||| (if bl (pas f p i) i = true then nearT i &&& f else 0)) k = true := hb
    rw [bl_or, Bool.or_eq_true] at hb
    rcases hb with hb | hb
    · exact pas_in h i k hk hb
    · by_cases c : bl (pas f p i) i = true
      · rw [if_pos c, bl_and, Bool.and_eq_true] at hb; exact hb.2
      · rw [if_neg c, bl_0] at hb; cases hb
theorem pas_fix {f p : Int64} (h : pas f p 64 = p) : clo f p := by
  intro i j hi hj hp ha hf
  have h1 : pas f p i = p := sbs_as (by
    have := pas_mono f p i (64 - i)
    rw [show i + (64 - i) = 64 by omega, h] at this
    exact this) (pas_up f p i)
  have h2 : bl (pas f p (i + 1)) j = true := by
    show bl (pas f p i ||| (if bl (pas f p i) i = true then nearT i &&& f else 0)) j = true
    rw [h1, if_pos hp, bl_or, bl_and]
    have ha : bl (nearT i) j = true := ha
    rw [ha, hf]; simp
  have h3 := pas_mono f p (i + 1) (64 - (i + 1)) j hj h2
  rw [show i + 1 + (64 - (i + 1)) = 64 by omega, h] at h3
  exact h3
theorem x8_partAt {nr : Nat → Int64} (hn : ∀ i, i < 64 → nr i = nearT i) {f : Int64} {k : Nat} (hk : k < 64) (hf : bl f k = true) : ∃ p, f_X8_partAt nr f (nI k) = some p ∧ isC f k p := by
  unfold f_X8_partAt
  simp only [hk_let]
  obtain ⟨r, h1, h2⟩ := wl_meas (f := st_X8_partAt_8 nr f) (fun s => sbs s.2 s.1 ∧ bl s.1 k = true ∧ sbs s.1 f ∧ (∀ q, bl q k = true → clo f q → sbs s.1 q) ∧ (s.1 = s.2 → clo f s.1)) (fun s => if s.1 = s.2 then 0 else 65 - popc s.2) (fun p => isC f k p) (by
    rintro ⟨p, b⟩ ⟨g1, g2, g3, g4, g5⟩
    dsimp only at g1 g2 g3 g4 g5 ⊢
    by_cases e : p = b
    · right
      refine ⟨p, ?_, g2, g3, g5 e, g4⟩
      show st_X8_partAt_8c nr f p b = _
      unfold st_X8_partAt_8c
      rw [if_pos e]
    · left
      refine ⟨(pas f p 64, p), ?_, ⟨pas_up f p 64, pas_up f p 64 k hk g2, pas_in g3 64, fun q hq hc => pas_least hc (g4 q hq hc) 64 (Nat.le_refl _), fun e2 => ?_⟩, ?_⟩
      · show st_X8_partAt_8c nr f p b = _
        unfold st_X8_partAt_8c
        rw [if_neg e, x8_pas hn, b1s]
      · have e2 : pas f p 64 = p := e2
        show clo f (pas f p 64)
        rw [e2]; exact pas_fix e2
      · show (if pas f p 64 = p then 0 else 65 - popc p) < (if p = b then 0 else 65 - popc b)
        rw [if_neg e]
        have l1 := popc_lt g1 (fun q => e q.symm)
        have l2 := popc_le b
        have l3 := popc_le p
        by_cases e3 : pas f p 64 = p
        · rw [if_pos e3]; omega
        · rw [if_neg e3]; omega) hkF (hk_shl 1 (nI k), 0) (by
    refine ⟨fun i hi h => (by rw [bl_0] at h; cases h), (by show bl (hk_shl 1 (nI k)) k = true; rw [bl_one hk hk]; simp), fun i hi h => ?_, fun q hq _ i hi h => ?_, fun e => ?_⟩
    · have h : bl (hk_shl 1 (nI k)) i = true := h
      rw [bl_one hk hi] at h
      rw [of_decide_eq_true h]; exact hf
    · have h : bl (hk_shl 1 (nI k)) i = true := h
      rw [bl_one hk hi] at h
      rw [of_decide_eq_true h]; exact hq
    · have e : hk_shl 1 (nI k) = 0 := e
      have := bl_one hk hk
      rw [e, bl_0] at this
      simp at this) (by
    show (if hk_shl 1 (nI k) = 0 then 0 else 65 - popc 0) < hkF
    have : (65 : Nat) - popc 0 ≤ 65 := by omega
    have h9 : (100 : Nat) < hkF := hkF_pos
    by_cases c : hk_shl 1 (nI k) = 0
    · rw [if_pos c]; omega
    · rw [if_neg c]; omega)
  exact ⟨r, by rw [h1, b1s], h2⟩
