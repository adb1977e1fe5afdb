/-! which ways the list holds -/
theorem wth_bit (u f : Int64) : wth u f ↔ sbs u f := by
  unfold wth
  rw [bl_eq0]
  constructor
  · intro h i hi hb
    have := h i hi
    rw [bl_and, bl_not _ hi, hb, Bool.true_and, Bool.not_eq_false'] at this
    exact this
  · intro h i hi
    rw [bl_and, bl_not _ hi]
    cases hb : bl u i
    · rfl
    · rw [h i hi hb]; rfl
theorem dis_bit (u v : Int64) : u &&& v = 0 ↔ ∀ i, i < 64 → bl u i = true → bl v i = false := by
  rw [bl_eq0]
  constructor
  · intro h i hi hb
    have := h i hi
    rw [bl_and, hb, Bool.true_and] at this
    exact this
  · intro h i hi
    rw [bl_and]
    cases hb : bl u i
    · rfl
    · rw [h i hi hb]; rfl
theorem wth_and (u l g : Int64) : wth u (l &&& (g ^^^ (-1))) ↔ wth u l ∧ g &&& u = 0 := by
  rw [wth_bit, wth_bit, dis_bit]
  constructor
  · intro h
    refine ⟨fun i hi hb => ?_, fun i hi hb => ?_⟩
    · have := h i hi hb
      rw [bl_and, Bool.and_eq_true] at this
      exact this.1
    · cases hu : bl u i
      · rfl
      · have := h i hi hu
        rw [bl_and, bl_not _ hi, hb, Bool.and_eq_true] at this
        cases this.2
  · rintro ⟨h1, h2⟩ i hi hb
    rw [bl_and, bl_not _ hi, h1 i hi hb]
    cases hg : bl g i
    · rfl
    · rw [h2 i hi hg] at hb; cases hb
theorem fits_w {G : Nat → Nat → Int64} {y q : Nat} {l : Int64} : fits G y q l = true ↔ wth (G y q) l := by
  unfold fits wth
  rw [decide_eq_true_eq]
/-- a tail of a way from piece y on, within l -/
def tl (S : Nat → Int64 → Prop) : Nat → Int64 → List Int64 → Prop
  | _, _, [] => True
  | y, l, a :: w => S y a ∧ wth a l ∧ tl S (y + 1) (l &&& (a ^^^ (-1))) w
theorem mem_cf {G : Nat → Nat → Int64} {ct : Nat → Nat} {r y : Nat} {l : Int64} {w : List Int64} : w ∈ cf G ct r y l 0 (ct y) ↔ ∃ q t, q < ct y ∧ fits G y q l = true ∧ t ∈ cmpl G ct r (y + 1) (l &&& (G y q ^^^ (-1))) ∧ w = G y q :: t := by
  unfold cf
  rw [List.mem_flatMap]
  constructor
  · rintro ⟨q, hq, hw⟩
    rw [List.mem_range'_1] at hq
    by_cases hf : fits G y q l = true
    · rw [if_pos hf, List.mem_map] at hw
      obtain ⟨t, ht, e⟩ := hw
      exact ⟨q, t, by omega, hf, ht, e.symm⟩
    · rw [if_neg hf] at hw
      cases hw
  · rintro ⟨q, t, hq, hf, ht, e⟩
    refine ⟨q, List.mem_range'_1.mpr (by omega), ?_⟩
    rw [if_pos hf, List.mem_map]
    exact ⟨t, ht, e.symm⟩
theorem mem_cmpl {G : Nat → Nat → Int64} {ct : Nat → Nat} {S : Nat → Int64 → Prop} : ∀ (r y : Nat) (l : Int64) (w : List Int64), (∀ j, j < y + r → ∀ v, (∃ i, i < ct j ∧ G j i = v) ↔ S j v) → (w ∈ cmpl G ct r y l ↔ w.length = r ∧ tl S y l w)
  | 0, y, l, w, _ => by
    show w ∈ [[]] ↔ _
    rw [List.mem_singleton]
    constructor
    · rintro rfl; exact ⟨rfl, trivial⟩
    · rintro ⟨h, _⟩; exact List.length_eq_zero_iff.mp h
  | r + 1, y, l, w, hS => by
    rw [cmpl_s, mem_cf]
    constructor
    · rintro ⟨q, t, hq, hf, ht, rfl⟩
      obtain ⟨h1, h2⟩ := (mem_cmpl r (y + 1) _ t (fun j hj => hS j (by omega))).mp ht
      exact ⟨by rw [List.length_cons, h1], (hS y (by omega) _).mp ⟨q, hq, rfl⟩, fits_w.mp hf, h2⟩
    · rintro ⟨h1, h2⟩
      cases w with
      | nil => cases h1
      | cons a t =>
        obtain ⟨g1, g2, g3⟩ := h2
        obtain ⟨q, hq, rfl⟩ := (hS y (by omega) a).mpr g1
        exact ⟨q, t, hq, fits_w.mpr g2, (mem_cmpl r (y + 1) _ t (fun j hj => hS j (by omega))).mpr ⟨by rw [List.length_cons] at h1; omega, g3⟩, rfl⟩
def lxl : List Int64 → List Int64 → Prop
  | [], _ => True
  | _ :: _, [] => False
  | a :: u, b :: w => uv a < uv b ∨ (a = b ∧ lxl u w)
/-- no repeats; and the first is the least -/
theorem cmpl_ok {G : Nat → Nat → Int64} {ct : Nat → Nat} : ∀ (r y : Nat) (l : Int64), (∀ j, j < y + r → ∀ a b, a < b → b < ct j → uv (G j a) < uv (G j b)) → (cmpl G ct r y l).Nodup ∧ ∀ h t, cmpl G ct r y l = h :: t → ∀ w, w ∈ cmpl G ct r y l → lxl h w
  | 0, y, l, _ => by
    refine ⟨List.nodup_cons.mpr ⟨fun q => (by cases q), List.nodup_nil⟩, fun h t z w hw => ?_⟩
    have z' : [[]] = h :: t := z
    injection z' with z1 z2
    rw [← z1]
    exact trivial
  | r + 1, y, l, hG => by
    have ih := fun l' => cmpl_ok r (y + 1) l' (fun j hj => hG j (by omega))
    have key : ∀ k a, a + k = ct y → (cf G ct r y l a k).Nodup ∧ (∀ w, w ∈ cf G ct r y l a k → ∃ q t, a ≤ q ∧ q < ct y ∧ w = G y q :: t) ∧ ∀ h t, cf G ct r y l a k = h :: t → ∀ w, w ∈ cf G ct r y l a k → lxl h w := by
      intro k
      induction k with
      | zero =>
        intro a _
        rw [cf_0]
        exact ⟨List.nodup_nil, fun w hw => (by cases hw), fun h t z => by cases z⟩
      | succ k ih2 =>
        intro a hak
        obtain ⟨i1, i2, i3⟩ := ih2 (a + 1) (by omega)
        rw [cf_s]
        by_cases hf : fits G y a l = true
        · rw [if_pos hf]
          obtain ⟨j1, j2⟩ := ih (l &&& (G y a ^^^ (-1)))
          have hlt : ∀ w, w ∈ cf G ct r y l (a + 1) k → ∃ b t, w = b :: t ∧ uv (G y a) < uv b := fun w hw => by
            obtain ⟨q, t, q1, q2, q3⟩ := i2 w hw
            exact ⟨_, t, q3, hG y (by omega) a q (by omega) q2⟩
          refine ⟨?_, fun w hw => ?_, fun h t z w hw => ?_⟩
          · rw [List.nodup_append]
            refine ⟨?_, i1, fun w1 hw1 w2 hw2 e => ?_⟩
            · exact List.Pairwise.map _ (fun u v huv e => huv (by injection e)) j1
            · rw [List.mem_map] at hw1
              obtain ⟨t, _, et⟩ := hw1
              obtain ⟨b, t2, e2, e3⟩ := hlt w2 hw2
              rw [← e, ← et] at e2
              injection e2 with e4 e5
              rw [e4] at e3
              omega
          · rcases List.mem_append.mp hw with hw | hw
            · rw [List.mem_map] at hw
              obtain ⟨t, _, et⟩ := hw
              exact ⟨a, t, Nat.le_refl _, by omega, et.symm⟩
            · obtain ⟨q, t, q1, q2, q3⟩ := i2 w hw
              exact ⟨q, t, by omega, q2, q3⟩
          · cases hL : cmpl G ct r (y + 1) (l &&& (G y a ^^^ (-1))) with
            | nil =>
              rw [hL, List.map_nil, List.nil_append] at z hw
              exact i3 h t z w hw
            | cons h0 t0 =>
              rw [hL, List.map_cons, List.cons_append] at z
              injection z with z1 z2
              rw [← z1]
              rcases List.mem_append.mp hw with hw | hw
              · rw [List.mem_map] at hw
                obtain ⟨v, hv, ev⟩ := hw
                rw [← ev]
                exact Or.inr ⟨rfl, j2 h0 t0 hL v hv⟩
              · obtain ⟨b, t2, e2, e3⟩ := hlt w hw
                rw [e2]
                exact Or.inl e3
        · rw [if_neg hf, List.nil_append]
          refine ⟨i1, fun w hw => ?_, i3⟩
          obtain ⟨q, t, q1, q2, q3⟩ := i2 w hw
          exact ⟨q, t, by omega, q2, q3⟩
    obtain ⟨k1, _, k3⟩ := key (ct y) 0 (by omega)
    exact ⟨k1, k3⟩
theorem nodup_le {α : Type} : ∀ (l1 l2 : List α), l1.Nodup → (∀ x, x ∈ l1 → x ∈ l2) → l1.length ≤ l2.length
  | [], _, _, _ => Nat.zero_le _
  | x :: l1, l2, h, hs => by
    obtain ⟨h1, h2⟩ := List.nodup_cons.mp h
    obtain ⟨s, t, e⟩ := List.append_of_mem (hs x List.mem_cons_self)
    have := nodup_le l1 (s ++ t) h2 (fun z hz => by
      have hz2 := hs z (List.mem_cons_of_mem _ hz)
      rw [e, List.mem_append, List.mem_cons] at hz2
      rw [List.mem_append]
      rcases hz2 with k | k | k
      · exact Or.inl k
      · exact absurd (k ▸ hz) h1
      · exact Or.inr k)
    rw [e]
    simp only [List.length_append, List.length_cons] at this ⊢
    omega
theorem nodup_eq {α : Type} {l1 l2 : List α} (h1 : l1.Nodup) (h2 : l2.Nodup) (h : ∀ x, x ∈ l1 ↔ x ∈ l2) : l1.length = l2.length := Nat.le_antisymm (nodup_le l1 l2 h1 (fun x k => (h x).mp k)) (nodup_le l2 l1 h2 (fun x k => (h x).mpr k))
