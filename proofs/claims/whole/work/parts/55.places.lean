/-! sets laid out in arrays; the reference's places -/
def enm (n : Nat) (g : Nat → Int64) (S : Int64 → Prop) : Prop := (∀ i j, i < j → j < n → ¬ g i = g j) ∧ ∀ v, (∃ i, i < n ∧ g i = v) ↔ S v
theorem srt_enm {n : Nat} {g : Nat → Int64} {S : Int64 → Prop} (h : srt n g S) : enm n g S := ⟨fun i j hij hj e => by have := h.1 i j hij hj; rw [e] at this; omega, h.2⟩
theorem enm_c {n : Nat} {g : Nat → Int64} {S T : Int64 → Prop} (h : enm n g S) (e : ∀ v, S v ↔ T v) : enm n g T := ⟨h.1, fun v => (h.2 v).trans (e v)⟩
theorem inj_le : ∀ (n m : Nat) (f g : Nat → Int64), (∀ i j, i < j → j < n → ¬ f i = f j) → (∀ i, i < n → ∃ j, j < m ∧ g j = f i) → n ≤ m
  | 0, m, f, g, _, _ => Nat.zero_le _
  | n + 1, 0, f, g, _, h => by obtain ⟨j, hj, _⟩ := h 0 (by omega); omega
  | n + 1, m + 1, f, g, hi, h => by
    obtain ⟨j, hj, ej⟩ := h n (by omega)
    have := inj_le n m f (fun k => if k = j then g m else g k) (fun a b hab hb => hi a b hab (by omega)) (fun i hin => by
      obtain ⟨k, hk, ek⟩ := h i (by omega)
      have hne : ¬ k = j := fun e => hi i n hin (by omega) (by rw [← ek, ← ej, e])
      by_cases q : k = m
      · refine ⟨j, by omega, ?_⟩
        show (if j = j then g m else g j) = f i
        rw [if_pos rfl, ← q, ek]
      · refine ⟨k, by omega, ?_⟩
        show (if k = j then g m else g k) = f i
        rw [if_neg hne, ek])
    omega
theorem enm_eq {n m : Nat} {f g : Nat → Int64} {S : Int64 → Prop} (h1 : enm n f S) (h2 : enm m g S) : n = m := by
  have a := inj_le n m f g h1.1 (fun i hi => (h2.2 _).mpr ((h1.2 _).mp ⟨i, hi, rfl⟩))
  have b := inj_le m n g f h2.1 (fun i hi => (h1.2 _).mpr ((h2.2 _).mp ⟨i, hi, rfl⟩))
  omega
def wth (u f : Int64) : Prop := u &&& (f ^^^ (-1)) = 0
def WK (x : Int64) (T : Nat) (f u : Int64) : Prop := LK x T u ∧ wth u f
def TT (m : Int32) : Nat := if m = 0 then 4 else 8
theorem TT_8 (m : Int32) : TT m ≤ 8 := by unfold TT; split <;> omega
theorem TT_f (m : Int32) : (if m = 0 then (4 : Int32) else 8) = nI (TT m) := by
  unfold TT
  by_cases h : m = 0
  · rw [if_pos h, if_pos h]; rfl
  · rw [if_neg h, if_neg h]; rfl
theorem upd_n {f : Nat → Int32} {k j : Nat} {x : Int32} (h : j ≠ k) : upd f k x j = f j := if_neg h
/-- one block of the reference's places -/
def pls (k n : Nat) (pm : Nat → Int32) (pl : Nat → Int64) (pm' : Nat → Int32) (pl' : Nat → Int64) (S : Int64 → Prop) : Prop := pm' k = nI n ∧ n ≤ 392 ∧ srt n (fun q => pl' (400 * k + q)) S ∧ (∀ i, i ≠ k → pm' i = pm i) ∧ ∀ q, q < 400 * k ∨ 400 * k + 400 ≤ q → pl' q = pl q
theorem x8_places {k : Nat} (hk : k < 4) (f : Int64) {n : Nat} (hn : n ≤ 392) {lk : Nat → Int64} {S : Int64 → Prop} (hl : srt n lk S) (pm : Nat → Int32) (pl : Nat → Int64) : ∃ r, hk_wl (st_X8_layPlaces_35 (nI k) f (nI n) lk) hkF ((0 : Int32), upd pm k 0, pl) = some r ∧ ∃ c, pls k c pm pl r.1 r.2 (fun u => S u ∧ wth u f) := by
  refine wl_inv (f := st_X8_layPlaces_35 (nI k) f (nI n) lk) (fun i s => s.1 = nI i ∧ ∃ c, c ≤ i ∧ pls k c pm pl s.2.1 s.2.2 (fun u => (∃ j, j < i ∧ lk j = u) ∧ wth u f)) (fun r => ∃ c, pls k c pm pl r.1 r.2 (fun u => S u ∧ wth u f)) (e := n) ?_ ?_ (by omega) ?_
  · rintro i ⟨y, v, w⟩ hi ⟨h1, c, hc, h2, h3, h4, h5, h6⟩
    dsimp only at h1 h2 h4 h5 h6
    subst h1
    show ∃ s', st_X8_layPlaces_35c (nI k) f (nI n) lk (nI i) v w = some (.inl s') ∧ _
    unfold st_X8_layPlaces_35c
    rw [if_neg (nI_ge hi (by omega)), inb_nI (show i < 400 by omega) (by decide), gds, cl_nI (by omega), inb_nI hk (by decide), gds, gds, gds, gds, cl_nI (by omega), h2, show (400 : Int32) * nI k + nI c = nI (400 * k + c) from by rw [i400, pk_mul, nI_add], inb_nI (show 400 * k + c < 1600 by omega) (by decide), gds, cl_nI (by omega), show nI c + 1 = nI (c + 1) from by rw [i1, nI_add], show nI i + 1 = nI (i + 1) from by rw [i1, nI_add]]
    by_cases q : lk i &&& (f ^^^ (-1)) = 0
    · rw [if_pos q, b2s]
      refine ⟨_, rfl, rfl, c + 1, by omega, upd_s, by omega, ⟨fun a b hab hb => ?_, fun u => ?_⟩, fun j hj => ?_, fun j hj => ?_⟩
      · show uv (vp_updL w (400 * k + c) (lk i) (400 * k + a)) < uv (vp_updL w (400 * k + c) (lk i) (400 * k + b))
        rw [updL_n (show 400 * k + a ≠ 400 * k + c by omega)]
        by_cases e : b = c
        · rw [e, updL_s]
          obtain ⟨⟨j, hj, ej⟩, _⟩ := (h4.2 (w (400 * k + a))).mp ⟨a, by omega, rfl⟩
          rw [← ej]
          exact hl.1 j i hj hi
        · rw [updL_n (show 400 * k + b ≠ 400 * k + c by omega)]
          exact h4.1 a b hab (by omega)
      · constructor
        · rintro ⟨a, ha, ea⟩
          have ea : vp_updL w (400 * k + c) (lk i) (400 * k + a) = u := ea
          by_cases e : a = c
          · rw [e, updL_s] at ea
            exact ⟨⟨i, by omega, ea⟩, by rw [← ea]; exact q⟩
          · rw [updL_n (show 400 * k + a ≠ 400 * k + c by omega)] at ea
            obtain ⟨⟨j, hj, ej⟩, hw⟩ := (h4.2 u).mp ⟨a, by omega, ea⟩
            exact ⟨⟨j, by omega, ej⟩, hw⟩
        · rintro ⟨⟨j, hj, ej⟩, hw⟩
          by_cases e : j = i
          · refine ⟨c, by omega, ?_⟩
            show vp_updL w (400 * k + c) (lk i) (400 * k + c) = u
            rw [updL_s, ← e, ej]
          · obtain ⟨a, ha, ea⟩ := (h4.2 u).mpr ⟨⟨j, by omega, ej⟩, hw⟩
            refine ⟨a, by omega, ?_⟩
            show vp_updL w (400 * k + c) (lk i) (400 * k + a) = u
            rw [updL_n (show 400 * k + a ≠ 400 * k + c by omega)]
            exact ea
      · show upd v k (nI (c + 1)) j = pm j
        rw [upd_n hj]
        exact h5 j hj
      · show vp_updL w (400 * k + c) (lk i) j = pl j
        rw [updL_n (show j ≠ 400 * k + c by omega)]
        exact h6 j hj
    · rw [if_neg q, b2s]
      refine ⟨_, rfl, rfl, c, by omega, h2, h3, srt_c h4 (fun u => ?_), h5, h6⟩
      constructor
      · rintro ⟨⟨j, hj, ej⟩, hw⟩
        exact ⟨⟨j, by omega, ej⟩, hw⟩
      · rintro ⟨⟨j, hj, ej⟩, hw⟩
        refine ⟨⟨j, ?_, ej⟩, hw⟩
        by_cases e : j = i
        · rw [e] at ej
          rw [← ej] at hw
          exact absurd hw q
        · omega
  · rintro ⟨y, v, w⟩ ⟨h1, c, hc, h2, h3, h4, h5, h6⟩
    dsimp only at h1 h2 h4 h5 h6
    subst h1
    show ∃ r, st_X8_layPlaces_35c (nI k) f (nI n) lk (nI n) v w = some (.inr r) ∧ _
    unfold st_X8_layPlaces_35c
    rw [if_pos (Int32.le_refl _)]
    exact ⟨_, rfl, c, h2, h3, srt_c h4 (fun u => and_congr_left (fun _ => hl.2 u)), h5, h6⟩
  · exact ⟨rfl, 0, by omega, upd_s, by omega, ⟨fun a b _ hb => by omega, fun u => ⟨fun ⟨a, ha, _⟩ => by omega, fun ⟨⟨j, hj, _⟩, _⟩ => by omega⟩⟩, fun j hj => upd_n hj, fun _ _ => rfl⟩
theorem lay_places {tn : Nat → Int32} (hn : ∀ t i, t < 8 → i < 64 → tn (64 * t + i) = nI (turnT t i)) {k : Nat} (hk : k < 4) (m : Int32) (ld : Nat → Int64) (mm : Nat → Int32) (lk : Nat → Int64) (pm : Nat → Int32) (pl : Nat → Int64) (f : Int64) : ∃ m' lk' pm' pl' c, f_X8_layPlaces m ld mm tn lk pm pl (nI k) f = some (m', lk', pm', pl') ∧ pls k c pm pl pm' pl' (WK (ld k) (TT (mm k)) f) := by
  unfold f_X8_layPlaces
  obtain ⟨n, w', e1, e2, e3⟩ := lay_likes hn m lk (ld k) (TT_8 (mm k))
  obtain ⟨⟨r1, r2⟩, e4, c, e5⟩ := x8_places hk f e2 e3 pm pl
  simp only [inb_nI hk (show 4 < 2 ^ 31 by decide), gds, cl_nI (show k < 2 ^ 31 by omega), hk_let, TT_f, e1, b2s, e4]
  exact ⟨_, _, _, _, c, rfl, e5⟩
