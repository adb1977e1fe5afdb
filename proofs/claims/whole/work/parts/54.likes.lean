/-! likes, forms -/
theorem wl_inv_n {σ ρ : Type} {f : σ → Option (σ ⊕ ρ)} (I : Nat → σ → Prop) (Q : ρ → Prop) {e : Nat} (hs : ∀ i s, i < e → I i s → ∃ s', f s = some (.inl s') ∧ I (i + 1) s') (he : ∀ s, I e s → ∃ r, f s = some (.inr r) ∧ Q r) : ∀ (d a n : Nat) (s : σ), a + d = e → d < n → I a s → ∃ r, hk_wl f n s = some r ∧ Q r
  | 0, a, n + 1, s, h, _, hI => by
    obtain ⟨r, h1, h2⟩ := he s (by rw [← h]; exact hI)
    exact ⟨r, wl_end h1, h2⟩
  | d + 1, a, n + 1, s, h, hn, hI => by
    obtain ⟨s', h1, h2⟩ := hs a s (by omega) hI
    obtain ⟨r, h3, h4⟩ := wl_inv_n I Q hs he d (a + 1) n s' (by omega) (by omega) h2
    exact ⟨r, by rw [wl_step h1]; exact h3, h4⟩
theorem wl_inv {σ ρ : Type} {f : σ → Option (σ ⊕ ρ)} (I : Nat → σ → Prop) (Q : ρ → Prop) {e : Nat} (hs : ∀ i s, i < e → I i s → ∃ s', f s = some (.inl s') ∧ I (i + 1) s') (he : ∀ s, I e s → ∃ r, f s = some (.inr r) ∧ Q r) (hn : e < 1000000) {s : σ} (h0 : I 0 s) : ∃ r, hk_wl f hkF s = some r ∧ Q r :=
  wl_inv_n I Q hs he e 0 hkF s (by omega) (hkF_big (by omega)) h0
def srt (n : Nat) (w : Nat → Int64) (S : Int64 → Prop) : Prop := (∀ i j, i < j → j < n → uv (w i) < uv (w j)) ∧ ∀ v, (∃ i, i < n ∧ w i = v) ↔ S v
theorem srt_c {n : Nat} {w : Nat → Int64} {S T : Int64 → Prop} (h : srt n w S) (e : ∀ v, S v ↔ T v) : srt n w T := ⟨h.1, fun v => (h.2 v).trans (e v)⟩
def shw (w : Nat → Int64) (n k : Nat) : Nat → Int64 := fun i => if n - k < i ∧ i ≤ n then w (i - 1) else w i
theorem shw_0 (w : Nat → Int64) (n : Nat) : shw w n 0 = w := by
  funext i
  unfold shw
  rw [if_neg (by omega)]
theorem shw_s (w : Nat → Int64) {n k : Nat} (h : k < n) : vp_updL (shw w n k) (n - k) (shw w n k (n - k - 1)) = shw w n (k + 1) := by
  funext i
  by_cases e : i = n - k
  · subst e
    rw [updL_s]
    unfold shw
    rw [if_neg (by omega), if_pos (by omega)]
  · rw [updL_n e]
    unfold shw
    by_cases q : n - k < i ∧ i ≤ n
    · rw [if_pos q, if_pos (by omega)]
    · rw [if_neg q, if_neg (by omega)]
theorem x8_shw (w : Nat → Int64) {n p : Nat} (hn : n < 400) (hp : p ≤ n) : hk_wl (st_X8_addLike_55 (nI p)) hkF (nI n, w) = some (shw w n (n - p)) := by
  have e := wl_for0 (f := st_X8_addLike_55 (nI p)) (fun k => (nI (n - k), shw w n k)) (e := n - p) (r := shw w n (n - p)) (by
    intro k hk
    show st_X8_addLike_55c (nI p) (nI (n - k)) (shw w n k) = _
    unfold st_X8_addLike_55c
    rw [if_neg (nI_ge (show p < n - k by omega) (by omega)), i1, pk_sub (show 1 ≤ n - k by omega), inb_nI (show n - k - 1 < 400 by omega) (by decide), gds, inb_nI (show n - k < 400 by omega) (by decide), gds, cl_nI (by omega), cl_nI (by omega), shw_s w (by omega)]
    have e1 : nI (n - k) + -nI 1 = nI (n - (k + 1)) := by
      rw [show n - k = (n - (k + 1)) + 1 by omega]; exact m1_nI _
    simp only [hk_let]
    rw [e1]) (by
    show st_X8_addLike_55c (nI p) (nI (n - (n - p))) (shw w n (n - p)) = _
    unfold st_X8_addLike_55c
    rw [show n - (n - p) = p by omega, if_pos (Int32.le_refl _)]) (by omega)
  have e' : hk_wl (st_X8_addLike_55 (nI p)) hkF (nI n, shw w n 0) = _ := e
  rw [shw_0] at e'
  exact e'
theorem x8_shw' (w : Nat → Int64) {n p : Nat} (hn : n < 400) (hp : p ≤ n) : hk_wl (st_X8_addLike_55' (nI p)) hkF (nI n, w) = some (shw w n (n - p)) := x8_shw w hn hp
theorem add_like {n : Nat} {w : Nat → Int64} {S : Int64 → Prop} (hn : n < 400) (h : srt n w S) (v : Int64) : ∃ n' w', f_X8_addLike (nI n) w v = some (nI n', w') ∧ n' ≤ n + 1 ∧ srt n' w' (fun u => S u ∨ u = v) := by
  have hle := fa_first_le (fun i => decide (¬ uv (w i) < uv v)) n
  have hno := fa_first_no (fun i => decide (¬ uv (w i) < uv v)) n
  have hyes := fa_first_yes (fun i => decide (¬ uv (w i) < uv v)) n
  generalize fa_first (fun i => decide (¬ uv (w i) < uv v)) n = p at *
  have hno' : ∀ i, i < p → uv (w i) < uv v := fun i hi => by
    have := hno i hi
    rw [decide_eq_false_iff_not] at this
    omega
  have hl : hk_wl (st_X8_addLike_2 (nI n) w v) hkF (0 : Int32) = some (nI p) := wl_for0 (f := st_X8_addLike_2 (nI n) w v) (fun i => nI i) (e := p) (r := nI p) (by
    intro i hi
    show st_X8_addLike_2c (nI n) w v (nI i) = _
    unfold st_X8_addLike_2c
    rw [if_neg (nI_ge (show i < n by omega) (by omega)), inb_nI (show i < 400 by omega) (by decide), gds, cl_nI (by omega), less_uv, b1s, if_pos (hno' i hi), if_neg ne_1_0, i1, nI_add]
    rfl) (by
    show st_X8_addLike_2c (nI n) w v (nI p) = _
    unfold st_X8_addLike_2c
    by_cases q : p < n
    · have := hyes q
      rw [decide_eq_true_eq] at this
      rw [if_neg (nI_ge q (by omega)), inb_nI (show p < 400 by omega) (by decide), gds, cl_nI (by omega), less_uv, b1s, if_neg this, if_pos rfl]
    · rw [if_pos ((nI_leI (by omega) (by omega)).mpr (by omega))]) (by omega)
  have fin : (p < n → uv v < uv (w p)) → srt (n + 1) (vp_updL (shw w n (n - p)) p v) (fun u => S u ∨ u = v) := fun hp => by
    have hat : ∀ i, vp_updL (shw w n (n - p)) p v i = if i = p then v else if p < i ∧ i ≤ n then w (i - 1) else w i := fun i => by
      by_cases e : i = p
      · rw [if_pos e, e, updL_s]
      · rw [if_neg e, updL_n e]
        unfold shw
        rw [show n - (n - p) = p by omega]
    have hgt : ∀ i, p ≤ i → i < n → uv v < uv (w i) := fun i h1 h2 => by
      by_cases e : i = p
      · subst e; exact hp h2
      · have a1 := hp (by omega)
        have a2 := h.1 p i (by omega) h2
        omega
    refine ⟨fun i j hij hj => ?_, fun u => ?_⟩
    · rw [hat, hat]
      by_cases i1 : i = p
      · rw [if_pos i1, if_neg (show ¬ j = p by omega), if_pos (show p < j ∧ j ≤ n by omega)]
        exact hgt _ (by omega) (by omega)
      · rw [if_neg i1]
        by_cases i2 : p < i ∧ i ≤ n
        · rw [if_pos i2, if_neg (show ¬ j = p by omega), if_pos (show p < j ∧ j ≤ n by omega)]
          exact h.1 _ _ (by omega) (by omega)
        · rw [if_neg i2]
          have i3 : i < p := by omega
          by_cases j1 : j = p
          · rw [if_pos j1]; exact hno' i i3
          · rw [if_neg j1]
            by_cases j2 : p < j ∧ j ≤ n
            · rw [if_pos j2]
              exact h.1 _ _ (by omega) (by omega)
            · rw [if_neg j2]
              exact h.1 _ _ hij (by omega)
    · show _ ↔ (S u ∨ u = v)
      rw [← h.2 u]
      constructor
      · rintro ⟨i, hi, e⟩
        rw [hat] at e
        by_cases i1 : i = p
        · rw [if_pos i1] at e; exact Or.inr e.symm
        · rw [if_neg i1] at e
          by_cases i2 : p < i ∧ i ≤ n
          · rw [if_pos i2] at e
            exact Or.inl ⟨i - 1, by omega, e⟩
          · rw [if_neg i2] at e
            exact Or.inl ⟨i, by omega, e⟩
      · rintro (⟨i, hi, e⟩ | e)
        · by_cases i1 : i < p
          · exact ⟨i, by omega, by rw [hat, if_neg (by omega), if_neg (by omega)]; exact e⟩
          · exact ⟨i + 1, by omega, by rw [hat, if_neg (by omega), if_pos (by omega)]; exact e⟩
        · exact ⟨p, by omega, by rw [hat, if_pos rfl]; exact e.symm⟩
  unfold f_X8_addLike
  rw [hl, b1s]
  by_cases q : p < n
  · have hy := hyes q
    rw [decide_eq_true_eq] at hy
    rw [if_neg (nI_ge q (by omega)), inb_nI (show p < 400 by omega) (by decide), gds, cl_nI (by omega)]
    by_cases q2 : w p = v
    · rw [if_pos q2]
      refine ⟨n, w, rfl, by omega, srt_c h (fun u => ⟨Or.inl, fun k => ?_⟩)⟩
      rcases k with k | k
      · exact k
      · exact (h.2 u).mp ⟨p, q, by rw [q2, k]⟩
    · have hlt : uv v < uv (w p) := by
        rcases Nat.lt_trichotomy (uv v) (uv (w p)) with z | z | z
        · exact z
        · exact absurd (uv_inj z).symm q2
        · omega
      rw [if_neg q2, x8_shw' w hn hle, b1s, gds, i1]
      simp only [hk_let, nI_add]
      exact ⟨n + 1, _, rfl, by omega, fin (fun _ => hlt)⟩
  · rw [if_pos ((nI_leI (by omega) (by omega)).mpr (by omega)), x8_shw w hn hle, b1s, inb_nI (show p < 400 by omega) (by decide), gds, cl_nI (by omega), i1]
    simp only [hk_let, nI_add]
    exact ⟨n + 1, _, rfl, by omega, fin (fun k => absurd k q)⟩
def LK (x : Int64) (T : Nat) (u : Int64) : Prop := ∃ t d e, t < T ∧ d < 7 ∧ e < 7 ∧ sty (trn x t) d e = true ∧ u = shf (trn x t) d e
theorem sh7 {k : Nat} (hk : k < 49) : hk_rem (nI k) (7 : Int32) - (3 : Int32) = o3 (k % 7) ∧ nI k / (7 : Int32) - (3 : Int32) = o3 (k / 7) := by
  rw [i7, rem_nI (by omega) (by decide) (by decide), div_nI (by omega) (by decide) (by decide)]
  exact ⟨rfl, rfl⟩
theorem lay_in (z : Int64) {n0 : Nat} (hn0 : n0 + 49 ≤ 400) {w : Nat → Int64} {S : Int64 → Prop} (h : srt n0 w S) : ∃ r, hk_wl (st_X8_layLikes_26 z) hkF ((0 : Int32), nI n0, w) = some r ∧ ∃ n, r.1 = nI n ∧ n ≤ n0 + 49 ∧ srt n r.2 (fun u => S u ∨ ∃ d e, d < 7 ∧ e < 7 ∧ sty z d e = true ∧ u = shf z d e) := by
  refine wl_inv (f := st_X8_layLikes_26 z) (fun k s => s.1 = nI k ∧ ∃ n, s.2.1 = nI n ∧ n ≤ n0 + k ∧ srt n s.2.2 (fun u => S u ∨ ∃ m, m < k ∧ sty z (m % 7) (m / 7) = true ∧ u = shf z (m % 7) (m / 7))) (fun r => ∃ n, r.1 = nI n ∧ n ≤ n0 + 49 ∧ srt n r.2 (fun u => S u ∨ ∃ d e, d < 7 ∧ e < 7 ∧ sty z d e = true ∧ u = shf z d e)) (e := 49) ?_ ?_ (by decide) ?_
  · rintro k ⟨y, m, v⟩ hk ⟨h1, n, h2, h3, h4⟩
    dsimp only at h1 h2 h4
    subst h1 h2
    show ∃ s', st_X8_layLikes_26c z (nI k) (nI n) v = some (.inl s') ∧ _
    unfold st_X8_layLikes_26c
    rw [if_neg (show ¬ (49 : Int32) ≤ nI k from nI_ge hk (by decide)), (sh7 hk).1, (sh7 hk).2, x8_stays z (show k % 7 < 7 by omega) (show k / 7 < 7 by omega), b1s, show nI k + 1 = nI (k + 1) from by rw [i1, nI_add]]
    cases hs : sty z (k % 7) (k / 7)
    · rw [if_neg (show ¬ false = true by decide), if_pos rfl, b2s]
      refine ⟨_, rfl, rfl, n, rfl, by omega, srt_c h4 (fun u => ?_)⟩
      refine or_congr_right ⟨fun ⟨m, a, b, c⟩ => ⟨m, by omega, b, c⟩, fun ⟨m, a, b, c⟩ => ⟨m, ?_, b, c⟩⟩
      rcases Nat.lt_or_ge m k with q | q
      · exact q
      · rw [show m = k by omega, hs] at b; cases b
    · rw [if_pos rfl, if_neg ne_1_0, x8_shifted (by omega) (by omega) hs, b1s]
      obtain ⟨n', w', e1, e2, e3⟩ := add_like (show n < 400 by omega) h4 (shf z (k % 7) (k / 7))
      rw [e1, b2s, b2s]
      refine ⟨_, rfl, rfl, n', rfl, by omega, srt_c e3 (fun u => ?_)⟩
      constructor
      · rintro ((a | ⟨m, a, b, c⟩) | a)
        · exact Or.inl a
        · exact Or.inr ⟨m, by omega, b, c⟩
        · exact Or.inr ⟨k, by omega, hs, a⟩
      · rintro (a | ⟨m, a, b, c⟩)
        · exact Or.inl (Or.inl a)
        · by_cases q : m = k
          · subst q; exact Or.inr c
          · exact Or.inl (Or.inr ⟨m, by omega, b, c⟩)
  · rintro ⟨y, m, v⟩ ⟨h1, n, h2, h3, h4⟩
    dsimp only at h1 h2 h4
    subst h1 h2
    show ∃ r, st_X8_layLikes_26c z (nI 49) (nI n) v = some (.inr r) ∧ _
    unfold st_X8_layLikes_26c
    rw [if_pos (show (49 : Int32) ≤ nI 49 by decide)]
    refine ⟨_, rfl, n, rfl, h3, srt_c h4 (fun u => or_congr_right ⟨fun ⟨m, a, b, c⟩ => ⟨m % 7, m / 7, by omega, by omega, b, c⟩, fun ⟨d, e, a, b, c, g⟩ => ⟨7 * e + d, by omega, ?_⟩⟩)⟩
    rw [show (7 * e + d) % 7 = d by omega, show (7 * e + d) / 7 = e by omega]
    exact ⟨c, g⟩
  · exact ⟨rfl, n0, rfl, by omega, srt_c h (fun u => ⟨Or.inl, fun k => k.resolve_right (fun ⟨m, a, _⟩ => by omega)⟩)⟩
theorem lay_likes {tn : Nat → Int32} (hn : ∀ t i, t < 8 → i < 64 → tn (64 * t + i) = nI (turnT t i)) (m : Int32) (w : Nat → Int64) (x : Int64) {T : Nat} (hT : T ≤ 8) : ∃ n w', f_X8_layLikes m tn w x (nI T) = some (nI n, w') ∧ n ≤ 392 ∧ srt n w' (LK x T) := by
  have e := wl_inv (f := st_X8_layLikes_8 tn x (nI T)) (fun k s => s.1 = nI k ∧ ∃ n, s.2.1 = nI n ∧ n ≤ 49 * k ∧ srt n s.2.2 (LK x k)) (fun r => ∃ n, r.1 = nI n ∧ n ≤ 392 ∧ srt n r.2 (LK x T)) (e := T) (s := ((0 : Int32), (0 : Int32), w)) (by
    rintro k ⟨y, m, v⟩ hk ⟨h1, n, h2, h3, h4⟩
    dsimp only at h1 h2 h4
    subst h1 h2
    show ∃ s', st_X8_layLikes_8c tn x (nI T) (nI k) (nI n) v = some (.inl s') ∧ _
    unfold st_X8_layLikes_8c
    rw [if_neg (nI_ge hk (by omega)), x8_turned hn x (show k < 8 by omega), b1s]
    obtain ⟨⟨r1, r2⟩, e1, n', e2, e3, e4⟩ := lay_in (trn x k) (show n + 49 ≤ 400 by omega) h4
    dsimp only at e2 e4
    subst e2
    rw [e1, b2s, show nI k + 1 = nI (k + 1) from by rw [i1, nI_add]]
    refine ⟨_, rfl, rfl, n', rfl, by omega, srt_c e4 (fun u => ?_)⟩
    constructor
    · rintro (⟨t, d, e, a1, a2, a3, a4, a5⟩ | ⟨d, e, a2, a3, a4, a5⟩)
      · exact ⟨t, d, e, by omega, a2, a3, a4, a5⟩
      · exact ⟨k, d, e, by omega, a2, a3, a4, a5⟩
    · rintro ⟨t, d, e, a1, a2, a3, a4, a5⟩
      by_cases q : t = k
      · subst q; exact Or.inr ⟨d, e, a2, a3, a4, a5⟩
      · exact Or.inl ⟨t, d, e, by omega, a2, a3, a4, a5⟩) (by
    rintro ⟨y, m, v⟩ ⟨h1, n, h2, h3, h4⟩
    dsimp only at h1 h2 h4
    subst h1 h2
    show ∃ r, st_X8_layLikes_8c tn x (nI T) (nI T) (nI n) v = some (.inr r) ∧ _
    unfold st_X8_layLikes_8c
    rw [if_pos (Int32.le_refl _)]
    exact ⟨_, rfl, n, rfl, by omega, h4⟩) (by omega) ⟨rfl, 0, rfl, by omega, fun i j _ hj => by omega, fun v => ⟨fun ⟨i, hi, _⟩ => by omega, fun ⟨t, d, e, a1, _⟩ => by omega⟩⟩
  obtain ⟨⟨r1, r2⟩, e1, n, e2, e3, e4⟩ := e
  dsimp only at e2 e4
  subst e2
  unfold f_X8_layLikes
  rw [e1, b2s]
  exact ⟨n, r2, rfl, e3, e4⟩
theorem trn_0 (x : Int64) : trn x 0 = x := rfl
theorem trn_ne0 {x : Int64} (h : ¬ x = 0) {t : Nat} (ht : t < 8) : ¬ trn x t = 0 := fun q => by
  obtain ⟨i, hi, hb⟩ := bl_ne0 h
  have htp := tp_ok t ht i hi
  simp only [Bool.and_eq_true, decide_eq_true_eq] at htp
  have := trn_bit x t htp.2.2.1
  rw [htp.2.2.2, hb, q, bl_0] at this
  cases this
theorem trn_z (t : Nat) : trn 0 t = 0 := bl_ext (fun j hj => by rw [trn_bit 0 t hj, bl_0, bl_0])
def lfn (x : Int64) : Nat → Int64
  | 0 => crn x
  | n + 1 => if uv (crn (trn x (n + 1))) < uv (lfn x n) then crn (trn x (n + 1)) else lfn x n
def lf (x : Int64) : Int64 := lfn x 7
theorem lfn_ex (x : Int64) : ∀ n, ∃ t, t ≤ n ∧ lfn x n = crn (trn x t)
  | 0 => ⟨0, Nat.le_refl _, rfl⟩
  | n + 1 => by
    obtain ⟨t, h1, h2⟩ := lfn_ex x n
    show ∃ t, t ≤ n + 1 ∧ (if uv (crn (trn x (n + 1))) < uv (lfn x n) then crn (trn x (n + 1)) else lfn x n) = _
    by_cases q : uv (crn (trn x (n + 1))) < uv (lfn x n)
    · exact ⟨n + 1, Nat.le_refl _, if_pos q⟩
    · exact ⟨t, by omega, by rw [if_neg q]; exact h2⟩
theorem lfn_le (x : Int64) : ∀ n t, t ≤ n → uv (lfn x n) ≤ uv (crn (trn x t))
  | 0, t, h => by
    rw [show t = 0 by omega]
    exact Nat.le_refl _
  | n + 1, t, h => by
    have ih := fun t h => lfn_le x n t h
    show uv (if uv (crn (trn x (n + 1))) < uv (lfn x n) then crn (trn x (n + 1)) else lfn x n) ≤ _
    by_cases e : t = n + 1
    · subst e
      by_cases q : uv (crn (trn x (n + 1))) < uv (lfn x n)
      · rw [if_pos q]; exact Nat.le_refl _
      · rw [if_neg q]; omega
    · have := ih t (by omega)
      by_cases q : uv (crn (trn x (n + 1))) < uv (lfn x n)
      · rw [if_pos q]; omega
      · rw [if_neg q]; omega
theorem x3_least (x : Int64) : f_X3_leastForm x = some (lf x) := by
  have hend : ∀ q, st_X3_leastForm_8 x (q, nI (7 + 1)) = some (.inr q) := fun q => by
    show st_X3_leastForm_8c x q (nI (7 + 1)) = _
    unfold st_X3_leastForm_8c
    rw [if_pos (by decide)]
  have e := wl_for0 (f := st_X3_leastForm_8 x) (fun n => (lfn x n, nI (n + 1))) (e := 7) (r := lfn x 7) (by
    intro n hn
    show st_X3_leastForm_8c x (lfn x n) (nI (n + 1)) = _
    unfold st_X3_leastForm_8c
    rw [if_neg (show ¬ (8 : Int32) ≤ nI (n + 1) from nI_ge (show n + 1 < 8 by omega) (by decide)), x3_turned x (show n + 1 < 8 by omega), b1s, x3_crn, b1s, isLess_uv, b1s]
    simp only [hk_let]
    rw [show nI (n + 1) + 1 = nI (n + 1 + 1) from by rw [i1, nI_add]]
    have hs : lfn x (n + 1) = if uv (crn (trn x (n + 1))) < uv (lfn x n) then crn (trn x (n + 1)) else lfn x n := rfl
    rw [hs]
    by_cases q : uv (crn (trn x (n + 1))) < uv (lfn x n)
    · rw [if_pos q, if_neg ne_1_0, if_pos q]
    · rw [if_neg q, if_pos rfl, if_neg q]) (by
    exact hend (lfn x 7)) (by decide)
  unfold f_X3_leastForm
  rw [x3_crn, b1s]
  have e' : hk_wl (st_X3_leastForm_8 x) hkF (crn x, (1 : Int32)) = some (lfn x 7) := e
  rw [e', b1s]
  unfold lf
  rfl
theorem LK_ne0 {x : Int64} (h0 : ¬ x = 0) {T : Nat} (hT : T ≤ 8) {u : Int64} (h : LK x T u) : ¬ u = 0 := by
  obtain ⟨t, d, e, a1, a2, a3, a4, a5⟩ := h
  rw [a5]
  exact shf_ne0 a2 a3 a4 (trn_ne0 h0 (by omega))
theorem LK_crn {x : Int64} (h0 : ¬ x = 0) {T : Nat} (hT : T ≤ 8) (u : Int64) : LK x T u ↔ ¬ u = 0 ∧ ∃ t, t < T ∧ crn (trn x t) = crn u := by
  constructor
  · intro h
    refine ⟨LK_ne0 h0 hT h, ?_⟩
    obtain ⟨t, d, e, a1, a2, a3, a4, a5⟩ := h
    exact ⟨t, a1, by rw [a5, crn_shf a2 a3 a4 (trn_ne0 h0 (by omega))]⟩
  · rintro ⟨h1, t, h2, h3⟩
    obtain ⟨d, e, b1, b2, b3, b4⟩ := shf_of (trn_ne0 h0 (show t < 8 by omega)) h1 h3
    exact ⟨t, d, e, h2, b1, b2, b3, b4.symm⟩
theorem x8_form {tn : Nat → Int32} (hn : ∀ t i, t < 8 → i < 64 → tn (64 * t + i) = nI (turnT t i)) (m : Int32) (w : Nat → Int64) (x : Int64) : ∃ m' w', f_X8_formOf m tn w x = some (lf x, m', w') := by
  unfold f_X8_formOf
  by_cases h0 : x = 0
  · obtain ⟨t, _, e⟩ := lfn_ex x 7
    have : lf x = 0 := by
      show lfn x 7 = 0
      rw [e, h0, trn_z, crn_0]
    rw [if_pos h0, this]
    exact ⟨_, _, rfl⟩
  · obtain ⟨n, w', e1, e2, e3⟩ := lay_likes hn m w x (T := 8) (by omega)
    have e1' : f_X8_layLikes m tn w x 8 = _ := e1
    rw [if_neg h0, e1', b2s, show hk_inb 0 400 = true from rfl, gds, show (0 : Int32).toNatClampNeg = 0 from rfl]
    obtain ⟨t, ht, et⟩ := lfn_ex x 7
    have hlf : LK x 8 (lf x) := by
      obtain ⟨d, e, a1, a2, a3, a4⟩ := crn_is (trn_ne0 h0 (show t < 8 by omega))
      exact ⟨t, d, e, by omega, by omega, by omega, a3, by rw [a4]; exact et⟩
    obtain ⟨i, hi, ei⟩ := (e3.2 _).mpr hlf
    have h1 : uv (w' 0) ≤ uv (lf x) := by
      rw [← ei]
      by_cases q : i = 0
      · rw [q]; exact Nat.le_refl _
      · exact Nat.le_of_lt (e3.1 0 i (by omega) hi)
    have h2 : uv (lf x) ≤ uv (w' 0) := by
      obtain ⟨t', d, e, a1, a2, a3, a4, a5⟩ := (e3.2 (w' 0)).mp ⟨0, by omega, rfl⟩
      have b1 := lfn_le x 7 t' (by omega)
      have b2 := uv_crn (w' 0)
      rw [a5, crn_shf a2 a3 a4 (trn_ne0 h0 (by omega)), ← a5] at b2
      show uv (lfn x 7) ≤ _
      omega
    exact ⟨nI n, w', by rw [uv_inj (show uv (w' 0) = uv (lf x) by omega)]⟩
theorem pr_form {tn : Nat → Int32} (hn : ∀ t i, t < 8 → i < 64 → tn (64 * t + i) = nI (turnT t i)) {a b : Nat → Int64} (h : fe a b) (m : Int32) (w : Nat → Int64) (x : Int32) : ∃ r m' w', f_X7_form a x = some r ∧ f_X8_form m b tn w x = some (r, m', w') := by
  unfold f_X7_form f_X8_form
  rcases ix_cases x 8 (by decide) with ⟨j, hj, rfl⟩ | hx
  · obtain ⟨m', w', e⟩ := x8_form hn m w (b j)
    rw [noF_0 hj, isF_1 hj, b1s, b1s, if_pos rfl, if_neg ne_1_0, inb_nI hj (by decide), gds, gds, cl_nI (by omega), h j hj, x3_least, b1s, e, b3s]
    exact ⟨_, _, _, rfl, rfl⟩
  · rw [noF_1 hx, isF_0 hx, b1s, b1s]
    exact ⟨0, m, w, by simp, by simp⟩
theorem pr_like {tn : Nat → Int32} (hn : ∀ t i, t < 8 → i < 64 → tn (64 * t + i) = nI (turnT t i)) {a b : Nat → Int64} (h : fe a b) (m : Int32) (w : Nat → Int64) (x y : Int32) : ∃ r m' w', f_X7_like a x y = some r ∧ f_X8_like m b tn w x y = some (r, m', w') := by
  unfold f_X7_like f_X8_like
  rcases ix_cases x 8 (by decide) with ⟨j, hj, rfl⟩ | hx
  · rw [noF_0 hj, isF_1 hj, b1s, b1s, if_pos rfl, if_neg ne_1_0]
    rcases ix_cases y 8 (by decide) with ⟨k, hk, rfl⟩ | hx
    · obtain ⟨m1, w1, e1⟩ := x8_form hn m w (b j)
      obtain ⟨m2, w2, e2⟩ := x8_form hn m1 w1 (b k)
      rw [noF_0 hk, isF_1 hk, b1s, b1s, if_pos rfl, if_neg ne_1_0]
      simp only [inb_nI hj (show 8 < 2 ^ 31 by decide), inb_nI hk (show 8 < 2 ^ 31 by decide), gds, cl_nI (show j < 2 ^ 31 by omega), cl_nI (show k < 2 ^ 31 by omega), h j hj, h k hk, x3_least, b1s, e1, e2, b3s]
      by_cases q : lf (b j) = lf (b k)
      · rw [if_pos q, if_pos q]; exact ⟨_, _, _, rfl, rfl⟩
      · rw [if_neg q, if_neg q]; exact ⟨_, _, _, rfl, rfl⟩
    · rw [noF_1 hx, isF_0 hx, b1s, b1s]
      exact ⟨-1, m, w, by simp, by simp⟩
  · rw [noF_1 hx, isF_0 hx, b1s, b1s]
    exact ⟨-1, m, w, by simp, by simp⟩
def itp (x : Int64) (t : Nat) : Bool := decide (crn (trn x t) = crn x)
theorem x3_itself (x : Int64) : f_X3_turnsOntoItself x = some (nI (fb_ct (itp x) 8)) := by
  have e := wl_for0 (f := st_X3_turnsOntoItself_11 x (crn x)) (fun t => (nI (fb_ct (itp x) t), nI t)) (e := 8) (r := nI (fb_ct (itp x) 8)) (by
    intro t ht
    show st_X3_turnsOntoItself_11c x (crn x) (nI (fb_ct (itp x) t)) (nI t) = _
    unfold st_X3_turnsOntoItself_11c
    rw [if_neg (show ¬ (8 : Int32) ≤ nI t from nI_ge ht (by decide)), x3_turned x ht, b1s, x3_crn, b1s]
    simp only [hk_let, fb_ct_succ, i1, nI_add]
    have hp : itp x t = decide (crn (trn x t) = crn x) := rfl
    rw [hp]
    by_cases q : crn (trn x t) = crn x
    · rw [if_pos q, decide_eq_true q]; rfl
    · rw [if_neg q, decide_eq_false q]; rfl) (by
    show st_X3_turnsOntoItself_11c x (crn x) (nI (fb_ct (itp x) 8)) (nI 8) = _
    unfold st_X3_turnsOntoItself_11c
    rw [if_pos (by decide)]) (by decide)
  unfold f_X3_turnsOntoItself
  rw [x3_crn, b1s]
  have e' : hk_wl (st_X3_turnsOntoItself_11 x (crn x)) hkF ((0 : Int32), (0 : Int32)) = _ := e
  rw [e', b1s]
theorem shf_z {d e : Nat} (hd : d < 7) (he : e < 7) : shf 0 d e = 0 := bl_iff (fun j hj => by
  rw [shf_bit 0 hd he hj, bl_0]
  exact ⟨fun ⟨i, _, q, _⟩ => (by rw [bl_0] at q; cases q), fun q => (by cases q)⟩)
theorem itp_ex (x : Int64) {t : Nat} (ht : t < 8) : (∃ d e, d < 7 ∧ e < 7 ∧ sty (trn x t) d e = true ∧ shf (trn x t) d e = x) ↔ crn (trn x t) = crn x := by
  by_cases h0 : x = 0
  · subst h0
    rw [trn_z]
    refine ⟨fun _ => rfl, fun _ => ⟨3, 3, by omega, by omega, ?_, shf_z (by omega) (by omega)⟩⟩
    exact (sty_all 0 3 3).mpr (fun i hi q => (by rw [bl_0] at q; cases q))
  · constructor
    · rintro ⟨d, e, a1, a2, a3, a4⟩
      rw [← crn_shf a1 a2 a3 (trn_ne0 h0 ht), a4]
    · intro h
      exact shf_of (trn_ne0 h0 ht) h0 h
theorem x8_it1 {b : Nat → Int64} {j : Nat} (hj : j < 8) (z : Int64) : ∃ r, hk_wl (st_X8_itself_38 b (nI j) z) hkF ((0 : Int32), (0 : Int32)) = some r ∧ (r = 0 ↔ ¬ ∃ d e, d < 7 ∧ e < 7 ∧ sty z d e = true ∧ shf z d e = b j) := by
  refine wl_inv (f := st_X8_itself_38 b (nI j) z) (fun k s => s.2 = nI k ∧ (s.1 = 0 ↔ ¬ ∃ m, m < k ∧ sty z (m % 7) (m / 7) = true ∧ shf z (m % 7) (m / 7) = b j)) (fun r => r = 0 ↔ ¬ ∃ d e, d < 7 ∧ e < 7 ∧ sty z d e = true ∧ shf z d e = b j) (e := 49) ?_ ?_ (by decide) ?_
  · rintro k ⟨f, y⟩ hk ⟨h1, h2⟩
    dsimp only at h1 h2
    subst h1
    show ∃ s', st_X8_itself_38c b (nI j) z f (nI k) = some (.inl s') ∧ _
    unfold st_X8_itself_38c
    rw [if_neg (show ¬ (49 : Int32) ≤ nI k from nI_ge hk (by decide)), (sh7 hk).1, (sh7 hk).2, x8_stays z (show k % 7 < 7 by omega) (show k / 7 < 7 by omega), b1s, show nI k + 1 = nI (k + 1) from by rw [i1, nI_add], inb_nI hj (by decide), cl_nI (by omega)]
    have up : (∃ m, m < k + 1 ∧ sty z (m % 7) (m / 7) = true ∧ shf z (m % 7) (m / 7) = b j) ↔ (∃ m, m < k ∧ sty z (m % 7) (m / 7) = true ∧ shf z (m % 7) (m / 7) = b j) ∨ (sty z (k % 7) (k / 7) = true ∧ shf z (k % 7) (k / 7) = b j) := by
      constructor
      · rintro ⟨m, a, c⟩
        by_cases q : m = k
        · subst q; exact Or.inr c
        · exact Or.inl ⟨m, by omega, c⟩
      · rintro (⟨m, a, c⟩ | c)
        · exact ⟨m, by omega, c⟩
        · exact ⟨k, by omega, c⟩
    by_cases hf : f = 0
    · rw [if_pos hf]
      have hn := h2.mp hf
      cases hs : sty z (k % 7) (k / 7)
      · rw [if_neg (show ¬ false = true by decide), if_pos rfl, b1s]
        refine ⟨_, rfl, rfl, ⟨fun _ q => ?_, fun _ => rfl⟩⟩
        rcases up.mp q with q | q
        · exact hn q
        · rw [hs] at q; cases q.1
      · rw [if_pos rfl, if_neg ne_1_0, x8_shifted (by omega) (by omega) hs, b1s, gds]
        by_cases hq : shf z (k % 7) (k / 7) = b j
        · rw [if_pos hq, b1s]
          exact ⟨_, rfl, rfl, ⟨fun q => absurd q ne_1_0, fun q => absurd (up.mpr (Or.inr ⟨hs, hq⟩)) q⟩⟩
        · rw [if_neg hq, b1s]
          refine ⟨_, rfl, rfl, ⟨fun _ q => ?_, fun _ => rfl⟩⟩
          rcases up.mp q with q | q
          · exact hn q
          · exact hq q.2
    · rw [if_neg hf, b1s]
      have hy : ∃ m, m < k ∧ sty z (m % 7) (m / 7) = true ∧ shf z (m % 7) (m / 7) = b j := Classical.byContradiction (fun q => hf (h2.mpr q))
      exact ⟨_, rfl, rfl, ⟨fun q => absurd q ne_1_0, fun q => absurd (up.mpr (Or.inl hy)) q⟩⟩
  · rintro ⟨f, y⟩ ⟨h1, h2⟩
    dsimp only at h1 h2
    subst h1
    show ∃ r, st_X8_itself_38c b (nI j) z f (nI 49) = some (.inr r) ∧ _
    unfold st_X8_itself_38c
    rw [if_pos (show (49 : Int32) ≤ nI 49 by decide)]
    refine ⟨_, rfl, h2.trans (not_congr ⟨fun ⟨m, a, c⟩ => ⟨m % 7, m / 7, by omega, by omega, c⟩, fun ⟨d, e, a, c, g⟩ => ⟨7 * e + d, by omega, ?_⟩⟩)⟩
    rw [show (7 * e + d) % 7 = d by omega, show (7 * e + d) / 7 = e by omega]
    exact g
  · exact ⟨rfl, fun _ ⟨m, a, _⟩ => (by omega), fun _ => rfl⟩
theorem pr_itself {tn : Nat → Int32} (hn : ∀ t i, t < 8 → i < 64 → tn (64 * t + i) = nI (turnT t i)) {a b : Nat → Int64} (h : fe a b) (x : Int32) : ∃ r, f_X7_itself a x = some r ∧ f_X8_itself b tn x = some r := by
  unfold f_X7_itself f_X8_itself
  rcases ix_cases x 8 (by decide) with ⟨j, hj, rfl⟩ | hx
  · have e := wl_for0 (f := st_X8_itself_13 b tn (nI j)) (fun t => (nI (fb_ct (itp (b j)) t), nI t)) (e := 8) (r := nI (fb_ct (itp (b j)) 8)) (by
      intro t ht
      show st_X8_itself_13c b tn (nI j) (nI (fb_ct (itp (b j)) t)) (nI t) = _
      unfold st_X8_itself_13c
      obtain ⟨r, e1, e2⟩ := x8_it1 (b := b) hj (trn (b j) t)
      rw [itp_ex (b j) ht] at e2
      rw [if_neg (show ¬ (8 : Int32) ≤ nI t from nI_ge ht (by decide)), inb_nI hj (by decide), gds, cl_nI (by omega), x8_turned hn _ ht, b1s, e1, b1s]
      simp only [hk_let, fb_ct_succ]
      have hp : itp (b j) t = decide (crn (trn (b j) t) = crn (b j)) := rfl
      rw [hp]
      by_cases q : crn (trn (b j) t) = crn (b j)
      · rw [if_neg (fun q2 => e2.mp q2 q), decide_eq_true q, if_pos rfl, i1, nI_add, nI_add]
      · rw [if_pos (e2.mpr q), decide_eq_false q, if_neg (show ¬ false = true by decide), i0, i1, nI_add, nI_add]) (by
      show st_X8_itself_13c b tn (nI j) (nI (fb_ct (itp (b j)) 8)) (nI 8) = _
      unfold st_X8_itself_13c
      rw [if_pos (by decide)]) (by decide)
    have e' : hk_wl (st_X8_itself_13 b tn (nI j)) hkF ((0 : Int32), (0 : Int32)) = _ := e
    rw [noF_0 hj, isF_1 hj, b1s, b1s, if_pos rfl, if_neg ne_1_0, inb_nI hj (by decide), gds, cl_nI (by omega), h j hj, x3_itself, b1s, e', b1s]
    exact ⟨_, rfl, rfl⟩
  · rw [noF_1 hx, isF_0 hx, b1s, b1s]
    exact ⟨-1, by simp, by simp⟩
