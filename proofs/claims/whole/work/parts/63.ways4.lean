/-! the reference's ways: the whole -/
def sm (ld : Nat → Int64) : Nat → Nat
  | 0 => 0
  | i + 1 => sm ld i + popc (ld i)
theorem sm_le (ld : Nat → Int64) : ∀ n, sm ld n ≤ 64 * n
  | 0 => Nat.le_refl _
  | n + 1 => by
    have h1 := sm_le ld n
    have h2 := popc_le (ld n)
    show sm ld n + popc (ld n) ≤ _
    omega
theorem sm_c {p q : Nat → Int64} (h : ∀ i, i < 4 → p i = q i) : ∀ n, n ≤ 4 → sm p n = sm q n
  | 0, _ => rfl
  | n + 1, hn => by
    show sm p n + popc (p n) = sm q n + popc (q n)
    rw [sm_c h n (by omega), h n (by omega)]
theorem cnt_96 {p : Int64} (hp : ¬ p = 0) (m : Int32) (f : Int64) : cnt (WK p (TT m) f) ≤ 96 := by
  obtain ⟨fd', ts', sp', n, _, h2, h3⟩ := find_spots (k := 0) (by decide) (fun _ => 0) (fun _ => m) (fun _ => p) hp (fun _ => 0) (fun _ => 0) f
  rw [cnt_is h3.2.1]
  exact h2
/-- the places of the first n pieces -/
def plc (ld : Nat → Int64) (mm : Nat → Int32) (f : Int64) (n : Nat) (pm : Nat → Int32) (pl : Nat → Int64) : Prop := ∀ j, j < n → pm j = nI (cnt (WK (ld j) (TT (mm j)) f)) ∧ srt (cnt (WK (ld j) (TT (mm j)) f)) (fun q => pl (400 * j + q)) (WK (ld j) (TT (mm j)) f)
theorem x8_lw5 {tn : Nat → Int32} (ht : ∀ t i, t < 8 → i < 64 → tn (64 * t + i) = nI (turnT t i)) {n : Nat} (hn : n ≤ 4) (ld : Nat → Int64) (mm : Nat → Int32) (f : Int64) (lm : Int32) (lk : Nat → Int64) (pm : Nat → Int32) (pl fs : Nat → Int64) : ∃ r, hk_wl (st_X8_layWays_5 (nI n) ld mm tn f) hkF ((0 : Int32), (0 : Int32), lm, lk, pm, pl, fs) = some r ∧ (r.1 = nI (sm ld n) ∧ plc ld mm f n r.2.2.2.1 r.2.2.2.2.1) := by
  refine wl_inv (f := st_X8_layWays_5 (nI n) ld mm tn f) (fun i s => s.2.1 = nI i ∧ s.1 = nI (sm ld i) ∧ plc ld mm f i s.2.2.2.2.1 s.2.2.2.2.2.1) (fun r => r.1 = nI (sm ld n) ∧ plc ld mm f n r.2.2.2.1 r.2.2.2.2.1) (e := n) ?_ ?_ (by omega) ⟨rfl, rfl, fun j hj => by omega⟩
  · rintro i ⟨y, z, v, w, u, o, x⟩ hi ⟨h1, h2, h3⟩
    dsimp only at h1 h2 h3
    subst h1 h2
    show ∃ s', st_X8_layWays_5c (nI n) ld mm tn f (nI (sm ld i)) (nI i) v w u o x = some (.inl s') ∧ _
    unfold st_X8_layWays_5c
    obtain ⟨lm', lk', pm', pl', c, g1, g2, g3, g4, g5, g6⟩ := lay_places ht (show i < 4 by omega) v ld mm w u o f
    have hc := cnt_is (srt_enm g4)
    rw [if_neg (nI_ge hi (by omega)), g1, b4s, inb_nI (show i < 4 by omega) (by decide), gds, cl_nI (show i < 2 ^ 31 by omega), ones_popc, b1s, let_s, gds, let_s, nI_add, show nI i + 1 = nI (i + 1) from by rw [i1, nI_add]]
    refine ⟨_, rfl, rfl, rfl, fun j hj => ?_⟩
    by_cases e : j = i
    · rw [e, hc]
      exact ⟨g2, g4⟩
    · obtain ⟨k1, k2⟩ := h3 j (by omega)
      refine ⟨by rw [← k1]; exact g5 j e, ⟨fun a b hab hb => ?_, fun t => ?_⟩⟩
      · have hle : cnt (WK (ld j) (TT (mm j)) f) ≤ 400 → uv (pl' (400 * j + a)) < uv (pl' (400 * j + b)) := fun hle => by
          rw [g6 _ (by omega), g6 _ (by omega)]
          exact k2.1 a b hab hb
        obtain ⟨_, _, pm2, pl2, c2, _, _, q3, q4, _, _⟩ := lay_places ht (show j < 4 by omega) v ld mm w u o f
        exact hle (by rw [cnt_is (srt_enm q4)]; omega)
      · obtain ⟨_, _, pm2, pl2, c2, _, _, q3, q4, _, _⟩ := lay_places ht (show j < 4 by omega) v ld mm w u o f
        have hle : cnt (WK (ld j) (TT (mm j)) f) ≤ 400 := by rw [cnt_is (srt_enm q4)]; omega
        rw [← k2.2 t]
        constructor
        · rintro ⟨a, ha, ea⟩
          have ea : pl' (400 * j + a) = t := ea
          rw [g6 _ (by omega)] at ea
          exact ⟨a, ha, ea⟩
        · rintro ⟨a, ha, ea⟩
          refine ⟨a, ha, ?_⟩
          show pl' (400 * j + a) = t
          rw [g6 _ (by omega)]
          exact ea
  · rintro ⟨y, z, v, w, u, o, x⟩ ⟨h1, h2, h3⟩
    dsimp only at h1 h2 h3
    subst h1 h2
    show ∃ r, st_X8_layWays_5c (nI n) ld mm tn f (nI (sm ld n)) (nI n) v w u o x = some (.inr r) ∧ _
    unfold st_X8_layWays_5c
    rw [if_pos (Int32.le_refl _)]
    exact ⟨_, rfl, rfl, h3⟩
/-- the list of ways, from the places -/
noncomputable def wys (ld : Nat → Int64) (mm : Nat → Int32) (f : Int64) (pl : Nat → Int64) (n : Nat) : List (List Int64) := cmpl (GG pl) (fun j => cnt (WK (ld j) (TT (mm j)) f)) n 0 f
theorem cmpl_len (G : Nat → Nat → Int64) {ct : Nat → Nat} : ∀ r y l, (∀ i, i < y + r → ct i ≤ 96) → (cmpl G ct r y l).length ≤ 96 ^ r
  | 0, y, l, _ => Nat.le_refl _
  | r + 1, y, l, h => by
    have ih := fun l' => cmpl_len G r (y + 1) l' (fun i hi => h i (by omega))
    have key : ∀ k a, (cf G ct r y l a k).length ≤ k * 96 ^ r := by
      intro k
      induction k with
      | zero => intro a; rw [cf_0]; exact Nat.zero_le _
      | succ k ih2 =>
        intro a
        have h1 := ih2 (a + 1)
        rw [cf_s, List.length_append, Nat.add_mul, Nat.one_mul]
        have h2 : (if fits G y a l = true then (cmpl G ct r (y + 1) (l &&& (G y a ^^^ (-1)))).map (fun t => G y a :: t) else []).length ≤ 96 ^ r := by
          split
          · rw [List.length_map]; exact ih _
          · exact Nat.zero_le _
        omega
    rw [cmpl_s, Nat.pow_succ, Nat.mul_comm]
    exact Nat.le_trans (key _ _) (Nat.mul_le_mul_right _ (h y (by omega)))
theorem x8_lw95 {n : Nat} (hn : n ≤ 4) (h0 : 0 < n) {ld : Nat → Int64} (hld : ∀ i, i < n → ¬ ld i = 0) {mm : Nat → Int32} {f : Int64} {pm : Nat → Int32} {pl : Nat → Int64} (hp : plc ld mm f n pm pl) (fs : Nat → Int64) (now : Nat → Int32) : ∃ fs' now', hk_wl (st_X8_layWays_95 (nI n) f pm pl) hkF ((0 : Int32), (0 : Int32), fs, upd now 0 0) = some (nI (wys ld mm f pl n).length, fs', now') ∧ ∀ h t, wys ld mm f pl n = h :: t → ∀ i, i < n → fs' i = h.getD i 0 := by
  have hct : ∀ i, i < n → pm i = nI ((fun j => cnt (WK (ld j) (TT (mm j)) f)) i) ∧ (fun j => cnt (WK (ld j) (TT (mm j)) f)) i ≤ 96 := fun i hi => ⟨(hp i hi).1, cnt_96 (hld i hi) _ _⟩
  obtain ⟨r, rfl⟩ : ∃ r, n = r + 1 := ⟨n - 1, by omega⟩
  have hw : wys ld mm f pl (r + 1) = cf (GG pl) (fun j => cnt (WK (ld j) (TT (mm j)) f)) r 0 f 0 (cnt (WK (ld 0) (TT (mm 0)) f)) := rfl
  have hlen := cmpl_len (GG pl) (r + 1) 0 f (ct := fun j => cnt (WK (ld j) (TT (mm j)) f)) (fun i hi => (hct i (by omega)).2)
  have hlen2 : (wys ld mm f pl (r + 1)).length ≤ 96 ^ 4 := Nat.le_trans hlen (Nat.pow_le_pow_right (by decide) hn)
  have h96 : (96 : Nat) ^ 4 = 84934656 := by decide
  have H := lv_all hn hct r 0 (f := f) (pl := pl) (by omega) (cnt (WK (ld 0) (TT (mm 0)) f)) 0 0 fs (upd now 0 0) (fun _ => 0) (Nat.zero_add _) upd_s (fun i hi => by omega)
  have hl0 : lfv (GG pl) (fun _ => 0) f 0 = f := rfl
  rw [hl0, ← hw] at H
  obtain ⟨d, fs1, now1, g1, g2, g3, g4, g5⟩ := H (by omega)
  rw [Nat.zero_add] at g2
  have hend : st_X8_layWays_95 (nI (r + 1)) f pm pl (nI (wys ld mm f pl (r + 1)).length, nI 0 + (-1), fs1, now1) = some (.inr (nI (wys ld mm f pl (r + 1)).length, fs1, now1)) := by
    generalize nI (wys ld mm f pl (r + 1)).length = q
    show st_X8_layWays_95c (nI (r + 1)) f pm pl q (nI 0 + (-1)) fs1 now1 = _
    unfold st_X8_layWays_95c
    rw [if_pos m1lt]
  have hd : d + 1 < hkF := by
    refine hkF_big ?_
    have h3 : DD r ≤ DD 3 := by
      have : r = 0 ∨ r = 1 ∨ r = 2 ∨ r = 3 := by omega
      rcases this with rfl | rfl | rfl | rfl <;> decide
    have h4 : DD 3 = 903361 := by decide
    have h5 := (hct 0 (by omega)).2
    have h6 := Nat.mul_le_mul h5 (show 1 + DD r ≤ 903362 by omega)
    have h6' : cnt (WK (ld 0) (TT (mm 0)) f) * (1 + DD r) ≤ 96 * 903362 := h6
    omega
  obtain ⟨m, hm⟩ : ∃ m, hkF = m + 1 + (d + 1) := ⟨hkF - (d + 2), by omega⟩
  have e : hk_wl (st_X8_layWays_95 (nI (r + 1)) f pm pl) hkF (nI 0, nI 0, fs, upd now 0 0) = some (nI (wys ld mm f pl (r + 1)).length, fs1, now1) := by
    rw [hm, g2 (m + 1), wl_end hend]
  refine ⟨fs1, now1, e, fun h t z i hi => ?_⟩
  have := (g5.2 rfl h t z).2 i (by omega)
  rw [Nat.zero_add] at this
  exact this
