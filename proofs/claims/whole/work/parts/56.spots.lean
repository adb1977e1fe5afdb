/-! the class's spots; the cap of 96 is never met -/
theorem cor_sh {x : Int64} {d e : Nat} (hd : d < 7) (he : e < 7) (h : sty x d e = true) (h0 : ¬ x = 0) {a b a' b' : Nat} (hc : cor x a b) (hc' : cor (shf x d e) a' b') : b' + 3 = b + e ∧ a' + 3 = a + d := by
  obtain ⟨ha, hb, h1, h2, h3⟩ := hc
  obtain ⟨ha', hb', h1', h2', h3'⟩ := hc'
  obtain ⟨⟨i1, p1, q1⟩, ⟨i2, p2, q2⟩⟩ := h2 h0
  obtain ⟨⟨j1, r1, s1⟩, ⟨j2, r2, s2⟩⟩ := h2' (shf_ne0 hd he h h0)
  have c1 := h1' _ (shf_cell hd he h p1)
  have c2 := h1' _ (shf_cell hd he h p2)
  obtain ⟨k1, _, u1, v1⟩ := (shf_bit x hd he (bl_lt r1)).mp r1
  obtain ⟨k2, _, u2, v2⟩ := (shf_bit x hd he (bl_lt r2)).mp r2
  have t1 := sty_in h p1
  have t2 := sty_in h p2
  have t3 := sty_in h u1
  have t4 := sty_in h u2
  have w1 := h1 _ u1
  have w2 := h1 _ u2
  omega
theorem shf_inj {x : Int64} (h0 : ¬ x = 0) {d e d' e' : Nat} (hd : d < 7) (he : e < 7) (hd' : d' < 7) (he' : e' < 7) (h : sty x d e = true) (h' : sty x d' e' = true) (q : shf x d e = shf x d' e') : d = d' ∧ e = e' := by
  obtain ⟨a, b, hc⟩ := cor_ex x
  obtain ⟨a', b', hc'⟩ := cor_ex (shf x d e)
  have h1 := cor_sh hd he h h0 hc hc'
  rw [q] at hc'
  have h2 := cor_sh hd' he' h' h0 hc hc'
  omega
/-- in the corner -/
theorem cor_00 {c : Int64} (h0 : ¬ c = 0) (h : crn c = c) : cor c 0 0 := by
  obtain ⟨a, b, hc⟩ := cor_ex c
  have hc0 := hc
  obtain ⟨ha, hb, h1, h2, h3⟩ := hc
  obtain ⟨⟨i1, p1, q1⟩, ⟨i2, p2, q2⟩⟩ := h2 h0
  rw [h] at h3
  have g : ∀ i, bl c i = true → bl c (i - (16 * b + 4 * a)) = true := fun i hi => by
    have := h1 i hi
    rw [h3, show 16 * b + 4 * a + (i - (16 * b + 4 * a)) = i by omega]
    exact hi
  have a1 := h1 _ (g _ p1)
  have a2 := h1 _ (g _ p2)
  have a3 := h1 _ p1
  have a4 := h1 _ p2
  have e1 : b = 0 := by omega
  have e2 : a = 0 := by omega
  rw [e1, e2] at hc0
  exact hc0
theorem sty_ge {c : Int64} (h0 : ¬ c = 0) (h : cor c 0 0) {d e : Nat} (hs : sty c d e = true) : 3 ≤ d ∧ 3 ≤ e := by
  obtain ⟨⟨i1, p1, q1⟩, ⟨i2, p2, q2⟩⟩ := h.2.2.2.1 h0
  have t1 := sty_in hs p1
  have t2 := sty_in hs p2
  omega
def stk (c : Int64) (m : Nat) : Bool := sty c (m % 4 + 3) (m / 4 + 3)
def shk (c : Int64) (m : Nat) : Int64 := shf c (m % 4 + 3) (m / 4 + 3)
theorem shk_all {c : Int64} (h0 : ¬ c = 0) (h : crn c = c) (u : Int64) : (∃ m, m < 16 ∧ stk c m = true ∧ shk c m = u) ↔ ¬ u = 0 ∧ crn u = c := by
  constructor
  · rintro ⟨m, hm, h1, rfl⟩
    exact ⟨shf_ne0 (by omega) (by omega) h1 h0, by unfold shk; rw [crn_shf (by omega) (by omega) h1 h0, h]⟩
  · rintro ⟨h1, h2⟩
    obtain ⟨d, e, hd, he, hs, q⟩ := shf_of h0 h1 (by rw [h, h2])
    have := sty_ge h0 (cor_00 h0 h) hs
    refine ⟨4 * (e - 3) + (d - 3), by omega, ?_⟩
    unfold stk shk
    rw [show (4 * (e - 3) + (d - 3)) % 4 + 3 = d by omega, show (4 * (e - 3) + (d - 3)) / 4 + 3 = e by omega]
    exact ⟨hs, q⟩
theorem shk_inj {c : Int64} (h0 : ¬ c = 0) {m m' : Nat} (hm : m < 16) (hm' : m' < 16) (h : stk c m = true) (h' : stk c m' = true) (q : shk c m = shk c m') : m = m' := by
  have := shf_inj h0 (by omega) (by omega) (by omega) (by omega) h h' q
  omega
theorem o3_3 (d : Nat) : nI d = o3 (d + 3) := by
  unfold o3
  rw [i3, pk_sub (by omega)]; rfl
/-- one block of the class's spots -/
def spt (k n : Nat) (fd : Nat → Int32) (sp : Nat → Int64) (fd' : Nat → Int32) (sp' : Nat → Int64) (S : Int64 → Prop) : Prop := fd' k = nI n ∧ enm n (fun q => sp' (96 * k + q)) S ∧ (∀ i, i ≠ k → fd' i = fd i) ∧ ∀ q, q < 96 * k ∨ 96 * k + 96 ≤ q → sp' q = sp q
theorem spt_c {k n : Nat} {fd : Nat → Int32} {sp : Nat → Int64} {fd' : Nat → Int32} {sp' : Nat → Int64} {S T : Int64 → Prop} (h : spt k n fd sp fd' sp' S) (e : ∀ v, S v ↔ T v) : spt k n fd sp fd' sp' T := ⟨h.1, enm_c h.2.1 e, h.2.2⟩
theorem x1_add {k : Nat} (hk : k < 4) {n : Nat} (hn : n < 96) {fd : Nat → Int32} {sp : Nat → Int64} {v : Nat → Int32} {w : Nat → Int64} {S : Int64 → Prop} (h : spt k n fd sp v w S) {u : Int64} (hu : ¬ S u) (f : Int64) : ∃ v' w' n', f_X1_addIfWithin v w (nI k) u f = some (v', w') ∧ n' ≤ n + 1 ∧ spt k n' fd sp v' w' (fun z => S z ∨ (z = u ∧ wth z f)) := by
  obtain ⟨h1, h2, h3, h4⟩ := h
  unfold f_X1_addIfWithin
  by_cases q : u &&& (f ^^^ (-1)) = 0
  · rw [if_pos q, inb_nI hk (by decide), gds, gds, gds, gds, cl_nI (by omega), h1, if_neg (show ¬ (96 : Int32) ≤ nI n from nI_ge hn (by decide)), show nI k * (96 : Int32) + nI n = nI (96 * k + n) from by rw [i96, pk_mul, nI_add, Nat.mul_comm], inb_nI (show 96 * k + n < 384 by omega) (by decide), gds, cl_nI (by omega), show nI n + 1 = nI (n + 1) from by rw [i1, nI_add]]
    refine ⟨_, _, n + 1, rfl, by omega, upd_s, ⟨fun a b hab hb => ?_, fun z => ?_⟩, fun i hi => ?_, fun j hj => ?_⟩
    · show ¬ vp_updL w (96 * k + n) u (96 * k + a) = vp_updL w (96 * k + n) u (96 * k + b)
      rw [updL_n (show 96 * k + a ≠ 96 * k + n by omega)]
      by_cases e : b = n
      · rw [e, updL_s]
        exact fun e2 => hu ((h2.2 u).mp ⟨a, by omega, e2⟩)
      · rw [updL_n (show 96 * k + b ≠ 96 * k + n by omega)]
        exact h2.1 a b hab (by omega)
    · constructor
      · rintro ⟨a, ha, ea⟩
        have ea : vp_updL w (96 * k + n) u (96 * k + a) = z := ea
        by_cases e : a = n
        · rw [e, updL_s] at ea
          exact Or.inr ⟨ea.symm, by rw [← ea]; exact q⟩
        · rw [updL_n (show 96 * k + a ≠ 96 * k + n by omega)] at ea
          exact Or.inl ((h2.2 z).mp ⟨a, by omega, ea⟩)
      · rintro (hz | ⟨hz, _⟩)
        · obtain ⟨a, ha, ea⟩ := (h2.2 z).mpr hz
          refine ⟨a, by omega, ?_⟩
          show vp_updL w (96 * k + n) u (96 * k + a) = z
          rw [updL_n (show 96 * k + a ≠ 96 * k + n by omega)]
          exact ea
        · refine ⟨n, by omega, ?_⟩
          show vp_updL w (96 * k + n) u (96 * k + n) = z
          rw [updL_s, hz]
    · rw [upd_n hi]; exact h3 i hi
    · rw [updL_n (show j ≠ 96 * k + n by omega)]; exact h4 j hj
  · rw [if_neg q]
    refine ⟨_, _, n, rfl, by omega, h1, enm_c h2 (fun z => ⟨Or.inl, fun hz => ?_⟩), h3, h4⟩
    rcases hz with hz | ⟨hz, hw⟩
    · exact hz
    · rw [hz] at hw; exact absurd hw q
theorem x1_sh1 {k : Nat} (hk : k < 4) {c : Int64} (h0 : ¬ c = 0) (f : Int64) {n0 : Nat} (hB : n0 + fb_ct (stk c) 16 ≤ 96) {fd : Nat → Int32} {sp : Nat → Int64} {S : Int64 → Prop} (hS : ∀ m, m < 16 → stk c m = true → ¬ S (shk c m)) {e : Nat} (he : e < 4) {v : Nat → Int32} {w : Nat → Int64} {n : Nat} (hn : n ≤ n0 + fb_ct (stk c) (4 * e)) (h : spt k n fd sp v w (fun u => S u ∨ (∃ m, m < 4 * e ∧ stk c m = true ∧ shk c m = u) ∧ wth u f)) : ∃ r, hk_wl (st_X1_findShifts_12 (nI k) c f (nI e)) hkF ((0 : Int32), v, w) = some r ∧ ∃ n', n' ≤ n0 + fb_ct (stk c) (4 * (e + 1)) ∧ spt k n' fd sp r.1 r.2 (fun u => S u ∨ (∃ m, m < 4 * (e + 1) ∧ stk c m = true ∧ shk c m = u) ∧ wth u f) := by
  refine wl_inv (f := st_X1_findShifts_12 (nI k) c f (nI e)) (fun d s => s.1 = nI d ∧ ∃ n', n' ≤ n0 + fb_ct (stk c) (4 * e + d) ∧ spt k n' fd sp s.2.1 s.2.2 (fun u => S u ∨ (∃ m, m < 4 * e + d ∧ stk c m = true ∧ shk c m = u) ∧ wth u f)) (fun r => ∃ n', n' ≤ n0 + fb_ct (stk c) (4 * (e + 1)) ∧ spt k n' fd sp r.1 r.2 (fun u => S u ∨ (∃ m, m < 4 * (e + 1) ∧ stk c m = true ∧ shk c m = u) ∧ wth u f)) (e := 4) ?_ ?_ (by decide) ⟨rfl, n, hn, h⟩
  · rintro d ⟨y, v1, w1⟩ hd ⟨h1, n1, h2, h3⟩
    dsimp only at h1 h3
    subst h1
    show ∃ s', st_X1_findShifts_12c (nI k) c f (nI e) (nI d) v1 w1 = some (.inl s') ∧ _
    unfold st_X1_findShifts_12c
    have ek : stk c (4 * e + d) = sty c (d + 3) (e + 3) := by unfold stk; rw [show (4 * e + d) % 4 = d by omega, show (4 * e + d) / 4 = e by omega]
    have eh : shk c (4 * e + d) = shf c (d + 3) (e + 3) := by unfold shk; rw [show (4 * e + d) % 4 = d by omega, show (4 * e + d) / 4 = e by omega]
    have hct : fb_ct (stk c) (4 * e + (d + 1)) = fb_ct (stk c) (4 * e + d) + (if stk c (4 * e + d) = true then 1 else 0) := fb_ct_succ _ _
    have hmo := fb_ct_mono (stk c) (show 4 * e + (d + 1) ≤ 16 by omega)
    rw [if_neg (show ¬ (4 : Int32) ≤ nI d from nI_ge hd (by decide)), show nI d + 1 = nI (d + 1) from by rw [i1, nI_add], o3_3 d, o3_3 e, x3_stays c (show d + 3 < 7 by omega) (show e + 3 < 7 by omega), b1s, x3_shifted c (show d + 3 < 7 by omega) (show e + 3 < 7 by omega), ← ek, ← eh]
    cases hs : stk c (4 * e + d)
    · rw [if_neg (show ¬ false = true by decide), if_pos rfl, b2s]
      rw [hs] at hct
      refine ⟨_, rfl, rfl, n1, by rw [hct]; omega, spt_c h3 (fun u => or_congr_right (and_congr_left (fun _ => ?_)))⟩
      refine ⟨fun ⟨m, a, b, g⟩ => ⟨m, by omega, b, g⟩, fun ⟨m, a, b, g⟩ => ⟨m, ?_, b, g⟩⟩
      by_cases q : m = 4 * e + d
      · rw [q, hs] at b; cases b
      · omega
    · rw [hs, if_pos rfl] at hct
      rw [if_pos rfl, if_neg ne_1_0, b1s]
      have hnew : ¬ (S (shk c (4 * e + d)) ∨ (∃ m, m < 4 * e + d ∧ stk c m = true ∧ shk c m = shk c (4 * e + d)) ∧ wth (shk c (4 * e + d)) f) := fun q => by
        rcases q with q | ⟨⟨m, a, b, g⟩, _⟩
        · exact hS _ (by omega) hs q
        · have := shk_inj h0 (by omega) (by omega) b hs g
          omega
      obtain ⟨v', w', n', e1, e2, e3⟩ := x1_add hk (show n1 < 96 by omega) h3 hnew f
      rw [e1, b2s, b2s]
      refine ⟨_, rfl, rfl, n', by rw [hct]; omega, spt_c e3 (fun u => ?_)⟩
      constructor
      · rintro ((a | ⟨⟨m, a, b, g⟩, hw⟩) | ⟨a, hw⟩)
        · exact Or.inl a
        · exact Or.inr ⟨⟨m, by omega, b, g⟩, hw⟩
        · exact Or.inr ⟨⟨4 * e + d, by omega, hs, a.symm⟩, hw⟩
      · rintro (a | ⟨⟨m, a, b, g⟩, hw⟩)
        · exact Or.inl (Or.inl a)
        · by_cases q : m = 4 * e + d
          · rw [q] at g; exact Or.inr ⟨g.symm, hw⟩
          · exact Or.inl (Or.inr ⟨⟨m, by omega, b, g⟩, hw⟩)
  · rintro ⟨y, v1, w1⟩ ⟨h1, n1, h2, h3⟩
    dsimp only at h1 h3
    subst h1
    show ∃ r, st_X1_findShifts_12c (nI k) c f (nI e) (nI 4) v1 w1 = some (.inr r) ∧ _
    unfold st_X1_findShifts_12c
    rw [if_pos (show (4 : Int32) ≤ nI 4 by decide)]
    exact ⟨_, rfl, n1, h2, h3⟩
theorem x1_shifts {k : Nat} (hk : k < 4) {c : Int64} (h0 : ¬ c = 0) (hc : crn c = c) (f : Int64) {n0 : Nat} (hB : n0 + fb_ct (stk c) 16 ≤ 96) {fd : Nat → Int32} {sp : Nat → Int64} {S : Int64 → Prop} (hS : ∀ u, S u → ¬ crn u = c) {v : Nat → Int32} {w : Nat → Int64} (h : spt k n0 fd sp v w S) : ∃ v' w' n', f_X1_findShifts v w (nI k) c f = some (v', w') ∧ n' ≤ n0 + fb_ct (stk c) 16 ∧ spt k n' fd sp v' w' (fun u => S u ∨ (¬ u = 0 ∧ crn u = c) ∧ wth u f) := by
  have hS' : ∀ m, m < 16 → stk c m = true → ¬ S (shk c m) := fun m hm hs q => hS _ q ((shk_all h0 hc _).mp ⟨m, hm, hs, rfl⟩).2
  have e := wl_inv (f := st_X1_findShifts_3 (nI k) c f) (fun e s => s.1 = nI e ∧ ∃ n', n' ≤ n0 + fb_ct (stk c) (4 * e) ∧ spt k n' fd sp s.2.1 s.2.2 (fun u => S u ∨ (∃ m, m < 4 * e ∧ stk c m = true ∧ shk c m = u) ∧ wth u f)) (fun r => ∃ n', n' ≤ n0 + fb_ct (stk c) 16 ∧ spt k n' fd sp r.1 r.2 (fun u => S u ∨ (¬ u = 0 ∧ crn u = c) ∧ wth u f)) (e := 4) (s := ((0 : Int32), v, w)) (by
    rintro e ⟨y, v1, w1⟩ he ⟨h1, n1, h2, h3⟩
    dsimp only at h1 h3
    subst h1
    show ∃ s', st_X1_findShifts_3c (nI k) c f (nI e) v1 w1 = some (.inl s') ∧ _
    unfold st_X1_findShifts_3c
    obtain ⟨⟨r1, r2⟩, e1, n2, e2, e3⟩ := x1_sh1 hk h0 f hB hS' he h2 h3
    rw [if_neg (show ¬ (4 : Int32) ≤ nI e from nI_ge he (by decide)), e1, b2s, show nI e + 1 = nI (e + 1) from by rw [i1, nI_add]]
    exact ⟨_, rfl, rfl, n2, e2, e3⟩) (by
    rintro ⟨y, v1, w1⟩ ⟨h1, n1, h2, h3⟩
    dsimp only at h1 h3
    subst h1
    show ∃ r, st_X1_findShifts_3c (nI k) c f (nI 4) v1 w1 = some (.inr r) ∧ _
    unfold st_X1_findShifts_3c
    rw [if_pos (show (4 : Int32) ≤ nI 4 by decide)]
    exact ⟨_, rfl, n1, h2, spt_c h3 (fun u => or_congr_right (and_congr_left (fun _ => shk_all h0 hc u)))⟩) (by decide) ⟨rfl, n0, by omega, spt_c h (fun u => ⟨Or.inl, fun q => q.resolve_right (fun ⟨⟨m, a, _⟩, _⟩ => by omega)⟩)⟩
  obtain ⟨⟨r1, r2⟩, e1, n', e2, e3⟩ := e
  unfold f_X1_findShifts
  rw [e1, b2s]
  exact ⟨_, _, n', rfl, e2, e3⟩
