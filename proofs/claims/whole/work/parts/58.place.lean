/-! places, place, idle -/
noncomputable def cnt (S : Int64 → Prop) : Nat := Classical.epsilon (fun n => ∃ g, enm n g S)
theorem cnt_is {n : Nat} {g : Nat → Int64} {S : Int64 → Prop} (h : enm n g S) : cnt S = n := by
  have e : ∃ g', enm (cnt S) g' S := Classical.epsilon_spec (p := fun n => ∃ g, enm n g S) ⟨n, g, h⟩
  obtain ⟨g', h'⟩ := e
  exact enm_eq h' h
/-- what the two stores of pieces have in common -/
def pcs (n : Nat) (p q : Nat → Int64) (m k : Nat → Int32) : Prop := n ≤ 4 ∧ (∀ i, i < 4 → p i = q i) ∧ (∀ i, i < n → ¬ p i = 0) ∧ ∀ i, i < 4 → m i = k i
theorem pr_places {tn : Nat → Int32} (ht : ∀ t i, t < 8 → i < 64 → tn (64 * t + i) = nI (turnT t i)) {n : Nat} {p q : Nat → Int64} {m k : Nat → Int32} (hp : pcs n p q m k) {a b : Nat → Int64} (h : fe a b) (fd : Nat → Int32) (ts sp : Nat → Int64) (lm : Int32) (lk : Nat → Int64) (pm : Nat → Int32) (pl : Nat → Int64) (x y : Int32) : ∃ r fd' ts' sp' lm' lk' pm' pl', f_X7_places (nI n) a fd m p ts sp x y = some (r, fd', ts', sp') ∧ f_X8_places lm (nI n) b q k tn lk pm pl x y = some (r, lm', lk', pm', pl') := by
  obtain ⟨h1, h2, h3, h4⟩ := hp
  unfold f_X7_places f_X8_places
  rcases pc_cases h1 x with ⟨i, hi, rfl, e1, e2⟩ | ⟨e1, e2⟩
  · rw [e1, e2, b1s, b1s, if_pos rfl, if_neg ne_1_0]
    rcases ix_cases y 8 (by decide) with ⟨j, hj, rfl⟩ | hx
    · have hi4 : i < 4 := by omega
      obtain ⟨fd', ts', sp', c, g1, g2, g3⟩ := find_spots hi4 fd m p (h3 i hi) ts sp (a j)
      obtain ⟨lm', lk', pm', pl', c', g4, g5⟩ := lay_places ht hi4 lm q k lk pm pl (b j)
      rw [h2 i hi4, h4 i hi4, h j hj] at g3
      have ec := enm_eq g3.2.1 (srt_enm g5.2.2.1)
      rw [noF_0 hj, isF_1 hj, b1s, b1s, if_pos rfl, if_neg ne_1_0, inb_nI hj (by decide), gds, gds, cl_nI (by omega), g1, b4s, g4, b4s, inb_nI hi4 (by decide), gds, cl_nI (by omega), g5.1, ec]
      exact ⟨_, _, _, _, _, _, _, _, rfl, rfl⟩
    · rw [noF_1 hx, isF_0 hx, b1s, b1s]
      exact ⟨-1, fd, ts, sp, lm, lk, pm, pl, by simp, by simp⟩
  · rw [e1, e2, b1s, b1s]
    exact ⟨-1, fd, ts, sp, lm, lk, pm, pl, by simp, by simp⟩
def lsp (g : Nat → Int64) : Nat → Int64
  | 0 => 0
  | i + 1 => if i = 0 then g i else if uv (g i) < uv (lsp g i) then g i else lsp g i
theorem lsp_ok (g : Nat → Int64) : ∀ n, (∃ i, i < n + 1 ∧ g i = lsp g (n + 1)) ∧ ∀ i, i < n + 1 → uv (lsp g (n + 1)) ≤ uv (g i)
  | 0 => ⟨⟨0, by omega, rfl⟩, fun i hi => by rw [show i = 0 by omega]; exact Nat.le_refl _⟩
  | n + 1 => by
    obtain ⟨⟨i, hi, ei⟩, h2⟩ := lsp_ok g n
    have e : lsp g (n + 1 + 1) = if n + 1 = 0 then g (n + 1) else if uv (g (n + 1)) < uv (lsp g (n + 1)) then g (n + 1) else lsp g (n + 1) := rfl
    rw [e, if_neg (by omega)]
    by_cases q : uv (g (n + 1)) < uv (lsp g (n + 1))
    · rw [if_pos q]
      refine ⟨⟨n + 1, by omega, rfl⟩, fun i hi => ?_⟩
      by_cases z : i = n + 1
      · rw [z]; exact Nat.le_refl _
      · have := h2 i (by omega); omega
    · rw [if_neg q]
      refine ⟨⟨i, by omega, ei⟩, fun i hi => ?_⟩
      by_cases z : i = n + 1
      · rw [z]; omega
      · exact h2 i (by omega)
theorem x1_leastSpot {k n : Nat} (hk : k < 4) (hn : n ≤ 96) {fd : Nat → Int32} (hf : fd k = nI n) (sp : Nat → Int64) : f_X1_leastSpot fd sp (nI k) = some (lsp (fun q => sp (96 * k + q)) n) := by
  have hend : ∀ u, st_X1_leastSpot_5 fd sp (nI k) (u, nI n) = some (.inr u) := fun u => by
    show st_X1_leastSpot_5c fd sp (nI k) u (nI n) = _
    unfold st_X1_leastSpot_5c
    rw [inb_nI hk (by decide), gds, cl_nI (by omega), hf, if_pos (Int32.le_refl _)]
  have e := wl_for0 (f := st_X1_leastSpot_5 fd sp (nI k)) (fun i => (lsp (fun q => sp (96 * k + q)) i, nI i)) (e := n) (r := lsp (fun q => sp (96 * k + q)) n) (by
    intro i hi
    show st_X1_leastSpot_5c fd sp (nI k) (lsp (fun q => sp (96 * k + q)) i) (nI i) = _
    unfold st_X1_leastSpot_5c
    rw [inb_nI hk (by decide), gds, cl_nI (by omega), hf, if_neg (nI_ge hi (by omega)), show nI k * (96 : Int32) + nI i = nI (96 * k + i) from by rw [i96, pk_mul, nI_add, Nat.mul_comm], inb_nI (show 96 * k + i < 384 by omega) (by decide), gds, cl_nI (by omega)]
    have hs : lsp (fun q => sp (96 * k + q)) (i + 1) = if i = 0 then sp (96 * k + i) else if uv (sp (96 * k + i)) < uv (lsp (fun q => sp (96 * k + q)) i) then sp (96 * k + i) else lsp (fun q => sp (96 * k + q)) i := rfl
    rw [hs]
    simp only [hk_let, isLess_uv, b1s, show nI i + 1 = nI (i + 1) from by rw [i1, nI_add]]
    by_cases q0 : i = 0
    · subst q0
      rw [if_pos (show nI 0 = 0 from rfl), if_pos rfl, b1s]
    · have q1 : ¬ nI i = 0 := fun e => q0 (nI_ij (by omega) (by decide) e)
      rw [if_neg q1, if_neg q0]
      by_cases q : uv (sp (96 * k + i)) < uv (lsp (fun q => sp (96 * k + q)) i)
      · rw [if_pos q, if_pos q, if_neg ne_1_0, b1s]
      · rw [if_neg q, if_neg q, if_pos rfl, b1s]) (hend _) (by omega)
  unfold f_X1_leastSpot
  have e' : hk_wl (st_X1_leastSpot_5 fd sp (nI k)) hkF ((0 : Int64), (0 : Int32)) = _ := e
  rw [e', b1s]
theorem least_eq {n : Nat} {g w : Nat → Int64} {S : Int64 → Prop} (h1 : enm n g S) (h2 : srt n w S) (hn : 0 < n) : lsp g n = w 0 := by
  obtain ⟨m, rfl⟩ : ∃ m, n = m + 1 := ⟨n - 1, by omega⟩
  obtain ⟨⟨i, hi, ei⟩, h3⟩ := lsp_ok g m
  obtain ⟨j, hj, ej⟩ := (h2.2 _).mpr ((h1.2 _).mp ⟨i, hi, ei⟩)
  obtain ⟨l, hl, el⟩ := (h1.2 _).mpr ((h2.2 _).mp ⟨0, hn, rfl⟩)
  have a1 := h3 l hl
  rw [el] at a1
  apply uv_inj
  by_cases q : j = 0
  · rw [q] at ej; rw [ej]
  · have := h2.1 0 j (by omega) hj
    rw [ej] at this
    omega
theorem pr_place {tn : Nat → Int32} (ht : ∀ t i, t < 8 → i < 64 → tn (64 * t + i) = nI (turnT t i)) {n : Nat} {p q : Nat → Int64} {m k : Nat → Int32} (hp : pcs n p q m k) {a b : Nat → Int64} (h : fe a b) (fd : Nat → Int32) (ts sp : Nat → Int64) (lm : Int32) (lk : Nat → Int64) (pm : Nat → Int32) (pl : Nat → Int64) (x y : Int32) : ∃ r fd' ts' sp' lm' lk' pm' pl', f_X7_place (nI n) a fd m p ts sp x y = some (r, fd', ts', sp') ∧ f_X8_place lm (nI n) b q k tn lk pm pl x y = some (r, lm', lk', pm', pl') := by
  obtain ⟨h1, h2, h3, h4⟩ := hp
  unfold f_X7_place f_X8_place
  rcases pc_cases h1 x with ⟨i, hi, rfl, e1, e2⟩ | ⟨e1, e2⟩
  · rw [e1, e2, b1s, b1s, if_pos rfl, if_neg ne_1_0]
    rcases ix_cases y 8 (by decide) with ⟨j, hj, rfl⟩ | hx
    · have hi4 : i < 4 := by omega
      obtain ⟨fd', ts', sp', c, g1, g2, g3⟩ := find_spots hi4 fd m p (h3 i hi) ts sp (a j)
      obtain ⟨lm', lk', pm', pl', c', g4, g5⟩ := lay_places ht hi4 lm q k lk pm pl (b j)
      rw [h2 i hi4, h4 i hi4, h j hj] at g3
      have ec := enm_eq g3.2.1 (srt_enm g5.2.2.1)
      subst ec
      rw [noF_0 hj, isF_1 hj, b1s, b1s, if_pos rfl, if_neg ne_1_0, inb_nI hj (by decide), gds, gds, cl_nI (by omega), g1, b4s, g4, b4s, inb_nI hi4 (by decide), gds, cl_nI (by omega), g5.1, x1_leastSpot hi4 g2 g3.1, b1s, show (400 : Int32) * nI i = nI (400 * i) from by rw [i400, pk_mul], inb_nI (show 400 * i < 1600 by omega) (by decide), gds, cl_nI (by omega)]
      by_cases z : c = 0
      · subst z
        rw [if_pos (show nI 0 = 0 from rfl)]
        exact ⟨_, _, _, _, _, _, _, _, rfl, rfl⟩
      · have z' : ¬ nI c = 0 := fun e => z (nI_ij (by omega) (by decide) e)
        rw [if_neg z', least_eq g3.2.1 g5.2.2.1 (by omega)]
        exact ⟨_, _, _, _, _, _, _, _, rfl, rfl⟩
    · rw [noF_1 hx, isF_0 hx, b1s, b1s]
      exact ⟨0, fd, ts, sp, lm, lk, pm, pl, by simp, by simp⟩
  · rw [e1, e2, b1s, b1s]
    exact ⟨0, fd, ts, sp, lm, lk, pm, pl, by simp, by simp⟩
noncomputable def idm (p : Nat → Int64) (m : Nat → Int32) (f : Int64) : Nat → Int32
  | 0 => 0
  | i + 1 => if cnt (WK (p i) (TT (m i)) f) = 0 then idm p m f i ||| hk_ishl 1 (nI i) else idm p m f i
theorem idm_c {p q : Nat → Int64} {m k : Nat → Int32} (h1 : ∀ i, i < 4 → p i = q i) (h2 : ∀ i, i < 4 → m i = k i) (f : Int64) : ∀ n, n ≤ 4 → idm p m f n = idm q k f n
  | 0, _ => rfl
  | n + 1, hn => by
    have ih := idm_c h1 h2 f n (by omega)
    show (if cnt (WK (p n) (TT (m n)) f) = 0 then idm p m f n ||| hk_ishl 1 (nI n) else idm p m f n) = (if cnt (WK (q n) (TT (k n)) f) = 0 then idm q k f n ||| hk_ishl 1 (nI n) else idm q k f n)
    rw [ih, h1 n (by omega), h2 n (by omega)]
theorem x7_idle {n : Nat} (hn : n ≤ 4) {p : Nat → Int64} (hp : ∀ i, i < n → ¬ p i = 0) (m : Nat → Int32) (a : Nat → Int64) {j : Nat} (hj : j < 8) (fd : Nat → Int32) (ts sp : Nat → Int64) : ∃ r, hk_wl (st_X7_idle_13 (nI n) a m p (nI j)) hkF ((0 : Int32), (0 : Int32), fd, ts, sp) = some r ∧ r.1 = idm p m (a j) n := by
  refine wl_inv (f := st_X7_idle_13 (nI n) a m p (nI j)) (fun i s => s.2.1 = nI i ∧ s.1 = idm p m (a j) i) (fun r => r.1 = idm p m (a j) n) (e := n) ?_ ?_ (by omega) ⟨rfl, rfl⟩
  · rintro i ⟨y, z, v, w, u⟩ hi ⟨h1, h2⟩
    dsimp only at h1 h2
    subst h1 h2
    show ∃ s', st_X7_idle_13c (nI n) a m p (nI j) (idm p m (a j) i) (nI i) v w u = some (.inl s') ∧ _
    unfold st_X7_idle_13c
    obtain ⟨fd', ts', sp', c, g1, g2, g3⟩ := find_spots (show i < 4 by omega) v m p (hp i hi) w u (a j)
    have hc := cnt_is g3.2.1
    rw [if_neg (nI_ge hi (by omega)), inb_nI hj (by decide), gds, cl_nI (by omega), g1, b4s, show nI i + 1 = nI (i + 1) from by rw [i1, nI_add]]
    simp only [hk_let]
    refine ⟨_, rfl, rfl, ?_⟩
    show (if nI c = 0 then idm p m (a j) i ||| hk_ishl 1 (nI i) else idm p m (a j) i) = (if cnt (WK (p i) (TT (m i)) (a j)) = 0 then idm p m (a j) i ||| hk_ishl 1 (nI i) else idm p m (a j) i)
    rw [hc]
    by_cases z : c = 0
    · rw [if_pos z, z, if_pos (show nI 0 = 0 from rfl)]
    · rw [if_neg z, if_neg (show ¬ nI c = 0 from fun e => z (nI_ij (by omega) (by decide) e))]
  · rintro ⟨y, z, v, w, u⟩ ⟨h1, h2⟩
    dsimp only at h1 h2
    subst h1 h2
    show ∃ r, st_X7_idle_13c (nI n) a m p (nI j) (idm p m (a j) n) (nI n) v w u = some (.inr r) ∧ _
    unfold st_X7_idle_13c
    rw [if_pos (Int32.le_refl _)]
    exact ⟨_, rfl, rfl⟩
theorem x8_idle {tn : Nat → Int32} (ht : ∀ t i, t < 8 → i < 64 → tn (64 * t + i) = nI (turnT t i)) {n : Nat} (hn : n ≤ 4) (q : Nat → Int64) (k : Nat → Int32) (b : Nat → Int64) {j : Nat} (hj : j < 8) (lm : Int32) (lk : Nat → Int64) (pm : Nat → Int32) (pl : Nat → Int64) : ∃ r, hk_wl (st_X8_idle_13 (nI n) b q k tn (nI j)) hkF ((0 : Int32), (0 : Int32), lm, lk, pm, pl) = some r ∧ r.1 = idm q k (b j) n := by
  refine wl_inv (f := st_X8_idle_13 (nI n) b q k tn (nI j)) (fun i s => s.2.1 = nI i ∧ s.1 = idm q k (b j) i) (fun r => r.1 = idm q k (b j) n) (e := n) ?_ ?_ (by omega) ⟨rfl, rfl⟩
  · rintro i ⟨y, z, v, w, u, o⟩ hi ⟨h1, h2⟩
    dsimp only at h1 h2
    subst h1 h2
    show ∃ s', st_X8_idle_13c (nI n) b q k tn (nI j) (idm q k (b j) i) (nI i) v w u o = some (.inl s') ∧ _
    unfold st_X8_idle_13c
    obtain ⟨lm', lk', pm', pl', c, g4, g5⟩ := lay_places ht (show i < 4 by omega) v q k w u o (b j)
    have hc := cnt_is (srt_enm g5.2.2.1)
    have h392 := g5.2.1
    rw [if_neg (nI_ge hi (by omega)), inb_nI hj (by decide), gds, cl_nI (show j < 2 ^ 31 by omega), g4, b4s, inb_nI (show i < 4 by omega) (by decide), gds, cl_nI (show i < 2 ^ 31 by omega), g5.1, show nI i + 1 = nI (i + 1) from by rw [i1, nI_add]]
    simp only [hk_let]
    refine ⟨_, rfl, rfl, ?_⟩
    show (idm q k (b j) i ||| if nI c = 0 then hk_ishl 1 (nI i) else 0) = (if cnt (WK (q i) (TT (k i)) (b j)) = 0 then idm q k (b j) i ||| hk_ishl 1 (nI i) else idm q k (b j) i)
    rw [hc]
    by_cases z : c = 0
    · rw [if_pos z, z, if_pos (show nI 0 = 0 from rfl)]
    · rw [if_neg z, if_neg (show ¬ nI c = 0 from fun e => z (nI_ij (by omega) (by decide) e)), Int32.or_zero]
  · rintro ⟨y, z, v, w, u, o⟩ ⟨h1, h2⟩
    dsimp only at h1 h2
    subst h1 h2
    show ∃ r, st_X8_idle_13c (nI n) b q k tn (nI j) (idm q k (b j) n) (nI n) v w u o = some (.inr r) ∧ _
    unfold st_X8_idle_13c
    rw [if_pos (Int32.le_refl _)]
    exact ⟨_, rfl, rfl⟩
theorem pr_idle {tn : Nat → Int32} (ht : ∀ t i, t < 8 → i < 64 → tn (64 * t + i) = nI (turnT t i)) {n : Nat} {p q : Nat → Int64} {m k : Nat → Int32} (hp : pcs n p q m k) {a b : Nat → Int64} (h : fe a b) (fd : Nat → Int32) (ts sp : Nat → Int64) (lm : Int32) (lk : Nat → Int64) (pm : Nat → Int32) (pl : Nat → Int64) (x : Int32) : ∃ r fd' ts' sp' lm' lk' pm' pl', f_X7_idle (nI n) a fd m p ts sp x = some (r, fd', ts', sp') ∧ f_X8_idle lm (nI n) b q k tn lk pm pl x = some (r, lm', lk', pm', pl') := by
  obtain ⟨h1, h2, h3, h4⟩ := hp
  unfold f_X7_idle f_X8_idle
  rcases ix_cases x 8 (by decide) with ⟨j, hj, rfl⟩ | hx
  · obtain ⟨⟨r1, r2, r3, r4⟩, e1, e2⟩ := x7_idle h1 h3 m a hj fd ts sp
    obtain ⟨⟨s1, s2, s3, s4, s5⟩, e3, e4⟩ := x8_idle ht h1 q k b hj lm lk pm pl
    dsimp only at e2 e4
    rw [h j hj, idm_c h2 h4 _ n h1, ← e4] at e2
    rw [noF_0 hj, isF_1 hj, b1s, b1s, if_pos rfl, if_neg ne_1_0, e1, b4s, e3, b5s, e2]
    exact ⟨_, _, _, _, _, _, _, _, rfl, rfl⟩
  · rw [noF_1 hx, isF_0 hx, b1s, b1s]
    exact ⟨-1, fd, ts, sp, lm, lk, pm, pl, by simp, by simp⟩
