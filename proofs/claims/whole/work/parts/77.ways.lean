/-! ways and first -/
theorem b8s {A B C D E F G H R : Type} (a : A) (b : B) (c : C) (d : D) (e : E) (g : F) (i : G) (j : H) (f : A → B → C → D → E → F → G → H → Option R) : hk_b8 (some (a, b, c, d, e, g, i, j)) f = f a b c d e g i j := rfl
theorem WY_c {n : Nat} {p q : Nat → Int64} {m k : Nat → Int32} (hp : pcs n p q m k) (f : Int64) (w : List Int64) : WY p m f n w ↔ WY q k f n w := by
  obtain ⟨h1, h2, _, h4⟩ := hp
  unfold WY
  rw [sm_c h2 n h1]
  refine and_congr_right (fun _ => and_congr_right (fun hl => ?_))
  rw [tl_iff, tl_iff]
  refine and_congr_left (fun _ => forall_congr' (fun i => forall_congr' (fun hi => ?_)))
  rw [Nat.zero_add, h2 i (by omega), h4 i (by omega)]
theorem count_ways {n : Nat} (hn : n ≤ 4) {pc : Nat → Int64} (hp : ∀ i, i < n → ¬ pc i = 0) (mm : Nat → Int32) (f : Int64) {LR : List (List Int64)} (hR1 : LR.length ≤ 96 ^ 4) (hR2 : ∀ w, w ∈ LR ↔ WY pc mm f n w) (cp cw : Int32) (fd : Nat → Int32) (ts sp ch bs : Nat → Int64) : ∃ (L : List (List Int64)) (cp' cw' : Int32) (fd' : Nat → Int32) (ts' sp' ch' bs' : Nat → Int64), f_X1_countWays cp cw (nI n) pc fd mm ts sp ch bs f = some (nI L.length, cp', cw', fd', ts', sp', ch', bs') ∧ L.Nodup ∧ (∀ w, w ∈ L ↔ WY pc mm f n w) ∧ bst n L bs' := by
  have hsl := sm_le pc n
  have hpl := popc_le f
  have h96 : (96 : Nat) ^ 4 = 84934656 := by decide
  unfold f_X1_countWays
  rw [x1_cw19 hn _ rfl, b1s, bitCount_popc, b1s]
  by_cases hs : sm pc n = popc f
  · obtain ⟨⟨r1, r2, r3⟩, e1, e2⟩ := x1_cw63 hn hp mm f fd ts sp
    dsimp only at e2
    have hF := x1_fill hn (W := fun j => WK (pc j) (TT (mm j)) f) (fun i hi v hv => LK_ne0 (hp i hi) (TT_8 _) hv.1) (fd := r1) (sp := r3) (ct := fun j => cnt (WK (pc j) (TT (mm j)) f)) (fun i hi => ⟨(e2 i hi).1, cnt_96 (hp i hi) _ _, (e2 i hi).2⟩) 4 0 (fun _ => false) (fb_ct_zero.mpr (fun _ _ => rfl)) (by omega)
    obtain ⟨L', ch', b', g1, g2, g3, g4, g5⟩ := hF [] ch bs f 0 (fun i _ => bi_0 i) (Or.inl rfl) (fun L' hL' hm => by
      have := nodup_le L' LR hL' (fun w hw => (hR2 w).mpr ((xt_WY hs ch w).mp (hm w hw)))
      show 0 + L'.length < 2 ^ 31 - 1
      omega)
    rw [List.nil_append] at g1 g2
    have g1' : f_X1_fill 4 (nI n) 0 r1 r3 ch bs f 0 0 = some (nI L'.length, ch', b') := g1
    rw [hs, if_pos rfl, e1, b3s, g1', b3s]
    exact ⟨L', _, _, _, _, _, _, b', rfl, g3, fun w => (g4 w).trans (xt_WY hs ch w), g2⟩
  · have hs' : ¬ nI (sm pc n) = nI (popc f) := fun e => hs (nI_ij (by omega) (by omega) e)
    rw [if_neg hs']
    exact ⟨[], _, _, _, _, _, _, _, rfl, List.nodup_nil, fun w => ⟨fun k => (by cases k), fun k => absurd k.1 hs⟩, Or.inl rfl⟩
theorem pr_ways {tn : Nat → Int32} (ht : ∀ t i, t < 8 → i < 64 → tn (64 * t + i) = nI (turnT t i)) {n : Nat} {p q : Nat → Int64} {m k : Nat → Int32} (hp : pcs n p q m k) {a b : Nat → Int64} (h : fe a b) (cp cw : Int32) (fd : Nat → Int32) (ts sp ch bs : Nat → Int64) (lm : Int32) (lk : Nat → Int64) (pm : Nat → Int32) (pl fs : Nat → Int64) (now : Nat → Int32) (x : Int32) : ∃ r cp' cw' fd' ts' sp' ch' bs' lm' lk' pm' pl' fs' now', f_X7_ways cp cw (nI n) a p fd m ts sp ch bs x = some (r, cp', cw', fd', ts', sp', ch', bs') ∧ f_X8_ways lm (nI n) b q k tn lk pm pl fs now x = some (r, lm', lk', pm', pl', fs', now') := by
  have hp0 := hp
  obtain ⟨h1, h2, h3, h4⟩ := hp
  unfold f_X7_ways f_X8_ways
  rcases ix_cases x 8 (by decide) with ⟨j, hj, rfl⟩ | hx
  · obtain ⟨LR, lm', lk', pm', pl', fs', now', e1, e2, e3, e4, e5⟩ := lay_ways ht h1 (ld := q) (fun i hi => by rw [← h2 i (by omega)]; exact h3 i hi) k (b j) lm lk pm pl fs now
    have hm := fun w => (e4 w).trans (WY_c hp0 (b j) w).symm
    obtain ⟨L, cp', cw', fd', ts', sp', ch', bs', g1, g2, g3, g4⟩ := count_ways h1 h3 m (b j) e2 hm cp cw fd ts sp ch bs
    have hlen := nodup_eq g2 e3 (fun w => (g3 w).trans (hm w).symm)
    rw [noF_0 hj, isF_1 hj, b1s, b1s, if_pos rfl, if_neg ne_1_0, inb_nI hj (by decide), gds, gds, cl_nI (by omega), h j hj, g1, b8s, e1, b7s, hlen]
    exact ⟨_, _, _, _, _, _, _, _, _, _, _, _, _, _, rfl, rfl⟩
  · rw [noF_1 hx, isF_0 hx, b1s, b1s]
    exact ⟨-1, cp, cw, fd, ts, sp, ch, bs, lm, lk, pm, pl, fs, now, by simp, by simp⟩
theorem pr_first {tn : Nat → Int32} (ht : ∀ t i, t < 8 → i < 64 → tn (64 * t + i) = nI (turnT t i)) {n : Nat} {p q : Nat → Int64} {m k : Nat → Int32} (hp : pcs n p q m k) {a b : Nat → Int64} (h : fe a b) (cp cw : Int32) (fd : Nat → Int32) (ts sp ch bs : Nat → Int64) (lm : Int32) (lk : Nat → Int64) (pm : Nat → Int32) (pl fs : Nat → Int64) (now : Nat → Int32) (x y : Int32) : ∃ r cp' cw' fd' ts' sp' ch' bs' lm' lk' pm' pl' fs' now', f_X7_first (nI n) cp cw a p fd m ts sp ch bs x y = some (r, cp', cw', fd', ts', sp', ch', bs') ∧ f_X8_first lm (nI n) b q k tn lk pm pl fs now x y = some (r, lm', lk', pm', pl', fs', now') := by
  have hp0 := hp
  obtain ⟨h1, h2, h3, h4⟩ := hp
  unfold f_X7_first f_X8_first
  rcases ix_cases x 8 (by decide) with ⟨j, hj, rfl⟩ | hx
  · rw [noF_0 hj, isF_1 hj, b1s, b1s, if_pos rfl, if_neg ne_1_0]
    rcases pc_cases h1 y with ⟨i, hi, rfl, c1, c2⟩ | ⟨c1, c2⟩
    · obtain ⟨LR, lm', lk', pm', pl', fs', now', e1, e2, e3, e4, e5⟩ := lay_ways ht h1 (ld := q) (fun i hi => by rw [← h2 i (by omega)]; exact h3 i hi) k (b j) lm lk pm pl fs now
      have hm := fun w => (e4 w).trans (WY_c hp0 (b j) w).symm
      obtain ⟨L, cp', cw', fd', ts', sp', ch', bs', g1, g2, g3, g4⟩ := count_ways h1 h3 m (b j) e2 hm cp cw fd ts sp ch bs
      have hmm := fun w => (g3 w).trans (hm w).symm
      have hlen := nodup_eq g2 e3 hmm
      have h96 : (96 : Nat) ^ 4 = 84934656 := by decide
      rw [c1, c2, b1s, b1s, if_pos rfl, if_neg ne_1_0, inb_nI hj (by decide), gds, gds, cl_nI (show j < 2 ^ 31 by omega), h j hj, g1, b8s, e1, b7s, hlen, inb_nI (show i < 4 by omega) (by decide), gds, gds, cl_nI (show i < 2 ^ 31 by omega)]
      cases hL : LR with
      | nil =>
        rw [if_pos (show nI ([] : List (List Int64)).length = 0 from rfl), if_pos (show nI ([] : List (List Int64)).length ≤ 0 by decide)]
        exact ⟨_, _, _, _, _, _, _, _, _, _, _, _, _, _, rfl, rfl⟩
      | cons hd tl =>
        have hlt : (hd :: tl).length ≤ 96 ^ 4 := by rw [← hL]; exact e2
        have hpos : 0 < (hd :: tl).length := by rw [List.length_cons]; omega
        have n1 : ¬ nI (hd :: tl).length = 0 := fun z => by
          have := nI_ij (a := (hd :: tl).length) (b := 0) (by omega) (by decide) z
          omega
        have n2 : ¬ nI (hd :: tl).length ≤ 0 := nI_ge hpos (by omega)
        rw [if_neg n1, if_neg n2]
        obtain ⟨d1, d2⟩ := e5 hd tl hL
        have hLne : ¬ L = [] := fun z => by
          rw [hL, z] at hlen
          rw [← hlen] at hpos
          exact absurd hpos (Nat.lt_irrefl 0)
        obtain ⟨k1, k2⟩ := g4.resolve_left hLne
        have hdm : hd ∈ L := (hmm hd).mpr (by rw [hL]; exact List.mem_cons_self)
        have hdl : hd.length = n := ((g3 hd).mp hdm).2.1
        have heq := lxl_as (lsR bs' 0 n) hd (by rw [lsR_len, hdl]) (k2 hd hdm) (d2 _ ((hmm _).mp k1))
        have hv : bs' i = fs' i := by
          rw [d1 i hi, ← heq, lsR_at bs' n 0 i hi, Nat.zero_add]
        rw [hv]
        exact ⟨_, _, _, _, _, _, _, _, _, _, _, _, _, _, rfl, rfl⟩
    · rw [c1, c2, b1s, b1s]
      exact ⟨0, cp, cw, fd, ts, sp, ch, bs, lm, lk, pm, pl, fs, now, by simp, by simp⟩
  · rw [noF_1 hx, isF_0 hx, b1s, b1s]
    exact ⟨0, cp, cw, fd, ts, sp, ch, bs, lm, lk, pm, pl, fs, now, by simp, by simp⟩
