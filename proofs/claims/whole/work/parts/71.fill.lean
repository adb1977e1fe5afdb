/-! the class fills -/
theorem x1_fw0 {fl : FlT} {n i c : Nat} (hi : i < 4) (hc : c ≤ 96) {fd : Nat → Int32} (hfd : fd i = nI c) (sp : Nat → Int64) (left : Int64) (x3 x4 m : Int32) (ch b : Nat → Int64) : hk_wl (st_X1_fillWith_3 (nI n) fd sp (nI i) 0 left x3 x4 fl) hkF ((0 : Int32), m, ch, b) = some (m, ch, b) :=
  wl_for0 (f := st_X1_fillWith_3 (nI n) fd sp (nI i) 0 left x3 x4 fl) (fun q => (nI q, m, ch, b)) (e := c) (r := (m, ch, b)) (by
    intro q hq
    show st_X1_fillWith_3c (nI n) fd sp (nI i) 0 left x3 x4 fl (nI q) m ch b = _
    unfold st_X1_fillWith_3c
    rw [inb_nI hi (by decide), gds, cl_nI (show i < 2 ^ 31 by omega), hfd, if_neg (nI_ge hq (by omega)), show nI i * (96 : Int32) + nI q = nI (96 * i + q) from by rw [i96, pk_mul, nI_add, Nat.mul_comm], inb_nI (show 96 * i + q < 384 by omega) (by decide), gds, let_s, if_pos (Int64.and_zero), b3s, let_s, i1, nI_add]) (by
    show st_X1_fillWith_3c (nI n) fd sp (nI i) 0 left x3 x4 fl (nI c) m ch b = _
    unfold st_X1_fillWith_3c
    rw [inb_nI hi (by decide), gds, cl_nI (show i < 2 ^ 31 by omega), hfd, if_pos (Int32.le_refl _)]) (by omega)
theorem x1_fl1 {fl : FlT} {n : Nat} (hn : n ≤ 4) {W : Nat → Int64 → Prop} {fd : Nat → Int32} {sp : Nat → Int64} {U : Nat → Bool} {x4 : Int32} {ct : Nat → Nat} (hsp : ∀ i, i < n → fd i = nI (ct i) ∧ ct i ≤ 96 ∧ enm (ct i) (fun q => sp (96 * i + q)) (W i)) (H : ∀ i, i < n → U i = false → FL fl n W fd sp (uU U i) (x4 + 1)) (L : List (List Int64)) (ch b : Nat → Int64) {left : Int64} (hl : ¬ left = 0) {x3 : Int32} (hx3 : ∀ j, j < n → bi x3 j = U j) (hb : bst n L b) (hL0 : ∀ L' : List (List Int64), L'.Nodup → (∀ w, w ∈ L' → xt n W ch U left w) → L.length + L'.length < 2 ^ 31 - 1) : ∃ r, hk_wl (st_X1_fill_35 (nI n) fd sp left x3 x4 (f_X1_fillWith_g fl) (hk_shl 1 (nI (low left)))) hkF ((0 : Int32), nI L.length, ch, b) = some r ∧ ∃ L1 : List (List Int64), r.1 = nI (L ++ L1).length ∧ bst n (L ++ L1) r.2.2 ∧ L1.Nodup ∧ (∀ w, w ∈ L1 ↔ xt n W ch U left w) ∧ ∀ j, j < n → U j = true → r.2.1 j = ch j := by
  obtain ⟨l1, l2, l3⟩ := low_of hl
  refine wl_inv (f := st_X1_fill_35 (nI n) fd sp left x3 x4 (f_X1_fillWith_g fl) (hk_shl 1 (nI (low left)))) (fun y s => s.1 = nI y ∧ ∃ L1 : List (List Int64), s.2.1 = nI (L ++ L1).length ∧ bst n (L ++ L1) s.2.2.2 ∧ L1.Nodup ∧ (∀ w, w ∈ L1 ↔ xt n W ch U left w ∧ ∃ i, i < y ∧ U i = false ∧ bl (w.getD i 0) (low left) = true) ∧ ∀ j, j < n → U j = true → s.2.2.1 j = ch j) (fun r => ∃ L1 : List (List Int64), r.1 = nI (L ++ L1).length ∧ bst n (L ++ L1) r.2.2 ∧ L1.Nodup ∧ (∀ w, w ∈ L1 ↔ xt n W ch U left w) ∧ ∀ j, j < n → U j = true → r.2.1 j = ch j) (e := n) ?_ ?_ (by omega) ⟨rfl, [], by rw [List.append_nil], by rw [List.append_nil]; exact hb, List.nodup_nil, fun w => ⟨fun z => (by cases z), fun ⟨_, m, hm, _⟩ => by omega⟩, fun _ _ _ => rfl⟩
  · rintro y ⟨z, m, v, u⟩ hy ⟨h1, L1, h2, h3, h4, h5, h6⟩
    dsimp only at h1 h2 h3 h6
    subst h1 h2
    show ∃ s', st_X1_fill_35c (nI n) fd sp left x3 x4 (f_X1_fillWith_g fl) (hk_shl 1 (nI (low left))) (nI y) (nI (L ++ L1).length) v u = some (.inl s') ∧ _
    unfold st_X1_fill_35c
    rw [if_neg (nI_ge hy (by omega))]
    cases hU : U y
    · have hbit : hk_ishr x3 (nI y) &&& 1 = 0 := (and1_bi x3 (show y < 32 by omega)).mpr (by rw [hx3 y hy, hU])
      obtain ⟨g1, g2, g3⟩ := hsp y hy
      have hxc := fun w => xt_c (n := n) (W := W) (U := U) h6 left w
      have hdj : ∀ w, xt n W v U left w → bl (w.getD y 0) (low left) = true → ¬ w ∈ L1 := fun w hw hbw hm => by
        obtain ⟨_, i, a1, a2, a3⟩ := (h5 w).mp hm
        have := hw.2.2.2.1 i y (by omega) hy (by omega) a2 hU (low left) l1 a3
        rw [this] at hbw; cases hbw
      obtain ⟨⟨r1, r2, r3⟩, e0, L2, e1, e2, e3, e4, e5⟩ := x1_fw hn hy hU g2 g1 g3 (H y hy hU) (L ++ L1) v u (left := left) l1 hx3 h3 (fun _ => True) (fun L' hL' hm => by
        have := hL0 (L1 ++ L') (List.nodup_append.mpr ⟨h4, hL', fun w1 hw1 w2 hw2 e => hdj w2 (hm w2 hw2).1 (hm w2 hw2).2 (e ▸ hw1)⟩) (fun w hw => by
          rcases List.mem_append.mp hw with a | a
          · exact ((h5 w).mp a).1
          · exact (hxc w).mp (hm w a).1)
        rw [List.length_append] at this ⊢
        omega)
      dsimp only at e1 e2 e5
      have hfw : f_X1_fillWith_g fl (nI n) (nI (L ++ L1).length) fd sp v u (nI y) (hk_shl 1 (nI (low left))) left x3 x4 = some (r1, r2, r3) := by
        unfold f_X1_fillWith_g
        rw [e0, b3s]
      rw [if_pos hbit, hfw, b3s, b3s, let_s, show nI y + 1 = nI (y + 1) from by rw [i1, nI_add]]
      rw [List.append_assoc] at e1 e2
      refine ⟨_, rfl, rfl, L1 ++ L2, e1, e2, List.nodup_append.mpr ⟨h4, e3, fun w1 hw1 w2 hw2 e => hdj w2 ((e4 w2).mp hw2).1 ((e4 w2).mp hw2).2 (e ▸ hw1)⟩, fun w => ?_, fun j hj hUj => ?_⟩
      · rw [List.mem_append, h5 w, e4 w, hxc w]
        constructor
        · rintro (⟨a1, i, a2, a3⟩ | ⟨a1, a2⟩)
          · exact ⟨a1, i, by omega, a3⟩
          · exact ⟨a1, y, by omega, hU, a2⟩
        · rintro ⟨a1, i, a2, a3, a4⟩
          by_cases e : i = y
          · rw [e] at a4; exact Or.inr ⟨a1, a4⟩
          · exact Or.inl ⟨a1, i, by omega, a3, a4⟩
      · show r2 j = ch j
        rw [e5 j hj hUj]
        exact h6 j hj hUj
    · have hbit : ¬ hk_ishr x3 (nI y) &&& 1 = 0 := fun q => by
        have := (and1_bi x3 (show y < 32 by omega)).mp q
        rw [hx3 y hy, hU] at this; cases this
      rw [if_neg hbit, b3s, let_s, show nI y + 1 = nI (y + 1) from by rw [i1, nI_add]]
      refine ⟨_, rfl, rfl, L1, rfl, h3, h4, fun w => ?_, h6⟩
      rw [h5 w]
      refine and_congr_right (fun _ => ⟨fun ⟨i, a, c⟩ => ⟨i, by omega, c⟩, fun ⟨i, a, c⟩ => ⟨i, ?_, c⟩⟩)
      by_cases e : i = y
      · rw [e, hU] at c; cases c.1
      · omega
  · rintro ⟨z, m, v, u⟩ ⟨h1, L1, h2, h3, h4, h5, h6⟩
    dsimp only at h1 h2 h3 h6
    subst h1 h2
    show ∃ r, st_X1_fill_35c (nI n) fd sp left x3 x4 (f_X1_fillWith_g fl) (hk_shl 1 (nI (low left))) (nI n) (nI (L ++ L1).length) v u = some (.inr r) ∧ _
    unfold st_X1_fill_35c
    rw [if_pos (Int32.le_refl _)]
    refine ⟨_, rfl, L1, rfl, h3, h4, fun w => ?_, h6⟩
    rw [h5 w]
    exact ⟨fun k => k.1, fun k => ⟨k, (k.2.2.2.2 _ l1).mp l2⟩⟩
