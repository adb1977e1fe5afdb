/-! the class fills with one piece -/
theorem xt_c {n : Nat} {W : Nat → Int64 → Prop} {ch ch' : Nat → Int64} {U : Nat → Bool} (h : ∀ i, i < n → U i = true → ch i = ch' i) (left : Int64) (w : List Int64) : xt n W ch U left w ↔ xt n W ch' U left w := by
  constructor
  · rintro ⟨h1, h2, h3⟩
    exact ⟨h1, fun i hi hU => by rw [h2 i hi hU, h i hi hU], h3⟩
  · rintro ⟨h1, h2, h3⟩
    exact ⟨h1, fun i hi hU => by rw [h2 i hi hU, h i hi hU], h3⟩
abbrev FlT := Int32 → Int32 → (Nat → Int32) → (Nat → Int64) → (Nat → Int64) → (Nat → Int64) → Int64 → Int32 → Int32 → Option (Int32 × (Nat → Int64) × (Nat → Int64))
def FL (fl : FlT) (n : Nat) (W : Nat → Int64 → Prop) (fd : Nat → Int32) (sp : Nat → Int64) (U : Nat → Bool) (x4 : Int32) : Prop := ∀ (L : List (List Int64)) (ch b : Nat → Int64) (left : Int64) (x3 : Int32), (∀ i, i < n → bi x3 i = U i) → bst n L b → (∀ L' : List (List Int64), L'.Nodup → (∀ w, w ∈ L' → xt n W ch U left w) → L.length + L'.length < 2 ^ 31 - 1) → ∃ L' ch' b', fl (nI n) (nI L.length) fd sp ch b left x3 x4 = some (nI (L ++ L').length, ch', b') ∧ bst n (L ++ L') b' ∧ L'.Nodup ∧ (∀ w, w ∈ L' ↔ xt n W ch U left w) ∧ ∀ i, i < n → U i = true → ch' i = ch i
theorem and_one {s : Int64} {k : Nat} (hk : k < 64) : s &&& hk_shl 1 (nI k) = 0 ↔ bl s k = false := by
  rw [dis_bit]
  constructor
  · intro h
    cases hb : bl s k
    · rfl
    · have := h k hk hb
      rw [bl_one hk hk, decide_eq_false_iff_not] at this
      exact absurd rfl this
  · intro h i hi hb
    rw [bl_one hk hi, decide_eq_false_iff_not]
    intro e
    rw [e, h] at hb; cases hb
theorem x1_fw {fl : FlT} {n : Nat} (hn : n ≤ 4) {W : Nat → Int64 → Prop} {fd : Nat → Int32} {sp : Nat → Int64} {U : Nat → Bool} {x4 : Int32} {i : Nat} (hi : i < n) (hU : U i = false) {c : Nat} (hc : c ≤ 96) (hfd : fd i = nI c) (hen : enm c (fun q => sp (96 * i + q)) (W i)) (H : FL fl n W fd sp (uU U i) (x4 + 1)) (L : List (List Int64)) (ch b : Nat → Int64) {left : Int64} {k : Nat} (hk : k < 64) {x3 : Int32} (hx3 : ∀ j, j < n → bi x3 j = U j) (hb : bst n L b) (P : List Int64 → Prop) (hL0 : ∀ L' : List (List Int64), L'.Nodup → (∀ w, w ∈ L' → xt n W ch U left w ∧ bl (w.getD i 0) k = true) → L.length + L'.length < 2 ^ 31 - 1) : ∃ r, hk_wl (st_X1_fillWith_3 (nI n) fd sp (nI i) (hk_shl 1 (nI k)) left x3 x4 fl) hkF ((0 : Int32), nI L.length, ch, b) = some r ∧ ∃ L1 : List (List Int64), r.1 = nI (L ++ L1).length ∧ bst n (L ++ L1) r.2.2 ∧ L1.Nodup ∧ (∀ w, w ∈ L1 ↔ xt n W ch U left w ∧ bl (w.getD i 0) k = true) ∧ ∀ j, j < n → U j = true → r.2.1 j = ch j := by
  have hbi : ∀ j, j < n → bi (x3 ||| hk_ishl 1 (nI i)) j = uU U i j := fun j hj => by
    rw [bi_or, hx3 j hj, bi_ts 1 (p := true) (fun m _ => by rw [bi_1, Bool.and_true]) (show i < 32 by omega) (show j < 32 by omega)]
    by_cases e : j = i
    · rw [e, uU_s, decide_eq_true rfl]; simp
    · rw [uU_n U e, decide_eq_false e]; simp
  refine wl_inv (f := st_X1_fillWith_3 (nI n) fd sp (nI i) (hk_shl 1 (nI k)) left x3 x4 fl) (fun q s => s.1 = nI q ∧ ∃ L1 : List (List Int64), s.2.1 = nI (L ++ L1).length ∧ bst n (L ++ L1) s.2.2.2 ∧ L1.Nodup ∧ (∀ w, w ∈ L1 ↔ xt n W ch U left w ∧ bl (w.getD i 0) k = true ∧ ∃ m, m < q ∧ w.getD i 0 = sp (96 * i + m)) ∧ ∀ j, j < n → U j = true → s.2.2.1 j = ch j) (fun r => ∃ L1 : List (List Int64), r.1 = nI (L ++ L1).length ∧ bst n (L ++ L1) r.2.2 ∧ L1.Nodup ∧ (∀ w, w ∈ L1 ↔ xt n W ch U left w ∧ bl (w.getD i 0) k = true) ∧ ∀ j, j < n → U j = true → r.2.1 j = ch j) (e := c) ?_ ?_ (by omega) ⟨rfl, [], by rw [List.append_nil], by rw [List.append_nil]; exact hb, List.nodup_nil, fun w => ⟨fun z => (by cases z), fun ⟨_, _, m, hm, _⟩ => by omega⟩, fun _ _ _ => rfl⟩
  · rintro q ⟨y, m, v, u⟩ hq ⟨h1, L1, h2, h3, h4, h5, h6⟩
    dsimp only at h1 h2 h3 h6
    subst h1 h2
    show ∃ s', st_X1_fillWith_3c (nI n) fd sp (nI i) (hk_shl 1 (nI k)) left x3 x4 fl (nI q) (nI (L ++ L1).length) v u = some (.inl s') ∧ _
    unfold st_X1_fillWith_3c
    have hWq : W i (sp (96 * i + q)) := (hen.2 _).mp ⟨q, hq, rfl⟩
    rw [inb_nI (show i < 4 by omega) (by decide), gds, cl_nI (show i < 2 ^ 31 by omega), hfd, if_neg (nI_ge hq (by omega)), show nI i * (96 : Int32) + nI q = nI (96 * i + q) from by rw [i96, pk_mul, nI_add, Nat.mul_comm], inb_nI (show 96 * i + q < 384 by omega) (by decide), gds, cl_nI (show 96 * i + q < 2 ^ 31 by omega), let_s, gds]
    have skip : (¬ (bl (sp (96 * i + q)) k = true ∧ wth (sp (96 * i + q)) left)) → ∀ w, w ∈ L1 ↔ xt n W ch U left w ∧ bl (w.getD i 0) k = true ∧ ∃ m, m < q + 1 ∧ w.getD i 0 = sp (96 * i + m) := fun hno w => by
      rw [h5 w]
      refine and_congr_right (fun hx => and_congr_right (fun hbk => ⟨fun ⟨m, a, e⟩ => ⟨m, by omega, e⟩, fun ⟨m, a, e⟩ => ⟨m, ?_, e⟩⟩))
      by_cases z : m = q
      · exfalso
        rw [z] at e
        refine hno ⟨by rw [← e]; exact hbk, (wth_bit _ _).mpr (fun bb hbb hb2 => (hx.2.2.2.2 bb hbb).mpr ⟨i, hi, hU, by rw [e]; exact hb2⟩)⟩
      · omega
    by_cases z1 : sp (96 * i + q) &&& hk_shl 1 (nI k) = 0
    · rw [if_pos z1, b3s, let_s, i1, nI_add]
      exact ⟨_, rfl, rfl, L1, rfl, h3, h4, skip (fun z => by rw [(and_one hk).mp z1] at z; cases z.1), h6⟩
    · rw [if_neg z1]
      have hbk : bl (sp (96 * i + q)) k = true := by
        cases hh : bl (sp (96 * i + q)) k
        · exact absurd ((and_one hk).mpr hh) z1
        · rfl
      by_cases z2 : sp (96 * i + q) &&& (left ^^^ (-1)) = 0
      · rw [if_pos z2]
        have hst := fun w => xt_step (ch := v) hi hU hWq z2 w
        have hxc := fun w => xt_c (n := n) (W := W) (U := U) h6 left w
        have hdj : ∀ w, xt n W (vp_updL v i (sp (96 * i + q))) (uU U i) (left ^^^ sp (96 * i + q)) w → xt n W ch U left w ∧ bl (w.getD i 0) k = true ∧ w.getD i 0 = sp (96 * i + q) ∧ ¬ w ∈ L1 := fun w hw => by
          obtain ⟨g1, g2⟩ := (hst w).mp hw
          refine ⟨(hxc w).mp g1, by rw [g2]; exact hbk, g2, fun hm => ?_⟩
          obtain ⟨_, _, m, hm2, em⟩ := (h5 w).mp hm
          exact hen.1 m q hm2 hq (by show sp (96 * i + m) = sp (96 * i + q); rw [← em, g2])
        obtain ⟨L2, ch2, b2, e1, e2, e3, e4, e5⟩ := H (L ++ L1) (vp_updL v i (sp (96 * i + q))) u (left ^^^ sp (96 * i + q)) (x3 ||| hk_ishl 1 (nI i)) hbi h3 (fun L' hL' hm => by
          have := hL0 (L1 ++ L') (List.nodup_append.mpr ⟨h4, hL', fun w1 hw1 w2 hw2 e => (hdj w2 (hm w2 hw2)).2.2.2 (e ▸ hw1)⟩) (fun w hw => by
            rcases List.mem_append.mp hw with a | a
            · exact ⟨((h5 w).mp a).1, ((h5 w).mp a).2.1⟩
            · exact ⟨(hdj w (hm w a)).1, (hdj w (hm w a)).2.1⟩)
          rw [List.length_append] at this ⊢
          omega)
        rw [e1, b3s, b3s, let_s, i1, nI_add]
        rw [List.append_assoc] at e2
        refine ⟨_, rfl, rfl, L1 ++ L2, by rw [List.append_assoc], e2, List.nodup_append.mpr ⟨h4, e3, fun w1 hw1 w2 hw2 e => (hdj w2 ((e4 w2).mp hw2)).2.2.2 (e ▸ hw1)⟩, fun w => ?_, fun j hj hUj => ?_⟩
        · rw [List.mem_append, h5 w, e4 w]
          constructor
          · rintro (⟨a1, a2, m, a3, a4⟩ | a)
            · exact ⟨a1, a2, m, by omega, a4⟩
            · obtain ⟨g1, g2, g3, _⟩ := hdj w a
              exact ⟨g1, g2, q, by omega, g3⟩
          · rintro ⟨a1, a2, m, a3, a4⟩
            by_cases z : m = q
            · rw [z] at a4
              exact Or.inr ((hst w).mpr ⟨(hxc w).mpr a1, a4⟩)
            · exact Or.inl ⟨a1, a2, m, by omega, a4⟩
        · have hji : ¬ j = i := fun e => by rw [e, hU] at hUj; cases hUj
          have := e5 j hj (by rw [uU_n U hji]; exact hUj)
          rw [updL_n hji] at this
          show ch2 j = ch j
          rw [this]
          exact h6 j hj hUj
      · rw [if_neg z2, b3s, let_s, i1, nI_add]
        exact ⟨_, rfl, rfl, L1, rfl, h3, h4, skip (fun z => z2 z.2), h6⟩
  · rintro ⟨y, m, v, u⟩ ⟨h1, L1, h2, h3, h4, h5, h6⟩
    dsimp only at h1 h2 h3 h6
    subst h1 h2
    show ∃ r, st_X1_fillWith_3c (nI n) fd sp (nI i) (hk_shl 1 (nI k)) left x3 x4 fl (nI c) (nI (L ++ L1).length) v u = some (.inr r) ∧ _
    unfold st_X1_fillWith_3c
    rw [inb_nI (show i < 4 by omega) (by decide), gds, cl_nI (show i < 2 ^ 31 by omega), hfd, if_pos (Int32.le_refl _)]
    refine ⟨_, rfl, L1, rfl, h3, h4, fun w => ?_, h6⟩
    rw [h5 w]
    refine and_congr_right (fun hx => ⟨fun k => k.1, fun k => ⟨k, ?_⟩⟩)
    obtain ⟨m, hm, em⟩ := (hen.2 _).mpr (hx.2.2.1 i hi hU)
    exact ⟨m, hm, em.symm⟩
