theorem fill_end {fw : Int32 → Int32 → (Nat → Int32) → (Nat → Int64) → (Nat → Int64) → (Nat → Int64) → Int32 → Int64 → Int64 → Int32 → Int32 → Option (Int32 × (Nat → Int64) × (Nat → Int64))} {n : Nat} (hn : n ≤ 4) {W : Nat → Int64 → Prop} {fd : Nat → Int32} {sp : Nat → Int64} {U : Nat → Bool} (hU : ∀ i, i < n → U i = true) : FL (f_X1_fill_g fw) n W fd sp U (nI n) := by
  intro L ch b left x3 hx3 hb hL0
  unfold f_X1_fill_g
  rw [if_pos (Int32.le_refl _)]
  by_cases hl : left = 0
  · have hlen := hL0 [lsR ch 0 n] (List.nodup_cons.mpr ⟨fun q => (by cases q), List.nodup_nil⟩) (fun w hw => (xt_end hU left w).mpr ⟨hl, List.mem_singleton.mp hw⟩)
    have h1 : [lsR ch 0 n].length = 1 := rfl
    obtain ⟨b', e1, e2⟩ := x1_note hn (L := L) (by omega) hb ch
    rw [if_pos hl, e1, b2s]
    exact ⟨[lsR ch 0 n], ch, b', rfl, e2, List.nodup_cons.mpr ⟨fun q => (by cases q), List.nodup_nil⟩, fun w => by rw [List.mem_singleton, xt_end hU left w]; exact ⟨fun k => ⟨hl, k⟩, fun k => k.2⟩, fun _ _ _ => rfl⟩
  · rw [if_neg hl]
    exact ⟨[], ch, b, by rw [List.append_nil], by rw [List.append_nil]; exact hb, List.nodup_nil, fun w => ⟨fun z => (by cases z), fun z => absurd ((xt_end hU left w).mp z).1 hl⟩, fun _ _ _ => rfl⟩
theorem x1_fill {n : Nat} (hn : n ≤ 4) {W : Nat → Int64 → Prop} (hW0 : ∀ i, i < n → ∀ v, W i v → ¬ v = 0) {fd : Nat → Int32} {sp : Nat → Int64} {ct : Nat → Nat} (hsp : ∀ i, i < n → fd i = nI (ct i) ∧ ct i ≤ 96 ∧ enm (ct i) (fun q => sp (96 * i + q)) (W i)) : ∀ (k d : Nat) (U : Nat → Bool), fb_ct U n = d → n ≤ k + d → FL (f_X1_fill k) n W fd sp U (nI d)
  | 0, d, U, hd, hk => by
    have hle := fb_ct_le U n
    have e : d = n := by omega
    rw [e]
    exact fill_end hn (fb_ct_all.mp (by omega))
  | k + 1, d, U, hd, hk => by
    have hle := fb_ct_le U n
    by_cases e : d = n
    · rw [e]
      exact fill_end hn (fb_ct_all.mp (by omega))
    · have H : ∀ i, i < n → U i = false → FL (f_X1_fill k) n W fd sp (uU U i) (nI d + 1) := fun i hi hUi => by
        have hu := fb_ct_upd U true hi
        rw [hUi] at hu
        have hu2 : fb_ct (uU U i) n = d + 1 := by
          show fb_ct (fun k => if k = i then true else U k) n = d + 1
          simp only [Bool.false_eq_true, if_false, if_true] at hu
          omega
        rw [i1, nI_add]
        exact x1_fill hn hW0 hsp k (d + 1) (uU U i) hu2 (by omega)
      intro L ch b left x3 hx3 hb hL0
      show ∃ L' ch' b', f_X1_fill_g (f_X1_fillWith_g (f_X1_fill k)) (nI n) (nI L.length) fd sp ch b left x3 (nI d) = _ ∧ _
      unfold f_X1_fill_g
      rw [if_neg (nI_ge (show d < n by omega) (by omega)), if_pos (show nI d < 4 from (nI_ltI (b := 4) (by omega) (by decide)).mpr (by omega)), let_s]
      by_cases hl : left = 0
      · have h0 : left &&& -left = 0 := by rw [hl]; decide
        have hloop : hk_wl (st_X1_fill_35 (nI n) fd sp left x3 (nI d) (f_X1_fillWith_g (f_X1_fill k)) 0) hkF ((0 : Int32), nI L.length, ch, b) = some (nI L.length, ch, b) :=
          wl_for0 (f := st_X1_fill_35 (nI n) fd sp left x3 (nI d) (f_X1_fillWith_g (f_X1_fill k)) 0) (fun y => (nI y, nI L.length, ch, b)) (e := n) (r := (nI L.length, ch, b)) (by
            intro y hy
            show st_X1_fill_35c (nI n) fd sp left x3 (nI d) (f_X1_fillWith_g (f_X1_fill k)) 0 (nI y) (nI L.length) ch b = _
            unfold st_X1_fill_35c
            have hfw : f_X1_fillWith_g (f_X1_fill k) (nI n) (nI L.length) fd sp ch b (nI y) 0 left x3 (nI d) = some (nI L.length, ch, b) := by
              unfold f_X1_fillWith_g
              rw [x1_fw0 (show y < 4 by omega) (hsp y hy).2.1 (hsp y hy).1, b3s]
            rw [if_neg (nI_ge hy (by omega)), hfw, b3s, ite_self, b3s, let_s, i1, nI_add]) (by
            show st_X1_fill_35c (nI n) fd sp left x3 (nI d) (f_X1_fillWith_g (f_X1_fill k)) 0 (nI n) (nI L.length) ch b = _
            unfold st_X1_fill_35c
            rw [if_pos (Int32.le_refl _)]) (by omega)
        rw [h0, hloop, b3s]
        refine ⟨[], ch, b, by rw [List.append_nil], by rw [List.append_nil]; exact hb, List.nodup_nil, fun w => ⟨fun z => (by cases z), fun z => ?_⟩, fun _ _ _ => rfl⟩
        exfalso
        have hex : ∃ i, i < n ∧ U i = false := Classical.byContradiction (fun q => e (by
          have := fb_ct_all.mpr (fun i hi => by
            cases hh : U i
            · exact absurd ⟨i, hi, hh⟩ q
            · rfl : ∀ i, i < n → U i = true)
          omega))
        obtain ⟨i, hi, hUi⟩ := hex
        obtain ⟨bb, hbb, hb2⟩ := bl_ne0 (hW0 i hi _ (z.2.2.1 i hi hUi))
        have := (z.2.2.2.2 bb hbb).mpr ⟨i, hi, hUi, hb2⟩
        rw [hl, bl_0] at this
        cases this
      · obtain ⟨⟨r1, r2, r3⟩, e0, L1, e1, e2, e3, e4, e5⟩ := x1_fl1 hn hsp H L ch b hl hx3 hb hL0
        dsimp only at e1 e2 e5
        rw [lowbit hl, e0, b3s, e1]
        exact ⟨L1, r2, r3, rfl, e2, e3, e4, e5⟩
