/-! the class: all spots of all pieces -/
theorem x1_cw19 {n : Nat} (hn : n ≤ 4) (l : Int32) (hl : l = nI n) (pc : Nat → Int64) : hk_wl (st_X1_countWays_19 l pc) hkF ((0 : Int32), (0 : Int32)) = some (nI (sm pc n)) := by
  subst hl
  exact wl_for0 (f := st_X1_countWays_19 (nI n) pc) (fun i => (nI (sm pc i), nI i)) (e := n) (r := nI (sm pc n)) (by
    intro i hi
    show st_X1_countWays_19c (nI n) pc (nI (sm pc i)) (nI i) = _
    unfold st_X1_countWays_19c
    rw [if_neg (nI_ge hi (by omega)), inb_nI (show i < 4 by omega) (by decide), gds, cl_nI (by omega), bitCount_popc, b1s, let_s, let_s, i1, nI_add, nI_add]
    rfl) (by
    show st_X1_countWays_19c (nI n) pc (nI (sm pc n)) (nI n) = _
    unfold st_X1_countWays_19c
    rw [if_pos (Int32.le_refl _)]) (by omega)
/-- the spots of the first n pieces -/
def spa (pc : Nat → Int64) (mm : Nat → Int32) (f : Int64) (n : Nat) (fd : Nat → Int32) (sp : Nat → Int64) : Prop := ∀ j, j < n → fd j = nI (cnt (WK (pc j) (TT (mm j)) f)) ∧ enm (cnt (WK (pc j) (TT (mm j)) f)) (fun q => sp (96 * j + q)) (WK (pc j) (TT (mm j)) f)
theorem x1_cw63 {n : Nat} (hn : n ≤ 4) {pc : Nat → Int64} (hp : ∀ i, i < n → ¬ pc i = 0) (mm : Nat → Int32) (f : Int64) (fd : Nat → Int32) (ts sp : Nat → Int64) : ∃ r, hk_wl (st_X1_countWays_63 (nI n) pc mm f) hkF ((0 : Int32), fd, ts, sp) = some r ∧ spa pc mm f n r.1 r.2.2 := by
  refine wl_inv (f := st_X1_countWays_63 (nI n) pc mm f) (fun i s => s.1 = nI i ∧ spa pc mm f i s.2.1 s.2.2.2) (fun r => spa pc mm f n r.1 r.2.2) (e := n) ?_ ?_ (by omega) ⟨rfl, fun j hj => by omega⟩
  · rintro i ⟨y, v, w, u⟩ hi ⟨h1, h2⟩
    dsimp only at h1 h2
    subst h1
    show ∃ s', st_X1_countWays_63c (nI n) pc mm f (nI i) v w u = some (.inl s') ∧ _
    unfold st_X1_countWays_63c
    obtain ⟨fd', ts', sp', c, g1, g2, g3, g4, g5, g6⟩ := find_spots (show i < 4 by omega) v mm pc (hp i hi) w u f
    have hc := cnt_is g4
    rw [if_neg (nI_ge hi (by omega)), g1, b4s, let_s, show nI i + 1 = nI (i + 1) from by rw [i1, nI_add]]
    refine ⟨_, rfl, rfl, fun j hj => ?_⟩
    by_cases e : j = i
    · rw [e, hc]
      exact ⟨g3, g4⟩
    · obtain ⟨k1, k2⟩ := h2 j (by omega)
      have hle := cnt_96 (hp j (by omega)) (mm j) f
      refine ⟨by rw [← k1]; exact g5 j e, ⟨fun a b hab hb => ?_, fun t => ?_⟩⟩
      · show ¬ sp' (96 * j + a) = sp' (96 * j + b)
        rw [g6 _ (by omega), g6 _ (by omega)]
        exact k2.1 a b hab hb
      · rw [← k2.2 t]
        constructor
        · rintro ⟨a, ha, ea⟩
          have ea : sp' (96 * j + a) = t := ea
          rw [g6 _ (by omega)] at ea
          exact ⟨a, ha, ea⟩
        · rintro ⟨a, ha, ea⟩
          refine ⟨a, ha, ?_⟩
          show sp' (96 * j + a) = t
          rw [g6 _ (by omega)]
          exact ea
  · rintro ⟨y, v, w, u⟩ ⟨h1, h2⟩
    dsimp only at h1 h2
    subst h1
    show ∃ r, st_X1_countWays_63c (nI n) pc mm f (nI n) v w u = some (.inr r) ∧ _
    unfold st_X1_countWays_63c
    rw [if_pos (Int32.le_refl _)]
    exact ⟨_, rfl, h2⟩
