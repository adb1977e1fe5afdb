/-! the reference's ways, as a set -/
def WY (ld : Nat → Int64) (mm : Nat → Int32) (f : Int64) (n : Nat) (w : List Int64) : Prop := sm ld n = popc f ∧ w.length = n ∧ tl (fun j => WK (ld j) (TT (mm j)) f) 0 f w
theorem lay_ways {tn : Nat → Int32} (ht : ∀ t i, t < 8 → i < 64 → tn (64 * t + i) = nI (turnT t i)) {n : Nat} (hn : n ≤ 4) {ld : Nat → Int64} (hld : ∀ i, i < n → ¬ ld i = 0) (mm : Nat → Int32) (f : Int64) (lm : Int32) (lk : Nat → Int64) (pm : Nat → Int32) (pl fs : Nat → Int64) (now : Nat → Int32) : ∃ L lm' lk' pm' pl' fs' now', f_X8_layWays lm (nI n) ld mm tn lk pm pl fs now f = some (nI (List.length L), lm', lk', pm', pl', fs', now') ∧ List.length L ≤ 96 ^ 4 ∧ L.Nodup ∧ (∀ w, w ∈ L ↔ WY ld mm f n w) ∧ ∀ h t, L = h :: t → (∀ i, i < n → fs' i = h.getD i 0) ∧ ∀ w, w ∈ L → lxl h w := by
  obtain ⟨⟨r1, r2, r3, r4, r5, r6⟩, e1, e2, e3⟩ := x8_lw5 ht hn ld mm f lm lk pm pl fs
  dsimp only at e2 e3
  subst e2
  have hsl := sm_le ld n
  have hpl := popc_le f
  unfold f_X8_layWays
  rw [e1, b6s]
  have hmem := fun w => mem_cmpl (G := GG r5) (ct := fun j => cnt (WK (ld j) (TT (mm j)) f)) (S := fun j => WK (ld j) (TT (mm j)) f) n 0 f w (fun j hj v => (e3 j (by omega)).2.2 v)
  have hok := cmpl_ok (G := GG r5) (ct := fun j => cnt (WK (ld j) (TT (mm j)) f)) n 0 f (fun j hj a b hab hb => (e3 j (by omega)).2.1 a b hab hb)
  have hlen := cmpl_len (GG r5) n 0 f (ct := fun j => cnt (WK (ld j) (TT (mm j)) f)) (fun i hi => cnt_96 (hld i (by omega)) _ _)
  have hlen2 : (wys ld mm f r5 n).length ≤ 96 ^ 4 := Nat.le_trans hlen (Nat.pow_le_pow_right (by decide) hn)
  by_cases h0 : n = 0
  · subst h0
    rw [if_pos (show nI 0 = 0 from rfl)]
    by_cases hf : f = 0
    · rw [if_pos hf, if_pos (show nI 0 = 0 from rfl)]
      refine ⟨wys ld mm f r5 0, _, _, _, _, _, _, rfl, hlen2, hok.1, fun w => ?_, fun h t z => ⟨fun i hi => by omega, hok.2 h t z⟩⟩
      refine Iff.trans (hmem w) ?_
      unfold WY
      have : sm ld 0 = popc f := by rw [hf, popc_0]; rfl
      exact ⟨fun k => ⟨this, k⟩, fun k => k.2⟩
    · rw [if_neg hf]
      refine ⟨[], _, _, _, _, _, _, rfl, Nat.zero_le _, List.nodup_nil, fun w => ⟨fun k => (by cases k), fun k => ?_⟩, fun h t z => by cases z⟩
      have h1 : 0 = popc f := k.1
      exact absurd (popc_eq0.mp h1.symm) hf
  · have h0' : ¬ nI n = 0 := fun e => h0 (nI_ij (by omega) (by decide) e)
    rw [if_neg h0', ones_popc, b1s]
    by_cases hs : sm ld n = popc f
    · obtain ⟨fs', now', g1, g2⟩ := x8_lw95 hn (by omega) hld e3 r6 now
      rw [hs, if_pos rfl, show hk_inb 0 4 = true from rfl, gds]
      have g1' : hk_wl (st_X8_layWays_95 (nI n) f r4 r5) hkF ((0 : Int32), (0 : Int32), r6, upd now (0 : Int32).toNatClampNeg (0 : Int32)) = _ := g1
      rw [g1', b3s]
      refine ⟨wys ld mm f r5 n, _, _, _, _, _, _, rfl, hlen2, hok.1, fun w => ?_, fun h t z => ⟨g2 h t z, hok.2 h t z⟩⟩
      refine Iff.trans (hmem w) ?_
      exact ⟨fun k => ⟨hs, k⟩, fun k => k.2⟩
    · have hs' : ¬ nI (sm ld n) = nI (popc f) := fun e => hs (nI_ij (by omega) (by omega) e)
      rw [if_neg hs', if_neg h0', ite_self]
      exact ⟨[], _, _, _, _, _, _, rfl, Nat.zero_le _, List.nodup_nil, fun w => ⟨fun k => (by cases k), fun k => absurd k.1 hs⟩, fun h t z => by cases z⟩
