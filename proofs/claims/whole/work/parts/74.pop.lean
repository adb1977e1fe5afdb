/-! turns and shifts keep the number of cells -/
theorem ct_inj {p : Nat → Bool} {g : Nat → Nat} {m : Nat} : ∀ (n : Nat) (q : Nat → Bool), (∀ i, i < n → p i = true → g i < m ∧ q (g i) = true) → (∀ i j, i < n → j < n → p i = true → p j = true → g i = g j → i = j) → fb_ct p n ≤ fb_ct q m
  | 0, q, _, _ => Nat.zero_le _
  | n + 1, q, h1, h2 => by
    rw [fb_ct_succ]
    cases hp : p n
    · have := ct_inj n q (fun i hi => h1 i (by omega)) (fun i j hi hj => h2 i j (by omega) (by omega))
      simpa using this
    · obtain ⟨a1, a2⟩ := h1 n (by omega) hp
      have hu := fb_ct_upd q false a1
      rw [a2] at hu
      have := ct_inj n (fun k => if k = g n then false else q k) (fun i hi hpi => by
        obtain ⟨b1, b2⟩ := h1 i (by omega) hpi
        refine ⟨b1, ?_⟩
        have hne : ¬ g i = g n := fun e => by
          have := h2 i n (by omega) (by omega) hpi hp e
          omega
        show (if g i = g n then false else q (g i)) = true
        rw [if_neg hne]; exact b2) (fun i j hi hj => h2 i j (by omega) (by omega))
      simp only [Bool.false_eq_true, if_false, if_true] at hu ⊢
      omega
theorem popc_trn (x : Int64) {t : Nat} (ht : t < 8) : popc (trn x t) = popc x := by
  apply Nat.le_antisymm
  · refine ct_inj (g := tp t) 64 _ (fun i hi hb => ?_) (fun i j hi hj h1 h2 e => ?_)
    · obtain ⟨a1, a2, _⟩ := cell_turn ht hb
      exact ⟨a2, a1⟩
    · rw [← (cell_turn ht h1).2.2, ← (cell_turn ht h2).2.2, e]
  · refine ct_inj (g := turnT t) 64 _ (fun i hi hb => ?_) (fun i j hi hj h1 h2 e => ?_)
    · obtain ⟨a1, a2⟩ := turn_cell ht hb
      exact ⟨a2, a1⟩
    · have b1 := tp_ok t ht i hi
      have b2 := tp_ok t ht j hj
      simp only [Bool.and_eq_true, decide_eq_true_eq] at b1 b2
      rw [← b1.2.2.2, ← b2.2.2.2, e]
theorem popc_shf {x : Int64} {d e : Nat} (hd : d < 7) (he : e < 7) (h : sty x d e = true) : popc (shf x d e) = popc x := by
  apply Nat.le_antisymm
  · refine ct_inj (g := fun j => j + 60 - (4 * d + 16 * e)) 64 _ (fun j hj hb => ?_) (fun i j hi hj h1 h2 q => ?_)
    · obtain ⟨i, a1, a2, a3⟩ := (shf_bit x hd he hj).mp hb
      show j + 60 - (4 * d + 16 * e) < 64 ∧ bl x (j + 60 - (4 * d + 16 * e)) = true
      rw [show j + 60 - (4 * d + 16 * e) = i by omega]
      exact ⟨a1, a2⟩
    · obtain ⟨i1, a1, a2, a3⟩ := (shf_bit x hd he hi).mp h1
      obtain ⟨i2, b1, b2, b3⟩ := (shf_bit x hd he hj).mp h2
      have q : i + 60 - (4 * d + 16 * e) = j + 60 - (4 * d + 16 * e) := q
      omega
  · refine ct_inj (g := fun i => i + (4 * d + 16 * e) - 60) 64 _ (fun i hi hb => ?_) (fun i j hi hj h1 h2 q => ?_)
    · have := sty_rng h hi hb
      exact ⟨by show i + (4 * d + 16 * e) - 60 < 64; omega, shf_cell hd he h hb⟩
    · have a1 := sty_rng h hi h1
      have a2 := sty_rng h hj h2
      have q : i + (4 * d + 16 * e) - 60 = j + (4 * d + 16 * e) - 60 := q
      omega
theorem popc_WK {x : Int64} {T : Nat} (hT : T ≤ 8) {f u : Int64} (h : WK x T f u) : popc u = popc x := by
  obtain ⟨⟨t, d, e, a1, a2, a3, a4, rfl⟩, _⟩ := h
  rw [popc_shf a2 a3 a4, popc_trn x (by omega)]
