/-! the class notes a way -/
def lsR (b : Nat → Int64) (y : Nat) : Nat → List Int64
  | 0 => []
  | k + 1 => b y :: lsR b (y + 1) k
theorem lxl_rf : ∀ u, lxl u u
  | [] => trivial
  | a :: u => Or.inr ⟨rfl, lxl_rf u⟩
theorem lxl_tr : ∀ u v w, lxl u v → lxl v w → lxl u w
  | [], _, _, _, _ => trivial
  | _ :: _, [], _, h, _ => h.elim
  | _ :: _, _ :: _, [], _, h => h.elim
  | a :: u, b :: v, c :: w, h1, h2 => by
    rcases h1 with h1 | ⟨rfl, h1⟩
    · rcases h2 with h2 | ⟨rfl, h2⟩
      · exact Or.inl (by omega)
      · exact Or.inl h1
    · rcases h2 with h2 | ⟨rfl, h2⟩
      · exact Or.inl h2
      · exact Or.inr ⟨rfl, lxl_tr u v w h1 h2⟩
theorem lxl_as : ∀ u v, u.length = v.length → lxl u v → lxl v u → u = v
  | [], [], _, _, _ => rfl
  | [], _ :: _, h, _, _ => by cases h
  | _ :: _, [], h, _, _ => by cases h
  | a :: u, b :: v, h, h1, h2 => by
    rcases h1 with h1 | ⟨rfl, h1⟩
    · rcases h2 with h2 | ⟨rfl, h2⟩
      · omega
      · omega
    · rcases h2 with h2 | ⟨_, h2⟩
      · omega
      · rw [lxl_as u v (by rw [List.length_cons, List.length_cons] at h; omega) h1 h2]
theorem lsR_len (b : Nat → Int64) : ∀ k y, (lsR b y k).length = k
  | 0, _ => rfl
  | k + 1, y => by
    show (b y :: lsR b (y + 1) k).length = _
    rw [List.length_cons, lsR_len b k]
theorem lsR_at (b : Nat → Int64) : ∀ k y i, i < k → (lsR b y k).getD i 0 = b (y + i)
  | k + 1, y, 0, _ => rfl
  | k + 1, y, i + 1, h => by
    show (lsR b (y + 1) k).getD i 0 = _
    rw [lsR_at b k (y + 1) i (by omega), show y + 1 + i = y + (i + 1) by omega]
theorem lsR_c {a b : Nat → Int64} : ∀ k y, (∀ i, y ≤ i → i < y + k → a i = b i) → lsR a y k = lsR b y k
  | 0, _, _ => rfl
  | k + 1, y, h => by
    show a y :: lsR a (y + 1) k = b y :: lsR b (y + 1) k
    rw [h y (by omega) (by omega), lsR_c k (y + 1) (fun i h1 h2 => h i (by omega) (by omega))]
theorem lsR_lt {a b : Nat → Int64} : ∀ k y e, y ≤ e → e < y + k → (∀ i, y ≤ i → i < e → a i = b i) → uv (a e) < uv (b e) → lxl (lsR a y k) (lsR b y k)
  | 0, y, e, h1, h2, _, _ => by omega
  | k + 1, y, e, h1, h2, h3, h4 => by
    show uv (a y) < uv (b y) ∨ (a y = b y ∧ lxl (lsR a (y + 1) k) (lsR b (y + 1) k))
    by_cases q : e = y
    · rw [q] at h4; exact Or.inl h4
    · exact Or.inr ⟨h3 y (by omega) (by omega), lsR_lt k (y + 1) e (by omega) (by omega) (fun i g1 g2 => h3 i (by omega) g2) h4⟩
theorem x1_before {n : Nat} (hn : n ≤ 4) (ch bs : Nat → Int64) : ∃ r, f_X1_chosenIsBefore (nI n) ch bs = some r ∧ (r = 0 → lxl (lsR bs 0 n) (lsR ch 0 n)) ∧ (¬ r = 0 → lxl (lsR ch 0 n) (lsR bs 0 n)) := by
  have hle := fa_first_le (fun i => decide (¬ ch i = bs i)) n
  have hno := fa_first_no (fun i => decide (¬ ch i = bs i)) n
  have hyes := fa_first_yes (fun i => decide (¬ ch i = bs i)) n
  generalize fa_first (fun i => decide (¬ ch i = bs i)) n = e at *
  have hno' : ∀ i, i < e → ch i = bs i := fun i hi => by
    have := hno i hi
    rw [decide_eq_false_iff_not] at this
    exact Classical.byContradiction (fun q => this q)
  have hl : hk_wl (st_X1_chosenIsBefore_2 (nI n) ch bs) hkF (0 : Int32) = some (if e = n then .inr () else .inl (nI e)) := wl_for0 (f := st_X1_chosenIsBefore_2 (nI n) ch bs) (fun i => nI i) (e := e) (r := if e = n then .inr () else .inl (nI e)) (by
    intro i hi
    show st_X1_chosenIsBefore_2c (nI n) ch bs (nI i) = _
    unfold st_X1_chosenIsBefore_2c
    rw [if_neg (nI_ge (show i < n by omega) (by omega)), inb_nI (show i < 4 by omega) (by decide), gds, gds, cl_nI (by omega), if_pos (hno' i hi), let_s, i1, nI_add]) (by
    show st_X1_chosenIsBefore_2c (nI n) ch bs (nI e) = _
    unfold st_X1_chosenIsBefore_2c
    by_cases q : e = n
    · rw [if_pos q, q, if_pos (Int32.le_refl _)]
    · have h0 := hyes (by omega)
      rw [decide_eq_true_eq] at h0
      rw [if_neg q, if_neg (nI_ge (show e < n by omega) (by omega)), inb_nI (show e < 4 by omega) (by decide), gds, gds, cl_nI (by omega), if_neg h0]) (by omega)
  unfold f_X1_chosenIsBefore
  rw [hl, b1s]
  by_cases q : e = n
  · rw [if_pos q]
    refine ⟨0, rfl, fun _ => ?_, fun k => absurd rfl k⟩
    rw [lsR_c (a := bs) (b := ch) n 0 (fun i _ hi => (hno' i (by omega)).symm)]
    exact lxl_rf _
  · have h0 := hyes (by omega)
    rw [decide_eq_true_eq] at h0
    rw [if_neg q]
    show ∃ r, (hk_gd (hk_inb (nI e) 4) (hk_gd (hk_inb (nI e) 4) (hk_b1 (f_X7_isLess (ch (nI e).toNatClampNeg) (bs (nI e).toNatClampNeg)) fun r35 => hk_gd (hk_isb r35) (some r35)))) = some r ∧ _
    rw [inb_nI (show e < 4 by omega) (by decide), gds, gds, cl_nI (by omega), isLess_uv, b1s]
    by_cases z : uv (ch e) < uv (bs e)
    · rw [if_pos z, isb1, gds]
      exact ⟨1, rfl, fun k => absurd k ne_1_0, fun _ => lsR_lt n 0 e (by omega) (by omega) (fun i _ hi => hno' i hi) z⟩
    · rw [if_neg z, isb0, gds]
      have z2 : uv (bs e) < uv (ch e) := by
        rcases Nat.lt_trichotomy (uv (ch e)) (uv (bs e)) with k | k | k
        · exact absurd k z
        · exact absurd (uv_inj k) h0
        · exact k
      exact ⟨0, rfl, fun _ => lsR_lt n 0 e (by omega) (by omega) (fun i _ hi => (hno' i hi).symm) z2, fun k => absurd rfl k⟩
