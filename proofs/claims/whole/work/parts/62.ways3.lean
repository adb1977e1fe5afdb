/-! the reference's ways: all levels -/
def ixU (idx : Nat → Nat) (y a : Nat) : Nat → Nat := fun i => if i = y then a else idx i
theorem ixU_s (idx : Nat → Nat) (y a : Nat) : ixU idx y a y = a := if_pos rfl
theorem ixU_n (idx : Nat → Nat) {y a i : Nat} (h : ¬ i = y) : ixU idx y a i = idx i := if_neg h
theorem lfv_c {G : Nat → Nat → Int64} {idx idx' : Nat → Nat} (f : Int64) : ∀ y, (∀ i, i < y → idx i = idx' i) → lfv G idx f y = lfv G idx' f y
  | 0, _ => rfl
  | y + 1, h => by
    show lfv G idx f y &&& (G y (idx y) ^^^ (-1)) = lfv G idx' f y &&& (G y (idx' y) ^^^ (-1))
    rw [lfv_c f y (fun i hi => h i (by omega)), h y (by omega)]
theorem lfv_u (G : Nat → Nat → Int64) (idx : Nat → Nat) (f : Int64) (y a : Nat) : lfv G (ixU idx y a) f (y + 1) = lfv G idx f y &&& (G y a ^^^ (-1)) := by
  show lfv G (ixU idx y a) f y &&& (G y (ixU idx y a y) ^^^ (-1)) = _
  rw [ixU_s, lfv_c f y (fun i hi => ixU_n idx (show ¬ i = y by omega))]
theorem okI_u {ct : Nat → Nat} {now : Nat → Int32} {idx : Nat → Nat} {y a : Nat} (hi : okI ct now idx y) (ha : a < ct y) (hnow : now y = nI a) : okI ct now (ixU idx y a) (y + 1) := fun i hiy => by
  by_cases e : i = y
  · rw [e, ixU_s]; exact ⟨hnow, ha⟩
  · rw [ixU_n idx e]; exact hi i (by omega)
theorem nx_fit {G : Nat → Nat → Int64} {y : Nat} {l : Int64} {k a : Nat} (h : fits G y a l = true) : nx G y l (k + 1) a = a := if_pos h
theorem pred_n {y n : Nat} (h : y + 1 = n) : nI y = nI n - (1 : Int32) := by
  rw [← h, i1, pk_sub (by omega)]; rfl
def LV (n : Nat) (f : Int64) (pm : Nat → Int32) (pl : Nat → Int64) (ct : Nat → Nat) (r y : Nat) : Prop := ∀ k, LV1 n f pm pl ct r y k
theorem lv_k {n : Nat} (hn : n ≤ 4) {f : Int64} {pm : Nat → Int32} {pl : Nat → Int64} {ct : Nat → Nat} (hct : ∀ i, i < n → pm i = nI (ct i) ∧ ct i ≤ 96) {r y : Nat} (hy : y < n) (H : HF n f pm pl ct r y) : ∀ k, LV1 n f pm pl ct r y k
  | 0 => lv_z hn hct hy
  | k + 1 => lv_s hn hct hy H (lv_k hn hct hy H k)
theorem hf_0 {n : Nat} (hn : n ≤ 4) {f : Int64} {pm : Nat → Int32} {pl : Nat → Int64} {ct : Nat → Nat} (hct : ∀ i, i < n → pm i = nI (ct i) ∧ ct i ≤ 96) {y : Nat} (hy : y + 1 = n) : HF n f pm pl ct 0 y := by
  intro a c fs now idx ha hnow hi hf hb
  obtain ⟨h1, h2⟩ := hct y (by omega)
  have hL : cmpl (GG pl) ct 0 (y + 1) (lfv (GG pl) idx f y &&& (GG pl y a ^^^ (-1))) = [[]] := rfl
  rw [hL] at hb ⊢
  have hlen : ([[]] : List (List Int64)).length = 1 := rfl
  rw [hlen] at hb ⊢
  have e := x8_eq95 (pl := pl) (c := c) (f := f) (fs := fs) hn (show y < n by omega) hct hi (show a + (ct y - a - 1 + 1) = ct y by omega) hnow
  rw [nx_fit hf, upd_id hnow] at e
  have hne : ¬ now y = pm y := fun q => by
    rw [hnow, h1] at q
    have := nI_ij (by omega) (by omega) q
    omega
  have hok : ∀ i, i < n → now i = nI (ixU idx y a i) ∧ ixU idx y a i < 400 := fun i hin => by
    have g1 := okI_u hi ha hnow i (by omega)
    have g2 := (hct i hin).2
    exact ⟨g1.1, by have := g1.2; omega⟩
  have e2 := x8_stf (pl := pl) hn hok (show c < 2 ^ 31 by omega) fs
  rw [if_neg hne, if_pos (pred_n hy), e2, b1s, let_s, inb_nI (show y < 4 by omega) (by decide), gds, gds, b4s, hnow, i1, nI_add, nI_add] at e
  refine ⟨1, _, _, by omega, rch_1 e, upd_s, fun i hiy => upd_n (by omega), fun z => ?_, fun hc h t z => ?_⟩
  · rcases z with z | z
    · rw [if_neg (fun k => z k.1)]
    · cases z
  · have z' : [GG pl y a] :: [] = h :: t := z
    injection z' with z1 z2
    rw [if_pos ⟨hc, by omega⟩]
    refine ⟨fun i hiy => ?_, fun i hir => ?_⟩
    · have := stf_at (G := fun i q => pl (400 * i + q)) (idx := ixU idx y a) (fs := fs) (show i < n by omega)
      rw [this, ixU_n idx (show ¬ i = y by omega)]
      rfl
    · have := stf_at (G := fun i q => pl (400 * i + q)) (idx := ixU idx y a) (fs := fs) (show y < n by omega)
      rw [show i = 0 by omega, Nat.add_zero, this, ixU_s, ← z1]
      rfl
theorem hf_s {n : Nat} (hn : n ≤ 4) {f : Int64} {pm : Nat → Int32} {pl : Nat → Int64} {ct : Nat → Nat} (hct : ∀ i, i < n → pm i = nI (ct i) ∧ ct i ≤ 96) {r y : Nat} (hy : y + r + 2 = n) (H : LV n f pm pl ct r (y + 1)) : HF n f pm pl ct (r + 1) y := by
  intro a c fs now idx ha hnow hi hf hb
  obtain ⟨h1, h2⟩ := hct y (by omega)
  obtain ⟨h3, h4⟩ := hct (y + 1) (by omega)
  rw [cmpl_s, ← lfv_u] at hb ⊢
  have e := x8_eq95 (pl := pl) (c := c) (f := f) (fs := fs) hn (show y < n by omega) hct hi (show a + (ct y - a - 1 + 1) = ct y by omega) hnow
  rw [nx_fit hf, upd_id hnow] at e
  have hne : ¬ now y = pm y := fun q => by
    rw [hnow, h1] at q
    have := nI_ij (by omega) (by omega) q
    omega
  have hnp : ¬ nI y = nI n - (1 : Int32) := fun q => by
    rw [i1, pk_sub (show 1 ≤ n by omega)] at q
    have := nI_ij (by omega) (by omega) q
    omega
  have hy1 : nI y + (1 : Int32) = nI (y + 1) := by rw [i1, nI_add]
  rw [if_neg hne, if_neg hnp, let_s, hy1, inb_nI (show y + 1 < 4 by omega) (by decide), gds, b4s, cl_nI (show y + 1 < 2 ^ 31 by omega)] at e
  have hi' : okI ct (upd now (y + 1) 0) (ixU idx y a) (y + 1) := fun i hiy => by
    rw [upd_n (show i ≠ y + 1 by omega)]
    exact okI_u hi ha hnow i hiy
  obtain ⟨d, fs1, now1, g1, g2, g3, g4, g5⟩ := H (ct (y + 1)) 0 c fs (upd now (y + 1) 0) (ixU idx y a) (by omega) upd_s hi' hb
  rw [m1_nI] at g2
  have hD : DD (r + 1) = 96 * (1 + DD r) + 1 := rfl
  have hmul := Nat.mul_le_mul_right (1 + DD r) h4
  refine ⟨d + 1 + 1, fs1, now1, by omega, rch_t (rch_1 e) g2, ?_, fun i hiy => ?_, fun z => ?_, fun hc h t z => ?_⟩
  · rw [g4 y rfl, upd_n (show y ≠ y + 1 by omega), hnow, i1, nI_add]
  · rw [g3 i (by omega), upd_n (show i ≠ y + 1 by omega)]
  · refine g5.1 ?_
    rcases z with z | z
    · exact Or.inl z
    · exact Or.inr (List.map_eq_nil_iff.mp z)
  · cases hL : cf (GG pl) ct r (y + 1) (lfv (GG pl) (ixU idx y a) f (y + 1)) 0 (ct (y + 1)) with
    | nil => rw [hL] at z; cases z
    | cons h0 t0 =>
      rw [hL, List.map_cons] at z
      injection z with z1 z2
      obtain ⟨k1, k2⟩ := g5.2 hc h0 t0 hL
      refine ⟨fun i hiy => ?_, fun i hir => ?_⟩
      · rw [k1 i (by omega), ixU_n idx (show ¬ i = y by omega)]
      · rw [← z1]
        by_cases q : i = 0
        · rw [q, Nat.add_zero, k1 y (by omega), ixU_s]
          rfl
        · obtain ⟨i', rfl⟩ : ∃ i', i = i' + 1 := ⟨i - 1, by omega⟩
          have := k2 i' (by omega)
          rw [show y + (i' + 1) = y + 1 + i' by omega, this]
          rfl
theorem lv_all {n : Nat} (hn : n ≤ 4) {f : Int64} {pm : Nat → Int32} {pl : Nat → Int64} {ct : Nat → Nat} (hct : ∀ i, i < n → pm i = nI (ct i) ∧ ct i ≤ 96) : ∀ r y, y + r + 1 = n → LV n f pm pl ct r y
  | 0, y, h => fun k => lv_k hn hct (show y < n by omega) (hf_0 hn hct (show y + 1 = n by omega)) k
  | r + 1, y, h => fun k => lv_k hn hct (show y < n by omega) (hf_s hn hct (show y + r + 2 = n by omega) (lv_all hn hct r (y + 1) (by omega))) k
