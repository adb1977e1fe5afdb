/-! the reference's tables: neighbours, turns -/
def besI (i : Nat) : Int32 := if i % 4 = 0 then (if i < 16 then -9 else nI (i - 14)) else if i % 4 = 1 then (if i / 4 % 4 = 3 then -9 else nI (i + 6)) else if i % 4 = 2 then (if 48 ≤ i then -9 else nI (i + 14)) else (if i / 4 % 4 = 0 then -9 else nI (i - 6))
theorem bes_d : ∀ i, i < 64 → f_X8_beside (nI i) = some (besI i) := by decide +kernel
def nearT (i : Nat) : Int64 := (hk_shl 1 (nI (i - i % 4 + (i % 4 + 1) % 4)) ||| hk_shl 1 (nI (i - i % 4 + (i % 4 + 3) % 4))) ||| (if besI i = -9 then 0 else hk_shl 1 (besI i))
/-- a quarter to the right -/
def rotN (c : Nat × Nat × Nat) : Nat × Nat × Nat := (c.2.1, 3 - c.1, (c.2.2 + 1) % 4)
def rotK : Nat → Nat × Nat × Nat → Nat × Nat × Nat
  | 0, c => c
  | k + 1, c => rotN (rotK k c)
def st0 (t i : Nat) : Nat × Nat × Nat := (i / 16, if t < 4 then i / 4 % 4 else 3 - i / 4 % 4, if t < 4 then i % 4 else if i % 4 % 2 = 0 then i % 4 else 4 - i % 4)
def turnT (t i : Nat) : Nat := 16 * (rotK (t % 4) (st0 t i)).1 + 4 * (rotK (t % 4) (st0 t i)).2.1 + (rotK (t % 4) (st0 t i)).2.2
theorem rot_ok {c : Nat × Nat × Nat} (h : c.1 ≤ 3 ∧ c.2.1 ≤ 3 ∧ c.2.2 ≤ 3) : (rotN c).1 ≤ 3 ∧ (rotN c).2.1 ≤ 3 ∧ (rotN c).2.2 ≤ 3 := ⟨h.2.1, by unfold rotN; dsimp only; omega, by unfold rotN; dsimp only; omega⟩
theorem rotK_ok {c : Nat × Nat × Nat} (h : c.1 ≤ 3 ∧ c.2.1 ≤ 3 ∧ c.2.2 ≤ 3) : ∀ k, (rotK k c).1 ≤ 3 ∧ (rotK k c).2.1 ≤ 3 ∧ (rotK k c).2.2 ≤ 3
  | 0 => h
  | k + 1 => rot_ok (rotK_ok h k)
theorem st0_ok {t i : Nat} (hi : i < 64) : (st0 t i).1 ≤ 3 ∧ (st0 t i).2.1 ≤ 3 ∧ (st0 t i).2.2 ≤ 3 := by
  unfold st0
  dsimp only
  refine ⟨by omega, ?_, ?_⟩
  · by_cases h : t < 4
    · rw [if_pos h]; omega
    · rw [if_neg h]; omega
  · by_cases h : t < 4
    · rw [if_pos h]; omega
    · rw [if_neg h]
      by_cases h2 : i % 4 % 2 = 0
      · rw [if_pos h2]; omega
      · rw [if_neg h2]; omega
theorem rem_nI {a d : Nat} (ha : a < 2 ^ 31) (h0 : 0 < d) (hd : d < 2 ^ 31) : hk_rem (nI a) (nI d) = nI (a % d) := pk_rem ha h0 hd
theorem div_nI {a d : Nat} (ha : a < 2 ^ 31) (h0 : 0 < d) (hd : d < 2 ^ 31) : nI a / nI d = nI (a / d) := pk_div ha h0 hd
theorem x8_rot {t : Nat} (ht : t < 8) {c : Nat × Nat × Nat} (h : c.1 ≤ 3 ∧ c.2.1 ≤ 3 ∧ c.2.2 ≤ 3) : hk_wl (st_X8_init_294 (nI t)) hkF (nI c.1, nI c.2.1, nI c.2.2, (0 : Int32)) = some (nI (rotK (t % 4) c).1, nI (rotK (t % 4) c).2.1, nI (rotK (t % 4) c).2.2) := by
  have e := wl_for0 (f := st_X8_init_294 (nI t)) (fun q => (nI (rotK q c).1, nI (rotK q c).2.1, nI (rotK q c).2.2, nI q)) (e := t % 4) (r := (nI (rotK (t % 4) c).1, nI (rotK (t % 4) c).2.1, nI (rotK (t % 4) c).2.2)) (by
    intro q hq
    have hc := rotK_ok h q
    show st_X8_init_294c (nI t) (nI (rotK q c).1) (nI (rotK q c).2.1) (nI (rotK q c).2.2) (nI q) = _
    unfold st_X8_init_294c
    rw [i4, rem_nI (by omega) (by decide) (by decide), if_neg (nI_ge hq (by omega))]
    simp only [hk_let]
    rw [i3, pk_sub hc.1, i1, nI_add, nI_add, rem_nI (by omega) (by decide) (by decide)]
    rfl) (by
    show st_X8_init_294c (nI t) (nI (rotK (t % 4) c).1) (nI (rotK (t % 4) c).2.1) (nI (rotK (t % 4) c).2.2) (nI (t % 4)) = _
    unfold st_X8_init_294c
    rw [i4, rem_nI (by omega) (by decide) (by decide), if_pos (nI_le (Nat.le_refl _) (by omega))]) (by omega)
  exact e
/-- the turned places of cell i, for t turns -/
def twr (i : Nat) (w : Nat → Int32) : Nat → Nat → Int32
  | 0 => w
  | t + 1 => upd (twr i w t) (64 * t + i) (nI (turnT t i))
theorem x8_tw {i : Nat} (hi : i < 64) (w : Nat → Int32) : hk_wl (st_X8_init_242 (nI i) (nI (i / 16)) (nI (i / 4 % 4)) (nI (i % 4))) hkF ((0 : Int32), w) = some (twr i w 8) := by
  have e := wl_for0 (f := st_X8_init_242 (nI i) (nI (i / 16)) (nI (i / 4 % 4)) (nI (i % 4))) (fun t => (nI t, twr i w t)) (e := 8) (r := twr i w 8) (by
    intro t ht
    show st_X8_init_242c (nI i) (nI (i / 16)) (nI (i / 4 % 4)) (nI (i % 4)) (nI t) (twr i w t) = _
    unfold st_X8_init_242c
    have hc := rotK_ok (st0_ok (t := t) hi) (t % 4)
    have e1 : (if (4 : Int32) ≤ nI t then 3 - nI (i / 4 % 4) else nI (i / 4 % 4)) = nI (st0 t i).2.1 := by
      unfold st0; dsimp only
      by_cases h : t < 4
      · rw [if_pos h, if_neg (by rw [i4]; exact nI_ge h (by decide))]
      · rw [if_neg h, if_pos (by rw [i4]; exact nI_le (by omega) (by omega)), i3, pk_sub (by omega)]
    have e2 : (if nI t < (4 : Int32) then nI (i % 4) else (if hk_rem (nI (i % 4)) (2 : Int32) = 0 then nI (i % 4) else 4 - nI (i % 4))) = nI (st0 t i).2.2 := by
      unfold st0; dsimp only
      by_cases h : t < 4
      · rw [if_pos h, if_pos (by rw [i4]; exact nI_lt h (by decide))]
      · rw [if_neg h, if_neg (by rw [i4]; exact nI_nlt (by omega) (by omega)), i2, rem_nI (by omega) (by decide) (by decide)]
        by_cases h2 : i % 4 % 2 = 0
        · rw [if_pos h2, if_pos (by rw [h2]; rfl)]
        · rw [if_neg h2, if_neg (by rw [i0, nI_eq (by omega) (by decide)]; exact h2), i4, pk_sub (by omega)]
    simp only [hk_let, e1, e2]
    rw [show nI (i / 16) = nI (st0 t i).1 from rfl, x8_rot ht (st0_ok hi), b3s, i8, if_neg (nI_ge ht (by decide)), i64, pk_mul, nI_add, inb_nI (show 64 * t + i < 512 by omega) (by decide), gds, cl_nI (by omega), i1, nI_add, i16, pk_mul, i4, pk_mul, nI_add, nI_add]
    rfl) (by
    show st_X8_init_242c (nI i) (nI (i / 16)) (nI (i / 4 % 4)) (nI (i % 4)) (nI 8) (twr i w 8) = _
    unfold st_X8_init_242c
    rw [i8, if_pos (by decide)]) (by decide)
  exact e
def nwr : Nat → Nat → Int64
  | 0 => fun _ => 0
  | i + 1 => vp_updL (nwr i) i (nearT i)
def tww : Nat → Nat → Int32
  | 0 => fun _ => 0
  | i + 1 => twr i (tww i) 8
theorem x8_init : f_X8_init = some (nwr 64, tww 64) := by
  unfold f_X8_init
  have e := wl_for0 (f := st_X8_init_154) (fun i => (nI i, nwr i, tww i)) (e := 64) (r := (nwr 64, tww 64)) (by
    intro i hi
    show st_X8_init_154c (nI i) (nwr i) (tww i) = _
    unfold st_X8_init_154c
    have hk : i % 4 ≤ i := Nat.mod_le _ _
    simp only [hk_let, i16, i4, div_nI (show i < 2 ^ 31 by omega) (show 0 < 16 by decide) (show 16 < 2 ^ 31 by decide), div_nI (show i < 2 ^ 31 by omega) (show 0 < 4 by decide) (show 4 < 2 ^ 31 by decide), rem_nI (show i / 4 < 2 ^ 31 by omega) (show 0 < 4 by decide) (show 4 < 2 ^ 31 by decide), rem_nI (show i < 2 ^ 31 by omega) (show 0 < 4 by decide) (show 4 < 2 ^ 31 by decide), inb_nI hi (show 64 < 2 ^ 31 by decide), gds, bes_d i hi, b1s, x8_tw hi, cl_nI (show i < 2 ^ 31 by omega), updL_s, updL_u]
    rw [i64, if_neg (nI_ge hi (by decide)), i1, nI_add, i3, nI_add, nI_add, rem_nI (show i % 4 + 1 < 2 ^ 31 by omega) (by decide) (by decide), rem_nI (show i % 4 + 3 < 2 ^ 31 by omega) (by decide) (by decide), pk_sub hk, nI_add, nI_add]
    rfl) (by
    show st_X8_init_154c (nI 64) (nwr 64) (tww 64) = _
    unfold st_X8_init_154c
    rw [i64, if_pos (by decide)]) (by decide)
  rw [show ((0 : Int32), (fun _ => (0 : Int64)), (fun _ => (0 : Int32))) = (nI 0, nwr 0, tww 0) from rfl, e, b2s]
theorem nwr_at : ∀ (n i : Nat), i < n → nwr n i = nearT i
  | 0, i, h => absurd h (Nat.not_lt_zero i)
  | n + 1, i, h => by
    show vp_updL (nwr n) n (nearT n) i = nearT i
    by_cases e : i = n
    · subst e; rw [updL_s]
    · rw [updL_n e]; exact nwr_at n i (by omega)
theorem twr_at (i : Nat) (hi : i < 64) (w : Nat → Int32) : ∀ (n k : Nat), (∀ t, t < n → k = 64 * t + i → twr i w n k = nI (turnT t i)) ∧ ((∀ t, t < n → k ≠ 64 * t + i) → twr i w n k = w k)
  | 0, k => ⟨fun t h => absurd h (Nat.not_lt_zero t), fun _ => rfl⟩
  | n + 1, k => by
    have ih := twr_at i hi w n k
    refine ⟨fun t ht e => ?_, fun h => ?_⟩
    · show upd (twr i w n) (64 * n + i) (nI (turnT n i)) k = _
      by_cases e2 : t = n
      · subst e2; subst e; rw [upd_s]
      · rw [pk_un (by omega)]; exact ih.1 t (by omega) e
    · show upd (twr i w n) (64 * n + i) (nI (turnT n i)) k = _
      rw [pk_un (h n (by omega))]
      exact ih.2 (fun t ht => h t (by omega))
theorem tww_at : ∀ (n : Nat), n ≤ 64 → ∀ t i, t < 8 → i < n → tww n (64 * t + i) = nI (turnT t i)
  | 0, _, t, i, _, h => absurd h (Nat.not_lt_zero i)
  | n + 1, hn, t, i, ht, hi => by
    show twr n (tww n) 8 (64 * t + i) = _
    by_cases e : i = n
    · subst e; exact (twr_at i (by omega) (tww i) 8 (64 * t + i)).1 t ht rfl
    · rw [(twr_at n (by omega) (tww n) 8 (64 * t + i)).2 (fun t2 h2 => by omega)]
      exact tww_at n (by omega) t i ht (by omega)
/-- the two tables, as the reference's other calls find them -/
def tabs (nr : Nat → Int64) (tn : Nat → Int32) : Prop := (∀ i, i < 64 → nr i = nearT i) ∧ ∀ t i, t < 8 → i < 64 → tn (64 * t + i) = nI (turnT t i)
theorem tabs_init : tabs (nwr 64) (tww 64) := ⟨fun i h => nwr_at 64 i h, fun t i ht hi => tww_at 64 (Nat.le_refl _) t i ht hi⟩
