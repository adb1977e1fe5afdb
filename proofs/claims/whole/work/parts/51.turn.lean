/-! turns -/
def swi (m : Int64) (k i : Nat) : Nat := if bl m i = true then i + k else if decide (k ≤ i) && bl m (i - k) then i - k else i
def swOk (m : Int64) (k : Nat) : Prop := ∀ i, i < 64 → bl m i = true → (i + k < 64 ∧ (decide (k ≤ i) && bl m (i - k)) = false)
def swx (x m : Int64) (k : Nat) : Int64 := (x ^^^ ((hk_ushr x (nI k) ^^^ x) &&& m)) ^^^ hk_shl ((hk_ushr x (nI k) ^^^ x) &&& m) (nI k)
theorem sw_bit (x m : Int64) {k : Nat} (hk : k < 64) (hm : swOk m k) {i : Nat} (hi : i < 64) : bl (swx x m k) i = bl x (swi m k i) := by
  unfold swx swi
  rw [bl_xor, bl_xor, bl_and, bl_xor, bl_ushr x hk, bl_shl _ hk hi, bl_and, bl_xor, bl_ushr x hk]
  cases h1 : bl m i
  · rw [if_neg (by decide)]
    by_cases h2 : k ≤ i
    · rw [show k + (i - k) = i by omega, decide_eq_true h2]
      cases h3 : bl m (i - k)
      · rw [if_neg (by decide)]; cases bl x i <;> cases bl x (k + i) <;> cases bl x (i - k) <;> rfl
      · rw [if_pos (by decide)]; cases bl x i <;> cases bl x (k + i) <;> cases bl x (i - k) <;> rfl
    · rw [decide_eq_false h2, if_neg (by simp)]
      cases bl x i <;> cases bl x (k + i) <;> rfl
  · rw [if_pos rfl, show i + k = k + i by omega]
    have h := (hm i hi h1).2
    by_cases h2 : k ≤ i
    · rw [decide_eq_true h2, Bool.true_and] at h
      rw [h, Bool.and_false, Bool.and_false, Bool.xor_false]
      cases bl x i <;> cases bl x (k + i) <;> rfl
    · rw [decide_eq_false h2, Bool.false_and, Bool.xor_false]
      cases bl x i <;> cases bl x (k + i) <;> rfl
theorem swi_lt {m : Int64} {k : Nat} (hm : swOk m k) {i : Nat} (hi : i < 64) : swi m k i < 64 := by
  unfold swi
  cases h : bl m i
  · rw [if_neg (by decide)]
    split <;> omega
  · rw [if_pos rfl]; exact (hm i hi h).1
theorem ok1 : swOk 71777214294589695 8 := by unfold swOk; decide +kernel
theorem ok2 : swOk 1085102592571150095 4 := by unfold swOk; decide +kernel
theorem ok3 : swOk 2459565876494606882 2 := by unfold swOk; decide +kernel
theorem ok4 : swOk 4278255360 24 := by unfold swOk; decide +kernel
theorem ok5 : swOk 264913582878960 12 := by unfold swOk; decide +kernel
theorem ok6 : swOk 3689348814741910323 2 := by unfold swOk; decide +kernel
theorem ok7 : swOk 6148914691236517205 1 := by unfold swOk; decide +kernel
def mir (x : Int64) : Int64 := swx (swx (swx x 71777214294589695 8) 1085102592571150095 4) 2459565876494606882 2
def asl (x : Int64) : Int64 := swx (swx (swx (swx x 4278255360 24) 264913582878960 12) 3689348814741910323 2) 6148914691236517205 1
theorem mir_f (x : Int64) : f_X3_mirrored x = some (mir x) := rfl
theorem qr_f (x : Int64) : f_X3_quarterRight x = some (mir (asl x)) := rfl
def mi (i : Nat) : Nat := swi 71777214294589695 8 (swi 1085102592571150095 4 (swi 2459565876494606882 2 i))
def ai (i : Nat) : Nat := swi 4278255360 24 (swi 264913582878960 12 (swi 3689348814741910323 2 (swi 6148914691236517205 1 i)))
theorem mir_bit (x : Int64) {i : Nat} (hi : i < 64) : bl (mir x) i = bl x (mi i) := by
  unfold mir mi
  have h1 := swi_lt ok3 hi
  rw [sw_bit _ _ (by decide) ok3 hi, sw_bit _ _ (by decide) ok2 h1, sw_bit _ _ (by decide) ok1 (swi_lt ok2 h1)]
theorem asl_bit (x : Int64) {i : Nat} (hi : i < 64) : bl (asl x) i = bl x (ai i) := by
  unfold asl ai
  have h1 := swi_lt ok7 hi
  have h2 := swi_lt ok6 h1
  rw [sw_bit _ _ (by decide) ok7 hi, sw_bit _ _ (by decide) ok6 h1, sw_bit _ _ (by decide) ok5 h2, sw_bit _ _ (by decide) ok4 (swi_lt ok5 h2)]
theorem mi_lt {i : Nat} (hi : i < 64) : mi i < 64 := swi_lt ok1 (swi_lt ok2 (swi_lt ok3 hi))
theorem ai_lt {i : Nat} (hi : i < 64) : ai i < 64 := swi_lt ok4 (swi_lt ok5 (swi_lt ok6 (swi_lt ok7 hi)))
def qrn (x : Int64) : Nat → Int64
  | 0 => x
  | n + 1 => mir (asl (qrn x n))
def qin : Nat → Nat → Nat
  | 0, i => i
  | n + 1, i => qin n (ai (mi i))
theorem qrn_bit (x : Int64) : ∀ n {i : Nat}, i < 64 → bl (qrn x n) i = bl x (qin n i)
  | 0, i, _ => rfl
  | n + 1, i, hi => by
    show bl (mir (asl (qrn x n))) i = bl x (qin n (ai (mi i)))
    rw [mir_bit _ hi, asl_bit _ (mi_lt hi), qrn_bit x n (ai_lt (mi_lt hi))]
theorem qin_lt : ∀ n {i : Nat}, i < 64 → qin n i < 64
  | 0, i, hi => hi
  | n + 1, i, hi => qin_lt n (ai_lt (mi_lt hi))
def trn (x : Int64) (t : Nat) : Int64 := qrn (if t < 4 then x else mir x) (t % 4)
def tp (t i : Nat) : Nat := if t < 4 then qin (t % 4) i else mi (qin (t % 4) i)
theorem trn_bit (x : Int64) (t : Nat) {i : Nat} (hi : i < 64) : bl (trn x t) i = bl x (tp t i) := by
  unfold trn tp
  rw [qrn_bit _ _ hi]
  by_cases h : t < 4
  · rw [if_pos h, if_pos h]
  · rw [if_neg h, if_neg h, mir_bit _ (qin_lt _ hi)]
theorem k3 : ∀ t, t < 8 → nI t &&& 3 = nI (t % 4) := by decide +kernel
theorem x3_turned (x : Int64) {t : Nat} (ht : t < 8) : f_X3_turned x (nI t) = some (trn x t) := by
  have hv : (if nI t < (4 : Int32) then (some x) else (hk_b1 (f_X3_mirrored x) fun r23 => some r23)) = some (if t < 4 then x else mir x) := by
    by_cases h : t < 4
    · rw [if_pos h, if_pos (show nI t < 4 from (nI_ltI (b := 4) (by omega) (by decide)).mpr h)]
    · have h2 : ¬ nI t < (4 : Int32) := fun q => h ((nI_ltI (b := 4) (by omega) (by decide)).mp q)
      rw [if_neg h, if_neg h2, mir_f, b1s]
  unfold f_X3_turned
  rw [hv, b1s]
  have e := wl_for0 (f := st_X3_turned_17 (nI t)) (fun n => (qrn (if t < 4 then x else mir x) n, nI n)) (e := t % 4) (r := trn x t) (by
    intro n hn
    show st_X3_turned_17c (nI t) (qrn (if t < 4 then x else mir x) n) (nI n) = _
    unfold st_X3_turned_17c
    rw [k3 t ht, if_neg (nI_ge hn (by omega)), qr_f, b1s, i1, nI_add]
    rfl) (by
    show st_X3_turned_17c (nI t) (qrn (if t < 4 then x else mir x) (t % 4)) (nI (t % 4)) = _
    unfold st_X3_turned_17c
    rw [k3 t ht, if_pos (Int32.le_refl _)]
    rfl) (by omega)
  have e' : hk_wl (st_X3_turned_17 (nI t)) hkF ((if t < 4 then x else mir x), (0 : Int32)) = _ := e
  rw [e', b1s]
theorem tp_ok : ∀ t, t < 8 → ∀ j, j < 64 → (decide (tp t j < 64) && (decide (turnT t (tp t j) = j) && (decide (turnT t j < 64) && decide (tp t (turnT t j) = j)))) = true := by decide +kernel
def tba (x : Int64) (t : Nat) : Nat → Int64
  | 0 => 0
  | n + 1 => tba x t n ||| (if bl x n = true then hk_shl 1 (nI (turnT t n)) else 0)
theorem tba_bit (x : Int64) {t : Nat} (ht : t < 8) : ∀ n, n ≤ 64 → ∀ j, j < 64 → (bl (tba x t n) j = true ↔ ∃ i, i < n ∧ bl x i = true ∧ turnT t i = j)
  | 0, _, j, _ => by
    show bl 0 j = true ↔ _
    rw [bl_0]
    exact ⟨fun q => (by cases q), fun ⟨i, hi, _⟩ => by omega⟩
  | n + 1, hn, j, hj => by
    have ih := tba_bit x ht n (by omega) j hj
    have htp := tp_ok t ht n (by omega)
    simp only [Bool.and_eq_true, decide_eq_true_eq] at htp
    show bl (tba x t n ||| (if bl x n = true then hk_shl 1 (nI (turnT t n)) else 0)) j = true ↔ _
    rw [bl_or, Bool.or_eq_true, ih]
    constructor
    · rintro (⟨i, hi, h1, h2⟩ | h)
      · exact ⟨i, by omega, h1, h2⟩
      · by_cases hb : bl x n = true
        · rw [if_pos hb, bl_one htp.2.2.1 hj, decide_eq_true_eq] at h
          exact ⟨n, by omega, hb, h.symm⟩
        · rw [if_neg hb, bl_0] at h; cases h
    · rintro ⟨i, hi, h1, h2⟩
      by_cases hin : i = n
      · subst hin
        refine Or.inr ?_
        rw [if_pos h1, bl_one htp.2.2.1 hj, decide_eq_true_eq]
        exact h2.symm
      · exact Or.inl ⟨i, by omega, h1, h2⟩
theorem tba_64 (x : Int64) {t : Nat} (ht : t < 8) : tba x t 64 = trn x t := bl_ext (fun j hj => by
  have htp := tp_ok t ht j hj
  simp only [Bool.and_eq_true, decide_eq_true_eq] at htp
  have key : bl (tba x t 64) j = true ↔ bl (trn x t) j = true := by
    rw [tba_bit x ht 64 (by omega) j hj, trn_bit x t hj]
    constructor
    · rintro ⟨i, hi, h1, h2⟩
      have hti := tp_ok t ht i hi
      simp only [Bool.and_eq_true, decide_eq_true_eq] at hti
      rw [← h2, hti.2.2.2]; exact h1
    · intro h
      exact ⟨tp t j, htp.1, h, htp.2.1⟩
  cases h1 : bl (tba x t 64) j <;> cases h2 : bl (trn x t) j <;> simp_all)
theorem x8_turned {tn : Nat → Int32} (hn : ∀ t i, t < 8 → i < 64 → tn (64 * t + i) = nI (turnT t i)) (x : Int64) {t : Nat} (ht : t < 8) : f_X8_turnedBy tn x (nI t) = some (trn x t) := by
  have e := wl_for0 (f := st_X8_turnedBy_6 tn x (nI t)) (fun n => (tba x t n, nI n)) (e := 64) (r := tba x t 64) (by
    intro n hn'
    show st_X8_turnedBy_6c tn x (nI t) (tba x t n) (nI n) = _
    unfold st_X8_turnedBy_6c
    rw [if_neg (show ¬ (64 : Int32) ≤ nI n from nI_ge hn' (by decide)), has_nI x hn', b1s, show (64 : Int32) * nI t + nI n = nI (64 * t + n) from by rw [i64, pk_mul, nI_add], inb_nI (show 64 * t + n < 512 by omega) (by decide), gds, cl_nI (by omega), hn t n ht hn']
    cases hb : bl x n
    · rw [if_neg (show ¬ false = true by decide), if_pos rfl, b1s]
      simp only [hk_let]
      rw [i1, nI_add]
      have : tba x t (n + 1) = tba x t n ||| 0 := by
        show tba x t n ||| (if bl x n = true then hk_shl 1 (nI (turnT t n)) else 0) = _
        rw [hb]; rfl
      rw [this]
    · rw [if_pos rfl, if_neg ne_1_0, b1s]
      simp only [hk_let]
      have : tba x t (n + 1) = tba x t n ||| hk_shl 1 (nI (turnT t n)) := by
        show tba x t n ||| (if bl x n = true then hk_shl 1 (nI (turnT t n)) else 0) = _
        rw [hb]; rfl
      rw [this, show nI n + 1 = nI (n + 1) from by rw [i1, nI_add]]) (by
    show st_X8_turnedBy_6c tn x (nI t) (tba x t 64) (nI 64) = _
    unfold st_X8_turnedBy_6c
    rw [if_pos (by decide)]) (by decide)
  unfold f_X8_turnedBy
  have e' : hk_wl (st_X8_turnedBy_6 tn x (nI t)) hkF ((0 : Int64), (0 : Int32)) = _ := e
  rw [e', b1s, tba_64 x ht]
theorem pr_turn {tn : Nat → Int32} (hn : ∀ t i, t < 8 → i < 64 → tn (64 * t + i) = nI (turnT t i)) {a b : Nat → Int64} (h : fe a b) (x y : Int32) : ∃ r a' b', f_X7_turn a x y = some (r, a') ∧ f_X8_turn b tn x y = some (r, b') ∧ fe a' b' := by
  unfold f_X7_turn f_X8_turn
  rcases ix_cases x 8 (by decide) with ⟨j, hj, rfl⟩ | hx
  · rw [noF_0 hj, isF_1 hj, b1s, b1s, if_pos rfl, if_neg ne_1_0]
    rcases ix_cases y 8 (by decide) with ⟨t, ht, rfl⟩ | hy
    · have n0 : ¬ nI t < 0 := fun q => by
        have h1 := (nI_ltI (show t < 2 ^ 31 by omega) (show 0 < 2 ^ 31 by decide)).mp q
        omega
      have n7 : nI t < 8 := (nI_ltI (b := 8) (by omega) (by decide)).mpr ht
      rw [if_neg n0, if_pos n7, show f_X8_in (nI t).toInt64 0 7 = some 1 from in_nI (n := 7) (by omega) (by decide), b1s, if_neg ne_1_0]
      simp only [inb_nI hj (show 8 < 2 ^ 31 by decide), gds, cl_nI (show j < 2 ^ 31 by omega), h j hj, x3_turned _ ht, x8_turned hn _ ht, b1s, hk_let, change_s _ hj, b2s, updL_s]
      by_cases q : b j = trn (b j) t
      · rw [if_pos q, if_pos q]
        exact ⟨_, _, _, rfl, rfl, fe_upd h j _⟩
      · rw [if_neg q, if_neg q]
        exact ⟨_, _, _, rfl, rfl, fe_upd h j _⟩
    · rw [show f_X8_in y.toInt64 0 7 = some 0 from in_out (n := 7) (by decide) hy, b1s, if_pos rfl]
      refine ⟨-2, a, b, ?_, rfl, h⟩
      rcases hy with hy | hy
      · rw [if_pos hy]
      · by_cases hn : y < 0
        · rw [if_pos hn]
        · have h8 : ¬ y < (8 : Int32) := fun q => by
            rw [Int32.le_iff_toInt_le] at hy
            rw [Int32.lt_iff_toInt_lt] at q
            have e8 : (nI 8).toInt = 8 := by decide
            have e7 : (8 : Int32).toInt = 8 := by decide
            omega
          rw [if_neg hn, if_neg h8]
  · rw [noF_1 hx, isF_0 hx, b1s, b1s]
    exact ⟨-1, a, b, by simp, by simp, h⟩
