/-! bits of longs -/
def bl (x : Int64) (i : Nat) : Bool := x.toBitVec.getLsbD i
theorem bl_ext {x y : Int64} (h : ∀ i, i < 64 → bl x i = bl y i) : x = y := Int64.toBitVec_inj.mp (BitVec.eq_of_getLsbD_eq h)
theorem bl_big {x : Int64} {i : Nat} (h : 64 ≤ i) : bl x i = false := BitVec.getLsbD_of_ge _ _ h
theorem bl_and (x y : Int64) (i : Nat) : bl (x &&& y) i = (bl x i && bl y i) := by unfold bl; rw [Int64.toBitVec_and, BitVec.getLsbD_and]
theorem bl_or (x y : Int64) (i : Nat) : bl (x ||| y) i = (bl x i || bl y i) := by unfold bl; rw [Int64.toBitVec_or, BitVec.getLsbD_or]
theorem bl_xor (x y : Int64) (i : Nat) : bl (x ^^^ y) i = (bl x i ^^ bl y i) := by unfold bl; rw [Int64.toBitVec_xor, BitVec.getLsbD_xor]
theorem bl_0 (i : Nat) : bl 0 i = false := by
  show (0 : Int64).toBitVec.getLsbD i = false
  rw [show (0 : Int64).toBitVec = 0#64 from rfl, BitVec.getLsbD_zero]
theorem bl_m1 {i : Nat} (h : i < 64) : bl (-1) i = true := by
  show (-1 : Int64).toBitVec.getLsbD i = true
  rw [show (-1 : Int64).toBitVec = BitVec.allOnes 64 from rfl, BitVec.getLsbD_allOnes]
  exact decide_eq_true h
theorem bl_not (x : Int64) {i : Nat} (h : i < 64) : bl (x ^^^ (-1)) i = !bl x i := by rw [bl_xor, bl_m1 h, Bool.xor_true]
theorem bl_lN (n i : Nat) (h : n < 2 ^ 64) : bl (lN n) i = n.testBit i := by
  show (BitVec.ofNat 64 n).getLsbD i = _
  rw [BitVec.getLsbD_ofNat]
  by_cases hi : i < 64
  · simp [hi]
  · have : n.testBit i = false := Nat.testBit_lt_two_pow (Nat.lt_of_lt_of_le h (Nat.pow_le_pow_right (by decide) (by omega)))
    simp [hi, this]
theorem bl_shl (x : Int64) {k : Nat} (hk : k < 64) {i : Nat} (hi : i < 64) : bl (hk_shl x (nI k)) i = (decide (k ≤ i) && bl x (i - k)) := by
  unfold hk_shl bl
  rw [wb_c k hk, Int64.toBitVec_shiftLeft, wb_tb, wb_sm k hk, BitVec.shiftLeft_eq', BitVec.toNat_ofNat, Nat.mod_eq_of_lt (show k < 2 ^ 64 by omega), BitVec.getLsbD_shiftLeft]
  by_cases h : k ≤ i
  · simp [hi, h, Nat.not_lt.mpr h]
  · simp [hi, h, Nat.lt_of_not_le h]
theorem bl_ushr (x : Int64) {k : Nat} (hk : k < 64) (i : Nat) : bl (hk_ushr x (nI k)) i = bl x (k + i) := by
  unfold hk_ushr bl
  rw [wb_cu k hk]
  show ((x.toUInt64 >>> UInt64.ofNat k).toBitVec).getLsbD i = _
  rw [UInt64.toBitVec_shiftRight]
  have h1 : (UInt64.ofNat k).toBitVec = BitVec.ofNat 64 k := rfl
  have h2 : (BitVec.ofNat 64 k) % 64 = BitVec.ofNat 64 k := by
    apply BitVec.eq_of_toNat_eq
    rw [BitVec.toNat_umod, BitVec.toNat_ofNat, Nat.mod_eq_of_lt (show k < 2 ^ 64 by omega)]
    exact Nat.mod_eq_of_lt (by show k < 64; exact hk)
  rw [h1, h2, BitVec.ushiftRight_eq', BitVec.toNat_ofNat, Nat.mod_eq_of_lt (show k < 2 ^ 64 by omega), BitVec.getLsbD_ushiftRight]
  rfl
theorem bl_shr0 (x : Int64) {k : Nat} (hk : k < 64) : bl (hk_shr x (nI k)) 0 = bl x k := by
  unfold hk_shr bl
  rw [wb_c k hk, Int64.toBitVec_shiftRight, wb_tb, wb_sm k hk, BitVec.sshiftRight_eq', BitVec.toNat_ofNat, Nat.mod_eq_of_lt (show k < 2 ^ 64 by omega), BitVec.getLsbD_sshiftRight]
  simp [hk]
theorem bl_shr (x : Int64) {k : Nat} (hk : k < 64) {i : Nat} (hi : k + i < 64) : bl (hk_shr x (nI k)) i = bl x (k + i) := by
  unfold hk_shr bl
  rw [wb_c k hk, Int64.toBitVec_shiftRight, wb_tb, wb_sm k hk, BitVec.sshiftRight_eq', BitVec.toNat_ofNat, Nat.mod_eq_of_lt (show k < 2 ^ 64 by omega), BitVec.getLsbD_sshiftRight]
  have h1 : ¬ 64 ≤ i := by omega
  simp [hi, h1]
theorem bl_1 (i : Nat) : bl 1 i = decide (i = 0) := by
  rw [show (1 : Int64) = lN (2 ^ 0) from rfl, bl_lN _ _ (by decide), Nat.testBit_two_pow]
  by_cases h : i = 0
  · simp [h]
  · simp [h]; omega
/-- the long of one bit -/
theorem bl_one {k : Nat} (hk : k < 64) {i : Nat} (hi : i < 64) : bl (hk_shl 1 (nI k)) i = decide (i = k) := by
  rw [bl_shl _ hk hi, bl_1]
  by_cases h : k ≤ i
  · by_cases h2 : i = k
    · simp [h2]
    · have : ¬ i - k = 0 := by omega
      simp [h, h2, this]
  · have : ¬ i = k := by omega
    simp [h, this]
theorem bl_eq0 (x : Int64) : x = 0 ↔ ∀ i, i < 64 → bl x i = false := ⟨fun h i _ => by rw [h, bl_0], fun h => bl_ext (fun i hi => by rw [h i hi, bl_0])⟩
theorem bl_ne0 {x : Int64} (h : ¬ x = 0) : ∃ i, i < 64 ∧ bl x i = true := by
  apply Classical.byContradiction
  intro h2
  exact h ((bl_eq0 x).mpr (fun i hi => by
    cases hb : bl x i with
    | false => rfl
    | true => exact absurd ⟨i, hi, hb⟩ h2))
/-- and with 1: the lowest bit as a number -/
theorem and1 (x : Int64) : x &&& 1 = if bl x 0 = true then 1 else 0 := by
  apply bl_ext
  intro i hi
  rw [bl_and, bl_1]
  by_cases h : i = 0
  · subst h
    cases hb : bl x 0 <;> simp [bl_1, bl_0]
  · cases hb : bl x 0 <;> simp [h, bl_1, bl_0]
theorem litJ (n : Nat) : (OfNat.ofNat n : Int64) = lN n := rfl
theorem litI (n : Nat) : (OfNat.ofNat n : Int32) = nI n := rfl
/-- how many bits -/
def popc (x : Int64) : Nat := fb_ct (bl x) 64
theorem popc_le (x : Int64) : popc x ≤ 64 := fb_ct_le _ _
theorem popc_0 : popc 0 = 0 := fb_ct_zero.mpr (fun k _ => bl_0 k)
theorem popc_eq0 {x : Int64} : popc x = 0 ↔ x = 0 := by
  rw [bl_eq0]; exact fb_ct_zero
/-! loops by their states -/
theorem wl_step {σ ρ : Type} {f : σ → Option (σ ⊕ ρ)} {n : Nat} {s t : σ} (h : f s = some (.inl t)) : hk_wl f (n + 1) s = hk_wl f n t := by
  show (f s).bind _ = _
  rw [h]; rfl
theorem wl_end {σ ρ : Type} {f : σ → Option (σ ⊕ ρ)} {n : Nat} {s : σ} {r : ρ} (h : f s = some (.inr r)) : hk_wl f (n + 1) s = some r := by
  show (f s).bind _ = _
  rw [h]; rfl
/-- a loop whose states are S a, S (a + 1), .., S e -/
theorem wl_for {σ ρ : Type} {f : σ → Option (σ ⊕ ρ)} (S : Nat → σ) {e : Nat} {r : ρ} (hs : ∀ i, i < e → f (S i) = some (.inl (S (i + 1)))) (he : f (S e) = some (.inr r)) : ∀ (d a n : Nat), a + d = e → d < n → hk_wl f n (S a) = some r := by
  intro d
  induction d with
  | zero =>
    intro a n h1 h2
    obtain ⟨n, rfl⟩ : ∃ m, n = m + 1 := ⟨n - 1, by omega⟩
    have : a = e := by omega
    subst this
    exact wl_end he
  | succ d ih =>
    intro a n h1 h2
    obtain ⟨n, rfl⟩ : ∃ m, n = m + 1 := ⟨n - 1, by omega⟩
    rw [wl_step (hs a (by omega))]
    exact ih (a + 1) n (by omega) (by omega)
theorem wl_for0 {σ ρ : Type} {f : σ → Option (σ ⊕ ρ)} (S : Nat → σ) {e : Nat} {r : ρ} (hs : ∀ i, i < e → f (S i) = some (.inl (S (i + 1)))) (he : f (S e) = some (.inr r)) (hn : e < 1000000) : hk_wl f hkF (S 0) = some r :=
  wl_for S hs he e 0 hkF (by omega) (by unfold hkF; omega)
/-- a loop with a measure that falls: what holds at its end -/
theorem wl_meas {σ ρ : Type} {f : σ → Option (σ ⊕ ρ)} (I : σ → Prop) (μ : σ → Nat) (P : ρ → Prop) (h : ∀ s, I s → (∃ t, f s = some (.inl t) ∧ I t ∧ μ t < μ s) ∨ (∃ r, f s = some (.inr r) ∧ P r)) : ∀ (n : Nat) (s : σ), I s → μ s < n → ∃ r, hk_wl f n s = some r ∧ P r := by
  intro n
  induction n with
  | zero => intro s _ h2; omega
  | succ n ih =>
    intro s h1 h2
    rcases h s h1 with ⟨t, a, b, c⟩ | ⟨r, a, b⟩
    · rw [wl_step a]; exact ih t b (by omega)
    · exact ⟨r, wl_end a, b⟩
theorem hkF_big {n : Nat} (h : n < 1000000000000000000000000000000) : n < hkF := by unfold hkF; omega
