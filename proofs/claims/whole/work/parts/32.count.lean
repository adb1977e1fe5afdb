/-! Long.bitCount: how many bits, by digits of four bits -/
def dN : List Nat → Nat
  | [] => 0
  | d :: l => 16 * dN l + d
def dg : Nat → Nat → List Nat
  | 0, _ => []
  | k + 1, n => (n % 16) :: dg k (n / 16)
theorem dN_dg : ∀ (k n : Nat), n < 16 ^ k → dN (dg k n) = n
  | 0, n, h => by
    have : n = 0 := by simpa using h
    subst this; rfl
  | k + 1, n, h => by
    show 16 * dN (dg k (n / 16)) + n % 16 = n
    rw [dN_dg k (n / 16) (by rw [Nat.pow_succ] at h; omega)]
    omega
def dOk (l : List Nat) : Prop := ∀ d ∈ l, d < 16
theorem dg_ok : ∀ (k n : Nat), dOk (dg k n)
  | 0, _ => fun d h => by cases h
  | k + 1, n => fun d h => by
    rcases List.mem_cons.mp h with h | h
    · subst h; exact Nat.mod_lt _ (by decide)
    · exact dg_ok k _ d h
theorem dg_len : ∀ (k n : Nat), (dg k n).length = k
  | 0, _ => rfl
  | k + 1, n => by show (dg k (n / 16)).length + 1 = k + 1; rw [dg_len k]
theorem dOk_t {d : Nat} {l : List Nat} (h : dOk (d :: l)) : d < 16 ∧ dOk l := ⟨h d List.mem_cons_self, fun x hx => h x (List.mem_cons_of_mem _ hx)⟩
theorem dtb_lo {d m i : Nat} (h : d < 16) (hi : i < 4) : (16 * m + d).testBit i = d.testBit i := by
  rw [show (16 : Nat) = 2 ^ 4 from rfl, Nat.testBit_two_pow_mul_add m (by exact h), if_pos hi]
theorem dtb_hi {d m i : Nat} (h : d < 16) : (16 * m + d).testBit (4 + i) = m.testBit i := by
  rw [show (16 : Nat) = 2 ^ 4 from rfl, Nat.testBit_two_pow_mul_add m (by exact h), if_neg (by omega)]
  congr 1; omega
theorem d_and1 {a b m k : Nat} (ha : a < 16) (hb : b < 16) : (16 * m + a) &&& (16 * k + b) = 16 * (m &&& k) + (a &&& b) := by
  have hab : a &&& b < 16 := Nat.lt_of_le_of_lt Nat.and_le_left ha
  apply Nat.eq_of_testBit_eq
  intro i
  rw [Nat.testBit_and]
  by_cases hi : i < 4
  · rw [dtb_lo ha hi, dtb_lo hb hi, dtb_lo hab hi, Nat.testBit_and]
  · obtain ⟨j, rfl⟩ : ∃ j, i = 4 + j := ⟨i - 4, by omega⟩
    rw [dtb_hi ha, dtb_hi hb, dtb_hi hab, Nat.testBit_and]
/-- a digit's low bits, of a number shifted by one or two bits within the digits -/
theorem d_sh {a m k b s p : Nat} (hs : s < 4) (hp : 2 ^ s = p) (ha : a < 16) (hb : b < 2 ^ (4 - s)) : ((16 * m + a) / p) &&& (16 * k + b) = 16 * ((m / p) &&& k) + ((a / p) &&& b) := by
  subst hp
  have hb2 : b < 16 := Nat.lt_of_lt_of_le hb (by
    calc 2 ^ (4 - s) ≤ 2 ^ 4 := Nat.pow_le_pow_right (by decide) (by omega)
      _ = 16 := rfl)
  have hab : (a / 2 ^ s) &&& b < 16 := Nat.lt_of_le_of_lt Nat.and_le_right hb2
  apply Nat.eq_of_testBit_eq
  intro i
  rw [Nat.testBit_and, Nat.testBit_div_two_pow]
  by_cases hi : i < 4
  · rw [dtb_lo hb2 hi, dtb_lo hab hi, Nat.testBit_and, Nat.testBit_div_two_pow]
    by_cases h2 : i + s < 4
    · rw [dtb_lo ha h2]
    · have : b.testBit i = false := Nat.testBit_lt_two_pow (Nat.lt_of_lt_of_le hb (Nat.pow_le_pow_right (by decide) (by omega)))
      rw [this, Bool.and_false, Bool.and_false]
  · obtain ⟨j, rfl⟩ : ∃ j, i = 4 + j := ⟨i - 4, by omega⟩
    rw [dtb_hi hb2, dtb_hi hab, Nat.testBit_and, Nat.testBit_div_two_pow, show 4 + j + s = 4 + (j + s) by omega, dtb_hi ha]
def dMap (f : Nat → Nat) (l : List Nat) : List Nat := l.map f
theorem d_and (b : Nat) (hb : b < 16) : ∀ (l : List Nat), dOk l → dN l &&& dN (l.map fun _ => b) = dN (l.map fun d => d &&& b)
  | [], _ => Nat.and_self 0
  | d :: l, h => by
    show (16 * dN l + d) &&& (16 * dN (l.map fun _ => b) + b) = 16 * dN (l.map fun d => d &&& b) + (d &&& b)
    rw [d_and1 (dOk_t h).1 hb, d_and b hb l (dOk_t h).2]
theorem d_shm (s p b : Nat) (hs : s < 4) (hp : 2 ^ s = p) (hb : b < 2 ^ (4 - s)) : ∀ (l : List Nat), dOk l → (dN l / p) &&& dN (l.map fun _ => b) = dN (l.map fun d => (d / p) &&& b)
  | [], _ => by show (0 / p) &&& 0 = 0; simp
  | d :: l, h => by
    show ((16 * dN l + d) / p) &&& (16 * dN (l.map fun _ => b) + b) = 16 * dN (l.map fun d => (d / p) &&& b) + ((d / p) &&& b)
    rw [d_sh hs hp (dOk_t h).1 hb, d_shm s p b hs hp hb l (dOk_t h).2]
theorem d_add (f g : Nat → Nat) : ∀ (l : List Nat), dN (l.map f) + dN (l.map g) = dN (l.map fun d => f d + g d)
  | [] => rfl
  | d :: l => by
    show (16 * dN (l.map f) + f d) + (16 * dN (l.map g) + g d) = 16 * dN (l.map fun d => f d + g d) + (f d + g d)
    rw [← d_add f g l]; omega
theorem d_sub (f g : Nat → Nat) (hfg : ∀ d, d < 16 → g d ≤ f d) : ∀ (l : List Nat), dOk l → dN (l.map f) - dN (l.map g) = dN (l.map fun d => f d - g d) ∧ dN (l.map g) ≤ dN (l.map f)
  | [], _ => ⟨rfl, Nat.le_refl _⟩
  | d :: l, h => by
    have ih := d_sub f g hfg l (dOk_t h).2
    have h1 := hfg d (dOk_t h).1
    show (16 * dN (l.map f) + f d) - (16 * dN (l.map g) + g d) = 16 * dN (l.map fun d => f d - g d) + (f d - g d) ∧ 16 * dN (l.map g) + g d ≤ 16 * dN (l.map f) + f d
    rw [← ih.1]; omega
def pop4 (d : Nat) : Nat := fb_ct d.testBit 4
theorem pop4_le (d : Nat) : pop4 d ≤ 4 := fb_ct_le _ _
theorem d_pop : ∀ (l : List Nat), dOk l → fb_ct (dN l).testBit (4 * l.length) = (l.map pop4).sum
  | [], _ => rfl
  | d :: l, h => by
    have e : 4 * (d :: l).length = 4 + 4 * l.length := by simp; omega
    rw [e, fb_ct_split, List.map_cons, List.sum_cons, ← d_pop l (dOk_t h).2]
    congr 1
    · exact fb_ct_cong (fun k hk => dtb_lo (dOk_t h).1 hk)
    · exact fb_ct_cong (fun k _ => dtb_hi (dOk_t h).1)
theorem d_s1 : ∀ d, d < 16 → (d / 2) &&& 5 ≤ d := by decide +kernel
theorem d_s2 : ∀ d, d < 16 → ((d - ((d / 2) &&& 5)) &&& 3) + (((d - ((d / 2) &&& 5)) / 4) &&& 3) = pop4 d := by decide +kernel
theorem d_b1 : ∀ d, d < 16 → d - ((d / 2) &&& 5) < 16 := by decide +kernel
theorem map_ok {f : Nat → Nat} {l : List Nat} (h : dOk l) (hf : ∀ d, d < 16 → f d < 16) : dOk (l.map f) := fun x hx => by
  obtain ⟨d, h1, rfl⟩ := List.mem_map.mp hx
  exact hf d (h d h1)
theorem dmap_cong {f g : Nat → Nat} : ∀ {l : List Nat}, dOk l → (∀ d, d < 16 → f d = g d) → l.map f = l.map g
  | [], _, _ => rfl
  | d :: l, h, hfg => by rw [List.map_cons, List.map_cons, hfg d (dOk_t h).1, dmap_cong (dOk_t h).2 hfg]
/-- the first three steps, on the digits -/
theorem d_steps (l : List Nat) (h : dOk l) : ∃ y, dN l - ((dN l / 2) &&& dN (l.map fun _ => 5)) = y ∧ (dN l / 2) &&& dN (l.map fun _ => 5) ≤ dN l ∧ (y &&& dN (l.map fun _ => 3)) + ((y / 4) &&& dN (l.map fun _ => 3)) = dN (l.map pop4) := by
  refine ⟨_, rfl, ?_⟩
  rw [d_shm 1 2 5 (by decide) rfl (by decide) l h]
  have hs := d_sub (fun d => d) (fun d => (d / 2) &&& 5) d_s1 l h
  rw [List.map_id'] at hs
  refine ⟨hs.2, ?_⟩
  rw [hs.1]
  have h2 : dOk (l.map fun d => d - ((d / 2) &&& 5)) := map_ok h d_b1
  have e3 : (l.map fun _ => 3) = ((l.map fun d => d - ((d / 2) &&& 5)).map fun _ => 3) := by rw [List.map_map]; rfl
  rw [e3, d_and 3 (by decide) _ h2, d_shm 2 4 3 (by decide) rfl (by decide) _ h2, List.map_map, List.map_map, d_add]
  exact congrArg dN (dmap_cong h (fun d hd => d_s2 d hd))
theorem d_andz : ∀ (l m : List Nat), dOk l → dOk m → l.length = m.length → dN l &&& dN m = dN (List.zipWith (fun a b => a &&& b) l m)
  | [], [], _, _, _ => Nat.and_self 0
  | [], _ :: _, _, _, h => by cases h
  | _ :: _, [], _, _, h => by cases h
  | a :: l, b :: m, h1, h2, h3 => by
    show (16 * dN l + a) &&& (16 * dN m + b) = 16 * dN (List.zipWith (fun a b => a &&& b) l m) + (a &&& b)
    rw [d_and1 (dOk_t h1).1 (dOk_t h2).1, d_andz l m (dOk_t h1).2 (dOk_t h2).2 (by simpa using h3)]
theorem d_div (d : Nat) (l : List Nat) (h : d < 16) : dN (d :: l) / 16 = dN l := by
  show (16 * dN l + d) / 16 = dN l
  omega
theorem dN_0 (l : List Nat) : dN (l ++ [0]) = dN l := by
  induction l with
  | nil => rfl
  | cons d l ih => show 16 * dN (l ++ [0]) + d = 16 * dN l + d; rw [ih]
theorem d_addz : ∀ (l m : List Nat), l.length = m.length → dN l + dN m = dN (List.zipWith (fun a b => a + b) l m)
  | [], [], _ => rfl
  | [], _ :: _, h => by cases h
  | _ :: _, [], h => by cases h
  | a :: l, b :: m, h => by
    show (16 * dN l + a) + (16 * dN m + b) = 16 * dN (List.zipWith (fun a b => a + b) l m) + (a + b)
    rw [← d_addz l m (by simpa using h)]; omega
theorem k15 : ∀ x, x < 16 → x &&& 15 = x := by decide +kernel
