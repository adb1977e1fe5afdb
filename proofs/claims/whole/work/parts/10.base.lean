/-! the base of the decompiled functions: loops with fuel, names, guards; the rows that walk them -/
abbrev vwCl : List vw_C := [(RX1, TX1, 7), (RX5, TX5, 4), (RX6, TX6, 2), (RX7, TX7, 5), (RX8, TX8, 23)]
def hkF : Nat := 10000000000000000000000000000000000000000
def hk_let {α β : Type} (e : α) (f : α → β) : β := f e
def hk_gd {α : Type} (b : Bool) (x : Option α) : Option α := if b = true then x else none
def hk_inb (i : Int32) (n : Nat) : Bool := decide (¬ (i < 0 ∨ n ≤ i.toNatClampNeg))
def hk_isb (i : Int32) : Bool := decide (i = 0 ∨ i = 1)
def hk_shl (x : Int64) (y : Int32) : Int64 := x <<< (y.toInt64 &&& 63)
def hk_shr (x : Int64) (y : Int32) : Int64 := x >>> (y.toInt64 &&& 63)
def hk_ushr (x : Int64) (y : Int32) : Int64 := (x.toUInt64 >>> (y.toInt64.toUInt64 &&& Int64.toUInt64 63)).toInt64
def hk_ishl (x y : Int32) : Int32 := x <<< (y &&& 31)
def hk_ishr (x y : Int32) : Int32 := x >>> (y &&& 31)
def hk_rem (x y : Int32) : Int32 := x - x / y * y
def hk_abs (x : Int32) : Int32 := if 0 ≤ x then x else 0 - x
def hk_wl {σ ρ : Type} (f : σ → Option (σ ⊕ ρ)) : Nat → σ → Option ρ
  | 0, _ => none
  | n + 1, s => (f s).bind fun x => match x with
    | .inl t => hk_wl f n t
    | .inr r => some r
def hk_b1 {A R : Type} (x : Option A) (f : A → Option R) : Option R := x.bind f
def hk_b2 {A B R : Type} (x : Option (A × B)) (f : A → B → Option R) : Option R := x.bind fun t => f t.1 t.2
def hk_b3 {A B C R : Type} (x : Option (A × B × C)) (f : A → B → C → Option R) : Option R := x.bind fun t => f t.1 t.2.1 t.2.2
def hk_b4 {A B C D R : Type} (x : Option (A × B × C × D)) (f : A → B → C → D → Option R) : Option R := x.bind fun t => f t.1 t.2.1 t.2.2.1 t.2.2.2
def hk_b5 {A B C D E R : Type} (x : Option (A × B × C × D × E)) (f : A → B → C → D → E → Option R) : Option R := x.bind fun t => f t.1 t.2.1 t.2.2.1 t.2.2.2.1 t.2.2.2.2
def hk_b6 {A B C D E F R : Type} (x : Option (A × B × C × D × E × F)) (f : A → B → C → D → E → F → Option R) : Option R := x.bind fun t => f t.1 t.2.1 t.2.2.1 t.2.2.2.1 t.2.2.2.2.1 t.2.2.2.2.2
def hk_b7 {A B C D E F G R : Type} (x : Option (A × B × C × D × E × F × G)) (f : A → B → C → D → E → F → G → Option R) : Option R := x.bind fun t => f t.1 t.2.1 t.2.2.1 t.2.2.2.1 t.2.2.2.2.1 t.2.2.2.2.2.1 t.2.2.2.2.2.2
def hk_b8 {A B C D E F G I R : Type} (x : Option (A × B × C × D × E × F × G × I)) (f : A → B → C → D → E → F → G → I → Option R) : Option R := x.bind fun t => f t.1 t.2.1 t.2.2.1 t.2.2.2.1 t.2.2.2.2.1 t.2.2.2.2.2.1 t.2.2.2.2.2.2.1 t.2.2.2.2.2.2.2
def hk_b9 {A B C D E F G I J R : Type} (x : Option (A × B × C × D × E × F × G × I × J)) (f : A → B → C → D → E → F → G → I → J → Option R) : Option R := x.bind fun t => f t.1 t.2.1 t.2.2.1 t.2.2.2.1 t.2.2.2.2.1 t.2.2.2.2.2.1 t.2.2.2.2.2.2.1 t.2.2.2.2.2.2.2.1 t.2.2.2.2.2.2.2.2
theorem hk_le {α β : Type} {e : α} {f : α → β} {x : β} (h : hk_let e f = x) : ∃ v, v = e ∧ f v = x := ⟨e, rfl, h⟩
theorem hk_ge {α : Type} {b : Bool} {x : Option α} {r : α} (h : hk_gd b x = some r) : b = true ∧ x = some r := by
  unfold hk_gd at h
  by_cases hb : b = true
  · rw [if_pos hb] at h; exact ⟨hb, h⟩
  · rw [if_neg hb] at h; cases h
theorem hk_ip {α : Type} {c : Prop} {i : Decidable c} {a b x : α} (hc : c) (h : (@ite α c i a b) = x) : a = x := by rw [if_pos hc] at h; exact h
theorem hk_in {α : Type} {c : Prop} {i : Decidable c} {a b x : α} (hc : ¬ c) (h : (@ite α c i a b) = x) : b = x := by rw [if_neg hc] at h; exact h
theorem hk_inb_of {i : Int32} {n : Nat} (h : hk_inb i n = true) : vp_in i n := by
  have h1 : decide (¬ (i < 0 ∨ n ≤ i.toNatClampNeg)) = true := h
  have h2 : ¬ (i < 0 ∨ n ≤ i.toNatClampNeg) := of_decide_eq_true h1
  exact h2
theorem hk_isb_of {i : Int32} (h : hk_isb i = true) : narrow .boolean (.int i) = .int i := by
  unfold hk_isb at h
  rcases of_decide_eq_true h with h | h <;> subst h <;> rfl
theorem hk_x1 {A R : Type} {x : Option A} {f : A → Option R} {r : R} (h : hk_b1 x f = some r) : ∃ a, x = some a ∧ f a = some r := Option.bind_eq_some_iff.mp h
theorem hk_x2 {A B R : Type} {x : Option (A × B)} {f : A → B → Option R} {r : R} (h : hk_b2 x f = some r) : ∃ a b, x = some (a, b) ∧ f a b = some r := by
  obtain ⟨⟨a, b⟩, h1, h2⟩ := Option.bind_eq_some_iff.mp h; exact ⟨a, b, h1, h2⟩
theorem hk_x3 {A B C R : Type} {x : Option (A × B × C)} {f : A → B → C → Option R} {r : R} (h : hk_b3 x f = some r) : ∃ a b c, x = some (a, b, c) ∧ f a b c = some r := by
  obtain ⟨⟨a, b, c⟩, h1, h2⟩ := Option.bind_eq_some_iff.mp h; exact ⟨a, b, c, h1, h2⟩
theorem hk_x4 {A B C D R : Type} {x : Option (A × B × C × D)} {f : A → B → C → D → Option R} {r : R} (h : hk_b4 x f = some r) : ∃ a b c d, x = some (a, b, c, d) ∧ f a b c d = some r := by
  obtain ⟨⟨a, b, c, d⟩, h1, h2⟩ := Option.bind_eq_some_iff.mp h; exact ⟨a, b, c, d, h1, h2⟩
theorem hk_x5 {A B C D E R : Type} {x : Option (A × B × C × D × E)} {f : A → B → C → D → E → Option R} {r : R} (h : hk_b5 x f = some r) : ∃ a b c d e, x = some (a, b, c, d, e) ∧ f a b c d e = some r := by
  obtain ⟨⟨a, b, c, d, e⟩, h1, h2⟩ := Option.bind_eq_some_iff.mp h; exact ⟨a, b, c, d, e, h1, h2⟩
theorem hk_x6 {A B C D E F R : Type} {x : Option (A × B × C × D × E × F)} {f : A → B → C → D → E → F → Option R} {r : R} (h : hk_b6 x f = some r) : ∃ a b c d e g, x = some (a, b, c, d, e, g) ∧ f a b c d e g = some r := by
  obtain ⟨⟨a, b, c, d, e, g⟩, h1, h2⟩ := Option.bind_eq_some_iff.mp h; exact ⟨a, b, c, d, e, g, h1, h2⟩
theorem hk_x7 {A B C D E F G R : Type} {x : Option (A × B × C × D × E × F × G)} {f : A → B → C → D → E → F → G → Option R} {r : R} (h : hk_b7 x f = some r) : ∃ a b c d e g i, x = some (a, b, c, d, e, g, i) ∧ f a b c d e g i = some r := by
  obtain ⟨⟨a, b, c, d, e, g, i⟩, h1, h2⟩ := Option.bind_eq_some_iff.mp h; exact ⟨a, b, c, d, e, g, i, h1, h2⟩
theorem hk_x8 {A B C D E F G I R : Type} {x : Option (A × B × C × D × E × F × G × I)} {f : A → B → C → D → E → F → G → I → Option R} {r : R} (h : hk_b8 x f = some r) : ∃ a b c d e g i j, x = some (a, b, c, d, e, g, i, j) ∧ f a b c d e g i j = some r := by
  obtain ⟨⟨a, b, c, d, e, g, i, j⟩, h1, h2⟩ := Option.bind_eq_some_iff.mp h; exact ⟨a, b, c, d, e, g, i, j, h1, h2⟩
theorem hk_x9 {A B C D E F G I J R : Type} {x : Option (A × B × C × D × E × F × G × I × J)} {f : A → B → C → D → E → F → G → I → J → Option R} {r : R} (h : hk_b9 x f = some r) : ∃ a b c d e g i j k, x = some (a, b, c, d, e, g, i, j, k) ∧ f a b c d e g i j k = some r := by
  obtain ⟨⟨a, b, c, d, e, g, i, j, k⟩, h1, h2⟩ := Option.bind_eq_some_iff.mp h; exact ⟨a, b, c, d, e, g, i, j, k, h1, h2⟩
def hk_u2 {A B R : Type} (t : A × B) (f : A → B → R) : R := f t.1 t.2
def hk_u3 {A B C R : Type} (t : A × B × C) (f : A → B → C → R) : R := f t.1 t.2.1 t.2.2
def hk_u4 {A B C D R : Type} (t : A × B × C × D) (f : A → B → C → D → R) : R := f t.1 t.2.1 t.2.2.1 t.2.2.2
def hk_u5 {A B C D E R : Type} (t : A × B × C × D × E) (f : A → B → C → D → E → R) : R := f t.1 t.2.1 t.2.2.1 t.2.2.2.1 t.2.2.2.2
def hk_sum {A B R : Type} (x : A ⊕ B) (f : A → R) (g : B → R) : R := match x with
  | .inl a => f a
  | .inr b => g b
theorem hk_lf {α β : Type} {e : α} {f : α → β} {x : β} (h : hk_let e f = x) : ∃ v, e = v ∧ f v = x := ⟨e, rfl, h⟩
theorem hk_v2 {A B R : Type} {a : A} {b : B} {f : A → B → R} {x : R} (h : hk_u2 (a, b) f = x) : f a b = x := h
theorem hk_v3 {A B C R : Type} {a : A} {b : B} {c : C} {f : A → B → C → R} {x : R} (h : hk_u3 (a, b, c) f = x) : f a b c = x := h
theorem hk_v4 {A B C D R : Type} {a : A} {b : B} {c : C} {d : D} {f : A → B → C → D → R} {x : R} (h : hk_u4 (a, b, c, d) f = x) : f a b c d = x := h
theorem hk_v5 {A B C D E R : Type} {a : A} {b : B} {c : C} {d : D} {e : E} {f : A → B → C → D → E → R} {x : R} (h : hk_u5 (a, b, c, d, e) f = x) : f a b c d e = x := h
theorem hk_w2 {A B R : Type} {t : A × B} {f : A → B → R} {x : R} (h : hk_u2 t f = x) : ∃ a b, t = (a, b) ∧ f a b = x := ⟨t.1, t.2, rfl, h⟩
theorem hk_w3 {A B C R : Type} {t : A × B × C} {f : A → B → C → R} {x : R} (h : hk_u3 t f = x) : ∃ a b c, t = (a, b, c) ∧ f a b c = x := ⟨t.1, t.2.1, t.2.2, rfl, h⟩
theorem hk_w4 {A B C D R : Type} {t : A × B × C × D} {f : A → B → C → D → R} {x : R} (h : hk_u4 t f = x) : ∃ a b c d, t = (a, b, c, d) ∧ f a b c d = x := ⟨t.1, t.2.1, t.2.2.1, t.2.2.2, rfl, h⟩
theorem hk_w5 {A B C D E R : Type} {t : A × B × C × D × E} {f : A → B → C → D → E → R} {x : R} (h : hk_u5 t f = x) : ∃ a b c d e, t = (a, b, c, d, e) ∧ f a b c d e = x := ⟨t.1, t.2.1, t.2.2.1, t.2.2.2.1, t.2.2.2.2, rfl, h⟩
theorem hk_sa {A B R : Type} {a : A} {f : A → R} {g : B → R} {x : R} (h : hk_sum (Sum.inl a) f g = x) : f a = x := h
theorem hk_sb {A B R : Type} {b : B} {f : A → R} {g : B → R} {x : R} (h : hk_sum (Sum.inr b) f g = x) : g b = x := h
theorem hk_out3 {x : Int32} (h0 : ¬ x = 0) (h1 : ¬ x = 1) (h2 : ¬ x = 2) : x.toInt < 0 ∨ 2 < x.toInt := by
  have a0 := lv_neT h0 (show (0 : Int32).toInt = 0 from rfl)
  have a1 := lv_neT h1 (show (1 : Int32).toInt = 1 from rfl)
  have a2 := lv_neT h2 (show (2 : Int32).toInt = 2 from rfl)
  omega
theorem hk_out4 {x : Int32} (h0 : ¬ x = 0) (h1 : ¬ x = 1) (h2 : ¬ x = 2) (h3 : ¬ x = 3) : x.toInt < 0 ∨ 3 < x.toInt := by
  have a0 := lv_neT h0 (show (0 : Int32).toInt = 0 from rfl)
  have a1 := lv_neT h1 (show (1 : Int32).toInt = 1 from rfl)
  have a2 := lv_neT h2 (show (2 : Int32).toInt = 2 from rfl)
  have a3 := lv_neT h3 (show (3 : Int32).toInt = 3 from rfl)
  omega
/-- the loop, as a rule of any property -/
theorem hk_ind {σ ρ : Type} {f : σ → Option (σ ⊕ ρ)} {At : σ → Prop} {Out : ρ → Prop} (body : ∀ (t : σ) (x : σ ⊕ ρ), f t = some x → (∀ t', x = .inl t' → At t') → (∀ r, x = .inr r → Out r) → At t) : ∀ (n : Nat) (t : σ) (r : ρ), hk_wl f n t = some r → Out r → At t := by
  intro n
  induction n with
  | zero => intro t r h; cases h
  | succ n ih =>
    intro t r h ho
    obtain ⟨x, h1, h2⟩ := Option.bind_eq_some_iff.mp (show (f t).bind _ = some r from h)
    refine body t x h1 (fun t' e => ?_) (fun r' e => ?_)
    · subst e; exact ih t' r h2 ho
    · subst e
      have h3 : r' = r := Option.some.inj h2
      rw [h3]; exact ho
/-- the words of nest mates -/
def hkN (U : State) : Prop := va_Nw (.methodLinkNest "HalfAndHalfAgain" 9 ⟨"HalfAndHalfAgain$Text", "<init>", "()V"⟩ "HalfAndHalfAgain") U ∧ va_Nw (.methodLinkNest "HalfAndHalfAgain" 18 ⟨"HalfAndHalfAgain$Store", "<init>", "()V"⟩ "HalfAndHalfAgain") U ∧ va_Nw (.methodLinkNest "HalfAndHalfAgain" 29 ⟨"HalfAndHalfAgain$Cover", "<init>", "()V"⟩ "HalfAndHalfAgain") U ∧ va_Nw (.methodLinkNest "HalfAndHalfAgain$Moves" 58 ⟨"HalfAndHalfAgain", "isLess", "(JJ)Z"⟩ "HalfAndHalfAgain") U ∧ va_Nw (.methodLinkNest "HalfAndHalfAgain$Cover" 53 ⟨"HalfAndHalfAgain", "isAmong", "([JIJ)Z"⟩ "HalfAndHalfAgain") U ∧ va_Nw (.methodLinkNest "HalfAndHalfAgain$Cover" 74 ⟨"HalfAndHalfAgain", "isLess", "(JJ)Z"⟩ "HalfAndHalfAgain") U
theorem hkN.warm {s U : State} (hW : s.WarmedH U.vm) (h : hkN s) : hkN U := ⟨va_Nw.warmM hW h.1, va_Nw.warmM hW h.2.1, va_Nw.warmM hW h.2.2.1, va_Nw.warmM hW h.2.2.2.1, va_Nw.warmM hW h.2.2.2.2.1, va_Nw.warmM hW h.2.2.2.2.2⟩
theorem hkN.same {s U : State} (hv : s.vm = U.vm) (h : hkN s) : hkN U := ⟨va_Nw.same rfl hv h.1, va_Nw.same rfl hv h.2.1, va_Nw.same rfl hv h.2.2.1, va_Nw.same rfl hv h.2.2.2.1, va_Nw.same rfl hv h.2.2.2.2.1, va_Nw.same rfl hv h.2.2.2.2.2⟩
/-- the tables of the arrays' classes -/
abbrev hkT (cI cJ cZ cO : ClassId) : List (ClassId × FieldType) := [(cI, .int), (cJ, .long), (cZ, .boolean), (cO, .object "HalfAndHalfAgain$Store")]
def hkK (D : va_G) (cI cJ cZ cO : ClassId) (U : State) : Prop := va_K D vwCl (hkT cI cJ cZ cO) U ∧ hkN U
theorem hkK.warm {D : va_G} {cI cJ cZ cO : ClassId} {s U : State} (hW : s.WarmedH U.vm) (h : hkK D cI cJ cZ cO s) : hkK D cI cJ cZ cO U := ⟨va_K.moved hW.alike h.1, h.2.warm hW⟩
theorem hkK.same {D : va_G} {cI cJ cZ cO : ClassId} {s U : State} (hv : s.vm = U.vm) (h : hkK D cI cJ cZ cO s) : hkK D cI cJ cZ cO U := ⟨va_K.moved (by rw [hv]; exact Vm.Alike.refl U.vm) h.1, h.2.same hv⟩
/-- what a method starts from that only reads: the nest's words alone; a world -/
def hkR (D : va_G) (cI cJ cZ cO : ClassId) (ws : va_W) (U : State) : Prop := va_P D vwCl ws U.heap ∧ hkK D cI cJ cZ cO U
/-- what a method starts from that writes -/
def hkM (D : va_G) (cI cJ cZ cO : ClassId) (ws : va_W) (sz : Nat) (U : State) : Prop := U.heap.size = sz ∧ va_P D vwCl ws U.heap ∧ hkK D cI cJ cZ cO U ∧ va_D (fun _ => True) ws
theorem hk_preN {s : State} {H : Heap} {As : List Value} (hK : hkN s) : PreS s H (va_Pc As hkN) As := ⟨fun _ _ _ _ q => ⟨q.1, q.2.same rfl⟩, fun _ _ hW => ⟨rfl, hK.warm hW⟩⟩
theorem hk_preR {D : va_G} {cI cJ cZ cO : ClassId} {s : State} {H : Heap} {ws : va_W} {As : List Value} (hP : va_P D vwCl ws H) (hK : hkK D cI cJ cZ cO s) : PreS s H (va_Pc As (hkR D cI cJ cZ cO ws)) As := ⟨fun _ _ _ _ q => ⟨q.1, q.2.1, q.2.2.same rfl⟩, fun _ hU hW => ⟨rfl, by rw [hU]; exact hP, hK.warm hW⟩⟩
theorem hk_preRV {D : va_G} {cI cJ cZ cO : ClassId} {s : State} {H : Heap} {ws : va_W} {As : List Value} {b : Addr} (ci : Nat) {r : vw_C} {fs : List Value} (hc : vwCl[ci]? = some r) (hP : va_P D vwCl ws H) (hK : hkK D cI cJ cZ cO s) (he : ws[0]? = some (b, .inr (ci, fs))) : PreV s H r.1 b (va_Pc (Value.ref b :: As) (hkR D cI cJ cZ cO ws)) As := ⟨fun _ _ _ _ q => ⟨q.1, q.2.1, q.2.2.same rfl⟩, va_recv hK.1 hP hc he, fun _ hU hW => ⟨rfl, by rw [hU]; exact hP, hK.warm hW⟩⟩
theorem hk_preM {D : va_G} {cI cJ cZ cO : ClassId} {s : State} {H : Heap} {ws : va_W} {As : List Value} {A : Nat → Prop} (hP : va_P D vwCl ws H) (hD : va_D A ws) (hK : hkK D cI cJ cZ cO s) : PreS s H (va_Pc As (hkM D cI cJ cZ cO ws H.size)) As := ⟨fun _ _ _ _ q => ⟨q.1, q.2.1, q.2.2.1, q.2.2.2.1.same rfl, q.2.2.2.2⟩, fun _ hU hW => ⟨rfl, by rw [hU], by rw [hU]; exact hP, hK.warm hW, hD.weaken (fun _ _ _ _ => trivial)⟩⟩
theorem hk_preMV {D : va_G} {cI cJ cZ cO : ClassId} {s : State} {H : Heap} {ws : va_W} {As : List Value} {b : Addr} {A : Nat → Prop} (ci : Nat) {r : vw_C} {fs : List Value} (hc : vwCl[ci]? = some r) (hP : va_P D vwCl ws H) (hD : va_D A ws) (hK : hkK D cI cJ cZ cO s) (he : ws[0]? = some (b, .inr (ci, fs))) : PreV s H r.1 b (va_Pc (Value.ref b :: As) (hkM D cI cJ cZ cO ws H.size)) As := ⟨fun _ _ _ _ q => ⟨q.1, q.2.1, q.2.2.1, q.2.2.2.1.same rfl, q.2.2.2.2⟩, va_recv hK.1 hP hc he, fun _ hU hW => ⟨rfl, by rw [hU], by rw [hU]; exact hP, hK.warm hW, hD.weaken (fun _ _ _ _ => trivial)⟩⟩
section HKW
variable {p : Program} {l : Launch} {e : Env} {R : Room} {s : State} {m : MethodId} {args : Array Value} {below : List Frame} {meth : Method} {c : Code} {H : Heap} {locs : List Loc} {cells slots : Nat} {Q : State → Prop} {cc : ByteArray} {pc : Nat} {ls : Array Slot} {rest : List Value}
theorem hk_Q {g : JFrame} (h : ∀ Q', Q' = Q → W p l e R s m args below meth c H locs cells slots Q' g) : W p l e R s m args below meth c H locs cells slots Q g := h Q rfl
theorem hk_ti {x y : Int32} (e1 : y = x) (k : W p l e R s m args below meth c H locs cells slots Q (F0 m pc ls (.int y :: rest))) : W p l e R s m args below meth c H locs cells slots Q (F0 m pc ls (.int x :: rest)) := e1 ▸ k
theorem hk_tl {x y : Int64} (e1 : y = x) (k : W p l e R s m args below meth c H locs cells slots Q (F0 m pc ls (.long y :: rest))) : W p l e R s m args below meth c H locs cells slots Q (F0 m pc ls (.long x :: rest)) := e1 ▸ k
theorem hk_lcmp_eq (hx : p.tables.exec = Jvm.exec) (hb : c.code = cc) {x y : Int64} {off : Int} {tgt : Nat} (d1 : decode cc pc = .ok (.lcmp, 1)) (d2 : decode cc (pc + 1) = .ok (.ifCond .eq off, 3)) (ht : ((pc + 1 : Nat) : Int) + off = (tgt : Int)) (kt : x = y → W p l e R s m args below meth c H locs cells slots Q (F0 m tgt ls rest)) (kf : ¬ x = y → W p l e R s m args below meth c H locs cells slots Q (F0 m (pc + 1 + 3) ls rest)) : W p l e R s m args below meth c H locs cells slots Q (F0 m pc ls (.long y :: .long x :: rest)) :=
  W.lcmp hx hb d1 (lv_if_eq hx hb d2 ht (fun h => kt ((lg_cmp_eq x y).mp h)) (fun h => kf (fun q => h ((lg_cmp_eq x y).mpr q))))
theorem hk_lcmp_ne (hx : p.tables.exec = Jvm.exec) (hb : c.code = cc) {x y : Int64} {off : Int} {tgt : Nat} (d1 : decode cc pc = .ok (.lcmp, 1)) (d2 : decode cc (pc + 1) = .ok (.ifCond .ne off, 3)) (ht : ((pc + 1 : Nat) : Int) + off = (tgt : Int)) (kt : ¬ x = y → W p l e R s m args below meth c H locs cells slots Q (F0 m tgt ls rest)) (kf : x = y → W p l e R s m args below meth c H locs cells slots Q (F0 m (pc + 1 + 3) ls rest)) : W p l e R s m args below meth c H locs cells slots Q (F0 m pc ls (.long y :: .long x :: rest)) :=
  W.lcmp hx hb d1 (lv_if_ne hx hb d2 ht (fun h => kt (fun q => h ((lg_cmp_eq x y).mpr q))) (fun h => kf ((lg_cmp_eq x y).mp h)))
theorem hk_lcmp_lt (hx : p.tables.exec = Jvm.exec) (hb : c.code = cc) {x y : Int64} {off : Int} {tgt : Nat} (d1 : decode cc pc = .ok (.lcmp, 1)) (d2 : decode cc (pc + 1) = .ok (.ifCond .lt off, 3)) (ht : ((pc + 1 : Nat) : Int) + off = (tgt : Int)) (kt : x < y → W p l e R s m args below meth c H locs cells slots Q (F0 m tgt ls rest)) (kf : ¬ x < y → W p l e R s m args below meth c H locs cells slots Q (F0 m (pc + 1 + 3) ls rest)) : W p l e R s m args below meth c H locs cells slots Q (F0 m pc ls (.long y :: .long x :: rest)) :=
  W.lcmp hx hb d1 (lv_if_lt hx hb d2 ht (fun h => kt ((lg_cmp_lt x y).mp h)) (fun h => kf (fun q => h ((lg_cmp_lt x y).mpr q))))
theorem hk_lcmp_ge (hx : p.tables.exec = Jvm.exec) (hb : c.code = cc) {x y : Int64} {off : Int} {tgt : Nat} (d1 : decode cc pc = .ok (.lcmp, 1)) (d2 : decode cc (pc + 1) = .ok (.ifCond .ge off, 3)) (ht : ((pc + 1 : Nat) : Int) + off = (tgt : Int)) (kt : y ≤ x → W p l e R s m args below meth c H locs cells slots Q (F0 m tgt ls rest)) (kf : ¬ y ≤ x → W p l e R s m args below meth c H locs cells slots Q (F0 m (pc + 1 + 3) ls rest)) : W p l e R s m args below meth c H locs cells slots Q (F0 m pc ls (.long y :: .long x :: rest)) :=
  W.lcmp hx hb d1 (lv_if_ge hx hb d2 ht (fun h => kt ((lg_cmp_ge x y).mp h)) (fun h => kf (fun q => h ((lg_cmp_ge x y).mpr q))))
theorem hk_lcmp_gt (hx : p.tables.exec = Jvm.exec) (hb : c.code = cc) {x y : Int64} {off : Int} {tgt : Nat} (d1 : decode cc pc = .ok (.lcmp, 1)) (d2 : decode cc (pc + 1) = .ok (.ifCond .gt off, 3)) (ht : ((pc + 1 : Nat) : Int) + off = (tgt : Int)) (kt : y < x → W p l e R s m args below meth c H locs cells slots Q (F0 m tgt ls rest)) (kf : ¬ y < x → W p l e R s m args below meth c H locs cells slots Q (F0 m (pc + 1 + 3) ls rest)) : W p l e R s m args below meth c H locs cells slots Q (F0 m pc ls (.long y :: .long x :: rest)) :=
  W.lcmp hx hb d1 (lv_if_gt hx hb d2 ht (fun h => kt ((lg_cmp_gt x y).mp h)) (fun h => kf (fun q => h ((lg_cmp_gt x y).mpr q))))
theorem hk_lcmp_le (hx : p.tables.exec = Jvm.exec) (hb : c.code = cc) {x y : Int64} {off : Int} {tgt : Nat} (d1 : decode cc pc = .ok (.lcmp, 1)) (d2 : decode cc (pc + 1) = .ok (.ifCond .le off, 3)) (ht : ((pc + 1 : Nat) : Int) + off = (tgt : Int)) (kt : x ≤ y → W p l e R s m args below meth c H locs cells slots Q (F0 m tgt ls rest)) (kf : ¬ x ≤ y → W p l e R s m args below meth c H locs cells slots Q (F0 m (pc + 1 + 3) ls rest)) : W p l e R s m args below meth c H locs cells slots Q (F0 m pc ls (.long y :: .long x :: rest)) :=
  W.lcmp hx hb d1 (lv_if_le hx hb d2 ht (fun h => kt ((lg_cmp_le x y).mp h)) (fun h => kf (fun q => h ((lg_cmp_le x y).mpr q))))
/-- a loop of a method that only reads -/
theorem hk_loopR {σ ρ : Type} {f : σ → Option (σ ⊕ ρ)} {hd nL : Nat} {lv : σ → List (Nat × Value)} {xs : ρ → Nat × List (Nat × Value) × List Value}
    (body : ∀ (t : σ) (x : σ ⊕ ρ), f t = some x → (∀ t', x = .inl t' → ∀ ls, lv_has ls nL (lv t') → W p l e R s m args below meth c H locs cells slots Q (F0 m hd ls [])) → (∀ r, x = .inr r → ∀ ls, lv_has ls nL (xs r).2.1 → W p l e R s m args below meth c H locs cells slots Q (F0 m (xs r).1 ls (xs r).2.2)) → ∀ ls, lv_has ls nL (lv t) → W p l e R s m args below meth c H locs cells slots Q (F0 m hd ls []))
    {n : Nat} {t : σ} {r : ρ} (h : hk_wl f n t = some r) (cont : ∀ ls, lv_has ls nL (xs r).2.1 → W p l e R s m args below meth c H locs cells slots Q (F0 m (xs r).1 ls (xs r).2.2)) {ls : Array Slot} (hl : lv_has ls nL (lv t)) : W p l e R s m args below meth c H locs cells slots Q (F0 m hd ls []) :=
  hk_ind (At := fun t => ∀ ls, lv_has ls nL (lv t) → W p l e R s m args below meth c H locs cells slots Q (F0 m hd ls [])) (Out := fun r => ∀ ls, lv_has ls nL (xs r).2.1 → W p l e R s m args below meth c H locs cells slots Q (F0 m (xs r).1 ls (xs r).2.2)) body n t r h cont ls hl
/-- a join of a method that only reads -/
theorem hk_joinR {ρ : Type} {nL : Nat} (xs : ρ → Nat × List (Nat × Value) × List Value) (r : ρ) {g : JFrame}
    (reg : (∀ ls, lv_has ls nL (xs r).2.1 → W p l e R s m args below meth c H locs cells slots Q (F0 m (xs r).1 ls (xs r).2.2)) → W p l e R s m args below meth c H locs cells slots Q g)
    (cont : ∀ ls, lv_has ls nL (xs r).2.1 → W p l e R s m args below meth c H locs cells slots Q (F0 m (xs r).1 ls (xs r).2.2)) : W p l e R s m args below meth c H locs cells slots Q g := reg cont
end HKW
section HKV
variable {p : Program} {l : Launch} {e : Env} {R : Room} {s : State} {m : MethodId} {args : Array Value} {below : List Frame} {meth : Method} {c : Code} {H : Heap} {locs : List Loc} {cells slots : Nat} {Q : State → Prop}
/-- a loop of a method that writes -/
theorem hk_loopM {σ ρ : Type} {f : σ → Option (σ ⊕ ρ)} {hd nL : Nat} {lv : σ → List (Nat × Value)} {wf : σ → va_W} {xs : ρ → Nat × List (Nat × Value) × List Value × va_W} {D : va_G} {cl : List vw_C} {A : Nat → Prop} {H0 : Heap}
    (body : ∀ (t : σ) (x : σ ⊕ ρ), f t = some x → (∀ t', x = .inl t' → ∀ H locs ls, va_P D cl (wf t') H → va_D A (wf t') → va_S A H0 H locs → lv_has ls nL (lv t') → W p l e R s m args below meth c H locs cells slots Q (F0 m hd ls [])) → (∀ r, x = .inr r → ∀ H locs ls, va_P D cl (xs r).2.2.2 H → va_D A (xs r).2.2.2 → va_S A H0 H locs → lv_has ls nL (xs r).2.1 → W p l e R s m args below meth c H locs cells slots Q (F0 m (xs r).1 ls (xs r).2.2.1)) → ∀ H locs ls, va_P D cl (wf t) H → va_D A (wf t) → va_S A H0 H locs → lv_has ls nL (lv t) → W p l e R s m args below meth c H locs cells slots Q (F0 m hd ls []))
    {n : Nat} {t : σ} {r : ρ} (h : hk_wl f n t = some r) (cont : ∀ H locs ls, va_P D cl (xs r).2.2.2 H → va_D A (xs r).2.2.2 → va_S A H0 H locs → lv_has ls nL (xs r).2.1 → W p l e R s m args below meth c H locs cells slots Q (F0 m (xs r).1 ls (xs r).2.2.1)) {H : Heap} {locs : List Loc} {ls : Array Slot} (hP : va_P D cl (wf t) H) (hD : va_D A (wf t)) (hS : va_S A H0 H locs) (hl : lv_has ls nL (lv t)) : W p l e R s m args below meth c H locs cells slots Q (F0 m hd ls []) :=
  hk_ind (At := fun t => ∀ H locs ls, va_P D cl (wf t) H → va_D A (wf t) → va_S A H0 H locs → lv_has ls nL (lv t) → W p l e R s m args below meth c H locs cells slots Q (F0 m hd ls [])) (Out := fun r => ∀ H locs ls, va_P D cl (xs r).2.2.2 H → va_D A (xs r).2.2.2 → va_S A H0 H locs → lv_has ls nL (xs r).2.1 → W p l e R s m args below meth c H locs cells slots Q (F0 m (xs r).1 ls (xs r).2.2.1)) body n t r h cont H locs ls hP hD hS hl
theorem hk_joinM {ρ : Type} {nL : Nat} {D : va_G} {cl : List vw_C} {A : Nat → Prop} {H0 : Heap} (xs : ρ → Nat × List (Nat × Value) × List Value × va_W) (r : ρ) {g : JFrame}
    (reg : (∀ H locs ls, va_P D cl (xs r).2.2.2 H → va_D A (xs r).2.2.2 → va_S A H0 H locs → lv_has ls nL (xs r).2.1 → W p l e R s m args below meth c H locs cells slots Q (F0 m (xs r).1 ls (xs r).2.2.1)) → W p l e R s m args below meth c H locs cells slots Q g)
    (cont : ∀ H locs ls, va_P D cl (xs r).2.2.2 H → va_D A (xs r).2.2.2 → va_S A H0 H locs → lv_has ls nL (xs r).2.1 → W p l e R s m args below meth c H locs cells slots Q (F0 m (xs r).1 ls (xs r).2.2.1)) : W p l e R s m args below meth c H locs cells slots Q g := reg cont
end HKV
