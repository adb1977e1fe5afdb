/-! the reference's ways: one level -/
theorem nlt0 {y : Nat} (h : y < 2 ^ 31) : ¬ nI y < 0 := fun q => by
  have h1 := (nI_ltI h (show 0 < 2 ^ 31 by decide)).mp q
  omega
def GG (pl : Nat → Int64) : Nat → Nat → Int64 := fun i q => pl (400 * i + q)
def DD : Nat → Nat
  | 0 => 0
  | r + 1 => 96 * (1 + DD r) + 1
def okI (ct : Nat → Nat) (now : Nat → Int32) (idx : Nat → Nat) (y : Nat) : Prop := ∀ i, i < y → now i = nI (idx i) ∧ idx i < ct i
def fsP (G : Nat → Nat → Int64) (idx : Nat → Nat) (y r c : Nat) (L : List (List Int64)) (fs fs' : Nat → Int64) : Prop := ((¬ c = 0 ∨ L = []) → fs' = fs) ∧ (c = 0 → ∀ h t, L = h :: t → (∀ i, i < y → fs' i = G i (idx i)) ∧ ∀ i, i ≤ r → fs' (y + i) = h.getD i 0)
theorem x8_eq95 {n y c : Nat} (hn : n ≤ 4) (hy : y < n) {pm : Nat → Int32} {pl : Nat → Int64} {ct : Nat → Nat} (hct : ∀ i, i < n → pm i = nI (ct i) ∧ ct i ≤ 96) {f : Int64} {fs : Nat → Int64} {now : Nat → Int32} {idx : Nat → Nat} (hi : okI ct now idx y) {a k : Nat} (hak : a + k = ct y) (hnow : now y = nI a) : st_X8_layWays_95c (nI n) f pm pl (nI c) (nI y) fs now = (hk_b4 (if (upd now y (nI (nx (GG pl) y (lfv (GG pl) idx f y) k a))) y = pm y then (hk_let (nI y + (-1 : Int32)) fun x109 => if x109 < 0 then (some (nI c, x109, fs, upd now y (nI (nx (GG pl) y (lfv (GG pl) idx f y) k a)))) else (hk_gd (hk_inb x109 4) (hk_gd (hk_inb x109 4) (some (nI c, x109, fs, (upd (upd now y (nI (nx (GG pl) y (lfv (GG pl) idx f y) k a))) x109.toNatClampNeg ((upd now y (nI (nx (GG pl) y (lfv (GG pl) idx f y) k a))) x109.toNatClampNeg + (1 : Int32)))))))) else (if nI y = nI n - (1 : Int32) then (hk_b1 (hk_wl (st_X8_layWays_224 (nI n) pl (nI c) (upd now y (nI (nx (GG pl) y (lfv (GG pl) idx f y) k a)))) hkF ((0 : Int32), fs)) fun v103 => hk_let (nI c + (1 : Int32)) fun x106 => hk_gd (hk_inb (nI y) 4) (hk_gd (hk_inb (nI y) 4) (some (x106, nI y, v103, (upd (upd now y (nI (nx (GG pl) y (lfv (GG pl) idx f y) k a))) y ((upd now y (nI (nx (GG pl) y (lfv (GG pl) idx f y) k a))) y + (1 : Int32))))))) else (hk_let (nI y + (1 : Int32)) fun x91 => hk_gd (hk_inb x91 4) (some (nI c, x91, fs, (upd (upd now y (nI (nx (GG pl) y (lfv (GG pl) idx f y) k a))) x91.toNatClampNeg (0 : Int32))))))) fun v113 v114 v115 v116 => some (.inl (v113, v114, v115, v116))) := by
  have hy4 : y < 4 := by omega
  obtain ⟨h1, h2⟩ := hct y hy
  have e1 := x8_leftBy (pl := pl) (now := now) (idx := idx) f (show y ≤ 4 by omega) (fun i hiy => ⟨(hi i hiy).1, by have := (hi i hiy).2; have := (hct i (by omega)).2; omega⟩)
  have e2 := x8_nx (pl := pl) hy4 h2 h1 (lfv (GG pl) idx f y) k a hkF now hak hnow (hkF_big (by omega))
  unfold st_X8_layWays_95c
  rw [if_neg (nlt0 (show y < 2 ^ 31 by omega)), e1, b1s]
  have e2' : hk_wl (st_X8_layWays_109 pm pl (nI y) (lfv (fun i q => pl (400 * i + q)) idx f y)) hkF now = some (upd now y (nI (nx (GG pl) y (lfv (GG pl) idx f y) k a))) := e2
  rw [e2', b1s, inb_nI hy4 (by decide), gds, gds, cl_nI (show y < 2 ^ 31 by omega)]
def HF (n : Nat) (f : Int64) (pm : Nat → Int32) (pl : Nat → Int64) (ct : Nat → Nat) (r y : Nat) : Prop := ∀ (a c : Nat) (fs : Nat → Int64) (now : Nat → Int32) (idx : Nat → Nat), a < ct y → now y = nI a → okI ct now idx y → fits (GG pl) y a (lfv (GG pl) idx f y) = true → c + (cmpl (GG pl) ct r (y + 1) (lfv (GG pl) idx f y &&& (GG pl y a ^^^ (-1)))).length < 2 ^ 31 → ∃ d fs1 now1, d ≤ 1 + DD r ∧ Rch (st_X8_layWays_95 (nI n) f pm pl) (nI c, nI y, fs, now) (nI (c + (cmpl (GG pl) ct r (y + 1) (lfv (GG pl) idx f y &&& (GG pl y a ^^^ (-1)))).length), nI y, fs1, now1) d ∧ now1 y = nI (a + 1) ∧ (∀ i, i < y → now1 i = now i) ∧ fsP (GG pl) idx y r c ((cmpl (GG pl) ct r (y + 1) (lfv (GG pl) idx f y &&& (GG pl y a ^^^ (-1)))).map (fun t => GG pl y a :: t)) fs fs1
def LV1 (n : Nat) (f : Int64) (pm : Nat → Int32) (pl : Nat → Int64) (ct : Nat → Nat) (r y k : Nat) : Prop := ∀ (a c : Nat) (fs : Nat → Int64) (now : Nat → Int32) (idx : Nat → Nat), a + k = ct y → now y = nI a → okI ct now idx y → c + (cf (GG pl) ct r y (lfv (GG pl) idx f y) a k).length < 2 ^ 31 → ∃ d fs1 now1, d + 1 ≤ k * (1 + DD r) + 1 ∧ Rch (st_X8_layWays_95 (nI n) f pm pl) (nI c, nI y, fs, now) (nI (c + (cf (GG pl) ct r y (lfv (GG pl) idx f y) a k).length), nI y + (-1), fs1, now1) (d + 1) ∧ (∀ i, i + 1 < y → now1 i = now i) ∧ (∀ i, i + 1 = y → now1 i = now i + 1) ∧ fsP (GG pl) idx y r c (cf (GG pl) ct r y (lfv (GG pl) idx f y) a k) fs fs1
theorem m1lt : nI 0 + (-1 : Int32) < 0 := by decide
theorem m1y {y : Nat} (h : ¬ y = 0) : nI y + (-1 : Int32) = nI (y - 1) := by
  obtain ⟨z, rfl⟩ : ∃ z, y = z + 1 := ⟨y - 1, by omega⟩
  rw [show z + 1 - 1 = z by omega]
  exact m1_nI z
theorem let_s {A R : Type} (a : A) (F : A → R) : hk_let a F = F a := rfl
theorem up_n {z : Int32} (h : z < 0) (c : Int32) (fs : Nat → Int64) (now : Nat → Int32) : (hk_let z fun x109 => if x109 < 0 then (some (c, x109, fs, now)) else (hk_gd (hk_inb x109 4) (hk_gd (hk_inb x109 4) (some (c, x109, fs, (upd now x109.toNatClampNeg (now x109.toNatClampNeg + (1 : Int32)))))))) = some (c, z, fs, now) := by
  rw [let_s, if_pos h]
theorem up_p {z : Int32} {m : Nat} (hz : z = nI m) (hm : m < 4) (c : Int32) (fs : Nat → Int64) (now : Nat → Int32) : (hk_let z fun x109 => if x109 < 0 then (some (c, x109, fs, now)) else (hk_gd (hk_inb x109 4) (hk_gd (hk_inb x109 4) (some (c, x109, fs, (upd now x109.toNatClampNeg (now x109.toNatClampNeg + (1 : Int32)))))))) = some (c, z, fs, upd now m (now m + 1)) := by
  have h1 : ¬ z < 0 := by rw [hz]; exact nlt0 (by omega)
  have h2 : hk_inb z 4 = true := by rw [hz]; exact inb_nI hm (by decide)
  have h3 : z.toNatClampNeg = m := by rw [hz]; exact cl_nI (by omega)
  rw [let_s, if_neg h1, h2, gds, gds, h3]
theorem lv_z {n : Nat} (hn : n ≤ 4) {f : Int64} {pm : Nat → Int32} {pl : Nat → Int64} {ct : Nat → Nat} (hct : ∀ i, i < n → pm i = nI (ct i) ∧ ct i ≤ 96) {r y : Nat} (hy : y < n) : LV1 n f pm pl ct r y 0 := by
  have hy4 : y < 4 := by omega
  obtain ⟨h1, h2⟩ := hct y hy
  intro a c fs now idx hak hnow hi hb
  have e := x8_eq95 (pl := pl) (c := c) (f := f) (fs := fs) hn hy hct hi hak hnow
  have hx : nx (GG pl) y (lfv (GG pl) idx f y) 0 a = a := rfl
  have hp : now y = pm y := by rw [hnow, h1, show a = ct y by omega]
  rw [hx, upd_id hnow, if_pos hp] at e
  have hL : cf (GG pl) ct r y (lfv (GG pl) idx f y) a 0 = [] := rfl
  rw [hL, List.length_nil, Nat.add_zero]
  have hd : 0 + 1 ≤ 0 * (1 + DD r) + 1 := by rw [Nat.zero_mul]; exact Nat.le_refl _
  by_cases q : y = 0
  · have hm : nI y + (-1 : Int32) < 0 := by rw [q]; exact m1lt
    rw [up_n hm, b4s] at e
    exact ⟨0, fs, now, hd, rch_1 e, fun i hi => by omega, fun i hi => by omega, fun _ => rfl, fun _ h t z => by cases z⟩
  · rw [up_p (m1y q) (show y - 1 < 4 by omega), b4s] at e
    refine ⟨0, fs, _, hd, rch_1 e, fun i hi => upd_n (show i ≠ y - 1 by omega), fun i hi => ?_, fun _ => rfl, fun _ h t z => by cases z⟩
    rw [show i = y - 1 by omega, upd_s]
theorem lv_s {n : Nat} (hn : n ≤ 4) {f : Int64} {pm : Nat → Int32} {pl : Nat → Int64} {ct : Nat → Nat} (hct : ∀ i, i < n → pm i = nI (ct i) ∧ ct i ≤ 96) {r y : Nat} (hy : y < n) (H : HF n f pm pl ct r y) {k : Nat} (ih : LV1 n f pm pl ct r y k) : LV1 n f pm pl ct r y (k + 1) := by
  have hy4 : y < 4 := by omega
  obtain ⟨h1, h2⟩ := hct y hy
  intro a c fs now idx hak hnow hi hb
  have hcs := cf_s (GG pl) ct r y (lfv (GG pl) idx f y) a k
  cases hf : fits (GG pl) y a (lfv (GG pl) idx f y)
  · rw [hf, if_neg (show ¬ false = true by decide), List.nil_append] at hcs
    rw [hcs] at hb ⊢
    have hi' : okI ct (upd now y (nI (a + 1))) idx y := fun i hiy => by rw [upd_n (show i ≠ y by omega)]; exact hi i hiy
    obtain ⟨d, fs1, now1, g1, g2, g3, g4, g5⟩ := ih (a + 1) c fs (upd now y (nI (a + 1))) idx (by omega) upd_s hi' hb
    refine ⟨d, fs1, now1, by rw [Nat.add_mul]; omega, rch_e ?_ g2, fun i hiy => by rw [g3 i hiy, upd_n (by omega)], fun i hiy => by rw [g4 i hiy, upd_n (by omega)], g5⟩
    show st_X8_layWays_95c (nI n) f pm pl (nI c) (nI y) fs now = st_X8_layWays_95c (nI n) f pm pl (nI c) (nI y) fs (upd now y (nI (a + 1)))
    rw [x8_eq95 hn hy hct hi hak hnow, x8_eq95 hn hy hct hi' (show a + 1 + k = ct y by omega) upd_s]
    have hx : nx (GG pl) y (lfv (GG pl) idx f y) (k + 1) a = nx (GG pl) y (lfv (GG pl) idx f y) k (a + 1) := by
      show (if fits (GG pl) y a (lfv (GG pl) idx f y) = true then a else nx (GG pl) y (lfv (GG pl) idx f y) k (a + 1)) = _
      rw [hf]; rfl
    rw [hx, upd_u now y (nI (a + 1)) (nI (nx (GG pl) y (lfv (GG pl) idx f y) k (a + 1)))]
  · rw [hf, if_pos rfl] at hcs
    rw [hcs] at hb ⊢
    rw [List.length_append, List.length_map] at hb ⊢
    obtain ⟨d, fs1, now1, g1, g2, g3, g4, g5⟩ := H a c fs now idx (by omega) hnow hi hf (by omega)
    have hi' : okI ct now1 idx y := fun i hiy => by rw [g4 i hiy]; exact hi i hiy
    obtain ⟨d', fs2, now2, k1, k2, k3, k4, k5⟩ := ih (a + 1) (c + (cmpl (GG pl) ct r (y + 1) (lfv (GG pl) idx f y &&& (GG pl y a ^^^ (-1)))).length) fs1 now1 idx (by omega) g3 hi' (by omega)
    refine ⟨d' + d, fs2, now2, by rw [Nat.add_mul]; omega, ?_, fun i hiy => by rw [k3 i hiy, g4 i (by omega)], fun i hiy => by rw [k4 i hiy, g4 i (by omega)], ?_, ?_⟩
    · have := rch_t g2 k2
      rw [← Nat.add_assoc]
      rw [show d' + d + 1 = d' + 1 + d by omega]
      exact this
    · intro z
      have zz : ¬ c + (cmpl (GG pl) ct r (y + 1) (lfv (GG pl) idx f y &&& (GG pl y a ^^^ (-1)))).length = 0 ∨ cf (GG pl) ct r y (lfv (GG pl) idx f y) (a + 1) k = [] := by
        rcases z with z | z
        · exact Or.inl (by omega)
        · exact Or.inr (List.append_eq_nil_iff.mp z).2
      rw [k5.1 zz]
      refine g5.1 ?_
      rcases z with z | z
      · exact Or.inl z
      · exact Or.inr (List.append_eq_nil_iff.mp z).1
    · intro hc h t z
      cases hL : (cmpl (GG pl) ct r (y + 1) (lfv (GG pl) idx f y &&& (GG pl y a ^^^ (-1)))).map (fun t => GG pl y a :: t) with
      | nil =>
        rw [hL, List.nil_append] at z
        have hlen := congrArg List.length hL
        rw [List.length_map] at hlen
        exact k5.2 (by rw [hlen, hc]; rfl) h t z
      | cons h' t' =>
        rw [hL, List.cons_append] at z
        have hlen := congrArg List.length hL
        rw [List.length_map, List.length_cons] at hlen
        rw [k5.1 (Or.inl (by omega))]
        injection z with z1 z2
        rw [← z1]
        exact g5.2 hc h' t' hL
