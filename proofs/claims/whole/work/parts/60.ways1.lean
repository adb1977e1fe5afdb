/-! the reference's ways -/
def Rch {σ ρ : Type} (f : σ → Option (σ ⊕ ρ)) (s t : σ) (d : Nat) : Prop := ∀ N, hk_wl f (N + d) s = hk_wl f N t
theorem rch_1 {σ ρ : Type} {f : σ → Option (σ ⊕ ρ)} {s t : σ} (h : f s = some (.inl t)) : Rch f s t 1 := fun _ => wl_step h
theorem rch_t {σ ρ : Type} {f : σ → Option (σ ⊕ ρ)} {s t u : σ} {d e : Nat} (h1 : Rch f s t d) (h2 : Rch f t u e) : Rch f s u (e + d) := fun N => by
  rw [← Nat.add_assoc, h1 (N + e), h2 N]
theorem rch_e {σ ρ : Type} {f : σ → Option (σ ⊕ ρ)} {s s' t : σ} {d : Nat} (h : f s = f s') (h1 : Rch f s' t (d + 1)) : Rch f s t (d + 1) := fun N => by
  rw [← h1 N, ← Nat.add_assoc]
  show (f s).bind _ = (f s').bind _
  rw [h]
section
variable (G : Nat → Nat → Int64) (ct : Nat → Nat)
def fits (y q : Nat) (l : Int64) : Bool := decide (G y q &&& (l ^^^ (-1)) = 0)
def cmpl : Nat → Nat → Int64 → List (List Int64)
  | 0, _, _ => [[]]
  | r + 1, y, l => (List.range' 0 (ct y)).flatMap (fun q => if fits G y q l = true then (cmpl r (y + 1) (l &&& (G y q ^^^ (-1)))).map (fun t => G y q :: t) else [])
def cf (r y : Nat) (l : Int64) (a k : Nat) : List (List Int64) := (List.range' a k).flatMap (fun q => if fits G y q l = true then (cmpl G ct r (y + 1) (l &&& (G y q ^^^ (-1)))).map (fun t => G y q :: t) else [])
def nx (y : Nat) (l : Int64) : Nat → Nat → Nat
  | 0, a => a
  | k + 1, a => if fits G y a l = true then a else nx y l k (a + 1)
def lfv (idx : Nat → Nat) (f : Int64) : Nat → Int64
  | 0 => f
  | i + 1 => lfv idx f i &&& (G i (idx i) ^^^ (-1))
end
theorem cmpl_s (G : Nat → Nat → Int64) (ct : Nat → Nat) (r y : Nat) (l : Int64) : cmpl G ct (r + 1) y l = cf G ct r y l 0 (ct y) := rfl
theorem cf_0 (G : Nat → Nat → Int64) (ct : Nat → Nat) (r y : Nat) (l : Int64) (a : Nat) : cf G ct r y l a 0 = [] := rfl
theorem cf_s (G : Nat → Nat → Int64) (ct : Nat → Nat) (r y : Nat) (l : Int64) (a k : Nat) : cf G ct r y l a (k + 1) = (if fits G y a l = true then (cmpl G ct r (y + 1) (l &&& (G y a ^^^ (-1)))).map (fun t => G y a :: t) else []) ++ cf G ct r y l (a + 1) k := by
  unfold cf
  rw [List.range'_succ, List.flatMap_cons]
theorem upd_u (f : Nat → Int32) (k : Nat) (a b : Int32) : upd (upd f k a) k b = upd f k b := by
  funext i
  by_cases h : i = k
  · rw [h, upd_s, upd_s]
  · rw [upd_n h, upd_n h, upd_n h]
theorem upd_id {f : Nat → Int32} {k : Nat} {a : Int32} (h : f k = a) : upd f k a = f := by
  funext i
  by_cases q : i = k
  · rw [q, upd_s, h]
  · rw [upd_n q]
theorem x8_leftBy {pl : Nat → Int64} {now : Nat → Int32} {idx : Nat → Nat} (f : Int64) {y : Nat} (hy : y ≤ 4) (h : ∀ i, i < y → now i = nI (idx i) ∧ idx i < 400) : f_X8_leftBy pl now f (nI y) = some (lfv (fun i q => pl (400 * i + q)) idx f y) := by
  have e := wl_for0 (f := st_X8_leftBy_6 pl now (nI y)) (fun i => (lfv (fun i q => pl (400 * i + q)) idx f i, nI i)) (e := y) (r := lfv (fun i q => pl (400 * i + q)) idx f y) (by
    intro i hi
    obtain ⟨h1, h2⟩ := h i hi
    show st_X8_leftBy_6c pl now (nI y) (lfv (fun i q => pl (400 * i + q)) idx f i) (nI i) = _
    unfold st_X8_leftBy_6c
    rw [if_neg (nI_ge hi (by omega)), inb_nI (show i < 4 by omega) (by decide), gds, cl_nI (by omega), h1, show (400 : Int32) * nI i + nI (idx i) = nI (400 * i + idx i) from by rw [i400, pk_mul, nI_add], inb_nI (show 400 * i + idx i < 1600 by omega) (by decide), gds, cl_nI (by omega), show nI i + 1 = nI (i + 1) from by rw [i1, nI_add]]
    rfl) (by
    show st_X8_leftBy_6c pl now (nI y) (lfv (fun i q => pl (400 * i + q)) idx f y) (nI y) = _
    unfold st_X8_leftBy_6c
    rw [if_pos (Int32.le_refl _)]) (by omega)
  unfold f_X8_leftBy
  have e' : hk_wl (st_X8_leftBy_6 pl now (nI y)) hkF (f, (0 : Int32)) = _ := e
  rw [e', b1s]
theorem x8_nx {pm : Nat → Int32} {pl : Nat → Int64} {y : Nat} (hy : y < 4) {c : Nat} (hc : c ≤ 96) (hp : pm y = nI c) (l : Int64) : ∀ (k a N : Nat) (now : Nat → Int32), a + k = c → now y = nI a → k < N → hk_wl (st_X8_layWays_109 pm pl (nI y) l) N now = some (upd now y (nI (nx (fun i q => pl (400 * i + q)) y l k a)))
  | k, a, 0, now, _, _, h => absurd h (Nat.not_lt_zero _)
  | 0, a, N + 1, now, ha, hn, _ => by
    have e : st_X8_layWays_109 pm pl (nI y) l now = some (.inr now) := by
      show st_X8_layWays_109c pm pl (nI y) l now = _
      unfold st_X8_layWays_109c
      rw [inb_nI hy (by decide), gds, gds, cl_nI (by omega), hp, hn, if_pos ((nI_leI (by omega) (by omega)).mpr (by omega))]
    rw [wl_end e]
    show some now = some (upd now y (nI a))
    rw [upd_id hn]
  | k + 1, a, N + 1, now, ha, hn, hN => by
    have hst : st_X8_layWays_109 pm pl (nI y) l now = if pl (400 * y + a) &&& (l ^^^ (-1)) = 0 then some (.inr now) else some (.inl (upd now y (nI (a + 1)))) := by
      show st_X8_layWays_109c pm pl (nI y) l now = _
      unfold st_X8_layWays_109c
      rw [inb_nI hy (by decide), gds, gds, cl_nI (by omega), hp, hn, if_neg (nI_ge (show a < c by omega) (by omega)), gds, show (400 : Int32) * nI y + nI a = nI (400 * y + a) from by rw [i400, pk_mul, nI_add], inb_nI (show 400 * y + a < 1600 by omega) (by decide), gds, cl_nI (by omega), gds, gds, show nI a + 1 = nI (a + 1) from by rw [i1, nI_add]]
    have hx : nx (fun i q => pl (400 * i + q)) y l (k + 1) a = if fits (fun i q => pl (400 * i + q)) y a l = true then a else nx (fun i q => pl (400 * i + q)) y l k (a + 1) := rfl
    have hfit : fits (fun i q => pl (400 * i + q)) y a l = decide (pl (400 * y + a) &&& (l ^^^ (-1)) = 0) := rfl
    rw [hx, hfit]
    by_cases q : pl (400 * y + a) &&& (l ^^^ (-1)) = 0
    · rw [if_pos q] at hst
      rw [wl_end hst, decide_eq_true q, if_pos rfl, upd_id hn]
    · rw [if_neg q] at hst
      rw [wl_step hst, decide_eq_false q, if_neg (show ¬ false = true by decide), x8_nx hy hc hp l k (a + 1) N _ (by omega) upd_s (by omega), upd_u]
/-- setting the first way -/
def stf (G : Nat → Nat → Int64) (idx : Nat → Nat) (fs : Nat → Int64) : Nat → Nat → Int64
  | 0 => fs
  | i + 1 => vp_updL (stf G idx fs i) i (G i (idx i))
theorem stf_at {G : Nat → Nat → Int64} {idx : Nat → Nat} {fs : Nat → Int64} : ∀ {n i : Nat}, i < n → stf G idx fs n i = G i (idx i)
  | n + 1, i, h => by
    show vp_updL (stf G idx fs n) n (G n (idx n)) i = _
    by_cases e : i = n
    · rw [e, updL_s]
    · rw [updL_n e]; exact stf_at (by omega)
theorem x8_stf {pl : Nat → Int64} {n : Nat} (hn : n ≤ 4) {now : Nat → Int32} {idx : Nat → Nat} (h : ∀ i, i < n → now i = nI (idx i) ∧ idx i < 400) {c : Nat} (hc : c < 2 ^ 31) (fs : Nat → Int64) : hk_wl (st_X8_layWays_224 (nI n) pl (nI c) now) hkF ((0 : Int32), fs) = some (if c = 0 ∧ 0 < n then stf (fun i q => pl (400 * i + q)) idx fs n else fs) := by
  by_cases q : c = 0
  · subst q
    have e := wl_for0 (f := st_X8_layWays_224 (nI n) pl (nI 0) now) (fun i => (nI i, stf (fun i q => pl (400 * i + q)) idx fs i)) (e := n) (r := stf (fun i q => pl (400 * i + q)) idx fs n) (by
      intro i hi
      obtain ⟨h1, h2⟩ := h i hi
      show st_X8_layWays_224c (nI n) pl (nI 0) now (nI i) (stf (fun i q => pl (400 * i + q)) idx fs i) = _
      unfold st_X8_layWays_224c
      rw [if_neg (nI_ge hi (by omega)), if_pos (show nI 0 = 0 from rfl), inb_nI (show i < 4 by omega) (by decide), gds, gds, cl_nI (by omega), h1, show (400 : Int32) * nI i + nI (idx i) = nI (400 * i + idx i) from by rw [i400, pk_mul, nI_add], inb_nI (show 400 * i + idx i < 1600 by omega) (by decide), gds, cl_nI (by omega), show nI i + 1 = nI (i + 1) from by rw [i1, nI_add]]
      rfl) (by
      show st_X8_layWays_224c (nI n) pl (nI 0) now (nI n) (stf (fun i q => pl (400 * i + q)) idx fs n) = _
      unfold st_X8_layWays_224c
      rw [if_pos (Int32.le_refl _)]) (by omega)
    have e' : hk_wl (st_X8_layWays_224 (nI n) pl (nI 0) now) hkF ((0 : Int32), fs) = _ := e
    rw [e']
    by_cases z : 0 < n
    · rw [if_pos ⟨rfl, z⟩]
    · rw [if_neg (fun k => z k.2), show n = 0 by omega]
      rfl
  · have e : st_X8_layWays_224 (nI n) pl (nI c) now ((0 : Int32), fs) = some (.inr fs) := by
      show st_X8_layWays_224c (nI n) pl (nI c) now 0 fs = _
      unfold st_X8_layWays_224c
      have q' : ¬ nI c = 0 := fun e => q (nI_ij hc (by decide) e)
      rw [if_neg q', ite_self]
    rw [if_neg (fun k => q k.1)]
    have hF : ∃ m, hkF = m + 1 := ⟨hkF - 1, by have := hkF_pos; omega⟩
    obtain ⟨m, hm⟩ := hF
    rw [hm, wl_end e]
