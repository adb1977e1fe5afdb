def bst (n : Nat) (L : List (List Int64)) (b : Nat → Int64) : Prop := L = [] ∨ (lsR b 0 n ∈ L ∧ ∀ w, w ∈ L → lxl (lsR b 0 n) w)
def cpN (ch bs : Nat → Int64) : Nat → Nat → Int64
  | 0 => bs
  | i + 1 => vp_updL (cpN ch bs i) i (ch i)
theorem cpN_at {ch bs : Nat → Int64} : ∀ {n i : Nat}, i < n → cpN ch bs n i = ch i
  | n + 1, i, h => by
    show vp_updL (cpN ch bs n) n (ch n) i = _
    by_cases e : i = n
    · rw [e, updL_s]
    · rw [updL_n e]; exact cpN_at (by omega)
theorem x1_cp {n : Nat} (hn : n ≤ 4) (ch bs : Nat → Int64) : hk_wl (st_X1_noteWay_27 (nI n) ch) hkF ((0 : Int32), bs) = some (cpN ch bs n) :=
  wl_for0 (f := st_X1_noteWay_27 (nI n) ch) (fun i => (nI i, cpN ch bs i)) (e := n) (r := cpN ch bs n) (by
    intro i hi
    show st_X1_noteWay_27c (nI n) ch (nI i) (cpN ch bs i) = _
    unfold st_X1_noteWay_27c
    rw [if_neg (nI_ge hi (by omega)), inb_nI (show i < 4 by omega) (by decide), gds, gds, cl_nI (by omega), let_s, i1, nI_add]
    rfl) (by
    show st_X1_noteWay_27c (nI n) ch (nI n) (cpN ch bs n) = _
    unfold st_X1_noteWay_27c
    rw [if_pos (Int32.le_refl _)]) (by omega)
theorem x1_note {n : Nat} (hn : n ≤ 4) {L : List (List Int64)} (hL : L.length + 1 < 2 ^ 31) {b : Nat → Int64} (h : bst n L b) (ch : Nat → Int64) : ∃ b', f_X1_noteWay (nI n) (nI L.length) ch b = some (nI (L ++ [lsR ch 0 n]).length, b') ∧ bst n (L ++ [lsR ch 0 n]) b' := by
  have hcp : lsR (cpN ch b n) 0 n = lsR ch 0 n := lsR_c n 0 (fun i _ hi => cpN_at (by omega))
  have hlen : (L ++ [lsR ch 0 n]).length = L.length + 1 := by rw [List.length_append]; rfl
  unfold f_X1_noteWay
  rw [hlen, let_s, show nI L.length + 1 = nI (L.length + 1) from by rw [i1, nI_add]]
  by_cases h0 : L = []
  · rw [if_pos (by rw [h0]; rfl), x1_cp hn, b1s]
    refine ⟨_, rfl, Or.inr ?_⟩
    rw [hcp, h0, List.nil_append]
    exact ⟨List.mem_singleton.mpr rfl, fun w hw => by rw [List.mem_singleton.mp hw]; exact lxl_rf _⟩
  · have hne : ¬ nI (L.length + 1) = 1 := fun q => by
      have := nI_ij (a := L.length + 1) (b := 1) (by omega) (by decide) q
      exact h0 (List.length_eq_zero_iff.mp (by omega))
    obtain ⟨h1, h2⟩ := h.resolve_left h0
    obtain ⟨r, e1, e2, e3⟩ := x1_before hn ch b
    rw [if_neg hne, e1, b1s]
    by_cases hr : r = 0
    · rw [if_pos hr]
      refine ⟨_, rfl, Or.inr ⟨List.mem_append.mpr (Or.inl h1), fun w hw => ?_⟩⟩
      rcases List.mem_append.mp hw with k | k
      · exact h2 w k
      · rw [List.mem_singleton.mp k]; exact e2 hr
    · have x1_cp' : hk_wl (st_X1_noteWay_27' (nI n) ch) hkF ((0 : Int32), b) = some (cpN ch b n) := x1_cp hn ch b
      rw [if_neg hr, x1_cp', b1s]
      refine ⟨_, rfl, Or.inr ?_⟩
      rw [hcp]
      refine ⟨List.mem_append.mpr (Or.inr (List.mem_singleton.mpr rfl)), fun w hw => ?_⟩
      rcases List.mem_append.mp hw with k | k
      · exact lxl_tr _ _ _ (e3 hr) (h2 w k)
      · rw [List.mem_singleton.mp k]; exact lxl_rf _
