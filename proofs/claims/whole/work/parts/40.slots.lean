/-! keep and again -/
theorem cpy_0 {α : Type} (f g : Nat → α) (sp dp : Nat) : va_cpy f g sp dp 0 = g := by
  funext k
  unfold va_cpy
  rw [if_neg (by omega)]
theorem cpyL_s (f g : Nat → Int64) (sp dp i : Nat) : vp_updL (va_cpy f g sp dp i) (dp + i) (f (sp + i)) = va_cpy f g sp dp (i + 1) := by
  funext k
  unfold vp_updL va_cpy
  by_cases e : k = dp + i
  · rw [if_pos e, if_pos (by omega), show sp + (k - dp) = sp + i by omega]
  · rw [if_neg e]
    by_cases h : dp ≤ k ∧ k < dp + i
    · rw [if_pos h, if_pos (by omega)]
    · rw [if_neg h, if_neg (by omega)]
theorem cpyI_s (f g : Nat → Int32) (sp dp i : Nat) : upd (va_cpy f g sp dp i) (dp + i) (f (sp + i)) = va_cpy f g sp dp (i + 1) := by
  funext k
  by_cases e : k = dp + i
  · subst e
    rw [upd_s]
    unfold va_cpy
    rw [if_pos (by omega), show sp + (dp + i - dp) = sp + i by omega]
  · rw [pk_un e]
    unfold va_cpy
    by_cases h : dp ≤ k ∧ k < dp + i
    · rw [if_pos h, if_pos (by omega)]
    · rw [if_neg h, if_neg (by omega)]
def nrb (f : Nat → Int32) : Nat → Int32 := fun i => vp_nar .boolean (f i)
theorem x5_copy (tl pl : Int32) (tf pf tp pp : Nat → Int64) (tm pm : Nat → Int32) : f_X5_copyFrom tl pl tf pf tp pp tm pm = some (pl, va_cpy pf tf 0 0 8, va_cpy pp tp 0 0 4, va_cpy (nrb pm) tm 0 0 4) := by
  unfold f_X5_copyFrom
  have h1 := wl_for0 (f := st_X5_copyFrom_2 pf) (fun i => (nI i, va_cpy pf tf 0 0 i)) (e := 8) (r := va_cpy pf tf 0 0 8) (by
    intro i hi
    show st_X5_copyFrom_2c pf (nI i) (va_cpy pf tf 0 0 i) = _
    unfold st_X5_copyFrom_2c
    rw [i8, if_neg (nI_ge hi (by decide))]
    simp only [inb_nI hi (show 8 < 2 ^ 31 by decide), gds, hk_let, cl_nI (show i < 2 ^ 31 by omega), i1, nI_add]
    rw [show pf i = pf (0 + i) by rw [Nat.zero_add], show vp_updL (va_cpy pf tf 0 0 i) i = vp_updL (va_cpy pf tf 0 0 i) (0 + i) by rw [Nat.zero_add], cpyL_s]) (by
    show st_X5_copyFrom_2c pf (nI 8) (va_cpy pf tf 0 0 8) = _
    unfold st_X5_copyFrom_2c
    rw [i8, if_pos (by decide)]) (by decide)
  rw [cpy_0] at h1
  have h2 := wl_for0 (f := st_X5_copyFrom_28 pp pm) (fun i => (nI i, va_cpy pp tp 0 0 i, va_cpy (nrb pm) tm 0 0 i)) (e := 4) (r := (va_cpy pp tp 0 0 4, va_cpy (nrb pm) tm 0 0 4)) (by
    intro i hi
    show st_X5_copyFrom_28c pp pm (nI i) (va_cpy pp tp 0 0 i) (va_cpy (nrb pm) tm 0 0 i) = _
    unfold st_X5_copyFrom_28c
    rw [i4, if_neg (nI_ge hi (by decide))]
    simp only [inb_nI hi (show 4 < 2 ^ 31 by decide), gds, hk_let, cl_nI (show i < 2 ^ 31 by omega), i1, nI_add]
    rw [show pp i = pp (0 + i) by rw [Nat.zero_add], show vp_updL (va_cpy pp tp 0 0 i) i = vp_updL (va_cpy pp tp 0 0 i) (0 + i) by rw [Nat.zero_add], cpyL_s]
    rw [show vp_nar .boolean (pm i) = nrb pm (0 + i) by rw [Nat.zero_add]; rfl, show upd (va_cpy (nrb pm) tm 0 0 i) i = upd (va_cpy (nrb pm) tm 0 0 i) (0 + i) by rw [Nat.zero_add], cpyI_s]) (by
    show st_X5_copyFrom_28c pp pm (nI 4) (va_cpy pp tp 0 0 4) (va_cpy (nrb pm) tm 0 0 4) = _
    unfold st_X5_copyFrom_28c
    rw [i4, if_pos (by decide)]) (by decide)
  rw [cpy_0, cpy_0] at h2
  rw [show (0 : Int32) = nI 0 from rfl, h1, b1s, h2, b2s]
theorem x8_keep {s : Nat} (hs : s < 2) (pn : Int32) (ik : Nat → Int32) (KF fg : Nat → Int64) (KP : Nat → Int32) (KL ld : Nat → Int64) (KM im : Nat → Int32) : f_X8_keep pn ik KF fg KP KL ld KM im (nI s) = some (nI (fil fg 8), upd ik s 1, va_cpy fg KF 0 (8 * s) 8, upd KP s pn, va_cpy ld KL 0 (4 * s) 4, va_cpy (nrb im) KM 0 (4 * s) 4) := by
  unfold f_X8_keep
  have h1 := wl_for0 (f := st_X8_keep_21 fg (nI s)) (fun i => (nI i, va_cpy fg KF 0 (8 * s) i)) (e := 8) (r := va_cpy fg KF 0 (8 * s) 8) (by
    intro i hi
    show st_X8_keep_21c fg (nI s) (nI i) (va_cpy fg KF 0 (8 * s) i) = _
    unfold st_X8_keep_21c
    rw [i8, if_neg (nI_ge hi (by decide)), pk_mul, nI_add]
    simp only [inb_nI hi (show 8 < 2 ^ 31 by decide), inb_nI (show 8 * s + i < 16 by omega) (show 16 < 2 ^ 31 by decide), gds, hk_let, cl_nI (show i < 2 ^ 31 by omega), cl_nI (show 8 * s + i < 2 ^ 31 by omega), i1, nI_add]
    rw [show fg i = fg (0 + i) by rw [Nat.zero_add], cpyL_s]) (by
    show st_X8_keep_21c fg (nI s) (nI 8) (va_cpy fg KF 0 (8 * s) 8) = _
    unfold st_X8_keep_21c
    rw [i8, if_pos (by decide)]) (by decide)
  rw [cpy_0] at h1
  have h2 := wl_for0 (f := st_X8_keep_62 ld im (nI s)) (fun i => (nI i, va_cpy ld KL 0 (4 * s) i, va_cpy (nrb im) KM 0 (4 * s) i)) (e := 4) (r := (va_cpy ld KL 0 (4 * s) 4, va_cpy (nrb im) KM 0 (4 * s) 4)) (by
    intro i hi
    show st_X8_keep_62c ld im (nI s) (nI i) (va_cpy ld KL 0 (4 * s) i) (va_cpy (nrb im) KM 0 (4 * s) i) = _
    unfold st_X8_keep_62c
    rw [i4, if_neg (nI_ge hi (by decide)), pk_mul, nI_add]
    simp only [inb_nI hi (show 4 < 2 ^ 31 by decide), inb_nI (show 4 * s + i < 8 by omega) (show 8 < 2 ^ 31 by decide), gds, hk_let, cl_nI (show i < 2 ^ 31 by omega), cl_nI (show 4 * s + i < 2 ^ 31 by omega), i1, nI_add]
    rw [show ld i = ld (0 + i) by rw [Nat.zero_add], cpyL_s, show vp_nar .boolean (im i) = nrb im (0 + i) by rw [Nat.zero_add]; rfl, cpyI_s]) (by
    show st_X8_keep_62c ld im (nI s) (nI 4) (va_cpy ld KL 0 (4 * s) 4) (va_cpy (nrb im) KM 0 (4 * s) 4) = _
    unfold st_X8_keep_62c
    rw [i4, if_pos (by decide)]) (by decide)
  rw [cpy_0, cpy_0] at h2
  rw [show (1 : Int64) = lN 1 from rfl, in_nI (show s ≤ 1 by omega) (by decide), b1s, if_neg ne_1_0, inb_nI hs (by decide), gds, show (0 : Int32) = nI 0 from rfl, h1, b1s, gds, h2, b2s, x8_fil, b1s, cl_nI (by omega), nar1]
theorem x8_again {s : Nat} (hs : s < 2) (pn : Int32) (ik : Nat → Int32) (hk : ¬ ik s = 0) (fg KF : Nat → Int64) (KP : Nat → Int32) (ld KL : Nat → Int64) (im KM : Nat → Int32) : f_X8_again pn ik fg KF KP ld KL im KM (nI s) = some (nI (fil (va_cpy KF fg (8 * s) 0 8) 8), KP s, va_cpy KF fg (8 * s) 0 8, va_cpy KL ld (4 * s) 0 4, va_cpy (nrb KM) im (4 * s) 0 4) := by
  unfold f_X8_again
  have h1 := wl_for0 (f := st_X8_again_26 KF (nI s)) (fun i => (nI i, va_cpy KF fg (8 * s) 0 i)) (e := 8) (r := va_cpy KF fg (8 * s) 0 8) (by
    intro i hi
    show st_X8_again_26c KF (nI s) (nI i) (va_cpy KF fg (8 * s) 0 i) = _
    unfold st_X8_again_26c
    rw [i8, if_neg (nI_ge hi (by decide)), pk_mul, nI_add]
    simp only [inb_nI hi (show 8 < 2 ^ 31 by decide), inb_nI (show 8 * s + i < 16 by omega) (show 16 < 2 ^ 31 by decide), gds, hk_let, cl_nI (show i < 2 ^ 31 by omega), cl_nI (show 8 * s + i < 2 ^ 31 by omega), i1, nI_add]
    rw [show vp_updL (va_cpy KF fg (8 * s) 0 i) i = vp_updL (va_cpy KF fg (8 * s) 0 i) (0 + i) by rw [Nat.zero_add], cpyL_s]) (by
    show st_X8_again_26c KF (nI s) (nI 8) (va_cpy KF fg (8 * s) 0 8) = _
    unfold st_X8_again_26c
    rw [i8, if_pos (by decide)]) (by decide)
  rw [cpy_0] at h1
  have h2 := wl_for0 (f := st_X8_again_67 KL KM (nI s)) (fun i => (nI i, va_cpy KL ld (4 * s) 0 i, va_cpy (nrb KM) im (4 * s) 0 i)) (e := 4) (r := (va_cpy KL ld (4 * s) 0 4, va_cpy (nrb KM) im (4 * s) 0 4)) (by
    intro i hi
    show st_X8_again_67c KL KM (nI s) (nI i) (va_cpy KL ld (4 * s) 0 i) (va_cpy (nrb KM) im (4 * s) 0 i) = _
    unfold st_X8_again_67c
    rw [i4, if_neg (nI_ge hi (by decide)), pk_mul, nI_add]
    simp only [inb_nI hi (show 4 < 2 ^ 31 by decide), inb_nI (show 4 * s + i < 8 by omega) (show 8 < 2 ^ 31 by decide), gds, hk_let, cl_nI (show i < 2 ^ 31 by omega), cl_nI (show 4 * s + i < 2 ^ 31 by omega), i1, nI_add]
    rw [show vp_updL (va_cpy KL ld (4 * s) 0 i) i = vp_updL (va_cpy KL ld (4 * s) 0 i) (0 + i) by rw [Nat.zero_add], cpyL_s]
    rw [show vp_nar .boolean (KM (4 * s + i)) = nrb KM (4 * s + i) from rfl, show upd (va_cpy (nrb KM) im (4 * s) 0 i) i = upd (va_cpy (nrb KM) im (4 * s) 0 i) (0 + i) by rw [Nat.zero_add], cpyI_s]) (by
    show st_X8_again_67c KL KM (nI s) (nI 4) (va_cpy KL ld (4 * s) 0 4) (va_cpy (nrb KM) im (4 * s) 0 4) = _
    unfold st_X8_again_67c
    rw [i4, if_pos (by decide)]) (by decide)
  rw [cpy_0, cpy_0] at h2
  rw [show (1 : Int64) = lN 1 from rfl, in_nI (show s ≤ 1 by omega) (by decide), b1s, if_neg ne_1_0, inb_nI hs (by decide), gds, cl_nI (by omega), if_neg hk, show (0 : Int32) = nI 0 from rfl, h1, b1s, gds, hk_let, h2, b2s, x8_fil, b1s]
theorem x8_again0 {s : Nat} (hs : s < 2) (pn : Int32) (ik : Nat → Int32) (hk : ik s = 0) (fg KF : Nat → Int64) (KP : Nat → Int32) (ld KL : Nat → Int64) (im KM : Nat → Int32) : f_X8_again pn ik fg KF KP ld KL im KM (nI s) = some (-3, pn, fg, ld, im) := by
  unfold f_X8_again
  rw [show (1 : Int64) = lN 1 from rfl, in_nI (show s ≤ 1 by omega) (by decide), b1s, if_neg ne_1_0, inb_nI hs (by decide), gds, cl_nI (by omega), if_pos hk]
theorem sl_cases (x : Int32) : (∃ s, s < 2 ∧ x = nI s) ∨ (f_X7_keep_bad x = some (-1) ∧ f_X7_again_bad x = some (-1) ∧ f_X8_in x.toInt64 0 1 = some 0) := by
  rcases ix_cases x 2 (by decide) with h | h
  · exact Or.inl h
  · right
    have h3 : f_X8_in x.toInt64 0 1 = some 0 := by rw [show (1 : Int64) = lN 1 from rfl]; exact in_out (by decide) h
    unfold f_X7_keep_bad f_X7_again_bad
    by_cases h1 : x < 0
    · rw [if_pos h1]; exact ⟨rfl, rfl, h3⟩
    · have h2 : ¬ x < 2 := by
        have := h.resolve_left h1
        rw [i2, fa_lt]; rw [fa_le] at this; omega
      rw [if_neg h1, if_neg h2]; exact ⟨rfl, rfl, h3⟩
/-- the branch of a good slot number -/
theorem sl_ok {s : Nat} (hs : s < 2) {α : Type} (a b c : α) : (if nI s < 0 then a else (if nI s < 2 then b else c)) = b := by
  rw [if_neg (nI_pos (by omega)), if_pos (by rw [i2, nI_ltI (by omega) (by decide)]; exact hs)]
theorem x7_keep_none {s : Nat} (hs : s < 2) (ld : Int32) (fg pc : Nat → Int64) (mm : Nat → Int32) : f_X7_keep_none ld fg pc mm (nI s) = some (nI (fil fg 8), ld, va_cpy fg (fun _ => 0) 0 0 8, va_cpy pc (fun _ => 0) 0 0 4, va_cpy (nrb mm) (fun _ => 0) 0 0 4) := by
  unfold f_X7_keep_none
  rw [sl_ok hs, inb_nI hs (by decide), gds, gds, x5_copy, b4s, x5_fil, b1s]
theorem x7_keep_some {s : Nat} (hs : s < 2) (ld kl : Int32) (fg pc : Nat → Int64) (mm : Nat → Int32) (kf kp : Nat → Int64) (km : Nat → Int32) : f_X7_keep_some ld kl fg pc mm kf kp km (nI s) = some (nI (fil fg 8), ld, va_cpy fg kf 0 0 8, va_cpy pc kp 0 0 4, va_cpy (nrb mm) km 0 0 4) := by
  unfold f_X7_keep_some
  rw [sl_ok hs, inb_nI hs (by decide), gds, gds, x5_copy, b4s, x5_fil, b1s]
theorem x7_again_some {s : Nat} (hs : s < 2) (ld kl : Int32) (fg pc : Nat → Int64) (mm : Nat → Int32) (kf kp : Nat → Int64) (km : Nat → Int32) : f_X7_again_some ld kl fg pc mm kf kp km (nI s) = some (nI (fil (va_cpy kf fg 0 0 8) 8), kl, va_cpy kf fg 0 0 8, va_cpy kp pc 0 0 4, va_cpy (nrb km) mm 0 0 4) := by
  unfold f_X7_again_some
  rw [sl_ok hs, inb_nI hs (by decide), gds, gds, x5_copy, b4s, x5_fil, b1s]
theorem x7_again_none {s : Nat} (hs : s < 2) : f_X7_again_none (nI s) = some (-3) := by
  unfold f_X7_again_none
  rw [sl_ok hs, inb_nI hs (by decide), gds]
