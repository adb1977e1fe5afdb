theorem us_lN {n k p : Nat} (hn : n < 2 ^ 64) (hk : k < 64) (hp : 2 ^ k = p) : hk_ushr (lN n) (nI k) = lN (n / p) := by
  subst hp; exact wb_shr hn hk
theorem and_lN {a b : Nat} (ha : a < 2 ^ 64) (hb : b < 2 ^ 64) : lN a &&& lN b = lN (a &&& b) := wb_and ha hb
theorem popc_lN {n : Nat} (hn : n < 2 ^ 64) : popc (lN n) = fb_ct n.testBit 64 := fb_ct_cong (fun k _ => bl_lN n k hn)
theorem bitCount_popc (x : Int64) : f_J13_bitCount_95d88 x = some (nI (popc x)) := by
  obtain ⟨n, hn, rfl⟩ := wb_of x
  obtain ⟨y, z, w, w1, w2, w3, h1, hy, hz, hz2, hz3, hw, hw1, hw2, hw3, l0, l1, l2, l3, hc⟩ := bc_nat n hn
  have hyn : y < 2 ^ 64 := by omega
  unfold f_J13_bitCount_95d88
  simp only [hk_let]
  rw [show (1 : Int32) = nI 1 from rfl, us_lN (p := 2) hn (by decide) rfl, show (6148914691236517205 : Int64) = lN 6148914691236517205 from rfl, and_lN (by omega) (by decide), lN_sub h1, ← hy]
  rw [show (2 : Int32) = nI 2 from rfl, us_lN (p := 4) hyn (by decide) rfl, show (3689348814741910323 : Int64) = lN 3689348814741910323 from rfl, and_lN hyn (by decide), and_lN (by omega) (by decide), lN_add, ← hz]
  rw [show (4 : Int32) = nI 4 from rfl, us_lN (p := 16) (by omega) (by decide) rfl, lN_add, show (1085102592571150095 : Int64) = lN 1085102592571150095 from rfl, and_lN hz3 (by decide), ← hw]
  rw [show (8 : Int32) = nI 8 from rfl, us_lN (p := 256) (by omega) (by decide) rfl, lN_add, ← hw1]
  rw [show (16 : Int32) = nI 16 from rfl, us_lN (p := 65536) (by omega) (by decide) rfl, lN_add, ← hw2]
  rw [show (32 : Int32) = nI 32 from rfl, us_lN (p := 4294967296) (by omega) (by decide) rfl, lN_add, ← hw3]
  rw [lN_i, show (127 : Int32) = nI (2 ^ 7 - 1) from rfl, fa_mask, show (2 ^ 7 : Nat) = 128 from rfl, hc, popc_lN hn]
