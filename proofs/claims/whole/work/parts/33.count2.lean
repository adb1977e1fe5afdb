theorem d_m0f : (1085102592571150095 : Nat) = dN [15, 0, 15, 0, 15, 0, 15, 0, 15, 0, 15, 0, 15, 0, 15, 0] := by decide +kernel
theorem d_ok16 {c0 c1 c2 c3 c4 c5 c6 c7 c8 c9 ca cb cc cd ce cf : Nat} (h0 : c0 < 16) (h1 : c1 < 16) (h2 : c2 < 16) (h3 : c3 < 16) (h4 : c4 < 16) (h5 : c5 < 16) (h6 : c6 < 16) (h7 : c7 < 16) (h8 : c8 < 16) (h9 : c9 < 16) (ha : ca < 16) (hb : cb < 16) (hc : cc < 16) (hd : cd < 16) (he : ce < 16) (hf : cf < 16) : dOk [c0, c1, c2, c3, c4, c5, c6, c7, c8, c9, ca, cb, cc, cd, ce, cf] := by
  intro d hd2
  simp only [List.mem_cons, List.not_mem_nil, or_false] at hd2
  rcases hd2 with rfl | rfl | rfl | rfl | rfl | rfl | rfl | rfl | rfl | rfl | rfl | rfl | rfl | rfl | rfl | rfl <;> assumption
theorem d_last {c0 c1 c2 c3 c4 c5 c6 c7 c8 c9 ca cb cc cd ce cf : Nat} (h0 : c0 ≤ 4) (h1 : c1 ≤ 4) (h2 : c2 ≤ 4) (h3 : c3 ≤ 4) (h4 : c4 ≤ 4) (h5 : c5 ≤ 4) (h6 : c6 ≤ 4) (h7 : c7 ≤ 4) (h8 : c8 ≤ 4) (h9 : c9 ≤ 4) (ha : ca ≤ 4) (hb : cb ≤ 4) (hc : cc ≤ 4) (hd : cd ≤ 4) (he : ce ≤ 4) (hf : cf ≤ 4) :
    (dN [c0, c1, c2, c3, c4, c5, c6, c7, c8, c9, ca, cb, cc, cd, ce, cf] + dN [c0, c1, c2, c3, c4, c5, c6, c7, c8, c9, ca, cb, cc, cd, ce, cf] / 16) &&& 1085102592571150095 = dN [c0 + c1, 0, c2 + c3, 0, c4 + c5, 0, c6 + c7, 0, c8 + c9, 0, ca + cb, 0, cc + cd, 0, ce + cf, 0] := by
  rw [d_div c0 _ (by omega), ← dN_0 [c1, c2, c3, c4, c5, c6, c7, c8, c9, ca, cb, cc, cd, ce, cf]]
  have e1 : dN [c0, c1, c2, c3, c4, c5, c6, c7, c8, c9, ca, cb, cc, cd, ce, cf] + dN ([c1, c2, c3, c4, c5, c6, c7, c8, c9, ca, cb, cc, cd, ce, cf] ++ [0]) = dN [c0 + c1, c1 + c2, c2 + c3, c3 + c4, c4 + c5, c5 + c6, c6 + c7, c7 + c8, c8 + c9, c9 + ca, ca + cb, cb + cc, cc + cd, cd + ce, ce + cf, cf + 0] := d_addz [c0, c1, c2, c3, c4, c5, c6, c7, c8, c9, ca, cb, cc, cd, ce, cf] ([c1, c2, c3, c4, c5, c6, c7, c8, c9, ca, cb, cc, cd, ce, cf] ++ [0]) rfl
  rw [e1, d_m0f, d_andz [c0 + c1, c1 + c2, c2 + c3, c3 + c4, c4 + c5, c5 + c6, c6 + c7, c7 + c8, c8 + c9, c9 + ca, ca + cb, cb + cc, cc + cd, cd + ce, ce + cf, cf + 0] [15, 0, 15, 0, 15, 0, 15, 0, 15, 0, 15, 0, 15, 0, 15, 0] (d_ok16 (by omega) (by omega) (by omega) (by omega) (by omega) (by omega) (by omega) (by omega) (by omega) (by omega) (by omega) (by omega) (by omega) (by omega) (by omega) (by omega)) (d_ok16 (by decide) (by decide) (by decide) (by decide) (by decide) (by decide) (by decide) (by decide) (by decide) (by decide) (by decide) (by decide) (by decide) (by decide) (by decide) (by decide)) rfl]
  simp only [List.zipWith, Nat.and_zero]
  rw [k15 (c0 + c1) (by omega), k15 (c2 + c3) (by omega), k15 (c4 + c5) (by omega), k15 (c6 + c7) (by omega), k15 (c8 + c9) (by omega), k15 (ca + cb) (by omega), k15 (cc + cd) (by omega), k15 (ce + cf) (by omega)]
/-- eight bytes -/
def eN (e0 e1 e2 e3 e4 e5 e6 e7 : Nat) : Nat := e0 + 256 * (e1 + 256 * (e2 + 256 * (e3 + 256 * (e4 + 256 * (e5 + 256 * (e6 + 256 * e7))))))
theorem dN_eN (e0 e1 e2 e3 e4 e5 e6 e7 : Nat) : dN [e0, 0, e1, 0, e2, 0, e3, 0, e4, 0, e5, 0, e6, 0, e7, 0] = eN e0 e1 e2 e3 e4 e5 e6 e7 := by
  simp only [dN, eN]; omega
theorem e_8 {e0 e1 e2 e3 e4 e5 e6 e7 : Nat} (h : e0 < 256) : eN e0 e1 e2 e3 e4 e5 e6 e7 / 256 = eN e1 e2 e3 e4 e5 e6 e7 0 := by
  show (e0 + 256 * (e1 + 256 * (e2 + 256 * (e3 + 256 * (e4 + 256 * (e5 + 256 * (e6 + 256 * e7))))))) / 256 = e1 + 256 * (e2 + 256 * (e3 + 256 * (e4 + 256 * (e5 + 256 * (e6 + 256 * (e7 + 256 * 0))))))
  rw [Nat.mul_zero, Nat.add_zero]
  generalize e1 + 256 * (e2 + 256 * (e3 + 256 * (e4 + 256 * (e5 + 256 * (e6 + 256 * e7))))) = z
  omega
theorem e_add (a0 a1 a2 a3 a4 a5 a6 a7 b0 b1 b2 b3 b4 b5 b6 b7 : Nat) : eN a0 a1 a2 a3 a4 a5 a6 a7 + eN b0 b1 b2 b3 b4 b5 b6 b7 = eN (a0 + b0) (a1 + b1) (a2 + b2) (a3 + b3) (a4 + b4) (a5 + b5) (a6 + b6) (a7 + b7) := by
  simp only [eN]; omega
theorem e_low (a0 a1 a2 a3 a4 a5 a6 a7 : Nat) (h : a0 < 128) : eN a0 a1 a2 a3 a4 a5 a6 a7 % 128 = a0 := by
  unfold eN
  generalize a1 + 256 * (a2 + 256 * (a3 + 256 * (a4 + 256 * (a5 + 256 * (a6 + 256 * a7))))) = z
  omega
theorem e_lt {a0 a1 a2 a3 a4 a5 a6 a7 : Nat} (h0 : a0 < 256) (h1 : a1 < 256) (h2 : a2 < 256) (h3 : a3 < 256) (h4 : a4 < 256) (h5 : a5 < 256) (h6 : a6 < 256) (h7 : a7 < 128) : eN a0 a1 a2 a3 a4 a5 a6 a7 < 2 ^ 63 := by
  unfold eN; omega
theorem l16 (l : List Nat) (h : l.length = 16) : ∃ c0 c1 c2 c3 c4 c5 c6 c7 c8 c9 ca cb cc cd ce cf, l = [c0, c1, c2, c3, c4, c5, c6, c7, c8, c9, ca, cb, cc, cd, ce, cf] := by
  match l, h with
  | [c0, c1, c2, c3, c4, c5, c6, c7, c8, c9, ca, cb, cc, cd, ce, cf], _ => exact ⟨c0, c1, c2, c3, c4, c5, c6, c7, c8, c9, ca, cb, cc, cd, ce, cf, rfl⟩
/-- what Long.bitCount computes, on numbers -/
theorem bc_nat (n : Nat) (hn : n < 2 ^ 64) : ∃ y z w w1 w2 w3, (n / 2 &&& 6148914691236517205) ≤ n ∧ y = n - (n / 2 &&& 6148914691236517205) ∧ z = (y &&& 3689348814741910323) + (y / 4 &&& 3689348814741910323) ∧ z < 2 ^ 63 ∧ z + z / 16 < 2 ^ 64 ∧ w = (z + z / 16) &&& 1085102592571150095 ∧ w1 = w + w / 256 ∧ w2 = w1 + w1 / 65536 ∧ w3 = w2 + w2 / 4294967296 ∧ w < 2 ^ 63 ∧ w1 < 2 ^ 63 ∧ w2 < 2 ^ 63 ∧ w3 < 2 ^ 63 ∧ w3 % 128 = fb_ct n.testBit 64 := by
  have hl := dg_len 16 n
  have ho := dg_ok 16 n
  have he : dN (dg 16 n) = n := dN_dg 16 n hn
  generalize dg 16 n = l at hl ho he
  obtain ⟨y, h1, h2, h3⟩ := d_steps l ho
  have hp := d_pop l ho
  rw [hl] at hp
  rw [he] at h1 h2 hp
  obtain ⟨c0, c1, c2, c3, c4, c5, c6, c7, c8, c9, ca, cb, cc, cd, ce, cf, rfl⟩ := l16 l hl
  have m5 : dN ([c0, c1, c2, c3, c4, c5, c6, c7, c8, c9, ca, cb, cc, cd, ce, cf].map fun _ => 5) = 6148914691236517205 := by show dN [5, 5, 5, 5, 5, 5, 5, 5, 5, 5, 5, 5, 5, 5, 5, 5] = _; decide +kernel
  have m3 : dN ([c0, c1, c2, c3, c4, c5, c6, c7, c8, c9, ca, cb, cc, cd, ce, cf].map fun _ => 3) = 3689348814741910323 := by show dN [3, 3, 3, 3, 3, 3, 3, 3, 3, 3, 3, 3, 3, 3, 3, 3] = _; decide +kernel
  rw [m5] at h1 h2
  rw [m3] at h3
  have h3' : (y &&& 3689348814741910323) + (y / 4 &&& 3689348814741910323) = dN [pop4 c0, pop4 c1, pop4 c2, pop4 c3, pop4 c4, pop4 c5, pop4 c6, pop4 c7, pop4 c8, pop4 c9, pop4 ca, pop4 cb, pop4 cc, pop4 cd, pop4 ce, pop4 cf] := h3
  have hp' : fb_ct n.testBit 64 = pop4 c0 + (pop4 c1 + (pop4 c2 + (pop4 c3 + (pop4 c4 + (pop4 c5 + (pop4 c6 + (pop4 c7 + (pop4 c8 + (pop4 c9 + (pop4 ca + (pop4 cb + (pop4 cc + (pop4 cd + (pop4 ce + (pop4 cf + 0))))))))))))))) := hp
  have b0 := pop4_le c0
  have b1 := pop4_le c1
  have b2 := pop4_le c2
  have b3 := pop4_le c3
  have b4 := pop4_le c4
  have b5 := pop4_le c5
  have b6 := pop4_le c6
  have b7 := pop4_le c7
  have b8 := pop4_le c8
  have b9 := pop4_le c9
  have ba := pop4_le ca
  have bb := pop4_le cb
  have bc := pop4_le cc
  have bd := pop4_le cd
  have be := pop4_le ce
  have bf := pop4_le cf
  generalize pop4 c0 = p0 at *
  generalize pop4 c1 = p1 at *
  generalize pop4 c2 = p2 at *
  generalize pop4 c3 = p3 at *
  generalize pop4 c4 = p4 at *
  generalize pop4 c5 = p5 at *
  generalize pop4 c6 = p6 at *
  generalize pop4 c7 = p7 at *
  generalize pop4 c8 = p8 at *
  generalize pop4 c9 = p9 at *
  generalize pop4 ca = pa at *
  generalize pop4 cb = pb at *
  generalize pop4 cc = pc at *
  generalize pop4 cd = pd at *
  generalize pop4 ce = pe at *
  generalize pop4 cf = pf at *
  have hz : dN [p0, p1, p2, p3, p4, p5, p6, p7, p8, p9, pa, pb, pc, pd, pe, pf] < 2 ^ 63 := by simp only [dN]; omega
  have hw := d_last b0 b1 b2 b3 b4 b5 b6 b7 b8 b9 ba bb bc bd be bf
  rw [dN_eN] at hw
  refine ⟨y, _, _, _, _, _, h2, h1.symm, h3'.symm, hz, by omega, rfl, rfl, rfl, rfl, ?_⟩
  rw [hw, e_8 (by omega), e_add]
  rw [show ∀ x, x / 65536 = x / 256 / 256 from fun x => by omega, e_8 (by omega), e_8 (by omega), e_add]
  rw [show ∀ x, x / 4294967296 = x / 256 / 256 / 256 / 256 from fun x => by omega, e_8 (by omega), e_8 (by omega), e_8 (by omega), e_8 (by omega), e_add]
  refine ⟨e_lt (by omega) (by omega) (by omega) (by omega) (by omega) (by omega) (by omega) (by omega), e_lt (by omega) (by omega) (by omega) (by omega) (by omega) (by omega) (by omega) (by omega), e_lt (by omega) (by omega) (by omega) (by omega) (by omega) (by omega) (by omega) (by omega), e_lt (by omega) (by omega) (by omega) (by omega) (by omega) (by omega) (by omega) (by omega), ?_⟩
  rw [e_low _ _ _ _ _ _ _ _ (by omega), hp']
  omega
