/-! Integer.bitCount counts -/
theorem and_cut {a m : Nat} (b k : Nat) (ha : a < 256) (hm : m < 256) : (a + 256 * b) &&& (m + 256 * k) = (a &&& m) + 256 * (b &&& k) := by
  have e1 : (a + 256 * b) / 256 = b := by omega
  have e2 : (m + 256 * k) / 256 = k := by omega
  have e3 : (a + 256 * b) % 256 = a := by omega
  have e4 : (m + 256 * k) % 256 = m := by omega
  have h1 : ((a + 256 * b) &&& (m + 256 * k)) / 2 ^ 8 = ((a + 256 * b) / 2 ^ 8) &&& ((m + 256 * k) / 2 ^ 8) := Nat.and_div_two_pow
  have h2 : ((a + 256 * b) &&& (m + 256 * k)) % 2 ^ 8 = ((a + 256 * b) % 2 ^ 8) &&& ((m + 256 * k) % 2 ^ 8) := Nat.and_mod_two_pow
  rw [show (2 : Nat) ^ 8 = 256 from rfl, e1, e2] at h1
  rw [show (2 : Nat) ^ 8 = 256 from rfl, e3, e4] at h2
  generalize (a + 256 * b) &&& (m + 256 * k) = z at h1 h2
  omega
theorem and4 {a0 a1 a2 a3 m0 m1 m2 m3 : Nat} (h0 : a0 < 256) (h1 : a1 < 256) (h2 : a2 < 256) (k0 : m0 < 256) (k1 : m1 < 256) (k2 : m2 < 256) : (a0 + 256 * a1 + 65536 * a2 + 16777216 * a3) &&& (m0 + 256 * m1 + 65536 * m2 + 16777216 * m3) = (a0 &&& m0) + 256 * (a1 &&& m1) + 65536 * (a2 &&& m2) + 16777216 * (a3 &&& m3) := by
  have e := and_cut (a1 + 256 * (a2 + 256 * a3)) (m1 + 256 * (m2 + 256 * m3)) h0 k0
  rw [and_cut (a2 + 256 * a3) (m2 + 256 * m3) h1 k1, and_cut a3 m3 h2 k2] at e
  rw [show a0 + 256 * a1 + 65536 * a2 + 16777216 * a3 = a0 + 256 * (a1 + 256 * (a2 + 256 * a3)) by omega, show m0 + 256 * m1 + 65536 * m2 + 16777216 * m3 = m0 + 256 * (m1 + 256 * (m2 + 256 * m3)) by omega, e]
  omega
def bs1 (y : Nat) : Nat := y - (y / 2 &&& 85)
def bs2 (y : Nat) : Nat := (y &&& 51) + (y / 4 &&& 51)
theorem f85 : ∀ y : Fin 256, ∀ b : Fin 2, (y.val / 2 + 128 * b.val &&& 85) = (y.val / 2 &&& 85) ∧ (y.val / 2 &&& 85) ≤ y.val := by decide +kernel
theorem f51 : ∀ y : Fin 256, ∀ b : Fin 4, (y.val / 4 + 64 * b.val &&& 51) = (y.val / 4 &&& 51) ∧ (y.val &&& 51) + (y.val / 4 &&& 51) < 256 := by decide +kernel
theorem f15 : ∀ y : Fin 256, ∀ b : Fin 5, bs2 (bs1 y.val) + bs2 (bs1 y.val) / 16 + 16 * b.val < 256 ∧ (bs2 (bs1 y.val) + bs2 (bs1 y.val) / 16 + 16 * b.val &&& 15) = fb_ct (fun i => y.val.testBit i) 8 ∧ bs2 (bs1 y.val) % 16 < 5 ∧ fb_ct (fun i => y.val.testBit i) 8 ≤ 8 ∧ bs2 (bs1 y.val) ≤ 68 := by decide +kernel
theorem ush_nI {N k : Nat} (hN : N < 2147483648) (hk : k < 32) : iushr (nI N) (nI k) = nI (N / 2 ^ k) := by
  unfold iushr
  have hs : N / 2 ^ k ≤ N := Nat.div_le_self _ _
  have c : ∀ j : Fin 32, ((nI j.val).toUInt32 &&& Int32.toUInt32 31).toNat % 32 = j.val := by decide +kernel
  have e2 : (nI N).toUInt32 >>> ((nI k).toUInt32 &&& Int32.toUInt32 31) = UInt32.ofNat (N / 2 ^ k) := by
    apply UInt32.toNat_inj.1
    have h1 : (nI N).toUInt32.toNat = N := Nat.mod_eq_of_lt (by omega)
    have h2 : (UInt32.ofNat (N / 2 ^ k)).toNat = N / 2 ^ k := Nat.mod_eq_of_lt (by omega)
    rw [UInt32.toNat_shiftRight, c ⟨k, hk⟩, h1, h2, Nat.shiftRight_eq_div_pow]
  rw [e2]
  rfl
theorem bit_div (N k i : Nat) : (N / 2 ^ k).testBit i = N.testBit (k + i) := by
  rw [← Nat.shiftRight_eq_div_pow, Nat.testBit_shiftRight]
theorem ct_bytes {N : Nat} (hN : N < 1073741824) : fb_ct (fun i => N.testBit i) 32 = fb_ct (fun i => (N % 256).testBit i) 8 + fb_ct (fun i => (N / 256 % 256).testBit i) 8 + fb_ct (fun i => (N / 65536 % 256).testBit i) 8 + fb_ct (fun i => (N / 16777216).testBit i) 8 := by
  have lo : ∀ M i, i < 8 → (M % 256).testBit i = M.testBit i := fun M i hi => by
    rw [show (256 : Nat) = 2 ^ 8 from rfl, Nat.testBit_mod_two_pow, decide_eq_true hi, Bool.true_and]
  rw [show (32 : Nat) = 8 + 24 from rfl, fb_ct_split, show (24 : Nat) = 8 + 16 from rfl, fb_ct_split, show (16 : Nat) = 8 + 8 from rfl, fb_ct_split]
  have e0 : fb_ct (fun i => (N % 256).testBit i) 8 = fb_ct (fun i => N.testBit i) 8 := fb_ct_cong (fun i hi => lo N i hi)
  have e1 : fb_ct (fun i => (N / 256 % 256).testBit i) 8 = fb_ct (fun k => N.testBit (8 + k)) 8 := fb_ct_cong (fun i hi => by rw [lo _ i hi]; exact bit_div N 8 i)
  have e2 : fb_ct (fun i => (N / 65536 % 256).testBit i) 8 = fb_ct (fun k => N.testBit (8 + (8 + k))) 8 := fb_ct_cong (fun i hi => by rw [lo _ i hi, show 8 + (8 + i) = 16 + i by omega]; exact bit_div N 16 i)
  have e3 : fb_ct (fun i => (N / 16777216).testBit i) 8 = fb_ct (fun k => N.testBit (8 + (8 + (8 + k)))) 8 := fb_ct_cong (fun i hi => by rw [show 8 + (8 + (8 + i)) = 24 + i by omega]; exact bit_div N 24 i)
  rw [e0, e1, e2, e3]
  omega
theorem bitC {N : Nat} (hN : N < 1073741824) : f_J6_bitCount_0f7a4 (nI N) = some (nI (fb_ct (fun i => N.testBit i) 32)) := by
  rw [ct_bytes hN]
  obtain ⟨y0, y1, y2, y3, h0, h1, h2, h3, eN, q0, q1, q2, q3⟩ : ∃ y0 y1 y2 y3 : Nat, y0 < 256 ∧ y1 < 256 ∧ y2 < 256 ∧ y3 < 64 ∧ N = y0 + 256 * y1 + 65536 * y2 + 16777216 * y3 ∧ N % 256 = y0 ∧ N / 256 % 256 = y1 ∧ N / 65536 % 256 = y2 ∧ N / 16777216 = y3 := ⟨N % 256, N / 256 % 256, N / 65536 % 256, N / 16777216, by omega, by omega, by omega, by omega, by omega, rfl, rfl, rfl, rfl⟩
  rw [q0, q1, q2, q3]
  -- the first stage
  have a0 := f85 ⟨y0, h0⟩ ⟨y1 % 2, by omega⟩
  have a1 := f85 ⟨y1, h1⟩ ⟨y2 % 2, by omega⟩
  have a2 := f85 ⟨y2, h2⟩ ⟨y3 % 2, by omega⟩
  have a3 := f85 ⟨y3, by omega⟩ ⟨0, by omega⟩
  dsimp only at a0 a1 a2 a3
  have s1 : N / 2 ^ 1 &&& 1431655765 = (y0 / 2 &&& 85) + 256 * (y1 / 2 &&& 85) + 65536 * (y2 / 2 &&& 85) + 16777216 * (y3 / 2 &&& 85) := by
    have e := and4 (a0 := y0 / 2 + 128 * (y1 % 2)) (a1 := y1 / 2 + 128 * (y2 % 2)) (a2 := y2 / 2 + 128 * (y3 % 2)) (a3 := y3 / 2) (m0 := 85) (m1 := 85) (m2 := 85) (m3 := 85) (by omega) (by omega) (by omega) (by omega) (by omega) (by omega)
    rw [a0.1, a1.1, a2.1] at e
    rw [← e]
    congr 1
    omega
  have d1 : nI N - (iushr (nI N) (1 : Int32) &&& (1431655765 : Int32)) = nI (bs1 y0 + 256 * bs1 y1 + 65536 * bs1 y2 + 16777216 * bs1 y3) := by
    rw [show iushr (nI N) (1 : Int32) = nI (N / 2 ^ 1) from ush_nI (k := 1) (by omega) (by omega), show (nI (N / 2 ^ 1) &&& (1431655765 : Int32)) = nI (N / 2 ^ 1 &&& 1431655765) from nand _ 1431655765, s1, nI_sb (by omega)]
    congr 1
    unfold bs1
    omega
  have u0 : bs1 y0 ≤ y0 := Nat.sub_le _ _
  have u1 : bs1 y1 ≤ y1 := Nat.sub_le _ _
  have u2 : bs1 y2 ≤ y2 := Nat.sub_le _ _
  have u3 : bs1 y3 ≤ y3 := Nat.sub_le _ _
  -- the second
  have b0 := f51 ⟨bs1 y0, by omega⟩ ⟨bs1 y1 % 4, by omega⟩
  have b1 := f51 ⟨bs1 y1, by omega⟩ ⟨bs1 y2 % 4, by omega⟩
  have b2 := f51 ⟨bs1 y2, by omega⟩ ⟨bs1 y3 % 4, by omega⟩
  have b3 := f51 ⟨bs1 y3, by omega⟩ ⟨0, by omega⟩
  dsimp only at b0 b1 b2 b3
  have c0 := f15 ⟨y0, h0⟩
  have c1 := f15 ⟨y1, h1⟩
  have c2 := f15 ⟨y2, h2⟩
  have c3 := f15 ⟨y3, by omega⟩
  dsimp only at c0 c1 c2 c3
  generalize bs1 y0 = t0 at *
  generalize bs1 y1 = t1 at *
  generalize bs1 y2 = t2 at *
  generalize bs1 y3 = t3 at *
  have d2 : (nI (t0 + 256 * t1 + 65536 * t2 + 16777216 * t3) &&& (858993459 : Int32)) + (iushr (nI (t0 + 256 * t1 + 65536 * t2 + 16777216 * t3)) (2 : Int32) &&& (858993459 : Int32)) = nI (bs2 t0 + 256 * bs2 t1 + 65536 * bs2 t2 + 16777216 * bs2 t3) := by
    have e1 := and4 (a0 := t0) (a1 := t1) (a2 := t2) (a3 := t3) (m0 := 51) (m1 := 51) (m2 := 51) (m3 := 51) (by omega) (by omega) (by omega) (by omega) (by omega) (by omega)
    have e2 := and4 (a0 := t0 / 4 + 64 * (t1 % 4)) (a1 := t1 / 4 + 64 * (t2 % 4)) (a2 := t2 / 4 + 64 * (t3 % 4)) (a3 := t3 / 4) (m0 := 51) (m1 := 51) (m2 := 51) (m3 := 51) (by omega) (by omega) (by omega) (by omega) (by omega) (by omega)
    rw [b0.1, b1.1, b2.1] at e2
    rw [show iushr (nI (t0 + 256 * t1 + 65536 * t2 + 16777216 * t3)) (2 : Int32) = nI ((t0 + 256 * t1 + 65536 * t2 + 16777216 * t3) / 2 ^ 2) from ush_nI (k := 2) (by omega) (by omega), show ∀ z, (nI z &&& (858993459 : Int32)) = nI (z &&& 858993459) from fun z => nand _ 858993459, show ∀ z, (nI z &&& (858993459 : Int32)) = nI (z &&& 858993459) from fun z => nand _ 858993459, nI_add]
    rw [show (858993459 : Nat) = 51 + 256 * 51 + 65536 * 51 + 16777216 * 51 from rfl, e1, show (t0 + 256 * t1 + 65536 * t2 + 16777216 * t3) / 2 ^ 2 = t0 / 4 + 64 * (t1 % 4) + 256 * (t1 / 4 + 64 * (t2 % 4)) + 65536 * (t2 / 4 + 64 * (t3 % 4)) + 16777216 * (t3 / 4) by omega, e2]
    congr 1
    unfold bs2
    omega
  have v0 : bs2 t0 < 256 := b0.2
  have v1 : bs2 t1 < 256 := b1.2
  have v2 : bs2 t2 < 256 := b2.2
  have c00 := c0 ⟨0, by omega⟩
  have c10 := c1 ⟨0, by omega⟩
  have c20 := c2 ⟨0, by omega⟩
  have c30 := c3 ⟨0, by omega⟩
  have w0 := c0 ⟨bs2 t1 % 16, c10.2.2.1⟩
  have w1 := c1 ⟨bs2 t2 % 16, c20.2.2.1⟩
  have w2 := c2 ⟨bs2 t3 % 16, c30.2.2.1⟩
  dsimp only at c00 c10 c20 c30 w0 w1 w2
  generalize bs2 t0 = r0 at *
  generalize bs2 t1 = r1 at *
  generalize bs2 t2 = r2 at *
  generalize bs2 t3 = r3 at *
  generalize fb_ct (fun i => y0.testBit i) 8 = p0 at *
  generalize fb_ct (fun i => y1.testBit i) 8 = p1 at *
  generalize fb_ct (fun i => y2.testBit i) 8 = p2 at *
  generalize fb_ct (fun i => y3.testBit i) 8 = p3 at *
  have d3 : (nI (r0 + 256 * r1 + 65536 * r2 + 16777216 * r3) + iushr (nI (r0 + 256 * r1 + 65536 * r2 + 16777216 * r3)) (4 : Int32)) &&& (252645135 : Int32) = nI (p0 + 256 * p1 + 65536 * p2 + 16777216 * p3) := by
    have e1 := and4 (a0 := r0 + r0 / 16 + 16 * (r1 % 16)) (a1 := r1 + r1 / 16 + 16 * (r2 % 16)) (a2 := r2 + r2 / 16 + 16 * (r3 % 16)) (a3 := r3 + r3 / 16) (m0 := 15) (m1 := 15) (m2 := 15) (m3 := 15) w0.1 w1.1 w2.1 (by omega) (by omega) (by omega)
    rw [w0.2.1, w1.2.1, w2.2.1] at e1
    have e30 := c30.2.1
    rw [Nat.mul_zero, Nat.add_zero] at e30
    rw [e30] at e1
    rw [show iushr (nI (r0 + 256 * r1 + 65536 * r2 + 16777216 * r3)) (4 : Int32) = nI ((r0 + 256 * r1 + 65536 * r2 + 16777216 * r3) / 2 ^ 4) from ush_nI (k := 4) (by omega) (by omega), nI_add, show ∀ z, (nI z &&& (252645135 : Int32)) = nI (z &&& 252645135) from fun z => nand _ 252645135]
    rw [show (252645135 : Nat) = 15 + 256 * 15 + 65536 * 15 + 16777216 * 15 from rfl, show r0 + 256 * r1 + 65536 * r2 + 16777216 * r3 + (r0 + 256 * r1 + 65536 * r2 + 16777216 * r3) / 2 ^ 4 = r0 + r0 / 16 + 16 * (r1 % 16) + 256 * (r1 + r1 / 16 + 16 * (r2 % 16)) + 65536 * (r2 + r2 / 16 + 16 * (r3 % 16)) + 16777216 * (r3 + r3 / 16) by omega, e1]
  have d4 : ∀ M, M = p0 + 256 * p1 + 65536 * p2 + 16777216 * p3 → (nI M + iushr (nI M) (8 : Int32)) + iushr (nI M + iushr (nI M) (8 : Int32)) (16 : Int32) = nI (M + M / 256 + (M + M / 256) / 65536) := by
    intro M hM
    rw [show iushr (nI M) (8 : Int32) = nI (M / 2 ^ 8) from ush_nI (k := 8) (by omega) (by omega), nI_add, show iushr (nI (M + M / 2 ^ 8)) (16 : Int32) = nI ((M + M / 2 ^ 8) / 2 ^ 16) from ush_nI (k := 16) (by omega) (by omega), nI_add]
  unfold f_J6_bitCount_0f7a4
  rw [nm_eq, d1, nm_eq, d2, nm_eq, d3, nm_eq, d4 _ rfl, show ∀ z, (nI z &&& (63 : Int32)) = nI (z &&& 63) from fun z => nand _ 63, show (63 : Nat) = 2 ^ 6 - 1 from rfl, Nat.and_two_pow_sub_one_eq_mod]
  have g1 : (p0 + 256 * p1 + 65536 * p2 + 16777216 * p3) / 256 = p1 + 256 * p2 + 65536 * p3 := by omega
  rw [g1]
  have g2 : (p0 + 256 * p1 + 65536 * p2 + 16777216 * p3 + (p1 + 256 * p2 + 65536 * p3)) / 65536 = p2 + p3 + 256 * p3 := by omega
  rw [g2]
  congr 2
  have g3 : p0 + 256 * p1 + 65536 * p2 + 16777216 * p3 + (p1 + 256 * p2 + 65536 * p3) + (p2 + p3 + 256 * p3) = (p0 + p1 + p2 + p3) + 64 * (4 * p1 + 1024 * p2 + 262144 * p3 + 4 * p2 + 1024 * p3 + 4 * p3) := by omega
  rw [g3, show (2 : Nat) ^ 6 = 64 from rfl, Nat.add_mul_mod_self_left, Nat.mod_eq_of_lt (by omega)]
theorem bitC_bm {p : Nat → Bool} {n : Nat} (hn : n ≤ 30) : f_J6_bitCount_0f7a4 (bm p n) = some (nI (fb_ct p n)) := by
  have h1 := bn_lt p n
  have h2 : 2 ^ n ≤ 2 ^ 30 := Nat.pow_le_pow_right (by omega) hn
  rw [← bn_bm p (by omega), bitC (by omega)]
  congr 2
  rw [show (32 : Nat) = n + (32 - n) by omega, fb_ct_split]
  have e1 : fb_ct (fun i => (bn p n).testBit i) n = fb_ct p n := fb_ct_cong (fun i hi => by rw [bn_bit, decide_eq_true hi, Bool.true_and])
  have e2 : fb_ct (fun k => (bn p n).testBit (n + k)) (32 - n) = 0 := fb_ct_zero.mpr (fun k hk => by rw [bn_bit, decide_eq_false (by omega), Bool.false_and])
  rw [e1, e2, Nat.add_zero]
