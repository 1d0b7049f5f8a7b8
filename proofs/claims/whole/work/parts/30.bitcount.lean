/-! the number of bits -/
def un (x : Int32) : Nat := x.toBitVec.toNat
theorem un_lt (x : Int32) : un x < 2 ^ 32 := x.toBitVec.isLt
theorem un_bt (x : Int32) (i : Nat) : bt x i = (un x).testBit i := rfl
theorem un_ushr (x : Int32) {k : Nat} (hk : k < 32) : un (ushr x (nI k)) = un x / 2 ^ k := by
  apply Nat.eq_of_testBit_eq
  intro i
  rw [Nat.testBit_div_two_pow]
  show bt (ushr x (nI k)) i = bt x (i + k)
  unfold ushr
  rw [b_ushr k hk, Nat.add_comm]
theorem un_and (x y : Int32) : un (x &&& y) = un x &&& un y := by
  unfold un
  rw [Int32.toBitVec_and, BitVec.toNat_and]
theorem un_add {x y : Int32} (h : un x + un y < 2 ^ 32) : un (x + y) = un x + un y := by
  unfold un at *
  rw [Int32.toBitVec_add, BitVec.toNat_add, Nat.mod_eq_of_lt h]
theorem un_sub {x y : Int32} (h : un y ≤ un x) : un (x - y) = un x - un y := by
  have h1 := un_lt x
  have h2 := un_lt y
  unfold un at *
  rw [Int32.toBitVec_sub, BitVec.toNat_sub]
  omega
theorem un_nI {k : Nat} (h : k < 2 ^ 32) : un (nI k) = k := by
  show (BitVec.ofNat 32 k).toNat = k
  rw [BitVec.toNat_ofNat, Nat.mod_eq_of_lt h]
theorem un_eq {x : Int32} {k : Nat} (h : un x = k) : x = nI k := by
  apply Int32.toBitVec_inj.mp
  apply BitVec.eq_of_toNat_eq
  have := un_nI (k := k) (by rw [← h]; exact un_lt x)
  unfold un at h this
  rw [h, this]
theorem and_split {a b c d : Nat} (hb : b < 256) (hd : d < 256) : (256 * a + b) &&& (256 * c + d) = 256 * (a &&& c) + (b &&& d) := by
  apply Nat.eq_of_testBit_eq
  intro i
  have hbd : b &&& d < 2 ^ 8 := Nat.lt_of_le_of_lt Nat.and_le_left hb
  rw [Nat.testBit_and, show 256 = 2 ^ 8 from rfl, Nat.testBit_two_pow_mul_add _ hb, Nat.testBit_two_pow_mul_add _ hd, Nat.testBit_two_pow_mul_add _ hbd]
  by_cases h : i < 8
  · rw [if_pos h, if_pos h, if_pos h, Nat.testBit_and]
  · rw [if_neg h, if_neg h, if_neg h, Nat.testBit_and]
def w4 (a b c d : Nat) : Nat := 256 * (256 * (256 * d + c) + b) + a
theorem w4_and {a b c d a' b' c' d' : Nat} (h1 : a < 256) (h2 : b < 256) (h3 : c < 256) (g1 : a' < 256) (g2 : b' < 256) (g3 : c' < 256) : w4 a b c d &&& w4 a' b' c' d' = w4 (a &&& a') (b &&& b') (c &&& c') (d &&& d') := by
  unfold w4
  rw [and_split h1 g1, and_split h2 g2, and_split h3 g3]
def g1 (b : Nat) : Nat := b - ((b / 2) &&& 85)
def g2 (b : Nat) : Nat := (g1 b &&& 51) + ((g1 b / 4) &&& 51)
theorem t1a : ∀ b, b < 256 → ∀ q, q < 2 → (b / 2 + 128 * q) &&& 85 = (b / 2) &&& 85 := by decide +kernel
theorem t1b : ∀ b, b < 256 → (b / 2) &&& 85 ≤ b ∧ g1 b < 256 := by decide +kernel
theorem t2a : ∀ b, b < 256 → ∀ q, q < 4 → (b / 4 + 64 * q) &&& 51 = (b / 4) &&& 51 := by decide +kernel
theorem t2b : ∀ b, b < 256 → g2 b % 16 ≤ 4 ∧ g2 b / 16 ≤ 4 ∧ fb_ct b.testBit 8 ≤ 8 ∧ (g1 b &&& 51) < 128 ∧ ((g1 b / 4) &&& 51) < 128 := by decide +kernel
theorem t3a : ∀ b, b < 256 → ∀ q, q < 5 → (g2 b + g2 b / 16 + 16 * q) &&& 15 = fb_ct b.testBit 8 := by decide +kernel
theorem t4a : ∀ p, p < 33 → ∀ q, q < 4 → (p + 64 * q) &&& 63 = p := by decide +kernel
theorem ct_w4 {a b c d : Nat} (h1 : a < 256) (h2 : b < 256) (h3 : c < 256) : fb_ct (w4 a b c d).testBit 32 = fb_ct a.testBit 8 + (fb_ct b.testBit 8 + (fb_ct c.testBit 8 + fb_ct d.testBit 8)) := by
  have st : ∀ u v k : Nat, v < 256 → fb_ct (256 * u + v).testBit (8 + k) = fb_ct v.testBit 8 + fb_ct u.testBit k := fun u v k hv => by
    rw [fb_ct_split]
    congr 1
    · refine fb_ct_cong (fun i hi => ?_)
      rw [show 256 = 2 ^ 8 from rfl, Nat.testBit_two_pow_mul_add _ hv, if_pos hi]
    · refine fb_ct_cong (fun i hi => ?_)
      rw [show 256 = 2 ^ 8 from rfl, Nat.testBit_two_pow_mul_add _ hv, if_neg (by omega), Nat.add_sub_cancel_left]
  unfold w4
  rw [show 32 = 8 + (8 + (8 + 8)) from rfl, st _ _ _ h1, st _ _ _ h2, st _ _ _ h3]
theorem bitCount_e (N : Nat) (s : Hp) (x : Int32) : f_J6_bitCount_0f7a4 N s x = some (nI (fb_ct (bt x) 32), s) := by
  obtain ⟨a, b, c, d, ha, hb, hc, hd, hx⟩ : ∃ a b c d, a < 256 ∧ b < 256 ∧ c < 256 ∧ d < 256 ∧ un x = w4 a b c d := by
    have := un_lt x
    refine ⟨un x % 256, un x / 256 % 256, un x / 65536 % 256, un x / 16777216, by omega, by omega, by omega, by omega, ?_⟩
    unfold w4
    omega
  have hbt : fb_ct (bt x) 32 = fb_ct a.testBit 8 + (fb_ct b.testBit 8 + (fb_ct c.testBit 8 + fb_ct d.testBit 8)) := by
    rw [← ct_w4 ha hb hc, ← hx]; rfl
  have m55 : un 1431655765 = w4 85 85 85 85 := by decide
  have m33 : un 858993459 = w4 51 51 51 51 := by decide
  have m0f : un 252645135 = w4 15 15 15 15 := by decide
  have m63 : un 63 = 63 := by decide
  obtain ⟨a1, a2⟩ := t1b a ha
  obtain ⟨b1, b2⟩ := t1b b hb
  obtain ⟨c1, c2⟩ := t1b c hc
  obtain ⟨d1, d2⟩ := t1b d hd
  have y1 : un (x - (ushr x 1 &&& 1431655765)) = w4 (g1 a) (g1 b) (g1 c) (g1 d) := by
    have e1 : un (ushr x 1 &&& 1431655765) = w4 ((a / 2) &&& 85) ((b / 2) &&& 85) ((c / 2) &&& 85) ((d / 2) &&& 85) := by
      rw [un_and, show ushr x 1 = ushr x (nI 1) from rfl, un_ushr x (by decide), hx, m55]
      rw [show w4 a b c d / 2 ^ 1 = w4 (a / 2 + 128 * (b % 2)) (b / 2 + 128 * (c % 2)) (c / 2 + 128 * (d % 2)) (d / 2) by unfold w4; omega]
      rw [w4_and (by omega) (by omega) (by omega) (by decide) (by decide) (by decide), t1a a ha _ (by omega), t1a b hb _ (by omega), t1a c hc _ (by omega)]
    rw [un_sub (by rw [e1, hx]; unfold w4; omega), e1, hx]
    unfold w4 g1
    omega
  generalize z1 : x - (ushr x 1 &&& 1431655765) = Y1 at y1
  obtain ⟨a3, a4, a5, a6, a7⟩ := t2b a ha
  obtain ⟨b3, b4, b5, b6, b7⟩ := t2b b hb
  obtain ⟨c3, c4, c5, c6, c7⟩ := t2b c hc
  obtain ⟨d3, d4, d5, d6, d7⟩ := t2b d hd
  have y2 : un ((Y1 &&& 858993459) + (ushr Y1 2 &&& 858993459)) = w4 (g2 a) (g2 b) (g2 c) (g2 d) := by
    have e1 : un (Y1 &&& 858993459) = w4 (g1 a &&& 51) (g1 b &&& 51) (g1 c &&& 51) (g1 d &&& 51) := by
      rw [un_and, y1, m33, w4_and a2 b2 c2 (by decide) (by decide) (by decide)]
    have e2 : un (ushr Y1 2 &&& 858993459) = w4 ((g1 a / 4) &&& 51) ((g1 b / 4) &&& 51) ((g1 c / 4) &&& 51) ((g1 d / 4) &&& 51) := by
      rw [un_and, show ushr Y1 2 = ushr Y1 (nI 2) from rfl, un_ushr Y1 (by decide), y1, m33]
      rw [show w4 (g1 a) (g1 b) (g1 c) (g1 d) / 2 ^ 2 = w4 (g1 a / 4 + 64 * (g1 b % 4)) (g1 b / 4 + 64 * (g1 c % 4)) (g1 c / 4 + 64 * (g1 d % 4)) (g1 d / 4) by unfold w4; omega]
      rw [w4_and (by omega) (by omega) (by omega) (by decide) (by decide) (by decide), t2a _ a2 _ (by omega), t2a _ b2 _ (by omega), t2a _ c2 _ (by omega)]
    rw [un_add (by rw [e1, e2]; unfold w4; omega), e1, e2]
    unfold w4 g2
    omega
  generalize z2 : (Y1 &&& 858993459) + (ushr Y1 2 &&& 858993459) = Y2 at y2
  have y3 : un ((Y2 + ushr Y2 4) &&& 252645135) = w4 (fb_ct a.testBit 8) (fb_ct b.testBit 8) (fb_ct c.testBit 8) (fb_ct d.testBit 8) := by
    have e1 : un (ushr Y2 4) = w4 (g2 a / 16 + 16 * (g2 b % 16)) (g2 b / 16 + 16 * (g2 c % 16)) (g2 c / 16 + 16 * (g2 d % 16)) (g2 d / 16) := by
      rw [show ushr Y2 4 = ushr Y2 (nI 4) from rfl, un_ushr Y2 (by decide), y2]
      unfold w4
      omega
    have e2 : un (Y2 + ushr Y2 4) = w4 (g2 a + g2 a / 16 + 16 * (g2 b % 16)) (g2 b + g2 b / 16 + 16 * (g2 c % 16)) (g2 c + g2 c / 16 + 16 * (g2 d % 16)) (g2 d + g2 d / 16 + 16 * 0) := by
      rw [un_add (by rw [e1, y2]; unfold w4; omega), e1, y2]
      unfold w4
      omega
    rw [un_and, e2, m0f, w4_and (by omega) (by omega) (by omega) (by decide) (by decide) (by decide), t3a a ha _ (by omega), t3a b hb _ (by omega), t3a c hc _ (by omega), t3a d hd _ (by omega)]
  generalize z3 : (Y2 + ushr Y2 4) &&& 252645135 = Y3 at y3
  generalize fb_ct a.testBit 8 = A at *
  generalize fb_ct b.testBit 8 = B at *
  generalize fb_ct c.testBit 8 = C at *
  generalize fb_ct d.testBit 8 = D at *
  have y4 : un (Y3 + ushr Y3 8) = w4 (A + B) (B + C) (C + D) D := by
    have e1 : un (ushr Y3 8) = w4 B C D 0 := by
      rw [show ushr Y3 8 = ushr Y3 (nI 8) from rfl, un_ushr Y3 (by decide), y3]
      unfold w4
      omega
    rw [un_add (by rw [e1, y3]; unfold w4; omega), e1, y3]
    unfold w4
    omega
  generalize z4 : Y3 + ushr Y3 8 = Y4 at y4
  have y5 : un (Y4 + ushr Y4 16) = w4 (A + B + C + D) (B + C + D) (C + D) D := by
    have e1 : un (ushr Y4 16) = w4 (C + D) D 0 0 := by
      rw [show ushr Y4 16 = ushr Y4 (nI 16) from rfl, un_ushr Y4 (by decide), y4]
      unfold w4
      omega
    rw [un_add (by rw [e1, y4]; unfold w4; omega), e1, y4]
    unfold w4
    omega
  generalize z5 : Y4 + ushr Y4 16 = Y5 at y5
  have y6 : un (Y5 &&& 63) = A + (B + (C + D)) := by
    rw [un_and, y5, m63, show (63 : Nat) = w4 63 0 0 0 from rfl, w4_and (by omega) (by omega) (by omega) (by decide) (by decide) (by decide), Nat.and_zero, Nat.and_zero, Nat.and_zero]
    have := t4a (A + B + C + D) (by omega) 0 (by decide)
    rw [Nat.mul_zero, Nat.add_zero] at this
    rw [this]
    unfold w4
    omega
  unfold f_J6_bitCount_0f7a4
  rw [vb_e, vb_e, vb_e, vb_e, vb_e, hbt, z1, z2, z3, z4, z5, un_eq y6]
