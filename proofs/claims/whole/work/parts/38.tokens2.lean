/-! the model's nextToken, and the words -/
theorem shl7 {v : Nat} (h : v < 2 ^ 21) : nI v <<< ((7 : Int32) &&& 31) = nI (128 * v) := by
  apply un_eq
  unfold un
  rw [Int32.toBitVec_shiftLeft]
  show ((nI v).toBitVec <<< ((nI 7 &&& 31).toBitVec.smod 32).toNat).toNat = _
  rw [s_l 7 (by decide), BitVec.toNat_shiftLeft]
  have e := un_nI (k := v) (by omega)
  unfold un at e
  rw [e, Nat.shiftLeft_eq]
  omega
theorem pack2 {v l : Nat} (h : v < 2 ^ 21) (hl : l < 128) : (nI v <<< ((7 : Int32) &&& 31)) ||| nI l = nI (128 * v + l) := by
  rw [shl7 h]
  exact fa_or_sum (k := 7) v hl
theorem pack_e (N : Nat) (s : Hp) {a b c d : Nat} (ha : a < 128) (hb : b < 128) (hc : c < 128) (hd : d < 128) : f_X10_pack N s (nI a) (nI b) (nI c) (nI d) = some (nI (128 * (128 * (128 * a + b) + c) + d), s) := by
  unfold f_X10_pack
  rw [pack2 (by omega) hb, pack2 (by omega) hc, pack2 (by omega) hd]
theorem see_e (N : Nat) {s : Hp} {T a : Nat} (hT : T ≤ 100) (ha : a ≤ T) (h : s 36 22 = nI T) : f_X10_see N s (nI a) = some (if T ≤ a then -1 else s 52 a, s) := by
  unfold f_X10_see
  rw [h]
  by_cases q : T ≤ a
  · rw [if_pos (nI_le q (by omega)), if_pos q]
  · rw [if_neg (nI_ge (by omega) (by omega)), if_neg q, inR_nI (by omega) (by decide), ck_t, ix_nI (by omega)]
theorem isDigit_e (N : Nat) (s : Hp) (v : Int32) : f_X10_isDigit N s v = some (b01 (btw 48 v 57), s) := by
  unfold f_X10_isDigit
  rw [isIn_e, bd_e, isB_b01, ck_t]
theorem isLetter_e (N : Nat) (s : Hp) (v : Int32) : f_X10_isLetter N s v = some (b01 (btw 97 v 122 || btw 65 v 90), s) := by
  unfold f_X10_isLetter f_X10_isLetter_22
  rw [isIn_e, bd_e, ifb]
  cases btw 97 v 122 with
  | true => rfl
  | false =>
    rw [cond_false, isIn_e, bd_e, ifb]
    cases btw 65 v 90 <;> rfl
def mvF (b : Nat → Int32) : Nat → Nat → Nat → Nat
  | 0, _, v => v
  | k + 1, a, v => if knF (b a) = 2 then mvF b k (a + 1) (if 100000 ≤ v then v else 10 * v + ix (b a) - 48) else v
/-- the class's value and the model's -/
def vRel (c m : Nat) : Prop := (c = m ∧ m < 10000) ∨ (c = 10000 ∧ 10000 ≤ m ∧ m < 1000000)
theorem vRel_F {b : Nat → Int32} (hb : ∀ i, vI 256 (b i)) : ∀ k a c m, vRel c m → vRel (cvF b k a c) (mvF b k a m)
  | 0, _, _, _, h => h
  | k + 1, a, c, m, h => by
    unfold cvF mvF
    by_cases q : knF (b a) = 2
    · obtain ⟨j, hj, ej⟩ := hb a
      have hd : 48 ≤ j ∧ j < 58 := (kn_all j hj).2.2.2.2 (by rw [← ej]; exact q)
      rw [if_pos q, if_pos q, ej, ix_nI (by omega)]
      refine vRel_F hb k (a + 1) _ _ ?_
      unfold vRel at h ⊢
      by_cases z : 100000 ≤ m
      · rw [if_pos z]; omega
      · rw [if_neg z]; omega
    · rw [if_neg q, if_neg q]; exact h
def kpJ (s t : Hp) : Prop := (∀ c, c ≠ 36 → t c = s c) ∧ ∀ j, j ≠ 27 → j ≠ 28 → j ≠ 29 → j ≠ 30 → t 36 j = s 36 j
theorem dig_loop (N : Nat) {b : Nat → Int32} (hb : ∀ i, vI 256 (b i)) {T : Nat} (hT : T ≤ 100) : ∀ k a m (s : Hp) v, a + k = T → k < m → s 36 22 = nI T → s 36 27 = nI a → s 36 30 = nI v → s 52 = b → v < 1000000 → ∃ t, lp (fun _ => none) (f_X10_nextToken_72 N) m s = some (0, t) ∧ t 36 27 = nI (run b 2 k a) ∧ t 36 30 = nI (mvF b k a v) ∧ t 36 28 = s 36 28 ∧ t 36 29 = s 36 29 ∧ kpJ s t
  | k, a, 0, s, v, _, hm, _, _, _, _, _ => absurd hm (Nat.not_lt_zero k)
  | 0, a, m + 1, s, v, ha, _, h1, h2, h3, h4, _ => by
    rw [lp_s]; unfold f_X10_nextToken_72
    rw [h2, see_e N hT (by omega) h1, bd_e, if_pos (by omega), isDigit_e, bd_e, if_pos (show b01 (btw 48 (-1) 57) = 0 by decide)]
    exact ⟨s, rfl, h2, h3, rfl, rfl, fun _ _ => rfl, fun _ _ _ _ _ => rfl⟩
  | k + 1, a, m + 1, s, v, ha, hm, h1, h2, h3, h4, hv => by
    have ih := fun s v => dig_loop N hb hT k (a + 1) m s v (by omega) (by omega)
    obtain ⟨j, hj, ej⟩ := hb a
    rw [lp_s]
    generalize lp (fun _ => none) (f_X10_nextToken_72 N) m = S at ih ⊢
    unfold f_X10_nextToken_72 f_X10_nextToken_118
    unfold run mvF
    rw [h2, see_e N hT (by omega) h1, bd_e, if_neg (show ¬ T ≤ a by omega), isDigit_e, bd_e, ifb, h4, ej, (kn_all j hj).1, h3, h2, see_e N hT (by omega) h1, bd_e, if_neg (show ¬ T ≤ a by omega), h4, ej]
    by_cases q : knF (nI j) = 2
    · have hd : 48 ≤ j ∧ j < 58 := (kn_all j hj).2.2.2.2 q
      rw [decide_eq_true q, cond_true, if_pos q, if_pos q]
      by_cases z : 100000 ≤ v
      · rw [if_pos (show (100000 : Int32) ≤ nI v from nI_le (a := 100000) z (by omega)), sb_e, nI_1, if_pos z]
        obtain ⟨t, e, r1, r2, r3, r4, r5⟩ := ih (hset s 36 27 (nI (a + 1))) v ((hs_slot (by decide)).trans h1) hs_same ((hs_slot (by decide)).trans h3) ((hset_d (by decide)).trans h4) hv
        exact ⟨t, e, r1, r2, by rw [r3, hs_slot (by decide)], by rw [r4, hs_slot (by decide)], fun c hc => by rw [r5.1 c hc, hset_d hc], fun j q1 q2 q3 q4 => by rw [r5.2 j q1 q2 q3 q4, hs_slot q1]⟩
      · rw [if_neg (show ¬ (100000 : Int32) ≤ nI v from nI_ge (b := 100000) (by omega) (by omega)), sb_e, sb_e, hs_slot (show (27 : Nat) ≠ 30 by decide), h2, nI_1, if_neg z, show (10 : Int32) = nI 10 from rfl, pk_mul, nI_add, show (48 : Int32) = nI 48 from rfl, pk_sub (by omega), ix_nI (show j < 2 ^ 31 by omega)]
        obtain ⟨t, e, r1, r2, r3, r4, r5⟩ := ih (hset (hset s 36 30 (nI (10 * v + j - 48))) 36 27 (nI (a + 1))) (10 * v + j - 48) ((hs_slot (by decide)).trans ((hs_slot (by decide)).trans h1)) hs_same ((hs_slot (by decide)).trans hs_same) ((hset_d (by decide)).trans ((hset_d (by decide)).trans h4)) (by omega)
        exact ⟨t, e, r1, r2, by rw [r3, hs_slot (by decide), hs_slot (by decide)], by rw [r4, hs_slot (by decide), hs_slot (by decide)], fun c hc => by rw [r5.1 c hc, hset_d hc, hset_d hc], fun j q1 q2 q3 q4 => by rw [r5.2 j q1 q2 q3 q4, hs_slot q1, hs_slot q4]⟩
    · rw [decide_eq_false q, cond_false, if_neg q, if_neg q]
      exact ⟨s, rfl, h2, h3, rfl, rfl, fun _ _ => rfl, fun _ _ _ _ _ => rfl⟩
def pkN (b : Nat → Int32) (p : Nat) : Nat → Nat
  | 0 => 0
  | j + 1 => if 4 ≤ j then pkN b p j else 128 * pkN b p j + ix (b (p + j))
theorem pkN_lt {b : Nat → Int32} {p : Nat} : ∀ j, (∀ i, i < j → ix (b (p + i)) < 128) → pkN b p j < 128 ^ (min j 4)
  | 0, _ => Nat.zero_lt_one
  | j + 1, h => by
    have ih := pkN_lt j (fun i hi => h i (by omega))
    have hj := h j (by omega)
    unfold pkN
    by_cases q : 4 ≤ j
    · rw [if_pos q, show min (j + 1) 4 = min j 4 by omega]; exact ih
    · rw [if_neg q, show min (j + 1) 4 = j + 1 by omega, Nat.pow_succ]
      rw [show min j 4 = j by omega] at ih
      omega
def wdF (v : Nat) : Int32 := if v = 209334510 then 5 else if v = 245004005 then 6 else if v = 245102437 then 7 else if v = 1619960 then 8 else 4
def wcd (len v : Nat) : Int32 := if len ≤ 4 then wdF v else 4
theorem wordM_e (N : Nat) (s : Hp) {v : Nat} (hv : v < 2 ^ 28) : f_X10_wordOf N s (nI v) = some (wdF v, s) := by
  have nq : ∀ w, w < 2 ^ 28 → (nI v = nI w ↔ v = w) := fun w hw => nI_eq (by omega) (by omega)
  unfold f_X10_wordOf wdF
  rw [show f_X10_pack N s 99 104 97 110 = _ from pack_e N s (a := 99) (b := 104) (c := 97) (d := 110) (by decide) (by decide) (by decide) (by decide), bd_e, show f_X10_pack N s 116 105 109 101 = _ from pack_e N s (a := 116) (b := 105) (c := 109) (d := 101) (by decide) (by decide) (by decide) (by decide), bd_e, show f_X10_pack N s 116 111 110 101 = _ from pack_e N s (a := 116) (b := 111) (c := 110) (d := 101) (by decide) (by decide) (by decide) (by decide), bd_e, show f_X10_pack N s 0 98 111 120 = _ from pack_e N s (a := 0) (b := 98) (c := 111) (d := 120) (by decide) (by decide) (by decide) (by decide), bd_e]
  rw [show 128 * (128 * (128 * 99 + 104) + 97) + 110 = 209334510 from rfl, show 128 * (128 * (128 * 116 + 105) + 109) + 101 = 245004005 from rfl, show 128 * (128 * (128 * 116 + 111) + 110) + 101 = 245102437 from rfl, show 128 * (128 * (128 * 0 + 98) + 111) + 120 = 1619960 from rfl]
  by_cases h1 : v = 209334510
  · rw [if_pos (by rw [h1]), if_pos h1]
  · rw [if_neg (fun z => h1 ((nq _ (by decide)).mp z)), if_neg h1]
    by_cases h2 : v = 245004005
    · rw [if_pos (by rw [h2]), if_pos h2]
    · rw [if_neg (fun z => h2 ((nq _ (by decide)).mp z)), if_neg h2]
      by_cases h3 : v = 245102437
      · rw [if_pos (by rw [h3]), if_pos h3]
      · rw [if_neg (fun z => h3 ((nq _ (by decide)).mp z)), if_neg h3]
        by_cases h4 : v = 1619960
        · rw [if_pos (by rw [h4]), if_pos h4]
        · rw [if_neg (fun z => h4 ((nq _ (by decide)).mp z)), if_neg h4]
theorem pow128 {j : Nat} (h : j ≤ 4) : 128 ^ j ≤ 2 ^ 28 := by
  have : 128 ^ j ≤ 128 ^ 4 := Nat.pow_le_pow_right (by decide) h
  exact this
theorem pow128' {j : Nat} (h : j ≤ 3) : 128 ^ j ≤ 2 ^ 21 := by
  have : 128 ^ j ≤ 128 ^ 3 := Nat.pow_le_pow_right (by decide) h
  exact this
theorem let_loop (N : Nat) {b : Nat → Int32} (hb : ∀ i, vI 256 (b i)) {T p : Nat} (hT : T ≤ 100) : ∀ k a m (s : Hp), a + k = T → k < m → p ≤ a → (∀ i, p ≤ i → i < a → knF (b i) = 1) → s 36 22 = nI T → s 36 27 = nI a → s 36 28 = nI p → s 52 = b → ∃ t, lp (fun _ _ => none) (f_X10_nextToken_140 N) m s (nI (pkN b p (a - p))) = some (0, t) ∧ t 36 27 = nI (run b 1 k a) ∧ t 36 28 = nI p ∧ t 36 29 = wcd (run b 1 k a - p) (pkN b p (run b 1 k a - p)) ∧ t 36 30 = s 36 30 ∧ kpJ s t
  | k, a, 0, s, _, hm, _, _, _, _, _, _ => absurd hm (Nat.not_lt_zero k)
  | 0, a, m + 1, s, ha, _, hp, hall, h1, h2, h3, h4 => by
    have lt128 : ∀ i, i < a - p → ix (b (p + i)) < 128 := fun i hi => by
      obtain ⟨j, hj, ej⟩ := hb (p + i)
      have := (kn_all j hj).2.2.2.1 (by rw [← ej]; exact hall (p + i) (by omega) (by omega))
      rw [ej, ix_nI (by omega)]; omega
    have hpl := pkN_lt (a - p) lt128
    have hp28 := pow128 (j := min (a - p) 4) (by omega)
    rw [lp_s]; unfold f_X10_nextToken_140 f_X10_nextToken_216
    rw [h2, see_e N hT (by omega) h1, bd_e, if_pos (show T ≤ a by omega), isLetter_e, bd_e, if_pos (show b01 (btw 97 (-1) 122 || btw 65 (-1) 90) = 0 by decide), h2, h3, pk_sub hp, wordM_e N s (by omega), bd_e, sb_e, sb_e]
    show ∃ t, (if nI (a - p) ≤ 4 then _ else _) = _ ∧ _
    have er : run b 1 0 a = a := rfl
    rw [er]
    unfold wcd
    by_cases q : a - p ≤ 4
    · rw [if_pos (show nI (a - p) ≤ 4 from nI_le (b := 4) q (by omega)), if_pos q]
      exact ⟨hset s 36 29 _, rfl, (hs_slot (by decide)).trans h2, (hs_slot (by decide)).trans h3, hs_same, hs_slot (by decide), fun c hc => hset_d hc, fun j q1 q2 q3 q4 => hs_slot q3⟩
    · rw [if_neg (show ¬ nI (a - p) ≤ 4 from nI_ge (a := 4) (by omega) (by omega)), if_neg q]
      exact ⟨hset s 36 29 _, rfl, (hs_slot (by decide)).trans h2, (hs_slot (by decide)).trans h3, hs_same, hs_slot (by decide), fun c hc => hset_d hc, fun j q1 q2 q3 q4 => hs_slot q3⟩
  | k + 1, a, m + 1, s, ha, hm, hp, hall, h1, h2, h3, h4 => by
    have ih := fun s => let_loop N hb (p := p) hT k (a + 1) m s (by omega) (by omega) (by omega)
    have lt128 : ∀ i, i < a - p → ix (b (p + i)) < 128 := fun i hi => by
      obtain ⟨j, hj, ej⟩ := hb (p + i)
      have := (kn_all j hj).2.2.2.1 (by rw [← ej]; exact hall (p + i) (by omega) (by omega))
      rw [ej, ix_nI (by omega)]; omega
    have hpl := pkN_lt (a - p) lt128
    have hp28 := pow128 (j := min (a - p) 4) (by omega)
    obtain ⟨j, hj, ej⟩ := hb a
    rw [lp_s]
    generalize lp (fun _ _ => none) (f_X10_nextToken_140 N) m = S at ih ⊢
    unfold f_X10_nextToken_140 f_X10_nextToken_216 f_X10_nextToken_181
    unfold run
    rw [h2, see_e N hT (by omega) h1, bd_e, if_neg (show ¬ T ≤ a by omega), isLetter_e, bd_e, ifb, h4, ej, (kn_all j hj).2.1, h2, h3, pk_sub hp, wordM_e N s (by omega), bd_e, sb_e, sb_e, see_e N hT (by omega) h1, bd_e, if_neg (show ¬ T ≤ a by omega), vb_e, h4, ej, sb_e, h2, nI_1]
    by_cases q : knF (nI j) = 1
    · have hd := (kn_all j hj).2.2.2.1 q
      rw [decide_eq_true q, cond_true, if_pos q]
      have hall' : ∀ i, p ≤ i → i < a + 1 → knF (b i) = 1 := fun i h1 h2 => by
        by_cases e : i = a
        · rw [e, ej]; exact q
        · exact hall i h1 (by omega)
      have ih' := ih (hset s 36 27 (nI (a + 1))) hall' ((hs_slot (by decide)).trans h1) hs_same ((hs_slot (by decide)).trans h3) ((hset_d (by decide)).trans h4)
      have epk : pkN b p (a + 1 - p) = if 4 ≤ a - p then pkN b p (a - p) else 128 * pkN b p (a - p) + j := by
        rw [show a + 1 - p = (a - p) + 1 by omega]
        show (if 4 ≤ a - p then _ else 128 * pkN b p (a - p) + ix (b (p + (a - p)))) = _
        rw [show p + (a - p) = a by omega, ej, ix_nI (by omega)]
      rw [epk] at ih'
      by_cases z : 4 ≤ a - p
      · rw [if_pos z] at ih'
        rw [if_pos (show (4 : Int32) ≤ nI (a - p) from nI_le (a := 4) z (by omega))]
        obtain ⟨t, e, r1, r2, r3, r4, r5⟩ := ih'
        exact ⟨t, e, r1, r2, r3, by rw [r4, hs_slot (by decide)], fun c hc => by rw [r5.1 c hc, hset_d hc], fun j q1 q2 q3 q4 => by rw [r5.2 j q1 q2 q3 q4, hs_slot q1]⟩
      · rw [if_neg z] at ih'
        have h21 := pow128' (j := min (a - p) 4) (by omega)
        rw [if_neg (show ¬ (4 : Int32) ≤ nI (a - p) from nI_ge (b := 4) (by omega) (by omega)), pack2 (by omega) (show j < 128 by omega)]
        obtain ⟨t, e, r1, r2, r3, r4, r5⟩ := ih'
        exact ⟨t, e, r1, r2, r3, by rw [r4, hs_slot (by decide)], fun c hc => by rw [r5.1 c hc, hset_d hc], fun j q1 q2 q3 q4 => by rw [r5.2 j q1 q2 q3 q4, hs_slot q1]⟩
    · rw [decide_eq_false q, cond_false, if_neg q]
      unfold wcd
      by_cases z : a - p ≤ 4
      · rw [if_pos (show nI (a - p) ≤ 4 from nI_le (b := 4) z (by omega)), if_pos z]
        exact ⟨hset s 36 29 _, rfl, (hs_slot (by decide)).trans h2, (hs_slot (by decide)).trans h3, hs_same, hs_slot (by decide), fun c hc => hset_d hc, fun j q1 q2 q3 q4 => hs_slot q3⟩
      · rw [if_neg (show ¬ nI (a - p) ≤ 4 from nI_ge (a := 4) (by omega) (by omega)), if_neg z]
        exact ⟨hset s 36 29 _, rfl, (hs_slot (by decide)).trans h2, (hs_slot (by decide)).trans h3, hs_same, hs_slot (by decide), fun c hc => hset_d hc, fun j q1 q2 q3 q4 => hs_slot q3⟩
theorem skM_loop (N : Nat) {b : Nat → Int32} {T : Nat} (hT : T ≤ 100) : ∀ k a m (s : Hp), a + k = T → k < m → s 36 22 = nI T → s 36 27 = nI a → s 52 = b → ∃ t, lp (fun _ => none) (f_X10_nextToken_0 N) m s = f_X10_nextToken_0 N (fun _ => none) t ∧ t 36 27 = nI (skp b k a) ∧ t 36 30 = s 36 30 ∧ kpJ s t
  | k, a, 0, s, _, hm, _, _, _ => absurd hm (Nat.not_lt_zero k)
  | 0, a, m + 1, s, ha, _, h1, h2, h3 => by
    rw [lp_s]
    refine ⟨s, ?_, h2, rfl, fun _ _ => rfl, fun _ _ _ _ _ => rfl⟩
    unfold f_X10_nextToken_0
    rw [h2, see_e N hT (by omega) h1, bd_e, bd_e, if_pos (show T ≤ a by omega), if_neg (show ¬ (-1 : Int32) = 32 by decide), if_neg (show ¬ (-1 : Int32) = 32 by decide)]
  | k + 1, a, m + 1, s, ha, hm, h1, h2, h3 => by
    have ih := fun s => skM_loop N (b := b) hT k (a + 1) m s (by omega) (by omega)
    rw [lp_s]
    generalize lp (fun _ => none) (f_X10_nextToken_0 N) m = S at ih ⊢
    unfold skp
    by_cases h : b a = 32
    · rw [if_pos h]
      have e0 : f_X10_nextToken_0 N S s = S (hset s 36 27 (nI (a + 1))) := by
        unfold f_X10_nextToken_0
        rw [h2, see_e N hT (by omega) h1, bd_e, if_neg (show ¬ T ≤ a by omega), h3, if_pos h, sb_e, h2, nI_1]
      rw [e0]
      obtain ⟨t, e, r1, r2, r3⟩ := ih (hset s 36 27 (nI (a + 1))) ((hs_slot (by decide)).trans h1) hs_same ((hset_d (by decide)).trans h3)
      exact ⟨t, e, r1, by rw [r2, hs_slot (by decide)], fun c hc => by rw [r3.1 c hc, hset_d hc], fun j q1 q2 q3 q4 => by rw [r3.2 j q1 q2 q3 q4, hs_slot q1]⟩
    · rw [if_neg h]
      refine ⟨s, ?_, h2, rfl, fun _ _ => rfl, fun _ _ _ _ _ => rfl⟩
      unfold f_X10_nextToken_0
      rw [h2, see_e N hT (by omega) h1, bd_e, bd_e, if_neg (show ¬ T ≤ a by omega), h3, if_neg h, if_neg h]
/-- the model's token at a -/
def tM (b : Nat → Int32) (T a : Nat) : Int32 := if tK b T a = 0 then 0 else if tK b T a = 1 then wcd (tE b T a - tS b T a) (pkN b (tS b T a) (tE b T a - tS b T a)) else if tK b T a = 2 then 1 else if tK b T a = 3 then 3 else if tK b T a = 4 then 2 else 4
theorem next_e {N : Nat} (hN : 102 ≤ N) {b : Nat → Int32} (hb : ∀ i, vI 256 (b i)) {T a : Nat} (hT : T ≤ 100) (ha : a ≤ T) {s : Hp} (h1 : s 36 22 = nI T) (h2 : s 36 27 = nI a) (h3 : s 52 = b) : ∃ t, f_X10_nextToken N s = some (0, t) ∧ t 36 28 = nI (tS b T a) ∧ t 36 27 = nI (tE b T a) ∧ t 36 29 = tM b T a ∧ (tK b T a = 2 → ∃ v, t 36 30 = nI v ∧ vRel (tV b T a) v) ∧ kpJ s t := by
  have hS := tS_b (b := b) ha
  obtain ⟨w, e, w2, w30, wk⟩ := skM_loop N (b := b) hT (T - a) a N s (by omega) (by omega) h1 h2 h3
  have w22 : w 36 22 = nI T := by rw [wk.2 22 (by decide) (by decide) (by decide) (by decide)]; exact h1
  have w52 : w 52 = b := by rw [wk.1 52 (by decide)]; exact h3
  have e0 : f_X10_nextToken N s = f_X10_nextToken_0 N (fun _ => none) w := e
  rw [e0]
  clear e0 e
  have w27 : w 36 27 = nI (tS b T a) := w2
  have hne : tS b T a < T → b (tS b T a) ≠ 32 := fun h => skp_n b (T - a) a (by unfold tS at h; omega)
  have kp2 : ∀ (x : Int32) (u : Hp), kpJ (hset w 36 28 x) u → kpJ s u := fun x u hu => ⟨fun c hc => by rw [hu.1 c hc, hset_d hc, wk.1 c hc], fun j q1 q2 q3 q4 => by rw [hu.2 j q1 q2 q3 q4, hs_slot q2, wk.2 j q1 q2 q3 q4]⟩
  unfold f_X10_nextToken_0
  rw [w27, see_e N hT hS.2 w22, bd_e]
  rw [if_neg (show ¬ (if T ≤ tS b T a then (-1 : Int32) else w 52 (tS b T a)) = 32 from fun z => by
    by_cases q : T ≤ tS b T a
    · rw [if_pos q] at z; exact absurd z (by decide)
    · rw [if_neg q, w52] at z; exact hne (by omega) z)]
  rw [sb_e, hs_slot (show (27 : Nat) ≠ 28 by decide), w27]
  generalize hx : hset w 36 28 (nI (tS b T a)) = x at kp2
  have x22 : x 36 22 = nI T := by rw [← hx, hs_slot (by decide)]; exact w22
  have x27 : x 36 27 = nI (tS b T a) := by rw [← hx, hs_slot (by decide)]; exact w27
  have x28 : x 36 28 = nI (tS b T a) := by rw [← hx, hs_same]
  have x52 : x 52 = b := by rw [← hx, hset_d (by decide)]; exact w52
  have kpx : ∀ u : Hp, kpJ x u → kpJ s u := fun u hu => by rw [← hx] at hu; exact kp2 _ u (by rw [hx] at hu ⊢; exact hu)
  rw [see_e N hT hS.2 x22, bd_e]
  unfold tM tE tK
  by_cases q : T ≤ tS b T a
  · rw [if_pos q, if_neg (show ¬ (0 : Int32) ≤ -1 by decide), sb_e, if_pos q, if_pos rfl, if_pos rfl]
    exact ⟨hset x 36 29 0, rfl, (hs_slot (by decide)).trans x28, (hs_slot (by decide)).trans x27, hs_same, fun z => absurd z (by decide), kpx _ ⟨fun c hc => hset_d hc, fun j q1 q2 q3 q4 => hs_slot q3⟩⟩
  · rw [if_neg q, if_neg q, x52]
    obtain ⟨j, hj, ej⟩ := hb (tS b T a)
    obtain ⟨k1, k2, k3, k4, k5⟩ := kn_all j hj
    have k0 := kn_ne0 j hj
    rw [← ej] at k1 k2 k3 k4 k5 k0
    rw [if_neg k0, if_neg k0, if_pos (show (0 : Int32) ≤ b (tS b T a) by rw [ej, i_le, i_0, nI_toInt (by omega)]; omega), isDigit_e, bd_e, ifb, isLetter_e, bd_e, ifb, k1, k2, sb_e, sb_e]
    have oth : ∀ c : Int32, ∃ t, f_X10_nextToken_244 N x c = some (0, t) ∧ t 36 28 = nI (tS b T a) ∧ t 36 27 = nI (tS b T a + 1) ∧ t 36 29 = c ∧ kpJ s t := fun c => by
      unfold f_X10_nextToken_244
      rw [sb_e, sb_e, hs_slot (show (27 : Nat) ≠ 29 by decide), x27, nI_1]
      exact ⟨_, rfl, (hs_slot (by decide)).trans ((hs_slot (by decide)).trans x28), hs_same, (hs_slot (by decide)).trans hs_same, kpx _ ⟨fun c hc => by rw [hset_d hc, hset_d hc], fun j q1 q2 q3 q4 => by rw [hs_slot q1, hs_slot q3]⟩⟩
    rcases k3 with k | k | ⟨kv, k⟩ | ⟨kv, k⟩ | ⟨kv1, kv2, k⟩
    · rw [k, decide_eq_false (show ¬ (1 : Int32) = 2 by decide), cond_false, decide_eq_true (rfl : (1 : Int32) = 1), cond_true, if_pos (Or.inl rfl), if_pos rfl]
      have hrun : run b 1 (T - tS b T a) (tS b T a) = run b 1 (T - (tS b T a + 1)) (tS b T a + 1) := by
        rw [show T - tS b T a = (T - (tS b T a + 1)) + 1 by omega]
        show (if knF (b (tS b T a)) = 1 then _ else _) = _
        rw [if_pos k]
      have ll := let_loop N hb (p := tS b T a) hT (T - tS b T a) (tS b T a) N x (by omega) (by omega) (Nat.le_refl _) (fun i h1 h2 => by omega) x22 x27 x28 x52
      rw [Nat.sub_self, hrun] at ll
      obtain ⟨t, e, r1, r2, r3, r4, r5⟩ := ll
      exact ⟨t, e, r2, r1, r3, fun z => absurd z (by decide), kpx t r5⟩
    · rw [k, decide_eq_true (rfl : (2 : Int32) = 2), cond_true, if_pos (Or.inr rfl), if_neg (show ¬ (2 : Int32) = 1 by decide), if_pos rfl]
      have hrun : run b 2 (T - tS b T a) (tS b T a) = run b 2 (T - (tS b T a + 1)) (tS b T a + 1) := by
        rw [show T - tS b T a = (T - (tS b T a + 1)) + 1 by omega]
        show (if knF (b (tS b T a)) = 2 then _ else _) = _
        rw [if_pos k]
      have dl := dig_loop N hb hT (T - tS b T a) (tS b T a) N (hset (hset x 36 29 1) 36 30 0) 0 (by omega) (by omega) ((hs_slot (by decide)).trans ((hs_slot (by decide)).trans x22)) ((hs_slot (by decide)).trans ((hs_slot (by decide)).trans x27)) hs_same ((hset_d (by decide)).trans ((hset_d (by decide)).trans x52)) (by decide)
      rw [hrun] at dl
      obtain ⟨t, e, r1, r2, r3, r4, r5⟩ := dl
      refine ⟨t, e, ?_, r1, ?_, fun _ => ⟨_, r2, ?_⟩, kpx t ⟨fun c hc => by rw [r5.1 c hc, hset_d hc, hset_d hc], fun j q1 q2 q3 q4 => by rw [r5.2 j q1 q2 q3 q4, hs_slot q4, hs_slot q3]⟩⟩
      · rw [r3, hs_slot (by decide), hs_slot (by decide)]; exact x28
      · rw [r4, hs_slot (by decide), hs_same]
      · exact vRel_F hb _ _ 0 0 (Or.inl ⟨rfl, by decide⟩)
    · rw [k, decide_eq_false (show ¬ (3 : Int32) = 2 by decide), cond_false, decide_eq_false (show ¬ (3 : Int32) = 1 by decide), cond_false, kv, if_neg (show ¬ (45 : Int32) = 59 by decide), if_pos rfl, if_neg (by decide), if_neg (by decide), if_neg (by decide), if_pos rfl]
      obtain ⟨t, e, r1, r2, r3, r4⟩ := oth 3
      exact ⟨t, e, r1, r2, r3, fun z => absurd z (by decide), r4⟩
    · rw [k, decide_eq_false (show ¬ (4 : Int32) = 2 by decide), cond_false, decide_eq_false (show ¬ (4 : Int32) = 1 by decide), cond_false, kv, if_pos rfl, if_neg (by decide), if_neg (by decide), if_neg (by decide), if_neg (by decide), if_pos rfl]
      obtain ⟨t, e, r1, r2, r3, r4⟩ := oth 2
      exact ⟨t, e, r1, r2, r3, fun z => absurd z (by decide), r4⟩
    · rw [k, decide_eq_false (show ¬ (5 : Int32) = 2 by decide), cond_false, decide_eq_false (show ¬ (5 : Int32) = 1 by decide), cond_false, if_neg (by rw [ej]; rw [ej] at kv2; exact kv2), if_neg (by rw [ej]; rw [ej] at kv1; exact kv1), if_neg (by decide), if_neg (by decide), if_neg (by decide), if_neg (by decide), if_neg (by decide)]
      obtain ⟨t, e, r1, r2, r3, r4⟩ := oth 4
      exact ⟨t, e, r1, r2, r3, fun z => absurd z (by decide), r4⟩
