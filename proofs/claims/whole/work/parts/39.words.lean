/-! words: the class's spells, the model's pack -/
def alB (b : Nat → Int32) (p w : Nat) : Nat → Nat → Bool
  | 0, _ => true
  | k + 1, i => decide (b (p + i) = sAt w i) && alB b p w k (i + 1)
theorem sp_loop (N : Nat) {s : Hp} {b : Nat → Int32} {p : Nat} (h2 : s 24 2 = nI p) (h3 : s 25 = b) (hp : p + 4 ≤ 100) : ∀ k i m, i + k = 4 → k < m → lp (fun _ _ => none) (f_X8_spells_20 N) m s (nI i) = some (b01 (alB b p 0 k i), s)
  | k, i, 0, _, hm => absurd hm (Nat.not_lt_zero k)
  | 0, i, m + 1, hi, _ => by
    rw [lp_s]; unfold f_X8_spells_20
    rw [if_pos (show (4 : Int32) ≤ nI i from nI_le (a := 4) (by omega) (by omega))]; rfl
  | k + 1, i, m + 1, hi, hm => by
    have ih := sp_loop N h2 h3 hp k (i + 1) m (by omega) (by omega)
    have g1 : ¬ (4 : Int32) ≤ nI i := nI_ge (b := 4) (by omega) (by omega)
    rw [lp_s]
    generalize lp (fun _ _ => none) (f_X8_spells_20 N) m = S at ih ⊢
    unfold f_X8_spells_20 alB
    rw [if_neg g1, h2, nI_add, inR_nI (show p + i < 100 by omega) (by decide), ck_t, inR_nI (show i < 4 by omega) (by decide), ck_t, ix_nI (show p + i < 2 ^ 31 by omega), ix_nI (show i < 2 ^ 31 by omega), h3, vb_e, nI_1, ih]
    by_cases h : b (p + i) = sAt 0 i
    · rw [if_pos h, decide_eq_true h, Bool.true_and]
    · rw [if_neg h, decide_eq_false h, Bool.false_and]; rfl
theorem spells_e {N : Nat} (hN : 102 ≤ N) {s : Hp} {b : Nat → Int32} {p q : Nat} (h2 : s 24 2 = nI p) (h3 : s 25 = b) (hq : s 24 3 = nI q) (hpq : p ≤ q) (hq2 : q ≤ 100) : f_X8_spells N s = some (b01 (decide (q - p = 4) && alB b p 0 4 0), s) := by
  unfold f_X8_spells
  rw [h2, hq, pk_sub hpq]
  by_cases h : q - p = 4
  · rw [if_pos (show nI (q - p) = 4 by rw [h]; rfl), decide_eq_true h, Bool.true_and]
    exact sp_loop N h2 h3 (by omega) 4 0 N (by omega) (by omega)
  · rw [if_neg (show ¬ nI (q - p) = 4 from fun z => h ((nI_eq (by omega) (by decide)).mp (show nI (q - p) = nI 4 from z))), decide_eq_false h, Bool.false_and]; rfl
theorem sp_b_loop (N : Nat) {s : Hp} {b : Nat → Int32} {p : Nat} (h2 : s 24 2 = nI p) (h3 : s 25 = b) (hp : p + 4 ≤ 100) : ∀ k i m, i + k = 4 → k < m → lp (fun _ _ => none) (f_X8_spells_b_20 N) m s (nI i) = some (b01 (alB b p 1 k i), s)
  | k, i, 0, _, hm => absurd hm (Nat.not_lt_zero k)
  | 0, i, m + 1, hi, _ => by
    rw [lp_s]; unfold f_X8_spells_b_20
    rw [if_pos (show (4 : Int32) ≤ nI i from nI_le (a := 4) (by omega) (by omega))]; rfl
  | k + 1, i, m + 1, hi, hm => by
    have ih := sp_b_loop N h2 h3 hp k (i + 1) m (by omega) (by omega)
    have g1 : ¬ (4 : Int32) ≤ nI i := nI_ge (b := 4) (by omega) (by omega)
    rw [lp_s]
    generalize lp (fun _ _ => none) (f_X8_spells_b_20 N) m = S at ih ⊢
    unfold f_X8_spells_b_20 alB
    rw [if_neg g1, h2, nI_add, inR_nI (show p + i < 100 by omega) (by decide), ck_t, inR_nI (show i < 4 by omega) (by decide), ck_t, ix_nI (show p + i < 2 ^ 31 by omega), ix_nI (show i < 2 ^ 31 by omega), h3, vb_e, nI_1, ih]
    by_cases h : b (p + i) = sAt 1 i
    · rw [if_pos h, decide_eq_true h, Bool.true_and]
    · rw [if_neg h, decide_eq_false h, Bool.false_and]; rfl
theorem spells_b_e {N : Nat} (hN : 102 ≤ N) {s : Hp} {b : Nat → Int32} {p q : Nat} (h2 : s 24 2 = nI p) (h3 : s 25 = b) (hq : s 24 3 = nI q) (hpq : p ≤ q) (hq2 : q ≤ 100) : f_X8_spells_b N s = some (b01 (decide (q - p = 4) && alB b p 1 4 0), s) := by
  unfold f_X8_spells_b
  rw [h2, hq, pk_sub hpq]
  by_cases h : q - p = 4
  · rw [if_pos (show nI (q - p) = 4 by rw [h]; rfl), decide_eq_true h, Bool.true_and]
    exact sp_b_loop N h2 h3 (by omega) 4 0 N (by omega) (by omega)
  · rw [if_neg (show ¬ nI (q - p) = 4 from fun z => h ((nI_eq (by omega) (by decide)).mp (show nI (q - p) = nI 4 from z))), decide_eq_false h, Bool.false_and]; rfl
theorem sp_c_loop (N : Nat) {s : Hp} {b : Nat → Int32} {p : Nat} (h2 : s 24 2 = nI p) (h3 : s 25 = b) (hp : p + 4 ≤ 100) : ∀ k i m, i + k = 4 → k < m → lp (fun _ _ => none) (f_X8_spells_c_20 N) m s (nI i) = some (b01 (alB b p 2 k i), s)
  | k, i, 0, _, hm => absurd hm (Nat.not_lt_zero k)
  | 0, i, m + 1, hi, _ => by
    rw [lp_s]; unfold f_X8_spells_c_20
    rw [if_pos (show (4 : Int32) ≤ nI i from nI_le (a := 4) (by omega) (by omega))]; rfl
  | k + 1, i, m + 1, hi, hm => by
    have ih := sp_c_loop N h2 h3 hp k (i + 1) m (by omega) (by omega)
    have g1 : ¬ (4 : Int32) ≤ nI i := nI_ge (b := 4) (by omega) (by omega)
    rw [lp_s]
    generalize lp (fun _ _ => none) (f_X8_spells_c_20 N) m = S at ih ⊢
    unfold f_X8_spells_c_20 alB
    rw [if_neg g1, h2, nI_add, inR_nI (show p + i < 100 by omega) (by decide), ck_t, inR_nI (show i < 4 by omega) (by decide), ck_t, ix_nI (show p + i < 2 ^ 31 by omega), ix_nI (show i < 2 ^ 31 by omega), h3, vb_e, nI_1, ih]
    by_cases h : b (p + i) = sAt 2 i
    · rw [if_pos h, decide_eq_true h, Bool.true_and]
    · rw [if_neg h, decide_eq_false h, Bool.false_and]; rfl
theorem spells_c_e {N : Nat} (hN : 102 ≤ N) {s : Hp} {b : Nat → Int32} {p q : Nat} (h2 : s 24 2 = nI p) (h3 : s 25 = b) (hq : s 24 3 = nI q) (hpq : p ≤ q) (hq2 : q ≤ 100) : f_X8_spells_c N s = some (b01 (decide (q - p = 4) && alB b p 2 4 0), s) := by
  unfold f_X8_spells_c
  rw [h2, hq, pk_sub hpq]
  by_cases h : q - p = 4
  · rw [if_pos (show nI (q - p) = 4 by rw [h]; rfl), decide_eq_true h, Bool.true_and]
    exact sp_c_loop N h2 h3 (by omega) 4 0 N (by omega) (by omega)
  · rw [if_neg (show ¬ nI (q - p) = 4 from fun z => h ((nI_eq (by omega) (by decide)).mp (show nI (q - p) = nI 4 from z))), decide_eq_false h, Bool.false_and]; rfl
theorem sp_d_loop (N : Nat) {s : Hp} {b : Nat → Int32} {p : Nat} (h2 : s 24 2 = nI p) (h3 : s 25 = b) (hp : p + 3 ≤ 100) : ∀ k i m, i + k = 3 → k < m → lp (fun _ _ => none) (f_X8_spells_d_20 N) m s (nI i) = some (b01 (alB b p 3 k i), s)
  | k, i, 0, _, hm => absurd hm (Nat.not_lt_zero k)
  | 0, i, m + 1, hi, _ => by
    rw [lp_s]; unfold f_X8_spells_d_20
    rw [if_pos (show (3 : Int32) ≤ nI i from nI_le (a := 3) (by omega) (by omega))]; rfl
  | k + 1, i, m + 1, hi, hm => by
    have ih := sp_d_loop N h2 h3 hp k (i + 1) m (by omega) (by omega)
    have g1 : ¬ (3 : Int32) ≤ nI i := nI_ge (b := 3) (by omega) (by omega)
    rw [lp_s]
    generalize lp (fun _ _ => none) (f_X8_spells_d_20 N) m = S at ih ⊢
    unfold f_X8_spells_d_20 alB
    rw [if_neg g1, h2, nI_add, inR_nI (show p + i < 100 by omega) (by decide), ck_t, inR_nI (show i < 3 by omega) (by decide), ck_t, ix_nI (show p + i < 2 ^ 31 by omega), ix_nI (show i < 2 ^ 31 by omega), h3, vb_e, nI_1, ih]
    by_cases h : b (p + i) = sAt 3 i
    · rw [if_pos h, decide_eq_true h, Bool.true_and]
    · rw [if_neg h, decide_eq_false h, Bool.false_and]; rfl
theorem spells_d_e {N : Nat} (hN : 102 ≤ N) {s : Hp} {b : Nat → Int32} {p q : Nat} (h2 : s 24 2 = nI p) (h3 : s 25 = b) (hq : s 24 3 = nI q) (hpq : p ≤ q) (hq2 : q ≤ 100) : f_X8_spells_d N s = some (b01 (decide (q - p = 3) && alB b p 3 3 0), s) := by
  unfold f_X8_spells_d
  rw [h2, hq, pk_sub hpq]
  by_cases h : q - p = 3
  · rw [if_pos (show nI (q - p) = 3 by rw [h]; rfl), decide_eq_true h, Bool.true_and]
    exact sp_d_loop N h2 h3 (by omega) 3 0 N (by omega) (by omega)
  · rw [if_neg (show ¬ nI (q - p) = 3 from fun z => h ((nI_eq (by omega) (by decide)).mp (show nI (q - p) = nI 3 from z))), decide_eq_false h, Bool.false_and]; rfl
def wOf (b : Nat → Int32) (p q : Nat) : Int32 := if (decide (q - p = 4) && alB b p 0 4 0) = true then 0 else if (decide (q - p = 4) && alB b p 1 4 0) = true then 1 else if (decide (q - p = 4) && alB b p 2 4 0) = true then 2 else if (decide (q - p = 3) && alB b p 3 3 0) = true then 3 else -1
theorem wordOf_e {N : Nat} (hN : 102 ≤ N) {s : Hp} {b : Nat → Int32} {p q : Nat} (h2 : s 24 2 = nI p) (h3 : s 25 = b) (hq : s 24 3 = nI q) (hpq : p ≤ q) (hq2 : q ≤ 100) : f_X5_wordOf N s = some (wOf b p q, s) := by
  unfold f_X5_wordOf wOf
  rw [spells_e hN h2 h3 hq hpq hq2, bd_e, ifb]
  cases (decide (q - p = 4) && alB b p 0 4 0) with
  | true => rfl
  | false =>
    rw [cond_false, spells_b_e hN h2 h3 hq hpq hq2, bd_e, ifb, if_neg (by decide)]
    cases (decide (q - p = 4) && alB b p 1 4 0) with
    | true => rfl
    | false =>
      rw [cond_false, spells_c_e hN h2 h3 hq hpq hq2, bd_e, ifb, if_neg (by decide)]
      cases (decide (q - p = 4) && alB b p 2 4 0) with
      | true => rfl
      | false =>
        rw [cond_false, spells_d_e hN h2 h3 hq hpq hq2, bd_e, ifb, if_neg (by decide)]
        cases (decide (q - p = 3) && alB b p 3 3 0) <;> rfl
theorem wdF_v (v : Nat) : wdF v = 5 ∨ wdF v = 6 ∨ wdF v = 7 ∨ wdF v = 8 ∨ wdF v = 4 := by
  unfold wdF
  repeat' split
  · exact Or.inl rfl
  · exact Or.inr (Or.inl rfl)
  · exact Or.inr (Or.inr (Or.inl rfl))
  · exact Or.inr (Or.inr (Or.inr (Or.inl rfl)))
  · exact Or.inr (Or.inr (Or.inr (Or.inr rfl)))
theorem wcd_v (l v : Nat) : wcd l v = 5 ∨ wcd l v = 6 ∨ wcd l v = 7 ∨ wcd l v = 8 ∨ wcd l v = 4 := by
  unfold wcd
  by_cases h : l ≤ 4
  · rw [if_pos h]; exact wdF_v v
  · rw [if_neg h]; exact Or.inr (Or.inr (Or.inr (Or.inr rfl)))
theorem tK_v {b : Nat → Int32} (hb : ∀ i, vI 256 (b i)) (T a : Nat) : tK b T a = 0 ∨ tK b T a = 1 ∨ tK b T a = 2 ∨ tK b T a = 3 ∨ tK b T a = 4 ∨ tK b T a = 5 := by
  unfold tK
  by_cases h : T ≤ tS b T a
  · rw [if_pos h]; exact Or.inl rfl
  · rw [if_neg h]
    obtain ⟨j, hj, ej⟩ := hb (tS b T a)
    rw [ej]
    rcases (kn_all j hj).2.2.1 with k | k | ⟨_, k⟩ | ⟨_, k⟩ | ⟨_, _, k⟩
    · exact Or.inr (Or.inl k)
    · exact Or.inr (Or.inr (Or.inl k))
    · exact Or.inr (Or.inr (Or.inr (Or.inl k)))
    · exact Or.inr (Or.inr (Or.inr (Or.inr (Or.inl k))))
    · exact Or.inr (Or.inr (Or.inr (Or.inr (Or.inr k))))
theorem tM_iff {b : Nat → Int32} (hb : ∀ i, vI 256 (b i)) (T a : Nat) : (tM b T a = 1 ↔ tK b T a = 2) ∧ (tM b T a = 3 ↔ tK b T a = 3) ∧ (tM b T a = 2 ↔ tK b T a = 4) ∧ (tM b T a = 0 ↔ tK b T a = 0) ∧ (tK b T a ≠ 1 → ¬ 5 ≤ tM b T a) := by
  unfold tM
  rcases tK_v hb T a with k | k | k | k | k | k
  · rw [k, if_pos rfl]; decide
  · rw [k, if_neg (by decide), if_pos rfl]
    rcases wcd_v (tE b T a - tS b T a) (pkN b (tS b T a) (tE b T a - tS b T a)) with h | h | h | h | h <;> rw [h] <;> decide
  · rw [k, if_neg (by decide), if_neg (by decide), if_pos rfl]; decide
  · rw [k, if_neg (by decide), if_neg (by decide), if_neg (by decide), if_pos rfl]; decide
  · rw [k, if_neg (by decide), if_neg (by decide), if_neg (by decide), if_neg (by decide), if_pos rfl]; decide
  · rw [k, if_neg (by decide), if_neg (by decide), if_neg (by decide), if_neg (by decide), if_neg (by decide)]; decide
theorem nI_lit_eq {x : Nat} (hx : x < 2 ^ 31) (k : Nat) (hk : k < 2 ^ 31) : decide (nI x = nI k) = decide (x = k) := by
  rw [Bool.eq_iff_iff, decide_eq_true_iff, decide_eq_true_iff]
  exact nI_eq hx hk
theorem word_rel {b : Nat → Int32} (hb : ∀ i, vI 256 (b i)) {T a : Nat} (ha : a ≤ T) : (∃ w, w < 4 ∧ wOf b (tS b T a) (tE b T a) = nI w ∧ tM b T a = nI (5 + w)) ∨ (wOf b (tS b T a) (tE b T a) = -1 ∧ ¬ 5 ≤ tM b T a) := by
  by_cases hk : tK b T a = 1
  · have hlt : tS b T a < T := by
      unfold tK at hk
      by_cases z : T ≤ tS b T a
      · rw [if_pos z] at hk; exact absurd hk (by decide)
      · omega
    have hkn : knF (b (tS b T a)) = 1 := by
      unfold tK at hk
      rw [if_neg (by omega)] at hk
      exact hk
    have hE : tE b T a = run b 1 (T - (tS b T a + 1)) (tS b T a + 1) := by
      unfold tE
      rw [hk, if_neg (by decide), if_pos (Or.inl rfl)]
    have hM : tM b T a = wcd (tE b T a - tS b T a) (pkN b (tS b T a) (tE b T a - tS b T a)) := by
      unfold tM
      rw [hk, if_neg (by decide), if_pos rfl]
    have hrb := run_b b 1 (T - (tS b T a + 1)) (tS b T a + 1)
    have hin : ∀ i, i < tE b T a - tS b T a → knF (b (tS b T a + i)) = 1 := fun i hi => by
      by_cases e : i = 0
      · rw [e]; exact hkn
      · exact run_in b 1 (T - (tS b T a + 1)) (tS b T a + 1) (tS b T a + i) (by omega) (by rw [← hE]; omega)
    have hL : ∀ i, i < tE b T a - tS b T a → ∃ j, 65 ≤ j ∧ j < 123 ∧ b (tS b T a + i) = nI j := fun i hi => by
      obtain ⟨j, hj, ej⟩ := hb (tS b T a + i)
      have := (kn_all j hj).2.2.2.1 (by rw [← ej]; exact hin i hi)
      exact ⟨j, this.1, this.2, ej⟩
    rw [hM]
    have hge : tS b T a < tE b T a := by omega
    generalize hp : tS b T a = p at *
    generalize hq : tE b T a = q at *
    clear hE hrb hin hM hkn hlt hk hp hq
    by_cases h4 : q - p = 4
    · obtain ⟨x0, l0, u0, e0⟩ := hL 0 (by omega)
      obtain ⟨x1, l1, u1, e1⟩ := hL 1 (by omega)
      obtain ⟨x2, l2, u2, e2⟩ := hL 2 (by omega)
      obtain ⟨x3, l3, u3, e3⟩ := hL 3 (by omega)
      have epk : pkN b p 4 = 128 * (128 * (128 * (128 * 0 + x0) + x1) + x2) + x3 := by
        show 128 * (128 * (128 * (128 * 0 + ix (b (p + 0))) + ix (b (p + 1))) + ix (b (p + 2))) + ix (b (p + 3)) = _
        rw [e0, e1, e2, e3, ix_nI (by omega), ix_nI (by omega), ix_nI (by omega), ix_nI (by omega)]
      have al : ∀ w, alB b p w 4 0 = (decide (b (p + 0) = sAt w 0) && (decide (b (p + 1) = sAt w 1) && (decide (b (p + 2) = sAt w 2) && (decide (b (p + 3) = sAt w 3) && true)))) := fun w => rfl
      have a0 : alB b p 0 4 0 = decide (x0 = 99 ∧ x1 = 104 ∧ x2 = 97 ∧ x3 = 110) := by
        rw [al, e0, e1, e2, e3, show sAt 0 0 = nI 99 from rfl, show sAt 0 1 = nI 104 from rfl, show sAt 0 2 = nI 97 from rfl, show sAt 0 3 = nI 110 from rfl, nI_lit_eq (by omega) _ (by decide), nI_lit_eq (by omega) _ (by decide), nI_lit_eq (by omega) _ (by decide), nI_lit_eq (by omega) _ (by decide), Bool.eq_iff_iff]
        simp only [Bool.and_eq_true, decide_eq_true_iff, and_true]
      have a1 : alB b p 1 4 0 = decide (x0 = 116 ∧ x1 = 105 ∧ x2 = 109 ∧ x3 = 101) := by
        rw [al, e0, e1, e2, e3, show sAt 1 0 = nI 116 from rfl, show sAt 1 1 = nI 105 from rfl, show sAt 1 2 = nI 109 from rfl, show sAt 1 3 = nI 101 from rfl, nI_lit_eq (by omega) _ (by decide), nI_lit_eq (by omega) _ (by decide), nI_lit_eq (by omega) _ (by decide), nI_lit_eq (by omega) _ (by decide), Bool.eq_iff_iff]
        simp only [Bool.and_eq_true, decide_eq_true_iff, and_true]
      have a2 : alB b p 2 4 0 = decide (x0 = 116 ∧ x1 = 111 ∧ x2 = 110 ∧ x3 = 101) := by
        rw [al, e0, e1, e2, e3, show sAt 2 0 = nI 116 from rfl, show sAt 2 1 = nI 111 from rfl, show sAt 2 2 = nI 110 from rfl, show sAt 2 3 = nI 101 from rfl, nI_lit_eq (by omega) _ (by decide), nI_lit_eq (by omega) _ (by decide), nI_lit_eq (by omega) _ (by decide), nI_lit_eq (by omega) _ (by decide), Bool.eq_iff_iff]
        simp only [Bool.and_eq_true, decide_eq_true_iff, and_true]
      unfold wOf wcd wdF
      rw [h4, epk, a0, a1, a2, decide_eq_true (rfl : 4 = 4), decide_eq_false (show ¬ 4 = 3 by decide), Bool.true_and, Bool.true_and, Bool.true_and, Bool.false_and, if_pos (Nat.le_refl 4)]
      by_cases c0 : x0 = 99 ∧ x1 = 104 ∧ x2 = 97 ∧ x3 = 110
      · rw [if_pos (decide_eq_true c0), if_pos (show 128 * (128 * (128 * (128 * 0 + x0) + x1) + x2) + x3 = 209334510 by omega)]
        exact Or.inl ⟨0, by decide, rfl, rfl⟩
      · rw [if_neg (show ¬ decide (x0 = 99 ∧ x1 = 104 ∧ x2 = 97 ∧ x3 = 110) = true from fun z => c0 (of_decide_eq_true z)), if_neg (show ¬ 128 * (128 * (128 * (128 * 0 + x0) + x1) + x2) + x3 = 209334510 by omega)]
        by_cases c1 : x0 = 116 ∧ x1 = 105 ∧ x2 = 109 ∧ x3 = 101
        · rw [if_pos (decide_eq_true c1), if_pos (show 128 * (128 * (128 * (128 * 0 + x0) + x1) + x2) + x3 = 245004005 by omega)]
          exact Or.inl ⟨1, by decide, rfl, rfl⟩
        · rw [if_neg (show ¬ decide (x0 = 116 ∧ x1 = 105 ∧ x2 = 109 ∧ x3 = 101) = true from fun z => c1 (of_decide_eq_true z)), if_neg (show ¬ 128 * (128 * (128 * (128 * 0 + x0) + x1) + x2) + x3 = 245004005 by omega)]
          by_cases c2 : x0 = 116 ∧ x1 = 111 ∧ x2 = 110 ∧ x3 = 101
          · rw [if_pos (decide_eq_true c2), if_pos (show 128 * (128 * (128 * (128 * 0 + x0) + x1) + x2) + x3 = 245102437 by omega)]
            exact Or.inl ⟨2, by decide, rfl, rfl⟩
          · rw [if_neg (show ¬ decide (x0 = 116 ∧ x1 = 111 ∧ x2 = 110 ∧ x3 = 101) = true from fun z => c2 (of_decide_eq_true z)), if_neg (show ¬ 128 * (128 * (128 * (128 * 0 + x0) + x1) + x2) + x3 = 245102437 by omega), if_neg (show ¬ false = true by decide), if_neg (show ¬ 128 * (128 * (128 * (128 * 0 + x0) + x1) + x2) + x3 = 1619960 by omega)]
            exact Or.inr ⟨rfl, by decide⟩
    · by_cases h3 : q - p = 3
      · obtain ⟨x0, l0, u0, e0⟩ := hL 0 (by omega)
        obtain ⟨x1, l1, u1, e1⟩ := hL 1 (by omega)
        obtain ⟨x2, l2, u2, e2⟩ := hL 2 (by omega)
        have epk : pkN b p 3 = 128 * (128 * (128 * 0 + x0) + x1) + x2 := by
          show 128 * (128 * (128 * 0 + ix (b (p + 0))) + ix (b (p + 1))) + ix (b (p + 2)) = _
          rw [e0, e1, e2, ix_nI (by omega), ix_nI (by omega), ix_nI (by omega)]
        have a3 : alB b p 3 3 0 = decide (x0 = 98 ∧ x1 = 111 ∧ x2 = 120) := by
          show (decide (b (p + 0) = sAt 3 0) && (decide (b (p + 1) = sAt 3 1) && (decide (b (p + 2) = sAt 3 2) && true))) = _
          rw [e0, e1, e2, show sAt 3 0 = nI 98 from rfl, show sAt 3 1 = nI 111 from rfl, show sAt 3 2 = nI 120 from rfl, nI_lit_eq (by omega) _ (by decide), nI_lit_eq (by omega) _ (by decide), nI_lit_eq (by omega) _ (by decide), Bool.eq_iff_iff]
          simp only [Bool.and_eq_true, decide_eq_true_iff, and_true]
        unfold wOf wcd wdF
        rw [h3, epk, a3, decide_eq_false (show ¬ 3 = 4 by decide), Bool.false_and, Bool.false_and, Bool.false_and, if_neg (show ¬ false = true by decide), if_neg (show ¬ false = true by decide), if_neg (show ¬ false = true by decide), decide_eq_true (rfl : 3 = 3), Bool.true_and, if_pos (show 3 ≤ 4 by decide), if_neg (show ¬ 128 * (128 * (128 * 0 + x0) + x1) + x2 = 209334510 by omega), if_neg (show ¬ 128 * (128 * (128 * 0 + x0) + x1) + x2 = 245004005 by omega), if_neg (show ¬ 128 * (128 * (128 * 0 + x0) + x1) + x2 = 245102437 by omega)]
        by_cases c0 : x0 = 98 ∧ x1 = 111 ∧ x2 = 120
        · rw [if_pos (decide_eq_true c0), if_pos (show 128 * (128 * (128 * 0 + x0) + x1) + x2 = 1619960 by omega)]
          exact Or.inl ⟨3, by decide, rfl, rfl⟩
        · rw [if_neg (show ¬ decide (x0 = 98 ∧ x1 = 111 ∧ x2 = 120) = true from fun z => c0 (of_decide_eq_true z)), if_neg (show ¬ 128 * (128 * (128 * 0 + x0) + x1) + x2 = 1619960 by omega)]
          exact Or.inr ⟨rfl, by decide⟩
      · refine Or.inr ⟨?_, ?_⟩
        · unfold wOf
          rw [decide_eq_false h4, decide_eq_false h3, Bool.false_and, Bool.false_and, Bool.false_and, Bool.false_and]; rfl
        · unfold wcd
          by_cases h5 : q - p ≤ 4
          · have hpl := pkN_lt (b := b) (p := p) (q - p) (fun i hi => by obtain ⟨j, q1, q2, q3⟩ := hL i hi; rw [q3, ix_nI (by omega)]; omega)
            have : 128 ^ (min (q - p) 4) ≤ 128 ^ 2 := Nat.pow_le_pow_right (by decide) (by omega)
            have h16 : pkN b p (q - p) < 16384 := Nat.lt_of_lt_of_le hpl this
            unfold wdF
            rw [if_pos h5, if_neg (by omega), if_neg (by omega), if_neg (by omega), if_neg (by omega)]; decide
          · rw [if_neg h5]; decide
  · refine Or.inr ⟨?_, (tM_iff hb T a).2.2.2.2 hk⟩
    have nk : ∀ x : Int32, knF x = 1 → b (tS b T a) = x → 3 ≤ tE b T a - tS b T a → False := fun x hx hbx hlen => by
      have hS := tS_b (b := b) ha
      have hE := tE_b hb ha
      unfold tK at hk
      rw [if_neg (by omega), hbx] at hk
      exact hk hx
    unfold wOf
    have n0 : (decide (tE b T a - tS b T a = 4) && alB b (tS b T a) 0 4 0) = false := by
      rw [Bool.eq_false_iff]
      intro z
      rw [Bool.and_eq_true, decide_eq_true_iff] at z
      have z2 : (decide (b (tS b T a + 0) = sAt 0 0) && alB b (tS b T a) 0 3 1) = true := z.2
      rw [Bool.and_eq_true, decide_eq_true_iff] at z2
      exact nk (sAt 0 0) (by decide +kernel) z2.1 (by omega)
    have n1 : (decide (tE b T a - tS b T a = 4) && alB b (tS b T a) 1 4 0) = false := by
      rw [Bool.eq_false_iff]
      intro z
      rw [Bool.and_eq_true, decide_eq_true_iff] at z
      have z2 : (decide (b (tS b T a + 0) = sAt 1 0) && alB b (tS b T a) 1 3 1) = true := z.2
      rw [Bool.and_eq_true, decide_eq_true_iff] at z2
      exact nk (sAt 1 0) (by decide +kernel) z2.1 (by omega)
    have n2 : (decide (tE b T a - tS b T a = 4) && alB b (tS b T a) 2 4 0) = false := by
      rw [Bool.eq_false_iff]
      intro z
      rw [Bool.and_eq_true, decide_eq_true_iff] at z
      have z2 : (decide (b (tS b T a + 0) = sAt 2 0) && alB b (tS b T a) 2 3 1) = true := z.2
      rw [Bool.and_eq_true, decide_eq_true_iff] at z2
      exact nk (sAt 2 0) (by decide +kernel) z2.1 (by omega)
    have n3 : (decide (tE b T a - tS b T a = 3) && alB b (tS b T a) 3 3 0) = false := by
      rw [Bool.eq_false_iff]
      intro z
      rw [Bool.and_eq_true, decide_eq_true_iff] at z
      have z2 : (decide (b (tS b T a + 0) = sAt 3 0) && alB b (tS b T a) 3 2 1) = true := z.2
      rw [Bool.and_eq_true, decide_eq_true_iff] at z2
      exact nk (sAt 3 0) (by decide +kernel) z2.1 (by omega)
    rw [n0, n1, n2, n3]; rfl
