/-! heard, silent, unseen: holds, wasListened, sortOf, stateAt, changeBehind; about -/
def exF (p : Nat → Bool) : Nat → Nat → Bool
  | 0, _ => false
  | k + 1, i => p i || exF p k (i + 1)
theorem exF_0 (p : Nat → Bool) (i : Nat) : exF p 0 i = false := rfl
theorem exF_s (p : Nat → Bool) (k i : Nat) : exF p (k + 1) i = (p i || exF p k (i + 1)) := rfl
theorem exF_iff (p : Nat → Bool) : ∀ k i, exF p k i = true ↔ ∃ j, i ≤ j ∧ j < i + k ∧ p j = true
  | 0, i => ⟨fun h => (by cases h), fun ⟨j, h1, h2, _⟩ => (by omega)⟩
  | k + 1, i => by
    unfold exF
    rw [Bool.or_eq_true, exF_iff p k (i + 1)]
    constructor
    · rintro (h | ⟨j, h1, h2, h3⟩)
      · exact ⟨i, Nat.le_refl _, by omega, h⟩
      · exact ⟨j, by omega, by omega, h3⟩
    · rintro ⟨j, h1, h2, h3⟩
      by_cases e : j = i
      · subst e; exact Or.inl h3
      · exact Or.inr ⟨j, by omega, by omega, h3⟩
theorem exF_cong {p q : Nat → Bool} {k i : Nat} (h : ∀ j, i ≤ j → j < i + k → p j = q j) : exF p k i = exF q k i := by
  rw [Bool.eq_iff_iff, exF_iff, exF_iff]
  constructor
  · rintro ⟨j, h1, h2, h3⟩; exact ⟨j, h1, h2, by rw [← h j h1 h2]; exact h3⟩
  · rintro ⟨j, h1, h2, h3⟩; exact ⟨j, h1, h2, by rw [h j h1 h2]; exact h3⟩
def inB (C F T : Nat → Int32) (c t : Int32) : Nat → Bool := fun j => decide (C j = c ∧ F j ≤ t ∧ t ≤ T j)
theorem inB_cases {C F T : Nat → Int32} {c t : Int32} {j : Nat} : inB C F T c t j = if C j = c then (if t < F j then false else if T j < t then false else true) else false := by
  unfold inB
  by_cases h1 : C j = c
  · rw [if_pos h1]
    by_cases h2 : t < F j
    · rw [if_pos h2, decide_eq_false]; intro q; rw [i_lt] at h2; rw [i_le, i_le] at q; omega
    · rw [if_neg h2]
      by_cases h3 : T j < t
      · rw [if_pos h3, decide_eq_false]; intro q; rw [i_lt] at h3; rw [i_le, i_le] at q; omega
      · rw [if_neg h3, decide_eq_true]; rw [i_le, i_le]; rw [i_lt] at h2 h3; exact ⟨h1, by omega, by omega⟩
  · rw [if_neg h1, decide_eq_false]; exact fun q => h1 q.1
theorem holds_loop (N : Nat) (s : Hp) (c t : Int32) {n : Nat} (h : s 10 4 = nI n) (hn : n ≤ 60) : ∀ k i m, i + k = n → k < m → lp (fun _ _ _ _ => none) (f_X7_holds_2 N) m s c t (nI i) = some (b01 (exF (inB (s 12) (s 13) (s 14) c t) k i), s)
  | k, i, 0, _, hm => absurd hm (Nat.not_lt_zero k)
  | 0, i, m + 1, hi, _ => by
    rw [lp_s]; unfold f_X7_holds_2
    rw [h, if_pos (nI_le (by omega) (by omega))]; rfl
  | k + 1, i, m + 1, hi, hm => by
    have ih := holds_loop N s c t h hn k (i + 1) m (by omega) (by omega)
    have g1 : ¬ nI n ≤ nI i := nI_ge (by omega) (by omega)
    have g2 : inR (nI i) 60 = true := inR_nI (by omega) (by decide)
    have g3 : ix (nI i) = i := ix_nI (by omega)
    rw [lp_s]
    generalize lp (fun _ _ _ _ => none) (f_X7_holds_2 N) m = S at ih ⊢
    unfold f_X7_holds_2 f_X7_holds_42 exF
    rw [h, if_neg g1, g2, ck_t, ck_t, ck_t, g3, vb_e, nI_1, ih, inB_cases]
    by_cases h1 : s 12 i = c
    · rw [if_pos h1, if_pos h1]
      by_cases h2 : t < s 13 i
      · rw [if_pos h2, if_pos h2, Bool.false_or]
      · rw [if_neg h2, if_neg h2]
        by_cases h3 : s 14 i < t
        · rw [if_pos h3, if_pos h3, Bool.false_or]
        · rw [if_neg h3, if_neg h3, Bool.true_or]; rfl
    · rw [if_neg h1, if_neg h1, Bool.false_or]
theorem holdsb_loop (N : Nat) (s : Hp) (c t : Int32) {n : Nat} (h : s 4 4 = nI n) (hn : n ≤ 100) : ∀ k i m, i + k = n → k < m → lp (fun _ _ _ _ => none) (f_X7_holds_b_2 N) m s c t (nI i) = some (b01 (exF (inB (s 6) (s 7) (s 8) c t) k i), s)
  | k, i, 0, _, hm => absurd hm (Nat.not_lt_zero k)
  | 0, i, m + 1, hi, _ => by
    rw [lp_s]; unfold f_X7_holds_b_2
    rw [h, if_pos (nI_le (by omega) (by omega))]; rfl
  | k + 1, i, m + 1, hi, hm => by
    have ih := holdsb_loop N s c t h hn k (i + 1) m (by omega) (by omega)
    have g1 : ¬ nI n ≤ nI i := nI_ge (by omega) (by omega)
    have g2 : inR (nI i) 100 = true := inR_nI (by omega) (by decide)
    have g3 : ix (nI i) = i := ix_nI (by omega)
    rw [lp_s]
    generalize lp (fun _ _ _ _ => none) (f_X7_holds_b_2 N) m = S at ih ⊢
    unfold f_X7_holds_b_2 f_X7_holds_b_42 exF
    rw [h, if_neg g1, g2, ck_t, ck_t, ck_t, g3, vb_e, nI_1, ih, inB_cases]
    by_cases h1 : s 6 i = c
    · rw [if_pos h1, if_pos h1]
      by_cases h2 : t < s 7 i
      · rw [if_pos h2, if_pos h2, Bool.false_or]
      · rw [if_neg h2, if_neg h2]
        by_cases h3 : s 8 i < t
        · rw [if_pos h3, if_pos h3, Bool.false_or]
        · rw [if_neg h3, if_neg h3, Bool.true_or]; rfl
    · rw [if_neg h1, if_neg h1, Bool.false_or]
def stF (s : Hp) (c t : Int32) : Int32 := if exF (inB (s 44) (s 45) (s 46) c t) (nM s) 0 = true then 0 else if exF (inB (s 40) (s 41) (s 42) c t) (nL s) 0 = true then 1 else 2
theorem stateAt_e {N : Nat} (hN : 101 ≤ N) {s : Hp} (p2 : E2 s) (p3 : E3 s) (c t : Int32) : f_X9_stateAt N s c t = some (stF s c t, s) := by
  have h1 : f_X7_holds N s c t = _ := holds_loop N s c t (p3.1.trans p3.2.2.2.2.2.2.2.1) p3.2.2.2.2.2.2.2.2.1 (nM s) 0 N (by omega) (by have := p3.2.2.2.2.2.2.2.2.1; omega)
  have h2 : f_X7_holds_b N s c t = _ := holdsb_loop N s c t (p2.1.trans p2.2.2.2.2.2.1) p2.2.2.2.2.2.2.1 (nL s) 0 N (by omega) (by have := p2.2.2.2.2.2.2.1; omega)
  rw [p3.2.2.1, p3.2.2.2.1, p3.2.2.2.2.1] at h1
  rw [p2.2.2.1, p2.2.2.2.1, p2.2.2.2.2.1] at h2
  unfold f_X9_stateAt stF
  rw [h1, bd_e, ifb, h2]
  cases exF (inB (s 44) (s 45) (s 46) c t) (nM s) 0 with
  | true => rfl
  | false =>
    rw [cond_false, bd_e, ifb]
    cases exF (inB (s 40) (s 41) (s 42) c t) (nL s) 0 <;> rfl
theorem btw_inB {C F T : Nat → Int32} {c t : Int32} {j : Nat} : inB C F T c t j = (decide (C j = c) && btw (F j) t (T j)) := by
  unfold inB btw
  rw [Bool.eq_iff_iff, decide_eq_true_iff, Bool.and_eq_true, decide_eq_true_iff, decide_eq_true_iff, i_le, i_le]
theorem was_loop (N : Nat) (s : Hp) (a c t : Int32) {n : Nat} (h : s 36 3 = nI n) (hn : n ≤ 100) : ∀ k i m, i + k = n → k < m → lp (fun _ _ _ _ _ => none) (f_X10_wasListened_3 N) m s a c t (nI i) = some (b01 (exF (fun j => (decide (a < 0) || decide (s 39 j = a)) && inB (s 40) (s 41) (s 42) c t j) k i), s)
  | k, i, 0, _, hm => absurd hm (Nat.not_lt_zero k)
  | 0, i, m + 1, hi, _ => by
    rw [lp_s]; unfold f_X10_wasListened_3
    rw [h, if_pos (nI_le (by omega) (by omega))]; rfl
  | k + 1, i, m + 1, hi, hm => by
    have ih := was_loop N s a c t h hn k (i + 1) m (by omega) (by omega)
    have g1 : ¬ nI n ≤ nI i := nI_ge (by omega) (by omega)
    have g2 : inR (nI i) 100 = true := inR_nI (by omega) (by decide)
    have g3 : ix (nI i) = i := ix_nI (by omega)
    rw [lp_s]
    generalize lp (fun _ _ _ _ _ => none) (f_X10_wasListened_3 N) m = S at ih ⊢
    unfold f_X10_wasListened_3
    have e61 : ∀ u : Hp, f_X10_wasListened_61 N S u a c t (nI i) = S u a c t (nI (i + 1)) := fun u => by
      unfold f_X10_wasListened_61
      rw [vb_e, nI_1]
    have e27 : f_X10_wasListened_27 N S s a c t (nI i) = if inB (s 40) (s 41) (s 42) c t i = true then some (1, s) else S s a c t (nI (i + 1)) := by
      unfold f_X10_wasListened_27
      rw [g2, ck_t, ck_t, ck_t, g3, isIn_e, bd_e, ifb, e61, btw_inB]
      by_cases h1 : s 40 i = c
      · rw [if_pos h1, decide_eq_true h1, Bool.true_and]
        cases btw (s 41 i) t (s 42 i) <;> rfl
      · rw [if_neg h1, decide_eq_false h1, Bool.false_and]; rfl
    unfold exF
    rw [h, if_neg g1, g2, ck_t, g3, e27, e61, ih]
    by_cases h1 : a < 0
    · rw [if_pos h1, decide_eq_true h1, Bool.true_or, Bool.true_and]
      cases inB (s 40) (s 41) (s 42) c t i <;> rfl
    · rw [if_neg h1, decide_eq_false h1, Bool.false_or]
      by_cases h2 : s 39 i = a
      · rw [if_pos h2, decide_eq_true h2, Bool.true_and]
        cases inB (s 40) (s 41) (s 42) c t i <;> rfl
      · rw [if_neg h2, decide_eq_false h2, Bool.false_and, Bool.false_or]
theorem was_e {N : Nat} (hN : 101 ≤ N) {s : Hp} (p2 : E2 s) (a c t : Int32) : f_X10_wasListened N s a c t = some (b01 (exF (fun j => (decide (a < 0) || decide (s 39 j = a)) && inB (s 40) (s 41) (s 42) c t j) (nL s) 0), s) :=
  was_loop N s a c t p2.2.2.2.2.2.1 p2.2.2.2.2.2.2.1 (nL s) 0 N (by omega) (by have := p2.2.2.2.2.2.2.1; omega)
theorem sort_loop {N : Nat} (hN : 101 ≤ N) {s : Hp} (p2 : E2 s) (p3 : E3 s) (c t : Int32) : ∀ k i m, i + k = nM s → k < m → lp (fun _ _ _ _ => none) (f_X10_sortOf_2 N) m s c t (nI i) = some (if exF (inB (s 44) (s 45) (s 46) c t) k i = true then 0 else if exF (inB (s 40) (s 41) (s 42) c t) (nL s) 0 = true then 1 else 2, s)
  | k, i, 0, _, hm => absurd hm (Nat.not_lt_zero k)
  | 0, i, m + 1, hi, _ => by
    have h60 := p3.2.2.2.2.2.2.2.2.1
    rw [lp_s]; unfold f_X10_sortOf_2
    rw [p3.2.2.2.2.2.2.2.1, if_pos (nI_le (by omega) (by omega)), was_e hN p2, bd_e, ifb]
    have e : exF (fun j => (decide ((-1 : Int32) < 0) || decide (s 39 j = -1)) && inB (s 40) (s 41) (s 42) c t j) (nL s) 0 = exF (inB (s 40) (s 41) (s 42) c t) (nL s) 0 := exF_cong (fun j _ _ => by rw [decide_eq_true (show (-1 : Int32) < 0 by decide), Bool.true_or, Bool.true_and])
    rw [e, exF_0]
    cases exF (inB (s 40) (s 41) (s 42) c t) (nL s) 0 <;> rfl
  | k + 1, i, m + 1, hi, hm => by
    have h60 := p3.2.2.2.2.2.2.2.2.1
    have ih := sort_loop hN p2 p3 c t k (i + 1) m (by omega) (by omega)
    have g1 : ¬ nI (nM s) ≤ nI i := nI_ge (by omega) (by omega)
    have g2 : inR (nI i) 60 = true := inR_nI (by omega) (by decide)
    have g3 : ix (nI i) = i := ix_nI (by omega)
    rw [lp_s]
    generalize lp (fun _ _ _ _ => none) (f_X10_sortOf_2 N) m = S at ih ⊢
    unfold f_X10_sortOf_2 f_X10_sortOf_41
    rw [exF_s, p3.2.2.2.2.2.2.2.1, if_neg g1, g2, ck_t, ck_t, ck_t, g3, isIn_e, bd_e, ifb, vb_e, nI_1, ih]
    rw [show inB (s 44) (s 45) (s 46) c t i = _ from btw_inB]
    by_cases h1 : s 44 i = c
    · rw [if_pos h1, decide_eq_true h1, Bool.true_and]
      cases btw (s 45 i) t (s 46 i) <;> rfl
    · rw [if_neg h1, decide_eq_false h1, Bool.false_and, Bool.false_or]
theorem sortOf_e {N : Nat} (hN : 101 ≤ N) {s : Hp} (p2 : E2 s) (p3 : E3 s) (c t : Int32) : f_X10_sortOf N s c t = some (stF s c t, s) :=
  sort_loop hN p2 p3 c t (nM s) 0 N (by omega) (by have := p3.2.2.2.2.2.2.2.2.1; omega)
/-! about -/
def abX (s : Hp) (x1 x2 : Int32) : Option (Int32 × Hp) := f_X10_about_4 0 (fun _ _ _ _ => none) s x1 x2 (s 36 8)
theorem about_loop (N : Nat) {s : Hp} (p3 : E3 s) (a : Int32) : ∀ k i m, i + k = nM s → k < m → lp (fun _ _ _ _ => none) (f_X10_about_4 N) m s a (nI (fb_ct (fun i => decide (s 48 i = 1)) i)) (nI i) = abX s a (nI (fb_ct (fun i => decide (s 48 i = 1)) (nM s)))
  | k, i, 0, _, hm => absurd hm (Nat.not_lt_zero k)
  | 0, i, m + 1, hi, _ => by
    have e : i = nM s := by omega
    subst e
    rw [lp_s]; unfold abX f_X10_about_4
    rw [p3.2.2.2.2.2.2.2.1, if_pos (i_le.mpr (Int.le_refl _)), if_pos (i_le.mpr (Int.le_refl _))]
  | k + 1, i, m + 1, hi, hm => by
    have h60 := p3.2.2.2.2.2.2.2.2.1
    have ih := about_loop N p3 a k (i + 1) m (by omega) (by omega)
    have g1 : ¬ nI (nM s) ≤ nI i := nI_ge (by omega) (by omega)
    have g2 : inR (nI i) 60 = true := inR_nI (by omega) (by decide)
    have g3 : ix (nI i) = i := ix_nI (by omega)
    rw [lp_s]
    generalize lp (fun _ _ _ _ => none) (f_X10_about_4 N) m = S at ih ⊢
    unfold f_X10_about_4
    rw [p3.2.2.2.2.2.2.2.1, if_neg g1, g2, ck_t, g3, ← ih, fb_ct_succ]
    unfold f_X10_about_27
    rw [vb_e, vb_e, vb_e, vb_e, nI_1]
    rcases p3.2.2.2.2.2.2.2.2.2.2.1 i with h | h
    · rw [if_pos h, h, decide_eq_false (by decide), show (0 : Int32) = nI 0 from rfl, nI_add]; rfl
    · rw [h, if_neg (by decide), decide_eq_true rfl, nI_1]; rfl
theorem ok_about {N : Nat} (hN : 101 ≤ N) : ag_about N PS := by
  intro a s p
  obtain ⟨p1, p2, p3, p4, p5, p6, p7, p8, p9, p10⟩ := id p
  have h60 := p3.2.2.2.2.2.2.2.2.1
  have eb : f_X10_about N s a = abX s a (nI (fb_ct (fun i => decide (s 48 i = 1)) (nM s))) := about_loop N p3 a (nM s) 0 N (by omega) (by omega)
  have key : ∀ x : Option (Int32 × Hp), f_X9_about N s a = x → (∃ v, x = some (v, s)) → ∃ v s1 s2, f_X9_about N s a = some (v, s1) ∧ f_X10_about N s1 a = some (v, s2) ∧ PS s2 := by
    rintro x hx ⟨v, rfl⟩
    refine ⟨v, s, s, hx, ?_, p⟩
    rw [eb, ← hx]
    unfold abX f_X10_about_4 f_X9_about
    rw [if_pos (i_le.mpr (Int.le_refl _)), ← p1.1, ← p2.1, ← p3.1, ← p9.1, ← p5.1, ← p5.2.1, ← p7.1, ← p3.2.2.2.2.2.2.2.2.2.2.2.2]
  refine key _ rfl ?_
  unfold f_X9_about
  repeat' split
  all_goals exact ⟨_, rfl⟩
