/-! minutes and blind -/
theorem nI_imin {a b : Nat} (ha : a < 2 ^ 31) (hb : b < 2 ^ 31) : imin (nI a) (nI b) = nI (min a b) := by
  unfold imin
  by_cases h : b < a
  · rw [if_pos (nI_lt h ha), Nat.min_eq_right (by omega)]
  · rw [if_neg (nI_nlt (by omega) hb), Nat.min_eq_left (by omega)]
theorem nI_imax {a b : Nat} (ha : a < 2 ^ 31) (hb : b < 2 ^ 31) : imax (nI a) (nI b) = nI (max a b) := by
  unfold imax
  by_cases h : a < b
  · rw [if_pos (nI_lt h hb), Nat.max_eq_right (by omega)]
  · rw [if_neg (nI_nlt (by omega) ha), Nat.max_eq_left (by omega)]
def chS (C F T : Nat → Int32) (c t : Int32) (j : Nat) (x : Int32) : Int32 := if C j = c then (if F j ≤ t then (if T j < t then x else imin x (T j + 1)) else imin x (F j)) else x
def chF (C F T : Nat → Int32) (c t : Int32) : Nat → Nat → Int32 → Int32
  | 0, _, x => x
  | k + 1, i, x => chF C F T c t k (i + 1) (chS C F T c t i x)
/-- valid stretches below n -/
def spV (F T : Nat → Int32) (n : Nat) : Prop := ∀ i, i < n → vI 10000 (F i) ∧ vI 10000 (T i) ∧ F i ≤ T i
theorem spV_n {F T : Nat → Int32} {n i : Nat} (h : spV F T n) (hi : i < n) : F i = nI (ix (F i)) ∧ T i = nI (ix (T i)) ∧ ix (F i) < 10000 ∧ ix (T i) < 10000 ∧ ix (F i) ≤ ix (T i) := by
  obtain ⟨h1, h2, h3⟩ := h i hi
  obtain ⟨a1, a2⟩ := vI_ix h1 (by decide)
  obtain ⟨b1, b2⟩ := vI_ix h2 (by decide)
  refine ⟨a2, b2, a1, b1, ?_⟩
  rw [a2, b2] at h3
  exact (nI_leI (by omega) (by omega)).mp h3
theorem ch_spec (C F T : Nat → Int32) (c : Int32) {n a : Nat} (hv : spV F T n) (ha : a < 10000) : ∀ k i b, i + k = n → a < b → b ≤ 10000 → ∃ b', chF C F T c (nI a) k i (nI b) = nI b' ∧ a < b' ∧ b' ≤ b ∧ (∀ j, i ≤ j → j < n → C j = c → ∀ u, a ≤ u → u < b' → ((ix (F j) ≤ u ∧ u ≤ ix (T j)) ↔ (ix (F j) ≤ a ∧ a ≤ ix (T j)))) ∧ (b' = b ∨ ∃ j, j < n ∧ C j = c ∧ ((ix (F j) = b' ∧ a < ix (F j)) ∨ (ix (F j) ≤ a ∧ a ≤ ix (T j))))
  | 0, i, b, hi, hab, hb => ⟨b, rfl, hab, Nat.le_refl _, fun j h1 h2 => absurd h2 (by omega), Or.inl rfl⟩
  | k + 1, i, b, hi, hab, hb => by
    obtain ⟨f1, t1, f2, t2, ft⟩ := spV_n hv (show i < n by omega)
    have key : ∃ b1, chS C F T c (nI a) i (nI b) = nI b1 ∧ a < b1 ∧ b1 ≤ b ∧ (C i = c → ∀ u, a ≤ u → u < b1 → ((ix (F i) ≤ u ∧ u ≤ ix (T i)) ↔ (ix (F i) ≤ a ∧ a ≤ ix (T i)))) ∧ (b1 = b ∨ (C i = c ∧ ((ix (F i) = b1 ∧ a < ix (F i)) ∨ (ix (F i) ≤ a ∧ a ≤ ix (T i))))) := by
      unfold chS
      generalize ix (F i) = fi at *
      generalize ix (T i) = ti at *
      by_cases h1 : C i = c
      · rw [if_pos h1]
        by_cases h2 : fi ≤ a
        · rw [if_pos (by rw [f1]; exact nI_le h2 (by omega))]
          by_cases h3 : ti < a
          · rw [if_pos (by rw [t1]; exact nI_lt h3 (by omega))]
            exact ⟨b, rfl, hab, Nat.le_refl _, fun _ u h4 h5 => by omega, Or.inl rfl⟩
          · rw [if_neg (by rw [t1]; exact nI_nlt (by omega) (by omega)), t1, nI_1, nI_imin (by omega) (by omega)]
            refine ⟨min b (ti + 1), rfl, by omega, by omega, fun _ u h4 h5 => by omega, ?_⟩
            exact Or.inr ⟨h1, Or.inr ⟨h2, by omega⟩⟩
        · rw [if_neg (by rw [f1]; exact nI_ge (by omega) (by omega)), f1, nI_imin (by omega) (by omega)]
          refine ⟨min b (fi), rfl, by omega, by omega, fun _ u h4 h5 => by omega, ?_⟩
          by_cases h6 : b ≤ fi
          · exact Or.inl (by omega)
          · exact Or.inr ⟨h1, Or.inl ⟨by omega, by omega⟩⟩
      · rw [if_neg h1]
        exact ⟨b, rfl, hab, Nat.le_refl _, fun h => absurd h h1, Or.inl rfl⟩
    obtain ⟨b1, e1, g1, g2, g3, g4⟩ := key
    obtain ⟨b', e2, k1, k2, k3, k4⟩ := ch_spec C F T c hv ha k (i + 1) b1 (by omega) g1 (by omega)
    refine ⟨b', by unfold chF; rw [e1]; exact e2, k1, by omega, fun j h1 h2 h3 u h4 h5 => ?_, ?_⟩
    · by_cases e : j = i
      · subst e
        exact g3 h3 u h4 (by omega)
      · exact k3 j (by omega) h2 h3 u h4 h5
    · rcases k4 with k4 | ⟨j, q1, q2, q3⟩
      · subst k4
        rcases g4 with g4 | ⟨q2, q3⟩
        · exact Or.inl g4
        · exact Or.inr ⟨i, by omega, q2, q3⟩
      · exact Or.inr ⟨j, q1, q2, q3⟩
theorem chb_loop (N : Nat) (s : Hp) (c t : Int32) {n : Nat} (h : s 4 4 = nI n) (hn : n ≤ 100) : ∀ k i m x, i + k = n → k < m → lp (fun _ _ _ _ _ => none) (f_X7_changeBehind_6 N) m s c t x (nI i) = some (chF (s 6) (s 7) (s 8) c t k i x, s)
  | k, i, 0, _, _, hm => absurd hm (Nat.not_lt_zero k)
  | 0, i, m + 1, x, hi, _ => by
    rw [lp_s]; unfold f_X7_changeBehind_6
    rw [h, if_pos (nI_le (by omega) (by omega))]; rfl
  | k + 1, i, m + 1, x, hi, hm => by
    have ih := fun x => chb_loop N s c t h hn k (i + 1) m x (by omega) (by omega)
    have g1 : ¬ nI n ≤ nI i := nI_ge (by omega) (by omega)
    have g2 : inR (nI i) 100 = true := inR_nI (by omega) (by decide)
    have g3 : ix (nI i) = i := ix_nI (by omega)
    rw [lp_s]
    generalize lp (fun _ _ _ _ _ => none) (f_X7_changeBehind_6 N) m = S at ih ⊢
    have e54 : f_X7_changeBehind_54 N S s c t x (nI i) = some (chF (s 6) (s 7) (s 8) c t k (i + 1) (if s 6 i = c then (if s 8 i < t then x else imin x (s 8 i + 1)) else x), s) := by
      unfold f_X7_changeBehind_54 f_X7_changeBehind_92
      rw [g2, ck_t, ck_t, ck_t, g3, vb_e, vb_e, vb_e, nI_1, ih, ih]
      by_cases h1 : s 6 i = c
      · rw [if_pos h1, if_pos h1]
        by_cases h2 : s 8 i < t
        · rw [if_pos h2, if_pos h2]
        · rw [if_neg h2, if_neg h2]
      · rw [if_neg h1, if_neg h1]
    unfold f_X7_changeBehind_6 f_X7_changeBehind_92 chF chS
    rw [h, if_neg g1, g2, ck_t, ck_t, ck_t, g3, vb_e, vb_e, nI_1, ih, e54]
    by_cases h1 : s 6 i = c
    · rw [if_pos h1, if_pos h1, if_pos h1]
      by_cases h2 : s 7 i ≤ t
      · rw [if_pos h2, if_pos h2]
      · rw [if_neg h2, if_neg h2]
    · rw [if_neg h1, if_neg h1, if_neg h1]
theorem cha_loop (N : Nat) (s : Hp) (c t : Int32) {n : Nat} (h : s 10 4 = nI n) (hn : n ≤ 60) : ∀ k i m x, i + k = n → k < m → lp (fun _ _ _ _ _ => none) (f_X7_changeBehind_b_6 N) m s c t x (nI i) = some (chF (s 12) (s 13) (s 14) c t k i x, s)
  | k, i, 0, _, _, hm => absurd hm (Nat.not_lt_zero k)
  | 0, i, m + 1, x, hi, _ => by
    rw [lp_s]; unfold f_X7_changeBehind_b_6
    rw [h, if_pos (nI_le (by omega) (by omega))]; rfl
  | k + 1, i, m + 1, x, hi, hm => by
    have ih := fun x => cha_loop N s c t h hn k (i + 1) m x (by omega) (by omega)
    have g1 : ¬ nI n ≤ nI i := nI_ge (by omega) (by omega)
    have g2 : inR (nI i) 60 = true := inR_nI (by omega) (by decide)
    have g3 : ix (nI i) = i := ix_nI (by omega)
    rw [lp_s]
    generalize lp (fun _ _ _ _ _ => none) (f_X7_changeBehind_b_6 N) m = S at ih ⊢
    have e54 : f_X7_changeBehind_b_54 N S s c t x (nI i) = some (chF (s 12) (s 13) (s 14) c t k (i + 1) (if s 12 i = c then (if s 14 i < t then x else imin x (s 14 i + 1)) else x), s) := by
      unfold f_X7_changeBehind_b_54 f_X7_changeBehind_b_92
      rw [g2, ck_t, ck_t, ck_t, g3, vb_e, vb_e, vb_e, nI_1, ih, ih]
      by_cases h1 : s 12 i = c
      · rw [if_pos h1, if_pos h1]
        by_cases h2 : s 14 i < t
        · rw [if_pos h2, if_pos h2]
        · rw [if_neg h2, if_neg h2]
      · rw [if_neg h1, if_neg h1]
    unfold f_X7_changeBehind_b_6 f_X7_changeBehind_b_92 chF chS
    rw [h, if_neg g1, g2, ck_t, ck_t, ck_t, g3, vb_e, vb_e, nI_1, ih, e54]
    by_cases h1 : s 12 i = c
    · rw [if_pos h1, if_pos h1, if_pos h1]
      by_cases h2 : s 13 i ≤ t
      · rw [if_pos h2, if_pos h2]
      · rw [if_neg h2, if_neg h2]
    · rw [if_neg h1, if_neg h1, if_neg h1]
theorem inB_nat {C F T : Nat → Int32} {c : Int32} {n u j : Nat} (hv : spV F T n) (hj : j < n) (hu : u < 2 ^ 31) : inB C F T c (nI u) j = decide (C j = c ∧ ix (F j) ≤ u ∧ u ≤ ix (T j)) := by
  obtain ⟨f1, t1, f2, t2, ft⟩ := spV_n hv hj
  unfold inB
  have e1 : F j ≤ nI u ↔ ix (F j) ≤ u := by rw [f1, ix_nI (by omega)]; exact nI_leI (by omega) hu
  have e2 : nI u ≤ T j ↔ u ≤ ix (T j) := by rw [t1, ix_nI (by omega)]; exact nI_leI hu (by omega)
  rw [Bool.eq_iff_iff, decide_eq_true_iff, decide_eq_true_iff, e1, e2]
theorem E2_sp {s : Hp} (p : E2 s) : spV (s 41) (s 42) (nL s) := fun i hi => ⟨(p.2.2.2.2.2.2.2 i hi).2.2.1, (p.2.2.2.2.2.2.2 i hi).2.2.2.1, (p.2.2.2.2.2.2.2 i hi).2.2.2.2⟩
theorem E3_sp {s : Hp} (p : E3 s) : spV (s 45) (s 46) (nM s) := fun i hi => ⟨(p.2.2.2.2.2.2.2.2.2.1 i hi).2.2.1, (p.2.2.2.2.2.2.2.2.2.1 i hi).2.2.2.1, (p.2.2.2.2.2.2.2.2.2.1 i hi).2.2.2.2.1⟩
/-- where the state changes behind minute a -/
theorem change_e {N : Nat} (hN : 101 ≤ N) {s : Hp} (p2 : E2 s) (p3 : E3 s) (c : Int32) {a b : Nat} (hab : a < b) (hb : b ≤ 10000) : ∃ b', f_X9_changeBehind N s c (nI a) (nI b) = some (nI b', s) ∧ a < b' ∧ b' ≤ b ∧ (∀ u, a ≤ u → u < b' → stF s c (nI u) = stF s c (nI a)) ∧ (b' < b → stF s c (nI a) = 2 → stF s c (nI b') ≠ 2) := by
  have v2 := E2_sp p2
  have v3 := E3_sp p3
  have h60 := p3.2.2.2.2.2.2.2.2.1
  have h100 := p2.2.2.2.2.2.2.1
  have L1 : f_X7_changeBehind N s c (nI a) (nI b) = _ := chb_loop N s c (nI a) (p2.1.trans p2.2.2.2.2.2.1) h100 (nL s) 0 N (nI b) (by omega) (by omega)
  rw [p2.2.2.1, p2.2.2.2.1, p2.2.2.2.2.1] at L1
  obtain ⟨b1, e1, q1, q2, q3, q4⟩ := ch_spec (s 40) (s 41) (s 42) c v2 (show a < 10000 by omega) (nL s) 0 b (by omega) hab hb
  rw [e1] at L1
  have L2 : f_X7_changeBehind_b N s c (nI a) (nI b1) = _ := cha_loop N s c (nI a) (p3.1.trans p3.2.2.2.2.2.2.2.1) h60 (nM s) 0 N (nI b1) (by omega) (by omega)
  rw [p3.2.2.1, p3.2.2.2.1, p3.2.2.2.2.1] at L2
  obtain ⟨b2, e2, r1, r2, r3, r4⟩ := ch_spec (s 44) (s 45) (s 46) c v3 (show a < 10000 by omega) (nM s) 0 b1 (by omega) q1 (by omega)
  rw [e2] at L2
  have cM : ∀ u, a ≤ u → u < b2 → exF (inB (s 44) (s 45) (s 46) c (nI u)) (nM s) 0 = exF (inB (s 44) (s 45) (s 46) c (nI a)) (nM s) 0 := fun u h1 h2 => exF_cong (fun j h3 h4 => by
    rw [inB_nat v3 (show j < nM s by omega) (by omega), inB_nat v3 (show j < nM s by omega) (by omega), Bool.eq_iff_iff, decide_eq_true_iff, decide_eq_true_iff]
    constructor
    · rintro ⟨g1, g2⟩; exact ⟨g1, (r3 j (by omega) (by omega) g1 u h1 h2).mp g2⟩
    · rintro ⟨g1, g2⟩; exact ⟨g1, (r3 j (by omega) (by omega) g1 u h1 h2).mpr g2⟩)
  have cL : ∀ u, a ≤ u → u < b2 → exF (inB (s 40) (s 41) (s 42) c (nI u)) (nL s) 0 = exF (inB (s 40) (s 41) (s 42) c (nI a)) (nL s) 0 := fun u h1 h2 => exF_cong (fun j h3 h4 => by
    rw [inB_nat v2 (show j < nL s by omega) (by omega), inB_nat v2 (show j < nL s by omega) (by omega), Bool.eq_iff_iff, decide_eq_true_iff, decide_eq_true_iff]
    constructor
    · rintro ⟨g1, g2⟩; exact ⟨g1, (q3 j (by omega) (by omega) g1 u h1 (by omega)).mp g2⟩
    · rintro ⟨g1, g2⟩; exact ⟨g1, (q3 j (by omega) (by omega) g1 u h1 (by omega)).mpr g2⟩)
  refine ⟨b2, ?_, r1, by omega, fun u h1 h2 => by unfold stF; rw [cM u h1 h2, cL u h1 h2], fun hlt hst hst2 => ?_⟩
  · unfold f_X9_changeBehind
    rw [L1, bd_e, L2, bd_e]
  · -- unseen at a, unseen at b2: nothing begins there
    have noM : ∀ {t : Nat}, stF s c (nI t) = 2 → exF (inB (s 44) (s 45) (s 46) c (nI t)) (nM s) 0 = false ∧ exF (inB (s 40) (s 41) (s 42) c (nI t)) (nL s) 0 = false := by
      intro t ht
      unfold stF at ht
      cases h1 : exF (inB (s 44) (s 45) (s 46) c (nI t)) (nM s) 0 with
      | true => rw [h1, if_pos rfl] at ht; exact absurd ht (by decide)
      | false =>
        cases h2 : exF (inB (s 40) (s 41) (s 42) c (nI t)) (nL s) 0 with
        | true => rw [h1, if_neg (by decide), h2, if_pos rfl] at ht; exact absurd ht (by decide)
        | false => exact ⟨rfl, rfl⟩
    obtain ⟨a1, a2⟩ := noM hst
    obtain ⟨c1, c2⟩ := noM hst2
    have hitM : ∀ {t j : Nat}, t < 2 ^ 31 → j < nM s → s 44 j = c → ix (s 45 j) ≤ t → t ≤ ix (s 46 j) → exF (inB (s 44) (s 45) (s 46) c (nI t)) (nM s) 0 = true := fun {t j} ht hj h1 h2 h3 => (exF_iff _ _ _).mpr ⟨j, by omega, by omega, by rw [inB_nat v3 hj ht]; exact decide_eq_true ⟨h1, h2, h3⟩⟩
    have hitL : ∀ {t j : Nat}, t < 2 ^ 31 → j < nL s → s 40 j = c → ix (s 41 j) ≤ t → t ≤ ix (s 42 j) → exF (inB (s 40) (s 41) (s 42) c (nI t)) (nL s) 0 = true := fun {t j} ht hj h1 h2 h3 => (exF_iff _ _ _).mpr ⟨j, by omega, by omega, by rw [inB_nat v2 hj ht]; exact decide_eq_true ⟨h1, h2, h3⟩⟩
    rcases r4 with r4 | ⟨j, g1, g2, g3⟩
    · rcases q4 with q4 | ⟨j, g1, g2, g3⟩
      · omega
      · rcases g3 with ⟨g3, g4⟩ | ⟨g3, g4⟩
        · have := (spV_n v2 g1).2.2.2.2
          have h9 := hitL (t := b2) (by omega) g1 g2 (by omega) (by omega)
          rw [c2] at h9; cases h9
        · have h9 := hitL (t := a) (by omega) g1 g2 g3 g4
          rw [a2] at h9; cases h9
    · rcases g3 with ⟨g3, g4⟩ | ⟨g3, g4⟩
      · have := (spV_n v3 g1).2.2.2.2
        have h9 := hitM (t := b2) (by omega) g1 g2 (by omega) (by omega)
        rw [c1] at h9; cases h9
      · have h9 := hitM (t := a) (by omega) g1 g2 g3 g4
        rw [a1] at h9; cases h9
theorem ct_const {p : Nat → Bool} {a : Nat} : ∀ d, (∀ u, a ≤ u → u < a + d → p u = p a) → fb_ct p (a + d) = fb_ct p a + (if p a = true then d else 0)
  | 0, _ => by simp
  | d + 1, h => by
    rw [show a + (d + 1) = (a + d) + 1 by omega, fb_ct_succ, ct_const d (fun u h1 h2 => h u h1 (by omega)), h (a + d) (by omega) (by omega)]
    cases p a <;> simp <;> omega
theorem min_loop {N : Nat} (hN : 101 ≤ N) {s : Hp} (p2 : E2 s) (p3 : E3 s) (c w : Int32) {to : Nat} (hto : to < 10000) : ∀ m a A, to + 1 - a < m → a ≤ to + 1 → A ≤ a → lp (fun _ _ _ _ _ _ => none) (f_X9_minutes_37 N) m s c (nI to) w (nI A) (nI a) = some (nI (A + (fb_ct (fun u => decide (stF s c (nI u) = w)) (to + 1) - fb_ct (fun u => decide (stF s c (nI u) = w)) a)), s)
  | 0, a, A, hm, _, _ => absurd hm (Nat.not_lt_zero _)
  | m + 1, a, A, hm, ha, hA => by
    have ih := fun a A => min_loop hN p2 p3 c w hto m a A
    rw [lp_s]
    generalize lp (fun _ _ _ _ _ _ => none) (f_X9_minutes_37 N) m = S at ih ⊢
    unfold f_X9_minutes_37
    by_cases h : to < a
    · rw [if_pos (nI_lt h (by omega)), show a = to + 1 by omega, Nat.sub_self, Nat.add_zero]
    · obtain ⟨b, e1, e2, e3, e4, e5⟩ := change_e hN p2 p3 c (show a < to + 1 by omega) (by omega)
      have hct := ct_const (p := fun u => decide (stF s c (nI u) = w)) (a := a) (b - a) (fun u h1 h2 => by show decide (stF s c (nI u) = w) = decide (stF s c (nI a) = w); rw [e4 u h1 (by omega)])
      rw [show a + (b - a) = b by omega] at hct
      have hmono := fb_ct_mono (fun u => decide (stF s c (nI u) = w)) (show b ≤ to + 1 from e3)
      rw [if_neg (nI_nlt (by omega) (by omega)), nI_1, e1, bd_e, stateAt_e hN p2 p3, bd_e]
      unfold f_X9_minutes_77
      rw [vb_e, vb_e, vb_e, nI_1, nI_imax (by omega) (by omega), show max (a + 1) b = b by omega, pk_sub (by omega), nI_add]
      by_cases h1 : stF s c (nI a) = w
      · rw [if_pos h1, ih b (A + (b - a)) (by omega) (by omega) (by omega)]
        rw [decide_eq_true h1, if_pos rfl] at hct
        congr 3; omega
      · rw [if_neg h1, ih b A (by omega) (by omega) (by omega)]
        rw [decide_eq_false h1, if_neg (by decide)] at hct
        congr 3; omega
theorem minM_loop {N : Nat} (hN : 101 ≤ N) {s : Hp} (p2 : E2 s) (p3 : E3 s) (c w : Int32) {to : Nat} (hto : to < 10000) : ∀ m a A, to + 1 - a < m → a ≤ to + 1 → lp (fun _ _ _ _ _ _ => none) (f_X10_minutes_36 N) m s c (nI to) w (nI A) (nI a) = some (nI (A + (fb_ct (fun u => decide (stF s c (nI u) = w)) (to + 1) - fb_ct (fun u => decide (stF s c (nI u) = w)) a)), s)
  | 0, a, A, hm, _ => absurd hm (Nat.not_lt_zero _)
  | m + 1, a, A, hm, ha => by
    have ih := fun a A => minM_loop hN p2 p3 c w hto m a A
    rw [lp_s]
    generalize lp (fun _ _ _ _ _ _ => none) (f_X10_minutes_36 N) m = S at ih ⊢
    unfold f_X10_minutes_36
    by_cases h : to < a
    · rw [if_pos (nI_lt h (by omega)), show a = to + 1 by omega, Nat.sub_self, Nat.add_zero]
    · have hct := fb_ct_succ (fun u => decide (stF s c (nI u) = w)) a
      have hmono := fb_ct_mono (fun u => decide (stF s c (nI u) = w)) (show a + 1 ≤ to + 1 by omega)
      rw [if_neg (nI_nlt (by omega) (by omega)), sortOf_e hN p2 p3, bd_e]
      unfold f_X10_minutes_61
      rw [vb_e, vb_e, vb_e, vb_e, nI_1, nI_1, show (0 : Int32) = nI 0 from rfl, nI_add]
      by_cases h1 : stF s c (nI a) = w
      · rw [if_pos h1, ih (a + 1) (A + 1) (by omega) (by omega)]
        rw [decide_eq_true h1, if_pos rfl] at hct
        congr 3; omega
      · rw [if_neg h1, ih (a + 1) (A + 0) (by omega) (by omega)]
        rw [decide_eq_false h1, if_neg (by decide)] at hct
        congr 3; omega
theorem ok_minutes {N : Nat} (hN : 10002 ≤ N) : ag_minutes N PS := by
  intro c f t w s p
  obtain ⟨p1, p2, p3, p4, p5, p6, p7, p8, p9, p10⟩ := id p
  dsimp only
  by_cases hv : inR c 16 = true ∧ spB f t = true ∧ inR w 3 = true
  · obtain ⟨h1, h2, h3⟩ := hv
    obtain ⟨⟨fn, hf, rfl⟩, ⟨tn, ht, rfl⟩, hft⟩ := spB_v h2
    have hft2 : fn ≤ tn := (nI_leI (by omega) (by omega)).mp hft
    have hmono := fb_ct_le (fun u => decide (stF s c (nI u) = w)) fn
    refine ⟨nI (0 + (fb_ct (fun u => decide (stF s c (nI u) = w)) (tn + 1) - fb_ct (fun u => decide (stF s c (nI u) = w)) fn)), s, s, ?_, ?_, p⟩
    · unfold f_X9_minutes
      rw [show (16 : Int32) = nI 16 from rfl, isBelow_e N s c (by decide), bd_e, h1, if_neg (by decide), isStretch_e, bd_e, h2, if_neg (by decide), show (3 : Int32) = nI 3 from rfl, isBelow_e N s w (by decide), bd_e, h3, if_neg (by decide)]
      exact min_loop (by omega) p2 p3 c w ht N fn 0 (by omega) (by omega) (by omega)
    · unfold f_X10_minutes
      rw [isIn_e, btw_lit c (show (15 : Int32) = nI 15 from rfl) (by decide), bd_e, h1, if_neg (by decide), isSpan_e, bd_e, h2, if_neg (by decide), isIn_e, btw_lit w (show (2 : Int32) = nI 2 from rfl) (by decide), bd_e, h3, if_neg (by decide)]
      exact minM_loop (by omega) p2 p3 c w ht N fn 0 (by omega) (by omega)
  · refine ⟨-1, s, s, ?_, ?_, p⟩
    · unfold f_X9_minutes
      rw [show (16 : Int32) = nI 16 from rfl, isBelow_e N s c (by decide), bd_e, ifb]
      cases h1 : inR c 16 with
      | false => rfl
      | true =>
        rw [cond_true, isStretch_e, bd_e, ifb]
        cases h2 : spB f t with
        | false => rfl
        | true =>
          rw [cond_true, show (3 : Int32) = nI 3 from rfl, isBelow_e N s w (by decide), bd_e, ifb]
          cases h3 : inR w 3 with
          | false => rfl
          | true => exact absurd ⟨h1, h2, h3⟩ hv
    · unfold f_X10_minutes
      rw [isIn_e, btw_lit c (show (15 : Int32) = nI 15 from rfl) (by decide), bd_e, ifb]
      cases h1 : inR c 16 with
      | false => rfl
      | true =>
        rw [cond_true, isSpan_e, bd_e, ifb]
        cases h2 : spB f t with
        | false => rfl
        | true =>
          rw [cond_true, isIn_e, btw_lit w (show (2 : Int32) = nI 2 from rfl) (by decide), bd_e, ifb]
          cases h3 : inR w 3 with
          | false => rfl
          | true => exact absurd ⟨h1, h2, h3⟩ hv
/-! blind -/
def scn (p : Nat → Bool) : Nat → Nat → Nat → Nat → Nat
  | 0, _, b, _ => b
  | k + 1, u, b, r => if p u = true then scn p k (u + 1) (max b (r + 1)) (r + 1) else scn p k (u + 1) b 0
theorem scn_s (p : Nat → Bool) (k u b r : Nat) : scn p (k + 1) u b r = if p u = true then scn p k (u + 1) (max b (r + 1)) (r + 1) else scn p k (u + 1) b 0 := rfl
theorem scn_t {p : Nat → Bool} : ∀ d k u b r, (∀ v, u ≤ v → v < u + d → p v = true) → scn p (d + k) u b r = if d = 0 then scn p k u b r else scn p k (u + d) (max b (r + d)) (r + d)
  | 0, k, u, b, r, _ => by simp
  | d + 1, k, u, b, r, h => by
    rw [show d + 1 + k = (d + k) + 1 by omega]
    rw [scn_s, if_pos (h u (Nat.le_refl _) (by omega)), scn_t d k (u + 1) (max b (r + 1)) (r + 1) (fun v h1 h2 => h v (by omega) (by omega)), if_neg (Nat.succ_ne_zero d)]
    by_cases e : d = 0
    · subst e; rw [if_pos rfl]
    · rw [if_neg e]
      congr 1 <;> omega
theorem scn_f {p : Nat → Bool} : ∀ d k u b r, (∀ v, u ≤ v → v < u + d → p v = false) → scn p (d + k) u b r = if d = 0 then scn p k u b r else scn p k (u + d) b 0
  | 0, k, u, b, r, _ => by simp
  | d + 1, k, u, b, r, h => by
    rw [show d + 1 + k = (d + k) + 1 by omega]
    rw [scn_s, if_neg (by rw [h u (Nat.le_refl _) (by omega)]; decide), scn_f d k (u + 1) b 0 (fun v h1 h2 => h v (by omega) (by omega)), if_neg (Nat.succ_ne_zero d)]
    by_cases e : d = 0
    · subst e; rw [if_pos rfl]
    · rw [if_neg e]
      congr 1; omega
theorem bl_loop {N : Nat} (hN : 101 ≤ N) {s : Hp} (p2 : E2 s) (p3 : E3 s) (c : Int32) {to : Nat} (hto : to < 10000) : ∀ m a B r, to + 1 - a < m → a ≤ to + 1 → B ≤ 10000 → (r = 0 ∨ (a ≤ to → stF s c (nI a) ≠ 2)) → lp (fun _ _ _ _ _ => none) (f_X9_blind_28 N) m s c (nI to) (nI B) (nI a) = some (nI (scn (fun u => decide (stF s c (nI u) = 2)) (to + 1 - a) a B r), s)
  | 0, a, B, r, hm, _, _, _ => absurd hm (Nat.not_lt_zero _)
  | m + 1, a, B, r, hm, ha, hB, hr => by
    have ih := fun a B r => bl_loop hN p2 p3 c hto m a B r
    rw [lp_s]
    generalize lp (fun _ _ _ _ _ => none) (f_X9_blind_28 N) m = S at ih ⊢
    unfold f_X9_blind_28
    by_cases h : to < a
    · rw [if_pos (nI_lt h (by omega)), show to + 1 - a = 0 by omega]; rfl
    · obtain ⟨b, e1, e2, e3, e4, e5⟩ := change_e hN p2 p3 c (show a < to + 1 by omega) (by omega)
      rw [if_neg (nI_nlt (by omega) (by omega)), nI_1, e1, bd_e, stateAt_e hN p2 p3, bd_e]
      unfold f_X9_blind_69
      rw [vb_e, vb_e, vb_e, nI_1, nI_imax (by omega) (by omega), show max (a + 1) b = b by omega, pk_sub (by omega), nI_imax (by omega) (by omega)]
      by_cases h1 : stF s c (nI a) = 2
      · have hr0 : r = 0 := hr.elim id (fun q => absurd h1 (q (by omega)))
        subst hr0
        rw [if_pos h1, ih b (max B (b - a)) (b - a) (by omega) (by omega) (by omega) (Or.inr (fun hle => e5 (by omega) h1))]
        have hs := scn_t (p := fun u => decide (stF s c (nI u) = 2)) (b - a) (to + 1 - b) a B 0 (fun v h2 h3 => decide_eq_true (by rw [e4 v h2 (by omega)]; exact h1))
        rw [show b - a + (to + 1 - b) = to + 1 - a by omega, if_neg (by omega), show a + (b - a) = b by omega, Nat.zero_add] at hs
        rw [hs]
      · rw [if_neg h1, ih b B 0 (by omega) (by omega) (by omega) (Or.inl rfl)]
        have hs := scn_f (p := fun u => decide (stF s c (nI u) = 2)) (b - a) (to + 1 - b) a B r (fun v h2 h3 => decide_eq_false (by rw [e4 v h2 (by omega)]; exact h1))
        rw [show b - a + (to + 1 - b) = to + 1 - a by omega, if_neg (by omega), show a + (b - a) = b by omega] at hs
        rw [hs]
theorem blM_loop {N : Nat} (hN : 101 ≤ N) {s : Hp} (p2 : E2 s) (p3 : E3 s) (c : Int32) {to : Nat} (hto : to < 10000) : ∀ m a B r, to + 1 - a < m → a ≤ to + 1 → B ≤ a → r ≤ a → lp (fun _ _ _ _ _ _ => none) (f_X10_blind_29 N) m s c (nI to) (nI B) (nI r) (nI a) = some (nI (scn (fun u => decide (stF s c (nI u) = 2)) (to + 1 - a) a B r), s)
  | 0, a, B, r, hm, _, _, _ => absurd hm (Nat.not_lt_zero _)
  | m + 1, a, B, r, hm, ha, hB, hr => by
    have ih := fun a B r => blM_loop hN p2 p3 c hto m a B r
    rw [lp_s]
    generalize lp (fun _ _ _ _ _ _ => none) (f_X10_blind_29 N) m = S at ih ⊢
    unfold f_X10_blind_29
    by_cases h : to < a
    · rw [if_pos (nI_lt h (by omega)), show to + 1 - a = 0 by omega]; rfl
    · rw [if_neg (nI_nlt (by omega) (by omega)), sortOf_e hN p2 p3, bd_e, show to + 1 - a = (to + 1 - (a + 1)) + 1 by omega]
      rw [scn_s]
      unfold f_X10_blind_54 f_X10_blind_67
      rw [vb_e, vb_e, vb_e, vb_e, nI_1, nI_1]
      by_cases h1 : stF s c (nI a) = 2
      · rw [if_pos h1, if_pos (decide_eq_true h1)]
        by_cases h2 : r + 1 ≤ B
        · rw [if_pos (nI_le h2 (by omega)), ih (a + 1) B (r + 1) (by omega) (by omega) (by omega) (by omega), show max B (r + 1) = B by omega]
        · rw [if_neg (nI_ge (by omega) (by omega)), ih (a + 1) (r + 1) (r + 1) (by omega) (by omega) (by omega) (by omega), show max B (r + 1) = r + 1 by omega]
      · have hz : (0 : Int32) ≤ nI B := nI_le (show 0 ≤ B by omega) (by omega)
        have hd : ¬ decide (stF s c (nI a) = 2) = true := by rw [decide_eq_false h1]; decide
        rw [if_neg h1, if_pos hz, if_neg hd]
        exact ih (a + 1) B 0 (by omega) (by omega) (by omega) (by omega)
theorem ok_blind {N : Nat} (hN : 10002 ≤ N) : ag_blind N PS := by
  intro c f t s p
  obtain ⟨p1, p2, p3, p4, p5, p6, p7, p8, p9, p10⟩ := id p
  dsimp only
  by_cases hv : inR c 16 = true ∧ spB f t = true
  · obtain ⟨h1, h2⟩ := hv
    obtain ⟨⟨fn, hf, rfl⟩, ⟨tn, ht, rfl⟩, hft⟩ := spB_v h2
    have hft2 : fn ≤ tn := (nI_leI (by omega) (by omega)).mp hft
    refine ⟨nI (scn (fun u => decide (stF s c (nI u) = 2)) (tn + 1 - fn) fn 0 0), s, s, ?_, ?_, p⟩
    · unfold f_X9_blind
      rw [show (16 : Int32) = nI 16 from rfl, isBelow_e N s c (by decide), bd_e, h1, if_neg (by decide), isStretch_e, bd_e, h2, if_neg (by decide)]
      exact bl_loop (by omega) p2 p3 c ht N fn 0 0 (by omega) (by omega) (by omega) (Or.inl rfl)
    · unfold f_X10_blind
      rw [isIn_e, btw_lit c (show (15 : Int32) = nI 15 from rfl) (by decide), bd_e, h1, if_neg (by decide), isSpan_e, bd_e, h2, if_neg (by decide)]
      exact blM_loop (by omega) p2 p3 c ht N fn 0 0 (by omega) (by omega) (by omega) (by omega)
  · refine ⟨-1, s, s, ?_, ?_, p⟩
    · unfold f_X9_blind
      rw [show (16 : Int32) = nI 16 from rfl, isBelow_e N s c (by decide), bd_e, ifb]
      cases h1 : inR c 16 with
      | false => rfl
      | true =>
        rw [cond_true, isStretch_e, bd_e, ifb]
        cases h2 : spB f t with
        | false => rfl
        | true => exact absurd ⟨h1, h2⟩ hv
    · unfold f_X10_blind
      rw [isIn_e, btw_lit c (show (15 : Int32) = nI 15 from rfl) (by decide), bd_e, ifb]
      cases h1 : inR c 16 with
      | false => rfl
      | true =>
        rw [cond_true, isSpan_e, bd_e, ifb]
        cases h2 : spB f t with
        | false => rfl
        | true => exact absurd ⟨h1, h2⟩ hv
