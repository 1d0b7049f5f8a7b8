/-! judge: the fields, and all of it -/
theorem b01_or (a b : Bool) : b01 a ||| b01 b = b01 (a || b) := by cases a <;> cases b <;> decide
theorem b01_and (a b : Bool) : b01 a &&& b01 b = b01 (a && b) := by cases a <;> cases b <;> decide
def licN (b : Nat → Int32) : Prop := ∃ l r d e : Nat, b 6 = nI l ∧ b 7 = nI r ∧ b 8 = nI d ∧ b 9 = nI e ∧ l ≤ r ∧ r < 32 ∧ d ≤ e ∧ e < 32
theorem inS_n {b : Nat → Int32} {l r d e f : Nat} (h6 : b 6 = nI l) (h7 : b 7 = nI r) (h8 : b 8 = nI d) (h9 : b 9 = nI e) (hl : l ≤ r) (hr : r < 32) (hd : d ≤ e) (he : e < 32) (hf : f < 1024) : inS b f = (decide (l ≤ f % 32 ∧ f % 32 ≤ r) && decide (d ≤ f / 32 ∧ f / 32 ≤ e)) := by
  unfold inS btw
  rw [h6, h7, h8, h9, nI_toInt (by omega), nI_toInt (by omega), nI_toInt (by omega), nI_toInt (by omega), nI_toInt (by omega), nI_toInt (by omega)]
  rw [Bool.eq_iff_iff, Bool.and_eq_true, Bool.and_eq_true, decide_eq_true_iff, decide_eq_true_iff, decide_eq_true_iff, decide_eq_true_iff]
  omega
theorem fdF_end {p : Nat → Bool} {b : Nat → Int32} {A C : Bool} (hA : A = true ↔ ∃ f, f < 1024 ∧ p f = true ∧ inS b f = true) (hC : C = true ↔ ∀ f, f < 1024 → p f = true → inS b f = true) : fdF p b = if b01 A = 0 then 4 else if b01 C = 0 then 5 else 0 := by
  have e1 : exF (fun f => p f && inS b f) 1024 0 = A := by
    rw [Bool.eq_iff_iff, exF_iff, hA]
    constructor
    · rintro ⟨f, _, h2, h3⟩; rw [Bool.and_eq_true] at h3; exact ⟨f, by omega, h3⟩
    · rintro ⟨f, h2, h3⟩; exact ⟨f, Nat.zero_le _, by omega, by rw [Bool.and_eq_true]; exact h3⟩
  have e2 : exF (fun f => p f && !inS b f) 1024 0 = !C := by
    rw [Bool.eq_iff_iff, exF_iff, Bool.not_eq_true', Bool.eq_false_iff, ne_eq, hC]
    constructor
    · rintro ⟨f, _, h2, h3⟩ h
      rw [Bool.and_eq_true] at h3
      rw [h f (by omega) h3.1] at h3
      cases h3.2
    · intro h
      cases e : exF (fun f => p f && !inS b f) 1024 0 with
      | true => rw [exF_iff] at e; exact e
      | false =>
        rw [Bool.eq_false_iff, ne_eq, exF_iff] at e
        refine absurd (fun f hf hp => ?_) h
        cases e3 : inS b f with
        | true => rfl
        | false => exact absurd ⟨f, Nat.zero_le _, by omega, by rw [hp, e3]; rfl⟩ e
  unfold fdF
  rw [e1, e2]
  cases A with
  | false => rfl
  | true => cases C <;> rfl
theorem jf_loop (N : Nat) (t : Hp) {L l r d e : Nat} (p : Nat → Bool) (hp : ∀ f, f < 1024 → tb (t 23 (f / 32)) (f % 32) = p f) (hL : L < 10) (h6 : t (118 + L) 6 = nI l) (h7 : t (118 + L) 7 = nI r) (h8 : t (118 + L) 8 = nI d) (h9 : t (118 + L) 9 = nI e) (hl : l ≤ r) (hr : r < 32) (hd : d ≤ e) (he : e < 32) (cols : Int32) (hcols : ∀ i, i < 32 → bt cols i = (decide (l ≤ i) && decide (i ≤ r))) : ∀ k y m A C, y + k = 32 → k < m → (A = true ↔ ∃ f, f < 32 * y ∧ p f = true ∧ inS (t (118 + L)) f = true) → (C = true ↔ ∀ f, f < 32 * y → p f = true → inS (t (118 + L)) f = true) → lp (fun _ _ _ _ _ _ => none) (f_X1_judgeFields_43 N) m t (nI L) cols (b01 A) (b01 C) (nI y) = some (fdF p (t (118 + L)), t)
  | k, y, 0, A, C, _, hm, _, _ => absurd hm (Nat.not_lt_zero k)
  | 0, y, m + 1, A, C, hy, _, hA, hC => by
    have ey : y = 32 := by omega
    subst ey
    rw [lp_s]; unfold f_X1_judgeFields_43
    rw [if_pos (show (32 : Int32) ≤ nI 32 by decide), fdF_end hA hC]
    cases A with
    | false => rfl
    | true => cases C <;> rfl
  | k + 1, y, m + 1, A, C, hy, hm, hA, hC => by
    have ih := fun A C => jf_loop N t p hp hL h6 h7 h8 h9 hl hr hd he cols hcols k (y + 1) m A C (by omega) (by omega)
    have g1 : ¬ (32 : Int32) ≤ nI y := nI_ge (b := 32) (by omega) (by omega)
    have g2 : inR (nI y) 32 = true := inR_nI (by omega) (by decide)
    rw [lp_s]
    generalize lp (fun _ _ _ _ _ _ => none) (f_X1_judgeFields_43 N) m = S at ih ⊢
    have row : ∀ j, j < 32 → bt (t 23 y) j = p (32 * y + j) := fun j hj => by
      have := hp (32 * y + j) (by omega)
      rw [show (32 * y + j) / 32 = y by omega, show (32 * y + j) % 32 = j by omega] at this
      exact this
    have ins : ∀ j, j < 32 → inS (t (118 + L)) (32 * y + j) = ((decide (l ≤ j) && decide (j ≤ r)) && (decide (d ≤ y) && decide (y ≤ e))) := fun j hj => by
      rw [inS_n h6 h7 h8 h9 hl hr hd he (by omega), show (32 * y + j) / 32 = y by omega, show (32 * y + j) % 32 = j by omega]
      rw [Bool.eq_iff_iff]
      simp only [Bool.and_eq_true, decide_eq_true_iff]
    have e74 : ∀ X : Int32, (∀ j, j < 32 → bt X j = (p (32 * y + j) && inS (t (118 + L)) (32 * y + j))) → f_X1_judgeFields_74 N S t (nI L) cols (b01 A) (b01 C) (nI y) X = some (fdF p (t (118 + L)), t) := fun X hX => by
      have z1 : X = 0 ↔ ¬ ∃ j, j < 32 ∧ p (32 * y + j) = true ∧ inS (t (118 + L)) (32 * y + j) = true := by
        rw [bt_zero]
        constructor
        · rintro h ⟨j, hj, q1, q2⟩
          have := h j hj
          rw [hX j hj, q1, q2] at this
          cases this
        · intro h j hj
          rw [hX j hj, Bool.eq_false_iff]
          intro q
          rw [Bool.and_eq_true] at q
          exact h ⟨j, hj, q⟩
      have z2 : X = t 23 y ↔ ∀ j, j < 32 → p (32 * y + j) = true → inS (t (118 + L)) (32 * y + j) = true := by
        constructor
        · intro h j hj q1
          have := hX j hj
          rw [h, row j hj, q1, Bool.true_and] at this
          exact this.symm
        · intro h
          apply b_ext
          intro j hj
          rw [hX j hj, row j hj]
          cases q : p (32 * y + j) with
          | false => rfl
          | true => rw [h j hj q]; rfl
      have spl : ∀ (P : Nat → Prop), (∃ f, f < 32 * (y + 1) ∧ P f) ↔ ((∃ f, f < 32 * y ∧ P f) ∨ ∃ j, j < 32 ∧ P (32 * y + j)) := fun P => by
        constructor
        · rintro ⟨f, hf, hP⟩
          rcases Nat.lt_or_ge f (32 * y) with q | q
          · exact Or.inl ⟨f, q, hP⟩
          · exact Or.inr ⟨f - 32 * y, by omega, by rw [show 32 * y + (f - 32 * y) = f by omega]; exact hP⟩
        · rintro (⟨f, hf, hP⟩ | ⟨j, hj, hP⟩)
          · exact ⟨f, by omega, hP⟩
          · exact ⟨32 * y + j, by omega, hP⟩
      have spa : ∀ (P : Nat → Prop), (∀ f, f < 32 * (y + 1) → P f) ↔ ((∀ f, f < 32 * y → P f) ∧ ∀ j, j < 32 → P (32 * y + j)) := fun P => by
        constructor
        · intro h
          exact ⟨fun f hf => h f (by omega), fun j hj => h (32 * y + j) (by omega)⟩
        · rintro ⟨h1, h2⟩ f hf
          rcases Nat.lt_or_ge f (32 * y) with q | q
          · exact h1 f q
          · have := h2 (f - 32 * y) (by omega)
            rw [show 32 * y + (f - 32 * y) = f by omega] at this
            exact this
      have e91 : ∀ B : Bool, (B = true ↔ (A = true ∨ ∃ j, j < 32 ∧ p (32 * y + j) = true ∧ inS (t (118 + L)) (32 * y + j) = true)) → f_X1_judgeFields_91 N S t (nI L) cols (b01 C) (nI y) X (b01 B) = some (fdF p (t (118 + L)), t) := fun B hB => by
        unfold f_X1_judgeFields_91 f_X1_judgeFields_111 f_X1_judgeFields_112
        have e112 : ∀ D : Bool, (D = true ↔ (C = true ∧ ∀ j, j < 32 → p (32 * y + j) = true → inS (t (118 + L)) (32 * y + j) = true)) → S t (nI L) cols (b01 B) (b01 D) (nI (y + 1)) = some (fdF p (t (118 + L)), t) := fun D hD => by
          refine ih _ _ ?_ ?_
          · rw [hB, hA, spl]
          · rw [hD, hC, spa]
        rw [g2, ck_t, vb_e, vb_e, nI_1, ix_nI (by omega)]
        cases C with
        | false =>
          rw [if_pos (show b01 false = 0 from rfl)]
          exact e112 false ⟨fun h => (by cases h), fun h => (by cases h.1)⟩
        | true =>
          rw [if_neg (show ¬ b01 true = 0 by decide)]
          by_cases q : X = t 23 y
          · rw [if_pos q]
            exact e112 true ⟨fun _ => ⟨rfl, z2.mp q⟩, fun _ => rfl⟩
          · rw [if_neg q]
            exact e112 false ⟨fun h => (by cases h), fun h => absurd (z2.mpr h.2) q⟩
      unfold f_X1_judgeFields_74 f_X1_judgeFields_86
      cases A with
      | false =>
        rw [if_pos (show b01 false = 0 from rfl)]
        by_cases q : X = 0
        · rw [if_pos q]
          exact e91 false ⟨fun h => (by cases h), fun h => h.elim (fun h => (by cases h)) (fun h => absurd h (z1.mp q))⟩
        · rw [if_neg q]
          exact e91 true ⟨fun _ => Or.inr (Classical.byContradiction (fun h => q (z1.mpr h))), fun _ => rfl⟩
      | true =>
        rw [if_neg (show ¬ b01 true = 0 by decide)]
        exact e91 true ⟨fun _ => Or.inl rfl, fun _ => rfl⟩
    unfold f_X1_judgeFields_43
    rw [if_neg g1, show (4 : Int32) = nI 4 from rfl, allows_e N t hL (by decide), bd_e, ifb, g2, ck_t, ix_nI (show y < 2 ^ 31 by omega), show 2 * 4 = 8 from rfl, h8, h9]
    have q1 : decide (nI d ≤ nI y) = decide (d ≤ y) := by
      rw [Bool.eq_iff_iff, decide_eq_true_iff, decide_eq_true_iff, i_le, nI_toInt (by omega), nI_toInt (by omega)]; omega
    have q2 : decide (nI y ≤ nI e) = decide (y ≤ e) := by
      rw [Bool.eq_iff_iff, decide_eq_true_iff, decide_eq_true_iff, i_le, nI_toInt (by omega), nI_toInt (by omega)]; omega
    rw [q1, q2]
    cases hq : (decide (d ≤ y) && decide (y ≤ e)) with
    | true =>
      rw [cond_true]
      refine e74 _ (fun j hj => ?_)
      rw [b_and, row j hj, hcols j hj, ins j hj, hq, Bool.and_true]
    | false =>
      rw [cond_false]
      refine e74 _ (fun j hj => ?_)
      rw [ins j hj, hq, Bool.and_false, Bool.and_false]
      exact b_0 j
theorem judgeF_e {N : Nat} (hN : 101 ≤ N) (t : Hp) {L : Nat} (p : Nat → Bool) (hp : ∀ f, f < 1024 → tb (t 23 (f / 32)) (f % 32) = p f) (hL : L < 10) (hb : licN (t (118 + L))) : f_X1_judgeFields N t (nI L) = some (fdF p (t (118 + L)), t) := by
  obtain ⟨l, r, d, e, h6, h7, h8, h9, hl, hr, hd, he⟩ := hb
  unfold f_X1_judgeFields
  rw [inR_nI (show L < 10 by omega) (by decide), ck_t, show inR 6 10 = true by decide, ck_t, vb_e, ck_t, show inR 7 10 = true by decide, ck_t, vb_e, vb_e, ix_nI (show L < 2 ^ 31 by omega), show ix 6 = 6 from rfl, show ix 7 = 7 from rfl, h6, h7]
  exact jf_loop N t p hp hL h6 h7 h8 h9 hl hr hd he _ (fun i hi => cols_b hl hr hi) 32 0 N false true (by omega) (by omega) ⟨fun h => (by cases h), fun ⟨f, hf, _⟩ => by omega⟩ ⟨fun _ f hf => by omega, fun _ => rfl⟩
theorem licOK_N {b : Nat → Int32} (h : licOK b) : licN b := by
  obtain ⟨h0, h1, h01, h2, h3, h4, h5, h45, ⟨l, hl, e6⟩, ⟨r, hr, e7⟩, h67, ⟨d, hd, e8⟩, ⟨e, he, e9⟩, h89⟩ := h
  rw [e6, e7, i_le, nI_toInt (by omega), nI_toInt (by omega)] at h67
  rw [e8, e9, i_le, nI_toInt (by omega), nI_toInt (by omega)] at h89
  exact ⟨l, r, d, e, e6, e7, e8, e9, by omega, hr, by omega, he⟩
theorem jl_loop {N : Nat} (hN : 101 ≤ N) {s t : Hp} (p3 : E3 s) (O : Nat → Bool) (hD : DI s O (nM s) t) {L B E : Nat} (hL : L < 10) (h2 : t (118 + L) 2 = nI B) (h3 : t (118 + L) 3 = nI E) (hB : B < 1440) (hE : E < 1440) (hb : licN (t (118 + L))) : ∀ k i m, i + k = fb_ct O (nM s) → k < m → (∀ j, j < nM s → O j = true → fb_ct O j < i → tmA B E (ix (s 45 j)) (ix (s 46 j)) = true) → lp (fun _ _ _ => none) (f_X1_judge_41 N) m t (nI L) (nI i) = some (if fld O (fun c i => c && tmA B E (ix (s 45 i)) (ix (s 46 i))) true (nM s) = false then 3 else fdF (fun f => plG O s f (nM s)) (t (118 + L)), t)
  | k, i, 0, _, hm, _ => absurd hm (Nat.not_lt_zero k)
  | 0, i, m + 1, hi, _, hT => by
    obtain ⟨d1, d2, d3, d4, d5, d6, d7, d8, d9, d10⟩ := hD
    have hle := fb_ct_le O (nM s)
    have h60 := p3.2.2.2.2.2.2.2.2.1
    have all : fld O (fun c i => c && tmA B E (ix (s 45 i)) (ix (s 46 i))) true (nM s) = true := by
      rw [alf_iff]
      intro j hj hO
      refine hT j hj hO ?_
      have := fb_ct_mono O (show j + 1 ≤ nM s by omega)
      rw [fb_ct_succ, if_pos hO] at this
      omega
    rw [lp_s]; unfold f_X1_judge_41
    rw [d2, if_pos (nI_le (by omega) (by omega)), judgeF_e hN t _ d10 hL hb, bd_e, all, if_neg (by decide)]
  | k + 1, i, m + 1, hi, hm, hT => by
    have ih := jl_loop hN p3 O hD hL h2 h3 hB hE hb k (i + 1) m (by omega) (by omega)
    obtain ⟨d1, d2, d3, d4, d5, d6, d7, d8, d9, d10⟩ := hD
    have hle := fb_ct_le O (nM s)
    have h60 := p3.2.2.2.2.2.2.2.2.1
    have g1 : ¬ nI (fb_ct O (nM s)) ≤ nI i := nI_ge (by omega) (by omega)
    have g2 : inR (nI i) 60 = true := inR_nI (by omega) (by decide)
    obtain ⟨j, hj, hO, hc⟩ := fb_ct_kth (p := O) (k := i) (n := nM s) (by omega)
    have h22 : t 22 i = nI j := by rw [← hc]; exact d3 j hj hO
    have gj : inR (nI j) 60 = true := inR_nI (by omega) (by decide)
    obtain ⟨v1, v2, v3, v4, v5⟩ := spV_n (E3_sp p3) hj
    have s13 : t 13 = s 45 := by rw [d1 13 (by decide) (by decide) (by decide), p3.2.2.2.1]
    have s14 : t 14 = s 46 := by rw [d1 14 (by decide) (by decide) (by decide), p3.2.2.2.2.1]
    rw [lp_s]
    generalize lp (fun _ _ _ => none) (f_X1_judge_41 N) m = S at ih ⊢
    have ta := aTime_e N t hL h2 h3 hB hE v5 v4
    rw [← v1, ← v2] at ta
    unfold f_X1_judge_41
    rw [d2, if_neg g1, g2, ck_t, vb_e, ix_nI (show i < 2 ^ 31 by omega), h22, gj, ck_t, ck_t, ix_nI (show j < 2 ^ 31 by omega), s13, s14, ta, bd_e, ifb, vb_e, nI_1]
    cases hx : tmA B E (ix (s 45 j)) (ix (s 46 j)) with
    | true =>
      rw [cond_true]
      refine ih (fun j' hj' hO' hc' => ?_)
      by_cases e : fb_ct O j' = i
      · have := fb_ct_kth_one hO' hO (e.trans hc.symm)
        rw [this]; exact hx
      · exact hT j' hj' hO' (by omega)
    | false =>
      have nall : fld O (fun c i => c && tmA B E (ix (s 45 i)) (ix (s 46 i))) true (nM s) = false := by
        rw [Bool.eq_false_iff, ne_eq, alf_iff]
        intro h
        rw [h j hj hO] at hx
        cases hx
      rw [cond_false, nall, if_pos rfl]
theorem judge_e {N : Nat} (hN : 101 ≤ N) {s t : Hp} (p : PS s) (O : Nat → Bool) (hD : DI s O (nM s) t) {L : Nat} (hL : L < nK s) : f_X1_judge N t (nI L) = some (anF O s L, t) := by
  have hK10 := p.2.2.2.2.2.2.2.2.1.2.2.1
  obtain ⟨hlic, hrow⟩ := p.2.2.2.2.2.2.2.2.1.2.2.2 L hL
  have hr : ∀ j, j < 10 → t (118 + L) j = lB s L j := fun j hj => by
    rw [hD.1 (118 + L) (by omega) (by omega) (by omega)]; exact hrow j hj
  have hlic' : licOK (lB s L) := hlic
  obtain ⟨h0, h1, h01, ⟨B, hB, e2⟩, ⟨E, hE, e3⟩, ⟨y4, hy4, e4⟩, ⟨y5, hy5, e5⟩, h45, _, _, _, _, _, _⟩ := id hlic'
  have hlN : licN (t (118 + L)) := by
    obtain ⟨l, r, d, e, h6, h7, h8, h9, q⟩ := licOK_N hlic'
    exact ⟨l, r, d, e, (hr 6 (by decide)).trans h6, (hr 7 (by decide)).trans h7, (hr 8 (by decide)).trans h8, (hr 9 (by decide)).trans h9, q⟩
  have hj : l_X1_judge_41 N t (nI L) 0 = _ := jl_loop hN p.2.2.1 O hD (by omega) ((hr 2 (by decide)).trans e2) ((hr 3 (by decide)).trans e3) hB hE hlN (fb_ct O (nM s)) 0 N (by omega) (by have := fb_ct_le O (nM s); have := p.2.2.1.2.2.2.2.2.2.2.2.1; omega) (fun j _ _ h => absurd h (Nat.not_lt_zero _))
  obtain ⟨d1, d2, d3, d4, d5, d6, d7, d8, d9, d10⟩ := hD
  unfold f_X1_judge anF
  rw [show (0 : Int32) = nI 0 from rfl, show (2 : Int32) = nI 2 from rfl, allows_e N t (by omega) (by decide), bd_e, allows_e N t (by omega) (by decide), bd_e, show 2 * 0 = 0 from rfl, show 0 + 1 = 1 from rfl, show 2 * 2 = 4 from rfl, show 4 + 1 = 5 from rfl, hr 0 (by decide), hr 1 (by decide), hr 4 (by decide), hr 5 (by decide), d4, d7, d8]
  rw [show nI 0 = (0 : Int32) from rfl, ifb, ifb, hj]
  have c1 : (decide (lB s L 0 ≤ fld O (fun _ j => s 44 j) (-1) (nM s)) && decide (fld O (fun _ j => s 44 j) (-1) (nM s) ≤ lB s L 1)) = btw (lB s L 0) (fld O (fun _ j => s 44 j) (-1) (nM s)) (lB s L 1) := by
    unfold btw
    rw [Bool.eq_iff_iff, Bool.and_eq_true, decide_eq_true_iff, decide_eq_true_iff, decide_eq_true_iff, i_le, i_le]
  have c2 : (decide (lB s L 4 ≤ fld O (fun x j => imin x (s 47 j)) 1000 (nM s)) && decide (fld O (fun x j => imax x (s 47 j)) (-1) (nM s) ≤ lB s L 5)) = fld O (fun c i => c && btw (lB s L 4) (s 47 i) (lB s L 5)) true (nM s) := by
    rw [Bool.eq_iff_iff, Bool.and_eq_true, decide_eq_true_iff, decide_eq_true_iff, bnd_min, bnd_max, alf_iff]
    unfold btw
    constructor
    · rintro ⟨⟨_, q1⟩, ⟨_, q2⟩⟩ i hi hO
      have a1 := q1 i hi hO
      have a2 := q2 i hi hO
      rw [i_le] at a1 a2
      exact decide_eq_true ⟨a1, a2⟩
    · intro q
      refine ⟨⟨?_, fun j hj hO => ?_⟩, ⟨?_, fun j hj hO => ?_⟩⟩
      · rw [e4, i_le, nI_toInt (by omega), show (1000 : Int32).toInt = 1000 from rfl]; omega
      · have := of_decide_eq_true (q j hj hO); rw [i_le]; exact this.1
      · rw [e5, i_le, nI_toInt (by omega), show (-1 : Int32).toInt = -1 from rfl]; omega
      · have := of_decide_eq_true (q j hj hO); rw [i_le]; exact this.2
  rw [c1, c2]
  cases btw (lB s L 0) (fld O (fun _ j => s 44 j) (-1) (nM s)) (lB s L 1) with
  | false => rfl
  | true =>
    rw [cond_true, if_neg (show ¬ true = false by decide)]
    cases fld O (fun c i => c && btw (lB s L 4) (s 47 i) (lB s L 5)) true (nM s) with
    | false => rfl
    | true =>
      rw [cond_true, if_neg (show ¬ true = false by decide), e2, e3, ix_nI (by omega), ix_nI (by omega), fdF_cong (b := t (118 + L)) (c := lB s L) (fun _ _ => rfl) hr]
