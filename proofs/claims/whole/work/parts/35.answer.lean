/-! the model's answer; fits, best, wanderers -/
theorem isTime_e (N : Nat) (u : Hp) {L B E v : Nat} (hL : L < 10) (h2 : lB u L 2 = nI B) (h3 : lB u L 3 = nI E) (hB : B < 1440) (hE : E < 1440) (hv : v < 10000) : f_X10_isTime N u (nI L) (nI v) = some (b01 (tmN B E v), u) := by
  unfold lB at h2 h3
  have g0 : (10 : Int32) * nI L = nI (10 * L) := pk_mul 10 L
  have g1 : irm (nI v) 1440 = nI (v % 1440) := pk_rem (d := 1440) (by omega) (by decide) (by decide)
  unfold f_X10_isTime f_X10_isTime_62 tmN
  rw [g0, show nI (10 * L) + 2 = nI (10 * L + 2) from nI_add _ 2, show nI (10 * L) + 3 = nI (10 * L + 3) from nI_add _ 3, inR_nI (show 10 * L + 2 < 110 by omega) (by decide), ck_t, vb_e, inR_nI (show 10 * L + 3 < 110 by omega) (by decide), ck_t, vb_e, vb_e, ix_nI (show 10 * L + 2 < 2 ^ 31 by omega), ix_nI (show 10 * L + 3 < 2 ^ 31 by omega), h2, h3, g1]
  by_cases h : E < B
  · rw [if_pos h, if_pos (nI_lt h (by omega))]
    by_cases q1 : B ≤ v % 1440
    · rw [if_pos (nI_le q1 (by omega)), decide_eq_true q1]; rfl
    · rw [if_neg (nI_ge (by omega) (by omega)), decide_eq_false q1, Bool.false_or]
      by_cases q2 : v % 1440 ≤ E
      · rw [if_neg (nI_nlt q2 (by omega)), decide_eq_true q2]; rfl
      · rw [if_pos (nI_lt (by omega) (by omega)), decide_eq_false q2]; rfl
  · rw [if_neg h, if_neg (nI_nlt (by omega) (by omega)), isIn_e, bd_e, isB_b01, ck_t]
    congr 3
    unfold btw
    rw [nI_toInt (by omega), nI_toInt (by omega), nI_toInt (by omega), Bool.eq_iff_iff, Bool.and_eq_true, decide_eq_true_iff, decide_eq_true_iff, decide_eq_true_iff]
    omega
theorem tmM_loop (N : Nat) (u : Hp) (k44 : Hp → Int32 → Int32 → Int32 → Int32 → Int32 → Option (Int32 × Hp)) (q x3 : Int32) {L B E j to : Nat} (hL : L < 10) (h2 : lB u L 2 = nI B) (h3 : lB u L 3 = nI E) (hB : B < 1440) (hE : E < 1440) (hj : j < 60) (hto : to < 10000) (h46 : u 46 j = nI to) : ∀ m v A R, to + 1 - v < m → v ≤ to + 1 → (R = true ↔ A = true ∧ ∀ w, v ≤ w → w ≤ to → tmN B E w = true) → lp (fun _ _ _ _ _ _ _ => none) (f_X10_answer_107 N k44) m u q (nI L) x3 (b01 A) (nI j) (nI v) = k44 u q (nI L) x3 (b01 R) (nI (j + 1))
  | 0, v, A, R, hm, _, _ => absurd hm (Nat.not_lt_zero _)
  | m + 1, v, A, R, hm, hv, hR => by
    have ih := fun A hv hR => tmM_loop N u k44 q x3 hL h2 h3 hB hE hj hto h46 m (v + 1) A R (by omega) hv hR
    have g2 : inR (nI j) 60 = true := inR_nI (by omega) (by decide)
    rw [lp_s]
    generalize lp (fun _ _ _ _ _ _ _ => none) (f_X10_answer_107 N k44) m = S at ih ⊢
    unfold f_X10_answer_107 f_X10_answer_139
    rw [g2, ck_t, ix_nI (show j < 2 ^ 31 by omega), h46, ifb]
    by_cases h : nI to < nI v
    · rw [if_pos h, vb_e, nI_1]
      rw [i_lt, nI_toInt (by omega), nI_toInt (by omega)] at h
      have e : A = R := by
        rw [Bool.eq_iff_iff, hR]
        exact ⟨fun a => ⟨a, fun w h1 h2 => by omega⟩, fun a => a.1⟩
      rw [e]
    · rw [if_neg h, vb_e, nI_1]
      rw [i_lt, nI_toInt (by omega), nI_toInt (by omega)] at h
      cases A with
      | false =>
        have e : R = false := by
          rw [Bool.eq_false_iff]
          intro z
          cases (hR.mp z).1
        rw [cond_false, e, nI_1]
      | true =>
        rw [cond_true, isTime_e N u hL h2 h3 hB hE (by omega), bd_e, vb_e]
        refine ih _ (by omega) ?_
        rw [hR]
        constructor
        · rintro ⟨_, z⟩
          exact ⟨z v (Nat.le_refl _) (by omega), fun w h1 h2 => z w (by omega) h2⟩
        · rintro ⟨z1, z2⟩
          refine ⟨rfl, fun w h1 h2 => ?_⟩
          by_cases e : w = v
          · rw [e]; exact z1
          · exact z2 w (by omega) h2
theorem fdM_loop {N : Nat} (hN : 101 ≤ N) {u : Hp} (p1 : E1 u) (p3 : E3 u) (q : Int32) {L : Nat} (hL : L < 10) : ∀ k f m A C, f + k = 1024 → k < m → (A = true ↔ ∃ g, g < f ∧ plG (fun j => decide (u 50 j = q)) u g (nM u) = true ∧ inS (lB u L) g = true) → (C = true ↔ ∀ g, g < f → plG (fun j => decide (u 50 j = q)) u g (nM u) = true → inS (lB u L) g = true) → lp (fun _ _ _ _ _ _ => none) (f_X10_answer_161 N) m u q (nI (10 * L)) (b01 A) (b01 C) (nI f) = some (fdF (fun f => plG (fun j => decide (u 50 j = q)) u f (nM u)) (lB u L), u)
  | k, f, 0, A, C, _, hm, _, _ => absurd hm (Nat.not_lt_zero k)
  | 0, f, m + 1, A, C, hf, _, hA, hC => by
    have ef : f = 1024 := by omega
    subst ef
    rw [lp_s]; unfold f_X10_answer_161
    rw [if_pos (show (1024 : Int32) ≤ nI 1024 by decide), fdF_end hA hC]
    cases A with
    | false => rfl
    | true => cases C <;> rfl
  | k + 1, f, m + 1, A, C, hf, hm, hA, hC => by
    have ih := fun A C => fdM_loop hN p1 p3 q hL k (f + 1) m A C (by omega) (by omega)
    have g1 : ¬ (1024 : Int32) ≤ nI f := nI_ge (b := 1024) (by omega) (by omega)
    rw [lp_s]
    generalize lp (fun _ _ _ _ _ _ => none) (f_X10_answer_161 N) m = S at ih ⊢
    have e281 : ∀ a b : Int32, f_X10_answer_281 N S u q (nI (10 * L)) a b (nI f) = S u q (nI (10 * L)) a b (nI (f + 1)) := fun a b => by
      unfold f_X10_answer_281
      rw [vb_e, nI_1]
    have e262 : ∀ (a T : Bool), f_X10_answer_262 N S u q (nI (10 * L)) (b01 C) (nI f) (b01 T) (b01 a) = S u q (nI (10 * L)) (b01 a) (b01 (C && T)) (nI (f + 1)) := fun a T => by
      unfold f_X10_answer_262 f_X10_answer_278 f_X10_answer_279
      rw [e281, e281]
      cases C <;> cases T <;> rfl
    have e245 : ∀ T : Bool, f_X10_answer_245 N S u q (nI (10 * L)) (b01 A) (b01 C) (nI f) (b01 T) = S u q (nI (10 * L)) (b01 (A || T)) (b01 (C && T)) (nI (f + 1)) := fun T => by
      have z0 := e262 false T
      have z1 := e262 true T
      unfold f_X10_answer_245 f_X10_answer_257
      rw [show f_X10_answer_262 N S u q (nI (10 * L)) (b01 C) (nI f) (b01 T) 0 = _ from z0, show f_X10_answer_262 N S u q (nI (10 * L)) (b01 C) (nI f) (b01 T) 1 = _ from z1]
      cases A <;> cases T <;> rfl
    have fin : ∀ T : Bool, plG (fun j => decide (u 50 j = q)) u f (nM u) = true → inS (lB u L) f = T → S u q (nI (10 * L)) (b01 (A || T)) (b01 (C && T)) (nI (f + 1)) = some (fdF (fun f => plG (fun j => decide (u 50 j = q)) u f (nM u)) (lB u L), u) := fun T hp hT => by
      refine ih _ _ ?_ ?_
      · rw [Bool.or_eq_true, hA]
        constructor
        · rintro (⟨g, h1, h2⟩ | h)
          · exact ⟨g, by omega, h2⟩
          · exact ⟨f, by omega, hp, by rw [hT]; exact h⟩
        · rintro ⟨g, h1, h2, h3⟩
          by_cases e : g = f
          · rw [e, hT] at h3; exact Or.inr h3
          · exact Or.inl ⟨g, by omega, h2, h3⟩
      · rw [Bool.and_eq_true, hC]
        constructor
        · rintro ⟨h1, h2⟩ g hg hpg
          by_cases e : g = f
          · rw [e, hT]; exact h2
          · exact h1 g (by omega) hpg
        · intro h
          exact ⟨fun g hg => h g (by omega), by rw [← hT]; exact h f (by omega) hp⟩
    unfold f_X10_answer_161 f_X10_answer_244
    rw [if_neg g1, isPlace_e hN p1 p3 q (show f < 1024 by omega), bd_e, ifb, e281]
    cases hp : plG (fun j => decide (u 50 j = q)) u f (nM u) with
    | false =>
      rw [cond_false]
      refine ih _ _ ?_ ?_
      · rw [hA]
        constructor
        · rintro ⟨g, h1, h2⟩; exact ⟨g, by omega, h2⟩
        · rintro ⟨g, h1, h2, h3⟩
          by_cases e : g = f
          · rw [e, hp] at h2; cases h2
          · exact ⟨g, by omega, h2, h3⟩
      · rw [hC]
        constructor
        · intro h g hg hpg
          by_cases e : g = f
          · rw [e, hp] at hpg; cases hpg
          · exact h g (by omega) hpg
        · intro h g hg
          exact h g (by omega)
    | true =>
      rw [cond_true, show nI (10 * L) + 6 = nI (10 * L + 6) from nI_add _ 6, show nI (10 * L) + 7 = nI (10 * L + 7) from nI_add _ 7, show nI (10 * L) + 8 = nI (10 * L + 8) from nI_add _ 8, show nI (10 * L) + 9 = nI (10 * L + 9) from nI_add _ 9, inR_nI (show 10 * L + 6 < 110 by omega) (by decide), ck_t, inR_nI (show 10 * L + 7 < 110 by omega) (by decide), ck_t, ix_nI (show 10 * L + 6 < 2 ^ 31 by omega), ix_nI (show 10 * L + 7 < 2 ^ 31 by omega), (fdiv (show f < 1024 by omega)).1, (fdiv (show f < 1024 by omega)).2, isIn_e, bd_e, ifb]
      have hin : inS (lB u L) f = (btw (u 53 (10 * L + 6)) (nI (f % 32)) (u 53 (10 * L + 7)) && btw (u 53 (10 * L + 8)) (nI (f / 32)) (u 53 (10 * L + 9))) := rfl
      have z0 := e245 false
      have z1 := e245 true
      rw [show f_X10_answer_245 N S u q (nI (10 * L)) (b01 A) (b01 C) (nI f) 0 = _ from z0]
      cases hx : btw (u 53 (10 * L + 6)) (nI (f % 32)) (u 53 (10 * L + 7)) with
      | false =>
        rw [cond_false]
        exact fin false hp (by rw [hin, hx]; rfl)
      | true =>
        rw [cond_true, inR_nI (show 10 * L + 8 < 110 by omega) (by decide), ck_t, inR_nI (show 10 * L + 9 < 110 by omega) (by decide), ck_t, ix_nI (show 10 * L + 8 < 2 ^ 31 by omega), ix_nI (show 10 * L + 9 < 2 ^ 31 by omega), isIn_e, bd_e, ifb, show f_X10_answer_245 N S u q (nI (10 * L)) (b01 A) (b01 C) (nI f) 1 = _ from z1]
        cases hy : btw (u 53 (10 * L + 8)) (nI (f / 32)) (u 53 (10 * L + 9)) with
        | false =>
          rw [cond_false, show f_X10_answer_245 N S u q (nI (10 * L)) (b01 A) (b01 C) (nI f) 0 = _ from z0]
          exact fin false hp (by rw [hin, hx, hy]; rfl)
        | true =>
          rw [cond_true]
          exact fin true hp (by rw [hin, hx, hy]; rfl)
theorem anM_loop {N : Nat} (hN : 10002 ≤ N) {u : Hp} (p1 : E1 u) (p3 : E3 u) (q : Int32) {L B E : Nat} (hL : L < 10) (h2 : lB u L 2 = nI B) (h3 : lB u L 3 = nI E) (hB : B < 1440) (hE : E < 1440) : ∀ k i m A, i + k = nM u → k < m → (A = true ↔ ∀ j, j < i → u 50 j = q → tmA B E (ix (u 45 j)) (ix (u 46 j)) = true) → (∀ j, j < i → u 50 j = q → btw (lB u L 4) (u 47 j) (lB u L 5) = true) → lp (fun _ _ _ _ _ _ => none) (f_X10_answer_44 N) m u q (nI L) (nI (10 * L)) (b01 A) (nI i) = some (if fld (fun j => decide (u 50 j = q)) (fun c i => c && btw (lB u L 4) (u 47 i) (lB u L 5)) true (nM u) = false then 2 else if fld (fun j => decide (u 50 j = q)) (fun c i => c && tmA B E (ix (u 45 i)) (ix (u 46 i))) true (nM u) = false then 3 else fdF (fun f => plG (fun j => decide (u 50 j = q)) u f (nM u)) (lB u L), u)
  | k, i, 0, A, _, hm, _, _ => absurd hm (Nat.not_lt_zero k)
  | 0, i, m + 1, A, hi, _, hA, hT => by
    have h60 := p3.2.2.2.2.2.2.2.2.1
    have e : i = nM u := by omega
    subst e
    have c2 : fld (fun j => decide (u 50 j = q)) (fun c i => c && btw (lB u L 4) (u 47 i) (lB u L 5)) true (nM u) = true := by
      rw [alf_iff]
      exact fun j hj hO => hT j hj (of_decide_eq_true hO)
    have c3 : fld (fun j => decide (u 50 j = q)) (fun c i => c && tmA B E (ix (u 45 i)) (ix (u 46 i))) true (nM u) = A := by
      rw [Bool.eq_iff_iff, alf_iff, hA]
      exact ⟨fun h j hj hO => h j hj (decide_eq_true hO), fun h j hj hO => h j hj (of_decide_eq_true hO)⟩
    rw [lp_s]; unfold f_X10_answer_44
    rw [p3.2.2.2.2.2.2.2.1, if_pos (nI_le (by omega) (by omega)), c2, c3, if_neg (show ¬ true = false by decide), ifb]
    cases A with
    | false => rfl
    | true =>
      rw [cond_true, if_neg (show ¬ true = false by decide)]
      exact fdM_loop (by omega) p1 p3 q hL 1024 0 N false true (by omega) (by omega) ⟨fun h => (by cases h), fun ⟨g, hg, _⟩ => by omega⟩ ⟨fun _ g hg => by omega, fun _ => rfl⟩
  | k + 1, i, m + 1, A, hi, hm, hA, hT => by
    have h60 := p3.2.2.2.2.2.2.2.2.1
    have ih := fun A => anM_loop hN p1 p3 q hL h2 h3 hB hE k (i + 1) m A (by omega) (by omega)
    have g1 : ¬ nI (nM u) ≤ nI i := nI_ge (by omega) (by omega)
    have g2 : inR (nI i) 60 = true := inR_nI (by omega) (by decide)
    obtain ⟨v1, v2, v3, v4, v5⟩ := spV_n (E3_sp p3) (show i < nM u by omega)
    rw [lp_s]
    generalize lp (fun _ _ _ _ _ _ => none) (f_X10_answer_44 N) m = S at ih ⊢
    unfold f_X10_answer_44 f_X10_answer_139
    rw [p3.2.2.2.2.2.2.2.1, if_neg g1, g2, ck_t, ck_t, ix_nI (show i < 2 ^ 31 by omega), show nI (10 * L) + 4 = nI (10 * L + 4) from nI_add _ 4, show nI (10 * L) + 5 = nI (10 * L + 5) from nI_add _ 5, inR_nI (show 10 * L + 4 < 110 by omega) (by decide), ck_t, inR_nI (show 10 * L + 5 < 110 by omega) (by decide), ck_t, ix_nI (show 10 * L + 4 < 2 ^ 31 by omega), ix_nI (show 10 * L + 5 < 2 ^ 31 by omega), isIn_e, bd_e, ifb, ck_t, vb_e]
    by_cases h : u 50 i = q
    · rw [if_pos h]
      cases hx : btw (u 53 (10 * L + 4)) (u 47 i) (u 53 (10 * L + 5)) with
      | false =>
        have c2 : fld (fun j => decide (u 50 j = q)) (fun c i => c && btw (lB u L 4) (u 47 i) (lB u L 5)) true (nM u) = false := by
          rw [Bool.eq_false_iff, ne_eq, alf_iff]
          intro z
          have z2 : btw (u 53 (10 * L + 4)) (u 47 i) (u 53 (10 * L + 5)) = true := z i (by omega) (decide_eq_true h)
          rw [hx] at z2
          cases z2
        rw [cond_false, c2, if_pos rfl]
      | true =>
        have tl := fun R hR => tmM_loop N u S q (nI (10 * L)) hL h2 h3 hB hE (show i < 60 by omega) v4 v2 N (ix (u 45 i)) A R (by omega) (by omega) hR
        rw [← v1] at tl
        have tl2 := tl (A && tmA B E (ix (u 45 i)) (ix (u 46 i))) (by rw [Bool.and_eq_true, tmA_iff])
        rw [cond_true]
        refine tl2.trans (ih _ ?_ ?_)
        · rw [Bool.and_eq_true, hA]
          constructor
          · rintro ⟨z1, z2⟩ j hj hO
            by_cases e : j = i
            · rw [e]; exact z2
            · exact z1 j (by omega) hO
          · intro z
            exact ⟨fun j hj => z j (by omega), z i (by omega) h⟩
        · intro j hj hO
          by_cases e : j = i
          · rw [e]; exact hx
          · exact hT j (by omega) hO
    · rw [if_neg h, vb_e, nI_1]
      refine ih _ ?_ ?_
      · rw [hA]
        constructor
        · intro z j hj hO
          by_cases e : j = i
          · rw [e] at hO; exact absurd hO h
          · exact z j (by omega) hO
        · intro z j hj
          exact z j (by omega)
      · intro j hj hO
        by_cases e : j = i
        · rw [e] at hO; exact absurd hO h
        · exact hT j (by omega) hO
/-- the leader of sender k, as the model has it -/
def Lead (u : Hp) (k : Nat) : Prop := ∃ l, l < nM u ∧ u 51 k = nI l ∧ u 50 l = nI k ∧ ∀ j, j < nM u → u 50 j = nI k → u 44 j = u 44 l
theorem answer_e {N : Nat} (hN : 10002 ≤ N) {u : Hp} (p : PS u) {k L : Nat} (hk : k < 60) (hl : Lead u k) (hL : L < nK u) : f_X10_answer N u (nI k) (nI L) = some (anF (fun j => decide (u 50 j = nI k)) u L, u) := by
  have hK10 := p.2.2.2.2.2.2.2.2.1.2.2.1
  have h60 := p.2.2.1.2.2.2.2.2.2.2.2.1
  obtain ⟨hlic, hrow⟩ := p.2.2.2.2.2.2.2.2.1.2.2.2 L hL
  have hlic' : licOK (lB u L) := hlic
  obtain ⟨h0, h1, h01, ⟨B, hB, e2⟩, ⟨E, hE, e3⟩, _, _, h45, _, _, _, _, _, _⟩ := id hlic'
  obtain ⟨l, hl1, hl2, hl3, hl4⟩ := hl
  have hj : l_X10_answer_44 N u (nI k) (nI L) (nI (10 * L)) 1 0 = _ := anM_loop hN p.1 p.2.2.1 (nI k) (show L < 10 by omega) e2 e3 hB hE (nM u) 0 N true (by omega) (by omega) ⟨fun _ j hj => absurd hj (Nat.not_lt_zero j), fun _ => rfl⟩ (fun j hj => absurd hj (Nat.not_lt_zero j))
  have hch : fld (fun j => decide (u 50 j = nI k)) (fun _ j => u 44 j) (-1) (nM u) = u 44 l := ch_eq (decide_eq_true hl3) (nM u) hl1 (fun j hj hO => hl4 j hj (of_decide_eq_true hO))
  have g0 : (10 : Int32) * nI L = nI (10 * L) := pk_mul 10 L
  unfold f_X10_answer anF
  rw [vb_e, g0, inR_nI (show k < 60 by omega) (by decide), ck_t, ix_nI (show k < 2 ^ 31 by omega), hl2, inR_nI (show l < 60 by omega) (by decide), ck_t, nI_1, inR_nI (show 10 * L < 110 by omega) (by decide), ck_t, inR_nI (show 10 * L + 1 < 110 by omega) (by decide), ck_t, ix_nI (show l < 2 ^ 31 by omega), ix_nI (show 10 * L < 2 ^ 31 by omega), ix_nI (show 10 * L + 1 < 2 ^ 31 by omega), isIn_e, bd_e, ifb, hj, hch, e2, e3, ix_nI (show B < 2 ^ 31 by omega), ix_nI (show E < 2 ^ 31 by omega)]
  show cond (btw (lB u L 0) (u 44 l) (lB u L 1)) _ _ = _
  cases btw (lB u L 0) (u 44 l) (lB u L 1) with
  | false => rw [cond_false, if_pos rfl]
  | true => rw [cond_true, if_neg (show ¬ true = false by decide)]
theorem drawn_ld {N : Nat} {s t u : Hp} {k l : Nat} (h : Drawn N s k t u l) : Lead u k := by
  obtain ⟨hD, pt, pu, sm, hj, h51, h50, hl, ol, hle⟩ := h
  refine ⟨l, by rw [nM_same sm]; exact hl, h51, by rw [h50 l hl, ol], fun j hj hO => ?_⟩
  rw [nM_same sm] at hj
  rw [h50 j hj] at hO
  rw [sm.1 44 rfl]
  exact (hle j hj hO).2
theorem nK_same {s u : Hp} (h : Same s u) : nK u = nK s := by unfold nK; rw [h.2.1 36 23 rfl]
theorem drawn_an {N : Nat} (hN : 10002 ≤ N) {s t u : Hp} {k l : Nat} (p : PS s) (hk : k < 60) (h : Drawn N s k t u l) : ∀ L, L < nK s → f_X1_judge N t (nI L) = some (anF (fun j => decide (s 20 j = nI k)) s L, t) ∧ f_X10_answer N u (nI k) (nI L) = some (anF (fun j => decide (s 20 j = nI k)) s L, u) := by
  intro L hL
  have hK10 := p.2.2.2.2.2.2.2.2.1.2.2.1
  refine ⟨judge_e (by omega) p _ h.1 hL, ?_⟩
  have sm := h.2.2.2.1
  rw [answer_e hN h.2.2.1 hk (drawn_ld h) (by rw [nK_same sm]; exact hL)]
  rw [anF_same sm (O2 := fun j => decide (s 20 j = nI k)) (fun j hj => by rw [h.2.2.2.2.2.2.1 j hj]) (by omega)]
theorem ok_fits {N : Nat} (hN : 10002 ≤ N) : ag_fits N PS := by
  intro x1 x2 s p
  obtain ⟨K, hK, hK2⟩ := cntK p
  have hK10 := p.2.2.2.2.2.2.2.2.1.2.2.1
  have e9 := p.2.2.2.2.2.2.2.2.1
  dsimp only
  by_cases h1 : inR x1 K = true
  · obtain ⟨k, hk, rfl⟩ := inR_vI h1 (by omega)
    by_cases h2 : inR x2 (nK s) = true
    · obtain ⟨L, hL, rfl⟩ := inR_vI h2 (by omega)
      obtain ⟨t, u, l, et, hd⟩ := drawn_e (N := N) (by omega) p hK hK2 hk
      obtain ⟨j1, j2⟩ := drawn_an hN p (by omega) hd L hL
      obtain ⟨hD, pt, pu, sm, hj, h51, h50, hl, ol, hle⟩ := hd
      refine ⟨anF (fun j => decide (s 20 j = nI k)) s L, t, u, ?_, ?_, pu⟩
      · unfold f_X9_fits
        rw [hK, isBelow_e N s _ (by omega), bd_e, h1, if_neg (by decide), e9.1, e9.2.1, isBelow_e N s _ (by omega), bd_e, h2, if_neg (by decide), et, bd_e, j1, bd_e]
      · unfold f_X10_fits
        rw [hj, bd_e, if_neg (by decide), sm.2.1 36 23 rfl, e9.2.1, isIn_e, btw_0 _ (by omega), bd_e, h2, if_neg (by decide), j2, bd_e]
    · have h2' := Bool.eq_false_iff.mpr h2
      obtain ⟨u0, ld, e0, sm0, nm0, h500, h1840, h36180, h510⟩ := isSender_e (N := N) (by omega) p (nI k)
      have pu0 := PS_same sm0 p
      have h60 := p.2.2.1.2.2.2.2.2.2.2.2.1
      have hle := fb_ct_le ld (nM s)
      rw [hK] at h1840
      have eK : K = fb_ct ld (nM s) := (nI_eq (by omega) (by omega)).mp h1840
      refine ⟨-1, s, u0, ?_, ?_, pu0⟩
      · unfold f_X9_fits
        rw [hK, isBelow_e N s _ (by omega), bd_e, h1, if_neg (by decide), e9.1, e9.2.1, isBelow_e N s _ (by omega), bd_e, h2', if_pos (show b01 false = 0 from rfl)]
      · unfold f_X10_fits
        rw [e0, bd_e, ← eK, inR_nI hk (by omega), if_neg (by decide), sm0.2.1 36 23 rfl, e9.2.1, isIn_e, btw_0 _ (by omega), bd_e, h2', if_pos (show b01 false = 0 from rfl)]
  · have h1' := Bool.eq_false_iff.mpr h1
    obtain ⟨u, eu, pu⟩ := noSender (N := N) (by omega) p hK hK2 h1'
    refine ⟨-1, s, u, ?_, ?_, pu⟩
    · unfold f_X9_fits
      rw [hK, isBelow_e N s _ (by omega), bd_e, h1', if_pos (show b01 false = 0 from rfl)]
    · unfold f_X10_fits
      rw [eu, bd_e, if_pos rfl]
