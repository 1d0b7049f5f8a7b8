/-! mark -/
def cov (P C F T : Nat → Int32) (n : Nat) (a c : Int32) (u : Nat) : Prop := ∃ j, j < n ∧ P j = a ∧ C j = c ∧ ix (F j) ≤ u ∧ u ≤ ix (T j)
theorem open_loop (N : Nat) (s : Hp) (a c : Int32) {n x : Nat} (h : s 4 4 = nI n) (hn : n ≤ 100) (hv : spV (s 7) (s 8) n) (hx : x ≤ 10000) : ∀ k i m y, i + k = n → k < m → y ≤ 10000 → ∃ y', lp (fun _ _ _ _ _ _ => none) (f_X7_openBehind_6 N) m s a c (nI x) (nI y) (nI i) = some (nI y', s) ∧ y ≤ y' ∧ y' ≤ 10000 ∧ (∀ j, i ≤ j → j < n → s 5 j = a → s 6 j = c → ix (s 7 j) ≤ x → ix (s 8 j) + 1 ≤ y') ∧ (y' = y ∨ ∃ j, j < n ∧ s 5 j = a ∧ s 6 j = c ∧ ix (s 7 j) ≤ x ∧ y' = ix (s 8 j) + 1)
  | k, i, 0, y, _, hm, _ => absurd hm (Nat.not_lt_zero k)
  | 0, i, m + 1, y, hi, _, hy => by
    rw [lp_s]; unfold f_X7_openBehind_6
    rw [h, if_pos (nI_le (by omega) (by omega))]
    exact ⟨y, rfl, Nat.le_refl _, hy, fun j _ _ => by omega, Or.inl rfl⟩
  | k + 1, i, m + 1, y, hi, hm, hy => by
    have ih := fun y hy => open_loop N s a c h hn hv hx k (i + 1) m y (by omega) (by omega) hy
    have g1 : ¬ nI n ≤ nI i := nI_ge (by omega) (by omega)
    have g2 : inR (nI i) 100 = true := inR_nI (by omega) (by decide)
    have g3 : ix (nI i) = i := ix_nI (by omega)
    obtain ⟨v1, v2, v3, v4, v5⟩ := spV_n hv (show i < n by omega)
    rw [lp_s]
    generalize lp (fun _ _ _ _ _ _ => none) (f_X7_openBehind_6 N) m = S at ih ⊢
    have e64 : ∀ (u : Hp) (z : Int32), f_X7_openBehind_64 N S u a c (nI x) z (nI i) = S u a c (nI x) z (nI (i + 1)) := fun u z => by
      unfold f_X7_openBehind_64
      rw [vb_e, nI_1]
    unfold f_X7_openBehind_6
    rw [h, if_neg g1, g2, ck_t, ck_t, ck_t, ck_t, vb_e, g3, e64, e64]
    have skip : ¬ (s 5 i = a ∧ s 6 i = c ∧ ix (s 7 i) ≤ x) → ∃ y', S s a c (nI x) (nI y) (nI (i + 1)) = some (nI y', s) ∧ y ≤ y' ∧ y' ≤ 10000 ∧ (∀ j, i ≤ j → j < n → s 5 j = a → s 6 j = c → ix (s 7 j) ≤ x → ix (s 8 j) + 1 ≤ y') ∧ (y' = y ∨ ∃ j, j < n ∧ s 5 j = a ∧ s 6 j = c ∧ ix (s 7 j) ≤ x ∧ y' = ix (s 8 j) + 1) := fun hs => by
      obtain ⟨y', e, r1, r2, r3, r4⟩ := ih y hy
      refine ⟨y', e, r1, r2, fun j hj hjn q1 q2 q3 => ?_, r4⟩
      by_cases ej : j = i
      · subst ej; exact absurd ⟨q1, q2, q3⟩ hs
      · exact r3 j (by omega) hjn q1 q2 q3
    by_cases h1 : s 5 i = a
    · rw [if_pos h1]
      by_cases h2 : s 6 i = c
      · rw [if_pos h2]
        by_cases h3 : nI x < s 7 i
        · rw [if_pos h3]
          refine skip (fun q => ?_)
          rw [v1, i_lt, nI_toInt (by omega), nI_toInt (by omega)] at h3
          omega
        · rw [if_neg h3]
          rw [v1, i_lt, nI_toInt (by omega), nI_toInt (by omega)] at h3
          rw [v2, nI_1, nI_imax (by omega) (by omega)]
          obtain ⟨y', e, r1, r2, r3, r4⟩ := ih (max y (ix (s 8 i) + 1)) (by omega)
          refine ⟨y', e, by omega, r2, fun j hj hjn q1 q2 q3 => ?_, ?_⟩
          · by_cases ej : j = i
            · subst ej; omega
            · exact r3 j (by omega) hjn q1 q2 q3
          · rcases r4 with r4 | r4
            · rcases Nat.le_total (ix (s 8 i) + 1) y with q | q
              · exact Or.inl (by omega)
              · exact Or.inr ⟨i, by omega, h1, h2, by omega, by omega⟩
            · exact Or.inr r4
      · rw [if_neg h2]; exact skip (fun q => h2 q.2.1)
    · rw [if_neg h1]; exact skip (fun q => h1 q.1)
theorem hold_loop {N : Nat} (hN : 101 ≤ N) (s : Hp) (a c : Int32) {n fr to : Nat} (h : s 4 4 = nI n) (hn : n ≤ 100) (hv : spV (s 7) (s 8) n) (hto : to < 10000) : ∀ k r m o, r + k = n → k < m → fr ≤ o → o ≤ 10000 → (∀ u, fr ≤ u → u < o → cov (s 5) (s 6) (s 7) (s 8) n a c u) → ((∀ u, fr ≤ u → u ≤ to → cov (s 5) (s 6) (s 7) (s 8) n a c u) → r ≤ fb_ct (fun j => decide (ix (s 8 j) < o)) n) → ∃ b, lp (fun _ _ _ _ _ _ => none) (f_X7_holdsEach_6 N) m s a c (nI to) (nI o) (nI r) = some (b01 b, s) ∧ (b = true ↔ ∀ u, fr ≤ u → u ≤ to → cov (s 5) (s 6) (s 7) (s 8) n a c u)
  | k, r, 0, o, _, hm, _, _, _, _ => absurd hm (Nat.not_lt_zero k)
  | 0, r, m + 1, o, hr, _, ho, ho2, hc, hg => by
    rw [lp_s]; unfold f_X7_holdsEach_6 f_X7_holdsEach_38
    rw [h, if_pos (nI_le (by omega) (by omega))]
    by_cases h1 : nI o ≤ nI to
    · rw [if_pos h1]
      rw [i_le, nI_toInt (by omega), nI_toInt (by omega)] at h1
      refine ⟨false, rfl, fun q => (by cases q), fun q => ?_⟩
      have h2 := hg q
      have h3 : fb_ct (fun j => decide (ix (s 8 j) < o)) n = n := by have := fb_ct_le (fun j => decide (ix (s 8 j) < o)) n; omega
      rw [fb_ct_all] at h3
      obtain ⟨j, hj, _, _, _, q5⟩ := q o ho (by omega)
      have := of_decide_eq_true (h3 j hj)
      omega
    · rw [if_neg h1]
      rw [i_le, nI_toInt (by omega), nI_toInt (by omega)] at h1
      exact ⟨true, rfl, fun _ u hu hu2 => hc u hu (by omega), fun _ => rfl⟩
  | k + 1, r, m + 1, o, hr, hm, ho, ho2, hc, hg => by
    have ih := fun o => hold_loop hN s a c (fr := fr) h hn hv hto k (r + 1) m o (by omega) (by omega)
    have g1 : ¬ nI n ≤ nI r := nI_ge (by omega) (by omega)
    rw [lp_s]
    generalize lp (fun _ _ _ _ _ _ => none) (f_X7_holdsEach_6 N) m = S at ih ⊢
    unfold f_X7_holdsEach_6 f_X7_holdsEach_38
    rw [h, if_neg g1]
    by_cases h1 : nI to < nI o
    · rw [if_pos h1]
      rw [i_lt, nI_toInt (by omega), nI_toInt (by omega)] at h1
      rw [if_neg (by rw [i_le, nI_toInt (by omega), nI_toInt (by omega)]; omega)]
      exact ⟨true, rfl, fun _ u hu hu2 => hc u hu (by omega), fun _ => rfl⟩
    · rw [if_neg h1]
      rw [i_lt, nI_toInt (by omega), nI_toInt (by omega)] at h1
      obtain ⟨y', e, r1, r2, r3, r4⟩ := open_loop N s a c h hn hv ho2 n 0 N o (by omega) (by omega) ho2
      have e' : f_X7_openBehind N s a c (nI o) = some (nI y', s) := e
      rw [e', bd_e, vb_e, nI_1]
      refine ih y' (by omega) r2 (fun u hu hu2 => ?_) (fun hall => ?_)
      · rcases Nat.lt_or_ge u o with q | q
        · exact hc u hu q
        · rcases r4 with r4 | ⟨j, hj, q1, q2, q3, q4⟩
          · omega
          · exact ⟨j, hj, q1, q2, by omega, by omega⟩
      · have h2 := hg hall
        obtain ⟨j, hj, q1, q2, q3, q4⟩ := hall o ho (by omega)
        have hy := r3 j (Nat.zero_le _) hj q1 q2 q3
        have hup := fb_ct_upd (fun x => decide (ix (s 8 x) < o)) true hj
        have hs : fb_ct (fun k => if k = j then true else decide (ix (s 8 k) < o)) n ≤ fb_ct (fun x => decide (ix (s 8 x) < y')) n := fb_ct_sub (fun x hx q => by
          by_cases ex : x = j
          · subst ex; exact decide_eq_true (by omega)
          · rw [if_neg ex] at q
            have := of_decide_eq_true q
            exact decide_eq_true (by omega))
        rw [if_neg (show ¬ decide (ix (s 8 j) < o) = true by rw [decide_eq_true_iff]; omega), if_pos rfl] at hup
        omega
theorem holdsEach_e {N : Nat} (hN : 101 ≤ N) {s : Hp} (p2 : E2 s) (a c : Int32) {fr to : Nat} (hf : fr ≤ to) (hto : to < 10000) : ∃ b, f_X7_holdsEach N s a c (nI fr) (nI to) = some (b01 b, s) ∧ (b = true ↔ ∀ u, fr ≤ u → u ≤ to → cov (s 39) (s 40) (s 41) (s 42) (nL s) a c u) := by
  obtain ⟨e1, e2, e3, e4, e5, e6, e7, e8⟩ := id p2
  have hv : spV (s 7) (s 8) (nL s) := by rw [e4, e5]; exact E2_sp p2
  have := hold_loop hN s a c (e1.trans e6) e7 hv hto (nL s) 0 N fr (by omega) (by omega) (Nat.le_refl _) (by omega) (fun u _ _ => by omega) (fun _ => Nat.zero_le _)
  rw [e2, e3, e4, e5] at this
  exact this
theorem was_cov {s : Hp} (p2 : E2 s) {a c : Int32} (ha : ¬ a < 0) {u : Nat} (hu : u < 10000) : (exF (fun j => (decide (a < 0) || decide (s 39 j = a)) && inB (s 40) (s 41) (s 42) c (nI u) j) (nL s) 0 = true) ↔ cov (s 39) (s 40) (s 41) (s 42) (nL s) a c u := by
  rw [exF_iff]
  unfold cov
  constructor
  · rintro ⟨j, h1, h2, h3⟩
    have hj : j < nL s := by omega
    rw [decide_eq_false ha, Bool.false_or, inB_nat (E2_sp p2) hj (by omega), Bool.and_eq_true, decide_eq_true_iff, decide_eq_true_iff] at h3
    exact ⟨j, hj, h3.1, h3.2.1, h3.2.2.1, h3.2.2.2⟩
  · rintro ⟨j, hj, h1, h2, h3, h4⟩
    refine ⟨j, Nat.zero_le _, by omega, ?_⟩
    rw [decide_eq_false ha, Bool.false_or, inB_nat (E2_sp p2) hj (by omega), Bool.and_eq_true, decide_eq_true_iff, decide_eq_true_iff]
    exact ⟨h1, h2, h3, h4⟩
theorem mkM_loop {N : Nat} (hN : 101 ≤ N) {s : Hp} (p2 : E2 s) {a c f o : Int32} (ha : ¬ a < 0) {n to : Nat} (hm8 : s 36 8 = nI n) (hn : n < 60) (hto : to < 10000) {b : Bool} : ∀ m u, to + 1 - u < m → u ≤ to + 1 → (b = true ↔ ∀ v, u ≤ v → v ≤ to → cov (s 39) (s 40) (s 41) (s 42) (nL s) a c v) → lp (fun _ _ _ _ _ _ _ => none) (f_X10_mark_53 N) m s a c f (nI to) o (nI u) = cond b (some (nI n, hset (hset (hset (hset (hset (hset s 43 n a) 44 n c) 45 n f) 46 n (nI to)) 47 n o) 36 8 (nI (n + 1)))) (some (-1, s))
  | 0, u, hm, _, _ => absurd hm (Nat.not_lt_zero _)
  | m + 1, u, hm, hu, hb => by
    have ih := fun hu hb => mkM_loop hN p2 (c := c) (f := f) (o := o) ha hm8 hn hto (b := b) m (u + 1) (by omega) hu hb
    rw [lp_s]
    generalize lp (fun _ _ _ _ _ _ _ => none) (f_X10_mark_53 N) m = S at ih ⊢
    unfold f_X10_mark_53
    by_cases h1 : nI to < nI u
    · rw [if_pos h1]
      rw [i_lt, nI_toInt (by omega), nI_toInt (by omega)] at h1
      have hb1 : b = true := hb.mpr (fun v hv hv2 => by omega)
      rw [hb1, cond_true]
      have g3 : inR (nI n) 60 = true := inR_nI hn (by decide)
      have g4 : ix (nI n) = n := ix_nI (by omega)
      have g5 : nI n + 1 = nI (n + 1) := nI_1 n
      have g6 : nI (n + 1) - 1 = nI n := nI_pred n
      simp [hm8, g3, g4, ck_t, sb_e, hset_rd, g5, g6]
    · rw [if_neg h1, was_e hN p2, bd_e, ifb, vb_e, nI_1]
      rw [i_lt, nI_toInt (by omega), nI_toInt (by omega)] at h1
      have hw := was_cov p2 (c := c) ha (show u < 10000 by omega)
      cases hx : exF (fun j => (decide (a < 0) || decide (s 39 j = a)) && inB (s 40) (s 41) (s 42) c (nI u) j) (nL s) 0 with
      | true =>
        rw [cond_true]
        rw [hx] at hw
        refine ih (by omega) (hb.trans ⟨fun q v hv hv2 => q v (by omega) hv2, fun q v hv hv2 => ?_⟩)
        by_cases ev : v = u
        · subst ev; exact hw.mp rfl
        · exact q v (by omega) hv2
      | false =>
        rw [cond_false]
        rw [hx] at hw
        have hb1 : b = false := by
          rw [Bool.eq_false_iff]
          intro q
          have := hw.mpr (hb.mp q u (Nat.le_refl _) (by omega))
          cases this
        rw [hb1, cond_false]
theorem ok_mark {N : Nat} (hN : 10002 ≤ N) : ag_mark N PS := by
  intro a c f t o s p
  obtain ⟨p1, p2, p3, p4, p5, p6, p7, p8, p9, p10⟩ := id p
  have hp6 : nP s < 2 ^ 31 := by have := p1.2.2.2.2; omega
  have h60 := p3.2.2.2.2.2.2.2.2.1
  obtain ⟨e1, e2, e3, e4, e5, e6, e7, e8, e9, e10, e11, e12, e13⟩ := id p3
  dsimp only
  have hA : f_X9_isHearing N s a c f t = some (b01 (hrB (nP s) a c f t), s) := isHearing_e N s a c f t (p1.1.trans p1.2.2.2.1) hp6
  generalize hn : nM s = n at e8 e9 e10 e12 e13 h60
  by_cases h1 : hrB (nP s) a c f t = true ∧ inR o 1000 = true ∧ n < 60
  · obtain ⟨hh, ho, hn1⟩ := h1
    obtain ⟨v1, v2, v3, v4, v5⟩ := hrB_v hh hp6
    have ha0 : ¬ a < 0 := by obtain ⟨x, hx, rfl⟩ := v1; rw [i_lt, i_0, nI_toInt (by omega)]; omega
    obtain ⟨fr, hfr, ef⟩ := id v3
    obtain ⟨to, hto, et⟩ := id v4
    have hft : fr ≤ to := by rw [ef, et, i_le, nI_toInt (by omega), nI_toInt (by omega)] at v5; omega
    obtain ⟨b, hb1, hb2⟩ := holdsEach_e (N := N) (by omega) p2 a c hft hto
    rw [← ef, ← et] at hb1
    have g1 : nI n < 60 := nI_lt hn1 (by decide)
    have g1' : ¬ 60 ≤ nI n := fun q => by rw [i_lt] at g1; rw [i_le] at q; omega
    have g2 : ¬ nI n = 60 := fun q => by have := (nI_eq (show n < 2 ^ 31 by omega) (by decide)).mp (show nI n = nI 60 from q); omega
    have g3 : inR (nI n) 60 = true := inR_nI hn1 (by decide)
    have g4 : ix (nI n) = n := ix_nI (by omega)
    have g5 : nI n + 1 = nI (n + 1) := nI_1 n
    have g6 : nI (n + 1) - 1 = nI n := nI_pred n
    have g7 : ¬ nI n = -1 := fun q => m1_ne (show n < 2 ^ 31 by omega) q.symm
    have mB : ∀ w : Hp, E2 w → w 36 8 = nI n → w 36 0 = s 36 0 → (b = true ↔ ∀ u, fr ≤ u → u ≤ to → cov (w 39) (w 40) (w 41) (w 42) (nL w) a c u) → f_X10_mark N w a c f t o = cond b (some (nI n, hset (hset (hset (hset (hset (hset w 43 n a) 44 n c) 45 n f) 46 n t) 47 n o) 36 8 (nI (n + 1)))) (some (-1, w)) := fun w w2 w8 w0 wb => by
      unfold f_X10_mark
      rw [hearM N w a c f t (n := nP s) (w0.trans p1.2.2.2.1) hp6 _ none, if_pos hh, isIn_e, btw_lit o (show (999 : Int32) = nI 999 from rfl) (by decide), bd_e, ho, if_neg (by decide), w8, if_neg g2]
      have := mkM_loop (N := N) (by omega) w2 (c := c) (f := f) (o := o) ha0 w8 hn1 hto N fr (by omega) (by omega) wb
      rw [← et, ← ef] at this
      exact this
    cases b with
    | false =>
      refine ⟨-1, s, s, ?_, ?_, p⟩
      · unfold f_X9_mark
        rw [hA, bd_e, hh, if_neg (by decide), show (1000 : Int32) = nI 1000 from rfl, isBelow_e N s o (by decide), bd_e, ho, if_neg (by decide), e1, e8, if_neg g1', hb1, bd_e]
        rfl
      · rw [mB s p2 e8 rfl hb2, cond_false]
    | true =>
      have hc5 : ∀ (x : Nat → Int32) (v : Int32) (i : Nat), i ≠ n → upd x n v i = x i := fun x v i hi => by simp [upd, hi]
      have hc6 : ∀ (x : Nat → Int32) (v : Int32), upd x n v n = v := fun x v => by simp [upd]
      have hmk : mkV (upd (s 15) n o) (upd (s 13) n f) (upd (s 14) n t) (n + 1) := by
        intro i hi
        by_cases ei : i = n
        · rw [ei, hc6, hc6, hc6]; exact ⟨v3, v4, inR_vI ho (by decide)⟩
        · rw [hc5 _ _ _ ei, hc5 _ _ _ ei, hc5 _ _ _ ei, e6, e4, e5]
          have := e10 i (by omega)
          exact ⟨this.2.2.1, this.2.2.2.1, this.2.2.2.2.2⟩
      obtain ⟨w, ld, ew, r1, r2, r3, r4⟩ := gather_e (N := N) (by omega) (hset (hset (hset (hset (hset (hset s 11 n a) 12 n c) 13 n f) 14 n t) 10 4 (nI (n + 1))) 15 n o) (n := n + 1) (by omega) rfl hmk
      have r0 : ∀ d, d ≠ 18 → d ≠ 19 → d ≠ 20 → d ≠ 11 → d ≠ 12 → d ≠ 13 → d ≠ 14 → d ≠ 10 → d ≠ 15 → w d = s d := fun d c1 c2 c3 c4 c5 c6 c7 c8 c9 => by rw [r1 d c1 c2 c3, hset_d c9, hset_d c8, hset_d c7, hset_d c6, hset_d c5, hset_d c4]
      have q36 : w 36 = s 36 := r0 36 (by decide) (by decide) (by decide) (by decide) (by decide) (by decide) (by decide) (by decide) (by decide)
      have w2 : E2 w := E2_fr p2 (by rw [r0 4] <;> decide) (by rw [q36]) (by rw [r0 5] <;> decide) (by rw [r0 6] <;> decide) (by rw [r0 7] <;> decide) (by rw [r0 8] <;> decide) (by rw [r0 39] <;> decide) (by rw [r0 40] <;> decide) (by rw [r0 41] <;> decide) (by rw [r0 42] <;> decide)
      refine ⟨nI n, w, hset (hset (hset (hset (hset (hset w 43 n a) 44 n c) 45 n f) 46 n t) 47 n o) 36 8 (nI (n + 1)), ?_, ?_, ?_⟩
      · unfold f_X9_mark
        rw [hA, bd_e, hh, if_neg (by decide), show (1000 : Int32) = nI 1000 from rfl, isBelow_e N s o (by decide), bd_e, ho, if_neg (by decide), e1, e8, if_neg g1', hb1, bd_e, if_neg (by decide)]
        have ea : f_X2_add N s a c f t o = some (nI n, hset (hset (hset (hset (hset (hset s 11 n a) 12 n c) 13 n f) 14 n t) 10 4 (nI (n + 1))) 15 n o) := by
          unfold f_X2_add f_X7_add_b
          simp [e1, e8, g1, g3, g4, ck_t, sb_e, bd_e, hset_rd, g5, g6, g7]
        rw [ea, bd_e, ew, bd_e]
      · rw [mB w w2 (by rw [q36]; exact e8) (by rw [q36]) (by
          unfold nL
          rw [q36, r0 39 (by decide) (by decide) (by decide) (by decide) (by decide) (by decide) (by decide) (by decide) (by decide), r0 40 (by decide) (by decide) (by decide) (by decide) (by decide) (by decide) (by decide) (by decide) (by decide), r0 41 (by decide) (by decide) (by decide) (by decide) (by decide) (by decide) (by decide) (by decide) (by decide), r0 42 (by decide) (by decide) (by decide) (by decide) (by decide) (by decide) (by decide) (by decide) (by decide)]
          exact hb2), cond_true]
      · generalize hu : hset (hset (hset (hset (hset (hset w 43 n a) 44 n c) 45 n f) 46 n t) 47 n o) 36 8 (nI (n + 1)) = u
        have u0 : ∀ d, d ≠ 36 → d ≠ 43 → d ≠ 44 → d ≠ 45 → d ≠ 46 → d ≠ 47 → u d = w d := fun d c1 c2 c3 c4 c5 c6 => by rw [← hu, hset_d c1, hset_d c6, hset_d c5, hset_d c4, hset_d c3, hset_d c2]
        have uw : ∀ d, d ≠ 36 → d ≠ 43 → d ≠ 44 → d ≠ 45 → d ≠ 46 → d ≠ 47 → d ≠ 18 → d ≠ 19 → d ≠ 20 → d ≠ 11 → d ≠ 12 → d ≠ 13 → d ≠ 14 → d ≠ 10 → d ≠ 15 → u d = s d := fun d a1 a2 a3 a4 a5 a6 c1 c2 c3 c4 c5 c6 c7 c8 c9 => (u0 d a1 a2 a3 a4 a5 a6).trans (r0 d c1 c2 c3 c4 c5 c6 c7 c8 c9)
        have u36 : ∀ k, k ≠ 8 → u 36 k = s 36 k := fun k hk => by rw [← hu, hs_slot hk, hset_d (by decide), hset_d (by decide), hset_d (by decide), hset_d (by decide), hset_d (by decide), q36]
        have u368 : u 36 8 = nI (n + 1) := by rw [← hu, hs_same]
        have un : nM u = n + 1 := by unfold nM; rw [u368, ix_nI (by omega)]
        have u43 : u 43 = upd (s 43) n a := by
          rw [← hu]
          show upd (w 43) n a = _
          rw [r0 43] <;> decide
        have u44 : u 44 = upd (s 44) n c := by
          rw [← hu]
          show upd (w 44) n c = _
          rw [r0 44] <;> decide
        have u45 : u 45 = upd (s 45) n f := by
          rw [← hu]
          show upd (w 45) n f = _
          rw [r0 45] <;> decide
        have u46 : u 46 = upd (s 46) n t := by
          rw [← hu]
          show upd (w 46) n t = _
          rw [r0 46] <;> decide
        have u47 : u 47 = upd (s 47) n o := by
          rw [← hu]
          show upd (w 47) n o = _
          rw [r0 47] <;> decide
        have u18 : ∀ k, u 18 k = w 18 k := fun k => by rw [u0 18] <;> decide
        have k48 : u 48 = s 48 := by rw [uw 48] <;> decide
        have k10 : u 10 4 = nI (n + 1) := by rw [u0 10 (by decide) (by decide) (by decide) (by decide) (by decide) (by decide), r1 10 (by decide) (by decide) (by decide)]; rfl
        have k11 : u 11 = upd (s 11) n a := by rw [u0 11 (by decide) (by decide) (by decide) (by decide) (by decide) (by decide), r1 11 (by decide) (by decide) (by decide)]; rfl
        have k12 : u 12 = upd (s 12) n c := by rw [u0 12 (by decide) (by decide) (by decide) (by decide) (by decide) (by decide), r1 12 (by decide) (by decide) (by decide)]; rfl
        have k13 : u 13 = upd (s 13) n f := by rw [u0 13 (by decide) (by decide) (by decide) (by decide) (by decide) (by decide), r1 13 (by decide) (by decide) (by decide)]; rfl
        have k14 : u 14 = upd (s 14) n t := by rw [u0 14 (by decide) (by decide) (by decide) (by decide) (by decide) (by decide), r1 14 (by decide) (by decide) (by decide)]; rfl
        have k15 : u 15 = upd (s 15) n o := by rw [u0 15 (by decide) (by decide) (by decide) (by decide) (by decide) (by decide), r1 15 (by decide) (by decide) (by decide)]; rfl
        have k16 : u 16 = s 16 := by rw [uw 16] <;> decide
        have k20 : u 20 = w 20 := by rw [u0 20] <;> decide
        have nPu : nP u = nP s := by unfold nP; rw [u36 0 (by decide)]
        refine ⟨E1_fr p1 (by rw [uw 1] <;> decide) (u36 0 (by decide)) (by rw [uw 2] <;> decide) (by rw [uw 3] <;> decide) (by rw [uw 37] <;> decide) (by rw [uw 38] <;> decide), E2_fr p2 (by rw [uw 4] <;> decide) (u36 3 (by decide)) (by rw [uw 5] <;> decide) (by rw [uw 6] <;> decide) (by rw [uw 7] <;> decide) (by rw [uw 8] <;> decide) (by rw [uw 39] <;> decide) (by rw [uw 40] <;> decide) (by rw [uw 41] <;> decide) (by rw [uw 42] <;> decide), ⟨?_, ?_, ?_, ?_, ?_, ?_, ?_, ?_, ?_, ?_, ?_, ?_, ?_⟩, ?_, E5_fr p5 ?_ ?_ (u36 16 (by decide)) (u36 17 (by decide)), ⟨ld, ?_, ?_⟩, E7_fr p7 (by rw [uw 24] <;> decide) (u36 22 (by decide)) (by rw [uw 25] <;> decide) (by rw [uw 52] <;> decide), E8_fr p8 (by rw [uw 26] <;> decide) (by rw [uw 26] <;> decide) (u36 25 (by decide)) (u36 26 (by decide)), E9_fr p9 (by rw [uw 28] <;> decide) (u36 23 (by decide)) (fun j _ => by rw [uw 53] <;> decide) (fun i hi => by rw [uw (118 + i)] <;> omega), E10_fr p10 (by rw [uw 30] <;> decide) (u36 31 (by decide)) (by rw [uw 35] <;> decide) (by rw [uw 54] <;> decide)⟩
        · rw [k10, u368]
        · rw [k11, u43, e2]
        · rw [k12, u44, e3]
        · rw [k13, u45, e4]
        · rw [k14, u46, e5]
        · rw [k15, u47, e6]
        · rw [k16, k48, e7]
        · rw [u368, un]
        · rw [un]; omega
        · rw [un, nPu, u43, u44, u45, u46, u47]
          intro i hi
          by_cases ei : i = n
          · rw [ei, hc6, hc6, hc6, hc6, hc6]; exact ⟨v1, v2, v3, v4, v5, inR_vI ho (by decide)⟩
          · rw [hc5 _ _ _ ei, hc5 _ _ _ ei, hc5 _ _ _ ei, hc5 _ _ _ ei, hc5 _ _ _ ei]
            exact e10 i (by omega)
        · rw [k48]; exact e11
        · rw [k48, un]; exact fun i hi => e12 i (by omega)
        · rw [k48, un, show u 9 = s 9 by rw [uw 9] <;> decide, e13, fb_ct_succ, e12 n (Nat.le_refl _)]; rfl
        · intro m hm hw g hg
          rw [un] at hm
          rw [k48] at hw
          have hmn : m ≠ n := fun q => by rw [q, e12 n (Nat.le_refl _)] at hw; exact absurd hw (by decide)
          have key : liesB u m g = liesB s m g := by
            unfold liesB
            rw [u43, hc5 _ _ _ hmn, show u 49 = s 49 by rw [uw 49] <;> decide, show u 37 = s 37 by rw [uw 37] <;> decide, show u 38 = s 38 by rw [uw 38] <;> decide]
          rw [key, uw (58 + m) (by omega) (by omega) (by omega) (by omega) (by omega) (by omega) (by omega) (by omega) (by omega) (by omega) (by omega) (by omega) (by omega) (by omega) (by omega)]
          exact p4 m (by omega) hw g hg
        · rw [u18, r2 2 (by decide)]; rfl
        · rw [u18, r2 3 (by decide)]; rfl
        · rw [un, jnB_G, k20, u44, u45, u46, u47, u36 16 (by decide), u36 17 (by decide), ← p5.1, ← p5.2.1, ← e3, ← e4, ← e5, ← e6]
          exact r3
        · rw [un, u18]; exact r4
  · have ea : f_X9_mark N s a c f t o = some (-1, s) := by
      unfold f_X9_mark
      rw [hA, bd_e, ifb]
      cases hh : hrB (nP s) a c f t with
      | false => rfl
      | true =>
        rw [cond_true, show (1000 : Int32) = nI 1000 from rfl, isBelow_e N s o (by decide), bd_e, ifb]
        cases ho : inR o 1000 with
        | false => rfl
        | true =>
          have h6 : n = 60 := by
            rcases Nat.lt_or_ge n 60 with q | q
            · exact absurd ⟨hh, ho, q⟩ h1
            · omega
          rw [cond_true, e1, e8, h6]; rfl
    have eb : f_X10_mark N s a c f t o = some (-1, s) := by
      unfold f_X10_mark
      rw [hearM N s a c f t (n := nP s) p1.2.2.2.1 hp6 _ none]
      by_cases hh : hrB (nP s) a c f t = true
      · rw [if_pos hh, isIn_e, btw_lit o (show (999 : Int32) = nI 999 from rfl) (by decide), bd_e, ifb]
        cases ho : inR o 1000 with
        | false => rfl
        | true =>
          have h6 : n = 60 := by
            rcases Nat.lt_or_ge n 60 with q | q
            · exact absurd ⟨hh, ho, q⟩ h1
            · omega
          rw [cond_true, e8, h6]; rfl
      · rw [if_neg hh]
    exact ⟨-1, s, s, ea, eb, p⟩
