/-! the model's join -/
theorem isJoin_e (N : Nat) (s : Hp) {n i j : Nat} (hn : n ≤ 60) (hv : mkV (s 47) (s 45) (s 46) n) (hi : i < n) (hj : j < n) : f_X10_isJoin N s (nI i) (nI j) = some (b01 (jnB s i j), s) := by
  have g1 : inR (nI i) 60 = true := inR_nI (by omega) (by decide)
  have g2 : inR (nI j) 60 = true := inR_nI (by omega) (by decide)
  obtain ⟨f1, t1, o1⟩ := hv i hi
  obtain ⟨f2, t2, o2⟩ := hv j hj
  have o1' := vI_mono o1 (show 1000 ≤ 10000 by decide)
  have o2' := vI_mono o2 (show 1000 ≤ 10000 by decide)
  have h44 : ∀ d : Int32, d.toInt = (if (s 47 i).toInt ≤ (s 47 j).toInt then (s 47 j).toInt - (s 47 i).toInt else (s 47 i).toInt - (s 47 j).toInt) → f_X10_isJoin_44 N s (nI i) (nI j) d = some (b01 (jnB s i j), s) := by
    intro d hd
    rw [jnB_G]
    unfold f_X10_isJoin_44 jnG
    rw [g1, g2, ck_t, ck_t, ck_t, ck_t, ck_t, ck_t, ix_nI (by omega), ix_nI (by omega)]
    by_cases h1 : s 44 i = s 44 j
    · rw [if_pos h1, decide_eq_true h1, Bool.true_and]
      by_cases h2 : s 36 16 < d
      · rw [if_pos h2]
        rw [i_lt, hd] at h2
        have : (decide ((s 47 i).toInt - (s 47 j).toInt ≤ (s 36 16).toInt) && (decide ((s 47 j).toInt - (s 47 i).toInt ≤ (s 36 16).toInt) && (decide ((s 45 i).toInt - (s 46 j).toInt ≤ (s 36 17).toInt) && decide ((s 45 j).toInt - (s 46 i).toInt ≤ (s 36 17).toInt)))) = false := by
          rw [Bool.eq_false_iff]
          intro q
          simp only [Bool.and_eq_true, decide_eq_true_iff] at q
          split at h2 <;> omega
        rw [this]; rfl
      · rw [if_neg h2]
        rw [i_lt, hd] at h2
        rw [decide_eq_true (show (s 47 i).toInt - (s 47 j).toInt ≤ (s 36 16).toInt by split at h2 <;> omega), decide_eq_true (show (s 47 j).toInt - (s 47 i).toInt ≤ (s 36 16).toInt by split at h2 <;> omega), Bool.true_and, Bool.true_and]
        by_cases h3 : s 36 17 < s 45 j - s 46 i
        · rw [if_pos h3]
          rw [i_lt, sub_int f2 t1] at h3
          rw [decide_eq_false (show ¬ (s 45 j).toInt - (s 46 i).toInt ≤ (s 36 17).toInt by omega), Bool.and_false]; rfl
        · rw [if_neg h3]
          rw [i_lt, sub_int f2 t1] at h3
          rw [decide_eq_true (show (s 45 j).toInt - (s 46 i).toInt ≤ (s 36 17).toInt by omega), Bool.and_true]
          by_cases h4 : s 36 17 < s 45 i - s 46 j
          · rw [if_pos h4]
            rw [i_lt, sub_int f1 t2] at h4
            rw [decide_eq_false (show ¬ (s 45 i).toInt - (s 46 j).toInt ≤ (s 36 17).toInt by omega)]; rfl
          · rw [if_neg h4]
            rw [i_lt, sub_int f1 t2] at h4
            rw [decide_eq_true (show (s 45 i).toInt - (s 46 j).toInt ≤ (s 36 17).toInt by omega)]; rfl
    · rw [if_neg h1, decide_eq_false h1]; rfl
  unfold f_X10_isJoin
  rw [g1, g2, ck_t, ck_t, ck_t, ck_t, ck_t, ck_t, ix_nI (by omega), ix_nI (by omega)]
  by_cases h : s 47 i ≤ s 47 j
  · rw [if_pos h, h44 _ (by rw [if_pos (i_le.mp h), sub_int o2' o1'])]
  · rw [if_neg h, h44 _ (by rw [if_neg (fun q => h (i_le.mpr q)), sub_int o1' o2'])]
/-- a number that is given or not yet -/
def nv (x : Int32) : Prop := x = -1 ∨ ∃ g, g < 60 ∧ x = nI g
theorem nv_0 {x : Int32} (h : nv x) : (0 ≤ x ↔ ¬ x = -1) ∧ (x < 0 ↔ x = -1) := by
  rcases h with rfl | ⟨g, hg, rfl⟩
  · exact ⟨by decide, by decide⟩
  · have h1 : (0 : Int32) ≤ nI g := nI_pos' (by omega)
    have h2 : ¬ nI g = -1 := fun q => by rw [q] at h1; exact absurd h1 (by decide)
    exact ⟨⟨fun _ => h2, fun _ => h1⟩, ⟨fun q => absurd q (nI_pos (by omega)), fun q => absurd q h2⟩⟩
def SI (R : Nat → Nat → Bool) (n : Nat) (num0 : Nat → Int32) (g m0 : Nat) (num : Nat → Int32) (more : Int32) (P : Nat → Nat → Prop) : Prop :=
  (∀ i, num i = num0 i ∨ (num0 i = -1 ∧ num i = nI g)) ∧ (∀ i, i < n → num i = nI g → Cn R n m0 i) ∧ ((more = 0 ∧ num = num0 ∧ ∀ a b, a < n → b < n → P a b → num0 a = nI g → num0 b = -1 → R a b = false) ∨ (more = 1 ∧ ∃ i, i < n ∧ num0 i = -1 ∧ num i = nI g))
theorem m1_ne {g : Nat} (hg : g < 2 ^ 31) : ¬ (-1 : Int32) = nI g := fun q => by
  have h1 : (0 : Int32) ≤ nI g := nI_pos' hg
  rw [← q] at h1
  exact absurd h1 (by decide)
theorem spi_loop (N : Nat) {n a g m0 : Nat} (hn : n ≤ 60) (ha : a < n) (hg : g < 60) (num0 : Nat → Int32) (h0 : ∀ i, i < n → nv (num0 i)) (k4 : Hp → Int32 → Int32 → Int32 → Option (Int32 × Hp)) : ∀ k b m (s : Hp) (x2 : Int32), b + k = n → k < m → s 36 8 = nI n → mkV (s 47) (s 45) (s 46) n → s 50 a = nI g → SI (jnB s) n num0 g m0 (s 50) x2 (fun x y => x < a ∨ (x = a ∧ y < b)) → ∃ (t : Hp) (y2 : Int32), lp (fun _ _ _ _ _ => none) (f_X10_spreads_28 N k4) m s (nI g) x2 (nI a) (nI b) = k4 t (nI g) y2 (nI (a + 1)) ∧ (∀ c, c ≠ 50 → t c = s c) ∧ SI (jnB s) n num0 g m0 (t 50) y2 (fun x _ => x < a + 1)
  | k, b, 0, s, x2, _, hm, _, _, _, _ => absurd hm (Nat.not_lt_zero k)
  | 0, b, m + 1, s, x2, hb, _, hc, hv, hga, hS => by
    rw [lp_s]; unfold f_X10_spreads_28 f_X10_spreads_76
    rw [hc, if_pos (nI_le (by omega) (by omega)), vb_e, nI_1]
    refine ⟨s, x2, rfl, fun _ _ => rfl, hS.1, hS.2.1, ?_⟩
    rcases hS.2.2 with ⟨q1, q2, q3⟩ | q
    · exact Or.inl ⟨q1, q2, fun x y hx hy hxy => q3 x y hx hy (by
        by_cases e : x = a
        · exact Or.inr ⟨e, by omega⟩
        · exact Or.inl (by omega))⟩
    · exact Or.inr q
  | k + 1, b, m + 1, s, x2, hb, hm, hc, hv, hga, hS => by
    have ih := fun s x2 => spi_loop N (m0 := m0) hn ha hg num0 h0 k4 k (b + 1) m s x2 (by omega) (by omega)
    have g1 : ¬ nI n ≤ nI b := nI_ge (by omega) (by omega)
    have g2 : inR (nI b) 60 = true := inR_nI (by omega) (by decide)
    have g3 : ix (nI b) = b := ix_nI (by omega)
    have e70 : ∀ (S : Hp → Int32 → Int32 → Int32 → Int32 → Option (Int32 × Hp)) (u : Hp) (y : Int32), f_X10_spreads_70 N k4 S u (nI g) y (nI a) (nI b) = S u (nI g) y (nI a) (nI (b + 1)) := fun S u y => by
      unfold f_X10_spreads_70
      rw [vb_e, nI_1]
    have hnb : nv (s 50 b) := by
      rcases hS.1 b with q | ⟨_, q⟩
      · rw [q]; exact h0 b (by omega)
      · exact Or.inr ⟨g, hg, q⟩
    rw [lp_s]
    generalize lp (fun _ _ _ _ _ => none) (f_X10_spreads_28 N k4) m = S at ih ⊢
    unfold f_X10_spreads_28
    rw [hc, if_neg g1, g2, ck_t, g3, e70]
    have ext : ∀ (hno : num0 a = nI g → num0 b = -1 → s 50 = num0 → jnB s a b = false), SI (jnB s) n num0 g m0 (s 50) x2 (fun x y => x < a ∨ (x = a ∧ y < b + 1)) := fun hno => ⟨hS.1, hS.2.1, by
      rcases hS.2.2 with ⟨q1, q2, q3⟩ | q
      · refine Or.inl ⟨q1, q2, fun x y hx hy hxy h1 h2 => ?_⟩
        by_cases e : x = a ∧ y = b
        · rw [e.1, e.2]
          rw [e.1] at h1
          rw [e.2] at h2
          exact hno h1 h2 q2
        · refine q3 x y hx hy ?_ h1 h2
          rcases hxy with q | q
          · exact Or.inl q
          · exact Or.inr ⟨q.1, by omega⟩
      · exact Or.inr q⟩
    by_cases hz : s 50 b = -1
    · rw [if_neg (fun q => (nv_0 hnb).1.mp q hz), isJoin_e N s hn hv ha (show b < n by omega), bd_e, ifb]
      cases hr : jnB s a b with
      | false =>
        rw [cond_false, e70]
        exact ih s x2 hc hv hga (ext (fun _ _ _ => hr))
      | true =>
        rw [cond_true, ck_t, sb_e, e70]
        have hne : b ≠ a := fun e => by rw [e, hga] at hz; exact m1_ne (by omega) hz.symm
        have hz0 : num0 b = -1 := by
          rcases hS.1 b with q | ⟨q, _⟩
          · rw [← q]; exact hz
          · exact q
        obtain ⟨t, y2, e, r1, r2⟩ := ih (hset s 50 b (nI g)) 1 hc hv (by rw [hset_rd, if_pos rfl, if_neg (Ne.symm hne)]; exact hga) (by
          refine ⟨fun i => ?_, fun i hi hig => ?_, Or.inr ⟨rfl, b, by omega, hz0, ?_⟩⟩
          · rw [hset_rd, if_pos rfl]
            by_cases e : i = b
            · rw [if_pos e, e]; exact Or.inr ⟨hz0, rfl⟩
            · rw [if_neg e]; exact hS.1 i
          · rw [hset_rd, if_pos rfl] at hig
            by_cases e : i = b
            · rw [e]; exact Cn_st (hS.2.1 a ha hga) ha hr
            · rw [if_neg e] at hig; exact hS.2.1 i hi hig
          · rw [hset_rd, if_pos rfl, if_pos rfl])
        exact ⟨t, y2, e, fun c hc => by rw [r1 c hc, hset_d hc], r2⟩
    · rw [if_pos ((nv_0 hnb).1.mpr hz)]
      exact ih s x2 hc hv hga (ext (fun _ h2 h3 => absurd (by rw [h3]; exact h2) hz))
theorem spr_loop {N : Nat} (hN : 101 ≤ N) {n g m0 : Nat} (hn : n ≤ 60) (hg : g < 60) (num0 : Nat → Int32) (h0 : ∀ i, i < n → nv (num0 i)) : ∀ k a m (s : Hp) (x2 : Int32), a + k = n → k < m → s 36 8 = nI n → mkV (s 47) (s 45) (s 46) n → SI (jnB s) n num0 g m0 (s 50) x2 (fun x _ => x < a) → ∃ (t : Hp) (y2 : Int32), lp (fun _ _ _ _ => none) (f_X10_spreads_4 N) m s (nI g) x2 (nI a) = some (y2, t) ∧ (∀ c, c ≠ 50 → t c = s c) ∧ SI (jnB s) n num0 g m0 (t 50) y2 (fun x _ => x < n)
  | k, a, 0, s, x2, _, hm, _, _, _ => absurd hm (Nat.not_lt_zero k)
  | 0, a, m + 1, s, x2, ha, _, hc, hv, hS => by
    have e : a = n := by omega
    subst e
    rw [lp_s]; unfold f_X10_spreads_4
    have hb : isB x2 = true := by
      rcases hS.2.2 with ⟨q, _⟩ | ⟨q, _⟩ <;> rw [q] <;> decide
    rw [hc, if_pos (i_le.mpr (Int.le_refl _)), hb, ck_t]
    exact ⟨s, x2, rfl, fun _ _ => rfl, hS⟩
  | k + 1, a, m + 1, s, x2, ha, hm, hc, hv, hS => by
    have ih := fun s x2 => spr_loop hN (m0 := m0) hn hg num0 h0 k (a + 1) m s x2 (by omega) (by omega)
    have g1 : ¬ nI n ≤ nI a := nI_ge (by omega) (by omega)
    have g2 : inR (nI a) 60 = true := inR_nI (by omega) (by decide)
    have g3 : ix (nI a) = a := ix_nI (by omega)
    rw [lp_s]
    generalize lp (fun _ _ _ _ => none) (f_X10_spreads_4 N) m = S at ih ⊢
    unfold f_X10_spreads_4
    rw [hc, if_neg g1, g2, ck_t, g3]
    by_cases h : s 50 a = nI g
    · rw [if_pos h]
      obtain ⟨t, y2, e, r1, r2⟩ := spi_loop N (m0 := m0) hn (show a < n by omega) hg num0 h0 S n 0 N s x2 (by omega) (by omega) hc hv h ⟨hS.1, hS.2.1, by
        rcases hS.2.2 with ⟨q1, q2, q3⟩ | q
        · exact Or.inl ⟨q1, q2, fun x y hx hy hxy => q3 x y hx hy (hxy.elim id (fun q => absurd q.2 (Nat.not_lt_zero y)))⟩
        · exact Or.inr q⟩
      have e' : l_X10_spreads_28 N S s (nI g) x2 (nI a) 0 = S t (nI g) y2 (nI (a + 1)) := e
      rw [e']
      have hj : jnB t = jnB s := by
        rw [jnB_G, jnB_G, r1 44 (by decide), r1 45 (by decide), r1 46 (by decide), r1 47 (by decide), r1 36 (by decide)]
      obtain ⟨u, z2, e2, k1, k2⟩ := ih t y2 (by rw [r1 36 (by decide)]; exact hc) (by rw [r1 45 (by decide), r1 46 (by decide), r1 47 (by decide)]; exact hv) (by rw [hj]; exact r2)
      rw [hj] at k2
      exact ⟨u, z2, e2, fun c hc => by rw [k1 c hc, r1 c hc], k2⟩
    · rw [if_neg h]
      unfold f_X10_spreads_76
      rw [vb_e, nI_1]
      refine ih s x2 hc hv ⟨hS.1, hS.2.1, ?_⟩
      rcases hS.2.2 with ⟨q1, q2, q3⟩ | q
      · refine Or.inl ⟨q1, q2, fun x y hx hy hxy h1 h2 => ?_⟩
        by_cases e : x = a
        · rw [e, ← q2] at h1; exact absurd h1 h
        · exact q3 x y hx hy (by omega) h1 h2
      · exact Or.inr q
theorem spreads_e {N : Nat} (hN : 101 ≤ N) (s : Hp) {n g m0 : Nat} (hn : n ≤ 60) (hg : g < 60) (h0 : ∀ i, i < n → nv (s 50 i)) (hc : s 36 8 = nI n) (hv : mkV (s 47) (s 45) (s 46) n) (hm : ∀ i, i < n → s 50 i = nI g → Cn (jnB s) n m0 i) : ∃ (t : Hp) (y2 : Int32), f_X10_spreads N s (nI g) = some (y2, t) ∧ (∀ c, c ≠ 50 → t c = s c) ∧ SI (jnB s) n (s 50) g m0 (t 50) y2 (fun x _ => x < n) :=
  spr_loop hN hn hg (s 50) h0 n 0 N s 0 (by omega) (by omega) hc hv ⟨fun i => Or.inl rfl, hm, Or.inl ⟨rfl, rfl, fun a b _ _ h => absurd h (Nat.not_lt_zero a)⟩⟩
def unB (num : Nat → Int32) : Nat → Bool := fun i => decide (num i = -1)
/-- the while: until nothing spreads -/
theorem whl_loop {N : Nat} (hN : 101 ≤ N) {n g m0 : Nat} (hn : n ≤ 60) (hg : g < 60) (k30 : Hp → Int32 → Option (Int32 × Hp)) (x1 : Int32) : ∀ m (s : Hp) (x2 : Int32), (x2 = 0 ∧ 0 < m ∨ x2 = 1 ∧ fb_ct (unB (s 50)) n + 1 < m) → s 36 18 = nI g → s 36 8 = nI n → (∀ i, i < n → nv (s 50 i)) → mkV (s 47) (s 45) (s 46) n → (∀ i, i < n → s 50 i = nI g → Cn (jnB s) n m0 i) → (x2 = 0 → ∀ a b, a < n → b < n → s 50 a = nI g → s 50 b = -1 → jnB s a b = false) → ∃ t, lp (fun _ _ _ => none) (f_X10_join_72 N k30) m s x1 x2 = k30 (hset t 36 18 (nI (g + 1))) (x1 + 1) ∧ (∀ c, c ≠ 50 → t c = s c) ∧ (∀ i, t 50 i = s 50 i ∨ (s 50 i = -1 ∧ t 50 i = nI g)) ∧ (∀ i, i < n → t 50 i = nI g → Cn (jnB s) n m0 i) ∧ ∀ a b, a < n → b < n → t 50 a = nI g → t 50 b = -1 → jnB s a b = false
  | 0, s, x2, hm, _, _, _, _, _, _ => (by rcases hm with ⟨_, h⟩ | ⟨_, h⟩ <;> omega)
  | m + 1, s, x2, hx, hk, hc, h0, hv, hcn, hcl => by
    have ih := fun s x2 => whl_loop hN hn hg k30 x1 (m0 := m0) m s x2
    rw [lp_s]
    generalize lp (fun _ _ _ => none) (f_X10_join_72 N k30) m = S at ih ⊢
    unfold f_X10_join_72 f_X10_join_98
    rcases hx with ⟨rfl, hm⟩ | ⟨rfl, hm⟩
    · rw [if_pos rfl, sb_e, vb_e, hk, nI_1]
      exact ⟨s, rfl, fun _ _ => rfl, fun i => Or.inl rfl, hcn, hcl rfl⟩
    · rw [if_neg (by decide), hk]
      obtain ⟨t, y2, e, r1, r2, r3, r4⟩ := spreads_e hN s hn hg h0 hc hv hcn
      rw [e, bd_e]
      have hj : jnB t = jnB s := by
        rw [jnB_G, jnB_G, r1 44 (by decide), r1 45 (by decide), r1 46 (by decide), r1 47 (by decide), r1 36 (by decide)]
      have c36 := r1 36 (by decide)
      have nt : ∀ i, i < n → nv (t 50 i) := fun i hi => by
        rcases r2 i with q | ⟨_, q⟩
        · rw [q]; exact h0 i hi
        · exact Or.inr ⟨g, hg, q⟩
      rcases r4 with ⟨q1, q2, q3⟩ | ⟨q1, j, hj1, hj2, hj3⟩
      · obtain ⟨u, e2, k1, k2, k3, k4⟩ := ih t y2 (Or.inl ⟨q1, by omega⟩) (by rw [c36]; exact hk) (by rw [c36]; exact hc) nt (by rw [r1 45 (by decide), r1 46 (by decide), r1 47 (by decide)]; exact hv) (by rw [hj]; exact r3) (by rw [hj, q2]; exact fun _ a b ha hb => q3 a b ha hb ha)
        rw [hj] at k3 k4
        exact ⟨u, e2, fun c hc => by rw [k1 c hc, r1 c hc], fun i => by have := k2 i; rw [q2] at this; exact this, k3, k4⟩
      · have hlt : fb_ct (unB (t 50)) n + 1 ≤ fb_ct (unB (s 50)) n := by
          have h1 := fb_ct_upd (unB (s 50)) false (i := j) (n := n) hj1
          rw [show unB (s 50) j = true from decide_eq_true hj2, if_pos rfl, if_neg (by decide), Nat.add_zero] at h1
          have h2 : fb_ct (unB (t 50)) n ≤ fb_ct (fun k => if k = j then false else unB (s 50) k) n := fb_ct_sub (fun k hk hk2 => by
            have hk3 : t 50 k = -1 := of_decide_eq_true hk2
            by_cases ek : k = j
            · rw [ek, hj3] at hk3; exact absurd hk3.symm (m1_ne (by omega))
            · rw [if_neg ek]
              refine decide_eq_true ?_
              rcases r2 k with q | ⟨q, _⟩
              · rw [← q]; exact hk3
              · exact q)
          omega
        obtain ⟨u, e2, k1, k2, k3, k4⟩ := ih t y2 (Or.inr ⟨q1, by omega⟩) (by rw [c36]; exact hk) (by rw [c36]; exact hc) nt (by rw [r1 45 (by decide), r1 46 (by decide), r1 47 (by decide)]; exact hv) (by rw [hj]; exact r3) (fun q => absurd (q1.symm.trans q) (by decide))
        rw [hj] at k3 k4
        refine ⟨u, e2, fun c hc => by rw [k1 c hc, r1 c hc], fun i => ?_, k3, k4⟩
        rcases k2 i with q | ⟨q, z⟩
        · rcases r2 i with w | ⟨w, v⟩
          · exact Or.inl (q.trans w)
          · exact Or.inr ⟨w, q.trans v⟩
        · rcases r2 i with w | ⟨w, v⟩
          · exact Or.inr ⟨w.symm.trans q, z⟩
          · exact Or.inr ⟨w, z⟩
/-- between two marks of the outer loop -/
def OI (R : Nat → Nat → Bool) (n x K : Nat) (num : Nat → Int32) (le : Nat → Nat) (ld : Nat → Bool) : Prop :=
  (∀ i, i < n → num i = -1 ∨ ∃ g, g < K ∧ num i = nI g) ∧ (∀ i, i < x → ¬ num i = -1) ∧ (∀ i j, i < n → j < n → ¬ num i = -1 → R i j = true → num j = num i) ∧
  (∀ g, g < K → le g < x ∧ num (le g) = nI g ∧ ∀ i, i < n → num i = nI g → le g ≤ i ∧ Cn R n (le g) i) ∧ K = fb_ct ld x ∧ (∀ g, g < K → ld (le g) = true) ∧ ∀ i, i < x → ld i = true → num i = nI (fb_ct ld i) ∧ le (fb_ct ld i) = i
theorem ct_if {ld : Nat → Bool} {x : Nat} {v : Bool} : ∀ y, y ≤ x → fb_ct (fun i => if i = x then v else ld i) y = fb_ct ld y := fun y hy => fb_ct_cong (fun k hk => by rw [if_neg (by omega)])
theorem out_loop {N : Nat} (hN : 101 ≤ N) {n : Nat} (hn : n ≤ 60) : ∀ k x m (s : Hp) (K : Nat) (le : Nat → Nat) (ld : Nat → Bool), x + k = n → k < m → s 36 8 = nI n → s 36 18 = nI K → mkV (s 47) (s 45) (s 46) n → (∀ g, g < K → s 51 g = nI (le g)) → OI (jnB s) n x K (s 50) le ld → ∃ (t : Hp) (K2 : Nat) (le2 : Nat → Nat) (ld2 : Nat → Bool), lp (fun _ _ => none) (f_X10_join_30 N) m s (nI x) = some (0, t) ∧ (∀ c, c ≠ 36 → c ≠ 50 → c ≠ 51 → t c = s c) ∧ (∀ q, q ≠ 18 → t 36 q = s 36 q) ∧ t 36 18 = nI K2 ∧ (∀ g, g < K2 → t 51 g = nI (le2 g)) ∧ OI (jnB s) n n K2 (t 50) le2 ld2
  | k, x, 0, s, K, le, ld, _, hm, _, _, _, _, _ => absurd hm (Nat.not_lt_zero k)
  | 0, x, m + 1, s, K, le, ld, hx, _, hc, hk, hv, hl, hO => by
    have e : x = n := by omega
    subst e
    rw [lp_s]; unfold f_X10_join_30
    rw [hc, if_pos (i_le.mpr (Int.le_refl _))]
    exact ⟨s, K, le, ld, rfl, fun _ _ _ _ => rfl, fun _ _ => rfl, hk, hl, hO⟩
  | k + 1, x, m + 1, s, K, le, ld, hx, hm, hc, hk, hv, hl, hO => by
    have ih := fun s K le ld => out_loop hN hn k (x + 1) m s K le ld (by omega) (by omega)
    have g1 : ¬ nI n ≤ nI x := nI_ge (by omega) (by omega)
    have g2 : inR (nI x) 60 = true := inR_nI (by omega) (by decide)
    have g3 : ix (nI x) = x := ix_nI (by omega)
    obtain ⟨o1, o2, o3, o4, o5, o6, o7⟩ := hO
    have hKx : K ≤ x := by rw [o5]; exact fb_ct_le ld x
    have nvs : ∀ i, i < n → nv (s 50 i) := fun i hi => (o1 i hi).imp id (fun ⟨g, hg, e⟩ => ⟨g, by omega, e⟩)
    rw [lp_s]
    generalize lp (fun _ _ => none) (f_X10_join_30 N) m = S at ih ⊢
    unfold f_X10_join_30
    rw [hc, if_neg g1, g2, ck_t, ck_t, g3, sb_e, hk]
    by_cases hz : s 50 x = -1
    · rw [if_pos ((nv_0 (nvs x (by omega))).2.mpr hz)]
      have g4 : inR (nI K) 60 = true := inR_nI (by omega) (by decide)
      have e18 : (hset s 50 x (nI K)) 36 18 = nI K := hk
      rw [e18, g4, ck_t, ix_nI (by omega), sb_e]
      have hxK : ∀ i, i < n → (hset (hset s 50 x (nI K)) 51 K (nI x)) 50 i = nI K → i = x := fun i hi h => by
        rw [hset_d (by decide), hset_rd, if_pos rfl] at h
        by_cases e : i = x
        · exact e
        · rw [if_neg e] at h
          rcases o1 i hi with q | ⟨g, hg, q⟩
          · rw [q] at h; exact absurd h (m1_ne (by omega))
          · rw [q] at h
            have := (nI_eq (show g < 2 ^ 31 by omega) (show K < 2 ^ 31 by omega)).mp h
            omega
      obtain ⟨t, e, r1, r2, r3, r4⟩ := whl_loop hN hn (show K < 60 by omega) S (nI x) (m0 := x) N (hset (hset s 50 x (nI K)) 51 K (nI x)) 1 (Or.inr ⟨rfl, by have := fb_ct_le (unB ((hset (hset s 50 x (nI K)) 51 K (nI x)) 50)) n; omega⟩) hk hc (fun i hi => by
        rw [hset_d (by decide), hset_rd, if_pos rfl]
        by_cases e : i = x
        · rw [if_pos e]; exact Or.inr ⟨K, by omega, rfl⟩
        · rw [if_neg e]; exact nvs i hi) hv (fun i hi h => by rw [hxK i hi h]; exact Cn_rf _ n x) (fun q => absurd q (by decide))
      have e' : l_X10_join_72 N S (hset (hset s 50 x (nI K)) 51 K (nI x)) (nI x) 1 = S (hset t 36 18 (nI (K + 1))) (nI x + 1) := e
      rw [e', nI_1]
      have r2x : t 50 x = nI K := by
        rcases r2 x with q | ⟨_, q⟩
        · rw [q, hset_d (by decide), hset_rd, if_pos rfl, if_pos rfl]
        · exact q
      have r2n : ∀ i, i ≠ x → t 50 i = s 50 i ∨ (s 50 i = -1 ∧ t 50 i = nI K) := fun i hi => by
        have := r2 i
        rw [hset_d (by decide), hset_rd, if_pos rfl, if_neg hi] at this
        exact this
      have keep : ∀ i g, g < K → i < n → s 50 i = nI g → t 50 i = nI g := fun i g hg hi h => by
        by_cases e : i = x
        · rw [e, hz] at h; exact absurd h (m1_ne (by omega))
        · rcases r2n i e with q | ⟨q, _⟩
          · rw [q]; exact h
          · rw [q] at h; exact absurd h (m1_ne (by omega))
      have back : ∀ i g, g < K → i < n → t 50 i = nI g → s 50 i = nI g := fun i g hg hi h => by
        by_cases e : i = x
        · rw [e, r2x] at h
          have := (nI_eq (show K < 2 ^ 31 by omega) (show g < 2 ^ 31 by omega)).mp h
          omega
        · rcases r2n i e with q | ⟨_, q⟩
          · rw [← q]; exact h
          · rw [q] at h
            have := (nI_eq (show K < 2 ^ 31 by omega) (show g < 2 ^ 31 by omega)).mp h
            omega
      have kz : ∀ i, i < n → t 50 i = nI K → s 50 i = -1 := fun i hi h => by
        rcases o1 i hi with q | ⟨g, hg, q⟩
        · exact q
        · have h9 := keep i g hg hi q
          rw [h] at h9
          have := (nI_eq (show K < 2 ^ 31 by omega) (show g < 2 ^ 31 by omega)).mp h9
          omega
      have hj : jnB (hset t 36 18 (nI (K + 1))) = jnB s := by
        rw [jnB_G, jnB_G, hset_d (by decide), hset_d (by decide), hset_d (by decide), hset_d (by decide), r1 44 (by decide), r1 45 (by decide), r1 46 (by decide), r1 47 (by decide), hs_slot (by decide), hs_slot (by decide), r1 36 (by decide)]
        rfl
      have hO2 : OI (jnB s) n (x + 1) (K + 1) (t 50) (fun g => if g = K then x else le g) (fun i => if i = x then true else ld i) := by
        have ctx : fb_ct (fun i => if i = x then true else ld i) (x + 1) = K + 1 := by
          rw [fb_ct_succ, ct_if x (Nat.le_refl _), if_pos rfl, if_pos rfl, ← o5]
        refine ⟨fun i hi => ?_, fun i hi => ?_, fun i j hi hj hni hr => ?_, fun g hg => ?_, ctx.symm, fun g hg => ?_, fun i hi hld => ?_⟩
        · by_cases e : i = x
          · rw [e]; exact Or.inr ⟨K, by omega, r2x⟩
          · rcases r2n i e with q | ⟨_, q⟩
            · rw [q]; exact (o1 i hi).imp id (fun ⟨g, hg, h⟩ => ⟨g, by omega, h⟩)
            · exact Or.inr ⟨K, by omega, q⟩
        · by_cases e : i = x
          · rw [e, r2x]; exact fun q => m1_ne (show K < 2 ^ 31 by omega) q.symm
          · rcases r2n i e with q | ⟨_, q⟩
            · rw [q]; exact o2 i (by omega)
            · rw [q]; exact fun q => m1_ne (show K < 2 ^ 31 by omega) q.symm
        · by_cases hiK : t 50 i = nI K
          · rw [hiK]
            by_cases hj1 : t 50 j = -1
            · have := r4 i j hi hj hiK hj1
              rw [show jnB (hset (hset s 50 x (nI K)) 51 K (nI x)) = jnB s from rfl, hr] at this; cases this
            · by_cases hjx : j = x
              · rw [hjx]; exact r2x
              · rcases r2n j hjx with q | ⟨_, q⟩
                · rw [q] at hj1
                  have h9 := o3 j i hj hi hj1 (by rw [jnB_G, jnG_sy, ← jnB_G]; exact hr)
                  rw [kz i hi hiK] at h9
                  exact absurd h9.symm hj1
                · exact q
          · have hix : i ≠ x := fun e => hiK (by rw [e]; exact r2x)
            have q : t 50 i = s 50 i := by
              rcases r2n i hix with q | ⟨_, q⟩
              · exact q
              · exact absurd q hiK
            rw [q] at hni ⊢
            have h9 := o3 i j hi hj hni hr
            rcases o1 i hi with w | ⟨g, hg, w⟩
            · exact absurd w hni
            · rw [w] at h9 ⊢
              exact keep j g hg hj h9
        · dsimp only
          by_cases e : g = K
          · rw [if_pos e, e]
            refine ⟨by omega, r2x, fun i hi h => ⟨?_, r3 i hi h⟩⟩
            rcases Nat.lt_or_ge i x with w | w
            · exact absurd (kz i hi h) (o2 i w)
            · exact w
          · have hg2 : g < K := by omega
            obtain ⟨a1, a2, a3⟩ := o4 g hg2
            rw [if_neg e]
            exact ⟨by omega, keep _ g hg2 (by omega) a2, fun i hi h => a3 i hi (back i g hg2 hi h)⟩
        · dsimp only
          by_cases e : g = K
          · rw [if_pos e, if_pos rfl]
          · rw [if_neg e]
            have := (o4 g (by omega)).1
            rw [if_neg (by omega)]; exact o6 g (by omega)
        · dsimp only at hld
          by_cases e : i = x
          · rw [e, ct_if x (Nat.le_refl _), ← o5]; exact ⟨r2x, if_pos rfl⟩
          · rw [if_neg e] at hld
            obtain ⟨a1, a2⟩ := o7 i (by omega) hld
            have hlt : fb_ct ld i < K := by
              rw [o5]
              have := fb_ct_succ ld i
              rw [hld, if_pos rfl] at this
              have := fb_ct_mono ld (show i + 1 ≤ x by omega)
              omega
            rw [ct_if i (by omega)]
            exact ⟨keep i _ hlt (by omega) a1, (if_neg (by omega)).trans a2⟩
      obtain ⟨u, K2, le2, ld2, e2, k1, k2, k3, k4, k5⟩ := ih (hset t 36 18 (nI (K + 1))) (K + 1) (fun g => if g = K then x else le g) (fun i => if i = x then true else ld i) (by rw [hs_slot (by decide), r1 36 (by decide)]; exact hc) (by rw [hs_same]) (by rw [hset_d (by decide), hset_d (by decide), hset_d (by decide), r1 45 (by decide), r1 46 (by decide), r1 47 (by decide)]; exact hv) (fun g hg => by
        rw [hset_d (by decide), r1 51 (by decide), hset_rd, if_pos rfl]
        by_cases e : g = K
        · rw [if_pos e, if_pos e]
        · rw [if_neg e, if_neg e]; exact hl g (by omega)) (by rw [hj]; exact hO2)
      rw [hj] at k5
      refine ⟨u, K2, le2, ld2, e2, fun c c1 c2 c3 => by rw [k1 c c1 c2 c3, hset_d c1, r1 c c2, hset_d c3, hset_d c2], fun q hq => by rw [k2 q hq, hs_slot hq, r1 36 (by decide)]; rfl, k3, k4, k5⟩
    · rw [if_neg (fun q => hz ((nv_0 (nvs x (by omega))).2.mp q))]
      unfold f_X10_join_98
      rw [vb_e, nI_1]
      refine ih s K le (fun i => if i = x then false else ld i) hc hk hv hl ⟨o1, fun i hi => ?_, o3, fun g hg => ?_, ?_, fun g hg => ?_, fun i hi hld => ?_⟩
      · by_cases e : i = x
        · rw [e]; exact hz
        · exact o2 i (by omega)
      · exact ⟨by have := (o4 g hg).1; omega, (o4 g hg).2⟩
      · rw [fb_ct_succ, ct_if x (Nat.le_refl _), if_pos rfl, if_neg (by decide), Nat.add_zero]; exact o5
      · dsimp only
        have := (o4 g hg).1
        rw [if_neg (by omega)]; exact o6 g hg
      · dsimp only at hld
        by_cases e : i = x
        · rw [if_pos e] at hld; cases hld
        · rw [if_neg e] at hld
          rw [ct_if i (by omega)]
          exact o7 i (by omega) hld
theorem OI_num {R : Nat → Nat → Bool} {n K : Nat} {num : Nat → Int32} {le : Nat → Nat} {ld : Nat → Bool} (hn : n ≤ 60) (h : OI R n n K num le ld) : NumOK R n num ld := by
  obtain ⟨o1, o2, o3, o4, o5, o6, o7⟩ := h
  have cl : ∀ a b, a < n → b < n → R a b = true → num a = num b := fun a b ha hb hr => (o3 a b ha hb (o2 a ha) hr).symm
  refine ⟨fun i hi => ?_, fun i hi hl => (o7 i hi hl).1, fun i j hi hj hc => Cn_cl cl hj hc⟩
  constructor
  · intro hl j hj hc
    obtain ⟨a1, a2⟩ := o7 i hi hl
    have hlt : fb_ct ld i < K := by
      rw [o5]
      have := fb_ct_succ ld i
      rw [hl, if_pos rfl] at this
      have := fb_ct_mono ld (show i + 1 ≤ n by omega)
      omega
    have h9 : num j = nI (fb_ct ld i) := (Cn_cl cl hi hc).trans a1
    have := ((o4 _ hlt).2.2 j (by omega) h9).1
    omega
  · intro hl
    rcases o1 i hi with q | ⟨g, hg, q⟩
    · exact absurd q (o2 i hi)
    · obtain ⟨a1, a2, a3⟩ := o4 g hg
      obtain ⟨b1, b2⟩ := a3 i hi q
      by_cases e : le g = i
      · rw [← e]; exact o6 g hg
      · exact absurd b2 (hl (le g) (by omega))
theorem ini_loop (N : Nat) {n : Nat} (hn : n ≤ 60) : ∀ k i m (s : Hp), i + k = n → k < m → s 36 8 = nI n → (∀ a, a < i → s 50 a = -1) → ∃ t, lp (fun _ _ => none) (f_X10_join_7 N) m s (nI i) = l_X10_join_30 N t 0 ∧ (∀ c, c ≠ 50 → t c = s c) ∧ ∀ a, a < n → t 50 a = -1
  | k, i, 0, s, _, hm, _, _ => absurd hm (Nat.not_lt_zero k)
  | 0, i, m + 1, s, hi, _, hc, h => by
    rw [lp_s]; unfold f_X10_join_7
    rw [hc, if_pos (nI_le (by omega) (by omega))]
    exact ⟨s, rfl, fun _ _ => rfl, fun a ha => h a (by omega)⟩
  | k + 1, i, m + 1, s, hi, hm, hc, h => by
    have ih := fun s => ini_loop N hn k (i + 1) m s (by omega) (by omega)
    have g1 : ¬ nI n ≤ nI i := nI_ge (by omega) (by omega)
    have g2 : inR (nI i) 60 = true := inR_nI (by omega) (by decide)
    have g3 : ix (nI i) = i := ix_nI (by omega)
    rw [lp_s]
    generalize lp (fun _ _ => none) (f_X10_join_7 N) m = S at ih ⊢
    unfold f_X10_join_7
    rw [hc, if_neg g1, g2, ck_t, g3, sb_e, vb_e, nI_1]
    obtain ⟨t, e, r1, r2⟩ := ih (hset s 50 i (-1)) hc (fun a ha => by
      rw [hset_rd, if_pos rfl]
      by_cases ea : a = i
      · rw [if_pos ea]
      · rw [if_neg ea]; exact h a (by omega))
    exact ⟨t, e, fun c hc => by rw [r1 c hc, hset_d hc], r2⟩
/-- join: the numbering, and the least mark of each sender -/
theorem join_e {N : Nat} (hN : 101 ≤ N) {s : Hp} (p3 : E3 s) : ∃ (t : Hp) (ld : Nat → Bool), f_X10_join N s = some (0, t) ∧ (∀ c, c ≠ 36 → c ≠ 50 → c ≠ 51 → t c = s c) ∧ (∀ q, q ≠ 18 → t 36 q = s 36 q) ∧ NumOK (jnB s) (nM s) (t 50) ld ∧ t 36 18 = nI (fb_ct ld (nM s)) ∧ (∀ i, i < nM s → ld i = true → t 51 (fb_ct ld i) = nI i) := by
  have h60 := p3.2.2.2.2.2.2.2.2.1
  obtain ⟨t0, e0, r1, r2⟩ := ini_loop N h60 (nM s) 0 N (hset s 36 18 0) (by omega) (by omega) p3.2.2.2.2.2.2.2.1 (fun a ha => absurd ha (Nat.not_lt_zero a))
  have hj : jnB t0 = jnB s := by
    rw [jnB_G, jnB_G, r1 44 (by decide), r1 45 (by decide), r1 46 (by decide), r1 47 (by decide), r1 36 (by decide)]
    rfl
  obtain ⟨t, K, le, ld, e, k1, k2, k3, k4, k5⟩ := out_loop hN h60 (nM s) 0 N t0 0 (fun _ => 0) (fun _ => false) (by omega) (by omega) (by rw [r1 36 (by decide)]; exact p3.2.2.2.2.2.2.2.1) (by rw [r1 36 (by decide)]; rfl) (by rw [r1 45 (by decide), r1 46 (by decide), r1 47 (by decide)]; exact E3_mk p3) (fun g hg => absurd hg (Nat.not_lt_zero g)) ⟨fun i hi => Or.inl (r2 i hi), fun i hi => absurd hi (Nat.not_lt_zero i), fun i j hi _ hni => absurd (r2 i hi) hni, fun g hg => absurd hg (Nat.not_lt_zero g), rfl, fun g hg => absurd hg (Nat.not_lt_zero g), fun i hi => absurd hi (Nat.not_lt_zero i)⟩
  rw [hj] at k5
  refine ⟨t, ld, ?_, fun c c1 c2 c3 => by rw [k1 c c1 c2 c3, r1 c c2, hset_d c1], fun q hq => by rw [k2 q hq, r1 36 (by decide), hs_slot hq], OI_num h60 k5, ?_, fun i hi hl => ?_⟩
  · unfold f_X10_join l_X10_join_7
    rw [sb_e]
    have e0' : lp (fun _ _ => none) (f_X10_join_7 N) N (hset s 36 18 0) 0 = l_X10_join_30 N t0 0 := e0
    rw [e0']
    exact e
  · rw [k3, k5.2.2.2.2.1]
  · have hlt : fb_ct ld i < K := by
      rw [k5.2.2.2.2.1]
      have := fb_ct_succ ld i
      rw [hl, if_pos rfl] at this
      have := fb_ct_mono ld (show i + 1 ≤ nM s by omega)
      omega
    rw [k4 _ hlt, (k5.2.2.2.2.2.2 i hi hl).2]
theorem ld_of {R : Nat → Nat → Bool} {n : Nat} : ∀ i, ∃ g, g ≤ i ∧ isLd R n g ∧ Cn R n g i := by
  intro i
  induction i using Nat.strongRecOn with
  | ind i ih =>
    by_cases h : isLd R n i
    · exact ⟨i, Nat.le_refl _, h, Cn_rf R n i⟩
    · have : ∃ j, j < i ∧ Cn R n j i := by
        rcases Classical.em (∃ j, j < i ∧ Cn R n j i) with q | q
        · exact q
        · exact absurd (fun j hj hc => q ⟨j, hj, hc⟩) h
      obtain ⟨j, hj, hc⟩ := this
      obtain ⟨g, g1, g2, g3⟩ := ih j hj
      exact ⟨g, by omega, g2, Cn_tr g3 hc⟩
theorem NumOK_eq {R : Nat → Nat → Bool} {n : Nat} {num num2 : Nat → Int32} {ld ld2 : Nat → Bool} (h : NumOK R n num ld) (g : NumOK R n num2 ld2) : (∀ i, i < n → ld i = ld2 i) ∧ ∀ i, i < n → num i = num2 i := by
  have hl : ∀ i, i < n → ld i = ld2 i := fun i hi => by rw [Bool.eq_iff_iff, h.1 i hi, g.1 i hi]
  refine ⟨hl, fun i hi => ?_⟩
  obtain ⟨j, j1, j2, j3⟩ := ld_of (R := R) (n := n) i
  have a1 := (h.1 j (by omega)).mpr j2
  have a2 := (g.1 j (by omega)).mpr j2
  rw [← h.2.2 j i (by omega) hi j3, ← g.2.2 j i (by omega) hi j3, h.2.1 j (by omega) a1, g.2.1 j (by omega) a2, fb_ct_cong (fun k hk => hl k (by omega))]
/-- what the model's scratch is -/
theorem joinSame {s t : Hp} (h1 : ∀ c, c ≠ 36 → c ≠ 50 → c ≠ 51 → t c = s c) (h2 : ∀ q, q ≠ 18 → t 36 q = s 36 q) : Same s t := by
  refine ⟨fun c hc => h1 c (fun e => ?_) (fun e => ?_) (fun e => ?_), fun c k hc => ?_, fun j hj => by rw [h1 53 (by decide) (by decide) (by decide)]⟩
  · rw [e] at hc; cases hc
  · rw [e] at hc; cases hc
  · rw [e] at hc; cases hc
  · by_cases e : c = 36
    · rw [e]
      refine h2 k (fun e2 => ?_)
      rw [e, e2] at hc; cases hc
    · by_cases e1 : c = 50
      · rw [e1] at hc; simp [relS] at hc
      · by_cases e2 : c = 51
        · rw [e2] at hc; simp [relS] at hc
        · rw [h1 c e e1 e2]
/-- join, beside the class's numbers -/
theorem join_PS {N : Nat} (hN : 101 ≤ N) {s : Hp} (p : PS s) : ∃ (t : Hp) (ld : Nat → Bool), f_X10_join N s = some (0, t) ∧ Same s t ∧ (∀ c, c ≠ 36 → c ≠ 50 → c ≠ 51 → t c = s c) ∧ NumOK (jnB s) (nM s) (s 20) ld ∧ (∀ i, i < nM s → t 50 i = s 20 i) ∧ t 36 18 = s 18 4 ∧ s 18 4 = nI (fb_ct ld (nM s)) ∧ (∀ i, i < nM s → ld i = true → t 51 (fb_ct ld i) = nI i) := by
  obtain ⟨p1, p2, p3, p4, p5, ⟨ld0, q1, q2⟩, p7, p8, p9, p10⟩ := id p
  obtain ⟨t, ld, e, r1, r2, r3, r4, r5⟩ := join_e hN p3
  obtain ⟨h1, h2⟩ := NumOK_eq r3 q1
  have hct : fb_ct ld (nM s) = fb_ct ld0 (nM s) := fb_ct_cong h1
  refine ⟨t, ld, e, joinSame r1 r2, r1, ⟨r3.1, fun i hi hl => by rw [← h2 i hi]; exact r3.2.1 i hi hl, q1.2.2⟩, h2, by rw [r4, q2, hct], by rw [q2, hct], r5⟩
theorem ok_senders {N : Nat} (hN : 101 ≤ N) : ag_senders N PS := by
  intro s p
  obtain ⟨t, ld, e, sm, r1, r2, r3, r4, r5, r6⟩ := join_PS hN p
  refine ⟨s 18 4, s, t, rfl, ?_, PS_same sm p⟩
  show f_X10_senders N s = _
  unfold f_X10_senders
  rw [e, bd_e, r4]
theorem ok_senderOf {N : Nat} (hN : 101 ≤ N) : ag_senderOf N PS := by
  intro a s p
  obtain ⟨p1, p2, p3, p4, p5, p6, p7, p8, p9, p10⟩ := id p
  have h60 := p3.2.2.2.2.2.2.2.2.1
  obtain ⟨t, ld, e, sm, r1, r2, r3, r4, r5, r6⟩ := join_PS hN p
  dsimp only
  by_cases h : inR a (nM s) = true
  · have h6 : inR a 60 = true := by rw [inR_iff] at h ⊢; omega
    have hx : ix a < nM s := ix_lt h
    refine ⟨s 20 (ix a), s, t, ?_, ?_, PS_same sm p⟩
    · unfold f_X9_senderOf
      rw [p3.1, p3.2.2.2.2.2.2.2.1, isBelow_e N s a (by omega), bd_e, h, if_neg (by decide), h6, ck_t]
    · unfold f_X10_senderOf
      rw [p3.2.2.2.2.2.2.2.1, isIn_e, btw_0 a (by omega), bd_e, h, if_neg (by decide), e, bd_e, h6, ck_t, r3 _ hx]
  · refine ⟨-1, s, s, ?_, ?_, p⟩
    · unfold f_X9_senderOf
      rw [p3.1, p3.2.2.2.2.2.2.2.1, isBelow_e N s a (by omega), bd_e, Bool.eq_false_iff.mpr h]; rfl
    · unfold f_X10_senderOf
      rw [p3.2.2.2.2.2.2.2.1, isIn_e, btw_0 a (by omega), bd_e, Bool.eq_false_iff.mpr h]; rfl
