/-! the sketch of one sender -/
def fld {α : Type} (O : Nat → Bool) (g : α → Nat → α) (a : α) : Nat → α
  | 0 => a
  | n + 1 => if O n = true then g (fld O g a n) n else fld O g a n
theorem fld_0 {α : Type} (O : Nat → Bool) (g : α → Nat → α) (a : α) : fld O g a 0 = a := rfl
theorem fld_t {α : Type} {O : Nat → Bool} {g : α → Nat → α} {a : α} {n : Nat} (h : O n = true) : fld O g a (n + 1) = g (fld O g a n) n := if_pos h
theorem fld_f {α : Type} {O : Nat → Bool} {g : α → Nat → α} {a : α} {n : Nat} (h : ¬ O n = true) : fld O g a (n + 1) = fld O g a n := if_neg h
theorem fld_cong {α : Type} {O O2 : Nat → Bool} {g g2 : α → Nat → α} {a : α} : ∀ {n : Nat}, (∀ i, i < n → O i = O2 i) → (∀ x i, i < n → O i = true → g x i = g2 x i) → fld O g a n = fld O2 g2 a n
  | 0, _, _ => rfl
  | n + 1, h1, h2 => by
    have ih := fld_cong (O := O) (O2 := O2) (g := g) (g2 := g2) (a := a) (n := n) (fun i hi => h1 i (by omega)) (fun x i hi => h2 x i (by omega))
    unfold fld
    rw [← h1 n (by omega), ← ih]
    by_cases h : O n = true
    · rw [if_pos h, if_pos h, h2 _ n (by omega) h]
    · rw [if_neg h, if_neg h]
/-- does field f lie in all wedges of the own marks below n -/
def plG (O : Nat → Bool) (s : Hp) (f n : Nat) : Bool := fld O (fun b i => b && (decide (s 48 i = 0) || liesB s i f)) true n
def sbit (x : Int32) (p : Int32) : Int32 := x ||| ((1 : Int32) <<< (p &&& 31))
def DI (s0 : Hp) (O : Nat → Bool) (i : Nat) (s : Hp) : Prop :=
  (∀ c, c ≠ 21 → c ≠ 22 → c ≠ 23 → s c = s0 c) ∧ s 21 2 = nI (fb_ct O i) ∧ (∀ j, j < i → O j = true → s 22 (fb_ct O j) = nI j) ∧ s 21 3 = fld O (fun _ j => s0 44 j) (-1) i ∧ s 21 4 = fld O (fun x j => imin x (s0 45 j)) 10000 i ∧ s 21 5 = fld O (fun x j => imax x (s0 46 j)) (-1) i ∧ s 21 6 = fld O (fun x j => imin x (s0 47 j)) 1000 i ∧ s 21 7 = fld O (fun x j => imax x (s0 47 j)) (-1) i ∧ s 21 8 = fld O (fun x j => sbit x (s0 43 j)) 0 i ∧ ∀ f, f < 1024 → tb (s 23 (f / 32)) (f % 32) = plG O s0 f i
theorem addb_loop (N : Nat) {r : Nat} (hr : r < 60) : ∀ k i m (s : Hp), i + k = 32 → k < m → ∃ t, lp (fun _ _ _ => none) (f_X6_add_142 N) m s (nI r) (nI i) = some (0, t) ∧ (∀ c, c ≠ 23 → t c = s c) ∧ ∀ y, y < 32 → t 23 y = if s 16 r = 0 then s 23 y else if i ≤ y then s 23 y &&& s (58 + r) y else s 23 y
  | k, i, 0, s, _, hm => absurd hm (Nat.not_lt_zero k)
  | 0, i, m + 1, s, hi, _ => by
    have g3 : inR (nI r) 60 = true := inR_nI (by omega) (by decide)
    rw [lp_s]; unfold f_X6_add_142
    rw [g3, ck_t, ix_nI (by omega), if_pos (show (32 : Int32) ≤ nI i from nI_le (a := 32) (by omega) (by omega)), ite_self]
    exact ⟨s, rfl, fun _ _ => rfl, fun y hy => by rw [if_neg (show ¬ i ≤ y by omega), ite_self]⟩
  | k + 1, i, m + 1, s, hi, hm => by
    have ih := fun s => addb_loop N hr k (i + 1) m s (by omega) (by omega)
    have g1 : ¬ (32 : Int32) ≤ nI i := nI_ge (b := 32) (by omega) (by omega)
    have g2 : inR (nI i) 32 = true := inR_nI (by omega) (by decide)
    have g3 : inR (nI r) 60 = true := inR_nI (by omega) (by decide)
    rw [lp_s]
    generalize lp (fun _ _ _ => none) (f_X6_add_142 N) m = S at ih ⊢
    unfold f_X6_add_142
    rw [g3, g2, ck_t, ck_t, ck_t, ck_t, ck_t, sb_e, vb_e, nI_1, if_neg g1, ix_nI (by omega), ix_nI (by omega)]
    by_cases h : s 16 r = 0
    · rw [if_pos h]
      exact ⟨s, rfl, fun _ _ => rfl, fun y hy => by rw [if_pos h]⟩
    · rw [if_neg h]
      obtain ⟨t, e, r1, r2⟩ := ih (hset s 23 i (s 23 i &&& s (58 + r) i))
      refine ⟨t, e, fun c hc => by rw [r1 c hc, hset_d hc], fun y hy => ?_⟩
      rw [r2 y hy, hset_d (show 16 ≠ 23 by decide), hset_d (show 58 + r ≠ 23 by omega), if_neg h, if_neg h, hset_c]
      by_cases hy2 : y = i
      · subst hy2
        rw [if_neg (by omega), if_pos (by omega), pk_us]
      · rw [pk_un hy2]
        by_cases hc : i + 1 ≤ y
        · rw [if_pos hc, if_pos (by omega)]
        · rw [if_neg hc, if_neg (by omega)]
theorem tb_and (x y : Int32) (j : Nat) : tb (x &&& y) j = (tb x j && tb y j) := b_and x y j
theorem add_e {N : Nat} (hN : 101 ≤ N) {s0 : Hp} (p3 : E3 s0) (p4 : E4 s0) (O : Nat → Bool) {i : Nat} (hi : i < nM s0) (hO : O i = true) {s : Hp} (hD : DI s0 O i s) : ∃ t, f_X6_add N s (nI i) = some (0, t) ∧ DI s0 O (i + 1) t := by
  obtain ⟨d1, d2, d3, d4, d5, d6, d7, d8, d9, d10⟩ := hD
  obtain ⟨e1, e2, e3, e4, e5, e6, e7, e8, e9, e10, e11, e12, e13⟩ := id p3
  have hc := fb_ct_le O i
  have g1 : inR (nI (fb_ct O i)) 60 = true := inR_nI (by omega) (by decide)
  have g2 : inR (nI i) 60 = true := inR_nI (by omega) (by decide)
  have g3 : ix (nI i) = i := ix_nI (by omega)
  have g4 : ix (nI (fb_ct O i)) = fb_ct O i := ix_nI (by omega)
  have g5 : nI (fb_ct O i) < (60 : Int32) := nI_lt (b := 60) (by omega) (by omega)
  have ct1 : fb_ct O (i + 1) = fb_ct O i + 1 := by rw [fb_ct_succ, if_pos hO]
  unfold f_X6_add
  rw [d2, if_pos g5, g1, g2, g3, g4, ck_t, sb_e, sb_e, ck_t, sb_e, ck_t, sb_e, ck_t, sb_e, ck_t, sb_e, ck_t, sb_e, ck_t, sb_e]
  generalize hu : hset (hset (hset (hset _ 21 5 _) 21 6 _) 21 7 _) 21 8 _ = u
  have u0 : ∀ c, c ≠ 21 → c ≠ 22 → u c = s c := fun c c1 c2 => by rw [← hu, hset_d c1, hset_d c1, hset_d c1, hset_d c1, hset_d c1, hset_d c1, hset_d c1, hset_d c2]
  have u22 : u 22 = upd (s 22) (fb_ct O i) (nI i) := by rw [← hu]; rfl
  have u2 : u 21 2 = s 21 2 + 1 := by rw [← hu]; rfl
  have u3 : u 21 3 = s 12 i := by rw [← hu]; rfl
  have u4 : u 21 4 = imin (s 21 4) (s 13 i) := by rw [← hu]; rfl
  have u5 : u 21 5 = imax (s 21 5) (s 14 i) := by rw [← hu]; rfl
  have u6 : u 21 6 = imin (s 21 6) (s 15 i) := by rw [← hu]; rfl
  have u7 : u 21 7 = imax (s 21 7) (s 15 i) := by rw [← hu]; rfl
  have u8 : u 21 8 = sbit (s 21 8) (s 11 i) := by rw [← hu]; rfl
  have s11 : s 11 = s0 43 := by rw [d1 11 (by decide) (by decide) (by decide), e2]
  have s12 : s 12 = s0 44 := by rw [d1 12 (by decide) (by decide) (by decide), e3]
  have s13 : s 13 = s0 45 := by rw [d1 13 (by decide) (by decide) (by decide), e4]
  have s14 : s 14 = s0 46 := by rw [d1 14 (by decide) (by decide) (by decide), e5]
  have s15 : s 15 = s0 47 := by rw [d1 15 (by decide) (by decide) (by decide), e6]
  obtain ⟨t, et, t1, t2⟩ := addb_loop N (r := i) (by omega) 32 0 N u (by omega) (by omega)
  refine ⟨t, et, fun c c1 c2 c3 => by rw [t1 c c3, u0 c c1 c2, d1 c c1 c2 c3], ?_, ?_, ?_, ?_, ?_, ?_, ?_, ?_, ?_⟩
  · rw [t1 21 (by decide), u2, d2, ct1, nI_1]
  · intro j hj hOj
    rw [t1 22 (by decide), u22]
    by_cases ej : j = i
    · rw [ej, pk_us]
    · have : fb_ct O j ≠ fb_ct O i := fun q => ej (fb_ct_kth_one hOj hO q)
      rw [pk_un this]
      exact d3 j (by omega) hOj
  · rw [t1 21 (by decide), u3, s12, fld_t hO]
  · rw [t1 21 (by decide), u4, s13, fld_t hO, d5]
  · rw [t1 21 (by decide), u5, s14, fld_t hO, d6]
  · rw [t1 21 (by decide), u6, s15, fld_t hO, d7]
  · rw [t1 21 (by decide), u7, s15, fld_t hO, d8]
  · rw [t1 21 (by decide), u8, s11, fld_t hO, d9]
  · intro f hf
    unfold plG
    rw [fld_t hO, t2 (f / 32) (by omega), if_pos (Nat.zero_le _), u0 16 (by decide) (by decide), u0 23 (by decide) (by decide), u0 (58 + i) (by omega) (by omega), d1 16 (by decide) (by decide) (by decide), d1 (58 + i) (by omega) (by omega) (by omega), e7]
    have := d10 f hf
    unfold plG at this
    rcases e11 i with h | h
    · rw [if_pos h, this, decide_eq_true h, Bool.true_or, Bool.and_true]
    · rw [if_neg (by rw [h]; decide), tb_and, this, p4 i hi h f hf, decide_eq_false (by rw [h]; decide), Bool.false_or]
theorem drw_loop {N : Nat} (hN : 101 ≤ N) {s0 : Hp} (p3 : E3 s0) (p4 : E4 s0) (q : Int32) : ∀ k i m (s : Hp), i + k = nM s0 → k < m → DI s0 (fun j => decide (s0 20 j = q)) i s → ∃ t, lp (fun _ _ _ => none) (f_X6_draw_66 N) m s q (nI i) = some (0, t) ∧ DI s0 (fun j => decide (s0 20 j = q)) (nM s0) t
  | k, i, 0, s, _, hm, _ => absurd hm (Nat.not_lt_zero k)
  | 0, i, m + 1, s, hi, _, hD => by
    have h60 := p3.2.2.2.2.2.2.2.2.1
    have e : i = nM s0 := by omega
    subst e
    rw [lp_s]; unfold f_X6_draw_66
    rw [hD.1 10 (by decide) (by decide) (by decide), p3.1, p3.2.2.2.2.2.2.2.1, if_pos (nI_le (by omega) (by omega))]
    exact ⟨s, rfl, hD⟩
  | k + 1, i, m + 1, s, hi, hm, hD => by
    have h60 := p3.2.2.2.2.2.2.2.2.1
    have ih := fun s => drw_loop hN p3 p4 q k (i + 1) m s (by omega) (by omega)
    have g1 : ¬ nI (nM s0) ≤ nI i := nI_ge (by omega) (by omega)
    have g2 : inR (nI i) 60 = true := inR_nI (by omega) (by decide)
    rw [lp_s]
    generalize lp (fun _ _ _ => none) (f_X6_draw_66 N) m = S at ih ⊢
    unfold f_X6_draw_66 f_X6_draw_93
    rw [hD.1 10 (by decide) (by decide) (by decide), p3.1, p3.2.2.2.2.2.2.2.1, if_neg g1, g2, ck_t, vb_e, nI_1, ix_nI (by omega), hD.1 20 (by decide) (by decide) (by decide)]
    by_cases h : s0 20 i = q
    · rw [if_pos h]
      obtain ⟨t, et, ht⟩ := add_e hN p3 p4 (fun j => decide (s0 20 j = q)) (show i < nM s0 by omega) (decide_eq_true h) hD
      rw [et, bd_e, vb_e]
      exact ih t ht
    · rw [if_neg h]
      refine ih s ?_
      obtain ⟨d1, d2, d3, d4, d5, d6, d7, d8, d9, d10⟩ := hD
      have hO : ¬ decide (s0 20 i = q) = true := fun z => h (of_decide_eq_true z)
      have hOn : (fun j => decide (s0 20 j = q)) i = false := Bool.eq_false_iff.mpr hO
      refine ⟨d1, ?_, ?_, ?_, ?_, ?_, ?_, ?_, ?_, ?_⟩
      · rw [d2, fb_ct_succ, if_neg hO, Nat.add_zero]
      · intro j hj hOj
        by_cases ej : j = i
        · rw [ej] at hOj; exact absurd hOj hO
        · exact d3 j (by omega) hOj
      · rw [d4, fld_f hO]
      · rw [d5, fld_f hO]
      · rw [d6, fld_f hO]
      · rw [d7, fld_f hO]
      · rw [d8, fld_f hO]
      · rw [d9, fld_f hO]
      · intro f hf
        unfold plG
        rw [fld_f hO]
        exact d10 f hf
theorem row_loop {N : Nat} (q : Int32) : ∀ k i m (s : Hp), i + k = 32 → k < m → ∃ t, lp (fun _ _ _ => none) (f_X6_draw_42 N) m s q (nI i) = l_X6_draw_66 N t q 0 ∧ (∀ c, c ≠ 23 → t c = s c) ∧ ∀ y, y < 32 → t 23 y = if i ≤ y then -1 else s 23 y
  | k, i, 0, s, _, hm => absurd hm (Nat.not_lt_zero k)
  | 0, i, m + 1, s, hi, _ => by
    rw [lp_s]; unfold f_X6_draw_42
    rw [if_pos (show (32 : Int32) ≤ nI i from nI_le (a := 32) (by omega) (by omega))]
    exact ⟨s, rfl, fun _ _ => rfl, fun y hy => by rw [if_neg (by omega)]⟩
  | k + 1, i, m + 1, s, hi, hm => by
    have ih := fun s => row_loop (N := N) q k (i + 1) m s (by omega) (by omega)
    have g1 : ¬ (32 : Int32) ≤ nI i := nI_ge (b := 32) (by omega) (by omega)
    have g2 : inR (nI i) 32 = true := inR_nI (by omega) (by decide)
    rw [lp_s]
    generalize lp (fun _ _ _ => none) (f_X6_draw_42 N) m = S at ih ⊢
    unfold f_X6_draw_42
    rw [if_neg g1, g2, ck_t, sb_e, vb_e, nI_1, ix_nI (by omega)]
    obtain ⟨t, e, r1, r2⟩ := ih (hset s 23 i (-1))
    refine ⟨t, e, fun c hc => by rw [r1 c hc, hset_d hc], fun y hy => ?_⟩
    rw [r2 y hy, hset_c]
    by_cases hy2 : y = i
    · subst hy2
      rw [if_neg (by omega), if_pos (by omega), pk_us]
    · rw [pk_un hy2]
      by_cases hc : i + 1 ≤ y
      · rw [if_pos hc, if_pos (by omega)]
      · rw [if_neg hc, if_neg (by omega)]
theorem draw_e {N : Nat} (hN : 101 ≤ N) {s : Hp} (p3 : E3 s) (p4 : E4 s) (q : Int32) : ∃ t, f_X6_draw N s q = some (0, t) ∧ DI s (fun j => decide (s 20 j = q)) (nM s) t := by
  unfold f_X6_draw
  rw [sb_e, sb_e, sb_e, sb_e, sb_e, sb_e, sb_e]
  generalize hu : hset (hset (hset (hset (hset (hset (hset s 21 2 0) 21 3 (-1)) 21 4 10000) 21 5 (-1)) 21 6 1000) 21 7 (-1)) 21 8 0 = u
  obtain ⟨t, et, t1, t2⟩ := row_loop (N := N) q 32 0 N u (by omega) (by omega)
  have h60 := p3.2.2.2.2.2.2.2.2.1
  have et' : l_X6_draw_42 N u q 0 = l_X6_draw_66 N t q 0 := et
  rw [et']
  refine drw_loop hN p3 p4 q (nM s) 0 N t (by omega) (by omega) ⟨fun c c1 c2 c3 => by rw [t1 c c3, ← hu, hset_d c1, hset_d c1, hset_d c1, hset_d c1, hset_d c1, hset_d c1, hset_d c1], ?_, fun j hj => absurd hj (Nat.not_lt_zero j), ?_, ?_, ?_, ?_, ?_, ?_, ?_⟩
  all_goals first | (rw [t1 21 (by decide), ← hu]; rfl) | skip
  intro f hf
  rw [t2 (f / 32) (by omega), if_pos (Nat.zero_le _)]
  exact b_m1 _ (by omega)
theorem drawSame {s t : Hp} (h : ∀ c, c ≠ 21 → c ≠ 22 → c ≠ 23 → t c = s c) : Same s t := by
  refine ⟨fun c hc => h c (fun e => ?_) (fun e => ?_) (fun e => ?_), fun c k hc => ?_, fun j _ => by rw [h 53 (by decide) (by decide) (by decide)]⟩
  · rw [e] at hc; exact absurd hc (by decide)
  · rw [e] at hc; exact absurd hc (by decide)
  · rw [e] at hc; exact absurd hc (by decide)
  · unfold relS at hc
    rw [decide_eq_true_iff] at hc
    rw [h c]
    all_goals
      intro e
      rw [e] at hc
      revert hc
      simp
