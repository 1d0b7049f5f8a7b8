/-! licence -/
def lOK (f : Nat → Int32) : Prop := ∀ p, p < 5 → vI (gN p + 1) (f (2 * p)) ∧ vI (gN p + 1) (f (2 * p + 1)) ∧ (p ≠ 1 → f (2 * p) ≤ f (2 * p + 1))
theorem lOK_lic {f : Nat → Int32} (h : lOK f) : licOK f := by
  obtain ⟨a0, a1, a2⟩ := h 0 (by decide)
  obtain ⟨b0, b1, b2⟩ := h 1 (by decide)
  obtain ⟨c0, c1, c2⟩ := h 2 (by decide)
  obtain ⟨d0, d1, d2⟩ := h 3 (by decide)
  obtain ⟨e0, e1, e2⟩ := h 4 (by decide)
  exact ⟨a0, a1, a2 (by decide), b0, b1, c0, c1, c2 (by decide), d0, d1, d2 (by decide), e0, e1, e2 (by decide)⟩
theorem rRng_ok {b : Nat → Int32} (hb : ∀ i, vI 256 (b i)) {T p a : Nat} {f : Nat → Int32} (hp : p < 5) (hf : lOK f) (h : (rRng b T p a f).2.2 = 0) : lOK (rRng b T p a f).2.1 := by
  unfold rRng at h ⊢
  obtain ⟨z1, z2⟩ := rB_f h
  rw [z2] at h ⊢
  obtain ⟨z3, z4⟩ := rB_f z1
  obtain ⟨n1, n2, n3, n4, n5⟩ := rNum_f z3
  rw [z4] at z1 h ⊢
  obtain ⟨g1, g2, g3⟩ := rSgn_f z1
  rw [g1, n2] at h ⊢
  obtain ⟨m1, m2, m3, m4, m5⟩ := rNum_f h
  rw [m2]
  have hg := gN_b p
  intro q hq
  by_cases e : q = p
  · subst e
    rw [pk_us, pk_un (show 2 * q ≠ 2 * q + 1 by omega), pk_us]
    refine ⟨⟨_, by omega, rfl⟩, ⟨_, by omega, rfl⟩, fun hq1 => ?_⟩
    rw [if_neg hq1, pk_us, ix_nI (by omega)] at m3
    exact nI_le m3 (by omega)
  · rw [pk_un (show 2 * q ≠ 2 * p + 1 by omega), pk_un (show 2 * q ≠ 2 * p by omega), pk_un (show 2 * q + 1 ≠ 2 * p + 1 by omega), pk_un (show 2 * q + 1 ≠ 2 * p by omega)]
    exact hf q hq
theorem rCls_ok {b : Nat → Int32} (hb : ∀ i, vI 256 (b i)) {T w a : Nat} {f : Nat → Int32} (hw : w < 4) (hf : lOK f) (h : (rCls b T w a f).2.2 = 0) : lOK (rCls b T w a f).2.1 := by
  unfold rCls at h ⊢
  obtain ⟨z1, z2⟩ := rB_f h
  rw [z2] at h ⊢
  rw [(rSgn_f h).1]
  obtain ⟨z3, z4⟩ := rB_f z1
  have ok1 := rRng_ok hb (show w < 5 by omega) hf z3
  rw [z4] at z1 ⊢
  by_cases e : w = 3
  · rw [if_pos e] at z1 ⊢
    exact rRng_ok hb (by decide) ok1 z1
  · rw [if_neg e]
    exact ok1
theorem rNum_le {b : Nat → Int32} (hb : ∀ i, vI 256 (b i)) {T i lo hi a : Nat} {f : Nat → Int32} (ha : a ≤ T) : (rNum b T i lo hi a f).1 ≤ T := by
  have hE := (tE_b hb ha).2
  unfold rNum
  by_cases hk : tK b T a = 2
  · rw [if_pos hk]
    by_cases c : tV b T a < lo ∨ hi < tV b T a
    · rw [if_pos c]; exact ha
    · rw [if_neg c]; exact hE
  · rw [if_neg hk]; exact ha
theorem rSgn_le {b : Nat → Int32} (hb : ∀ i, vI 256 (b i)) {T a : Nat} {k : Int32} {f : Nat → Int32} (ha : a ≤ T) : (rSgn b T k a f).1 ≤ T := by
  have hE := (tE_b hb ha).2
  unfold rSgn
  by_cases hk : tK b T a = k
  · rw [if_pos hk]; exact hE
  · rw [if_neg hk]; exact ha
theorem rB_le {T : Nat} {r : Nat × (Nat → Int32) × Int32} {g : Nat → (Nat → Int32) → Nat × (Nat → Int32) × Int32} (hr : r.1 ≤ T) (hg : ∀ a f, a ≤ T → (g a f).1 ≤ T) : (rB r g).1 ≤ T := by
  unfold rB
  by_cases h : r.2.2 = 0
  · rw [if_pos h]; exact hg _ _ hr
  · rw [if_neg h]; exact hr
theorem rRng_le {b : Nat → Int32} (hb : ∀ i, vI 256 (b i)) {T p a : Nat} {f : Nat → Int32} (ha : a ≤ T) : (rRng b T p a f).1 ≤ T := by
  unfold rRng
  exact rB_le (rB_le (rNum_le hb ha) (fun a f h => rSgn_le hb h)) (fun a f h => rNum_le hb h)
theorem rCls_le {b : Nat → Int32} (hb : ∀ i, vI 256 (b i)) {T w a : Nat} {f : Nat → Int32} (ha : a ≤ T) : (rCls b T w a f).1 ≤ T := by
  unfold rCls
  refine rB_le (rB_le (rRng_le hb ha) (fun a f h => ?_)) (fun a f h => rSgn_le hb h)
  by_cases e : w = 3
  · rw [if_pos e]; exact rRng_le hb h
  · rw [if_neg e]; exact h
theorem rLp_ok {b : Nat → Int32} (hb : ∀ i, vI 256 (b i)) {T : Nat} : ∀ k sn a f, a ≤ T → lOK f → (rLp b T k sn a f).2.2 = 0 → lOK (rLp b T k sn a f).2.1
  | 0, _, _, _, _, hf, _ => hf
  | k + 1, sn, a, f, ha, hf, h => by
    unfold rLp at h ⊢
    by_cases c0 : tK b T a = 0
    · rw [if_pos c0]; exact hf
    · rw [if_neg c0] at h ⊢
      by_cases c1 : wOf b (tS b T a) (tE b T a) = -1
      · rw [if_pos c1] at h; exact absurd h (show ¬ (1 : Int32) = 0 by decide)
      · rw [if_neg c1] at h ⊢
        by_cases c2 : bt sn (ix (wOf b (tS b T a) (tE b T a))) = true
        · rw [if_pos c2] at h; exact absurd h (show ¬ (2 : Int32) = 0 by decide)
        · rw [if_neg c2] at h ⊢
          obtain ⟨z1, z2⟩ := rB_f h
          have hw : ix (wOf b (tS b T a) (tE b T a)) < 4 := by
            rcases word_rel hb ha with ⟨w, hw, ew, _⟩ | ⟨ew, _⟩
            · rw [ew, ix_nI (by omega)]; exact hw
            · exact absurd ew c1
          have ok1 := rCls_ok hb hw hf z1
          rw [z2] at h ⊢
          exact rLp_ok hb k _ _ _ (rCls_le hb (tE_b hb ha).2) ok1 h
theorem addL_loop (N : Nat) {K : Nat} (hK : K < 10) : ∀ k i m (s : Hp), i + k = 10 → k < m → s 28 1 = nI K → ∃ t, lp (fun _ _ => none) (f_X1_add_20 N) m s (nI i) = some (nI K, t) ∧ t 28 1 = nI (K + 1) ∧ (∀ c, c ≠ 28 → c ≠ 118 + K → t c = s c) ∧ ∀ j, t (118 + K) j = if i ≤ j ∧ j < 10 then s 27 j else s (118 + K) j
  | k, i, 0, s, _, hm, _ => absurd hm (Nat.not_lt_zero k)
  | 0, i, m + 1, s, hi, _, h => by
    rw [lp_s]; unfold f_X1_add_20
    rw [if_pos (show (10 : Int32) ≤ nI i from nI_le (a := 10) (by omega) (by omega)), sb_e, h, nI_1, hs_same, nI_pred]
    exact ⟨_, rfl, hs_same, fun c c1 c2 => hset_d c1, fun j => by rw [hset_d (by omega), if_neg (by omega)]⟩
  | k + 1, i, m + 1, s, hi, hm, h => by
    have ih := fun s => addL_loop N hK k (i + 1) m s (by omega) (by omega)
    rw [lp_s]
    generalize lp (fun _ _ => none) (f_X1_add_20 N) m = S at ih ⊢
    unfold f_X1_add_20
    rw [if_neg (show ¬ (10 : Int32) ≤ nI i from nI_ge (b := 10) (by omega) (by omega)), h, inR_nI hK (by decide), ck_t, inR_nI (show i < 10 by omega) (by decide), ck_t, ck_t, sb_e, vb_e, nI_1, ix_nI (show K < 2 ^ 31 by omega), ix_nI (show i < 2 ^ 31 by omega)]
    obtain ⟨t, e, r1, r2, r3⟩ := ih (hset s (118 + K) i (s 27 i)) ((congrFun (hset_d (show (28 : Nat) ≠ 118 + K by omega)) 1).trans h)
    refine ⟨t, e, r1, fun c c1 c2 => by rw [r2 c c1 c2, hset_d c2], fun j => ?_⟩
    rw [r3 j, hset_d (show (27 : Nat) ≠ 118 + K by omega)]
    by_cases c1 : i + 1 ≤ j ∧ j < 10
    · rw [if_pos c1, if_pos (show i ≤ j ∧ j < 10 by omega)]
    · rw [if_neg c1, hset_rd, if_pos rfl]
      by_cases c2 : j = i
      · rw [if_pos c2, if_pos (show i ≤ j ∧ j < 10 by omega), c2]
      · rw [if_neg c2, if_neg (show ¬ (i ≤ j ∧ j < 10) by omega)]
theorem addM_loop (N : Nat) {K : Nat} (hK : K < 10) : ∀ k i m (s : Hp), i + k = 10 → k < m → s 36 23 = nI K → ∃ t, lp (fun _ _ => none) (f_X10_licence_54 N) m s (nI i) = some (nI K, t) ∧ t 36 23 = nI (K + 1) ∧ (∀ c, c ≠ 36 → c ≠ 53 → t c = s c) ∧ (∀ j, j ≠ 23 → t 36 j = s 36 j) ∧ ∀ j, t 53 j = if 10 * K + i ≤ j ∧ j < 10 * K + 10 then s 53 (100 + (j - 10 * K)) else s 53 j
  | k, i, 0, s, _, hm, _ => absurd hm (Nat.not_lt_zero k)
  | 0, i, m + 1, s, hi, _, h => by
    rw [lp_s]; unfold f_X10_licence_54
    rw [if_pos (show (10 : Int32) ≤ nI i from nI_le (a := 10) (by omega) (by omega)), sb_e, h, nI_1, hs_same, nI_pred]
    exact ⟨_, rfl, hs_same, fun c c1 c2 => hset_d c1, fun j hj => hs_slot hj, fun j => by rw [hset_d (by decide), if_neg (by omega)]⟩
  | k + 1, i, m + 1, s, hi, hm, h => by
    have ih := fun s => addM_loop N hK k (i + 1) m s (by omega) (by omega)
    have g0 : (10 : Int32) * nI K = nI (10 * K) := pk_mul 10 K
    rw [lp_s]
    generalize lp (fun _ _ => none) (f_X10_licence_54 N) m = S at ih ⊢
    unfold f_X10_licence_54
    rw [if_neg (show ¬ (10 : Int32) ≤ nI i from nI_ge (b := 10) (by omega) (by omega)), h, g0, nI_add, show (100 : Int32) + nI i = nI (100 + i) from nI_add 100 i, inR_nI (show 100 + i < 110 by omega) (by decide), ck_t, inR_nI (show 10 * K + i < 110 by omega) (by decide), ck_t, sb_e, vb_e, nI_1, ix_nI (show 100 + i < 2 ^ 31 by omega), ix_nI (show 10 * K + i < 2 ^ 31 by omega)]
    obtain ⟨t, e, r1, r2, r3, r4⟩ := ih (hset s 53 (10 * K + i) (s 53 (100 + i))) ((congrFun (hset_d (show (36 : Nat) ≠ 53 by decide)) 23).trans h)
    refine ⟨t, e, r1, fun c c1 c2 => by rw [r2 c c1 c2, hset_d c2], fun j hj => by rw [r3 j hj, hset_d (by decide)], fun j => ?_⟩
    rw [r4 j]
    by_cases c1 : 10 * K + (i + 1) ≤ j ∧ j < 10 * K + 10
    · rw [if_pos c1, if_pos (show 10 * K + i ≤ j ∧ j < 10 * K + 10 by omega), hs_slot (by omega)]
    · rw [if_neg c1, hset_rd, if_pos rfl]
      by_cases c2 : j = 10 * K + i
      · rw [if_pos c2, if_pos (show 10 * K + i ≤ j ∧ j < 10 * K + 10 by omega), c2, show 10 * K + i - 10 * K = i by omega]
      · rw [if_neg c2, if_neg (show ¬ (10 * K + i ≤ j ∧ j < 10 * K + 10) by omega)]
theorem ok_licence {N : Nat} (hN : 102 ≤ N) : ag_licence N PS := by
  intro s p
  obtain ⟨p1, p2, p3, p4, p5, p6, p7, p8, p9, p10⟩ := id p
  obtain ⟨e1, e2, e3, e4⟩ := id p9
  obtain ⟨t1, t2, t3, t4, t5⟩ := id p7
  have h60 := p3.2.2.2.2.2.2.2.2.1
  dsimp only
  generalize hK : nK s = K at e2 e3 e4
  generalize hTn : nT s = T at t3 t4
  by_cases hfull : K < 10
  · have hb : ∀ i, vI 256 (s 52 i) := t5
    obtain ⟨t, sn, er, hC⟩ := read_e hN hb t4 (t1.trans t3) t2
    have hfI : ∀ j, j < 10 → fI s j = if j % 2 = 0 then 0 else gG (j / 2) := fun j hj => by unfold fI; rw [if_pos hj]
    have hini : lOK (fI s) := by
      intro q hq
      rw [hfI _ (by omega), hfI _ (by omega), if_pos (by omega), if_neg (by omega), show (2 * q + 1) / 2 = q by omega, gG_n]
      have hg := gN_b q
      exact ⟨⟨0, by omega, rfl⟩, ⟨gN q, by omega, rfl⟩, fun _ => nI_le (a := 0) (Nat.zero_le _) (by omega)⟩
    have hok := rLp_ok hb (T := T) 5 0 0 (fI s) (Nat.zero_le T) hini
    have hMd := fun (w : Hp) (w22 : w 36 22 = nI T) (w52 : w 52 = s 52) => readM_e (N := N) hN (s := w) hb t4 w22 w52 hfI
    generalize hr : rLp (s 52) T 5 0 0 (fI s) = r at hC hok hMd
    obtain ⟨c0, c1, c2, c3, c4, c5, c6, c7, c8, c9⟩ := hC
    have x28 : t 28 1 = nI K := by rw [c9 28 (by decide) (by decide) (by decide)]; exact e1.trans e2
    -- the class's end
    obtain ⟨v, w, hv, wcls, w24, w26a, w26b, wfr, wok⟩ : ∃ (v : Int32) (w : Hp), v = (if r.2.2 = 0 then nI K else -1) ∧ f_X9_licence N s = some (v, w) ∧ w 24 1 = 0 ∧ w 26 2 = r.2.2 ∧ w 26 3 = (if r.2.2 = 0 then -1 else nI (tS (s 52) T r.1)) ∧ (∀ c, c ≠ 24 → c ≠ 26 → c ≠ 27 → c ≠ 28 → c ≠ 118 + K → w c = s c) ∧ (if r.2.2 = 0 then w 28 1 = nI (K + 1) ∧ ∀ j, j < 10 → w (118 + K) j = r.2.1 j else w 28 1 = nI K) := by
      unfold f_X9_licence
      rw [e1, e2, if_pos (show nI K < 10 from nI_lt (b := 10) hfull (by decide)), er, bd_e, sb_e, hset_d (show (26 : Nat) ≠ 24 by decide), c6]
      by_cases z : r.2.2 = 0
      · rw [if_pos z, if_pos z, if_pos z]
        have y28 : hset t 24 1 0 28 1 = nI K := x28
        obtain ⟨w, ew, r1, r2, r3⟩ := addL_loop N hfull 10 0 N (hset t 24 1 0) (by omega) (by omega) y28
        have ew' : f_X1_add N (hset t 24 1 0) = some (nI K, w) := by
          unfold f_X1_add
          rw [y28, if_neg (show ¬ (10 : Int32) ≤ nI K from nI_ge (b := 10) hfull (by decide)), if_pos (show (10 : Int32) ≤ 10 by decide)]
          exact ew
        rw [ew', bd_e]
        refine ⟨nI K, w, rfl, rfl, ?_, ?_, ?_, fun c q1 q2 q3 q4 q5 => ?_, ?_⟩
        · rw [r2 24 (by decide) (by omega), hs_same]
        · rw [r2 26 (by decide) (by omega), hset_d (by decide)]; exact c6
        · rw [r2 26 (by decide) (by omega), hset_d (by decide)]; exact c7.trans (if_pos z)
        · rw [r2 c q4 q5, hset_d q1, c9 c q1 q2 q3]
        · rw [if_pos z]
          refine ⟨r1, fun j hj => ?_⟩
          rw [r3 j, if_pos ⟨Nat.zero_le _, hj⟩, hset_d (by decide), c5]
      · rw [if_neg z, if_neg z, if_neg z]
        refine ⟨-1, hset t 24 1 0, rfl, rfl, hs_same, ?_, ?_, fun c q1 q2 q3 q4 q5 => ?_, ?_⟩
        · rw [hset_d (by decide)]; exact c6
        · rw [hset_d (by decide)]; exact c7.trans (if_neg z)
        · rw [hset_d q1, c9 c q1 q2 q3]
        · rw [if_neg z]; exact x28
    have w36 : w 36 = s 36 := wfr 36 (by decide) (by decide) (by decide) (by decide) (by omega)
    have w52 : w 52 = s 52 := wfr 52 (by decide) (by decide) (by decide) (by decide) (by omega)
    have w53 : w 53 = s 53 := wfr 53 (by decide) (by decide) (by decide) (by decide) (by omega)
    obtain ⟨u, eu, mB, mF⟩ := hMd w (by rw [w36]; exact t3) w52
    obtain ⟨b0, b1, b2, b3, b4, b5, b6, b7, b8⟩ := mB
    have u23 : u 36 23 = nI K := by rw [b8 23 (by decide) (by decide) (by decide) (by decide), w36]; exact e2
    -- the model's end
    obtain ⟨x, wmod, xk, x22, x25, x26, xfr, x36, x53⟩ : ∃ x : Hp, f_X10_licence N w = some (v, x) ∧ x 36 23 = (if r.2.2 = 0 then nI (K + 1) else nI K) ∧ x 36 22 = 0 ∧ x 36 25 = r.2.2 ∧ x 36 26 = (if r.2.2 = 0 then -1 else nI (tS (s 52) T r.1)) ∧ (∀ c, c ≠ 36 → c ≠ 53 → x c = w c) ∧ (∀ j, j < 22 ∨ 30 < j → x 36 j = w 36 j) ∧ (∀ j, j < 100 → x 53 j = if r.2.2 = 0 ∧ 10 * K ≤ j ∧ j < 10 * K + 10 then r.2.1 (j - 10 * K) else s 53 j) := by
      unfold f_X10_licence f_X10_licence_35
      rw [w36, e2, if_neg (show ¬ nI K = 10 from fun z => by have := (nI_eq (show K < 2 ^ 31 by omega) (show 10 < 2 ^ 31 by decide)).mp (show nI K = nI 10 from z); omega), eu, bd_e, sb_e, hs_same, hv]
      by_cases z : r.2.2 = 0
      · rw [if_pos z, sb_e, sb_e, if_pos z]
        have y0 : hset (hset (hset u 36 25 r.2.2) 36 26 (-1)) 36 22 0 36 25 = 0 := by
          rw [hs_slot (by decide), hs_slot (by decide), hs_same]; exact z
        rw [if_pos y0]
        obtain ⟨x, ex, r1, r2, r3, r4⟩ := addM_loop N hfull 10 0 N (hset (hset (hset u 36 25 r.2.2) 36 26 (-1)) 36 22 0) (by omega) (by omega) (by rw [hs_slot (by decide), hs_slot (by decide), hs_slot (by decide)]; exact u23)
        refine ⟨x, ex, by rw [if_pos z]; exact r1, ?_, ?_, ?_, fun c q1 q2 => ?_, fun j hj => ?_, fun j hj => ?_⟩
        · rw [r3 22 (by decide), hs_same]
        · rw [r3 25 (by decide), hs_slot (by decide), hs_slot (by decide), hs_same]
        · rw [r3 26 (by decide), hs_slot (by decide), hs_same, if_pos z]
        · rw [r2 c q1 q2, hset_d q1, hset_d q1, hset_d q1, b7 c q1 q2]
        · rw [r3 j (by omega), hs_slot (by omega), hs_slot (by omega), hs_slot (by omega), b8 j (by omega) (by omega) (by omega) (by omega), w36]
        · rw [r4 j, hset_d (by decide), hset_d (by decide), hset_d (by decide)]
          by_cases q : 10 * K + 0 ≤ j ∧ j < 10 * K + 10
          · rw [if_pos q, if_pos ⟨z, by omega, q.2⟩]
            exact mF z (j - 10 * K) (by omega)
          · rw [if_neg q, if_neg (fun y => q ⟨by omega, y.2.2⟩), b6 j hj, w53]
      · rw [if_neg z, sb_e, sb_e, if_neg z]
        have y0 : ¬ hset (hset (hset u 36 25 r.2.2) 36 26 (hset u 36 25 r.2.2 36 28)) 36 22 0 36 25 = 0 := by
          rw [hs_slot (by decide), hs_slot (by decide), hs_same]; exact z
        rw [if_neg y0]
        refine ⟨_, rfl, ?_, hs_same, ?_, ?_, fun c q1 q2 => ?_, fun j hj => ?_, fun j hj => ?_⟩
        · rw [if_neg z, hs_slot (by decide), hs_slot (by decide), hs_slot (by decide)]; exact u23
        · rw [hs_slot (by decide), hs_slot (by decide), hs_same]
        · rw [hs_slot (by decide), hs_same, hs_slot (by decide), if_neg z]; exact b2
        · rw [hset_d q1, hset_d q1, hset_d q1, b7 c q1 q2]
        · rw [hs_slot (by omega), hs_slot (by omega), hs_slot (by omega), b8 j (by omega) (by omega) (by omega) (by omega), w36]
        · rw [hset_d (by decide), hset_d (by decide), hset_d (by decide), if_neg (fun y => z y.1), b6 j hj, w53]
    refine ⟨v, w, x, wcls, wmod, ?_⟩
    have xs : ∀ c, c ≠ 36 → c ≠ 53 → c ≠ 24 → c ≠ 26 → c ≠ 27 → c ≠ 28 → c ≠ 118 + K → x c = s c := fun c q1 q2 q3 q4 q5 q6 q7 => (xfr c q1 q2).trans (wfr c q3 q4 q5 q6 q7)
    have xf : ∀ c, c < 118 → c ≠ 36 → c ≠ 53 → c ≠ 24 → c ≠ 26 → c ≠ 27 → c ≠ 28 → x c = s c := fun c q0 q1 q2 q3 q4 q5 q6 => xs c q1 q2 q3 q4 q5 q6 (by omega)
    have x36' : ∀ j, j < 22 ∨ 30 < j → x 36 j = s 36 j := fun j hj => by rw [x36 j hj, w36]
    have xnK : nK x = if r.2.2 = 0 then K + 1 else K := by
      unfold nK
      rw [xk]
      by_cases z : r.2.2 = 0
      · rw [if_pos z, if_pos z, ix_nI (by omega)]
      · rw [if_neg z, if_neg z, ix_nI (by omega)]
    refine ⟨E1_fr p1 (by rw [xf 1] <;> decide) (x36' 0 (by decide)) (by rw [xf 2] <;> decide) (by rw [xf 3] <;> decide) (by rw [xf 37] <;> decide) (by rw [xf 38] <;> decide), E2_fr p2 (by rw [xf 4] <;> decide) (x36' 3 (by decide)) (by rw [xf 5] <;> decide) (by rw [xf 6] <;> decide) (by rw [xf 7] <;> decide) (by rw [xf 8] <;> decide) (by rw [xf 39] <;> decide) (by rw [xf 40] <;> decide) (by rw [xf 41] <;> decide) (by rw [xf 42] <;> decide), E3_fr p3 (by unfold nP; rw [x36' 0 (by decide)]; exact Nat.le_refl _) (by rw [xf 10] <;> decide) (x36' 8 (by decide)) (by rw [xf 9] <;> decide) (by rw [xf 11] <;> decide) (by rw [xf 12] <;> decide) (by rw [xf 13] <;> decide) (by rw [xf 14] <;> decide) (by rw [xf 15] <;> decide) (by rw [xf 16] <;> decide) (by rw [xf 43] <;> decide) (by rw [xf 44] <;> decide) (by rw [xf 45] <;> decide) (by rw [xf 46] <;> decide) (by rw [xf 47] <;> decide) (by rw [xf 48] <;> decide), E4_fr p4 h60 (x36' 8 (by decide)) (by rw [xf 48] <;> decide) (by rw [xf 49] <;> decide) (by rw [xf 43] <;> decide) (fun m hm => by rw [xf (58 + m)] <;> omega) (fun m _ => ⟨by rw [xf 37] <;> decide, by rw [xf 38] <;> decide⟩), E5_fr p5 (by rw [xf 18] <;> decide) (by rw [xf 18] <;> decide) (x36' 16 (by decide)) (x36' 17 (by decide)), E6_fr p6 (x36' 8 (by decide)) (by rw [xf 44] <;> decide) (by rw [xf 45] <;> decide) (by rw [xf 46] <;> decide) (by rw [xf 47] <;> decide) (x36' 16 (by decide)) (x36' 17 (by decide)) (by rw [xf 20] <;> decide) (by rw [xf 18] <;> decide), ?_, ?_, ?_, E10_fr p10 (by rw [xf 30] <;> decide) (x36' 31 (by decide)) (by rw [xf 35] <;> decide) (by rw [xf 54] <;> decide)⟩
    · refine ⟨?_, ?_, ?_, ?_, ?_⟩
      · rw [xfr 24 (by decide) (by decide), w24, x22]
      · rw [xf 25 (by decide) (by decide) (by decide) (by decide) (by decide) (by decide) (by decide), xf 52 (by decide) (by decide) (by decide) (by decide) (by decide) (by decide) (by decide)]; exact t2
      · unfold nT; rw [x22]; rfl
      · unfold nT; rw [x22]; decide
      · rw [xf 52 (by decide) (by decide) (by decide) (by decide) (by decide) (by decide) (by decide)]; exact t5
    · refine ⟨?_, ?_⟩
      · rw [xfr 26 (by decide) (by decide), w26a, x25]
      · rw [xfr 26 (by decide) (by decide), w26b, x26]
    · refine ⟨?_, ?_, ?_, fun i hi => ?_⟩
      · rw [xfr 28 (by decide) (by decide), xk]
        by_cases z : r.2.2 = 0
        · rw [if_pos z] at wok ⊢; exact wok.1
        · rw [if_neg z] at wok ⊢; exact wok
      · rw [xnK, xk]
        by_cases z : r.2.2 = 0
        · rw [if_pos z, if_pos z]
        · rw [if_neg z, if_neg z]
      · rw [xnK]
        by_cases z : r.2.2 = 0
        · rw [if_pos z]; omega
        · rw [if_neg z]; omega
      · rw [xnK] at hi
        by_cases hiK : i = K
        · have z : r.2.2 = 0 := by
            by_cases z : r.2.2 = 0
            · exact z
            · rw [if_neg z] at hi; omega
          rw [if_pos z] at wok
          subst hiK
          have hx : ∀ j, j < 10 → x 53 (10 * i + j) = r.2.1 j := fun j hj => by
            rw [x53 (10 * i + j) (by omega), if_pos ⟨z, by omega, by omega⟩, show 10 * i + j - 10 * i = j by omega]
          refine ⟨?_, fun j hj => ?_⟩
          · have hl := lOK_lic (hok z)
            unfold licOK at hl ⊢
            dsimp only
            rw [hx 0 (by decide), hx 1 (by decide), hx 2 (by decide), hx 3 (by decide), hx 4 (by decide), hx 5 (by decide), hx 6 (by decide), hx 7 (by decide), hx 8 (by decide), hx 9 (by decide)]
            exact hl
          · rw [xfr (118 + i) (by omega) (by omega), wok.2 j hj, hx j hj]
        · have hiK2 : i < K := by
            by_cases z : r.2.2 = 0
            · rw [if_pos z] at hi; omega
            · rw [if_neg z] at hi; omega
          obtain ⟨q1, q2⟩ := e4 i hiK2
          have hx : ∀ j, j < 10 → x 53 (10 * i + j) = s 53 (10 * i + j) := fun j hj => by
            rw [x53 (10 * i + j) (by omega), if_neg (by omega)]
          refine ⟨?_, fun j hj => ?_⟩
          · unfold licOK at q1 ⊢
            dsimp only at q1 ⊢
            rw [hx 0 (by decide), hx 1 (by decide), hx 2 (by decide), hx 3 (by decide), hx 4 (by decide), hx 5 (by decide), hx 6 (by decide), hx 7 (by decide), hx 8 (by decide), hx 9 (by decide)]
            exact q1
          · rw [xs (118 + i) (by omega) (by omega) (by omega) (by omega) (by omega) (by omega) (by omega), hx j hj]
            exact q2 j hj
  · have hK10 : K = 10 := by omega
    refine ⟨-1, s, s, ?_, ?_, p⟩
    · unfold f_X9_licence
      rw [e1, e2, hK10, if_neg (show ¬ nI 10 < 10 by decide)]
    · unfold f_X10_licence
      rw [e2, hK10, if_pos (show nI 10 = 10 from rfl)]
