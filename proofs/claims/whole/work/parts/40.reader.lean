/-! reading a text as clauses: what is read, and the class's reader -/
def gN (p : Nat) : Nat := if p = 0 then 15 else if p = 1 then 1439 else if p = 2 then 999 else 31
theorem gG_n (p : Nat) : gG p = nI (gN p) := by
  unfold gG gN
  repeat' split
  all_goals rfl
theorem gN_b (p : Nat) : gN p < 1440 := by
  unfold gN
  repeat' split
  all_goals omega
def rB (r : Nat × (Nat → Int32) × Int32) (g : Nat → (Nat → Int32) → Nat × (Nat → Int32) × Int32) : Nat × (Nat → Int32) × Int32 := if r.2.2 = 0 then g r.1 r.2.1 else r
theorem rB_0 {a : Nat} {f : Nat → Int32} {g : Nat → (Nat → Int32) → Nat × (Nat → Int32) × Int32} : rB (a, f, 0) g = g a f := if_pos rfl
theorem rB_n {r : Nat × (Nat → Int32) × Int32} {g : Nat → (Nat → Int32) → Nat × (Nat → Int32) × Int32} (h : ¬ r.2.2 = 0) : rB r g = r := if_neg h
def rNum (b : Nat → Int32) (T i lo hi a : Nat) (f : Nat → Int32) : Nat × (Nat → Int32) × Int32 := if tK b T a = 2 then (if tV b T a < lo ∨ hi < tV b T a then (a, f, 3) else (tE b T a, upd f i (nI (tV b T a)), 0)) else (a, f, 1)
def rSgn (b : Nat → Int32) (T : Nat) (k : Int32) (a : Nat) (f : Nat → Int32) : Nat × (Nat → Int32) × Int32 := if tK b T a = k then (tE b T a, f, 0) else (a, f, 1)
def rRng (b : Nat → Int32) (T p a : Nat) (f : Nat → Int32) : Nat × (Nat → Int32) × Int32 := rB (rB (rNum b T (2 * p) 0 (gN p) a f) (rSgn b T 3)) (fun a f => rNum b T (2 * p + 1) (if p = 1 then 0 else ix (f (2 * p))) (gN p) a f)
def rCls (b : Nat → Int32) (T w a : Nat) (f : Nat → Int32) : Nat × (Nat → Int32) × Int32 := rB (rB (rRng b T w a f) (fun a f => if w = 3 then rRng b T 4 a f else (a, f, 0))) (rSgn b T 4)
def rLp (b : Nat → Int32) (T : Nat) : Nat → Int32 → Nat → (Nat → Int32) → Nat × (Nat → Int32) × Int32
  | 0, _, a, f => (a, f, 0)
  | k + 1, sn, a, f => if tK b T a = 0 then (a, f, 0) else if wOf b (tS b T a) (tE b T a) = -1 then (a, f, 1) else if bt sn (ix (wOf b (tS b T a) (tE b T a))) = true then (a, f, 2) else rB (rCls b T (ix (wOf b (tS b T a) (tE b T a))) (tE b T a) f) (fun a' f' => rLp b T k (sbit sn (wOf b (tS b T a) (tE b T a))) a' f')
def CS (s0 : Hp) (b : Nat → Int32) (T : Nat) (sn : Int32) (t : Hp) (r : Nat × (Nat → Int32) × Int32) : Prop :=
  r.1 ≤ T ∧ t 24 1 = nI T ∧ t 24 2 = nI (tS b T r.1) ∧ t 24 3 = nI (tE b T r.1) ∧ t 24 4 = tK b T r.1 ∧ t 27 = r.2.1 ∧ t 26 2 = r.2.2 ∧ t 26 3 = (if r.2.2 = 0 then -1 else nI (tS b T r.1)) ∧ t 26 1 = sn ∧ ∀ c, c ≠ 24 → c ≠ 26 → c ≠ 27 → t c = s0 c
theorem CS_step {N : Nat} (hN : 102 ≤ N) {s0 : Hp} {b : Nat → Int32} (hb : ∀ i, vI 256 (b i)) {T : Nat} (hT : T ≤ 100) (h25 : s0 25 = b) {sn : Int32} {t : Hp} {a : Nat} {f : Nat → Int32} (h : CS s0 b T sn t (a, f, 0)) : ∃ t', f_X8_step N t = some (0, t') ∧ CS s0 b T sn t' (tE b T a, f, 0) := by
  obtain ⟨h0, h1, h2, h3, h4, h5, h6, h7, h8, h9⟩ := h
  have hE := tE_b hb (show a ≤ T from h0)
  obtain ⟨t', e, r1, r2, r3, r4, r5⟩ := step_e hN hb hT hE.2 h1 h3 ((h9 25 (by decide) (by decide) (by decide)).trans h25)
  refine ⟨t', e, hE.2, r4, r1, r2, r3, ?_, ?_, ?_, ?_, fun c c1 c2 c3 => by rw [r5 c c1, h9 c c1 c2 c3]⟩
  · rw [r5 27 (by decide)]; exact h5
  · rw [r5 26 (by decide)]; exact h6
  · rw [r5 26 (by decide)]; exact h7
  · rw [r5 26 (by decide)]; exact h8
theorem CS_blame (N : Nat) {s0 : Hp} {b : Nat → Int32} {T : Nat} {sn : Int32} {t : Hp} {a : Nat} {f : Nat → Int32} {k : Int32} (hk : ¬ k = 0) (h : CS s0 b T sn t (a, f, 0)) : ∃ t', f_X5_blame N t k = some (0, t') ∧ CS s0 b T sn t' (a, f, k) := by
  obtain ⟨h0, h1, h2, h3, h4, h5, h6, h7, h8, h9⟩ := h
  unfold f_X5_blame
  rw [sb_e, sb_e, hset_d (show (24 : Nat) ≠ 26 by decide), h2]
  refine ⟨_, rfl, h0, ?_, ?_, ?_, ?_, ?_, ?_, ?_, ?_, fun c c1 c2 c3 => by rw [hset_d c2, hset_d c2, h9 c c1 c2 c3]⟩
  · rw [hset_d (by decide), hset_d (by decide)]; exact h1
  · rw [hset_d (by decide), hset_d (by decide)]; exact h2
  · rw [hset_d (by decide), hset_d (by decide)]; exact h3
  · rw [hset_d (by decide), hset_d (by decide)]; exact h4
  · rw [hset_d (by decide), hset_d (by decide)]; exact h5
  · rw [hs_slot (by decide), hs_same]
  · rw [hs_same, if_neg hk]
  · rw [hs_slot (by decide), hs_slot (by decide)]; exact h8
theorem num_noop (N : Nat) {t : Hp} (h : ¬ t 26 2 = 0) (x y z : Int32) : f_X5_readNumber N t x y z = some (0, t) := by
  unfold f_X5_readNumber
  rw [if_neg h]
theorem sgn_noop (N : Nat) {t : Hp} (h : ¬ t 26 2 = 0) (x : Int32) : f_X5_readSign N t x = some (0, t) := by
  unfold f_X5_readSign
  rw [if_neg h]
theorem tV_b {b : Nat → Int32} (hb : ∀ i, vI 256 (b i)) (T a : Nat) : tV b T a ≤ 10000 := by
  have := vRel_F hb (T - tS b T a) (tS b T a) 0 0 (Or.inl ⟨rfl, by decide⟩)
  unfold vRel at this
  unfold tV
  omega
theorem CS_num {N : Nat} (hN : 102 ≤ N) {s0 : Hp} {b : Nat → Int32} (hb : ∀ i, vI 256 (b i)) {T : Nat} (hT : T ≤ 100) (h25 : s0 25 = b) {sn : Int32} {t : Hp} {r : Nat × (Nat → Int32) × Int32} (h : CS s0 b T sn t r) {i hi : Nat} (hi10 : i < 10) (hhi : hi < 10000) {lo : Int32} {lo2 : Nat → (Nat → Int32) → Nat} (hlo : r.2.2 = 0 → lo = nI (lo2 r.1 r.2.1) ∧ lo2 r.1 r.2.1 < 20000) : ∃ t', f_X5_readNumber N t (nI i) lo (nI hi) = some (0, t') ∧ CS s0 b T sn t' (rB r (fun a f => rNum b T i (lo2 a f) hi a f)) := by
  obtain ⟨a, f, x⟩ := r
  by_cases hx : x = 0
  · subst hx
    rw [rB_0]
    obtain ⟨hl1, hl2⟩ := hlo rfl
    obtain ⟨h0, h1, h2, h3, h4, h5, h6, h7, h8, h9⟩ := id h
    have hv := tV_b hb T a
    dsimp only at hl1 hl2
    unfold f_X5_readNumber f_X5_readNumber_42 rNum
    rw [if_pos (show t 26 2 = 0 from h6), show t 24 4 = tK b T a from h4]
    by_cases hk : tK b T a = 2
    · rw [if_pos hk, if_pos hk, value_e hN hb hT (show a ≤ T from h0) h2 h3 ((h9 25 (by decide) (by decide) (by decide)).trans h25) hk, bd_e, hl1]
      obtain ⟨tb, eb, hbl⟩ := CS_blame N (k := 3) (by decide) h
      rw [eb, bd_e]
      by_cases c1 : tV b T a < lo2 a f
      · rw [if_pos (nI_lt c1 (by omega)), if_pos (Or.inl c1)]
        exact ⟨tb, rfl, hbl⟩
      · rw [if_neg (nI_nlt (by omega) (by omega))]
        by_cases c2 : hi < tV b T a
        · rw [if_neg (nI_ge c2 (by omega)), if_pos (Or.inr c2)]
          exact ⟨tb, rfl, hbl⟩
        · rw [if_pos (nI_le (by omega) (by omega)), if_neg (fun z => z.elim c1 c2), inR_nI hi10 (by decide), ck_t, sb_e, ix_nI (by omega)]
          have hC : CS s0 b T sn (hset t 27 i (nI (tV b T a))) (a, upd f i (nI (tV b T a)), 0) := by
            refine ⟨h0, ?_, ?_, ?_, ?_, ?_, ?_, ?_, ?_, fun c c1 c2 c3 => by rw [hset_d c3, h9 c c1 c2 c3]⟩
            · rw [hset_d (by decide)]; exact h1
            · rw [hset_d (by decide)]; exact h2
            · rw [hset_d (by decide)]; exact h3
            · rw [hset_d (by decide)]; exact h4
            · rw [hset_c, show t 27 = f from h5]
            · rw [hset_d (by decide)]; exact h6
            · rw [hset_d (by decide)]; exact h7
            · rw [hset_d (by decide)]; exact h8
          obtain ⟨t', e, hc⟩ := CS_step hN hb hT h25 hC
          rw [e, bd_e]
          exact ⟨t', rfl, hc⟩
    · rw [if_neg hk, if_neg hk]
      obtain ⟨tb, eb, hbl⟩ := CS_blame N (k := 1) (by decide) h
      rw [eb, bd_e]
      exact ⟨tb, rfl, hbl⟩
  · rw [rB_n hx]
    exact ⟨t, num_noop N (fun z => hx (h.2.2.2.2.2.2.1.symm.trans z)) _ _ _, h⟩
theorem CS_sgn {N : Nat} (hN : 102 ≤ N) {s0 : Hp} {b : Nat → Int32} (hb : ∀ i, vI 256 (b i)) {T : Nat} (hT : T ≤ 100) (h25 : s0 25 = b) {sn : Int32} {t : Hp} {r : Nat × (Nat → Int32) × Int32} (h : CS s0 b T sn t r) (k : Int32) : ∃ t', f_X5_readSign N t k = some (0, t') ∧ CS s0 b T sn t' (rB r (rSgn b T k)) := by
  obtain ⟨a, f, x⟩ := r
  by_cases hx : x = 0
  · subst hx
    rw [rB_0]
    obtain ⟨h0, h1, h2, h3, h4, h5, h6, h7, h8, h9⟩ := id h
    unfold f_X5_readSign rSgn
    rw [if_pos (show t 26 2 = 0 from h6), show t 24 4 = tK b T a from h4]
    by_cases hk : tK b T a = k
    · rw [if_pos hk, if_pos hk]
      obtain ⟨t', e, hc⟩ := CS_step hN hb hT h25 h
      rw [e, bd_e]
      exact ⟨t', rfl, hc⟩
    · rw [if_neg hk, if_neg hk]
      obtain ⟨tb, eb, hbl⟩ := CS_blame N (k := 1) (by decide) h
      rw [eb, bd_e]
      exact ⟨tb, rfl, hbl⟩
  · rw [rB_n hx]
    exact ⟨t, sgn_noop N (fun z => hx (h.2.2.2.2.2.2.1.symm.trans z)) _, h⟩
theorem rNum_f {b : Nat → Int32} {T i lo hi a : Nat} {f : Nat → Int32} (h : (rNum b T i lo hi a f).2.2 = 0) : (rNum b T i lo hi a f).1 = tE b T a ∧ (rNum b T i lo hi a f).2.1 = upd f i (nI (tV b T a)) ∧ lo ≤ tV b T a ∧ tV b T a ≤ hi ∧ tK b T a = 2 := by
  unfold rNum at *
  by_cases hk : tK b T a = 2
  · rw [if_pos hk] at *
    by_cases c : tV b T a < lo ∨ hi < tV b T a
    · rw [if_pos c] at h; exact absurd h (show ¬ (3 : Int32) = 0 by decide)
    · rw [if_neg c] at *
      exact ⟨rfl, rfl, by omega, by omega, hk⟩
  · rw [if_neg hk] at h; exact absurd h (show ¬ (1 : Int32) = 0 by decide)
theorem rSgn_f {b : Nat → Int32} {T a : Nat} {k : Int32} {f : Nat → Int32} (h : (rSgn b T k a f).2.2 = 0) : (rSgn b T k a f).2.1 = f ∧ (rSgn b T k a f).1 = tE b T a ∧ tK b T a = k := by
  unfold rSgn at *
  by_cases hk : tK b T a = k
  · rw [if_pos hk]; exact ⟨rfl, rfl, hk⟩
  · rw [if_neg hk] at h; exact absurd h (show ¬ (1 : Int32) = 0 by decide)
theorem rB_f {r : Nat × (Nat → Int32) × Int32} {g : Nat → (Nat → Int32) → Nat × (Nat → Int32) × Int32} (h : (rB r g).2.2 = 0) : r.2.2 = 0 ∧ rB r g = g r.1 r.2.1 := by
  unfold rB at *
  by_cases hr : r.2.2 = 0
  · rw [if_pos hr]; exact ⟨hr, rfl⟩
  · rw [if_neg hr] at h; exact absurd h hr
theorem CS_rng {N : Nat} (hN : 102 ≤ N) {s0 : Hp} {b : Nat → Int32} (hb : ∀ i, vI 256 (b i)) {T : Nat} (hT : T ≤ 100) (h25 : s0 25 = b) {sn : Int32} {t : Hp} {r : Nat × (Nat → Int32) × Int32} (h : CS s0 b T sn t r) {p : Nat} (hp : p < 5) : ∃ t', f_X5_readRange N t (nI p) = some (0, t') ∧ CS s0 b T sn t' (rB r (rRng b T p)) := by
  have hg := gN_b p
  have g0 : (2 : Int32) * nI p = nI (2 * p) := pk_mul 2 p
  unfold f_X5_readRange f_X5_readRange_37
  rw [inR_nI hp (by decide), ck_t, g0, ix_nI (show p < 2 ^ 31 by omega), gG_n, nI_1]
  obtain ⟨t1, e1, h1⟩ := CS_num hN hb hT h25 h (show 2 * p < 10 by omega) (show gN p < 10000 by omega) (lo := 0) (lo2 := fun _ _ => 0) (fun _ => ⟨rfl, by decide⟩)
  rw [e1, bd_e]
  obtain ⟨t2, e2, h2⟩ := CS_sgn hN hb hT h25 h1 3
  rw [e2, bd_e]
  have key : ∀ lo : Int32, (((rB (rB r (fun a f => rNum b T (2 * p) 0 (gN p) a f)) (rSgn b T 3)).2.2 = 0) → lo = nI (if p = 1 then 0 else ix ((rB (rB r (fun a f => rNum b T (2 * p) 0 (gN p) a f)) (rSgn b T 3)).2.1 (2 * p))) ∧ (if p = 1 then 0 else ix ((rB (rB r (fun a f => rNum b T (2 * p) 0 (gN p) a f)) (rSgn b T 3)).2.1 (2 * p))) < 20000) → ∃ t', (bd (f_X5_readNumber N t2 (nI (2 * p + 1)) lo (nI (gN p))) fun v6 s5 => some (0, s5)) = some (0, t') ∧ CS s0 b T sn t' (rB r (rRng b T p)) := fun lo hlo => by
    obtain ⟨t3, e3, h3⟩ := CS_num hN hb hT h25 h2 (show 2 * p + 1 < 10 by omega) (show gN p < 10000 by omega) (lo := lo) (lo2 := fun _ f => if p = 1 then 0 else ix (f (2 * p))) hlo
    rw [e3, bd_e]
    refine ⟨t3, rfl, ?_⟩
    obtain ⟨a, f, x⟩ := r
    by_cases hx : x = 0
    · subst hx
      rw [rB_0] at h3 ⊢
      exact h3
    · rw [rB_n (r := (a, f, x)) hx, rB_n (r := (a, f, x)) hx, rB_n (r := (a, f, x)) hx] at h3
      rw [rB_n (r := (a, f, x)) hx]
      exact h3
  by_cases c : p = 1
  · rw [if_pos (show nI p = 1 by rw [c]; rfl), ck_t]
    exact key 0 (fun _ => by rw [if_pos c]; exact ⟨rfl, by decide⟩)
  · rw [if_neg (show ¬ nI p = 1 from fun z => c ((nI_eq (by omega) (by decide)).mp (show nI p = nI 1 from z))), inR_nI (show 2 * p < 10 by omega) (by decide), ck_t, ck_t, ix_nI (show 2 * p < 2 ^ 31 by omega)]
    refine key _ (fun hz => ?_)
    rw [if_neg c]
    have h27 : t2 27 = (rB (rB r (fun a f => rNum b T (2 * p) 0 (gN p) a f)) (rSgn b T 3)).2.1 := h2.2.2.2.2.2.1
    rw [h27]
    obtain ⟨z1, z2⟩ := rB_f hz
    obtain ⟨z3, z4⟩ := rB_f z1
    rw [z2] at hz ⊢
    rw [(rSgn_f hz).1, z4]
    rw [z4] at z1
    rw [(rNum_f z1).2.1, pk_us]
    have := tV_b hb T r.1
    rw [ix_nI (by omega)]
    exact ⟨rfl, by omega⟩
theorem rB_id (r : Nat × (Nat → Int32) × Int32) : rB r (fun a f => (a, f, 0)) = r := by
  unfold rB
  by_cases z : r.2.2 = 0
  · rw [if_pos z]
    obtain ⟨x, y, v⟩ := r
    have z' : v = 0 := z
    rw [z']
  · rw [if_neg z]
theorem CS_cls {N : Nat} (hN : 102 ≤ N) {s0 : Hp} {b : Nat → Int32} (hb : ∀ i, vI 256 (b i)) {T : Nat} (hT : T ≤ 100) (h25 : s0 25 = b) {sn : Int32} {t : Hp} {a : Nat} {f : Nat → Int32} (h : CS s0 b T sn t (a, f, 0)) : ∃ t', f_X5_readClause N t = some (0, t') ∧ (wOf b (tS b T a) (tE b T a) = -1 → CS s0 b T sn t' (a, f, 1)) ∧ ∀ w, w < 4 → wOf b (tS b T a) (tE b T a) = nI w → (bt sn w = true → CS s0 b T sn t' (a, f, 2)) ∧ (bt sn w = false → CS s0 b T (sbit sn (nI w)) t' (rCls b T w (tE b T a) f)) := by
  obtain ⟨h0, h1, h2, h3, h4, h5, h6, h7, h8, h9⟩ := id h
  have hS := tS_b (b := b) (show a ≤ T from h0)
  have hE := tE_b hb (show a ≤ T from h0)
  have hSE : tS b T a ≤ tE b T a := by
    unfold tE
    by_cases q1 : tK b T a = 0
    · rw [if_pos q1]; exact Nat.le_refl _
    · rw [if_neg q1]
      by_cases q2 : tK b T a = 1 ∨ tK b T a = 2
      · rw [if_pos q2]
        have := run_b b (tK b T a) (T - (tS b T a + 1)) (tS b T a + 1)
        omega
      · rw [if_neg q2]; omega
  have t25 : t 25 = b := (h9 25 (by decide) (by decide) (by decide)).trans h25
  unfold f_X5_readClause f_X5_readClause_72
  rw [wordOf_e hN h2 t25 h3 hSE (show tE b T a ≤ 100 by omega), bd_e]
  rcases word_rel hb (show a ≤ T from h0) with ⟨w, hw, ew, _⟩ | ⟨ew, _⟩
  · have hne : ¬ nI w = -1 := fun z => m1_ne (show w < 2 ^ 31 by omega) z.symm
    rw [ew, if_neg hne, show t 26 1 = sn from h8, shr1 sn (by omega), ifb]
    have inj : ∀ w', w' < 4 → nI w = nI w' → w = w' := fun w' h1 h2 => (nI_eq (by omega) (by omega)).mp h2
    cases hs : bt sn w with
    | true =>
      rw [cond_true]
      obtain ⟨tb, eb, hbl⟩ := CS_blame N (k := 2) (by decide) h
      rw [eb, bd_e]
      refine ⟨tb, rfl, fun z => absurd z hne, fun w' h1 h2 => ?_⟩
      have := inj w' h1 h2
      subst this
      exact ⟨fun _ => hbl, fun z => by rw [hs] at z; cases z⟩
    | false =>
      rw [cond_false, sb_e]
      have hC : CS s0 b T (sbit sn (nI w)) (hset t 26 1 (sbit sn (nI w))) (a, f, 0) := by
        refine ⟨h0, ?_, ?_, ?_, ?_, ?_, ?_, ?_, hs_same, fun c c1 c2 c3 => by rw [hset_d c2, h9 c c1 c2 c3]⟩
        · rw [hset_d (by decide)]; exact h1
        · rw [hset_d (by decide)]; exact h2
        · rw [hset_d (by decide)]; exact h3
        · rw [hset_d (by decide)]; exact h4
        · rw [hset_d (by decide)]; exact h5
        · rw [hs_slot (by decide)]; exact h6
        · rw [hs_slot (by decide)]; exact h7
      obtain ⟨t1, e1, c1⟩ := CS_step hN hb hT h25 hC
      have e1' : f_X8_step N (hset t 26 1 (sn ||| ((1 : Int32) <<< (nI w &&& 31)))) = some (0, t1) := e1
      rw [e1', bd_e]
      obtain ⟨t2, e2, c2⟩ := CS_rng hN hb hT h25 c1 (show w < 5 by omega)
      rw [e2, bd_e]
      rw [rB_0] at c2
      have fin : ∀ t3, CS s0 b T (sbit sn (nI w)) t3 (rB (rRng b T w (tE b T a) f) (fun a f => if w = 3 then rRng b T 4 a f else (a, f, 0))) → ∃ t', (bd (f_X5_readSign N t3 4) fun v15 s14 => some (0, s14)) = some (0, t') ∧ (nI w = -1 → CS s0 b T sn t' (a, f, 1)) ∧ ∀ w', w' < 4 → nI w = nI w' → (bt sn w' = true → CS s0 b T sn t' (a, f, 2)) ∧ (bt sn w' = false → CS s0 b T (sbit sn (nI w')) t' (rCls b T w' (tE b T a) f)) := fun t3 c3 => by
        obtain ⟨t4, e4, c4⟩ := CS_sgn hN hb hT h25 c3 4
        rw [e4, bd_e]
        refine ⟨t4, rfl, fun z => absurd z hne, fun w' h1 h2 => ?_⟩
        have := inj w' h1 h2
        subst this
        exact ⟨fun z => (by rw [hs] at z; cases z), fun _ => c4⟩
      by_cases w3 : w = 3
      · rw [if_pos (show nI w = 3 by rw [w3]; rfl)]
        obtain ⟨t3, e3, c3⟩ := CS_rng hN hb hT h25 c2 (show 4 < 5 by decide)
        have e3' : f_X5_readRange N t2 4 = some (0, t3) := e3
        rw [e3', bd_e]
        refine fin t3 ?_
        rw [show (fun a f => if w = 3 then rRng b T 4 a f else (a, f, 0)) = rRng b T 4 by funext a f; rw [if_pos w3]]
        exact c3
      · rw [if_neg (show ¬ nI w = 3 from fun z => w3 ((nI_eq (by omega) (by decide)).mp (show nI w = nI 3 from z)))]
        refine fin t2 ?_
        rw [show (fun a f => if w = 3 then rRng b T 4 a f else (a, f, 0)) = (fun (a : Nat) (f : Nat → Int32) => (a, f, (0 : Int32))) by funext a f; rw [if_neg w3]]
        rw [rB_id]
        exact c2
  · rw [ew, if_pos rfl]
    obtain ⟨tb, eb, hbl⟩ := CS_blame N (k := 1) (by decide) h
    rw [eb, bd_e]
    refine ⟨tb, rfl, fun _ => hbl, fun w hw z => absurd z (m1_ne (by omega))⟩
theorem CS_loop {N : Nat} (hN : 102 ≤ N) {s0 : Hp} {b : Nat → Int32} (hb : ∀ i, vI 256 (b i)) {T : Nat} (hT : T ≤ 100) (h25 : s0 25 = b) : ∀ k i m (t : Hp) sn a f, i + k = 5 → k < m → CS s0 b T sn t (a, f, 0) → ∃ t' sn', lp (fun _ _ => none) (f_X5_read_58 N) m t (nI i) = some (0, t') ∧ CS s0 b T sn' t' (rLp b T k sn a f)
  | k, i, 0, t, sn, a, f, _, hm, _ => absurd hm (Nat.not_lt_zero k)
  | 0, i, m + 1, t, sn, a, f, hi, _, h => by
    rw [lp_s]; unfold f_X5_read_58
    rw [if_pos (show (4 : Int32) < nI i from nI_lt (a := 4) (by omega) (by omega))]
    exact ⟨t, sn, rfl, h⟩
  | k + 1, i, m + 1, t, sn, a, f, hi, hm, h => by
    have ih := fun t sn a f => CS_loop hN hb hT h25 k (i + 1) m t sn a f (by omega) (by omega)
    obtain ⟨h0, h1, h2, h3, h4, h5, h6, h7, h8, h9⟩ := id h
    obtain ⟨t1, e1, c1, c2⟩ := CS_cls hN hb hT h25 h
    have stop : ∀ t' : Hp, ¬ t' 26 2 = 0 → lp (fun _ _ => none) (f_X5_read_58 N) m t' (nI (i + 1)) = some (0, t') := fun t' ht => by
      obtain ⟨m', rfl⟩ : ∃ m', m = m' + 1 := ⟨m - 1, by omega⟩
      rw [lp_s]
      unfold f_X5_read_58
      by_cases z : (4 : Int32) < nI (i + 1)
      · rw [if_pos z]
      · rw [if_neg z, if_neg ht]
    rw [lp_s]
    generalize lp (fun _ _ => none) (f_X5_read_58 N) m = S at ih stop ⊢
    unfold f_X5_read_58 rLp
    rw [if_neg (show ¬ (4 : Int32) < nI i from nI_nlt (a := 4) (by omega) (by omega)), if_pos (show t 26 2 = 0 from h6), show t 24 4 = tK b T a from h4]
    by_cases hk : tK b T a = 0
    · rw [if_pos hk, if_pos hk]
      exact ⟨t, sn, rfl, h⟩
    · rw [if_neg hk, if_neg hk, e1, bd_e, vb_e, nI_1]
      rcases word_rel hb (show a ≤ T from h0) with ⟨w, hw, ew, _⟩ | ⟨ew, _⟩
      · rw [ew, if_neg (fun z => m1_ne (show w < 2 ^ 31 by omega) z.symm), ix_nI (by omega)]
        obtain ⟨q1, q2⟩ := c2 w hw ew
        cases hs : bt sn w with
        | true =>
          rw [if_pos rfl]
          have c := q1 hs
          refine ⟨t1, sn, stop t1 ?_, c⟩
          rw [c.2.2.2.2.2.2.1]
          show ¬ (2 : Int32) = 0
          decide
        | false =>
          rw [if_neg (by decide)]
          have c := q2 hs
          by_cases z : (rCls b T w (tE b T a) f).2.2 = 0
          · rcases hr : rCls b T w (tE b T a) f with ⟨x, y, v⟩
            rw [hr] at c z
            have z' : v = 0 := z
            rw [z'] at c
            rw [z', rB_0]
            exact ih t1 _ x y c
          · rw [rB_n z]
            refine ⟨t1, _, stop t1 ?_, c⟩
            rw [c.2.2.2.2.2.2.1]
            exact z
      · rw [ew, if_pos rfl]
        have c := c1 ew
        refine ⟨t1, sn, stop t1 ?_, c⟩
        rw [c.2.2.2.2.2.2.1]
        show ¬ (1 : Int32) = 0
        decide
def fI (s : Hp) : Nat → Int32 := fun j => if j < 10 then (if j % 2 = 0 then 0 else gG (j / 2)) else s 27 j
theorem ini27_loop (N : Nat) : ∀ k i m (s : Hp), i + k = 5 → k < m → ∃ t, lp (fun _ _ => none) (f_X5_read_17 N) m s (nI i) = (bd (f_X8_rewind N t) fun _ s4 => l_X5_read_58 N s4 0) ∧ (∀ c, c ≠ 27 → t c = s c) ∧ ∀ j, t 27 j = if 2 * i ≤ j ∧ j < 10 then (if j % 2 = 0 then 0 else gG (j / 2)) else s 27 j
  | k, i, 0, s, _, hm => absurd hm (Nat.not_lt_zero k)
  | 0, i, m + 1, s, hi, _ => by
    rw [lp_s]; unfold f_X5_read_17
    rw [if_pos (show (5 : Int32) ≤ nI i from nI_le (a := 5) (by omega) (by omega))]
    exact ⟨s, rfl, fun _ _ => rfl, fun j => by rw [if_neg (by omega)]⟩
  | k + 1, i, m + 1, s, hi, hm => by
    have ih := fun s => ini27_loop N k (i + 1) m s (by omega) (by omega)
    have g0 : (2 : Int32) * nI i = nI (2 * i) := pk_mul 2 i
    rw [lp_s]
    generalize lp (fun _ _ => none) (f_X5_read_17 N) m = S at ih ⊢
    unfold f_X5_read_17
    rw [if_neg (show ¬ (5 : Int32) ≤ nI i from nI_ge (b := 5) (by omega) (by omega)), g0, nI_1, inR_nI (show 2 * i < 10 by omega) (by decide), ck_t, sb_e, inR_nI (show i < 5 by omega) (by decide), ck_t, inR_nI (show 2 * i + 1 < 10 by omega) (by decide), ck_t, sb_e, vb_e, nI_1, ix_nI (show 2 * i < 2 ^ 31 by omega), ix_nI (show 2 * i + 1 < 2 ^ 31 by omega), ix_nI (show i < 2 ^ 31 by omega)]
    obtain ⟨t, e, r1, r2⟩ := ih (hset (hset s 27 (2 * i) 0) 27 (2 * i + 1) (gG i))
    refine ⟨t, e, fun c hc => by rw [r1 c hc, hset_d hc, hset_d hc], fun j => ?_⟩
    rw [r2 j]
    by_cases c1 : 2 * (i + 1) ≤ j ∧ j < 10
    · rw [if_pos c1, if_pos (show 2 * i ≤ j ∧ j < 10 from ⟨by omega, c1.2⟩)]
    · rw [if_neg c1, hset_rd, if_pos rfl, hset_rd, if_pos rfl]
      by_cases c2 : j = 2 * i + 1
      · rw [if_pos c2, if_pos (show 2 * i ≤ j ∧ j < 10 by omega), if_neg (show ¬ j % 2 = 0 by omega)]
        congr 1
        omega
      · rw [if_neg c2]
        by_cases c3 : j = 2 * i
        · rw [if_pos c3, if_pos (show 2 * i ≤ j ∧ j < 10 by omega), if_pos (show j % 2 = 0 by omega)]
        · rw [if_neg c3, if_neg (show ¬ (2 * i ≤ j ∧ j < 10) by omega)]
theorem read_e {N : Nat} (hN : 102 ≤ N) {s : Hp} {b : Nat → Int32} (hb : ∀ i, vI 256 (b i)) {T : Nat} (hT : T ≤ 100) (h1 : s 24 1 = nI T) (h25 : s 25 = b) : ∃ t sn, f_X5_read N s = some (0, t) ∧ CS s b T sn t (rLp b T 5 0 0 (fI s)) := by
  unfold f_X5_read
  rw [sb_e, sb_e, sb_e]
  obtain ⟨t, e, r1, r2⟩ := ini27_loop N 5 0 N (hset (hset (hset s 26 2 0) 26 3 (-1)) 26 1 0) (by omega) (by omega)
  have e' : l_X5_read_17 N (hset (hset (hset s 26 2 0) 26 3 (-1)) 26 1 0) 0 = _ := e
  rw [e']
  unfold f_X8_rewind
  rw [sb_e]
  have tc : ∀ c, c ≠ 26 → c ≠ 27 → t c = s c := fun c c1 c2 => by rw [r1 c c2, hset_d c1, hset_d c1, hset_d c1]
  obtain ⟨t', e2, q1, q2, q3, q4, q5⟩ := step_e hN hb hT (Nat.zero_le T) (s := hset t 24 3 0) (a := 0) (by rw [hs_slot (by decide), tc 24 (by decide) (by decide)]; exact h1) hs_same (by rw [hset_d (by decide), tc 25 (by decide) (by decide)]; exact h25)
  rw [e2, bd_e, bd_e]
  have hC : CS s b T 0 t' (0, fI s, 0) := by
    refine ⟨Nat.zero_le T, q4, q1, q2, q3, ?_, ?_, ?_, ?_, fun c c1 c2 c3 => by rw [q5 c c1, hset_d c1, tc c c2 c3]⟩
    · rw [q5 27 (by decide), hset_d (by decide)]
      funext j
      rw [r2 j]
      show _ = fI s j
      unfold fI
      by_cases hj : j < 10
      · rw [if_pos (show 2 * 0 ≤ j ∧ j < 10 from ⟨by omega, hj⟩), if_pos hj]
      · rw [if_neg (show ¬ (2 * 0 ≤ j ∧ j < 10) from fun z => hj z.2), if_neg hj]; rfl
    · rw [q5 26 (by decide), hset_d (by decide), r1 26 (by decide)]; rfl
    · rw [q5 26 (by decide), hset_d (by decide), r1 26 (by decide)]; rfl
    · rw [q5 26 (by decide), hset_d (by decide), r1 26 (by decide)]; rfl
  obtain ⟨t2, sn, e3, c3⟩ := CS_loop hN hb hT h25 5 0 N t' 0 0 (fI s) (by omega) (by omega) hC
  exact ⟨t2, sn, e3, c3⟩
