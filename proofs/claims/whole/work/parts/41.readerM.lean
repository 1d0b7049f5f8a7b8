/-! the model's reader -/
def MB (s0 : Hp) (b : Nat → Int32) (T : Nat) (u : Hp) (a : Nat) : Prop :=
  a ≤ T ∧ u 36 22 = nI T ∧ u 36 28 = nI (tS b T a) ∧ u 36 27 = nI (tE b T a) ∧ u 36 29 = tM b T a ∧ (tK b T a = 2 → ∃ v, u 36 30 = nI v ∧ vRel (tV b T a) v) ∧ (∀ j, j < 100 → u 53 j = s0 53 j) ∧ (∀ c, c ≠ 36 → c ≠ 53 → u c = s0 c) ∧ ∀ j, j ≠ 27 → j ≠ 28 → j ≠ 29 → j ≠ 30 → u 36 j = s0 36 j
def MF (u : Hp) (f : Nat → Int32) : Prop := ∀ j, j < 10 → u 53 (100 + j) = f j
theorem MB_next {N : Nat} (hN : 102 ≤ N) {s0 : Hp} {b : Nat → Int32} (hb : ∀ i, vI 256 (b i)) {T : Nat} (hT : T ≤ 100) (h52 : s0 52 = b) {u : Hp} {a : Nat} (h : MB s0 b T u a) : ∃ u', f_X10_nextToken N u = some (0, u') ∧ MB s0 b T u' (tE b T a) ∧ u' 53 = u 53 := by
  obtain ⟨h0, h1, h2, h3, h4, h5, h6, h7, h8⟩ := h
  have hE := tE_b hb h0
  obtain ⟨t, e, r1, r2, r3, r4, r5⟩ := next_e hN hb hT hE.2 h1 h3 ((h7 52 (by decide) (by decide)).trans h52)
  refine ⟨t, e, ⟨hE.2, ?_, r1, r2, r3, r4, fun j hj => ?_, fun c c1 c2 => ?_, fun j q1 q2 q3 q4 => ?_⟩, r5.1 53 (by decide)⟩
  · rw [r5.2 22 (by decide) (by decide) (by decide) (by decide)]; exact h1
  · rw [r5.1 53 (by decide)]; exact h6 j hj
  · rw [r5.1 c c1]; exact h7 c c1 c2
  · rw [r5.2 j q1 q2 q3 q4]; exact h8 j q1 q2 q3 q4
theorem span_e {N : Nat} (hN : 102 ≤ N) {s0 : Hp} {b : Nat → Int32} (hb : ∀ i, vI 256 (b i)) {T : Nat} (hT : T ≤ 100) (h52 : s0 52 = b) {u : Hp} {a : Nat} {f : Nat → Int32} (h : MB s0 b T u a) (hf : MF u f) {p : Nat} (hp : p < 5) : ∃ u', f_X10_span N u (nI (2 * p)) (nI (gN p)) (b01 (decide (p = 1))) = some ((rRng b T p a f).2.2, u') ∧ MB s0 b T u' (rRng b T p a f).1 ∧ ((rRng b T p a f).2.2 = 0 → MF u' (rRng b T p a f).2.1) := by
  have hg := gN_b p
  have i1 := tM_iff hb T a
  obtain ⟨h0, h1, h2, h3, h4, h5, h6, h7, h8⟩ := id h
  unfold f_X10_span rRng rNum
  rw [h4]
  by_cases c1 : tK b T a = 2
  · obtain ⟨v, hv, hr⟩ := h5 c1
    have hvb : v < 1000000 := by unfold vRel at hr; omega
    rw [if_pos (i1.1.mpr c1), if_pos c1, hv]
    by_cases c2 : tV b T a < 0 ∨ gN p < tV b T a
    · rw [if_pos c2, if_neg (nI_ge (by unfold vRel at hr; omega) (by omega)), rB_n (show ¬ (3 : Int32) = 0 by decide), rB_n (show ¬ (3 : Int32) = 0 by decide)]
      exact ⟨u, rfl, h, fun z => absurd z (show ¬ (3 : Int32) = 0 by decide)⟩
    · have ev : v = tV b T a := by unfold vRel at hr; omega
      subst ev
      rw [if_neg c2, if_pos (nI_le (by omega) (by omega)), vb_e, rB_0]
      obtain ⟨u1, e1, m1, z1⟩ := MB_next hN hb hT h52 h
      rw [e1, bd_e]
      generalize ha1 : tE b T a = a1 at m1 ⊢
      have j1 := tM_iff hb T a1
      rw [show u1 36 29 = tM b T a1 from m1.2.2.2.2.1]
      unfold rSgn
      by_cases c3 : tK b T a1 = 3
      · rw [if_pos (j1.2.1.mpr c3), if_pos c3, rB_0]
        obtain ⟨u2, e2, m2, z2⟩ := MB_next hN hb hT h52 m1
        rw [e2, bd_e]
        generalize ha2 : tE b T a1 = a2 at m2 ⊢
        have k1 := tM_iff hb T a2
        rw [show u2 36 29 = tM b T a2 from m2.2.2.2.2.1]
        by_cases c4 : tK b T a2 = 2
        · obtain ⟨v2, hv2, hr2⟩ := m2.2.2.2.2.2.1 c4
          have hvb2 : v2 < 1000000 := by unfold vRel at hr2; omega
          rw [if_pos (k1.1.mpr c4), if_pos c4, hv2]
          have elo : (if p = 1 then 0 else ix (upd f (2 * p) (nI (tV b T a)) (2 * p))) = if p = 1 then 0 else tV b T a := by
            rw [pk_us, ix_nI (by omega)]
          rw [elo]
          have okc : ¬ (tV b T a2 < (if p = 1 then 0 else tV b T a) ∨ gN p < tV b T a2) → ∃ u', f_X10_span_77 N u2 (nI (2 * p)) (nI (tV b T a)) = some (0, u') ∧ MB s0 b T u' (tE b T a2) ∧ MF u' (upd (upd f (2 * p) (nI (tV b T a))) (2 * p + 1) (nI (tV b T a2))) := fun hc => by
            have ev2 : v2 = tV b T a2 := by unfold vRel at hr2; omega
            unfold f_X10_span_77
            rw [show (100 : Int32) + nI (2 * p) = nI (100 + 2 * p) from nI_add 100 (2 * p), show (101 : Int32) + nI (2 * p) = nI (101 + 2 * p) from nI_add 101 (2 * p), inR_nI (show 100 + 2 * p < 110 by omega) (by decide), ck_t, sb_e, inR_nI (show 101 + 2 * p < 110 by omega) (by decide), ck_t, sb_e, ix_nI (show 100 + 2 * p < 2 ^ 31 by omega), ix_nI (show 101 + 2 * p < 2 ^ 31 by omega), hset_d (show (36 : Nat) ≠ 53 by decide), hv2, ev2]
            have hM : MB s0 b T (hset (hset u2 53 (100 + 2 * p) (nI (tV b T a))) 53 (101 + 2 * p) (nI (tV b T a2))) a2 := by
              obtain ⟨g0, g1, g2, g3, g4, g5, g6, g7, g8⟩ := m2
              refine ⟨g0, g1, g2, g3, g4, g5, fun j hj => ?_, fun c c1 c2 => ?_, g8⟩
              · rw [hs_slot (by omega), hs_slot (by omega)]; exact g6 j hj
              · rw [hset_d c2, hset_d c2]; exact g7 c c1 c2
            obtain ⟨u3, e3, m3, z3⟩ := MB_next hN hb hT h52 hM
            rw [e3, bd_e]
            refine ⟨u3, rfl, m3, fun j hj => ?_⟩
            rw [z3, hset_rd, if_pos rfl, hset_rd, if_pos rfl, z2, z1]
            by_cases q1 : j = 2 * p + 1
            · rw [if_pos (show 100 + j = 101 + 2 * p by omega), q1, pk_us]
            · rw [if_neg (show ¬ 100 + j = 101 + 2 * p by omega), pk_un q1]
              by_cases q2 : j = 2 * p
              · rw [if_pos (show 100 + j = 100 + 2 * p by omega), q2, pk_us]
              · rw [if_neg (show ¬ 100 + j = 100 + 2 * p by omega), pk_un q2]
                exact hf j hj
          have bad : (tV b T a2 < (if p = 1 then 0 else tV b T a) ∨ gN p < tV b T a2) → ∃ u', (some ((3 : Int32), u2)) = some ((if tV b T a2 < (if p = 1 then 0 else tV b T a) ∨ gN p < tV b T a2 then (a2, upd f (2 * p) (nI (tV b T a)), (3 : Int32)) else (tE b T a2, upd (upd f (2 * p) (nI (tV b T a))) (2 * p + 1) (nI (tV b T a2)), 0)).2.2, u') ∧ MB s0 b T u' (if tV b T a2 < (if p = 1 then 0 else tV b T a) ∨ gN p < tV b T a2 then (a2, upd f (2 * p) (nI (tV b T a)), (3 : Int32)) else (tE b T a2, upd (upd f (2 * p) (nI (tV b T a))) (2 * p + 1) (nI (tV b T a2)), 0)).1 ∧ ((if tV b T a2 < (if p = 1 then 0 else tV b T a) ∨ gN p < tV b T a2 then (a2, upd f (2 * p) (nI (tV b T a)), (3 : Int32)) else (tE b T a2, upd (upd f (2 * p) (nI (tV b T a))) (2 * p + 1) (nI (tV b T a2)), 0)).2.2 = 0 → MF u' (if tV b T a2 < (if p = 1 then 0 else tV b T a) ∨ gN p < tV b T a2 then (a2, upd f (2 * p) (nI (tV b T a)), (3 : Int32)) else (tE b T a2, upd (upd f (2 * p) (nI (tV b T a))) (2 * p + 1) (nI (tV b T a2)), 0)).2.1) := fun hc => by
            rw [if_pos hc]
            exact ⟨u2, rfl, m2, fun z => absurd z (show ¬ (3 : Int32) = 0 by decide)⟩
          by_cases c5 : gN p < tV b T a2
          · rw [if_pos (nI_lt (show gN p < v2 by unfold vRel at hr2; omega) (by omega))]
            exact bad (Or.inr c5)
          · have ev2 : v2 = tV b T a2 := by unfold vRel at hr2; omega
            rw [if_neg (nI_nlt (by omega) (by omega)), ev2]
            by_cases c6 : tV b T a ≤ tV b T a2
            · have hc : ¬ (tV b T a2 < (if p = 1 then 0 else tV b T a) ∨ gN p < tV b T a2) := by
                by_cases cp : p = 1
                · rw [if_pos cp]; omega
                · rw [if_neg cp]; omega
              rw [if_pos (nI_le c6 (by omega)), if_neg hc]
              obtain ⟨u', e', q1, q2⟩ := okc hc
              exact ⟨u', e', q1, fun _ => q2⟩
            · rw [if_neg (nI_ge (by omega) (by omega)), ifb]
              by_cases cp : p = 1
              · have hc : ¬ (tV b T a2 < (if p = 1 then 0 else tV b T a) ∨ gN p < tV b T a2) := by
                  rw [if_pos cp]; omega
                rw [decide_eq_true cp, cond_true, if_neg hc]
                obtain ⟨u', e', q1, q2⟩ := okc hc
                exact ⟨u', e', q1, fun _ => q2⟩
              · rw [decide_eq_false cp, cond_false]
                exact bad (Or.inl (by rw [if_neg cp]; omega))
        · rw [if_neg (fun z => c4 (k1.1.mp z)), if_neg c4]
          exact ⟨u2, rfl, m2, fun z => absurd z (show ¬ (1 : Int32) = 0 by decide)⟩
      · rw [if_neg (fun z => c3 (j1.2.1.mp z)), if_neg c3, rB_n (show ¬ (1 : Int32) = 0 by decide)]
        exact ⟨u1, rfl, m1, fun z => absurd z (show ¬ (1 : Int32) = 0 by decide)⟩
  · rw [if_neg (fun z => c1 (i1.1.mp z)), if_neg c1, rB_n (show ¬ (1 : Int32) = 0 by decide), rB_n (show ¬ (1 : Int32) = 0 by decide)]
    exact ⟨u, rfl, h, fun z => absurd z (show ¬ (1 : Int32) = 0 by decide)⟩
theorem clause_e {N : Nat} (hN : 102 ≤ N) {s0 : Hp} {b : Nat → Int32} (hb : ∀ i, vI 256 (b i)) {T : Nat} (hT : T ≤ 100) (h52 : s0 52 = b) {u : Hp} {a : Nat} {f : Nat → Int32} (h : MB s0 b T u a) (hf : MF u f) {w : Nat} (hw : w < 4) : ∃ u', f_X10_clause N u (nI (5 + w)) = some ((rB (rRng b T w a f) (fun a f => if w = 3 then rRng b T 4 a f else (a, f, 0))).2.2, u') ∧ MB s0 b T u' (rB (rRng b T w a f) (fun a f => if w = 3 then rRng b T 4 a f else (a, f, 0))).1 ∧ ((rB (rRng b T w a f) (fun a f => if w = 3 then rRng b T 4 a f else (a, f, 0))).2.2 = 0 → MF u' (rB (rRng b T w a f) (fun a f => if w = 3 then rRng b T 4 a f else (a, f, 0))).2.1) := by
  unfold f_X10_clause
  match w, hw with
  | 0, _ =>
    obtain ⟨u', e, q⟩ := span_e hN hb hT h52 h hf (show 0 < 5 by decide)
    have e' : f_X10_span N u 0 15 0 = _ := e
    rw [if_pos (show nI (5 + 0) = 5 from rfl), e', bd_e]
    rw [show (fun a f => if 0 = 3 then rRng b T 4 a f else (a, f, 0)) = (fun (a : Nat) (f : Nat → Int32) => (a, f, (0 : Int32))) from rfl, rB_id]
    exact ⟨u', rfl, q⟩
  | 1, _ =>
    obtain ⟨u', e, q⟩ := span_e hN hb hT h52 h hf (show 1 < 5 by decide)
    have e' : f_X10_span N u 2 1439 1 = _ := e
    rw [if_neg (show ¬ nI (5 + 1) = 5 by decide), if_pos (show nI (5 + 1) = 6 from rfl), e', bd_e]
    rw [show (fun a f => if 1 = 3 then rRng b T 4 a f else (a, f, 0)) = (fun (a : Nat) (f : Nat → Int32) => (a, f, (0 : Int32))) from rfl, rB_id]
    exact ⟨u', rfl, q⟩
  | 2, _ =>
    obtain ⟨u', e, q⟩ := span_e hN hb hT h52 h hf (show 2 < 5 by decide)
    have e' : f_X10_span N u 4 999 0 = _ := e
    rw [if_neg (show ¬ nI (5 + 2) = 5 by decide), if_neg (show ¬ nI (5 + 2) = 6 by decide), if_pos (show nI (5 + 2) = 7 from rfl), e', bd_e]
    rw [show (fun a f => if 2 = 3 then rRng b T 4 a f else (a, f, 0)) = (fun (a : Nat) (f : Nat → Int32) => (a, f, (0 : Int32))) from rfl, rB_id]
    exact ⟨u', rfl, q⟩
  | 3, _ =>
    obtain ⟨u', e, q1, q2⟩ := span_e hN hb hT h52 h hf (show 3 < 5 by decide)
    have e' : f_X10_span N u 6 31 0 = _ := e
    rw [if_neg (show ¬ nI (5 + 3) = 5 by decide), if_neg (show ¬ nI (5 + 3) = 6 by decide), if_neg (show ¬ nI (5 + 3) = 7 by decide), e', bd_e]
    rw [show (fun a f => if 3 = 3 then rRng b T 4 a f else (a, f, 0)) = rRng b T 4 from rfl]
    by_cases z : (rRng b T 3 a f).2.2 = 0
    · rw [if_pos z]
      rcases hr : rRng b T 3 a f with ⟨x, y, v⟩
      rw [hr] at q1 q2 z
      have z' : v = 0 := z
      subst z'
      rw [rB_0]
      obtain ⟨u2, e2, p1, p2⟩ := span_e hN hb hT h52 q1 (q2 rfl) (show 4 < 5 by decide)
      have e2' : f_X10_span N u' 8 31 0 = _ := e2
      rw [e2', bd_e]
      exact ⟨u2, rfl, p1, p2⟩
    · rw [if_neg z, rB_n z]
      exact ⟨u', rfl, q1, q2⟩
theorem MB_loop {N : Nat} (hN : 102 ≤ N) {s0 : Hp} {b : Nat → Int32} (hb : ∀ i, vI 256 (b i)) {T : Nat} (hT : T ≤ 100) (h52 : s0 52 = b) : ∀ k m (u : Hp) (x1 sn : Int32) a f, fb_ct (bt sn) 4 + k = 5 → k < m → (∀ j, j < 4 → bt x1 (5 + j) = bt sn j) → MB s0 b T u a → MF u f → ∃ u', lp (fun _ _ => none) (f_X10_read_78 N) m u x1 = some ((rLp b T k sn a f).2.2, u') ∧ MB s0 b T u' (rLp b T k sn a f).1 ∧ ((rLp b T k sn a f).2.2 = 0 → MF u' (rLp b T k sn a f).2.1)
  | k, 0, u, x1, sn, a, f, _, hm, _, _, _ => absurd hm (Nat.not_lt_zero k)
  | 0, m + 1, u, x1, sn, a, f, hk, _, _, _, _ => by
    have := fb_ct_le (bt sn) 4
    omega
  | k + 1, m + 1, u, x1, sn, a, f, hk, hm, hx, h, hf => by
    have ih := fun u x1 sn a f => MB_loop hN hb hT h52 k m u x1 sn a f
    have i1 := tM_iff hb T a
    rw [lp_s]
    generalize lp (fun _ _ => none) (f_X10_read_78 N) m = S at ih ⊢
    unfold f_X10_read_78 rLp
    rw [show u 36 29 = tM b T a from h.2.2.2.2.1]
    by_cases c0 : tK b T a = 0
    · rw [if_pos (i1.2.2.2.1.mpr c0), if_pos c0]
      exact ⟨u, rfl, h, fun _ => hf⟩
    · rw [if_neg (fun z => c0 (i1.2.2.2.1.mp z)), if_neg c0, vb_e]
      rcases word_rel hb (show a ≤ T from h.1) with ⟨w, hw, ew, em⟩ | ⟨ew, em⟩
      · rw [em, if_pos (show (5 : Int32) ≤ nI (5 + w) from nI_le (a := 5) (by omega) (by omega)), ew, if_neg (show ¬ nI w = -1 from fun z => m1_ne (show w < 2 ^ 31 by omega) z.symm), ix_nI (by omega), shr1 x1 (show 5 + w < 32 by omega), hx w hw]
        cases hs : bt sn w with
        | true =>
          rw [if_pos (show b01 true = 1 from rfl), if_pos rfl]
          exact ⟨u, rfl, h, fun z => absurd z (show ¬ (2 : Int32) = 0 by decide)⟩
        | false =>
          rw [if_neg (show ¬ b01 false = 1 by decide), if_neg (show ¬ false = true by decide), vb_e]
          obtain ⟨u1, e1, m1, z1⟩ := MB_next hN hb hT h52 h
          have f1 : MF u1 f := fun j hj => by rw [z1]; exact hf j hj
          rw [e1, bd_e]
          obtain ⟨u2, e2, m2, f2⟩ := clause_e hN hb hT h52 m1 f1 hw
          rw [e2, bd_e]
          have hsn : fb_ct (bt (sbit sn (nI w))) 4 + k = 5 := by
            have hup := fb_ct_upd (bt sn) true hw
            rw [hs, if_pos rfl] at hup
            have hcg : fb_ct (bt (sbit sn (nI w))) 4 = fb_ct (fun j => if j = w then true else bt sn j) 4 := fb_ct_cong (fun j hj => by
              have : bt (sbit sn (nI w)) j = (bt sn j || decide (j = w)) := tb_add sn (show w < 32 by omega) (by omega)
              rw [this]
              by_cases e : j = w
              · rw [if_pos e, decide_eq_true e, Bool.or_true]
              · rw [if_neg e, decide_eq_false e, Bool.or_false])
            rw [hcg]
            have : (if false = true then 1 else 0) = 0 := rfl
            omega
          have hxn : ∀ j, j < 4 → bt (x1 ||| ((1 : Int32) <<< (nI (5 + w) &&& 31))) (5 + j) = bt (sbit sn (nI w)) j := fun j hj => by
            have a1 : bt (sbit sn (nI w)) j = (bt sn j || decide (j = w)) := tb_add sn (show w < 32 by omega) (by omega)
            have a2 : bt (x1 ||| ((1 : Int32) <<< (nI (5 + w) &&& 31))) (5 + j) = (bt x1 (5 + j) || decide (5 + j = 5 + w)) := tb_add x1 (show 5 + w < 32 by omega) (by omega)
            rw [a1, a2, hx j hj]
            congr 1
            rw [Bool.eq_iff_iff, decide_eq_true_iff, decide_eq_true_iff]
            omega
          unfold rCls
          generalize hR : rB (rRng b T w (tE b T a) f) (fun a f => if w = 3 then rRng b T 4 a f else (a, f, 0)) = R at m2 f2 ⊢
          obtain ⟨x, y, v⟩ := R
          by_cases z : v = 0
          · subst z
            have j1 := tM_iff hb T x
            rw [if_pos (show (0 : Int32) = 0 from rfl), show u2 36 29 = tM b T x from m2.2.2.2.2.1, rB_0]
            unfold rSgn
            by_cases c4 : tK b T x = 4
            · rw [if_pos (j1.2.2.1.mpr c4), if_pos c4, rB_0]
              obtain ⟨u3, e3, m3, z3⟩ := MB_next hN hb hT h52 m2
              have f3 : MF u3 y := fun j hj => by rw [z3]; exact f2 rfl j hj
              rw [e3, bd_e]
              exact ih u3 _ _ _ _ hsn (by omega) hxn m3 f3
            · rw [if_neg (fun z => c4 (j1.2.2.1.mp z)), if_neg c4, rB_n (show ¬ (1 : Int32) = 0 by decide)]
              exact ⟨u2, rfl, m2, fun z => absurd z (show ¬ (1 : Int32) = 0 by decide)⟩
          · rw [if_neg z, rB_n (r := (x, y, v)) z, rB_n (r := (x, y, v)) z]
            exact ⟨u2, rfl, m2, f2⟩
      · rw [if_neg em, ew, if_pos rfl]
        exact ⟨u, rfl, h, fun z => absurd z (show ¬ (1 : Int32) = 0 by decide)⟩
theorem iniM_loop (N : Nat) (x1 : Int32) : ∀ k i m (s : Hp), i + k = 10 → k < m → ∃ t, lp (fun _ _ _ => none) (f_X10_read_4 N) m s x1 (nI i) = (bd (f_X10_nextToken N (hset t 36 27 0)) fun _ s2 => l_X10_read_78 N s2 x1) ∧ (∀ c, c ≠ 53 → t c = s c) ∧ ∀ j, t 53 j = if 100 + i ≤ j ∧ j < 110 then (if j % 2 = 0 then 0 else gG ((j - 100) / 2)) else s 53 j
  | k, i, 0, s, _, hm => absurd hm (Nat.not_lt_zero k)
  | 0, i, m + 1, s, hi, _ => by
    rw [lp_s]; unfold f_X10_read_4
    rw [if_pos (show (10 : Int32) ≤ nI i from nI_le (a := 10) (by omega) (by omega)), sb_e]
    exact ⟨s, rfl, fun _ _ => rfl, fun j => by rw [if_neg (by omega)]⟩
  | k + 1, i, m + 1, s, hi, hm => by
    have ih := fun s => iniM_loop N x1 k (i + 1) m s (by omega) (by omega)
    rw [lp_s]
    generalize lp (fun _ _ _ => none) (f_X10_read_4 N) m = S at ih ⊢
    have e62 : ∀ v : Int32, f_X10_read_62 N S s x1 (nI i) (100 + nI i) v = S (hset s 53 (100 + i) v) x1 (nI (i + 1)) := fun v => by
      unfold f_X10_read_62
      rw [show (100 : Int32) + nI i = nI (100 + i) from nI_add 100 i, inR_nI (show 100 + i < 110 by omega) (by decide), ck_t, sb_e, vb_e, nI_1, ix_nI (show 100 + i < 2 ^ 31 by omega)]
    have body : f_X10_read_4 N S s x1 (nI i) = S (hset s 53 (100 + i) (if (100 + i) % 2 = 0 then 0 else gG ((100 + i - 100) / 2))) x1 (nI (i + 1)) := by
      unfold f_X10_read_4
      rw [if_neg (show ¬ (10 : Int32) ≤ nI i from nI_ge (b := 10) (by omega) (by omega)), e62, e62, e62, e62, e62]
      have hi10 : i < 10 := by omega
      clear ih e62 hm
      match i, hi10 with
      | 0, _ => rfl
      | 1, _ => rfl
      | 2, _ => rfl
      | 3, _ => rfl
      | 4, _ => rfl
      | 5, _ => rfl
      | 6, _ => rfl
      | 7, _ => rfl
      | 8, _ => rfl
      | 9, _ => rfl
    rw [body]
    obtain ⟨t, e, r1, r2⟩ := ih (hset s 53 (100 + i) (if (100 + i) % 2 = 0 then 0 else gG ((100 + i - 100) / 2)))
    refine ⟨t, e, fun c hc => by rw [r1 c hc, hset_d hc], fun j => ?_⟩
    rw [r2 j]
    by_cases c1 : 100 + (i + 1) ≤ j ∧ j < 110
    · rw [if_pos c1, if_pos (show 100 + i ≤ j ∧ j < 110 from ⟨by omega, c1.2⟩)]
    · rw [if_neg c1, hset_rd, if_pos rfl]
      by_cases c2 : j = 100 + i
      · rw [if_pos c2, if_pos (show 100 + i ≤ j ∧ j < 110 by omega), c2]
      · rw [if_neg c2, if_neg (show ¬ (100 + i ≤ j ∧ j < 110) by omega)]
theorem readM_e {N : Nat} (hN : 102 ≤ N) {s : Hp} {b : Nat → Int32} (hb : ∀ i, vI 256 (b i)) {T : Nat} (hT : T ≤ 100) (h1 : s 36 22 = nI T) (h52 : s 52 = b) {f : Nat → Int32} (hf : ∀ j, j < 10 → f j = if j % 2 = 0 then 0 else gG (j / 2)) : ∃ u, f_X10_read N s = some ((rLp b T 5 0 0 f).2.2, u) ∧ MB s b T u (rLp b T 5 0 0 f).1 ∧ ((rLp b T 5 0 0 f).2.2 = 0 → MF u (rLp b T 5 0 0 f).2.1) := by
  unfold f_X10_read
  obtain ⟨t, e, r1, r2⟩ := iniM_loop N 0 10 0 N s (by omega) (by omega)
  have e' : l_X10_read_4 N s 0 0 = _ := e
  rw [e']
  obtain ⟨t', e2, q1, q2, q3, q4, q5⟩ := next_e hN hb hT (Nat.zero_le T) (s := hset t 36 27 0) (a := 0) (by rw [hs_slot (by decide), r1 36 (by decide)]; exact h1) hs_same (by rw [hset_d (by decide), r1 52 (by decide)]; exact h52)
  rw [e2, bd_e]
  refine MB_loop hN hb hT h52 5 N t' 0 0 0 f (by decide) (by omega) (fun j hj => by rw [b_0, b_0]) ⟨Nat.zero_le T, ?_, q1, q2, q3, q4, fun j hj => ?_, fun c c1 c2 => ?_, fun j j1 j2 j3 j4 => ?_⟩ (fun j hj => ?_)
  · rw [q5.2 22 (by decide) (by decide) (by decide) (by decide), hs_slot (by decide), r1 36 (by decide)]; exact h1
  · rw [q5.1 53 (by decide), hset_d (by decide), r2 j, if_neg (show ¬ (100 + 0 ≤ j ∧ j < 110) by omega)]
  · rw [q5.1 c c1, hset_d c1, r1 c c2]
  · rw [q5.2 j j1 j2 j3 j4, hs_slot j1, r1 36 (by decide)]
  · rw [q5.1 53 (by decide), hset_d (by decide), r2 (100 + j), if_pos (show 100 + 0 ≤ 100 + j ∧ 100 + j < 110 by omega), hf j hj, show (100 + j) % 2 = j % 2 by omega, show 100 + j - 100 = j by omega]
