/-! best, wanderers -/
def rk (a : Int32) : Int32 := irm (6 - a) 6
theorem rk_all : ∀ j, j < 6 → rk (nI j) = (if nI j = 0 then 0 else 6 - nI j) ∧ rk (nI j) < 6 := by decide +kernel
theorem rk_lt {a : Int32} (h : vI 6 a) : rk a < 6 := by
  obtain ⟨j, hj, rfl⟩ := h
  exact (rk_all j hj).2
theorem rankOf_e (N : Nat) (s : Hp) {a : Int32} (h : vI 6 a) : f_X10_rankOf N s a = some (rk a, s) := by
  obtain ⟨j, hj, rfl⟩ := h
  unfold f_X10_rankOf
  rw [(rk_all j hj).1]
  by_cases e : nI j = 0
  · rw [if_pos e, if_pos e]
  · rw [if_neg e, if_neg e]
def bsF (an : Nat → Int32) : Nat → Int32
  | 0 => -1
  | i + 1 => if bsF an i = -1 then nI i else if rk (an (ix (bsF an i))) ≤ rk (an i) then bsF an i else nI i
theorem bsF_v (an : Nat → Int32) : ∀ i, bsF an i = -1 ∧ i = 0 ∨ vI i (bsF an i)
  | 0 => Or.inl ⟨rfl, rfl⟩
  | i + 1 => by
    refine Or.inr ?_
    unfold bsF
    by_cases h : bsF an i = -1
    · rw [if_pos h]; exact ⟨i, by omega, rfl⟩
    · rw [if_neg h]
      by_cases h2 : rk (an (ix (bsF an i))) ≤ rk (an i)
      · rw [if_pos h2]
        rcases bsF_v an i with q | q
        · exact absurd q.1 h
        · exact vI_mono q (by omega)
      · rw [if_neg h2]; exact ⟨i, by omega, rfl⟩
theorem bsF_cong {an an2 : Nat → Int32} : ∀ i, (∀ L, L < i → an L = an2 L) → i < 2 ^ 31 → bsF an i = bsF an2 i
  | 0, _, _ => rfl
  | i + 1, h, hi => by
    have ih := bsF_cong i (fun L hL => h L (by omega)) (by omega)
    unfold bsF
    rw [ih, h i (by omega)]
    by_cases q : bsF an2 i = -1
    · rw [if_pos q, if_pos q]
    · rw [if_neg q, if_neg q]
      rcases bsF_v an2 i with z | z
      · exact absurd z.1 q
      · rw [h (ix (bsF an2 i)) (by have := (vI_ix z (by omega)).1; omega)]
theorem cho_loop (N : Nat) {t : Hp} {K : Nat} (hK : K ≤ 10) (h28 : t 28 1 = nI K) (an : Nat → Int32) (hv : ∀ L, L < K → vI 6 (an L)) (hj : ∀ L, L < K → f_X1_judge N t (nI L) = some (an L, t)) : ∀ k i m, i + k = K → k < m → lp (fun _ _ _ _ => none) (f_X1_choose_9 N) m t (bsF an i) (if bsF an i = -1 then 6 else rk (an (ix (bsF an i)))) (nI i) = some (bsF an K, t)
  | k, i, 0, _, hm => absurd hm (Nat.not_lt_zero k)
  | 0, i, m + 1, hi, _ => by
    have e : i = K := by omega
    subst e
    rw [lp_s]; unfold f_X1_choose_9
    rw [h28, if_pos (i_le.mpr (Int.le_refl _))]
  | k + 1, i, m + 1, hi, hm => by
    have ih := cho_loop N hK h28 an hv hj k (i + 1) m (by omega) (by omega)
    have g1 : ¬ nI K ≤ nI i := nI_ge (by omega) (by omega)
    have hne : ¬ nI i = -1 := fun q => m1_ne (show i < 2 ^ 31 by omega) q.symm
    have hlt := rk_lt (hv i (by omega))
    rw [lp_s]
    generalize lp (fun _ _ _ _ => none) (f_X1_choose_9 N) m = S at ih ⊢
    unfold f_X1_choose_9 f_X1_choose_48
    rw [h28, if_neg g1, hj i (by omega), bd_e, vb_e, vb_e, vb_e, nI_1, show irm (6 - an i) 6 = rk (an i) from rfl]
    have e1 : bsF an (i + 1) = if bsF an i = -1 then nI i else if rk (an (ix (bsF an i))) ≤ rk (an i) then bsF an i else nI i := rfl
    by_cases h : bsF an i = -1
    · rw [if_pos h] at e1
      rw [e1, if_neg hne, ix_nI (by omega)] at ih
      rw [if_pos h, if_neg (fun z => by rw [i_lt] at hlt; rw [i_le] at z; omega)]
      exact ih
    · rw [if_neg h] at e1
      rw [if_neg h]
      by_cases h2 : rk (an (ix (bsF an i))) ≤ rk (an i)
      · rw [if_pos h2] at e1
        rw [e1, if_neg h] at ih
        rw [if_pos h2]
        exact ih
      · rw [if_neg h2] at e1
        rw [e1, if_neg hne, ix_nI (by omega)] at ih
        rw [if_neg h2]
        exact ih
theorem choose_e {N : Nat} (hN : 101 ≤ N) {t : Hp} {K : Nat} (hK : K ≤ 10) (h28 : t 28 1 = nI K) (an : Nat → Int32) (hv : ∀ L, L < K → vI 6 (an L)) (hj : ∀ L, L < K → f_X1_judge N t (nI L) = some (an L, t)) : f_X1_choose N t = some (bsF an K, t) :=
  cho_loop N hK h28 an hv hj K 0 N (by omega) (by omega)
theorem bof_loop (N : Nat) {u : Hp} {K : Nat} (hK : K ≤ 10) (h36 : u 36 23 = nI K) (q : Int32) (an : Nat → Int32) (hv : ∀ L, L < K → vI 6 (an L)) (hj : ∀ L, L < K → f_X10_answer N u q (nI L) = some (an L, u)) : ∀ k i m, i + k = K → k < m → lp (fun _ _ _ _ => none) (f_X10_bestOf_4 N) m u q (bsF an i) (nI i) = some (bsF an K, u)
  | k, i, 0, _, hm => absurd hm (Nat.not_lt_zero k)
  | 0, i, m + 1, hi, _ => by
    have e : i = K := by omega
    subst e
    rw [lp_s]; unfold f_X10_bestOf_4
    rw [h36, if_pos (i_le.mpr (Int.le_refl _))]
  | k + 1, i, m + 1, hi, hm => by
    have ih := bof_loop N hK h36 q an hv hj k (i + 1) m (by omega) (by omega)
    have g1 : ¬ nI K ≤ nI i := nI_ge (by omega) (by omega)
    rw [lp_s]
    generalize lp (fun _ _ _ _ => none) (f_X10_bestOf_4 N) m = S at ih ⊢
    unfold f_X10_bestOf_4 f_X10_bestOf_37 f_X10_bestOf_39
    have e1 : bsF an (i + 1) = if bsF an i = -1 then nI i else if rk (an (ix (bsF an i))) ≤ rk (an i) then bsF an i else nI i := rfl
    rw [h36, if_neg g1, vb_e, nI_1, ← ih, e1]
    rcases bsF_v an i with ⟨h, _⟩ | h
    · rw [h, if_pos (show (-1 : Int32) < 0 by decide), if_pos rfl]
    · obtain ⟨j, hj2, ej⟩ := h
      rw [ej, if_neg (show ¬ nI j < 0 by rw [i_lt, i_0, nI_toInt (by omega)]; omega), if_neg (fun z => m1_ne (show j < 2 ^ 31 by omega) z.symm), hj i (by omega), bd_e, rankOf_e N u (hv i (by omega)), bd_e, hj j (by omega), bd_e, rankOf_e N u (hv j (by omega)), bd_e, ix_nI (by omega)]
      by_cases h2 : rk (an j) ≤ rk (an i)
      · rw [if_pos h2, if_pos h2, vb_e]
      · rw [if_neg h2, if_neg h2, vb_e]
theorem bestOf_e {N : Nat} (hN : 101 ≤ N) {u : Hp} {K : Nat} (hK : K ≤ 10) (h36 : u 36 23 = nI K) (q : Int32) (an : Nat → Int32) (hv : ∀ L, L < K → vI 6 (an L)) (hj : ∀ L, L < K → f_X10_answer N u q (nI L) = some (an L, u)) : f_X10_bestOf N u q = some (bsF an K, u) :=
  bof_loop N hK h36 q an hv hj K 0 N (by omega) (by omega)
theorem ok_best {N : Nat} (hN : 10002 ≤ N) : ag_best N PS := by
  intro x1 x2 s p
  obtain ⟨K, hK, hK2⟩ := cntK p
  have hK10 := p.2.2.2.2.2.2.2.2.1.2.2.1
  have e9 := p.2.2.2.2.2.2.2.2.1
  dsimp only
  by_cases h1 : inR x1 K = true
  · obtain ⟨k, hk, rfl⟩ := inR_vI h1 (by omega)
    by_cases h2 : inR x2 2 = true ∧ nK s ≠ 0
    · obtain ⟨h2, h3⟩ := h2
      have hz : ¬ nI (nK s) = 0 := fun z => h3 ((nI_eq (by omega) (by decide)).mp (show nI (nK s) = nI 0 from z))
      obtain ⟨t, u, l, et, hd⟩ := drawn_e (N := N) (by omega) p hK hK2 hk
      have jj := drawn_an hN p (by omega) hd
      obtain ⟨hD, pt, pu, sm, hj, h51, h50, hl, ol, hle⟩ := hd
      have sm1 := drawSame hD.1
      have hv : ∀ L, L < nK s → vI 6 (anF (fun j => decide (s 20 j = nI k)) s L) := fun L _ => anF_v _ _ _
      have e1 := choose_e (N := N) (by omega) hK10 ((sm1.2.1 28 1 rfl).trans (e9.1.trans e9.2.1)) _ hv (fun L hL => (jj L hL).1)
      have e2 := bestOf_e (N := N) (by omega) hK10 ((sm.2.1 36 23 rfl).trans e9.2.1) (nI k) _ hv (fun L hL => (jj L hL).2)
      have hcl : f_X9_best N s (nI k) x2 = bd (f_X1_choose N t) fun v8 s7 => if x2 = 0 then some (v8, s7) else bd (f_X1_judge N s7 v8) fun v10 s9 => some (v10, s9) := by
        unfold f_X9_best
        rw [hK, isBelow_e N s _ (by omega), bd_e, h1, if_neg (by decide), show (2 : Int32) = nI 2 from rfl, isBelow_e N s _ (by omega), bd_e, h2, if_neg (by decide), e9.1, e9.2.1, if_neg hz, et, bd_e]
      have hmo : f_X10_best N t (nI k) x2 = bd (f_X10_bestOf N u (nI k)) fun v6 s5 => if x2 = 0 then some (v6, s5) else bd (f_X10_answer N s5 (nI k) v6) fun v8 s7 => some (v8, s7) := by
        unfold f_X10_best
        rw [hj, bd_e, if_neg (by decide), sm.2.1 36 23 rfl, e9.2.1, if_neg hz, isIn_e, btw_lit x2 (show (1 : Int32) = nI 1 from rfl) (by decide), bd_e, h2, if_neg (by decide)]
      rw [e1, bd_e] at hcl
      rw [e2, bd_e] at hmo
      rcases bsF_v (anF (fun j => decide (s 20 j = nI k)) s) (nK s) with ⟨_, z⟩ | ⟨j, hj2, ej⟩
      · exact absurd z h3
      · rw [ej, (jj j hj2).1, bd_e] at hcl
        rw [ej, (jj j hj2).2, bd_e] at hmo
        by_cases hx : x2 = 0
        · rw [if_pos hx] at hcl hmo
          exact ⟨_, t, u, hcl, hmo, pu⟩
        · rw [if_neg hx] at hcl hmo
          exact ⟨_, t, u, hcl, hmo, pu⟩
    · obtain ⟨u0, ld, e0, sm0, nm0, h500, h1840, h36180, h510⟩ := isSender_e (N := N) (by omega) p (nI k)
      have pu0 := PS_same sm0 p
      have h60 := p.2.2.1.2.2.2.2.2.2.2.2.1
      have hle := fb_ct_le ld (nM s)
      rw [hK] at h1840
      have eK : K = fb_ct ld (nM s) := (nI_eq (by omega) (by omega)).mp h1840
      refine ⟨-1, s, u0, ?_, ?_, pu0⟩
      · unfold f_X9_best
        rw [hK, isBelow_e N s _ (by omega), bd_e, h1, if_neg (by decide), show (2 : Int32) = nI 2 from rfl, isBelow_e N s _ (by omega), bd_e, ifb]
        cases h3 : inR x2 2 with
        | false => rfl
        | true =>
          have hz : nK s = 0 := Classical.byContradiction (fun z => h2 ⟨h3, z⟩)
          rw [cond_true, e9.1, e9.2.1, hz, if_pos (show nI 0 = 0 from rfl)]
      · unfold f_X10_best
        rw [e0, bd_e, ← eK, inR_nI hk (by omega), if_neg (by decide), sm0.2.1 36 23 rfl, e9.2.1]
        by_cases hz : nK s = 0
        · rw [hz, if_pos (show nI 0 = 0 from rfl)]
        · rw [if_neg (show ¬ nI (nK s) = 0 from fun z => hz ((nI_eq (by omega) (by decide)).mp (show nI (nK s) = nI 0 from z))), isIn_e, btw_lit x2 (show (1 : Int32) = nI 1 from rfl) (by decide), bd_e, show inR x2 (1 + 1) = false from Bool.eq_false_iff.mpr (fun z => h2 ⟨z, hz⟩), if_pos (show b01 false = 0 from rfl)]
  · have h1' := Bool.eq_false_iff.mpr h1
    obtain ⟨u, eu, pu⟩ := noSender (N := N) (by omega) p hK hK2 h1'
    refine ⟨-1, s, u, ?_, ?_, pu⟩
    · unfold f_X9_best
      rw [hK, isBelow_e N s _ (by omega), bd_e, h1', if_pos (show b01 false = 0 from rfl)]
    · unfold f_X10_best
      rw [eu, bd_e, if_pos rfl]
/-! wanderers -/
def anK (s : Hp) (k L : Nat) : Int32 := anF (fun j => decide (s 20 j = nI k)) s L
def wB (s : Hp) (k : Nat) : Bool := decide (bsF (anK s k) (nK s) = -1) || !decide (anK s k (ix (bsF (anK s k) (nK s))) = 0)
def fr3 (s t : Hp) : Prop := ∀ c, c ≠ 21 → c ≠ 22 → c ≠ 23 → t c = s c
theorem wan_loop {N : Nat} (hN : 10002 ≤ N) {s : Hp} (p : PS s) {K : Nat} (hK : s 18 4 = nI K) (hK2 : K ≤ 60) : ∀ n k m (w : Hp), k + n = K → n < m → fr3 s w → ∃ t, lp (fun _ _ _ => none) (f_X9_wanderers_4 N) m w (nI (fb_ct (wB s) k)) (nI k) = some (nI (fb_ct (wB s) K), t) ∧ fr3 s t
  | n, k, 0, w, _, hm, _ => absurd hm (Nat.not_lt_zero n)
  | 0, k, m + 1, w, hk, _, hw => by
    have e : k = K := by omega
    subst e
    rw [lp_s]; unfold f_X9_wanderers_4
    rw [hw 18 (by decide) (by decide) (by decide), hK, if_pos (i_le.mpr (Int.le_refl _))]
    exact ⟨w, rfl, hw⟩
  | n + 1, k, m + 1, w, hk, hm, hw => by
    have ih := fun w => wan_loop hN p hK hK2 n (k + 1) m w (by omega) (by omega)
    have hK10 := p.2.2.2.2.2.2.2.2.1.2.2.1
    have e9 := p.2.2.2.2.2.2.2.2.1
    have g1 : ¬ nI K ≤ nI k := nI_ge (by omega) (by omega)
    have smw := drawSame hw
    have pw := PS_same smw p
    obtain ⟨t, et, hD⟩ := draw_e (N := N) (by omega) pw.2.2.1 pw.2.2.2.1 (nI k)
    have ht : fr3 s t := fun c c1 c2 c3 => (hD.1 c c1 c2 c3).trans (hw c c1 c2 c3)
    have hj : ∀ L, L < nK s → f_X1_judge N t (nI L) = some (anK s k L, t) := fun L hL => by
      rw [judge_e (by omega) pw _ hD (by rw [nK_same smw]; exact hL), anF_same smw (O2 := fun j => decide (s 20 j = nI k)) (fun j hj => by rw [smw.1 20 rfl]) (by omega)]; rfl
    have e1 := choose_e (N := N) (by omega) hK10 (((drawSame ht).2.1 28 1 rfl).trans (e9.1.trans e9.2.1)) (anK s k) (fun L _ => anF_v _ _ _) hj
    rw [lp_s]
    generalize lp (fun _ _ _ => none) (f_X9_wanderers_4 N) m = S at ih ⊢
    have e83 : ∀ x : Int32, f_X9_wanderers_83 N S t x (nI k) = S t x (nI (k + 1)) := fun x => by
      unfold f_X9_wanderers_83
      rw [vb_e, nI_1]
    have e80 : f_X9_wanderers_80 N S t (nI (fb_ct (wB s) k)) (nI k) = S t (nI (fb_ct (wB s) k + 1)) (nI (k + 1)) := by
      unfold f_X9_wanderers_80
      rw [vb_e, nI_1, e83]
    unfold f_X9_wanderers_4
    rw [hw 18 (by decide) (by decide) (by decide), hK, if_neg g1, et, bd_e, e1, bd_e, e80]
    have ih' := ih t ht
    rw [fb_ct_succ] at ih'
    rcases bsF_v (anK s k) (nK s) with ⟨h, _⟩ | ⟨j, hj2, ej⟩
    · have hb : wB s k = true := by unfold wB; rw [h]; rfl
      rw [hb, if_pos rfl] at ih'
      rw [h, if_pos rfl]
      exact ih'
    · have hne : ¬ nI j = -1 := fun z => m1_ne (show j < 2 ^ 31 by omega) z.symm
      have hb : wB s k = !decide (anK s k j = 0) := by
        unfold wB
        rw [ej, decide_eq_false hne, Bool.false_or, ix_nI (by omega)]
      rw [hb] at ih'
      rw [ej, if_neg hne, hj j hj2, bd_e, e83]
      by_cases hz : anK s k j = 0
      · rw [if_pos hz]
        rw [decide_eq_true hz] at ih'
        exact ih'
      · rw [if_neg hz, e80]
        rw [decide_eq_false hz] at ih'
        exact ih'
theorem wanM_loop {N : Nat} (hN : 10002 ≤ N) {s u : Hp} (p : PS s) (pu : PS u) (sm : Same s u) {K : Nat} (hK : u 36 18 = nI K) (hK2 : K ≤ 60) (hL : ∀ k, k < K → Lead u k) (h50 : ∀ j, j < nM s → u 50 j = s 20 j) : ∀ n k m, k + n = K → n < m → lp (fun _ _ _ => none) (f_X10_wanderers_8 N) m u (nI (fb_ct (wB s) k)) (nI k) = some (nI (fb_ct (wB s) K), u)
  | n, k, 0, _, hm => absurd hm (Nat.not_lt_zero n)
  | 0, k, m + 1, hk, _ => by
    have e : k = K := by omega
    subst e
    rw [lp_s]; unfold f_X10_wanderers_8
    rw [hK, if_pos (i_le.mpr (Int.le_refl _))]
  | n + 1, k, m + 1, hk, hm => by
    have ih := wanM_loop hN p pu sm hK hK2 hL h50 n (k + 1) m (by omega) (by omega)
    have hK10 := p.2.2.2.2.2.2.2.2.1.2.2.1
    have e9 := p.2.2.2.2.2.2.2.2.1
    have g1 : ¬ nI K ≤ nI k := nI_ge (by omega) (by omega)
    have hj : ∀ L, L < nK s → f_X10_answer N u (nI k) (nI L) = some (anK s k L, u) := fun L hL2 => by
      rw [answer_e hN pu (by omega) (hL k (by omega)) (by rw [nK_same sm]; exact hL2), anF_same sm (O2 := fun j => decide (s 20 j = nI k)) (fun j hj => by rw [h50 j hj]) (by omega)]; rfl
    have e1 := bestOf_e (N := N) (by omega) hK10 ((sm.2.1 36 23 rfl).trans e9.2.1) (nI k) (anK s k) (fun L _ => anF_v _ _ _) hj
    rw [lp_s]
    generalize lp (fun _ _ _ => none) (f_X10_wanderers_8 N) m = S at ih ⊢
    have e41 : ∀ a b : Int32, f_X10_wanderers_41 N S u (nI k) a b = S u (a + b) (nI (k + 1)) := fun a b => by
      unfold f_X10_wanderers_41
      rw [vb_e, vb_e, nI_1]
    have e36 : f_X10_wanderers_36 N S u (nI k) (nI (fb_ct (wB s) k)) = S u (nI (fb_ct (wB s) k + 1)) (nI (k + 1)) := by
      unfold f_X10_wanderers_36
      rw [e41, nI_1]
    unfold f_X10_wanderers_8
    rw [hK, if_neg g1, e1, bd_e, e36]
    rw [fb_ct_succ] at ih
    rcases bsF_v (anK s k) (nK s) with ⟨h, _⟩ | ⟨j, hj2, ej⟩
    · have hb : wB s k = true := by unfold wB; rw [h]; rfl
      rw [hb, if_pos rfl] at ih
      rw [h, if_pos (show (-1 : Int32) < 0 by decide)]
      exact ih
    · have hb : wB s k = !decide (anK s k j = 0) := by
        unfold wB
        rw [ej, decide_eq_false (fun z => m1_ne (show j < 2 ^ 31 by omega) z.symm), Bool.false_or, ix_nI (by omega)]
      rw [hb] at ih
      rw [ej, if_neg (show ¬ nI j < 0 by rw [i_lt, i_0, nI_toInt (by omega)]; omega), hj j hj2, bd_e, e41]
      by_cases hz : anK s k j = 0
      · rw [if_pos hz, show nI (fb_ct (wB s) k) + 0 = nI (fb_ct (wB s) k + 0) from nI_add _ 0]
        rw [decide_eq_true hz] at ih
        exact ih
      · rw [if_neg hz, e36]
        rw [decide_eq_false hz] at ih
        exact ih
theorem lead_of {s u : Hp} {ld : Nat → Bool} (nm : NumOK (jnB s) (nM s) (s 20) ld) (sm : Same s u) (h60 : nM s ≤ 60) (h50 : ∀ j, j < nM s → u 50 j = s 20 j) (h51 : ∀ i, i < nM s → ld i = true → u 51 (fb_ct ld i) = nI i) {k : Nat} (hk : k < fb_ct ld (nM s)) : Lead u k := by
  obtain ⟨l, hl, hld, hlk⟩ := fb_ct_kth hk
  have ol : s 20 l = nI k := by rw [nm.2.1 l hl hld, hlk]
  refine ⟨l, by rw [nM_same sm]; exact hl, by rw [← hlk]; exact h51 l hl hld, by rw [h50 l hl, ol], fun j hj hO => ?_⟩
  rw [nM_same sm] at hj
  rw [h50 j hj] at hO
  rw [sm.1 44 rfl]
  obtain ⟨_, h2⟩ := own_ld nm hl hld (by omega) hj (hO.trans ol.symm)
  exact (Cn_cl (f := s 44) (fun a b _ _ hr => jn_chan hr) hj h2).symm
theorem wB_same {s t : Hp} (h : Same s t) (p : PS s) : ∀ k, wB t k = wB s k := fun k => by
  have hK10 := p.2.2.2.2.2.2.2.2.1.2.2.1
  have ha : ∀ L, L < nK s → anK t k L = anK s k L := fun L hL => by
    unfold anK
    exact anF_same h (fun j _ => by rw [h.1 20 rfl]) (by omega)
  unfold wB
  rw [nK_same h, bsF_cong (an := anK t k) (an2 := anK s k) (nK s) ha (by omega)]
  rcases bsF_v (anK s k) (nK s) with ⟨q, _⟩ | ⟨j, hj2, ej⟩
  · rw [q, decide_eq_true (rfl : (-1 : Int32) = -1), Bool.true_or, Bool.true_or]
  · rw [ej, ix_nI (by omega), ha j hj2]
theorem ok_wanderers {N : Nat} (hN : 10002 ≤ N) : ag_wanderers N PS := by
  intro s p
  obtain ⟨K, hK, hK2⟩ := cntK p
  obtain ⟨t, et, ht⟩ := wan_loop hN p hK hK2 K 0 N s (by omega) (by omega) (fun _ _ _ _ => rfl)
  have smt := drawSame ht
  have pt := PS_same smt p
  obtain ⟨u, ld, eu, sm, frm, nm, h50, h18, h184, h51⟩ := join_PS (N := N) (by omega) pt
  have pu := PS_same sm pt
  have h60 := pt.2.2.1.2.2.2.2.2.2.2.2.1
  have hle := fb_ct_le ld (nM t)
  have hKt : t 18 4 = nI K := by rw [smt.2.1 18 4 rfl]; exact hK
  have eK : K = fb_ct ld (nM t) := by
    rw [hKt] at h184
    exact (nI_eq (by omega) (by omega)).mp h184
  have em : lp (fun _ _ _ => none) (f_X10_wanderers_8 N) N u (nI (fb_ct (wB t) 0)) (nI 0) = _ := wanM_loop hN pt pu sm (h18.trans hKt) hK2 (fun k hk => lead_of nm sm h60 h50 h51 (by omega)) h50 K 0 N (by omega) (by omega)
  refine ⟨nI (fb_ct (wB s) K), t, u, et, ?_, pu⟩
  show f_X10_wanderers N t = _
  unfold f_X10_wanderers
  rw [eu, bd_e]
  have e2 : l_X10_wanderers_8 N u 0 0 = _ := em
  rw [e2, fb_ct_cong (fun k _ => wB_same smt p k)]
