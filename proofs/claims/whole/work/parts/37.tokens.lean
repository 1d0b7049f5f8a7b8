/-! tokens of a text: the class's step, the model's nextToken -/
def kn40 (v : Int32) : Int32 := if v = 45 then 3 else if v = 59 then 4 else 5
def kn26 (v : Int32) : Int32 := if v < 48 then kn40 v else if 57 < v then kn40 v else 2
def kn12 (v : Int32) : Int32 := if v < 65 then kn26 v else if 90 < v then kn26 v else 1
def knF (v : Int32) : Int32 := if v < 97 then kn12 v else if v ≤ 122 then 1 else kn12 v
theorem ifs {c : Prop} [Decidable c] {a b : Int32} {s : Hp} : (if c then some (a, s) else some (b, s)) = some (if c then a else b, s) := by
  by_cases h : c
  · rw [if_pos h, if_pos h]
  · rw [if_neg h, if_neg h]
theorem kindOf_e (N : Nat) (s : Hp) (v : Int32) : f_X8_kindOf N s v = some (knF v, s) := by
  have e40 : f_X8_kindOf_40 N s v = some (kn40 v, s) := by
    unfold f_X8_kindOf_40 kn40
    rw [ifs, ifs]
  have e26 : f_X8_kindOf_26 N s v = some (kn26 v, s) := by
    unfold f_X8_kindOf_26 kn26
    rw [e40, ifs, ifs]
  have e12 : f_X8_kindOf_12 N s v = some (kn12 v, s) := by
    unfold f_X8_kindOf_12 kn12
    rw [e26, ifs, ifs]
  unfold f_X8_kindOf knF
  rw [e12, ifs, ifs]
theorem kn_all : ∀ j, j < 256 → (btw 48 (nI j) 57 = decide (knF (nI j) = 2)) ∧ ((btw 97 (nI j) 122 || btw 65 (nI j) 90) = decide (knF (nI j) = 1)) ∧ (knF (nI j) = 1 ∨ knF (nI j) = 2 ∨ (nI j = 45 ∧ knF (nI j) = 3) ∨ (nI j = 59 ∧ knF (nI j) = 4) ∨ (nI j ≠ 45 ∧ nI j ≠ 59 ∧ knF (nI j) = 5)) ∧ (knF (nI j) = 1 → 65 ≤ j ∧ j < 123) ∧ (knF (nI j) = 2 → 48 ≤ j ∧ j < 58) := by decide +kernel
def skp (b : Nat → Int32) : Nat → Nat → Nat
  | 0, a => a
  | k + 1, a => if b a = 32 then skp b k (a + 1) else a
def run (b : Nat → Int32) (kd : Int32) : Nat → Nat → Nat
  | 0, a => a
  | k + 1, a => if knF (b a) = kd then run b kd k (a + 1) else a
theorem skp_b (b : Nat → Int32) : ∀ k a, a ≤ skp b k a ∧ skp b k a ≤ a + k
  | 0, a => ⟨Nat.le_refl _, Nat.le_refl _⟩
  | k + 1, a => by
    have ih := skp_b b k (a + 1)
    unfold skp
    by_cases h : b a = 32
    · rw [if_pos h]; omega
    · rw [if_neg h]; omega
theorem skp_n (b : Nat → Int32) : ∀ k a, skp b k a < a + k → b (skp b k a) ≠ 32
  | 0, a => fun h => absurd h (Nat.lt_irrefl _)
  | k + 1, a => by
    have ih := skp_n b k (a + 1)
    unfold skp
    by_cases h : b a = 32
    · rw [if_pos h]; exact fun q => ih (by omega)
    · rw [if_neg h]; exact fun _ => h
theorem run_b (b : Nat → Int32) (kd : Int32) : ∀ k a, a ≤ run b kd k a ∧ run b kd k a ≤ a + k
  | 0, a => ⟨Nat.le_refl _, Nat.le_refl _⟩
  | k + 1, a => by
    have ih := run_b b kd k (a + 1)
    unfold run
    by_cases h : knF (b a) = kd
    · rw [if_pos h]; omega
    · rw [if_neg h]; omega
theorem run_in (b : Nat → Int32) (kd : Int32) : ∀ k a i, a ≤ i → i < run b kd k a → knF (b i) = kd
  | 0, a, i, h1, h2 => by
    have : run b kd 0 a = a := rfl
    omega
  | k + 1, a, i, h1, h2 => by
    have ih := run_in b kd k (a + 1) i
    unfold run at h2
    by_cases h : knF (b a) = kd
    · rw [if_pos h] at h2
      by_cases e : i = a
      · rw [e]; exact h
      · exact ih (by omega) h2
    · rw [if_neg h] at h2; omega
def tS (b : Nat → Int32) (T a : Nat) : Nat := skp b (T - a) a
def tK (b : Nat → Int32) (T a : Nat) : Int32 := if T ≤ tS b T a then 0 else knF (b (tS b T a))
def tE (b : Nat → Int32) (T a : Nat) : Nat := if tK b T a = 0 then tS b T a else if tK b T a = 1 ∨ tK b T a = 2 then run b (tK b T a) (T - (tS b T a + 1)) (tS b T a + 1) else tS b T a + 1
theorem tS_b {b : Nat → Int32} {T a : Nat} (h : a ≤ T) : a ≤ tS b T a ∧ tS b T a ≤ T := by
  have := skp_b b (T - a) a
  unfold tS
  omega
theorem kn_ne0 : ∀ j, j < 256 → knF (nI j) ≠ 0 := by decide +kernel
theorem tE_b {b : Nat → Int32} {T a : Nat} (hb : ∀ i, vI 256 (b i)) (h : a ≤ T) : a ≤ tE b T a ∧ tE b T a ≤ T := by
  have h1 := tS_b (b := b) h
  unfold tE
  by_cases q1 : tK b T a = 0
  · rw [if_pos q1]; exact h1
  · rw [if_neg q1]
    have hlt : tS b T a < T := by
      unfold tK at q1
      by_cases z : T ≤ tS b T a
      · rw [if_pos z] at q1; exact absurd rfl q1
      · omega
    by_cases q2 : tK b T a = 1 ∨ tK b T a = 2
    · rw [if_pos q2]
      have := run_b b (tK b T a) (T - (tS b T a + 1)) (tS b T a + 1)
      omega
    · rw [if_neg q2]; omega
/-! the class's step -/
theorem st8_loop (N : Nat) {b : Nat → Int32} {T : Nat} (hT : T ≤ 100) : ∀ k a m (s : Hp), a + k = T → k < m → s 24 1 = nI T → s 24 2 = nI a → s 25 = b → ∃ t, lp (fun _ => none) (f_X8_step_8 N) m s = f_X8_step_46 N t ∧ t 24 2 = nI (skp b k a) ∧ (∀ c, c ≠ 24 → t c = s c) ∧ ∀ j, j ≠ 2 → t 24 j = s 24 j
  | k, a, 0, s, _, hm, _, _, _ => absurd hm (Nat.not_lt_zero k)
  | 0, a, m + 1, s, ha, _, h1, h2, h3 => by
    rw [lp_s]; unfold f_X8_step_8
    rw [h1, h2, if_pos (nI_le (by omega) (by omega))]
    exact ⟨s, rfl, h2, fun _ _ => rfl, fun _ _ => rfl⟩
  | k + 1, a, m + 1, s, ha, hm, h1, h2, h3 => by
    have ih := fun s => st8_loop N (b := b) hT k (a + 1) m s (by omega) (by omega)
    have g1 : ¬ nI T ≤ nI a := nI_ge (by omega) (by omega)
    have g2 : inR (nI a) 100 = true := inR_nI (by omega) (by decide)
    rw [lp_s]
    generalize lp (fun _ => none) (f_X8_step_8 N) m = S at ih ⊢
    unfold f_X8_step_8 skp
    rw [h1, h2, if_neg g1, g2, ck_t, ix_nI (by omega), h3, sb_e, nI_1]
    by_cases h : b a = 32
    · rw [if_pos h, if_pos h]
      obtain ⟨t, e, r1, r2, r3⟩ := ih (hset s 24 2 (nI (a + 1))) ((hs_slot (by decide)).trans h1) hs_same ((hset_d (by decide)).trans h3)
      exact ⟨t, e, r1, fun c hc => by rw [r2 c hc, hset_d hc], fun j hj => by rw [r3 j hj, hs_slot hj]⟩
    · rw [if_neg h, if_neg h]
      exact ⟨s, rfl, h2, fun _ _ => rfl, fun _ _ => rfl⟩
theorem st123_loop (N : Nat) {b : Nat → Int32} {T : Nat} (hT : T ≤ 100) (kd : Int32) : ∀ k a m (s : Hp), a + k = T → k < m → s 24 1 = nI T → s 24 3 = nI a → s 24 4 = kd → s 25 = b → ∃ t, lp (fun _ _ => none) (f_X8_step_123 N) m s 1 = some (0, t) ∧ t 24 3 = nI (run b kd k a) ∧ (∀ c, c ≠ 24 → t c = s c) ∧ ∀ j, j ≠ 3 → t 24 j = s 24 j
  | k, a, 0, s, _, hm, _, _, _, _ => absurd hm (Nat.not_lt_zero k)
  | 0, a, m + 1, s, ha, _, h1, h2, h4, h3 => by
    rw [lp_s]; unfold f_X8_step_123
    rw [if_neg (show ¬ (1 : Int32) = 0 by decide), h1, h2, if_pos (nI_le (by omega) (by omega))]
    exact ⟨s, rfl, h2, fun _ _ => rfl, fun _ _ => rfl⟩
  | k + 1, a, m + 1, s, ha, hm, h1, h2, h4, h3 => by
    have ih := fun s => st123_loop N (b := b) hT kd k (a + 1) m s (by omega) (by omega)
    have g1 : ¬ nI T ≤ nI a := nI_ge (by omega) (by omega)
    have g2 : inR (nI a) 100 = true := inR_nI (by omega) (by decide)
    rw [lp_s]
    generalize lp (fun _ _ => none) (f_X8_step_123 N) m = S at ih ⊢
    unfold f_X8_step_123 run
    rw [if_neg (show ¬ (1 : Int32) = 0 by decide), h1, h2, if_neg g1, g2, ck_t, ix_nI (by omega), h3, kindOf_e, bd_e, h4, h2, sb_e, nI_1]
    by_cases h : knF (b a) = kd
    · rw [if_pos h, if_pos h]
      obtain ⟨t, e, r1, r2, r3⟩ := ih (hset s 24 3 (nI (a + 1))) ((hs_slot (by decide)).trans h1) hs_same ((hs_slot (by decide)).trans h4) ((hset_d (by decide)).trans h3)
      exact ⟨t, e, r1, fun c hc => by rw [r2 c hc, hset_d hc], fun j hj => by rw [r3 j hj, hs_slot hj]⟩
    · rw [if_neg h, if_neg h]
      exact ⟨s, rfl, h2, fun _ _ => rfl, fun _ _ => rfl⟩
theorem step_e {N : Nat} (hN : 102 ≤ N) {b : Nat → Int32} (hb : ∀ i, vI 256 (b i)) {T a : Nat} (hT : T ≤ 100) (ha : a ≤ T) {s : Hp} (h1 : s 24 1 = nI T) (h2 : s 24 3 = nI a) (h3 : s 25 = b) : ∃ t, f_X8_step N s = some (0, t) ∧ t 24 2 = nI (tS b T a) ∧ t 24 3 = nI (tE b T a) ∧ t 24 4 = tK b T a ∧ t 24 1 = nI T ∧ ∀ c, c ≠ 24 → t c = s c := by
  have hS := tS_b (b := b) ha
  obtain ⟨t, e, r1, r2, r3⟩ := st8_loop N (b := b) hT (T - a) a N (hset s 24 2 (s 24 3)) (by omega) (by omega) ((hs_slot (by decide)).trans h1) (hs_same.trans h2) ((hset_d (by decide)).trans h3)
  have t1 : t 24 1 = nI T := by rw [r3 1 (by decide), hs_slot (by decide)]; exact h1
  have t2 : t 24 2 = nI (tS b T a) := r1
  have t25 : t 25 = b := by rw [r2 25 (by decide), hset_d (by decide)]; exact h3
  have tc : ∀ c, c ≠ 24 → t c = s c := fun c hc => by rw [r2 c hc, hset_d hc]
  have e0 : f_X8_step N s = f_X8_step_46 N t := by
    unfold f_X8_step
    rw [sb_e]
    exact e
  rw [e0]
  clear e0 e r1 r2 r3
  have e74 : f_X8_step_46 N t = f_X8_step_74 N t (tK b T a) := by
    unfold f_X8_step_46 tK
    rw [t1, t2]
    by_cases q : T ≤ tS b T a
    · rw [if_pos (nI_le q (by omega)), if_pos q]
    · rw [if_neg (nI_ge (by omega) (by omega)), if_neg q, inR_nI (by omega) (by decide), ck_t, ix_nI (by omega), t25, kindOf_e, bd_e]
  rw [e74]
  unfold f_X8_step_74
  rw [sb_e, hs_same, hs_slot (show (2 : Nat) ≠ 4 by decide), t2]
  generalize hw : hset t 24 4 (tK b T a) = w
  have w4 : w 24 4 = tK b T a := by rw [← hw, hs_same]
  have w1 : w 24 1 = nI T := by rw [← hw, hs_slot (by decide)]; exact t1
  have w2 : w 24 2 = nI (tS b T a) := by rw [← hw, hs_slot (by decide)]; exact t2
  have w25 : w 25 = b := by rw [← hw, hset_d (by decide)]; exact t25
  have wc : ∀ c, c ≠ 24 → w c = s c := fun c hc => by rw [← hw, hset_d hc, tc c hc]
  clear hw
  have e98 : ∀ x : Nat, (tK b T a = 1 ∨ tK b T a = 2 → x ≤ T) → ∃ t', f_X8_step_98 N w (nI x) = some (0, t') ∧ t' 24 3 = nI (if tK b T a = 1 ∨ tK b T a = 2 then run b (tK b T a) (T - x) x else x) ∧ (∀ c, c ≠ 24 → t' c = w c) ∧ ∀ j, j ≠ 3 → t' 24 j = w 24 j := fun x hx => by
    unfold f_X8_step_98 f_X8_step_117 f_X8_step_122
    rw [sb_e, hs_slot (show (4 : Nat) ≠ 3 by decide), w4]
    by_cases q : tK b T a = 1 ∨ tK b T a = 2
    · have hgo : ∃ t', l_X8_step_123 N (hset w 24 3 (nI x)) 1 = some (0, t') ∧ t' 24 3 = nI (run b (tK b T a) (T - x) x) ∧ (∀ c, c ≠ 24 → t' c = hset w 24 3 (nI x) c) ∧ ∀ j, j ≠ 3 → t' 24 j = hset w 24 3 (nI x) 24 j := st123_loop N hT (tK b T a) (T - x) x N (hset w 24 3 (nI x)) (by have := hx q; omega) (by omega) ((hs_slot (by decide)).trans w1) hs_same ((hs_slot (by decide)).trans w4) ((hset_d (by decide)).trans w25)
      obtain ⟨t', e', q1, q2, q3⟩ := hgo
      refine ⟨t', ?_, by rw [if_pos q]; exact q1, fun c hc => by rw [q2 c hc, hset_d hc], fun j hj => by rw [q3 j hj, hs_slot hj]⟩
      rcases q with z | z
      · rw [if_pos z]; exact e'
      · rw [z, if_neg (by decide), if_pos rfl]; exact e'
    · refine ⟨hset w 24 3 (nI x), ?_, by rw [if_neg q, hs_same], fun c hc => hset_d hc, fun j hj => hs_slot hj⟩
      rw [if_neg (fun z => q (Or.inl z)), if_neg (fun z => q (Or.inr z))]
      unfold l_X8_step_123
      obtain ⟨M, rfl⟩ : ∃ M, N = M + 1 := ⟨N - 1, by omega⟩
      rw [lp_s]
      unfold f_X8_step_123
      rw [if_pos rfl]
  unfold tE
  by_cases q1 : tK b T a = 0
  · rw [if_pos q1, if_pos q1]
    obtain ⟨t', e', p1, p2, p3⟩ := e98 (tS b T a) (fun _ => hS.2)
    refine ⟨t', e', by rw [p3 2 (by decide)]; exact w2, ?_, by rw [p3 4 (by decide)]; exact w4, by rw [p3 1 (by decide)]; exact w1, fun c hc => by rw [p2 c hc, wc c hc]⟩
    rw [p1, if_neg (by rw [q1]; decide)]
  · rw [if_neg q1, if_neg q1, nI_1]
    have hlt : tS b T a < T := by
      unfold tK at q1
      by_cases z : T ≤ tS b T a
      · rw [if_pos z] at q1; exact absurd rfl q1
      · omega
    obtain ⟨t', e', p1, p2, p3⟩ := e98 (tS b T a + 1) (fun _ => by omega)
    exact ⟨t', e', by rw [p3 2 (by decide)]; exact w2, p1, by rw [p3 4 (by decide)]; exact w4, by rw [p3 1 (by decide)]; exact w1, fun c hc => by rw [p2 c hc, wc c hc]⟩
/-! the class's value -/
def cvF (b : Nat → Int32) : Nat → Nat → Nat → Nat
  | 0, _, v => v
  | k + 1, a, v => if knF (b a) = 2 then cvF b k (a + 1) (min 10000 (v * 10 + ix (b a) - 48)) else v
theorem val_loop (N : Nat) {b : Nat → Int32} (hb : ∀ i, vI 256 (b i)) {s : Hp} (h3 : s 25 = b) : ∀ k a m v, s 24 3 = nI (run b 2 k a) → a + k ≤ 100 → k < m → v ≤ 10000 → lp (fun _ _ _ => none) (f_X8_value_7 N) m s (nI v) (nI a) = some (nI (cvF b k a v), s)
  | k, a, 0, v, _, _, hm, _ => absurd hm (Nat.not_lt_zero k)
  | 0, a, m + 1, v, h, ha, _, _ => by
    rw [lp_s]; unfold f_X8_value_7
    rw [h, if_pos (nI_le (show run b 2 0 a ≤ a from Nat.le_refl _) (by omega))]; rfl
  | k + 1, a, m + 1, v, h, ha, hm, hv => by
    have hr := run_b b 2 k (a + 1)
    have ih := fun v => val_loop N hb h3 k (a + 1) m v
    have g2 : inR (nI a) 100 = true := inR_nI (by omega) (by decide)
    rw [lp_s]
    generalize lp (fun _ _ _ => none) (f_X8_value_7 N) m = S at ih ⊢
    unfold f_X8_value_7 cvF
    unfold run at h
    by_cases q : knF (b a) = 2
    · rw [if_pos q] at h
      obtain ⟨j, hj, ej⟩ := hb a
      have hd : 48 ≤ j ∧ j < 58 := (kn_all j hj).2.2.2.2 (by rw [← ej]; exact q)
      rw [h, if_neg (nI_ge (by omega) (by omega)), g2, ck_t, vb_e, vb_e, nI_1, ix_nI (show a < 2 ^ 31 by omega), h3, if_pos q, ej, ix_nI (show j < 2 ^ 31 by omega), show (10 : Int32) = nI 10 from rfl, pk_mul, nI_add, show (48 : Int32) = nI 48 from rfl, pk_sub (by omega), show (10000 : Int32) = nI 10000 from rfl, nI_imin (by omega) (by omega)]
      exact ih _ h (by omega) (by omega) (by omega)
    · rw [if_neg q] at h
      rw [h, if_pos (nI_le (Nat.le_refl _) (by omega)), if_neg q]
def tV (b : Nat → Int32) (T a : Nat) : Nat := cvF b (T - tS b T a) (tS b T a) 0
theorem value_e {N : Nat} (hN : 102 ≤ N) {b : Nat → Int32} (hb : ∀ i, vI 256 (b i)) {T a : Nat} (hT : T ≤ 100) (ha : a ≤ T) {s : Hp} (h2 : s 24 2 = nI (tS b T a)) (h3 : s 24 3 = nI (tE b T a)) (h25 : s 25 = b) (hk : tK b T a = 2) : f_X8_value N s = some (nI (tV b T a), s) := by
  have hS := tS_b (b := b) ha
  have hlt : tS b T a < T := by
    unfold tK at hk
    by_cases z : T ≤ tS b T a
    · rw [if_pos z] at hk; exact absurd hk (by decide)
    · omega
  have hkn : knF (b (tS b T a)) = 2 := by
    unfold tK at hk
    rw [if_neg (by omega)] at hk
    exact hk
  have hrun : run b 2 (T - tS b T a) (tS b T a) = tE b T a := by
    unfold tE
    rw [hk, if_neg (by decide), if_pos (Or.inr rfl)]
    rw [show T - tS b T a = (T - (tS b T a + 1)) + 1 by omega]
    show (if knF (b (tS b T a)) = 2 then _ else _) = _
    rw [if_pos hkn]
  unfold f_X8_value tV
  rw [vb_e, h2]
  exact val_loop N hb h25 (T - tS b T a) (tS b T a) N 0 (by rw [h3, hrun]) (by omega) (by omega) (by omega)
