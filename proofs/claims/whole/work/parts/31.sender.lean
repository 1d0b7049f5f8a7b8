/-! sender, place, box: what the sketch and the model have in common -/
theorem shr1 (v : Int32) {j : Nat} (hj : j < 32) : (v >>> (nI j &&& 31)) &&& 1 = b01 (bt v j) := by
  apply b_ext
  intro i hi
  rw [b_and, bt_1 i hi, b_sshr j hj v hi]
  by_cases h : i = 0
  · subst h
    rw [decide_eq_true rfl, Bool.and_true, if_pos (by omega), Nat.add_zero]
    cases bt v j <;> decide
  · rw [decide_eq_false h, Bool.and_false]
    cases bt v j with
    | false => exact (b_0 i).symm
    | true => rw [show b01 true = 1 from rfl, bt_1 i hi, decide_eq_false h]
theorem fdiv {f : Nat} (hf : f < 1024) : irm (nI f) 32 = nI (f % 32) ∧ nI f / 32 = nI (f / 32) := ⟨pk_rem (d := 32) (by omega) (by decide) (by decide), pk_div (d := 32) (by omega) (by decide) (by decide)⟩
theorem has_e (N : Nat) (t : Hp) {f : Nat} (hf : f < 1024) : f_X6_has N t (nI f) = some (b01 (tb (t 23 (f / 32)) (f % 32)), t) := by
  unfold f_X6_has
  rw [(fdiv hf).1, (fdiv hf).2, inR_nI (show f / 32 < 32 by omega) (by decide), ck_t, ix_nI (by omega), shr1 _ (by omega), ifb]
  show _ = some (b01 (bt (t 23 (f / 32)) (f % 32)), t)
  cases bt (t 23 (f / 32)) (f % 32) <;> rfl
theorem liesIn_e (N : Nat) {s : Hp} (p1 : E1 s) (p3 : E3 s) {m f : Nat} (hm : m < nM s) (hf : f < 1024) : f_X10_liesIn N s (nI m) (nI (f % 32)) (nI (f / 32)) = some (b01 (liesB s m f), s) := by
  have h60 := p3.2.2.2.2.2.2.2.2.1
  obtain ⟨q, hq, eq⟩ := (p3.2.2.2.2.2.2.2.2.2.1 m hm).1
  have hq6 : q < 6 := Nat.lt_of_lt_of_le hq p1.2.2.2.2
  have g0 : (4 : Int32) * nI m = nI (4 * m) := pk_mul 4 m
  rw [liesB_ls]
  unfold f_X10_liesIn lsB
  rw [inR_nI (show m < 60 by omega) (by decide), ck_t, ix_nI (show m < 2 ^ 31 by omega), eq, inR_nI hq6 (by decide), ck_t, vb_e, ck_t, ck_t, vb_e, ix_nI (show q < 2 ^ 31 by omega), g0, show nI (4 * m) + 1 = nI (4 * m + 1) from nI_1 _, show nI (4 * m) + 2 = nI (4 * m + 2) from nI_add _ 2, show nI (4 * m) + 3 = nI (4 * m + 3) from nI_add _ 3, inR_nI (show 4 * m < 240 by omega) (by decide), ck_t, inR_nI (show 4 * m + 1 < 240 by omega) (by decide), ck_t, inR_nI (show 4 * m + 3 < 240 by omega) (by decide), ck_t, inR_nI (show 4 * m + 2 < 240 by omega) (by decide), ck_t, ix_nI (show 4 * m < 2 ^ 31 by omega), ix_nI (show 4 * m + 1 < 2 ^ 31 by omega), ix_nI (show 4 * m + 2 < 2 ^ 31 by omega), ix_nI (show 4 * m + 3 < 2 ^ 31 by omega)]
  by_cases h1 : s 49 (4 * m) * (nI (f / 32) - s 38 q) - s 49 (4 * m + 1) * (nI (f % 32) - s 37 q) < 0
  · rw [if_pos h1, decide_eq_false (by rw [i_lt] at h1; rw [i_le]; omega), Bool.false_and]; rfl
  · rw [if_neg h1, decide_eq_true (by rw [i_lt] at h1; rw [i_le]; omega), Bool.true_and]
    by_cases h2 : (nI (f % 32) - s 37 q) * s 49 (4 * m + 3) - (nI (f / 32) - s 38 q) * s 49 (4 * m + 2) < 0
    · rw [if_pos h2, decide_eq_false (by rw [i_lt] at h2; rw [i_le]; omega)]; rfl
    · rw [if_neg h2, decide_eq_true (by rw [i_lt] at h2; rw [i_le]; omega)]; rfl
theorem plG_no {O : Nat → Bool} {s : Hp} {f : Nat} {i : Nat} (h : plG O s f i = false) : ∀ d, plG O s f (i + d) = false
  | 0 => h
  | d + 1 => by
    have ih := plG_no h d
    unfold plG at ih ⊢
    show fld O _ true (i + d + 1) = false
    by_cases hO : O (i + d) = true
    · rw [fld_t hO, ih, Bool.false_and]
    · rw [fld_f hO, ih]
theorem plc_loop {N : Nat} {s : Hp} (p1 : E1 s) (p3 : E3 s) (q : Int32) {f : Nat} (hf : f < 1024) : ∀ k i m, i + k = nM s → k < m → plG (fun j => decide (s 50 j = q)) s f i = true → lp (fun _ _ _ _ => none) (f_X10_isPlace_2 N) m s q (nI f) (nI i) = some (b01 (plG (fun j => decide (s 50 j = q)) s f (nM s)), s)
  | k, i, 0, _, hm, _ => absurd hm (Nat.not_lt_zero k)
  | 0, i, m + 1, hi, _, hp => by
    have h60 := p3.2.2.2.2.2.2.2.2.1
    have e : i = nM s := by omega
    subst e
    rw [lp_s]; unfold f_X10_isPlace_2
    rw [p3.2.2.2.2.2.2.2.1, if_pos (nI_le (by omega) (by omega)), hp]; rfl
  | k + 1, i, m + 1, hi, hm, hp => by
    have h60 := p3.2.2.2.2.2.2.2.2.1
    have ih := plc_loop (N := N) p1 p3 q hf k (i + 1) m (by omega) (by omega)
    have g1 : ¬ nI (nM s) ≤ nI i := nI_ge (by omega) (by omega)
    have g2 : inR (nI i) 60 = true := inR_nI (by omega) (by decide)
    rw [lp_s]
    generalize lp (fun _ _ _ _ => none) (f_X10_isPlace_2 N) m = S at ih ⊢
    unfold f_X10_isPlace_2 f_X10_isPlace_47
    rw [p3.2.2.2.2.2.2.2.1, if_neg g1, g2, ck_t, ck_t, vb_e, nI_1, ix_nI (by omega), (fdiv hf).1, (fdiv hf).2, liesIn_e N p1 p3 (show i < nM s by omega) hf, bd_e, ifb, vb_e]
    by_cases h : s 50 i = q
    · have hO : (fun j => decide (s 50 j = q)) i = true := decide_eq_true h
      rw [if_pos h]
      have hs : plG (fun j => decide (s 50 j = q)) s f (i + 1) = (true && (decide (s 48 i = 0) || liesB s i f)) := by
        rw [← hp]; unfold plG; rw [fld_t hO]
      by_cases h2 : s 48 i = 0
      · rw [if_pos h2]
        refine ih ?_
        rw [hs, decide_eq_true h2]; rfl
      · rw [if_neg h2]
        rw [decide_eq_false h2, Bool.true_and, Bool.false_or] at hs
        cases hl : liesB s i f with
        | true =>
          rw [cond_true]
          exact ih (by rw [hs, hl])
        | false =>
          rw [hl] at hs
          have := plG_no hs (nM s - (i + 1))
          rw [show i + 1 + (nM s - (i + 1)) = nM s by omega] at this
          rw [cond_false, this]; rfl
    · rw [if_neg h]
      refine ih ?_
      rw [← hp]; unfold plG
      rw [fld_f (show ¬ decide (s 50 i = q) = true from fun z => h (of_decide_eq_true z))]
theorem isPlace_e {N : Nat} (hN : 101 ≤ N) {s : Hp} (p1 : E1 s) (p3 : E3 s) (q : Int32) {f : Nat} (hf : f < 1024) : f_X10_isPlace N s q (nI f) = some (b01 (plG (fun j => decide (s 50 j = q)) s f (nM s)), s) :=
  plc_loop p1 p3 q hf (nM s) 0 N (by omega) (by have := p3.2.2.2.2.2.2.2.2.1; omega) rfl
theorem plG_same {s u : Hp} (h : Same s u) {O O2 : Nat → Bool} {n f : Nat} (hO : ∀ j, j < n → O j = O2 j) : plG O u f n = plG O2 s f n := by
  unfold plG
  exact fld_cong hO (fun b i _ _ => by rw [h.1 48 rfl, liesB_same h])
/-- a sender: its leader, its marks -/
theorem own_ld {R : Nat → Nat → Bool} {n : Nat} {num : Nat → Int32} {ld : Nat → Bool} (h : NumOK R n num ld) {l i : Nat} (hl : l < n) (hld : ld l = true) (hn : n < 2 ^ 31) (hi : i < n) (hk : num i = num l) : l ≤ i ∧ Cn R n l i := by
  obtain ⟨g, hg, hgl, hc⟩ := ld_of (R := R) (n := n) i
  have hgld : ld g = true := (h.1 g (by omega)).mpr hgl
  have e1 := h.2.2 g i (by omega) hi hc
  rw [hk, h.2.1 g (by omega) hgld, h.2.1 l hl hld] at e1
  have b1 := fb_ct_le ld g
  have b2 := fb_ct_le ld l
  have e2 := (nI_eq (by omega) (by omega)).mp e1
  have e3 := fb_ct_kth_one hgld hld e2
  subst e3
  exact ⟨hg, hc⟩
theorem jn_chan {s : Hp} {a b : Nat} (h : jnB s a b = true) : s 44 a = s 44 b := by
  unfold jnB at h
  rw [Bool.and_eq_true] at h
  exact of_decide_eq_true h.1
/-- the class has drawn sender k, the model has joined -/
def Drawn (N : Nat) (s : Hp) (k : Nat) (t u : Hp) (l : Nat) : Prop :=
  DI s (fun j => decide (s 20 j = nI k)) (nM s) t ∧ PS t ∧ PS u ∧ Same s u ∧ f_X10_isSender N t (nI k) = some (1, u) ∧ u 51 k = nI l ∧ (∀ j, j < nM s → u 50 j = s 20 j) ∧ l < nM s ∧ s 20 l = nI k ∧ ∀ j, j < nM s → s 20 j = nI k → l ≤ j ∧ s 44 j = s 44 l
theorem isSender_e {N : Nat} (hN : 101 ≤ N) {s : Hp} (p : PS s) (x : Int32) : ∃ (u : Hp) (ld : Nat → Bool), f_X10_isSender N s x = some (b01 (inR x (fb_ct ld (nM s))), u) ∧ Same s u ∧ NumOK (jnB s) (nM s) (s 20) ld ∧ (∀ i, i < nM s → u 50 i = s 20 i) ∧ s 18 4 = nI (fb_ct ld (nM s)) ∧ u 36 18 = nI (fb_ct ld (nM s)) ∧ (∀ i, i < nM s → ld i = true → u 51 (fb_ct ld i) = nI i) := by
  obtain ⟨u, ld, e, sm, fr, nm, h50, h18, h184, h51⟩ := join_PS hN p
  have hle := fb_ct_le ld (nM s)
  have h60 := p.2.2.1.2.2.2.2.2.2.2.2.1
  refine ⟨u, ld, ?_, sm, nm, h50, h184, h18.trans h184, h51⟩
  unfold f_X10_isSender
  rw [e, bd_e, h18, h184, isIn_e, btw_0 x (by omega), bd_e, isB_b01, ck_t]
theorem drawn_e {N : Nat} (hN : 101 ≤ N) {s : Hp} (p : PS s) {k K : Nat} (hK : s 18 4 = nI K) (hK2 : K ≤ 60) (hk : k < K) : ∃ (t u : Hp) (l : Nat), f_X6_draw N s (nI k) = some (0, t) ∧ Drawn N s k t u l := by
  obtain ⟨t, et, hD⟩ := draw_e hN p.2.2.1 p.2.2.2.1 (nI k)
  have sm1 := drawSame hD.1
  have pt := PS_same sm1 p
  have h60 := p.2.2.1.2.2.2.2.2.2.2.2.1
  obtain ⟨u, ld, e, sm, nm, h50, h184, h3618, h51⟩ := isSender_e hN pt (nI k)
  have nMt : nM t = nM s := nM_same sm1
  rw [nMt, jnB_same sm1, sm1.1 20 rfl] at nm
  rw [nMt] at e h50 h184 h51
  rw [sm1.2.1 18 4 rfl, hK] at h184
  have hle := fb_ct_le ld (nM s)
  have eK : K = fb_ct ld (nM s) := (nI_eq (by omega) (by omega)).mp h184
  obtain ⟨l, hl, hld, hlk⟩ := fb_ct_kth (p := ld) (k := k) (n := nM s) (by omega)
  have ol : s 20 l = nI k := by rw [nm.2.1 l hl hld, hlk]
  refine ⟨t, u, l, et, ⟨hD, pt, PS_same sm pt, sm1.tr sm, ?_, ?_, fun j hj => ?_, hl, ol, fun j hj hq => ?_⟩⟩
  · rw [e, ← eK, inR_nI hk (by omega)]; rfl
  · rw [← h51 l hl hld, hlk]
  · rw [h50 j hj, sm1.1 20 rfl]
  · obtain ⟨h1, h2⟩ := own_ld nm hl hld (by omega) hj (hq.trans ol.symm)
    refine ⟨h1, ?_⟩
    exact (Cn_cl (f := s 44) (fun a b _ _ hr => jn_chan hr) hj h2).symm
/-- where the number tells no sender -/
theorem noSender {N : Nat} (hN : 101 ≤ N) {s : Hp} (p : PS s) {K : Nat} (hK : s 18 4 = nI K) (hK2 : K ≤ 60) {x : Int32} (hx : inR x K = false) : ∃ u, f_X10_isSender N s x = some (0, u) ∧ PS u := by
  have h60 := p.2.2.1.2.2.2.2.2.2.2.2.1
  obtain ⟨u, ld, e, sm, nm, h50, h184, h3618, h51⟩ := isSender_e hN p x
  have hle := fb_ct_le ld (nM s)
  rw [hK] at h184
  have eK : K = fb_ct ld (nM s) := (nI_eq (by omega) (by omega)).mp h184
  exact ⟨u, by rw [e, ← eK, hx]; rfl, PS_same sm p⟩
theorem cntK {s : Hp} (p : PS s) : ∃ K, s 18 4 = nI K ∧ K ≤ 60 := by
  obtain ⟨ld, _, h⟩ := p.2.2.2.2.2.1
  have h60 := p.2.2.1.2.2.2.2.2.2.2.2.1
  exact ⟨_, h, Nat.le_trans (fb_ct_le ld (nM s)) h60⟩
/-! counting fields -/
theorem ct_rows (p : Nat → Bool) (y : Nat) : fb_ct p (32 * (y + 1)) = fb_ct p (32 * y) + fb_ct (fun j => p (32 * y + j)) 32 := by
  rw [show 32 * (y + 1) = 32 * y + 32 by omega, fb_ct_split]
theorem cnt_loop (N : Nat) (t : Hp) (p : Nat → Bool) (hp : ∀ f, f < 1024 → tb (t 23 (f / 32)) (f % 32) = p f) : ∀ k i m, i + k = 32 → k < m → lp (fun _ _ _ => none) (f_X6_countFields_4 N) m t (nI (fb_ct p (32 * i))) (nI i) = some (nI (fb_ct p 1024), t)
  | k, i, 0, _, hm => absurd hm (Nat.not_lt_zero k)
  | 0, i, m + 1, hi, _ => by
    have e : i = 32 := by omega
    subst e
    rw [lp_s]; unfold f_X6_countFields_4
    rw [if_pos (show (32 : Int32) ≤ nI 32 by decide)]
  | k + 1, i, m + 1, hi, hm => by
    have ih := cnt_loop N t p hp k (i + 1) m (by omega) (by omega)
    have g1 : ¬ (32 : Int32) ≤ nI i := nI_ge (b := 32) (by omega) (by omega)
    have g2 : inR (nI i) 32 = true := inR_nI (by omega) (by decide)
    rw [lp_s]
    generalize lp (fun _ _ _ => none) (f_X6_countFields_4 N) m = S at ih ⊢
    unfold f_X6_countFields_4
    rw [if_neg g1, g2, ck_t, bitCount_e, bd_e, vb_e, vb_e, nI_1, ix_nI (by omega), nI_add, ← ih, ct_rows]
    congr 3
    refine fb_ct_cong (fun j hj => ?_)
    have := hp (32 * i + j) (by omega)
    rw [show (32 * i + j) / 32 = i by omega, show (32 * i + j) % 32 = j by omega] at this
    exact this
theorem count_e {N : Nat} (hN : 101 ≤ N) (t : Hp) (p : Nat → Bool) (hp : ∀ f, f < 1024 → tb (t 23 (f / 32)) (f % 32) = p f) : f_X6_countFields N t = some (nI (fb_ct p 1024), t) :=
  cnt_loop N t p hp 32 0 N (by omega) (by omega)
theorem cntM_loop {N : Nat} (hN : 101 ≤ N) {s : Hp} (p1 : E1 s) (p3 : E3 s) (q : Int32) (p : Nat → Bool) (hp : ∀ f, f < 1024 → plG (fun j => decide (s 50 j = q)) s f (nM s) = p f) : ∀ k i m, i + k = 1024 → k < m → lp (fun _ _ _ _ => none) (f_X10_sender_57 N) m s q (nI (fb_ct p i)) (nI i) = some (nI (fb_ct p 1024), s)
  | k, i, 0, _, hm => absurd hm (Nat.not_lt_zero k)
  | 0, i, m + 1, hi, _ => by
    have e : i = 1024 := by omega
    subst e
    rw [lp_s]; unfold f_X10_sender_57
    rw [if_pos (show (1024 : Int32) ≤ nI 1024 by decide)]
  | k + 1, i, m + 1, hi, hm => by
    have ih := cntM_loop hN p1 p3 q p hp k (i + 1) m (by omega) (by omega)
    have g1 : ¬ (1024 : Int32) ≤ nI i := nI_ge (b := 1024) (by omega) (by omega)
    rw [lp_s]
    generalize lp (fun _ _ _ _ => none) (f_X10_sender_57 N) m = S at ih ⊢
    unfold f_X10_sender_57 f_X10_sender_82
    rw [if_neg g1, isPlace_e hN p1 p3 q (by omega), bd_e, ifb, vb_e, vb_e, vb_e, vb_e, nI_1, hp i (by omega), ← ih, fb_ct_succ]
    cases p i with
    | true => rw [cond_true, nI_1]; rfl
    | false => rw [cond_false, nI_1]; congr 1; show nI _ + nI 0 = _; rw [nI_add]; rfl
/-! the field at a number -/
def kF (p : Nat → Bool) (i : Nat) : Nat → Nat → Int32
  | 0, _ => -1
  | k + 1, f => if p f = true ∧ fb_ct p f = i then nI f else kF p i k (f + 1)
theorem kF_big {p : Nat → Bool} {i : Nat} : ∀ k f, f + k ≤ i → kF p i k f = -1
  | 0, _, _ => rfl
  | k + 1, f, h => by
    unfold kF
    have := fb_ct_le p f
    rw [if_neg (by omega)]
    exact kF_big k (f + 1) (by omega)
theorem at_loop (N : Nat) (t : Hp) (p : Nat → Bool) (hp : ∀ f, f < 1024 → tb (t 23 (f / 32)) (f % 32) = p f) {i : Nat} (hi : i < 2 ^ 31) : ∀ k f m, f + k = 1024 → k < m → lp (fun _ _ _ _ => none) (f_X6_fieldAt_4 N) m t (nI i) (nI (fb_ct p f)) (nI f) = some (kF p i k f, t)
  | k, f, 0, _, hm => absurd hm (Nat.not_lt_zero k)
  | 0, f, m + 1, hf, _ => by
    rw [lp_s]; unfold f_X6_fieldAt_4
    rw [if_pos (show (1024 : Int32) ≤ nI f from nI_le (a := 1024) (by omega) (by omega))]; rfl
  | k + 1, f, m + 1, hf, hm => by
    have ih := at_loop N t p hp hi k (f + 1) m (by omega) (by omega)
    have g1 : ¬ (1024 : Int32) ≤ nI f := nI_ge (b := 1024) (by omega) (by omega)
    have hc := fb_ct_le p f
    rw [lp_s]
    generalize lp (fun _ _ _ _ => none) (f_X6_fieldAt_4 N) m = S at ih ⊢
    unfold f_X6_fieldAt_4 f_X6_fieldAt_29 kF
    rw [if_neg g1, has_e N t (by omega), hp f (by omega), bd_e, ifb, vb_e, vb_e, vb_e, nI_1]
    rw [fb_ct_succ] at ih
    cases hpf : p f with
    | false =>
      rw [hpf] at ih
      rw [cond_false, nI_1, if_neg (fun z => by cases z.1)]
      exact ih
    | true =>
      rw [hpf, if_pos rfl] at ih
      rw [cond_true, nI_1, ih]
      by_cases he : fb_ct p f = i
      · rw [if_pos (by rw [he]), if_pos ⟨rfl, he⟩]
      · rw [if_neg (fun z => he ((nI_eq (by omega) (by omega)).mp z)), if_neg (fun z => he z.2)]
theorem atM_loop {N : Nat} (hN : 101 ≤ N) {s : Hp} (p1 : E1 s) (p3 : E3 s) (q : Int32) (p : Nat → Bool) (hp : ∀ f, f < 1024 → plG (fun j => decide (s 50 j = q)) s f (nM s) = p f) {i : Nat} (hi : i < 2 ^ 31) : ∀ k f m, f + k = 1024 → k < m → fb_ct p f ≤ i → lp (fun _ _ _ _ => none) (f_X10_place_19 N) m s q (nI (i - fb_ct p f)) (nI f) = some (kF p i k f, s)
  | k, f, 0, _, hm, _ => absurd hm (Nat.not_lt_zero k)
  | 0, f, m + 1, hf, _, _ => by
    rw [lp_s]; unfold f_X10_place_19
    rw [if_pos (show (1024 : Int32) ≤ nI f from nI_le (a := 1024) (by omega) (by omega))]; rfl
  | k + 1, f, m + 1, hf, hm, hc => by
    have ih := atM_loop hN p1 p3 q p hp hi k (f + 1) m (by omega) (by omega)
    have g1 : ¬ (1024 : Int32) ≤ nI f := nI_ge (b := 1024) (by omega) (by omega)
    rw [lp_s]
    generalize lp (fun _ _ _ _ => none) (f_X10_place_19 N) m = S at ih ⊢
    unfold f_X10_place_19 f_X10_place_50 kF
    rw [if_neg g1, isPlace_e hN p1 p3 q (by omega), hp f (by omega), bd_e, ifb, vb_e, vb_e, vb_e, nI_1]
    rw [fb_ct_succ] at ih
    cases hpf : p f with
    | false =>
      rw [hpf] at ih
      rw [cond_false, if_neg (fun z => by cases z.1)]
      exact ih hc
    | true =>
      rw [hpf, if_pos rfl] at ih
      rw [cond_true]
      by_cases he : fb_ct p f = i
      · rw [if_pos (by rw [he, Nat.sub_self]; rfl), if_pos ⟨rfl, he⟩]
      · rw [if_neg (fun z => he (by have := (nI_eq (show i - fb_ct p f < 2 ^ 31 by omega) (show 0 < 2 ^ 31 by decide)).mp z; omega)), if_neg (fun z => he z.2), ← ih (by omega), show i - fb_ct p f = (i - (fb_ct p f + 1)) + 1 by omega, pk_m1]
/-! the edges -/
def eS (g : Bool) (x v : Int32) : Int32 := if x = -1 then v else cond g (if v ≤ x then x else v) (if x ≤ v then x else v)
def eF (p : Nat → Bool) (vf : Nat → Int32) (g : Bool) : Nat → Nat → Int32 → Int32
  | 0, _, x => x
  | k + 1, f, x => eF p vf g k (f + 1) (if p f = true then eS g x (vf f) else x)
def eV (y : Bool) (f : Nat) : Int32 := cond y (nI (f / 32)) (nI (f % 32))
theorem eV_v (y : Bool) {f : Nat} (hf : f < 1024) : vI 32 (eV y f) := by
  cases y
  · exact ⟨f % 32, by omega, rfl⟩
  · exact ⟨f / 32, by omega, rfl⟩
theorem ed_loop (N : Nat) (t : Hp) (p : Nat → Bool) (hp : ∀ f, f < 1024 → tb (t 23 (f / 32)) (f % 32) = p f) (y g : Bool) : ∀ k f m x, f + k = 1024 → k < m → lp (fun _ _ _ _ _ => none) (f_X6_edge_5 N) m t (b01 y) (b01 g) x (nI f) = some (eF p (eV y) g k f x, t)
  | k, f, 0, x, _, hm => absurd hm (Nat.not_lt_zero k)
  | 0, f, m + 1, x, hf, _ => by
    rw [lp_s]; unfold f_X6_edge_5
    rw [if_pos (show (1024 : Int32) ≤ nI f from nI_le (a := 1024) (by omega) (by omega))]; rfl
  | k + 1, f, m + 1, x, hf, hm => by
    have ih := fun x => ed_loop N t p hp y g k (f + 1) m x (by omega) (by omega)
    have g1 : ¬ (1024 : Int32) ≤ nI f := nI_ge (b := 1024) (by omega) (by omega)
    rw [lp_s]
    generalize lp (fun _ _ _ _ _ => none) (f_X6_edge_5 N) m = S at ih ⊢
    have e61 : ∀ v w : Int32, f_X6_edge_61 N S t (b01 y) (b01 g) x (nI f) v w = some (eF p (eV y) g k (f + 1) (if p f = true then (if x = -1 then v else if w = 0 then x else v) else x), t) := fun v w => by
      unfold f_X6_edge_61 f_X6_edge_82 f_X6_edge_85
      rw [has_e N t (by omega), hp f (by omega), bd_e, ifb, vb_e, vb_e, nI_1, ih, ih]
      cases p f with
      | false => rw [cond_false, if_neg (by decide)]
      | true =>
        rw [cond_true, if_pos rfl]
        by_cases h1 : x = -1
        · rw [if_pos h1, if_pos h1]
        · rw [if_neg h1, if_neg h1]
          by_cases h2 : w = 0
          · rw [if_pos h2, if_pos h2]
          · rw [if_neg h2, if_neg h2]
    have e30 : ∀ v : Int32, f_X6_edge_30 N S t (b01 y) (b01 g) x (nI f) v = some (eF p (eV y) g k (f + 1) (if p f = true then eS g x v else x), t) := fun v => by
      unfold f_X6_edge_30
      rw [ifb, e61, e61]
      unfold eS
      cases g with
      | false =>
        rw [cond_false, cond_false]
        by_cases h1 : x ≤ v
        · rw [if_pos h1, if_pos (show (0 : Int32) = 0 from rfl), if_pos h1]
        · rw [if_neg h1, if_neg (show ¬ (1 : Int32) = 0 by decide), if_neg h1]
      | true =>
        rw [cond_true, cond_true]
        by_cases h1 : v ≤ x
        · rw [if_pos h1, if_pos (show (0 : Int32) = 0 from rfl), if_pos h1]
        · rw [if_neg h1, if_neg (show ¬ (1 : Int32) = 0 by decide), if_neg h1]
    unfold f_X6_edge_5
    rw [if_neg g1, ifb, e30, e30, (fdiv (show f < 1024 by omega)).1, (fdiv (show f < 1024 by omega)).2]
    cases y <;> rfl
theorem edM_loop {N : Nat} (hN : 101 ≤ N) {s : Hp} (p1 : E1 s) (p3 : E3 s) (q : Int32) (p : Nat → Bool) (hp : ∀ f, f < 1024 → plG (fun j => decide (s 50 j = q)) s f (nM s) = p f) (x2 : Int32) (y g : Bool) (hy : 2 ≤ x2 ↔ y = true) (hg : irm x2 2 = 0 ↔ g = false) : ∀ k f m x, f + k = 1024 → k < m → (x = -1 ∨ vI 32 x) → lp (fun _ _ _ _ _ => none) (f_X10_box_24 N) m s q x2 x (nI f) = some (eF p (eV y) g k f x, s)
  | k, f, 0, x, _, hm, _ => absurd hm (Nat.not_lt_zero k)
  | 0, f, m + 1, x, hf, _, _ => by
    rw [lp_s]; unfold f_X10_box_24
    rw [if_pos (show (1024 : Int32) ≤ nI f from nI_le (a := 1024) (by omega) (by omega))]; rfl
  | k + 1, f, m + 1, x, hf, hm, hx => by
    have ih := fun x => edM_loop hN p1 p3 q p hp x2 y g hy hg k (f + 1) m x (by omega) (by omega)
    have g1 : ¬ (1024 : Int32) ≤ nI f := nI_ge (b := 1024) (by omega) (by omega)
    rw [lp_s]
    generalize lp (fun _ _ _ _ _ => none) (f_X10_box_24 N) m = S at ih ⊢
    have e93 : ∀ v : Int32, f_X10_box_93 N S s q x2 v (nI f) = S s q x2 v (nI (f + 1)) := fun v => by
      unfold f_X10_box_93
      rw [vb_e, nI_1]
    have e90 : ∀ v : Int32, f_X10_box_90 N S s q x2 (nI f) v = S s q x2 v (nI (f + 1)) := fun v => by
      unfold f_X10_box_90
      rw [e93]
    have hx0 : x < 0 ↔ x = -1 := by
      rcases hx with h | ⟨j, hj, h⟩
      · rw [h]; decide
      · rw [h]
        refine ⟨fun z => ?_, fun z => absurd z.symm (m1_ne (by omega))⟩
        rw [i_lt, i_0, nI_toInt (by omega)] at z; omega
    have e63 : ∀ v : Int32, vI 32 v → f_X10_box_63 N S s q x2 x (nI f) v = S s q x2 (eS g x v) (nI (f + 1)) := fun v hv => by
      unfold f_X10_box_63 eS
      rw [e93, e90]
      by_cases h1 : x = -1
      · rw [if_pos (hx0.mpr h1), if_pos h1]
      · rw [if_neg (fun z => h1 (hx0.mp z)), if_neg h1]
        cases g with
        | false =>
          rw [if_pos (hg.mpr rfl), cond_false]
          by_cases h2 : x ≤ v
          · rw [if_pos h2, if_pos h2]
          · rw [if_neg h2, if_neg h2]
        | true =>
          rw [if_neg (fun z => by cases hg.mp z), cond_true]
          by_cases h2 : v ≤ x
          · rw [if_pos h2, if_pos h2]
          · rw [if_neg h2, if_neg h2]
    have hes : ∀ v : Int32, vI 32 v → eS g x v = -1 ∨ vI 32 (eS g x v) := fun v hv => by
      unfold eS
      by_cases h1 : x = -1
      · rw [if_pos h1]; exact Or.inr hv
      · rw [if_neg h1]
        cases g with
        | false =>
          rw [cond_false]
          by_cases h2 : x ≤ v
          · rw [if_pos h2]; exact hx
          · rw [if_neg h2]; exact Or.inr hv
        | true =>
          rw [cond_true]
          by_cases h2 : v ≤ x
          · rw [if_pos h2]; exact hx
          · rw [if_neg h2]; exact Or.inr hv
    have hv := eV_v y (show f < 1024 by omega)
    unfold f_X10_box_24 eF
    rw [if_neg g1, isPlace_e hN p1 p3 q (by omega), hp f (by omega), bd_e, ifb, e93, (fdiv (show f < 1024 by omega)).1, (fdiv (show f < 1024 by omega)).2]
    cases p f with
    | false => rw [cond_false, if_neg (by decide)]; exact ih x hx
    | true =>
      rw [cond_true, if_pos rfl]
      cases y with
      | true => rw [if_pos (hy.mpr rfl)]; exact (e63 _ hv).trans (ih _ (hes _ hv))
      | false => rw [if_neg (fun z => by cases hy.mp z)]; exact (e63 _ hv).trans (ih _ (hes _ hv))
