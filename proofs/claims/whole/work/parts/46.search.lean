/-! sweep: the class's look and search -/
def RW (s : Hp) (f m : Nat) (t : Hp) (sl : Nat) : Prop := ∀ c, c < 16 → t (128 + sl) c = zI (LZ s f m sl c)
def TR (s : Hp) (f m n : Nat) (x2 : Int32) (t : Hp) (sl : Nat) : Prop := ∀ c, c < 16 → topB (bt x2) (LZ s f m sl) n c = true → t (132 + sl) (fb_ct (topB (bt x2) (LZ s f m sl) n) c) = nI c
theorem LK_row {s t : Hp} {v35 : Nat → Int32} {f m n d k : Nat} {v : Int32} (h : LK s v35 f m n t) (h1 : 128 ≤ d) (h2 : d < 136) : LK s v35 f m n (hset t d k v) := by
  obtain ⟨a, b, c, e, g⟩ := h
  refine ⟨fun x h3 h4 h5 h6 h7 => by rw [hset_d (by omega)]; exact a x h3 h4 h5 h6 h7, ?_, ?_, fun j hj => ?_, ?_⟩
  · rw [hset_d (by omega)]; exact b
  · rw [hset_d (by omega)]; exact c
  · rw [hset_d (by omega)]; exact e j hj
  · rw [hset_d (by omega)]; exact g
theorem LK_30 {s t : Hp} {v35 : Nat → Int32} {f m n k : Nat} {v : Int32} (h : LK s v35 f m n t) (h1 : k ≠ 5) (h2 : k ≠ 6) : LK s v35 f m n (hset t 30 k v) := by
  obtain ⟨a, b, c, e, g⟩ := h
  refine ⟨fun x h3 h4 h5 h6 h7 => by rw [hset_d h3]; exact a x h3 h4 h5 h6 h7, ?_, ?_, fun j hj => ?_, ?_⟩
  · rw [hs_slot (Ne.symm h1)]; exact b
  · rw [hs_slot (Ne.symm h2)]; exact c
  · rw [hset_d (by decide)]; exact e j hj
  · rw [hset_d (by decide)]; exact g
theorem row13 {N : Nat} (hN : 102 ≤ N) {s : Hp} {v35 : Nat → Int32} (p2 : E2 s) {f m n sl : Nat} (hn : n ≤ 4) (hsl : sl < n) (hfm : f + n * m ≤ 10000) (hm : 0 < m) (x2 : Int32) (k2 : Hp → Int32 → Int32 → Option (Int32 × Hp)) : ∀ k c fu (t : Hp), c + k = 16 → k < fu → LK s v35 f m n t → (∀ a, a < c → t (128 + sl) a = zI (LZ s f m sl a)) → ∃ t', lp (fun _ _ _ _ => none) (f_X3_look_13 N k2) fu t x2 (nI sl) (nI c) = l_X3_look_55 N k2 t' x2 (nI sl) 0 ∧ LK s v35 f m n t' ∧ t' 30 7 = 0 ∧ RW s f m t' sl ∧ ∀ d, 128 ≤ d → d < 136 → d ≠ 128 + sl → t' d = t d
  | k, c, 0, t, _, hm, _, _ => absurd hm (Nat.not_lt_zero k)
  | 0, c, fu + 1, t, hc, _, hL, hr => by
    rw [lp_s]; unfold f_X3_look_13
    rw [if_pos (show (16 : Int32) ≤ nI c from nI_le (a := 16) (by omega) (by omega)), sb_e]
    exact ⟨hset t 30 7 0, rfl, LK_30 hL (by decide) (by decide), hs_same, fun a ha => by rw [hset_d (by omega)]; exact hr a (by omega), fun d h1 h2 h3 => hset_d (by omega)⟩
  | k + 1, c, fu + 1, t, hc, hm', hL, hr => by
    have ih := fun t => row13 hN (v35 := v35) p2 hn hsl hfm hm x2 k2 k (c + 1) fu t (by omega) (by omega)
    rw [lp_s]
    generalize lp (fun _ _ _ _ => none) (f_X3_look_13 N k2) fu = S at ih ⊢
    unfold f_X3_look_13
    rw [if_neg (show ¬ (16 : Int32) ≤ nI c from nI_ge (b := 16) (by omega) (by omega)), inR_nI (show sl < 4 by omega) (by decide), ck_t, ck_t, ix_nI (show sl < 2 ^ 31 by omega), hL.2.2.2.1 sl hsl, laC_e hN p2 hL hsl hfm hm c, bd_e, inR_nI (show c < 16 by omega) (by decide), ck_t, sb_e, vb_e, nI_1, ix_nI (show c < 2 ^ 31 by omega)]
    obtain ⟨t', e, r1, r2, r3, r4⟩ := ih (hset t (128 + sl) c (zI (LZ s f m sl c))) (LK_row hL (by omega) (by omega)) (fun a ha => by
      rw [hset_rd, if_pos rfl]
      by_cases q : a = c
      · rw [if_pos q, q]
      · rw [if_neg q]; exact hr a (by omega))
    exact ⟨t', e, r1, r2, r3, fun d h1 h2 h3 => by rw [r4 d h1 h2 h3, hset_d h3]⟩
theorem oldest_e {N : Nat} (hN : 102 ≤ N) {s t : Hp} {v35 : Nat → Int32} {f m n sl c : Nat} {x2 : Int32} (hn : n ≤ 4) (hsl : sl < n) (hfm : f + n * m ≤ 10000) (hm : 0 < m) (hc : c < 16) (hL : LK s v35 f m n t) (hr : RW s f m t sl) : f_X3_isOneOfOldest N t (nI sl) (nI c) x2 = some (b01 (topB (bt x2) (LZ s f m sl) n c), t) := by
  have hb := bgF_lt hfm hm hsl
  exact old_loop N (x2 := x2) (l := LZ s f m sl) (show sl < 4 by omega) hc hn hL.2.1 (fun a => by have := LZ_b s f m sl a; omega) hr 16 0 N (by omega) (by omega)
theorem try55 {N : Nat} (hN : 102 ≤ N) {s : Hp} {v35 : Nat → Int32} {f m n sl : Nat} (hn : n ≤ 4) (hsl : sl < n) (hfm : f + n * m ≤ 10000) (hm : 0 < m) (x2 : Int32) (k2 : Hp → Int32 → Int32 → Option (Int32 × Hp)) : ∀ k c fu (t : Hp), c + k = 16 → k < fu → LK s v35 f m n t → RW s f m t sl → t 30 7 = nI (fb_ct (topB (bt x2) (LZ s f m sl) n) c) → (∀ a, a < c → topB (bt x2) (LZ s f m sl) n a = true → t (132 + sl) (fb_ct (topB (bt x2) (LZ s f m sl) n) a) = nI a) → ∃ t', lp (fun _ _ _ _ => none) (f_X3_look_55 N k2) fu t x2 (nI sl) (nI c) = k2 t' x2 (nI (sl + 1)) ∧ LK s v35 f m n t' ∧ t' 30 7 = nI (fb_ct (topB (bt x2) (LZ s f m sl) n) 16) ∧ TR s f m n x2 t' sl ∧ ∀ d, 128 ≤ d → d < 136 → d ≠ 132 + sl → t' d = t d
  | k, c, 0, t, _, hm, _, _, _, _ => absurd hm (Nat.not_lt_zero k)
  | 0, c, fu + 1, t, hc, _, hL, hr, h7, ht => by
    have e : c = 16 := by omega
    subst e
    rw [lp_s]; unfold f_X3_look_55
    rw [if_pos (show (16 : Int32) ≤ nI 16 by decide), vb_e, nI_1]
    exact ⟨t, rfl, hL, h7, fun a ha => ht a ha, fun _ _ _ _ => rfl⟩
  | k + 1, c, fu + 1, t, hc, hm', hL, hr, h7, ht => by
    have ih := fun t => try55 hN (s := s) (v35 := v35) hn hsl hfm hm x2 k2 k (c + 1) fu t (by omega) (by omega)
    have hct : fb_ct (topB (bt x2) (LZ s f m sl) n) 16 ≤ n := by rw [top_ct]; omega
    have hmo := fb_ct_mono (topB (bt x2) (LZ s f m sl) n) (show c + 1 ≤ 16 by omega)
    rw [lp_s]
    generalize lp (fun _ _ _ _ => none) (f_X3_look_55 N k2) fu = S at ih ⊢
    rw [fb_ct_succ] at ih hmo
    have e104 : ∀ u : Hp, f_X3_look_104 N k2 S u x2 (nI sl) (nI c) = S u x2 (nI sl) (nI (c + 1)) := fun u => by
      unfold f_X3_look_104
      rw [vb_e, nI_1]
    unfold f_X3_look_55
    rw [if_neg (show ¬ (16 : Int32) ≤ nI c from nI_ge (b := 16) (by omega) (by omega)), oldest_e hN hn hsl hfm hm (show c < 16 by omega) hL hr, bd_e, ifb, e104, h7]
    cases htop : topB (bt x2) (LZ s f m sl) n c with
    | false =>
      rw [cond_false]
      rw [htop] at ih
      exact ih t hL hr h7 (fun a ha hta => by
        by_cases q : a = c
        · rw [q, htop] at hta; cases hta
        · exact ht a (by omega) hta)
    | true =>
      rw [htop, if_pos rfl] at ih hmo
      have hlt : fb_ct (topB (bt x2) (LZ s f m sl) n) c < 4 := by omega
      rw [cond_true, if_neg (show ¬ (4 : Int32) ≤ nI _ from nI_ge (b := 4) hlt (by omega)), inR_nI (show sl < 4 by omega) (by decide), ck_t, inR_nI hlt (by decide), ck_t, sb_e, sb_e, e104, ix_nI (show sl < 2 ^ 31 by omega), ix_nI (show fb_ct (topB (bt x2) (LZ s f m sl) n) c < 2 ^ 31 by omega), hset_d (show (30 : Nat) ≠ 132 + sl by omega), h7, nI_1]
      obtain ⟨t', e, r1, r2, r3, r4⟩ := ih (hset (hset t (132 + sl) (fb_ct (topB (bt x2) (LZ s f m sl) n) c) (nI c)) 30 7 (nI (fb_ct (topB (bt x2) (LZ s f m sl) n) c + 1))) (LK_30 (LK_row hL (by omega) (by omega)) (by decide) (by decide)) (fun a ha => by rw [hset_d (by omega), hset_d (by omega)]; exact hr a ha) hs_same (fun a ha hta => by
        rw [hset_d (by omega), hset_rd, if_pos rfl]
        by_cases q : a = c
        · rw [q, if_pos rfl]
        · rw [if_neg (fun z => q (fb_ct_kth_one hta htop z))]
          exact ht a (by omega) hta)
      exact ⟨t', e, r1, r2, r3, fun d h1 h2 h3 => by rw [r4 d h1 h2 h3, hset_d (by omega), hset_d h3]⟩
theorem look_loop {N : Nat} (hN : 102 ≤ N) {s : Hp} {v35 : Nat → Int32} (p2 : E2 s) {f m n : Nat} (hn : n ≤ 4) (hfm : f + n * m ≤ 10000) (hm : 0 < m) (x2 : Int32) : ∀ k sl fu (t : Hp), sl + k = n → k < fu → LK s v35 f m n t → (∀ a, a < sl → RW s f m t a ∧ TR s f m n x2 t a) → (0 < sl → t 30 7 = nI (min n (fb_ct (bt x2) 16))) → ∃ t', lp (fun _ _ _ => none) (f_X3_look_2 N) fu t x2 (nI sl) = some (0, t') ∧ LK s v35 f m n t' ∧ (∀ a, a < n → RW s f m t' a ∧ TR s f m n x2 t' a) ∧ (0 < n → t' 30 7 = nI (min n (fb_ct (bt x2) 16)))
  | k, sl, 0, t, _, hm, _, _, _ => absurd hm (Nat.not_lt_zero k)
  | 0, sl, fu + 1, t, hs, _, hL, hr, h7 => by
    have e : sl = n := by omega
    subst e
    rw [lp_s]; unfold f_X3_look_2
    rw [hL.2.1, if_pos (nI_le (by omega) (by omega))]
    exact ⟨t, rfl, hL, hr, h7⟩
  | k + 1, sl, fu + 1, t, hs, hm', hL, hr, h7 => by
    have ih := fun t => look_loop hN (v35 := v35) p2 hn hfm hm x2 k (sl + 1) fu t (by omega) (by omega)
    rw [lp_s]
    generalize lp (fun _ _ _ => none) (f_X3_look_2 N) fu = S at ih ⊢
    unfold f_X3_look_2
    rw [hL.2.1, if_neg (nI_ge (by omega) (by omega))]
    obtain ⟨t1, e1, a1, a2, a3, a4⟩ := row13 hN p2 hn (show sl < n by omega) hfm hm x2 S 16 0 N t (by omega) (by omega) hL (fun a ha => absurd ha (Nat.not_lt_zero a))
    have e1' : l_X3_look_13 N S t x2 (nI sl) 0 = _ := e1
    obtain ⟨t2, e2, b1, b2, b3, b4⟩ := try55 hN hn (show sl < n by omega) hfm hm x2 S 16 0 N t1 (by omega) (by omega) a1 a3 a2 (fun a ha => absurd ha (Nat.not_lt_zero a))
    have e2' : l_X3_look_55 N S t1 x2 (nI sl) 0 = _ := e2
    rw [e1', e2']
    refine ih t2 b1 (fun a ha => ?_) (fun _ => by rw [b2, top_ct])
    by_cases q : a = sl
    · rw [q]
      exact ⟨fun c hc => by rw [b4 (128 + sl) (by omega) (by omega) (by omega)]; exact a3 c hc, b3⟩
    · obtain ⟨c1, c2⟩ := hr a (by omega)
      refine ⟨fun c hc => ?_, fun c hc hct => ?_⟩
      · rw [b4 (128 + a) (by omega) (by omega) (by omega), a4 (128 + a) (by omega) (by omega) (by omega)]; exact c1 c hc
      · rw [b4 (132 + a) (by omega) (by omega) (by omega), a4 (132 + a) (by omega) (by omega) (by omega)]; exact c2 c hc hct
/-! the search -/
theorem cho9 (N : Nat) {kk : Nat} (hk0 : 0 < kk) (hk : kk ≤ 4) {T : Nat → Nat → Nat} : ∀ r fu (t : Hp) rest, r ≤ 4 → r < fu → rest < 2 ^ 31 → t 30 7 = nI kk → (∀ a, a < r → ∀ d, d < kk → t (132 + a) d = nI (T a d)) → ∃ t', lp (fun _ _ _ => none) (f_X3_choose_9 N) fu t (nI rest) (nI r - 1) = some (0, t') ∧ (∀ d, d ≠ 34 → t' d = t d) ∧ ∀ a, t' 34 a = if a < r then nI (T a (rest / kk ^ (r - 1 - a) % kk)) else t 34 a
  | r, 0, t, rest, _, hm, _, _, _ => absurd hm (Nat.not_lt_zero r)
  | 0, fu + 1, t, rest, _, _, _, _, _ => by
    rw [lp_s]; unfold f_X3_choose_9
    rw [if_pos (show nI 0 - 1 < 0 by decide)]
    exact ⟨t, rfl, fun _ _ => rfl, fun a => by rw [if_neg (by omega)]⟩
  | r + 1, fu + 1, t, rest, hr, hm, hrest, h7, hT => by
    have ih := fun t rest => cho9 N hk0 hk (T := T) r fu t rest (by omega) (by omega)
    have hkz : ne0 (nI kk) = true := by
      unfold ne0
      exact decide_eq_true (fun z => by have := (nI_eq (show kk < 2 ^ 31 by omega) (show 0 < 2 ^ 31 by decide)).mp (show nI kk = nI 0 from z); omega)
    have g4 : irm (nI rest) (nI kk) = nI (rest % kk) := pk_rem hrest hk0 (by omega)
    have g5 : nI rest / nI kk = nI (rest / kk) := pk_div hrest hk0 (by omega)
    have hmod : rest % kk < kk := Nat.mod_lt _ hk0
    have hdiv : rest / kk < 2 ^ 31 := Nat.lt_of_le_of_lt (Nat.div_le_self _ _) hrest
    rw [lp_s]
    generalize lp (fun _ _ _ => none) (f_X3_choose_9 N) fu = S at ih ⊢
    unfold f_X3_choose_9
    rw [nI_pred, if_neg (show ¬ nI r < 0 by rw [i_lt, i_0, nI_toInt (by omega)]; omega), h7, if_neg (show ¬ nI kk ≤ 0 from nI_ge (a := 0) hk0 (by omega)), inR_nI (show r < 4 by omega) (by decide), ck_t, hkz, ck_t, g4, inR_nI (show rest % kk < 4 by omega) (by decide), ck_t, ck_t, sb_e, hset_d (show (30 : Nat) ≠ 34 by decide), h7, hkz, ck_t, vb_e, vb_e, g5, ix_nI (show r < 2 ^ 31 by omega), ix_nI (show rest % kk < 2 ^ 31 by omega), hT r (by omega) _ hmod]
    have e1 : nI r + -1 = nI r - 1 := by
      rw [i_eq, Int32.toInt_add, Int32.toInt_sub]
      rfl
    rw [e1]
    obtain ⟨t', e, r1, r2⟩ := ih (hset t 34 r (nI (T r (rest % kk)))) (rest / kk) hdiv ((congrFun (hset_d (show (30 : Nat) ≠ 34 by decide)) 7).trans h7) (fun a ha d hd => by rw [hset_d (by omega)]; exact hT a (by omega) d hd)
    refine ⟨t', e, fun d hd => by rw [r1 d hd, hset_d hd], fun a => ?_⟩
    rw [r2 a]
    by_cases c1 : a < r
    · rw [if_pos c1, if_pos (by omega), Nat.div_div_eq_div_mul, show r + 1 - 1 - a = (r - 1 - a) + 1 by omega, Nat.pow_succ, Nat.mul_comm]
    · rw [if_neg c1, hset_rd, if_pos rfl]
      by_cases c2 : a = r
      · rw [if_pos c2, if_pos (by omega), c2, show r + 1 - 1 - r = 0 by omega, Nat.pow_zero, Nat.div_one]
      · rw [if_neg c2, if_neg (by omega)]
theorem hdZ_b {s : Hp} {f m n : Nat} {c : Nat → Nat} {sl : Nat} (hfm : f + n * m ≤ 10000) (hm : 0 < m) (hsl : sl < n) : ∀ e, e ≤ sl → -1 ≤ hdZ (LZ s f m) (bgF f m) m c sl e ∧ hdZ (LZ s f m) (bgF f m) m c sl e ≤ (bgF f m sl : Int) - 1
  | 0, _ => LZ_b s f m sl (c sl)
  | e + 1, h => by
    have ih := hdZ_b (s := s) (c := c) hfm hm hsl e (by omega)
    have h1 := bgF_s f m e
    have h2 := bgF_mono f m (show e + 1 ≤ sl from h)
    unfold hdZ
    by_cases q : c e = c sl
    · rw [if_pos q]; omega
    · rw [if_neg q]; exact ih
theorem WZ_b {s : Hp} {f m n : Nat} {c : Nat → Nat} (hfm : f + n * m ≤ 10000) (hm : 0 < m) : ∀ t, t ≤ n → (t : Int) ≤ WZ (LZ s f m) (bgF f m) m c t ∧ WZ (LZ s f m) (bgF f m) m c t ≤ 10001 * t
  | 0, _ => ⟨Int.le_refl _, Int.le_refl _⟩
  | t + 1, h => by
    have ih := WZ_b (s := s) (c := c) hfm hm t (by omega)
    have hb := hdZ_b (s := s) (c := c) hfm hm (show t < n by omega) t (Nat.le_refl t)
    have hg := bgF_lt hfm hm (show t < n by omega)
    unfold WZ
    omega
theorem wor29 (N : Nat) {s t : Hp} {v35 : Nat → Int32} {f m n sl : Nat} {c : Nat → Nat} (hn : n ≤ 4) (hsl : sl < n) (hfm : f + n * m ≤ 10000) (hm : 0 < m) (hL : LK s v35 f m n t) (hc : ∀ a, a < n → t 34 a = nI (c a) ∧ c a < 16) (k4 : Hp → Int32 → Int32 → Option (Int32 × Hp)) {w : Int} (hw : 0 ≤ w ∧ w ≤ 50000) : ∀ k e fu, e + k = sl → k < fu → lp (fun _ _ _ _ _ => none) (f_X3_worthOfChosen_29 N k4) fu t (zI w) (nI sl) (zI (hdZ (LZ s f m) (bgF f m) m c sl e)) (nI e) = k4 t (zI (w + ((bgF f m sl : Int) - hdZ (LZ s f m) (bgF f m) m c sl sl))) (nI (sl + 1))
  | k, e, 0, _, hm => absurd hm (Nat.not_lt_zero k)
  | 0, e, fu + 1, he, _ => by
    have ee : e = sl := by omega
    subst ee
    have hg := bgF_lt hfm hm hsl
    have hb := hdZ_b (s := s) (c := c) hfm hm hsl e (Nat.le_refl e)
    rw [lp_s]; unfold f_X3_worthOfChosen_29
    rw [if_pos (i_le.mpr (Int.le_refl _)), inR_nI (show e < 4 by omega) (by decide), ck_t, vb_e, vb_e, nI_1, ix_nI (show e < 2 ^ 31 by omega), hL.2.2.2.1 e hsl, zI_nI (show bgF f m e < 2 ^ 31 by omega), zI_sub (by omega) (by omega), zI_add (by omega) (by omega)]
  | k + 1, e, fu + 1, he, hfu => by
    have ih := wor29 N hn hsl hfm hm hL hc k4 hw k (e + 1) fu (by omega) (by omega)
    have hg := bgF_lt hfm hm (show e < n by omega)
    have hb := hdZ_b (s := s) (c := c) hfm hm hsl e (by omega)
    have hg2 := bgF_lt hfm hm hsl
    rw [lp_s]
    generalize lp (fun _ _ _ _ _ => none) (f_X3_worthOfChosen_29 N k4) fu = S at ih ⊢
    unfold f_X3_worthOfChosen_29 f_X3_worthOfChosen_70
    rw [if_neg (nI_ge (by omega) (by omega)), inR_nI (show e < 4 by omega) (by decide), ck_t, inR_nI (show sl < 4 by omega) (by decide), ck_t, ck_t, ix_nI (show e < 2 ^ 31 by omega), ix_nI (show sl < 2 ^ 31 by omega), (hc e (by omega)).1, (hc sl hsl).1, vb_e, vb_e, vb_e, nI_1, hL.2.2.2.1 e (by omega), hL.2.2.1, nI_add, zI_nI (show bgF f m e + m < 2 ^ 31 by omega), show (1 : Int32) = zI 1 from rfl, zI_sub (by omega) (by omega), zI_max (by omega) (by omega)]
    rw [show hdZ (LZ s f m) (bgF f m) m c sl (e + 1) = if c e = c sl then max (hdZ (LZ s f m) (bgF f m) m c sl e) (((bgF f m e + m : Nat) : Int) - 1) else hdZ (LZ s f m) (bgF f m) m c sl e from rfl] at ih
    have h1 := (hc e (by omega)).2
    have h2 := (hc sl hsl).2
    by_cases q : c e = c sl
    · rw [if_pos q] at ih
      rw [if_pos (by rw [q])]
      exact ih
    · rw [if_neg q] at ih
      rw [if_neg (fun z => q ((nI_eq (by omega) (by omega)).mp z))]
      exact ih
theorem wor4 {N : Nat} (hN : 102 ≤ N) {s t : Hp} {v35 : Nat → Int32} {f m n : Nat} {c : Nat → Nat} (hn : n ≤ 4) (hfm : f + n * m ≤ 10000) (hm : 0 < m) (hL : LK s v35 f m n t) (hr : ∀ a, a < n → RW s f m t a) (hc : ∀ a, a < n → t 34 a = nI (c a) ∧ c a < 16) : ∀ k sl fu, sl + k = n → k < fu → lp (fun _ _ _ => none) (f_X3_worthOfChosen_4 N) fu t (zI (WZ (LZ s f m) (bgF f m) m c sl)) (nI sl) = some (zI (WZ (LZ s f m) (bgF f m) m c n), t)
  | k, sl, 0, _, hm => absurd hm (Nat.not_lt_zero k)
  | 0, sl, fu + 1, hs, _ => by
    have e : sl = n := by omega
    subst e
    rw [lp_s]; unfold f_X3_worthOfChosen_4
    rw [hL.2.1, if_pos (nI_le (by omega) (by omega))]
  | k + 1, sl, fu + 1, hs, hfu => by
    have ih := wor4 hN hn hfm hm hL hr hc k (sl + 1) fu (by omega) (by omega)
    have hb := WZ_b (s := s) (c := c) hfm hm sl (by omega)
    obtain ⟨h1, h2⟩ := hc sl (by omega)
    rw [lp_s]
    generalize lp (fun _ _ _ => none) (f_X3_worthOfChosen_4 N) fu = S at ih ⊢
    unfold f_X3_worthOfChosen_4
    rw [hL.2.1, if_neg (nI_ge (by omega) (by omega)), inR_nI (show sl < 4 by omega) (by decide), ck_t, ck_t, ix_nI (show sl < 2 ^ 31 by omega), h1, inR_nI h2 (by decide), ck_t, vb_e, ix_nI (show c sl < 2 ^ 31 by omega), hr sl (by omega) (c sl) h2]
    have e29 := wor29 N hn (show sl < n by omega) hfm hm hL hc S (w := WZ (LZ s f m) (bgF f m) m c sl) (by omega) sl 0 N (by omega) (by omega)
    exact e29.trans ih
theorem keep2 (N : Nat) {n : Nat} (hn : n ≤ 4) : ∀ k i fu (t : Hp), i + k = n → k < fu → t 30 5 = nI n → ∃ t', lp (fun _ _ => none) (f_X3_keepChosen_2 N) fu t (nI i) = some (0, t') ∧ (∀ d, d ≠ 35 → t' d = t d) ∧ ∀ j, t' 35 j = if i ≤ j ∧ j < n then t 34 j else t 35 j
  | k, i, 0, t, _, hm, _ => absurd hm (Nat.not_lt_zero k)
  | 0, i, fu + 1, t, hi, _, h => by
    rw [lp_s]; unfold f_X3_keepChosen_2
    rw [h, if_pos (nI_le (by omega) (by omega))]
    exact ⟨t, rfl, fun _ _ => rfl, fun j => by rw [if_neg (by omega)]⟩
  | k + 1, i, fu + 1, t, hi, hm, h => by
    have ih := fun t => keep2 N hn k (i + 1) fu t (by omega) (by omega)
    rw [lp_s]
    generalize lp (fun _ _ => none) (f_X3_keepChosen_2 N) fu = S at ih ⊢
    unfold f_X3_keepChosen_2
    rw [h, if_neg (nI_ge (by omega) (by omega)), inR_nI (show i < 4 by omega) (by decide), ck_t, ck_t, sb_e, vb_e, nI_1, ix_nI (by omega)]
    obtain ⟨t', e, r1, r2⟩ := ih (hset t 35 i (t 34 i)) ((congrFun (hset_d (show (30 : Nat) ≠ 35 by decide)) 5).trans h)
    refine ⟨t', e, fun c hc => by rw [r1 c hc, hset_d hc], fun j => ?_⟩
    rw [r2 j, hset_d (show (34 : Nat) ≠ 35 by decide)]
    by_cases c1 : i + 1 ≤ j ∧ j < n
    · rw [if_pos c1, if_pos (show i ≤ j ∧ j < n by omega)]
    · rw [if_neg c1, hset_rd, if_pos rfl]
      by_cases c2 : j = i
      · rw [if_pos c2, if_pos (show i ≤ j ∧ j < n by omega), c2]
      · rw [if_neg c2, if_neg (show ¬ (i ≤ j ∧ j < n) by omega)]
