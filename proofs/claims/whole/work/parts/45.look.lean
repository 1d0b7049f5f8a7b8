/-! sweep: the class's lay and look -/
def zI (z : Int) : Int32 := Int32.ofInt z
theorem zI_t {z : Int} (h1 : -2147483648 ≤ z) (h2 : z < 2147483648) : (zI z).toInt = z := fb_ofI h1 h2
theorem zI_e {x : Int32} {z : Int} (h : x.toInt = z) : x = zI z := by
  rw [← h]; exact (fb_asI x).symm
theorem zI_lt {a b : Int} (ha : -100000 ≤ a ∧ a ≤ 100000) (hb : -100000 ≤ b ∧ b ≤ 100000) : zI a < zI b ↔ a < b := by
  rw [i_lt, zI_t (by omega) (by omega), zI_t (by omega) (by omega)]
theorem zI_le {a b : Int} (ha : -100000 ≤ a ∧ a ≤ 100000) (hb : -100000 ≤ b ∧ b ≤ 100000) : zI a ≤ zI b ↔ a ≤ b := by
  rw [i_le, zI_t (by omega) (by omega), zI_t (by omega) (by omega)]
theorem zI_eq {a b : Int} (ha : -100000 ≤ a ∧ a ≤ 100000) (hb : -100000 ≤ b ∧ b ≤ 100000) : zI a = zI b ↔ a = b := by
  rw [i_eq, zI_t (by omega) (by omega), zI_t (by omega) (by omega)]
theorem zI_nI {k : Nat} (h : k < 2 ^ 31) : nI k = zI (k : Int) := zI_e (nI_toInt h)
theorem zI_add {a b : Int} (ha : -100000 ≤ a ∧ a ≤ 100000) (hb : -100000 ≤ b ∧ b ≤ 100000) : zI a + zI b = zI (a + b) := by
  refine zI_e ?_
  have h1 := zI_t (z := a) (by omega) (by omega)
  have h2 := zI_t (z := b) (by omega) (by omega)
  rw [fb_addI (by omega) (by omega), h1, h2]
theorem zI_sub {a b : Int} (ha : -100000 ≤ a ∧ a ≤ 100000) (hb : -100000 ≤ b ∧ b ≤ 100000) : zI a - zI b = zI (a - b) := by
  refine zI_e ?_
  have h1 := zI_t (z := a) (by omega) (by omega)
  have h2 := zI_t (z := b) (by omega) (by omega)
  rw [fb_subI (by omega) (by omega), h1, h2]
theorem zI_max {a b : Int} (ha : -100000 ≤ a ∧ a ≤ 100000) (hb : -100000 ≤ b ∧ b ≤ 100000) : imax (zI a) (zI b) = zI (max a b) := by
  refine zI_e ?_
  rw [imax_i, zI_t (by omega) (by omega), zI_t (by omega) (by omega)]
theorem zI_min {a b : Int} (ha : -100000 ≤ a ∧ a ≤ 100000) (hb : -100000 ≤ b ∧ b ≤ 100000) : imin (zI a) (zI b) = zI (min a b) := by
  refine zI_e ?_
  rw [imin_i, zI_t (by omega) (by omega), zI_t (by omega) (by omega)]
def laZ (C F T : Nat → Int32) (c : Int32) (x : Int) : Nat → Nat → Int → Int
  | 0, _, y => y
  | k + 1, i, y => laZ C F T c x k (i + 1) (if C i = c then (if x ≤ (F i).toInt then y else max y (min (T i).toInt (x - 1))) else y)
theorem laZ_b {C F T : Nat → Int32} {c : Int32} {x : Int} : ∀ k i y, -1 ≤ y → y ≤ x - 1 → -1 ≤ laZ C F T c x k i y ∧ laZ C F T c x k i y ≤ x - 1
  | 0, _, y, h1, h2 => ⟨h1, h2⟩
  | k + 1, i, y, h1, h2 => by
    unfold laZ
    refine laZ_b k (i + 1) _ ?_ ?_
    · by_cases q : C i = c
      · rw [if_pos q]
        by_cases z : x ≤ (F i).toInt
        · rw [if_pos z]; exact h1
        · rw [if_neg z]; omega
      · rw [if_neg q]; exact h1
    · by_cases q : C i = c
      · rw [if_pos q]
        by_cases z : x ≤ (F i).toInt
        · rw [if_pos z]; exact h2
        · rw [if_neg z]; omega
      · rw [if_neg q]; exact h2
theorem laC_loop (N : Nat) {s : Hp} {n : Nat} (h : s 4 4 = nI n) (hn : n ≤ 100) (hv : spV (s 7) (s 8) n) (c : Int32) {x : Nat} (hx : x < 10000) : ∀ k i m y, i + k = n → k < m → -1 ≤ y → y ≤ 10000 → lp (fun _ _ _ _ _ => none) (f_X7_latestAhead_5 N) m s c (nI x) (zI y) (nI i) = some (zI (laZ (s 6) (s 7) (s 8) c x k i y), s)
  | k, i, 0, y, _, hm, _, _ => absurd hm (Nat.not_lt_zero k)
  | 0, i, m + 1, y, hi, _, _, _ => by
    rw [lp_s]; unfold f_X7_latestAhead_5
    rw [h, if_pos (nI_le (by omega) (by omega))]; rfl
  | k + 1, i, m + 1, y, hi, hm, h1, h2 => by
    have ih := fun y => laC_loop N h hn hv c hx k (i + 1) m y (by omega) (by omega)
    have g1 : ¬ nI n ≤ nI i := nI_ge (by omega) (by omega)
    have g2 : inR (nI i) 100 = true := inR_nI (by omega) (by decide)
    obtain ⟨v1, v2, v3, v4, v5⟩ := spV_n hv (show i < n by omega)
    rw [lp_s]
    generalize lp (fun _ _ _ _ _ => none) (f_X7_latestAhead_5 N) m = S at ih ⊢
    unfold f_X7_latestAhead_5 f_X7_latestAhead_54 laZ
    rw [h, if_neg g1, g2, ck_t, ck_t, ck_t, vb_e, vb_e, vb_e, nI_1, ix_nI (by omega)]
    by_cases q : s 6 i = c
    · rw [if_pos q, if_pos q]
      have ef : (s 7 i).toInt = (ix (s 7 i) : Int) := by rw [v1, nI_toInt (by omega), ix_nI (by omega)]
      have et : (s 8 i).toInt = (ix (s 8 i) : Int) := by rw [v2, nI_toInt (by omega), ix_nI (by omega)]
      by_cases z : (x : Int) ≤ (s 7 i).toInt
      · rw [if_pos z, if_pos (by rw [i_le, nI_toInt (by omega)]; exact z)]
        exact ih y h1 h2
      · rw [if_neg z, if_neg (by rw [i_le, nI_toInt (by omega)]; exact z)]
        have e1 : nI x - 1 = zI ((x : Int) - 1) := by
          rw [zI_nI (show x < 2 ^ 31 by omega), show (1 : Int32) = zI 1 from rfl, zI_sub (by omega) (by omega)]
        have e2 : s 8 i = zI ((s 8 i).toInt) := zI_e rfl
        rw [e1, show imin (s 8 i) (zI ((x : Int) - 1)) = imin (zI ((s 8 i).toInt)) (zI ((x : Int) - 1)) by rw [← e2], zI_min (by omega) (by omega), zI_max (by omega) (by omega)]
        exact ih _ (by omega) (by omega)
    · rw [if_neg q, if_neg q]
      exact ih y h1 h2
theorem laM_loop (N : Nat) {s : Hp} {n : Nat} (h : s 36 3 = nI n) (hn : n ≤ 100) (hv : spV (s 41) (s 42) n) (c : Int32) {x : Nat} (hx : x < 10000) : ∀ k i m y, i + k = n → k < m → -1 ≤ y → y ≤ 10000 → lp (fun _ _ _ _ _ => none) (f_X10_latestAhead_5 N) m s c (nI x) (zI y) (nI i) = some (zI (laZ (s 40) (s 41) (s 42) c x k i y), s)
  | k, i, 0, y, _, hm, _, _ => absurd hm (Nat.not_lt_zero k)
  | 0, i, m + 1, y, hi, _, _, _ => by
    rw [lp_s]; unfold f_X10_latestAhead_5
    rw [h, if_pos (nI_le (by omega) (by omega))]; rfl
  | k + 1, i, m + 1, y, hi, hm, h1, h2 => by
    have ih := fun y => laM_loop N h hn hv c hx k (i + 1) m y (by omega) (by omega)
    have g1 : ¬ nI n ≤ nI i := nI_ge (by omega) (by omega)
    have g2 : inR (nI i) 100 = true := inR_nI (by omega) (by decide)
    obtain ⟨v1, v2, v3, v4, v5⟩ := spV_n hv (show i < n by omega)
    rw [lp_s]
    generalize lp (fun _ _ _ _ _ => none) (f_X10_latestAhead_5 N) m = S at ih ⊢
    have ef : (s 41 i).toInt = (ix (s 41 i) : Int) := by rw [v1, nI_toInt (by omega), ix_nI (by omega)]
    have et : (s 42 i).toInt = (ix (s 42 i) : Int) := by rw [v2, nI_toInt (by omega), ix_nI (by omega)]
    have e74 : ∀ z : Int32, f_X10_latestAhead_74 N S s c (nI x) z (nI i) = S s c (nI x) z (nI (i + 1)) := fun z => by
      unfold f_X10_latestAhead_74
      rw [vb_e, nI_1]
    have e63 : ∀ z : Int, -1 ≤ z → z ≤ 10000 → f_X10_latestAhead_63 N S s c (nI x) (zI y) (nI i) (zI z) = S s c (nI x) (zI (max y z)) (nI (i + 1)) := fun z z1 z2 => by
      unfold f_X10_latestAhead_63
      rw [e74, e74]
      by_cases q : z ≤ y
      · rw [if_pos ((zI_le (by omega) (by omega)).mpr q), show max y z = y by omega]
      · rw [if_neg (fun w => q ((zI_le (by omega) (by omega)).mp w)), show max y z = z by omega]
    unfold f_X10_latestAhead_5 laZ
    rw [h, if_neg g1, g2, ck_t, ck_t, ck_t, ck_t, ix_nI (by omega), e74]
    by_cases q : s 40 i = c
    · rw [if_pos q, if_pos q]
      by_cases z : (x : Int) ≤ (s 41 i).toInt
      · rw [if_pos z, if_neg (by rw [i_lt, nI_toInt (by omega)]; omega)]
        exact ih y h1 h2
      · rw [if_neg z, if_pos (by rw [i_lt, nI_toInt (by omega)]; omega)]
        have e1 : nI x - 1 = zI ((x : Int) - 1) := by
          rw [zI_nI (show x < 2 ^ 31 by omega), show (1 : Int32) = zI 1 from rfl, zI_sub (by omega) (by omega)]
        have e2 : s 42 i = zI ((s 42 i).toInt) := zI_e rfl
        by_cases w : nI x ≤ s 42 i
        · rw [if_pos w, e1, e63 _ (by omega) (by omega)]
          rw [i_le, nI_toInt (by omega)] at w
          rw [show max y ((x : Int) - 1) = max y (min (s 42 i).toInt ((x : Int) - 1)) by omega]
          exact ih _ (by omega) (by omega)
        · rw [if_neg w]
          rw [i_le, nI_toInt (by omega)] at w
          rw [show f_X10_latestAhead_63 N S s c (nI x) (zI y) (nI i) (s 42 i) = f_X10_latestAhead_63 N S s c (nI x) (zI y) (nI i) (zI ((s 42 i).toInt)) by rw [← e2], e63 _ (by omega) (by omega)]
          rw [show max y ((s 42 i).toInt) = max y (min (s 42 i).toInt ((x : Int) - 1)) by omega]
          exact ih _ (by omega) (by omega)
    · rw [if_neg q, if_neg q]
      exact ih y h1 h2
/-- the slots' begins, and the latest minutes ahead of them -/
def bgF (f m s : Nat) : Nat := f + s * m
def LZ (s : Hp) (f m : Nat) (sl c : Nat) : Int := laZ (s 40) (s 41) (s 42) (nI c) (bgF f m sl) (nL s) 0 (-1)
theorem bgF_lt {f m n s : Nat} (h : f + n * m ≤ 10000) (hm : 0 < m) (hs : s < n) : bgF f m s + m ≤ 10000 := by
  unfold bgF
  have : (s + 1) * m ≤ n * m := Nat.mul_le_mul_right m hs
  rw [Nat.add_mul, Nat.one_mul] at this
  omega
theorem bgF_s (f m s : Nat) : bgF f m s + m = bgF f m (s + 1) := by
  unfold bgF
  rw [Nat.add_mul, Nat.one_mul]
  omega
theorem bgF_mono (f m : Nat) {a b : Nat} (h : a ≤ b) : bgF f m a ≤ bgF f m b := by
  unfold bgF
  have := Nat.mul_le_mul_right m h
  omega
theorem LZ_b (s : Hp) (f m sl c : Nat) : -1 ≤ LZ s f m sl c ∧ LZ s f m sl c ≤ (bgF f m sl : Int) - 1 := by
  unfold LZ
  exact laZ_b _ _ _ (by omega) (by omega)
/-- cells that the class's sweep writes -/
def frP (s t : Hp) : Prop := ∀ d, d ≠ 30 → d ≠ 31 → d ≠ 34 → d ≠ 35 → ¬ (128 ≤ d ∧ d < 136) → t d = s d
theorem frP.tr {s t u : Hp} (h : frP s t) (g : frP t u) : frP s u := fun d h1 h2 h3 h4 h5 => (g d h1 h2 h3 h4 h5).trans (h d h1 h2 h3 h4 h5)
theorem lay_loop (N : Nat) {f m n : Nat} (hn : n ≤ 4) : ∀ k i fu (s : Hp), i + k = n → k < fu → s 30 5 = nI n → ∃ t, lp (fun _ _ _ _ => none) (f_X3_lay_17 N) fu s (nI f) (nI m) (nI i) = some (0, t) ∧ (∀ c, c ≠ 31 → t c = s c) ∧ ∀ j, t 31 j = if i ≤ j ∧ j < n then nI (bgF f m j) else s 31 j
  | k, i, 0, s, _, hm, _ => absurd hm (Nat.not_lt_zero k)
  | 0, i, fu + 1, s, hi, _, h => by
    rw [lp_s]; unfold f_X3_lay_17
    rw [h, if_pos (nI_le (by omega) (by omega))]
    exact ⟨s, rfl, fun _ _ => rfl, fun j => by rw [if_neg (by omega)]⟩
  | k + 1, i, fu + 1, s, hi, hm, h => by
    have ih := fun s => lay_loop N (f := f) (m := m) hn k (i + 1) fu s (by omega) (by omega)
    rw [lp_s]
    generalize lp (fun _ _ _ _ => none) (f_X3_lay_17 N) fu = S at ih ⊢
    unfold f_X3_lay_17
    rw [h, if_neg (nI_ge (by omega) (by omega)), inR_nI (show i < 4 by omega) (by decide), ck_t, sb_e, vb_e, nI_1, ix_nI (by omega), pk_mul, nI_add]
    obtain ⟨t, e, r1, r2⟩ := ih (hset s 31 i (nI (f + i * m))) ((congrFun (hset_d (show (30 : Nat) ≠ 31 by decide)) 5).trans h)
    refine ⟨t, e, fun c hc => by rw [r1 c hc, hset_d hc], fun j => ?_⟩
    rw [r2 j]
    by_cases c1 : i + 1 ≤ j ∧ j < n
    · rw [if_pos c1, if_pos (show i ≤ j ∧ j < n by omega)]
    · rw [if_neg c1, hset_rd, if_pos rfl]
      by_cases c2 : j = i
      · rw [if_pos c2, if_pos (show i ≤ j ∧ j < n by omega), c2]; rfl
      · rw [if_neg c2, if_neg (show ¬ (i ≤ j ∧ j < n) by omega)]
/-- what stands while the class looks -/
def LK (s : Hp) (v35 : Nat → Int32) (f m n : Nat) (t : Hp) : Prop := frP s t ∧ t 30 5 = nI n ∧ t 30 6 = nI m ∧ (∀ j, j < n → t 31 j = nI (bgF f m j)) ∧ t 35 = v35
theorem lay_e {N : Nat} (hN : 102 ≤ N) (s : Hp) {f m n : Nat} (hn : n ≤ 4) : ∃ t, f_X3_lay N s (nI f) (nI n) (nI m) = some (0, t) ∧ LK s (s 35) f m n t := by
  unfold f_X3_lay
  rw [sb_e, sb_e, show (4 : Int32) = nI 4 from rfl, nI_imin (by omega) (by omega), show min n 4 = n by omega]
  obtain ⟨t, e, r1, r2⟩ := lay_loop N (f := f) (m := m) hn n 0 N (hset (hset s 30 5 (nI n)) 30 6 (nI m)) (by omega) (by omega) rfl
  refine ⟨t, e, fun d h1 h2 h3 h4 h5 => by rw [r1 d h2, hset_d h1, hset_d h1], ?_, ?_, fun j hj => ?_, ?_⟩
  · rw [r1 30 (by decide), hs_slot (by decide), hs_same]
  · rw [r1 30 (by decide), hs_same]
  · rw [r2 j, if_pos ⟨Nat.zero_le _, hj⟩]
  · rw [r1 35 (by decide)]; rfl
theorem laC_e {N : Nat} (hN : 102 ≤ N) {s t : Hp} {v35 : Nat → Int32} (p2 : E2 s) {f m n sl : Nat} (hL : LK s v35 f m n t) (hsl : sl < n) (hfm : f + n * m ≤ 10000) (hm : 0 < m) (c : Nat) : f_X7_latestAhead N t (nI c) (nI (bgF f m sl)) = some (zI (LZ s f m sl c), t) := by
  obtain ⟨e1, e2, e3, e4, e5, e6, e7, e8⟩ := id p2
  have hb := bgF_lt hfm hm hsl
  have t4 : t 4 = s 4 := hL.1 4 (by decide) (by decide) (by decide) (by decide) (by decide)
  have t6 : t 6 = s 40 := (hL.1 6 (by decide) (by decide) (by decide) (by decide) (by decide)).trans e3
  have t7 : t 7 = s 41 := (hL.1 7 (by decide) (by decide) (by decide) (by decide) (by decide)).trans e4
  have t8 : t 8 = s 42 := (hL.1 8 (by decide) (by decide) (by decide) (by decide) (by decide)).trans e5
  have := laC_loop N (s := t) (n := nL s) (by rw [t4]; exact e1.trans e6) e7 (by rw [t7, t8]; exact E2_sp p2) (nI c) (x := bgF f m sl) (by omega) (nL s) 0 N (-1) (by omega) (by omega) (by omega) (by omega)
  rw [t6, t7, t8] at this
  exact this
theorem old_loop (N : Nat) {t : Hp} {x2 : Int32} {l : Nat → Int} {n sl c : Nat} (hsl : sl < 4) (hc : c < 16) (hn : n ≤ 4) (h5 : t 30 5 = nI n) (hl : ∀ a, -1 ≤ l a ∧ l a ≤ 10000) (hrow : ∀ a, a < 16 → t (128 + sl) a = zI (l a)) : ∀ k i fu, i + k = 16 → k < fu → lp (fun _ _ _ _ _ _ => none) (f_X3_isOneOfOldest_6 N) fu t (nI sl) (nI c) x2 (nI (fb_ct (fun a => bt x2 a && oldB l a c) i)) (nI i) = some (b01 (topB (bt x2) l n c), t)
  | k, i, 0, _, hm => absurd hm (Nat.not_lt_zero k)
  | 0, i, fu + 1, hi, _ => by
    have e : i = 16 := by omega
    subst e
    have hle := fb_ct_le (fun a => bt x2 a && oldB l a c) 16
    rw [lp_s]; unfold f_X3_isOneOfOldest_6 topB
    rw [if_pos (show (16 : Int32) ≤ nI 16 by decide), shr1 x2 (by omega), ifb, h5]
    cases bt x2 c with
    | false => rfl
    | true =>
      rw [cond_true, Bool.true_and]
      unfold rkC
      by_cases q : fb_ct (fun a => bt x2 a && oldB l a c) 16 < n
      · rw [if_neg (nI_ge q (by omega)), decide_eq_true q]; rfl
      · rw [if_pos (nI_le (by omega) (by omega)), decide_eq_false q]; rfl
  | k + 1, i, fu + 1, hi, hm => by
    have ih := old_loop N (x2 := x2) hsl hc hn h5 hl hrow k (i + 1) fu (by omega) (by omega)
    rw [fb_ct_succ] at ih
    rw [lp_s]
    generalize lp (fun _ _ _ _ _ _ => none) (f_X3_isOneOfOldest_6 N) fu = S at ih ⊢
    have e83 : ∀ x4 : Int32, f_X3_isOneOfOldest_83 N S t (nI sl) (nI c) x2 x4 (nI i) = S t (nI sl) (nI c) x2 x4 (nI (i + 1)) := fun x4 => by
      unfold f_X3_isOneOfOldest_83
      rw [vb_e, nI_1]
    have e64 : ∀ o : Bool, o = oldB l i c → f_X3_isOneOfOldest_64 N S t (nI sl) (nI c) x2 (nI (fb_ct (fun a => bt x2 a && oldB l a c) i)) (nI i) (b01 o) = some (b01 (topB (bt x2) l n c), t) := fun o ho => by
      unfold f_X3_isOneOfOldest_64
      rw [e83, vb_e, e83, nI_1, shr1 x2 (by omega), ifb, ifb, ho]
      rw [ho.symm] at ih ⊢
      cases o with
      | false =>
        rw [cond_false]
        rw [Bool.and_false] at ih
        exact ih
      | true =>
        rw [cond_true]
        rw [Bool.and_true] at ih
        cases hb : bt x2 i with
        | false =>
          rw [cond_false]
          rw [hb] at ih
          exact ih
        | true =>
          rw [cond_true]
          rw [hb] at ih
          exact ih
    have z0 := e64 false
    have z1 := e64 true
    unfold f_X3_isOneOfOldest_6 f_X3_isOneOfOldest_59 f_X3_isOneOfOldest_63
    rw [if_neg (show ¬ (16 : Int32) ≤ nI i from nI_ge (b := 16) (by omega) (by omega)), inR_nI hsl (by decide), ck_t, inR_nI (show i < 16 by omega) (by decide), ck_t, ck_t, inR_nI hc (by decide), ck_t, ck_t, ck_t, ck_t, ck_t, ix_nI (show sl < 2 ^ 31 by omega), ix_nI (show i < 2 ^ 31 by omega), ix_nI (show c < 2 ^ 31 by omega), hrow i (by omega), hrow c hc]
    have b1 := hl i
    have b2 := hl c
    by_cases q1 : l i < l c
    · rw [if_pos ((zI_lt (by omega) (by omega)).mpr q1)]
      exact z1 (oldB_iff.mpr (Or.inl q1)).symm
    · rw [if_neg (fun z => q1 ((zI_lt (by omega) (by omega)).mp z))]
      by_cases q2 : l i = l c
      · rw [if_pos ((zI_eq (by omega) (by omega)).mpr q2)]
        by_cases q3 : c ≤ i
        · rw [if_pos (nI_le q3 (by omega))]
          exact z0 (by rw [eq_comm, Bool.eq_false_iff]; intro z; rw [oldB_iff] at z; omega)
        · rw [if_neg (nI_ge (by omega) (by omega))]
          exact z1 (oldB_iff.mpr (Or.inr ⟨q2, by omega⟩)).symm
      · rw [if_neg (fun z => q2 ((zI_eq (by omega) (by omega)).mp z))]
        exact z0 (by rw [eq_comm, Bool.eq_false_iff]; intro z; rw [oldB_iff] at z; omega)
