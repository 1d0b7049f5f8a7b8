/-! sweep: the model's side -/
theorem hr_full {q : Nat} {D : Nat → Nat} (hq : 0 < q) : ∀ n, (∀ a, a < n → D a = q - 1) → hr q D n + 1 = q ^ n
  | 0, _ => rfl
  | n + 1, h => by
    have ih := hr_full hq n (fun a ha => h a (by omega))
    unfold hr
    rw [Nat.pow_succ, ← ih, h n (by omega), Nat.add_mul, Nat.one_mul]
    omega
theorem hr_adv {q : Nat} {D E : Nat → Nat} (hq : 0 < q) {r : Nat} (h1 : ∀ a, a < r → E a = D a) (h2 : E r = D r + 1) : ∀ n, r < n → (∀ a, r < a → a < n → E a = 0 ∧ D a = q - 1) → hr q E n = hr q D n + 1
  | 0, h, _ => absurd h (Nat.not_lt_zero r)
  | n + 1, h, h3 => by
    unfold hr
    by_cases e : n = r
    · subst e
      rw [hr_cong n h1, h2]; omega
    · have ih := hr_adv hq h1 h2 n (by omega) (fun a h4 h5 => h3 a h4 (by omega))
      obtain ⟨g1, g2⟩ := h3 n (by omega) (by omega)
      rw [ih, g1, g2, Nat.add_mul, Nat.one_mul]
      omega
def MK (s : Hp) (f m n q : Nat) (ch : Nat → Nat) (t : Hp) : Prop := (∀ d, d ≠ 36 → d ≠ 54 → d ≠ 55 → d ≠ 56 → d ≠ 57 → t d = s d) ∧ (∀ j, j ≠ 31 → t 36 j = s 36 j) ∧ (∀ i, i < q → t 57 i = nI (ch i)) ∧ ∀ a, a < n → ∀ c, c < 16 → t 56 (16 * a + c) = zI (LZ s f m a c)
theorem MK_fr {s t t' : Hp} {f m n q : Nat} {ch : Nat → Nat} (h : MK s f m n q ch t) (hf : ∀ d, d ≠ 36 → d ≠ 54 → d ≠ 55 → t' d = t d) (h36 : ∀ j, j ≠ 31 → t' 36 j = t 36 j) : MK s f m n q ch t' := by
  obtain ⟨a, b, c, d⟩ := h
  refine ⟨fun x h1 h2 h3 h4 h5 => by rw [hf x h1 h2 h3]; exact a x h1 h2 h3 h4 h5, fun j hj => by rw [h36 j hj]; exact b j hj, fun i hi => ?_, fun x hx y hy => ?_⟩
  · rw [hf 57 (by decide) (by decide) (by decide)]; exact c i hi
  · rw [hf 56 (by decide) (by decide) (by decide)]; exact d x hx y hy
theorem adv240 (N : Nat) {q n : Nat} (hq0 : 0 < q) (hq : q ≤ 16) (hn : n ≤ 4) (k170 : Hp → Int32 → Int32 → Int32 → Int32 → Int32 → Int32 → Option (Int32 × Hp)) (x2 x4 x6 : Int32) (D : Nat → Nat) (hD : ∀ a, a < n → D a < q) : ∀ r fu (t : Hp), r ≤ n → r < fu → (∀ a, r ≤ a → a < n → D a = q - 1) → (∀ a, a < n → t 55 a = nI (if a < r then D a else 0)) → ∃ (t' : Hp) (E : Nat → Nat), (∀ d, d ≠ 55 → t' d = t d) ∧ ((lp (fun _ _ _ _ _ _ _ => none) (f_X10_sweep_240 N k170) fu t x2 (nI n) x4 (nI q) x6 (nI r - 1) = k170 t' x2 (nI n) x4 (nI q) x6 1 ∧ hr q E n = hr q D n + 1 ∧ (∀ a, a < n → t' 55 a = nI (E a) ∧ E a < q)) ∨ (lp (fun _ _ _ _ _ _ _ => none) (f_X10_sweep_240 N k170) fu t x2 (nI n) x4 (nI q) x6 (nI r - 1) = k170 t' x2 (nI n) x4 (nI q) x6 0 ∧ hr q D n + 1 = q ^ n))
  | r, 0, t, _, hm, _, _ => absurd hm (Nat.not_lt_zero r)
  | 0, fu + 1, t, _, _, hf, _ => by
    refine ⟨t, D, fun _ _ => rfl, Or.inr ⟨?_, hr_full hq0 n (fun a ha => hf a (Nat.zero_le _) ha)⟩⟩
    rw [lp_s]
    unfold f_X10_sweep_240 f_X10_sweep_273 f_X10_sweep_283 f_X10_sweep_301
    rw [if_pos (show nI 0 - 1 < 0 by decide), if_pos (show nI 0 - 1 < 0 by decide), if_pos rfl]
  | r + 1, fu + 1, t, hr, hm, hf, hw => by
    have ih := fun t => adv240 N hq0 hq hn k170 x2 x4 x6 D hD r fu t (by omega) (by omega)
    rw [lp_s]
    generalize lp (fun _ _ _ _ _ _ _ => none) (f_X10_sweep_240 N k170) fu = S at ih ⊢
    unfold f_X10_sweep_240 f_X10_sweep_273 f_X10_sweep_283 f_X10_sweep_301
    have hneg : ¬ nI r < 0 := by rw [i_lt, i_0, nI_toInt (by omega)]; omega
    have e1 : nI r + -1 = nI r - 1 := by
      rw [i_eq, Int32.toInt_add, Int32.toInt_sub]
      rfl
    have hwr := hw r (by omega)
    rw [if_pos (by omega)] at hwr
    have hDr := hD r (by omega)
    rw [nI_pred, if_neg hneg, if_neg hneg, if_neg (show ¬ (1 : Int32) = 0 by decide), inR_nI (show r < 4 by omega) (by decide), ck_t, ck_t, ck_t, ck_t, sb_e, sb_e, vb_e, ix_nI (show r < 2 ^ 31 by omega), hwr, e1, nI_1, show nI q - 1 = nI (q - 1) by rw [show (1 : Int32) = nI 1 from rfl, pk_sub (by omega)]]
    by_cases c1 : D r = q - 1
    · rw [if_pos (by rw [c1])]
      obtain ⟨t', E, r1, r2⟩ := ih (hset t 55 r 0) (fun a h1 h2 => by
        by_cases e : a = r
        · rw [e]; exact c1
        · exact hf a (by omega) h2) (fun a ha => by
        rw [hset_rd, if_pos rfl]
        by_cases e : a = r
        · rw [if_pos e, if_neg (by omega)]; rfl
        · rw [if_neg e, hw a ha]
          by_cases z : a < r
          · rw [if_pos z, if_pos (by omega)]
          · rw [if_neg z, if_neg (by omega)])
      exact ⟨t', E, fun d hd => by rw [r1 d hd, hset_d hd], r2⟩
    · rw [if_neg (fun z => c1 ((nI_eq (by omega) (by omega)).mp z))]
      refine ⟨hset t 55 r (nI (D r + 1)), fun a => if a < r then D a else if a = r then D r + 1 else 0, fun d hd => hset_d hd, Or.inl ⟨rfl, ?_, fun a ha => ?_⟩⟩
      · refine hr_adv hq0 (r := r) (fun a ha => if_pos ha) ?_ n (by omega) (fun a h1 h2 => ⟨?_, hf a (by omega) h2⟩)
        · show (if r < r then D r else if r = r then D r + 1 else 0) = _
          rw [if_neg (Nat.lt_irrefl r), if_pos rfl]
        · show (if a < r then D a else if a = r then D r + 1 else 0) = _
          rw [if_neg (by omega), if_neg (by omega)]
      · show hset t 55 r (nI (D r + 1)) 55 a = nI (if a < r then D a else if a = r then D r + 1 else 0) ∧ (if a < r then D a else if a = r then D r + 1 else 0) < q
        rw [hset_rd, if_pos rfl]
        by_cases e : a = r
        · rw [if_pos e, if_neg (show ¬ a < r by omega), if_pos e]
          exact ⟨rfl, by omega⟩
        · rw [if_neg e, hw a ha]
          by_cases z : a < r
          · rw [if_pos z, if_pos (show a < r + 1 by omega)]
            exact ⟨rfl, hD a ha⟩
          · rw [if_neg z, if_neg e, if_neg (show ¬ a < r + 1 by omega)]
            exact ⟨rfl, hq0⟩
theorem wrM44 (N : Nat) {s t : Hp} {f m n q sl : Nat} {ch D : Nat → Nat} (hn : n ≤ 4) (hsl : sl < n) (hfm : f + n * m ≤ 10000) (hm : 0 < m) (hq : q ≤ 16) (hD : ∀ a, a < n → t 55 a = nI (D a) ∧ D a < q) (hinj : ∀ a b, a < q → b < q → ch a = ch b → a = b) (k6 : Hp → Int32 → Int32 → Int32 → Int32 → Int32 → Option (Int32 × Hp)) {w : Int} (hw : 0 ≤ w ∧ w ≤ 50000) : ∀ k e fu, e + k = sl → k < fu → lp (fun _ _ _ _ _ _ _ _ => none) (f_X10_worth_44 N k6) fu t (nI n) (nI f) (nI m) (zI w) (nI sl) (zI (hdZ (LZ s f m) (bgF f m) m (fun a => ch (D a)) sl e)) (nI e) = k6 t (nI n) (nI f) (nI m) (zI (w + ((bgF f m sl : Int) - hdZ (LZ s f m) (bgF f m) m (fun a => ch (D a)) sl sl))) (nI (sl + 1))
  | k, e, 0, _, hm => absurd hm (Nat.not_lt_zero k)
  | 0, e, fu + 1, he, _ => by
    have ee : e = sl := by omega
    subst ee
    have hg := bgF_lt hfm hm hsl
    have hb := hdZ_b (s := s) (c := fun a => ch (D a)) hfm hm hsl e (Nat.le_refl e)
    rw [lp_s]; unfold f_X10_worth_44
    rw [if_pos (i_le.mpr (Int.le_refl _)), vb_e, vb_e, nI_1, pk_mul, nI_add, show f + e * m = bgF f m e from rfl, zI_nI (show bgF f m e < 2 ^ 31 by omega), zI_sub (by omega) (by omega), zI_add (by omega) (by omega)]
  | k + 1, e, fu + 1, he, hfu => by
    have ih := wrM44 N (s := s) hn hsl hfm hm hq hD hinj k6 hw k (e + 1) fu (by omega) (by omega)
    have hg := bgF_lt hfm hm (show e < n by omega)
    have hb := hdZ_b (s := s) (c := fun a => ch (D a)) hfm hm hsl e (by omega)
    have hg2 := bgF_lt hfm hm hsl
    have hbs := bgF_s f m e
    rw [lp_s]
    generalize lp (fun _ _ _ _ _ _ _ _ => none) (f_X10_worth_44 N k6) fu = S at ih ⊢
    have e95 : ∀ x7 : Int32, f_X10_worth_95 N k6 S t (nI n) (nI f) (nI m) (zI w) (nI sl) x7 (nI e) = S t (nI n) (nI f) (nI m) (zI w) (nI sl) x7 (nI (e + 1)) := fun x7 => by
      unfold f_X10_worth_95
      rw [vb_e, nI_1]
    obtain ⟨h1, h2⟩ := hD e (by omega)
    obtain ⟨h3, h4⟩ := hD sl hsl
    have ev : nI f + (nI (e + 1)) * nI m - 1 = zI (((bgF f m e + m : Nat) : Int) - 1) := by
      rw [pk_mul, nI_add, show f + (e + 1) * m = bgF f m e + m from hbs.symm, zI_nI (show bgF f m e + m < 2 ^ 31 by omega), show (1 : Int32) = zI 1 from rfl, zI_sub (by omega) (by omega)]
    unfold f_X10_worth_44
    rw [if_neg (nI_ge (by omega) (by omega)), inR_nI (show e < 4 by omega) (by decide), ck_t, inR_nI (show sl < 4 by omega) (by decide), ck_t, ix_nI (show e < 2 ^ 31 by omega), ix_nI (show sl < 2 ^ 31 by omega), h1, h3, e95, nI_1, ev, vb_e, e95]
    rw [show hdZ (LZ s f m) (bgF f m) m (fun a => ch (D a)) sl (e + 1) = if ch (D e) = ch (D sl) then max (hdZ (LZ s f m) (bgF f m) m (fun a => ch (D a)) sl e) (((bgF f m e + m : Nat) : Int) - 1) else hdZ (LZ s f m) (bgF f m) m (fun a => ch (D a)) sl e from rfl] at ih
    by_cases c1 : D e = D sl
    · rw [if_pos (show ch (D e) = ch (D sl) by rw [c1])] at ih
      rw [if_pos (show nI (D e) = nI (D sl) by rw [c1])]
      by_cases c2 : ((bgF f m e + m : Nat) : Int) - 1 ≤ hdZ (LZ s f m) (bgF f m) m (fun a => ch (D a)) sl e
      · rw [if_pos ((zI_le (by omega) (by omega)).mpr c2)]
        rw [show max (hdZ (LZ s f m) (bgF f m) m (fun a => ch (D a)) sl e) (((bgF f m e + m : Nat) : Int) - 1) = hdZ (LZ s f m) (bgF f m) m (fun a => ch (D a)) sl e by omega] at ih
        exact ih
      · rw [if_neg (fun z => c2 ((zI_le (by omega) (by omega)).mp z))]
        rw [show max (hdZ (LZ s f m) (bgF f m) m (fun a => ch (D a)) sl e) (((bgF f m e + m : Nat) : Int) - 1) = ((bgF f m e + m : Nat) : Int) - 1 by omega] at ih
        exact ih
    · rw [if_neg (fun z => c1 (hinj _ _ h2 h4 z))] at ih
      rw [if_neg (fun z => c1 ((nI_eq (by omega) (by omega)).mp z))]
      exact ih
theorem wrM6 {N : Nat} (hN : 102 ≤ N) {s t : Hp} {f m n q : Nat} {ch D : Nat → Nat} (hn : n ≤ 4) (hfm : f + n * m ≤ 10000) (hm : 0 < m) (hq : q ≤ 16) (hch : ∀ i, i < q → ch i < 16) (hM : MK s f m n q ch t) (hD : ∀ a, a < n → t 55 a = nI (D a) ∧ D a < q) (hinj : ∀ a b, a < q → b < q → ch a = ch b → a = b) : ∀ k sl fu, sl + k = n → k < fu → lp (fun _ _ _ _ _ _ => none) (f_X10_worth_6 N) fu t (nI n) (nI f) (nI m) (zI (WZ (LZ s f m) (bgF f m) m (fun a => ch (D a)) sl)) (nI sl) = some (zI (WZ (LZ s f m) (bgF f m) m (fun a => ch (D a)) n), t)
  | k, sl, 0, _, hm => absurd hm (Nat.not_lt_zero k)
  | 0, sl, fu + 1, hs, _ => by
    have e : sl = n := by omega
    subst e
    rw [lp_s]; unfold f_X10_worth_6
    rw [if_pos (nI_le (by omega) (by omega))]
  | k + 1, sl, fu + 1, hs, hfu => by
    have ih := wrM6 hN hn hfm hm hq hch hM hD hinj k (sl + 1) fu (by omega) (by omega)
    have hb := WZ_b (s := s) (c := fun a => ch (D a)) hfm hm sl (by omega)
    obtain ⟨h1, h2⟩ := hD sl (by omega)
    have h16 := hch (D sl) h2
    rw [lp_s]
    generalize lp (fun _ _ _ _ _ _ => none) (f_X10_worth_6 N) fu = S at ih ⊢
    unfold f_X10_worth_6
    rw [if_neg (nI_ge (by omega) (by omega)), inR_nI (show sl < 4 by omega) (by decide), ck_t, ix_nI (show sl < 2 ^ 31 by omega), h1, inR_nI (show D sl < 16 by omega) (by decide), ck_t, vb_e, ix_nI (show D sl < 2 ^ 31 by omega), hM.2.2.1 (D sl) h2, show (16 : Int32) * nI sl = nI (16 * sl) from pk_mul 16 sl, nI_add, inR_nI (show 16 * sl + ch (D sl) < 64 by omega) (by decide), ck_t, vb_e, ix_nI (show 16 * sl + ch (D sl) < 2 ^ 31 by omega), hM.2.2.2 sl (by omega) (ch (D sl)) h16]
    exact (wrM44 N (s := s) (t := t) hn (show sl < n by omega) hfm hm hq hD hinj S (w := WZ (LZ s f m) (bgF f m) m (fun a => ch (D a)) sl) (by omega) sl 0 N (by omega) (by omega)).trans ih
theorem cpy204 (N : Nat) {s : Hp} {f m n q : Nat} {ch D : Nat → Nat} (hn : n ≤ 4) (hq : q ≤ 16) (k170 : Hp → Int32 → Int32 → Int32 → Int32 → Int32 → Int32 → Option (Int32 × Hp)) (x2 x4 x6 : Int32) : ∀ k i fu (t : Hp), i + k = n → k < fu → (∀ a, a < q → t 57 a = nI (ch a)) → (∀ a, a < n → t 55 a = nI (D a) ∧ D a < q) → ∃ t', lp (fun _ _ _ _ _ _ _ => none) (f_X10_sweep_204 N k170) fu t x2 (nI n) x4 (nI q) x6 (nI i) = f_X10_sweep_235 N k170 t' x2 (nI n) x4 (nI q) x6 ∧ (∀ d, d ≠ 54 → t' d = t d) ∧ ∀ j, t' 54 j = if i ≤ j ∧ j < n then nI (ch (D j)) else t 54 j
  | k, i, 0, t, _, hm, _, _ => absurd hm (Nat.not_lt_zero k)
  | 0, i, fu + 1, t, hi, _, _, _ => by
    rw [lp_s]; unfold f_X10_sweep_204
    rw [if_pos (nI_le (by omega) (by omega))]
    exact ⟨t, rfl, fun _ _ => rfl, fun j => by rw [if_neg (by omega)]⟩
  | k + 1, i, fu + 1, t, hi, hm, h57, hD => by
    have ih := fun t => cpy204 N (s := s) (f := f) (m := m) (ch := ch) (D := D) hn hq k170 x2 x4 x6 k (i + 1) fu t (by omega) (by omega)
    obtain ⟨h1, h2⟩ := hD i (by omega)
    rw [lp_s]
    generalize lp (fun _ _ _ _ _ _ _ => none) (f_X10_sweep_204 N k170) fu = S at ih ⊢
    unfold f_X10_sweep_204
    rw [if_neg (nI_ge (by omega) (by omega)), inR_nI (show i < 4 by omega) (by decide), ck_t, ix_nI (show i < 2 ^ 31 by omega), h1, inR_nI (show D i < 16 by omega) (by decide), ck_t, ck_t, sb_e, vb_e, nI_1, ix_nI (show D i < 2 ^ 31 by omega), h57 (D i) h2]
    obtain ⟨t', e, r1, r2⟩ := ih (hset t 54 i (nI (ch (D i)))) (fun a ha => by rw [hset_d (by decide)]; exact h57 a ha) (fun a ha => by rw [hset_d (by decide)]; exact hD a ha)
    refine ⟨t', e, fun d hd => by rw [r1 d hd, hset_d hd], fun j => ?_⟩
    rw [r2 j]
    by_cases c1 : i + 1 ≤ j ∧ j < n
    · rw [if_pos c1, if_pos (show i ≤ j ∧ j < n by omega)]
    · rw [if_neg c1, hset_rd, if_pos rfl]
      by_cases c2 : j = i
      · rw [if_pos c2, if_pos (show i ≤ j ∧ j < n by omega), c2]
      · rw [if_neg c2, if_neg (show ¬ (i ≤ j ∧ j < n) by omega)]
def gM (s : Hp) (f m n q : Nat) (ch : Nat → Nat) (j : Nat) : Int := WZ (LZ s f m) (bgF f m) m (fun a => ch (dg q n j a)) n
theorem whl170 {N : Nat} (hN : 102 ≤ N) {s : Hp} {f m n q : Nat} {ch : Nat → Nat} (hn0 : 0 < n) (hn : n ≤ 4) (hfm : f + n * m ≤ 10000) (hm : 0 < m) (hq0 : 0 < q) (hq : q ≤ 16) (hch : ∀ i, i < q → ch i < 16) (hinj : ∀ a b, a < q → b < q → ch a = ch b → a = b) : ∀ fu (t : Hp) (D : Nat → Nat) (i : Nat) (z : Int), hr q D n = i → i < q ^ n → q ^ n - i < fu → -1 ≤ z → z ≤ 50000 → MK s f m n q ch t → (∀ a, a < n → t 55 a = nI (D a) ∧ D a < q) → SI35 s n 54 (s 54) (gM s f m n q ch) (fun b j => ch (dg q n b j)) i z t → (0 < i → t 36 31 = nI n) → ∃ t' z', lp (fun _ _ _ _ _ _ _ => none) (f_X10_sweep_170 N) fu t (nI f) (nI n) (nI m) (nI q) (zI z) 1 = some (zI z', t') ∧ MK s f m n q ch t' ∧ SI35 s n 54 (s 54) (gM s f m n q ch) (fun b j => ch (dg q n b j)) (q ^ n) z' t' ∧ t' 36 31 = nI n
  | 0, t, D, i, z, _, _, hfu, _, _, _, _, _, _ => absurd hfu (Nat.not_lt_zero _)
  | fu + 1, t, D, i, z, hi, hiK, hfu, hz1, hz2, hM, hD, hS, h31 => by
    have ih := fun t D i z => whl170 hN (s := s) (f := f) (m := m) (n := n) (q := q) (ch := ch) hn0 hn hfm hm hq0 hq hch hinj fu t D i z
    have stop : ∀ (u : Hp) (y : Int32), lp (fun _ _ _ _ _ _ _ => none) (f_X10_sweep_170 N) fu u (nI f) (nI n) (nI m) (nI q) y 0 = some (y, u) := fun u y => by
      obtain ⟨fu', rfl⟩ : ∃ fu', fu = fu' + 1 := ⟨fu - 1, by omega⟩
      rw [lp_s]
      unfold f_X10_sweep_170
      rw [if_pos rfl]
    have hgi : gM s f m n q ch i = WZ (LZ s f m) (bgF f m) m (fun a => ch (D a)) n := WZ_cong n (fun a ha => by rw [← hi, dg_hr hq0 (fun a ha => (hD a ha).2) ha])
    have hwb := WZ_b (s := s) (c := fun a => ch (D a)) hfm hm n (Nat.le_refl n)
    have e1 : f_X10_worth N t (nI n) (nI f) (nI m) = some (zI (gM s f m n q ch i), t) := by
      rw [hgi]
      exact wrM6 hN hn hfm hm hq hch hM hD hinj n 0 N (by omega) (by omega)
    have step : ∀ (u : Hp) (y : Int), -1 ≤ y → y ≤ 50000 → MK s f m n q ch u → (∀ a, a < n → u 55 a = nI (D a) ∧ D a < q) → SI35 s n 54 (s 54) (gM s f m n q ch) (fun b j => ch (dg q n b j)) (i + 1) y u → u 36 31 = nI n → ∃ t' z', f_X10_sweep_235 N (lp (fun _ _ _ _ _ _ _ => none) (f_X10_sweep_170 N) fu) u (nI f) (nI n) (nI m) (nI q) (zI y) = some (zI z', t') ∧ MK s f m n q ch t' ∧ SI35 s n 54 (s 54) (gM s f m n q ch) (fun b j => ch (dg q n b j)) (q ^ n) z' t' ∧ t' 36 31 = nI n := fun u y hy1 hy2 hMu hDu hSu hu31 => by
      unfold f_X10_sweep_235
      rw [vb_e]
      obtain ⟨t', E, r1, r2⟩ := adv240 N hq0 hq hn (lp (fun _ _ _ _ _ _ _ => none) (f_X10_sweep_170 N) fu) (nI f) (nI m) (zI y) D (fun a ha => (hDu a ha).2) n N u (Nat.le_refl n) (by omega) (fun a h1 h2 => by omega) (fun a ha => by rw [if_pos ha]; exact (hDu a ha).1)
      have hM' : MK s f m n q ch t' := MK_fr hMu (fun d _ _ h3 => r1 d h3) (fun j _ => by rw [r1 36 (by decide)])
      have hS' : SI35 s n 54 (s 54) (gM s f m n q ch) (fun b j => ch (dg q n b j)) (i + 1) y t' := by
        rcases hSu with ⟨h, _, _⟩ | ⟨b, h1, h2, h3, h4, h5⟩
        · omega
        · exact Or.inr ⟨b, h1, h2, h3, h4, fun j => by rw [r1 54 (by decide)]; exact h5 j⟩
      have h31' : t' 36 31 = nI n := by rw [r1 36 (by decide)]; exact hu31
      rcases r2 with ⟨e2, hE, hEw⟩ | ⟨e2, hE⟩
      · have e2' : l_X10_sweep_240 N (lp (fun _ _ _ _ _ _ _ => none) (f_X10_sweep_170 N) fu) u (nI f) (nI n) (nI m) (nI q) (zI y) (nI n - 1) = _ := e2
        rw [e2']
        have hlt : hr q E n < q ^ n := hr_lt n (fun a ha => (hEw a ha).2)
        rw [hi] at hE
        exact ih t' E (i + 1) y hE (by omega) (by omega) hy1 hy2 hM' hEw hS' (fun _ => h31')
      · have e2' : l_X10_sweep_240 N (lp (fun _ _ _ _ _ _ _ => none) (f_X10_sweep_170 N) fu) u (nI f) (nI n) (nI m) (nI q) (zI y) (nI n - 1) = _ := e2
        rw [e2', stop t' (zI y)]
        rw [hi] at hE
        rw [← hE]
        exact ⟨t', y, rfl, hM', hS', h31'⟩
    rw [lp_s]
    generalize lp (fun _ _ _ _ _ _ _ => none) (f_X10_sweep_170 N) fu = S at step ⊢
    unfold f_X10_sweep_170
    rw [if_neg (show ¬ (1 : Int32) = 0 by decide), e1, bd_e]
    by_cases c1 : gM s f m n q ch i ≤ z
    · rw [if_pos ((zI_le (by omega) (by omega)).mpr c1)]
      have hi0 : 0 < i := by
        rcases hS with ⟨h, h2, _⟩ | ⟨b, h1, _⟩
        · omega
        · omega
      exact step t z hz1 hz2 hM hD (SI_skip (by omega) hS c1 rfl) (h31 hi0)
    · rw [if_neg (fun y => c1 ((zI_le (by omega) (by omega)).mp y)), sb_e]
      obtain ⟨t2, e2, b1, b2⟩ := cpy204 N (s := s) (f := f) (m := m) (ch := ch) (D := D) hn hq S (nI f) (nI m) (zI (gM s f m n q ch i)) n 0 N (hset t 36 31 (nI n)) (by omega) (by omega) (fun a ha => by rw [hset_d (by decide)]; exact hM.2.2.1 a ha) (fun a ha => by rw [hset_d (by decide)]; exact hD a ha)
      have e2' : l_X10_sweep_204 N S (hset t 36 31 (nI n)) (nI f) (nI n) (nI m) (nI q) (zI (gM s f m n q ch i)) 0 = _ := e2
      rw [e2']
      refine step t2 _ (by omega) (by omega) (MK_fr hM (fun d h1 h2 _ => by rw [b1 d h2, hset_d h1]) (fun j hj => by rw [b1 36 (by decide), hs_slot hj])) (fun a ha => by rw [b1 55 (by decide), hset_d (by decide)]; exact hD a ha) (SI_take hS (by omega) (fun j => ?_)) (by rw [b1 36 (by decide), hs_same])
      rw [b2 j, hset_d (by decide)]
      by_cases e : j < n
      · rw [if_pos ⟨Nat.zero_le _, e⟩, if_pos e, ← hi, dg_hr hq0 (fun a ha => (hD a ha).2) e]
      · rw [if_neg (fun y => e y.2), if_neg e]
theorem sl111 {N : Nat} (hN : 102 ≤ N) {s : Hp} (p2 : E2 s) {f m n sl : Nat} (hn : n ≤ 4) (hsl : sl < n) (hfm : f + n * m ≤ 10000) (hm : 0 < m) (x5 : Int32) (k102 : Hp → Int32 → Int32 → Int32 → Int32 → Int32 → Option (Int32 × Hp)) : ∀ k c fu (t : Hp), c + k = 16 → k < fu → (∀ d, d ≠ 55 → d ≠ 56 → d ≠ 57 → t d = s d) → (∀ a, a < c → t 56 (16 * sl + a) = zI (LZ s f m sl a)) → ∃ t', lp (fun _ _ _ _ _ _ _ => none) (f_X10_sweep_111 N k102) fu t (nI f) (nI n) (nI m) x5 (nI sl) (nI c) = k102 t' (nI f) (nI n) (nI m) x5 (nI (sl + 1)) ∧ (∀ d, d ≠ 55 → d ≠ 56 → t' d = t d) ∧ t' 55 = upd (t 55) sl 0 ∧ (∀ a, a < 16 → t' 56 (16 * sl + a) = zI (LZ s f m sl a)) ∧ ∀ j, j < 16 * sl → t' 56 j = t 56 j
  | k, c, 0, t, _, hm, _, _ => absurd hm (Nat.not_lt_zero k)
  | 0, c, fu + 1, t, hc, _, hfr, hr => by
    rw [lp_s]; unfold f_X10_sweep_111
    rw [if_pos (show (16 : Int32) ≤ nI c from nI_le (a := 16) (by omega) (by omega)), inR_nI (show sl < 4 by omega) (by decide), ck_t, sb_e, vb_e, nI_1, ix_nI (show sl < 2 ^ 31 by omega)]
    exact ⟨_, rfl, fun d h1 _ => hset_d h1, hset_c _ _ _ _, fun a ha => by rw [hset_d (by decide)]; exact hr a (by omega), fun j _ => by rw [hset_d (by decide)]⟩
  | k + 1, c, fu + 1, t, hc, hfu, hfr, hr => by
    have ih := fun t => sl111 hN p2 hn hsl hfm hm x5 k102 k (c + 1) fu t (by omega) (by omega)
    have hb := bgF_lt hfm hm hsl
    have t36 : t 36 = s 36 := hfr 36 (by decide) (by decide) (by decide)
    have t40 : t 40 = s 40 := hfr 40 (by decide) (by decide) (by decide)
    have t41 : t 41 = s 41 := hfr 41 (by decide) (by decide) (by decide)
    have t42 : t 42 = s 42 := hfr 42 (by decide) (by decide) (by decide)
    have la : f_X10_latestAhead N t (nI c) (nI (bgF f m sl)) = some (zI (LZ s f m sl c), t) := by
      have := laM_loop N (s := t) (n := nL s) (by rw [t36]; exact p2.2.2.2.2.2.1) p2.2.2.2.2.2.2.1 (by rw [t41, t42]; exact E2_sp p2) (nI c) (x := bgF f m sl) (by omega) (nL s) 0 N (-1) (by omega) (by have := p2.2.2.2.2.2.2.1; omega) (by omega) (by omega)
      rw [t40, t41, t42] at this
      exact this
    rw [lp_s]
    generalize lp (fun _ _ _ _ _ _ _ => none) (f_X10_sweep_111 N k102) fu = S at ih ⊢
    unfold f_X10_sweep_111
    rw [if_neg (show ¬ (16 : Int32) ≤ nI c from nI_ge (b := 16) (by omega) (by omega)), pk_mul, nI_add, show f + sl * m = bgF f m sl from rfl, la, bd_e, show (16 : Int32) * nI sl = nI (16 * sl) from pk_mul 16 sl, nI_add, inR_nI (show 16 * sl + c < 64 by omega) (by decide), ck_t, sb_e, vb_e, nI_1, ix_nI (show 16 * sl + c < 2 ^ 31 by omega)]
    obtain ⟨t', e, r1, r2, r3, r4⟩ := ih (hset t 56 (16 * sl + c) (zI (LZ s f m sl c))) (fun d h1 h2 h3 => by rw [hset_d h2]; exact hfr d h1 h2 h3) (fun a ha => by
      rw [hset_rd, if_pos rfl]
      by_cases q : a = c
      · rw [if_pos (by rw [q]), q]
      · rw [if_neg (by omega)]; exact hr a (by omega))
    exact ⟨t', e, fun d h1 h2 => by rw [r1 d h1 h2, hset_d h2], by rw [r2, hset_d (by decide)], r3, fun j hj => by rw [r4 j hj, hs_slot (by omega)]⟩
theorem sl102 {N : Nat} (hN : 102 ≤ N) {s : Hp} (p2 : E2 s) {f m n : Nat} (hn : n ≤ 4) (hfm : f + n * m ≤ 10000) (hm : 0 < m) (x5 : Int32) : ∀ k sl fu (t : Hp), sl + k = n → k < fu → (∀ d, d ≠ 55 → d ≠ 56 → d ≠ 57 → t d = s d) → (∀ a, a < sl → t 55 a = 0 ∧ ∀ c, c < 16 → t 56 (16 * a + c) = zI (LZ s f m a c)) → ∃ t', lp (fun _ _ _ _ _ _ => none) (f_X10_sweep_102 N) fu t (nI f) (nI n) (nI m) x5 (nI sl) = l_X10_sweep_170 N t' (nI f) (nI n) (nI m) x5 (-1) 1 ∧ (∀ d, d ≠ 55 → d ≠ 56 → t' d = t d) ∧ ∀ a, a < n → t' 55 a = 0 ∧ ∀ c, c < 16 → t' 56 (16 * a + c) = zI (LZ s f m a c)
  | k, sl, 0, t, _, hm, _, _ => absurd hm (Nat.not_lt_zero k)
  | 0, sl, fu + 1, t, hs, _, hfr, hr => by
    have e : sl = n := by omega
    subst e
    rw [lp_s]; unfold f_X10_sweep_102
    rw [if_pos (nI_le (by omega) (by omega))]
    exact ⟨t, rfl, fun _ _ _ => rfl, hr⟩
  | k + 1, sl, fu + 1, t, hs, hfu, hfr, hr => by
    have ih := fun t => sl102 hN p2 hn hfm hm x5 k (sl + 1) fu t (by omega) (by omega)
    rw [lp_s]
    generalize lp (fun _ _ _ _ _ _ => none) (f_X10_sweep_102 N) fu = S at ih ⊢
    unfold f_X10_sweep_102
    rw [if_neg (nI_ge (by omega) (by omega))]
    obtain ⟨t1, e1, a1, a2, a3, a4⟩ := sl111 hN p2 hn (show sl < n by omega) hfm hm x5 S 16 0 N t (by omega) (by omega) hfr (fun a ha => absurd ha (Nat.not_lt_zero a))
    have e1' : l_X10_sweep_111 N S t (nI f) (nI n) (nI m) x5 (nI sl) 0 = _ := e1
    rw [e1']
    obtain ⟨t2, e2, b1, b2⟩ := ih t1 (fun d h1 h2 h3 => by rw [a1 d h1 h2]; exact hfr d h1 h2 h3) (fun a ha => by
      by_cases q : a = sl
      · rw [q]
        exact ⟨by rw [a2, pk_us], a3⟩
      · obtain ⟨c1, c2⟩ := hr a (by omega)
        exact ⟨by rw [a2, pk_un q]; exact c1, fun c hc => by rw [a4 (16 * a + c) (by omega)]; exact c2 c hc⟩)
    exact ⟨t2, e2, fun d h1 h2 => by rw [b1 d h1 h2, a1 d h1 h2], b2⟩
theorem ask62 {N : Nat} (x1 x2 x3 x4 : Int32) : ∀ k c fu (t : Hp), c + k = 16 → k < fu → (∀ a, a < c → bt x1 a = true → t 57 (fb_ct (bt x1) a) = nI a) → ∃ t', lp (fun _ _ _ _ _ _ _ => none) (f_X10_sweep_62 N) fu t x1 x2 x3 x4 (nI (fb_ct (bt x1) c)) (nI c) = l_X10_sweep_102 N t' x2 x3 x4 (nI (fb_ct (bt x1) 16)) 0 ∧ (∀ d, d ≠ 57 → t' d = t d) ∧ ∀ a, a < 16 → bt x1 a = true → t' 57 (fb_ct (bt x1) a) = nI a
  | k, c, 0, t, _, hm, _ => absurd hm (Nat.not_lt_zero k)
  | 0, c, fu + 1, t, hc, _, hr => by
    have e : c = 16 := by omega
    subst e
    rw [lp_s]; unfold f_X10_sweep_62
    rw [if_pos (show (16 : Int32) ≤ nI 16 by decide)]
    exact ⟨t, rfl, fun _ _ => rfl, hr⟩
  | k + 1, c, fu + 1, t, hc, hfu, hr => by
    have ih := fun t => ask62 (N := N) x1 x2 x3 x4 k (c + 1) fu t (by omega) (by omega)
    have hle := fb_ct_le (bt x1) c
    rw [fb_ct_succ] at ih
    rw [lp_s]
    generalize lp (fun _ _ _ _ _ _ _ => none) (f_X10_sweep_62 N) fu = S at ih ⊢
    unfold f_X10_sweep_62 f_X10_sweep_93
    rw [if_neg (show ¬ (16 : Int32) ≤ nI c from nI_ge (b := 16) (by omega) (by omega)), shr1 x1 (by omega), ifb, vb_e, nI_1, inR_nI (show fb_ct (bt x1) c < 16 by omega) (by decide), ck_t, sb_e, vb_e, vb_e, nI_1, ix_nI (show fb_ct (bt x1) c < 2 ^ 31 by omega)]
    cases hb : bt x1 c with
    | false =>
      rw [hb] at ih
      rw [cond_false]
      exact ih t (fun a ha hta => by
        by_cases q : a = c
        · rw [q, hb] at hta; cases hta
        · exact hr a (by omega) hta)
    | true =>
      rw [hb] at ih
      rw [cond_true]
      obtain ⟨t', e, r1, r2⟩ := ih (hset t 57 (fb_ct (bt x1) c) (nI c)) (fun a ha hta => by
        rw [hset_rd, if_pos rfl]
        by_cases q : a = c
        · rw [q, if_pos rfl]
        · rw [if_neg (fun z => q (fb_ct_kth_one hta hb z))]
          exact hr a (by omega) hta)
      refine ⟨t', ?_, fun d hd => by rw [r1 d hd, hset_d hd], r2⟩
      first
        | exact e
        | (rw [nI_1]; exact e)
