/-! sender, place, box -/
theorem drawn_pl {N : Nat} {s t u : Hp} {k l : Nat} (h : Drawn N s k t u l) : (∀ f, f < 1024 → tb (t 23 (f / 32)) (f % 32) = plG (fun j => decide (s 20 j = nI k)) s f (nM s)) ∧ ∀ f, f < 1024 → plG (fun j => decide (u 50 j = nI k)) u f (nM u) = plG (fun j => decide (s 20 j = nI k)) s f (nM s) := by
  obtain ⟨hD, pt, pu, sm, hj, h51, h50, hl, ol, hle⟩ := h
  refine ⟨hD.2.2.2.2.2.2.2.2.2, fun f hf => ?_⟩
  rw [nM_same sm]
  exact plG_same sm (fun j hj => by rw [h50 j hj])
theorem ok_place {N : Nat} (hN : 1026 ≤ N) : ag_place N PS := by
  intro x1 x2 s p
  obtain ⟨K, hK, hK2⟩ := cntK p
  dsimp only
  by_cases h1 : inR x1 K = true
  · obtain ⟨k, hk, rfl⟩ := inR_vI h1 (by omega)
    obtain ⟨t, u, l, et, hd⟩ := drawn_e (N := N) (by omega) p hK hK2 hk
    obtain ⟨hp1, hp2⟩ := drawn_pl hd
    obtain ⟨hD, pt, pu, sm, hj, h51, h50, hl, ol, hle⟩ := hd
    have mB : ∀ i, i < 2 ^ 31 → x2 = nI i → f_X10_place N t (nI k) x2 = some (kF (fun f => plG (fun j => decide (s 20 j = nI k)) s f (nM s)) i 1024 0, u) := fun i hi hx => by
      unfold f_X10_place
      rw [hj, bd_e, if_neg (by decide), if_pos (by rw [hx, i_le, i_0, nI_toInt hi]; omega), hx]
      exact atM_loop (N := N) (by omega) pu.1 pu.2.2.1 (nI k) _ hp2 hi 1024 0 N (by omega) (by omega) (Nat.zero_le _)
    by_cases h2 : inR x2 1024 = true
    · obtain ⟨i, hi, hx⟩ := inR_vI h2 (by omega)
      refine ⟨_, t, u, ?_, mB i (by omega) hx, pu⟩
      unfold f_X9_place
      rw [hK, isBelow_e N s _ (by omega), bd_e, h1, if_neg (by decide), show (1024 : Int32) = nI 1024 from rfl, isBelow_e N s _ (by omega), bd_e, h2, if_neg (by decide), et, bd_e, hx, show f_X6_fieldAt N t (nI i) = _ from at_loop N t _ hp1 (show i < 2 ^ 31 by omega) 1024 0 N (by omega) (by omega), bd_e]
    · obtain ⟨u0, ld, e0, sm0, nm0, h500, h1840, h36180, h510⟩ := isSender_e (N := N) (by omega) p (nI k)
      have pu0 := PS_same sm0 p
      have h60 := p.2.2.1.2.2.2.2.2.2.2.2.1
      have hle := fb_ct_le ld (nM s)
      rw [hK] at h1840
      have eK : K = fb_ct ld (nM s) := (nI_eq (by omega) (by omega)).mp h1840
      refine ⟨-1, s, u0, ?_, ?_, pu0⟩
      · unfold f_X9_place
        rw [hK, isBelow_e N s _ (by omega), bd_e, h1, if_neg (by decide), show (1024 : Int32) = nI 1024 from rfl, isBelow_e N s _ (by omega), bd_e, Bool.eq_false_iff.mpr h2, if_pos (show b01 false = 0 from rfl)]
      · unfold f_X10_place
        rw [e0, bd_e, ← eK, inR_nI hk (by omega), if_neg (by decide)]
        by_cases h0 : 0 ≤ x2
        · rw [if_pos h0]
          obtain ⟨i, hi, hx⟩ := nI_of (fun z => by rw [i_le] at h0; rw [i_lt] at z; omega : ¬ x2 < 0)
          have hbig : 1024 ≤ i := by
            rcases Nat.lt_or_ge i 1024 with z | z
            · exact absurd (by rw [hx]; exact inR_nI z (by decide)) h2
            · exact z
          have := atM_loop (N := N) (by omega) pu0.1 pu0.2.2.1 (nI k) _ (fun f _ => rfl) hi 1024 0 N (by omega) (by omega) (Nat.zero_le _)
          rw [kF_big 1024 0 (by omega)] at this
          rw [hx]
          exact this
        · rw [if_neg h0]
  · have h1' := Bool.eq_false_iff.mpr h1
    obtain ⟨u, eu, pu⟩ := noSender (N := N) (by omega) p hK hK2 h1'
    refine ⟨-1, s, u, ?_, ?_, pu⟩
    · unfold f_X9_place
      rw [hK, isBelow_e N s _ (by omega), bd_e, h1', if_pos (show b01 false = 0 from rfl)]
    · unfold f_X10_place
      rw [eu, bd_e, if_pos rfl]
theorem ok_box {N : Nat} (hN : 1026 ≤ N) : ag_box N PS := by
  intro x1 x2 s p
  obtain ⟨K, hK, hK2⟩ := cntK p
  dsimp only
  by_cases h1 : inR x1 K = true
  · obtain ⟨k, hk, rfl⟩ := inR_vI h1 (by omega)
    by_cases h2 : inR x2 4 = true
    · obtain ⟨t, u, l, et, hd⟩ := drawn_e (N := N) (by omega) p hK hK2 hk
      obtain ⟨hp1, hp2⟩ := drawn_pl hd
      obtain ⟨hD, pt, pu, sm, hj, h51, h50, hl, ol, hle⟩ := hd
      have key : ∀ y g : Bool, (2 ≤ x2 ↔ y = true) → (irm x2 2 = 0 ↔ g = false) → f_X9_box N s (nI k) x2 = f_X6_edge N t (b01 y) (b01 g) → ∃ v s1 s2, f_X9_box N s (nI k) x2 = some (v, s1) ∧ f_X10_box N s1 (nI k) x2 = some (v, s2) ∧ PS s2 := fun y g hy hg hA => by
        refine ⟨_, t, u, hA.trans (ed_loop N t _ hp1 y g 1024 0 N (-1) (by omega) (by omega)), ?_, pu⟩
        unfold f_X10_box
        rw [hj, bd_e, if_neg (by decide), isIn_e, btw_lit x2 (show (3 : Int32) = nI 3 from rfl) (by decide), bd_e, h2, if_neg (by decide)]
        exact edM_loop (N := N) (by omega) pu.1 pu.2.2.1 (nI k) _ hp2 x2 y g hy hg 1024 0 N (-1) (by omega) (by omega) (Or.inl rfl)
      have hA : ∀ y g : Bool, (x2 < 2 ↔ y = false) → (irm x2 2 = 1 ↔ g = true) → f_X9_box N s (nI k) x2 = f_X6_edge N t (b01 y) (b01 g) := fun y g hy hg => by
        unfold f_X9_box f_X9_box_57 f_X9_box_69
        rw [hK, isBelow_e N s _ (by omega), bd_e, h1, if_neg (by decide), show (4 : Int32) = nI 4 from rfl, isBelow_e N s _ (by omega), bd_e, h2, if_neg (by decide), et, bd_e]
        have ed : ∀ a b : Bool, (bd (f_X6_edge N t (b01 a) (b01 b)) fun v8 s7 => some (v8, s7)) = f_X6_edge N t (b01 a) (b01 b) := fun a b => by
          rw [show f_X6_edge N t (b01 a) (b01 b) = _ from ed_loop N t _ hp1 a b 1024 0 N (-1) (by omega) (by omega), bd_e]
        cases y with
        | false =>
          rw [if_pos (hy.mpr rfl)]
          cases g with
          | true => rw [if_pos (hg.mpr rfl)]; exact ed false true
          | false => rw [if_neg (fun z => by cases hg.mp z)]; exact ed false false
        | true =>
          rw [if_neg (fun z => by cases hy.mp z)]
          cases g with
          | true => rw [if_pos (hg.mpr rfl)]; exact ed true true
          | false => rw [if_neg (fun z => by cases hg.mp z)]; exact ed true false
      obtain ⟨j, hj4, hx⟩ := inR_vI h2 (by omega)
      match j, hj4 with
      | 0, _ => subst hx; exact key false false (by decide) (by decide) (hA false false (by decide) (by decide))
      | 1, _ => subst hx; exact key false true (by decide) (by decide) (hA false true (by decide) (by decide))
      | 2, _ => subst hx; exact key true false (by decide) (by decide) (hA true false (by decide) (by decide))
      | 3, _ => subst hx; exact key true true (by decide) (by decide) (hA true true (by decide) (by decide))
    · have h2' := Bool.eq_false_iff.mpr h2
      obtain ⟨u0, ld, e0, sm0, nm0, h500, h1840, h36180, h510⟩ := isSender_e (N := N) (by omega) p (nI k)
      have pu0 := PS_same sm0 p
      have h60 := p.2.2.1.2.2.2.2.2.2.2.2.1
      have hle := fb_ct_le ld (nM s)
      rw [hK] at h1840
      have eK : K = fb_ct ld (nM s) := (nI_eq (by omega) (by omega)).mp h1840
      refine ⟨-1, s, u0, ?_, ?_, pu0⟩
      · unfold f_X9_box
        rw [hK, isBelow_e N s _ (by omega), bd_e, h1, if_neg (by decide), show (4 : Int32) = nI 4 from rfl, isBelow_e N s _ (by omega), bd_e, h2', if_pos (show b01 false = 0 from rfl)]
      · unfold f_X10_box
        rw [e0, bd_e, ← eK, inR_nI hk (by omega), if_neg (by decide), isIn_e, btw_lit x2 (show (3 : Int32) = nI 3 from rfl) (by decide), bd_e, h2', if_pos (show b01 false = 0 from rfl)]
  · have h1' := Bool.eq_false_iff.mpr h1
    obtain ⟨u, eu, pu⟩ := noSender (N := N) (by omega) p hK hK2 h1'
    refine ⟨-1, s, u, ?_, ?_, pu⟩
    · unfold f_X9_box
      rw [hK, isBelow_e N s _ (by omega), bd_e, h1', if_pos (show b01 false = 0 from rfl)]
    · unfold f_X10_box
      rw [eu, bd_e, if_pos rfl]
/-! sender -/
theorem imin_i (a b : Int32) : (imin a b).toInt = min a.toInt b.toInt := by
  unfold imin
  by_cases h : b < a
  · rw [if_pos h]; rw [i_lt] at h; omega
  · rw [if_neg h]; rw [i_lt] at h; omega
theorem imax_i (a b : Int32) : (imax a b).toInt = max a.toInt b.toInt := by
  unfold imax
  by_cases h : a < b
  · rw [if_pos h]; rw [i_lt] at h; omega
  · rw [if_neg h]; rw [i_lt] at h; omega
theorem mn_a {O : Nat → Bool} {v : Nat → Int32} {a M : Int32} (h : a ≤ M) : ∀ n, fld O (fun x j => imin x (v j)) a n = imin a (fld O (fun x j => imin x (v j)) M n)
  | 0 => by rw [fld_0, fld_0, i_eq, imin_i]; rw [i_le] at h; omega
  | n + 1 => by
    have ih := mn_a (O := O) (v := v) h n
    by_cases hO : O n = true
    · rw [fld_t hO, fld_t hO, ih, i_eq, imin_i, imin_i, imin_i, imin_i]; omega
    · rw [fld_f hO, fld_f hO, ih]
theorem mn_le {O : Nat → Bool} {v : Nat → Int32} {a : Int32} {l : Nat} (hO : O l = true) : ∀ n, l < n → (fld O (fun x j => imin x (v j)) a n).toInt ≤ (v l).toInt
  | 0, h => absurd h (Nat.not_lt_zero l)
  | n + 1, h => by
    by_cases e : l = n
    · subst e
      rw [fld_t hO, imin_i]; omega
    · have ih := mn_le (v := v) (a := a) hO n (by omega)
      by_cases hO2 : O n = true
      · rw [fld_t hO2, imin_i]; omega
      · rw [fld_f hO2]; exact ih
theorem mn_eq {O : Nat → Bool} {v : Nat → Int32} {M : Int32} {l n : Nat} (hO : O l = true) (hl : l < n) (h : v l ≤ M) : fld O (fun x j => imin x (v j)) (v l) n = fld O (fun x j => imin x (v j)) M n := by
  rw [mn_a h, i_eq, imin_i]
  have := mn_le (v := v) (a := M) hO n hl
  omega
theorem mx_a {O : Nat → Bool} {v : Nat → Int32} {a M : Int32} (h : M ≤ a) : ∀ n, fld O (fun x j => imax x (v j)) a n = imax a (fld O (fun x j => imax x (v j)) M n)
  | 0 => by rw [fld_0, fld_0, i_eq, imax_i]; rw [i_le] at h; omega
  | n + 1 => by
    have ih := mx_a (O := O) (v := v) h n
    by_cases hO : O n = true
    · rw [fld_t hO, fld_t hO, ih, i_eq, imax_i, imax_i, imax_i, imax_i]; omega
    · rw [fld_f hO, fld_f hO, ih]
theorem mx_ge {O : Nat → Bool} {v : Nat → Int32} {a : Int32} {l : Nat} (hO : O l = true) : ∀ n, l < n → (v l).toInt ≤ (fld O (fun x j => imax x (v j)) a n).toInt
  | 0, h => absurd h (Nat.not_lt_zero l)
  | n + 1, h => by
    by_cases e : l = n
    · subst e
      rw [fld_t hO, imax_i]; omega
    · have ih := mx_ge (v := v) (a := a) hO n (by omega)
      by_cases hO2 : O n = true
      · rw [fld_t hO2, imax_i]; omega
      · rw [fld_f hO2]; exact ih
theorem mx_eq {O : Nat → Bool} {v : Nat → Int32} {M : Int32} {l n : Nat} (hO : O l = true) (hl : l < n) (h : M ≤ v l) : fld O (fun x j => imax x (v j)) (v l) n = fld O (fun x j => imax x (v j)) M n := by
  rw [mx_a h, i_eq, imax_i]
  have := mx_ge (v := v) (a := M) hO n hl
  omega
theorem ch_eq {O : Nat → Bool} {v : Nat → Int32} {a : Int32} {l : Nat} (hO : O l = true) : ∀ n, l < n → (∀ j, j < n → O j = true → v j = v l) → fld O (fun _ j => v j) a n = v l
  | 0, h, _ => absurd h (Nat.not_lt_zero l)
  | n + 1, h, hv => by
    by_cases hO2 : O n = true
    · rw [fld_t hO2]; exact hv n (by omega) hO2
    · have e : l ≠ n := fun e => by rw [e] at hO; exact hO2 hO
      rw [fld_f hO2]
      exact ch_eq hO n (by omega) (fun j hj => hv j (by omega))
theorem sb_bits {O : Nat → Bool} {v : Nat → Int32} {P : Nat} (hP : P ≤ 6) : ∀ n, (∀ j, j < n → O j = true → vI P (v j)) → ∀ i, P ≤ i → i < 32 → bt (fld O (fun x j => sbit x (v j)) 0 n) i = false
  | 0, _, i, _, _ => b_0 i
  | n + 1, h, i, h1, h2 => by
    have ih := sb_bits hP n (fun j hj => h j (by omega)) i h1 h2
    by_cases hO : O n = true
    · rw [fld_t hO]
      obtain ⟨q, hq, e⟩ := h n (by omega) hO
      rw [e]
      have : bt (sbit (fld O (fun x j => sbit x (v j)) 0 n) (nI q)) i = (bt (fld O (fun x j => sbit x (v j)) 0 n) i || decide (i = q)) := tb_add _ (show q < 32 by omega) h2
      rw [this, ih, decide_eq_false (by omega)]; rfl
    · rw [fld_f hO]; exact ih
theorem ppc_loop (N : Nat) {s : Hp} {P : Nat} (h : s 36 0 = nI P) (hP : P ≤ 6) (x : Int32) : ∀ k i m, i + k = P → k < m → lp (fun _ _ _ _ => none) (f_X10_sender_275 N) m s x (nI (fb_ct (bt x) i)) (nI i) = some (nI (fb_ct (bt x) P), s)
  | k, i, 0, _, hm => absurd hm (Nat.not_lt_zero k)
  | 0, i, m + 1, hi, _ => by
    have e : i = P := by omega
    subst e
    rw [lp_s]; unfold f_X10_sender_275
    rw [h, if_pos (i_le.mpr (Int.le_refl _))]
  | k + 1, i, m + 1, hi, hm => by
    have ih := ppc_loop N h hP x k (i + 1) m (by omega) (by omega)
    have g1 : ¬ nI P ≤ nI i := nI_ge (by omega) (by omega)
    rw [lp_s]
    generalize lp (fun _ _ _ _ => none) (f_X10_sender_275 N) m = S at ih ⊢
    unfold f_X10_sender_275
    rw [h, if_neg g1, vb_e, vb_e, shr1 x (by omega), nI_1, ← ih, fb_ct_succ]
    congr 1
    cases bt x i with
    | true => exact nI_1 _
    | false => exact (nI_add _ 0)
def sSt (x2 : Int32) (x v : Int32) : Int32 := if x2 = 3 ∨ x2 = 5 then imin x v else imax x v
def sVf (s : Hp) (x2 : Int32) (j : Nat) : Int32 := if x2 = 3 then s 45 j else if x2 = 4 then s 46 j else s 47 j
theorem snd_loop {N : Nat} {s : Hp} (p3 : E3 s) (q x2 a : Int32) : ∀ k i m, i + k = nM s → k < m → lp (fun _ _ _ _ _ _ _ => none) (f_X10_sender_136 N) m s q x2 (nI (fb_ct (fun j => decide (s 50 j = q)) i)) (fld (fun j => decide (s 50 j = q)) (fun x j => sbit x (s 43 j)) 0 i) (fld (fun j => decide (s 50 j = q)) (fun x j => sSt x2 x (sVf s x2 j)) a i) (nI i) = (if x2 = 1 then some (nI (fb_ct (fun j => decide (s 50 j = q)) (nM s)), s) else if x2 = 8 then l_X10_sender_275 N s (fld (fun j => decide (s 50 j = q)) (fun x j => sbit x (s 43 j)) 0 (nM s)) 0 0 else some (fld (fun j => decide (s 50 j = q)) (fun x j => sSt x2 x (sVf s x2 j)) a (nM s), s))
  | k, i, 0, _, hm => absurd hm (Nat.not_lt_zero k)
  | 0, i, m + 1, hi, _ => by
    have h60 := p3.2.2.2.2.2.2.2.2.1
    have e : i = nM s := by omega
    subst e
    rw [lp_s]; unfold f_X10_sender_136
    rw [p3.2.2.2.2.2.2.2.1, if_pos (nI_le (by omega) (by omega))]
  | k + 1, i, m + 1, hi, hm => by
    have h60 := p3.2.2.2.2.2.2.2.2.1
    have ih := snd_loop (N := N) p3 q x2 a k (i + 1) m (by omega) (by omega)
    have g1 : ¬ nI (nM s) ≤ nI i := nI_ge (by omega) (by omega)
    have g2 : inR (nI i) 60 = true := inR_nI (by omega) (by decide)
    rw [lp_s, ← ih]
    generalize lp (fun _ _ _ _ _ _ _ => none) (f_X10_sender_136 N) m = S at ih ⊢
    clear ih
    have e246 : ∀ x4 x5 x6 : Int32, f_X10_sender_246 N S s q x2 x4 x5 x6 (nI i) = S s q x2 x4 x5 x6 (nI (i + 1)) := fun x4 x5 x6 => by
      unfold f_X10_sender_246
      rw [vb_e, nI_1]
    have e213 : ∀ x4 x5 x6 v : Int32, f_X10_sender_213 N S s q x2 x4 x5 x6 (nI i) v = S s q x2 x4 x5 (sSt x2 x6 v) (nI (i + 1)) := fun x4 x5 x6 v => by
      unfold f_X10_sender_213 f_X10_sender_225 f_X10_sender_242 sSt imin imax
      rw [e246, e246]
      have a1 : (if x6 ≤ v then S s q x2 x4 x5 x6 (nI (i + 1)) else S s q x2 x4 x5 v (nI (i + 1))) = S s q x2 x4 x5 (if v < x6 then v else x6) (nI (i + 1)) := by
        by_cases h : v < x6
        · rw [if_pos h, if_neg (by rw [i_lt] at h; rw [i_le]; omega)]
        · rw [if_neg h, if_pos (by rw [i_lt] at h; rw [i_le]; omega)]
      have a2 : (if v ≤ x6 then S s q x2 x4 x5 x6 (nI (i + 1)) else S s q x2 x4 x5 v (nI (i + 1))) = S s q x2 x4 x5 (if x6 < v then v else x6) (nI (i + 1)) := by
        by_cases h : x6 < v
        · rw [if_pos h, if_neg (by rw [i_lt] at h; rw [i_le]; omega)]
        · rw [if_neg h, if_pos (by rw [i_lt] at h; rw [i_le]; omega)]
      rw [a1, a2]
      by_cases h3 : x2 = 3
      · rw [if_pos h3, if_pos (show x2 = 3 ∨ x2 = 5 from Or.inl h3)]
      · rw [if_neg h3]
        by_cases h5 : x2 = 5
        · rw [if_pos h5, if_pos (show x2 = 3 ∨ x2 = 5 from Or.inr h5)]
        · rw [if_neg h5, if_neg (show ¬ (x2 = 3 ∨ x2 = 5) from fun z => z.elim h3 h5)]
    unfold f_X10_sender_136
    rw [p3.2.2.2.2.2.2.2.1, if_neg g1, g2, ck_t, vb_e, ck_t, vb_e, ck_t, ck_t, ck_t, ix_nI (by omega), e246, e213, e213, e213]
    by_cases h : s 50 i = q
    · have hO : (fun j => decide (s 50 j = q)) i = true := decide_eq_true h
      rw [if_pos h, fld_t hO, fld_t hO, fb_ct_succ, if_pos hO, nI_1]
      unfold sVf
      by_cases h3 : x2 = 3
      · rw [if_pos h3, if_pos h3]; rfl
      · rw [if_neg h3, if_neg h3]
        by_cases h4 : x2 = 4
        · rw [if_pos h4, if_pos h4]; rfl
        · rw [if_neg h4, if_neg h4]; rfl
    · have hO : ¬ (fun j => decide (s 50 j = q)) i = true := fun z => h (of_decide_eq_true z)
      rw [if_neg h, fld_f hO, fld_f hO, fb_ct_succ, if_neg hO]; rfl
theorem ok_sender {N : Nat} (hN : 1026 ≤ N) : ag_sender N PS := by
  intro x1 x2 s p
  obtain ⟨K, hK, hK2⟩ := cntK p
  dsimp only
  by_cases h1 : inR x1 K = true
  · obtain ⟨k, hk, rfl⟩ := inR_vI h1 (by omega)
    obtain ⟨t, u, l, et, hd⟩ := drawn_e (N := N) (by omega) p hK hK2 hk
    obtain ⟨hp1, hp2⟩ := drawn_pl hd
    obtain ⟨hD, pt, pu, sm, hj, h51, h50, hl, ol, hle⟩ := hd
    obtain ⟨d1, d2, d3, d4, d5, d6, d7, d8, d9, d10⟩ := hD
    have h60 := p.2.2.1.2.2.2.2.2.2.2.2.1
    have hv := p.2.2.1.2.2.2.2.2.2.2.2.2.1 l hl
    have hcls : f_X9_sender N s (nI k) x2 = (if x2 = 0 then some (t 22 0, t) else if x2 = 1 then some (t 21 2, t) else if x2 = 2 then some (t 21 3, t) else if x2 = 3 then some (t 21 4, t) else if x2 = 4 then some (t 21 5, t) else if x2 = 5 then some (t 21 6, t) else if x2 = 6 then some (t 21 7, t) else if x2 = 7 then some (nI (fb_ct (fun f => plG (fun j => decide (s 20 j = nI k)) s f (nM s)) 1024), t) else if x2 = 8 then some (nI (fb_ct (bt (t 21 8)) 32), t) else some (-1, t)) := by
      unfold f_X9_sender
      rw [hK, isBelow_e N s _ (by omega), bd_e, h1, if_neg (by decide), et, bd_e, count_e (N := N) (by omega) t _ hp1, bd_e, bitCount_e, bd_e]
      rfl
    have hmod : f_X10_sender N t (nI k) x2 = (if inR x2 9 = true then (if x2 = 0 then some (nI l, u) else if x2 = 2 then some (u 44 l, u) else if x2 = 7 then some (nI (fb_ct (fun f => plG (fun j => decide (s 20 j = nI k)) s f (nM s)) 1024), u) else if x2 = 3 then f_X10_sender_131 N u (nI k) x2 0 0 (u 45 l) else if x2 = 4 then f_X10_sender_131 N u (nI k) x2 0 0 (u 46 l) else f_X10_sender_131 N u (nI k) x2 0 0 (u 47 l)) else some (-1, u)) := by
      unfold f_X10_sender
      have hc : l_X10_sender_57 N u (nI k) 0 0 = _ := cntM_loop (N := N) (by omega) pu.1 pu.2.2.1 (nI k) _ hp2 1024 0 N (by omega) (by omega)
      rw [hj, bd_e, if_neg (by decide), isIn_e, btw_lit x2 (show (8 : Int32) = nI 8 from rfl) (by decide), bd_e, ifb, inR_nI (show k < 60 by omega) (by decide), ck_t, ix_nI (show k < 2 ^ 31 by omega), h51, vb_e, inR_nI (show l < 60 by omega) (by decide), ck_t, ck_t, ck_t, ck_t, ix_nI (show l < 2 ^ 31 by omega), hc]
      cases inR x2 9 <;> rfl
    have hloop : ∀ a : Int32, f_X10_sender_131 N u (nI k) x2 0 0 a = (if x2 = 1 then some (nI (fb_ct (fun j => decide (s 20 j = nI k)) (nM s)), u) else if x2 = 8 then l_X10_sender_275 N u (fld (fun j => decide (s 20 j = nI k)) (fun x j => sbit x (s 43 j)) 0 (nM s)) 0 0 else some (fld (fun j => decide (s 20 j = nI k)) (fun x j => sSt x2 x (sVf s x2 j)) a (nM s), u)) := fun a => by
      have e := snd_loop (N := N) pu.2.2.1 (nI k) x2 a (nM u) 0 N (by omega) (by rw [nM_same sm]; omega)
      have e2 : f_X10_sender_131 N u (nI k) x2 0 0 a = _ := e
      rw [e2, nM_same sm]
      have hO : ∀ j, j < nM s → decide (u 50 j = nI k) = decide (s 20 j = nI k) := fun j hj => by rw [h50 j hj]
      rw [fb_ct_cong hO, fld_cong (g2 := fun x j => sbit x (s 43 j)) (O2 := fun j => decide (s 20 j = nI k)) hO (fun x i _ _ => by rw [sm.1 43 rfl]), fld_cong (g2 := fun x j => sSt x2 x (sVf s x2 j)) (O2 := fun j => decide (s 20 j = nI k)) hO (fun x i _ _ => by unfold sVf; rw [sm.1 45 rfl, sm.1 46 rfl, sm.1 47 rfl])]
    by_cases h2 : inR x2 9 = true
    · rw [if_pos h2, hloop, hloop, hloop] at hmod
      obtain ⟨j, hj9, hx⟩ := inR_vI h2 (by omega)
      have oL : decide (s 20 l = nI k) = true := decide_eq_true ol
      have bnd : ∀ (n : Nat) (y : Int32), vI n y → n ≤ 10000 → y ≤ nI n ∧ -1 ≤ y := fun n y ⟨z, hz, e⟩ hn => by
        rw [e, i_le, i_le, nI_toInt (by omega), nI_toInt (by omega), show (-1 : Int32).toInt = -1 from rfl]
        omega
      match j, hj9 with
      | 0, _ =>
        subst hx
        refine ⟨nI l, t, u, ?_, hmod.trans (if_pos rfl), pu⟩
        rw [hcls, if_pos (show nI 0 = 0 from rfl)]
        have := d3 l hl oL
        rw [fb_ct_zero.mpr (fun j hj => by rw [decide_eq_false_iff_not]; intro z; have := (hle j (by omega) z).1; omega)] at this
        rw [this]
      | 1, _ =>
        subst hx
        refine ⟨_, t, u, hcls.trans rfl, hmod.trans ?_, pu⟩
        rw [d2]; rfl
      | 2, _ =>
        subst hx
        refine ⟨_, t, u, hcls.trans rfl, hmod.trans ?_, pu⟩
        rw [d4, ch_eq oL (nM s) hl (fun j hj z => (hle j hj (of_decide_eq_true z)).2), sm.1 44 rfl]; rfl
      | 3, _ =>
        subst hx
        refine ⟨_, t, u, hcls.trans rfl, hmod.trans ?_, pu⟩
        have e : fld (fun j => decide (s 20 j = nI k)) (fun x j => sSt (nI 3) x (sVf s (nI 3) j)) (u 45 l) (nM s) = t 21 4 := by
          rw [d5, sm.1 45 rfl]
          exact mn_eq (v := s 45) (M := 10000) oL hl (bnd 10000 _ hv.2.2.1 (by omega)).1
        rw [e]; rfl
      | 4, _ =>
        subst hx
        refine ⟨_, t, u, hcls.trans rfl, hmod.trans ?_, pu⟩
        have e : fld (fun j => decide (s 20 j = nI k)) (fun x j => sSt (nI 4) x (sVf s (nI 4) j)) (u 46 l) (nM s) = t 21 5 := by
          rw [d6, sm.1 46 rfl]
          exact mx_eq (v := s 46) (M := -1) oL hl (bnd 10000 _ hv.2.2.2.1 (by omega)).2
        rw [e]; rfl
      | 5, _ =>
        subst hx
        refine ⟨_, t, u, hcls.trans rfl, hmod.trans ?_, pu⟩
        have e : fld (fun j => decide (s 20 j = nI k)) (fun x j => sSt (nI 5) x (sVf s (nI 5) j)) (u 47 l) (nM s) = t 21 6 := by
          rw [d7, sm.1 47 rfl]
          exact mn_eq (v := s 47) (M := 1000) oL hl (bnd 1000 _ hv.2.2.2.2.2 (by omega)).1
        rw [e]; rfl
      | 6, _ =>
        subst hx
        refine ⟨_, t, u, hcls.trans rfl, hmod.trans ?_, pu⟩
        have e : fld (fun j => decide (s 20 j = nI k)) (fun x j => sSt (nI 6) x (sVf s (nI 6) j)) (u 47 l) (nM s) = t 21 7 := by
          rw [d8, sm.1 47 rfl]
          exact mx_eq (v := s 47) (M := -1) oL hl (bnd 1000 _ hv.2.2.2.2.2 (by omega)).2
        rw [e]; rfl
      | 7, _ =>
        subst hx
        exact ⟨_, t, u, hcls.trans rfl, hmod.trans rfl, pu⟩
      | 8, _ =>
        subst hx
        refine ⟨_, t, u, hcls.trans rfl, hmod.trans ?_, pu⟩
        have hP := p.1.2.2.2.2
        have e := ppc_loop N (s := u) (P := nP s) ((sm.2.1 36 0 rfl).trans p.1.2.2.2.1) hP (t 21 8) (nP s) 0 N (by omega) (by omega)
        have e2 : l_X10_sender_275 N u (t 21 8) 0 0 = _ := e
        rw [← d9, e2]
        have hz : fb_ct (bt (t 21 8)) 32 = fb_ct (bt (t 21 8)) (nP s) := by
          have z0 : fb_ct (fun i => bt (t 21 8) (nP s + i)) (32 - nP s) = 0 := fb_ct_zero.mpr (fun i hi => ?_)
          · rw [show 32 = nP s + (32 - nP s) by omega, fb_ct_split, z0, Nat.add_zero]
          rw [d9]
          exact sb_bits hP (nM s) (fun j hj _ => (p.2.2.1.2.2.2.2.2.2.2.2.2.1 j hj).1) (nP s + i) (by omega) (by omega)
        rw [hz]; rfl
    · rw [if_neg h2] at hmod
      refine ⟨-1, t, u, ?_, hmod, pu⟩
      have ne : ∀ j, j < 9 → ¬ x2 = nI j := fun j hj z => h2 (by rw [z]; exact inR_nI hj (by decide))
      rw [hcls, if_neg (show ¬ x2 = 0 from ne 0 (by decide)), if_neg (show ¬ x2 = 1 from ne 1 (by decide)), if_neg (show ¬ x2 = 2 from ne 2 (by decide)), if_neg (show ¬ x2 = 3 from ne 3 (by decide)), if_neg (show ¬ x2 = 4 from ne 4 (by decide)), if_neg (show ¬ x2 = 5 from ne 5 (by decide)), if_neg (show ¬ x2 = 6 from ne 6 (by decide)), if_neg (show ¬ x2 = 7 from ne 7 (by decide)), if_neg (show ¬ x2 = 8 from ne 8 (by decide))]
  · have h1' := Bool.eq_false_iff.mpr h1
    obtain ⟨u, eu, pu⟩ := noSender (N := N) (by omega) p hK hK2 h1'
    refine ⟨-1, s, u, ?_, ?_, pu⟩
    · unfold f_X9_sender
      rw [hK, isBelow_e N s _ (by omega), bd_e, h1', if_pos (show b01 false = 0 from rfl)]
    · unfold f_X10_sender
      rw [eu, bd_e, if_pos rfl]
