/-! marks joined into senders: the class's gather -/
theorem Cn_rf (R : Nat → Nat → Bool) (n i : Nat) : Cn R n i i := ⟨0, rfl⟩
theorem Cn_st {R : Nat → Nat → Bool} {n i m j : Nat} (h : Cn R n i m) (hm : m < n) (hr : R m j = true) : Cn R n i j := by
  obtain ⟨k, hk⟩ := h
  exact ⟨k + 1, Or.inr ⟨m, hm, hk, hr⟩⟩
theorem rch_tr {R : Nat → Nat → Bool} {n i j : Nat} (h : Cn R n i j) : ∀ k l, rch R n k j l → Cn R n i l
  | 0, l, hk => by
    have e : j = l := hk
    rw [← e]; exact h
  | k + 1, l, hk => by
    rcases (show rch R n k j l ∨ ∃ m, m < n ∧ rch R n k j m ∧ R m l = true from hk) with q | ⟨m, hm, q, hr⟩
    · exact rch_tr h k l q
    · exact Cn_st (rch_tr h k m q) hm hr
theorem Cn_tr {R : Nat → Nat → Bool} {n i j l : Nat} (h : Cn R n i j) (g : Cn R n j l) : Cn R n i l := by
  obtain ⟨k, hk⟩ := g
  exact rch_tr h k l hk
theorem rch_sy {R : Nat → Nat → Bool} {n : Nat} (hs : ∀ a b, R a b = R b a) {i : Nat} : ∀ k j, j < n → rch R n k i j → Cn R n j i
  | 0, j, _, hk => by
    have e : i = j := hk
    rw [e]; exact Cn_rf R n j
  | k + 1, j, hj, hk => by
    rcases (show rch R n k i j ∨ ∃ m, m < n ∧ rch R n k i m ∧ R m j = true from hk) with q | ⟨m, hm, q, hr⟩
    · exact rch_sy hs k j hj q
    · exact Cn_tr (Cn_st (Cn_rf R n j) hj (by rw [hs]; exact hr)) (rch_sy hs k m hm q)
theorem Cn_sy {R : Nat → Nat → Bool} {n i j : Nat} (hs : ∀ a b, R a b = R b a) (hj : j < n) (h : Cn R n i j) : Cn R n j i := by
  obtain ⟨k, hk⟩ := h
  exact rch_sy hs k j hj hk
theorem rch_cl {α : Type} {R : Nat → Nat → Bool} {n : Nat} {f : Nat → α} (hf : ∀ a b, a < n → b < n → R a b = true → f a = f b) {i : Nat} : ∀ k j, j < n → rch R n k i j → f i = f j
  | 0, j, _, hk => by
    have e : i = j := hk
    rw [e]
  | k + 1, j, hj, hk => by
    rcases (show rch R n k i j ∨ ∃ m, m < n ∧ rch R n k i m ∧ R m j = true from hk) with q | ⟨m, hm, q, hr⟩
    · exact rch_cl hf k j hj q
    · exact (rch_cl hf k m hm q).trans (hf m j hm hj hr)
theorem Cn_cl {α : Type} {R : Nat → Nat → Bool} {n : Nat} {f : Nat → α} (hf : ∀ a b, a < n → b < n → R a b = true → f a = f b) {i j : Nat} (hj : j < n) (h : Cn R n i j) : f i = f j := by
  obtain ⟨k, hk⟩ := h
  exact rch_cl hf k j hj hk
/-- labels that respect all joins, are reached, and are the least of their own -/
def LabOK (R : Nat → Nat → Bool) (n : Nat) (l : Nat → Nat) : Prop := (∀ a, a < n → l a ≤ a ∧ l (l a) = l a) ∧ (∀ a b, a < n → b < n → R a b = true → l a = l b) ∧ ∀ a, a < n → Cn R n a (l a)
theorem LabOK_num {R : Nat → Nat → Bool} {n : Nat} {l : Nat → Nat} (hs : ∀ a b, R a b = R b a) (h : LabOK R n l) {num : Nat → Int32} (hn : ∀ a, a < n → num a = nI (fb_ct (fun i => decide (l i = i)) (l a))) : NumOK R n num (fun i => decide (l i = i)) := by
  obtain ⟨h1, h2, h3⟩ := h
  refine ⟨fun i hi => ?_, fun i hi hl => ?_, fun i j hi hj hc => ?_⟩
  · constructor
    · intro hl j hj hc
      have hl2 : l i = i := of_decide_eq_true hl
      have := Cn_cl h2 hi hc
      have := (h1 j (by omega)).1
      omega
    · intro hld
      refine decide_eq_true ?_
      rcases Nat.lt_or_ge (l i) i with q | q
      · exact absurd (Cn_sy hs (show l i < n by omega) (h3 i hi)) (hld (l i) q)
      · have := (h1 i hi).1; omega
  · have hl2 : l i = i := of_decide_eq_true hl
    rw [hn i hi, hl2]
  · rw [hn i hi, hn j hj, Cn_cl h2 hj hc]
def jnG (c o f t : Nat → Int32) (sh gp : Int32) (i j : Nat) : Bool :=
  decide (c i = c j) && (decide ((o i).toInt - (o j).toInt ≤ sh.toInt) && (decide ((o j).toInt - (o i).toInt ≤ sh.toInt) &&
  (decide ((f i).toInt - (t j).toInt ≤ gp.toInt) && decide ((f j).toInt - (t i).toInt ≤ gp.toInt))))
theorem jnB_G (s : Hp) : jnB s = jnG (s 44) (s 47) (s 45) (s 46) (s 36 16) (s 36 17) := rfl
theorem jnG_sy (c o f t : Nat → Int32) (sh gp : Int32) (i j : Nat) : jnG c o f t sh gp i j = jnG c o f t sh gp j i := by
  unfold jnG
  rw [Bool.eq_iff_iff]
  simp only [Bool.and_eq_true, decide_eq_true_iff]
  constructor
  · rintro ⟨h1, h2, h3, h4, h5⟩; exact ⟨h1.symm, h3, h2, h5, h4⟩
  · rintro ⟨h1, h2, h3, h4, h5⟩; exact ⟨h1.symm, h3, h2, h5, h4⟩
/-- marks that are valid, as far as joins go -/
def mkV (o f t : Nat → Int32) (n : Nat) : Prop := ∀ i, i < n → vI 10000 (f i) ∧ vI 10000 (t i) ∧ vI 1000 (o i)
theorem sub_int {a b : Int32} (ha : vI 10000 a) (hb : vI 10000 b) : (a - b).toInt = a.toInt - b.toInt := by
  obtain ⟨x, hx, rfl⟩ := ha
  obtain ⟨y, hy, rfl⟩ := hb
  rw [pk_sub_toInt (by omega) (by omega), nI_toInt (by omega), nI_toInt (by omega)]
theorem iabs_int {x : Int32} (h : -10000 ≤ x.toInt) (h2 : x.toInt ≤ 10000) : (iabs x).toInt = if 0 ≤ x.toInt then x.toInt else -x.toInt := by
  unfold iabs
  by_cases h0 : 0 ≤ x
  · rw [if_pos h0, if_pos (by rw [i_le, i_0] at h0; exact h0)]
  · rw [if_neg h0, if_neg (by rw [i_le, i_0] at h0; exact h0)]
    rw [Int32.toInt_sub, i_0]
    rw [Int.bmod_def]
    split <;> omega
theorem areJoined_e (N : Nat) (s : Hp) {n i j : Nat} (hn : n ≤ 60) (hv : mkV (s 15) (s 13) (s 14) n) (hi : i < n) (hj : j < n) (sh gp : Int32) : f_X2_areJoined N s (nI i) (nI j) sh gp = some (b01 (jnG (s 12) (s 15) (s 13) (s 14) sh gp i j), s) := by
  have g1 : inR (nI i) 60 = true := inR_nI (by omega) (by decide)
  have g2 : inR (nI j) 60 = true := inR_nI (by omega) (by decide)
  obtain ⟨f1, t1, o1⟩ := hv i hi
  obtain ⟨f2, t2, o2⟩ := hv j hj
  have o1' := vI_mono o1 (show 1000 ≤ 10000 by decide)
  have o2' := vI_mono o2 (show 1000 ≤ 10000 by decide)
  have ho : (s 15 i - s 15 j).toInt = (s 15 i).toInt - (s 15 j).toInt := sub_int o1' o2'
  have hb1 : 0 ≤ (s 15 i).toInt ∧ (s 15 i).toInt < 1000 := by obtain ⟨x, hx, e⟩ := o1; rw [e, nI_toInt (by omega)]; omega
  have hb2 : 0 ≤ (s 15 j).toInt ∧ (s 15 j).toInt < 1000 := by obtain ⟨x, hx, e⟩ := o2; rw [e, nI_toInt (by omega)]; omega
  have ha := iabs_int (x := s 15 i - s 15 j) (by omega) (by omega)
  unfold f_X2_areJoined jnG
  rw [g1, g2, ck_t, ck_t, ck_t, ck_t, ck_t, ck_t, ck_t, ck_t, ix_nI (by omega), ix_nI (by omega)]
  by_cases h1 : s 12 i = s 12 j
  · rw [if_pos h1, decide_eq_true h1, Bool.true_and]
    by_cases h2 : sh < iabs (s 15 i - s 15 j)
    · rw [if_pos h2]
      rw [i_lt, ha, ho] at h2
      have : (decide ((s 15 i).toInt - (s 15 j).toInt ≤ sh.toInt) && (decide ((s 15 j).toInt - (s 15 i).toInt ≤ sh.toInt) && (decide ((s 13 i).toInt - (s 14 j).toInt ≤ gp.toInt) && decide ((s 13 j).toInt - (s 14 i).toInt ≤ gp.toInt)))) = false := by
        rw [Bool.eq_false_iff]
        intro q
        simp only [Bool.and_eq_true, decide_eq_true_iff] at q
        split at h2 <;> omega
      rw [this]; rfl
    · rw [if_neg h2]
      rw [i_lt, ha, ho] at h2
      rw [decide_eq_true (show (s 15 i).toInt - (s 15 j).toInt ≤ sh.toInt by split at h2 <;> omega), decide_eq_true (show (s 15 j).toInt - (s 15 i).toInt ≤ sh.toInt by split at h2 <;> omega), Bool.true_and, Bool.true_and]
      by_cases h3 : gp < s 13 i - s 14 j
      · rw [if_pos h3]
        rw [i_lt, sub_int f1 t2] at h3
        rw [decide_eq_false (show ¬ (s 13 i).toInt - (s 14 j).toInt ≤ gp.toInt by omega)]; rfl
      · rw [if_neg h3]
        rw [i_lt, sub_int f1 t2] at h3
        rw [decide_eq_true (show (s 13 i).toInt - (s 14 j).toInt ≤ gp.toInt by omega), Bool.true_and]
        by_cases h4 : gp < s 13 j - s 14 i
        · rw [if_pos h4]
          rw [i_lt, sub_int f2 t1] at h4
          rw [decide_eq_false (show ¬ (s 13 j).toInt - (s 14 i).toInt ≤ gp.toInt by omega)]; rfl
        · rw [if_neg h4]
          rw [i_lt, sub_int f2 t1] at h4
          rw [decide_eq_true (show (s 13 j).toInt - (s 14 i).toInt ≤ gp.toInt by omega)]; rfl
  · rw [if_neg h1, decide_eq_false h1]; rfl
/-- unite: labels that were lost become the kept one -/
theorem unite_loop (N : Nat) {i : Nat} (hi : i < 60) (kp lo : Int32) : ∀ k a m (s : Hp), a + k = i + 1 → k < m → ∃ t, lp (fun _ _ _ _ _ => none) (f_X0_unite_36 N) m s (nI i) kp lo (nI a) = some (0, t) ∧ (∀ c, c ≠ 19 → t c = s c) ∧ ∀ x, t 19 x = if a ≤ x ∧ x ≤ i ∧ s 19 x = lo then kp else s 19 x
  | k, a, 0, s, _, hm => absurd hm (Nat.not_lt_zero k)
  | 0, a, m + 1, s, ha, _ => by
    rw [lp_s]; unfold f_X0_unite_36
    rw [if_pos (nI_lt (by omega) (by omega))]
    exact ⟨s, rfl, fun _ _ => rfl, fun x => by rw [if_neg (by omega)]⟩
  | k + 1, a, m + 1, s, ha, hm => by
    have ih := fun s => unite_loop N hi kp lo k (a + 1) m s (by omega) (by omega)
    have g1 : ¬ nI i < nI a := nI_nlt (by omega) (by omega)
    have g2 : inR (nI a) 60 = true := inR_nI (by omega) (by decide)
    have g3 : ix (nI a) = a := ix_nI (by omega)
    rw [lp_s]
    generalize lp (fun _ _ _ _ _ => none) (f_X0_unite_36 N) m = S at ih ⊢
    unfold f_X0_unite_36 f_X0_unite_62
    rw [if_neg g1, g2, ck_t, ck_t, g3, sb_e, vb_e, vb_e, nI_1]
    by_cases h : s 19 a = lo
    · rw [if_pos h]
      obtain ⟨t, e, r1, r2⟩ := ih (hset s 19 a kp)
      refine ⟨t, e, fun c hc => by rw [r1 c hc, hset_d hc], fun x => ?_⟩
      rw [r2 x, hset_rd, if_pos rfl]
      by_cases hx : x = a
      · subst hx
        rw [if_pos rfl, if_neg (by omega), if_pos ⟨by omega, by omega, h⟩]
      · rw [if_neg hx]
        by_cases hc : a + 1 ≤ x ∧ x ≤ i ∧ s 19 x = lo
        · rw [if_pos hc, if_pos ⟨by omega, hc.2⟩]
        · rw [if_neg hc, if_neg (fun q => hc ⟨by omega, q.2⟩)]
    · rw [if_neg h]
      obtain ⟨t, e, r1, r2⟩ := ih s
      refine ⟨t, e, r1, fun x => ?_⟩
      rw [r2 x]
      by_cases hx : x = a
      · subst hx
        rw [if_neg (by omega), if_neg (fun q => h q.2.2)]
      · by_cases hc : a + 1 ≤ x ∧ x ≤ i ∧ s 19 x = lo
        · rw [if_pos hc, if_pos ⟨by omega, hc.2⟩]
        · rw [if_neg hc, if_neg (fun q => hc ⟨by omega, q.2⟩)]
theorem unite_e {N : Nat} (hN : 101 ≤ N) (s : Hp) {i j : Nat} (hi : i < 60) (hj : j ≤ i) (l : Nat → Nat) (hl : ∀ a, a ≤ i → s 19 a = nI (l a) ∧ l a < 60) : ∃ t, f_X0_unite N s (nI i) (nI j) = some (0, t) ∧ (∀ c, c ≠ 19 → t c = s c) ∧ ∀ a, a ≤ i → t 19 a = nI (if l a = max (l i) (l j) then min (l i) (l j) else l a) := by
  have g1 : inR (nI i) 60 = true := inR_nI (by omega) (by decide)
  have g2 : inR (nI j) 60 = true := inR_nI (by omega) (by decide)
  obtain ⟨li, li2⟩ := hl i (Nat.le_refl _)
  obtain ⟨lj, lj2⟩ := hl j hj
  obtain ⟨t, e, r1, r2⟩ := unite_loop N hi (nI (min (l i) (l j))) (nI (max (l i) (l j))) (i + 1) 0 N s (by omega) (by omega)
  refine ⟨t, ?_, r1, fun a ha => ?_⟩
  · unfold f_X0_unite
    rw [g1, g2, ck_t, ck_t, vb_e, ck_t, ck_t, vb_e, ix_nI (by omega), ix_nI (by omega), li, lj, nI_imin (by omega) (by omega), nI_imax (by omega) (by omega)]
    exact e
  · obtain ⟨la, la2⟩ := hl a ha
    rw [r2 a, la]
    by_cases h : l a = max (l i) (l j)
    · rw [if_pos h, if_pos ⟨by omega, ha, by rw [h]⟩]
    · rw [if_neg h, if_neg (fun q => h ((nI_eq (by omega) (by omega)).mp q.2.2))]
def PInv (R : Nat → Nat → Bool) (n i j : Nat) (l : Nat → Nat) : Prop := (∀ a, a ≤ i → l a ≤ a ∧ l (l a) = l a) ∧ (∀ a b, a < i → b < i → R a b = true → l a = l b) ∧ (∀ b, b < j → R i b = true → l i = l b) ∧ ∀ a, a ≤ i → Cn R n a (l a)
theorem PInv_un {R : Nat → Nat → Bool} {n i j : Nat} {l : Nat → Nat} (hs : ∀ a b, R a b = R b a) (hi : i < n) (hj : j < i) (h : PInv R n i j l) (hr : R i j = true) (hne : l i ≠ l j) : PInv R n i (j + 1) (fun a => if l a = max (l i) (l j) then min (l i) (l j) else l a) := by
  obtain ⟨h1, h2, h3, h4⟩ := h
  have i1 := h1 i (Nat.le_refl _)
  have j1 := h1 j (by omega)
  have kept : l (min (l i) (l j)) = min (l i) (l j) := by
    rcases Nat.le_total (l i) (l j) with q | q
    · rw [Nat.min_eq_left q]; exact i1.2
    · rw [Nat.min_eq_right q]; exact j1.2
  refine ⟨fun a ha => ?_, fun a b ha hb hab => ?_, fun b hb hib => ?_, fun a ha => ?_⟩
  · have a1 := h1 a ha
    dsimp only
    by_cases q : l a = max (l i) (l j)
    · rw [if_pos q, kept, if_neg (by omega)]
      exact ⟨by omega, rfl⟩
    · rw [if_neg q, a1.2, if_neg q]
      exact ⟨a1.1, rfl⟩
  · dsimp only
    rw [h2 a b ha hb hab]
  · dsimp only
    by_cases e : b = j
    · subst e
      by_cases q : l i = max (l i) (l b)
      · rw [if_pos q, if_neg (show ¬ l b = max (l i) (l b) by omega)]; omega
      · rw [if_neg q, if_pos (show l b = max (l i) (l b) by omega)]; omega
    · rw [h3 b (by omega) hib]
  · dsimp only
    have ij : Cn R n i j := Cn_st (Cn_rf R n i) hi hr
    have jl : Cn R n i (l j) := Cn_tr ij (h4 j (by omega))
    have il : Cn R n i (l i) := h4 i (Nat.le_refl _)
    have toMin : Cn R n i (min (l i) (l j)) := by
      rcases Nat.le_total (l i) (l j) with q | q
      · rw [Nat.min_eq_left q]; exact il
      · rw [Nat.min_eq_right q]; exact jl
    have toMax : Cn R n i (max (l i) (l j)) := by
      rcases Nat.le_total (l i) (l j) with q | q
      · rw [Nat.max_eq_right q]; exact jl
      · rw [Nat.max_eq_left q]; exact il
    by_cases q : l a = max (l i) (l j)
    · rw [if_pos q]
      have h9 := h4 a ha
      rw [q] at h9
      exact Cn_tr h9 (Cn_tr (Cn_sy hs (show max (l i) (l j) < n by omega) toMax) toMin)
    · rw [if_neg q]; exact h4 a ha
/-- what gather leaves as it was -/
def kpG (s t : Hp) : Prop := ∀ c, c ≠ 19 → t c = s c
theorem gin_loop {N : Nat} (hN : 101 ≤ N) {n i : Nat} (hn : n ≤ 60) (hi : i < n) (k2 : Hp → Int32 → Option (Int32 × Hp)) : ∀ k j m (s : Hp) (l : Nat → Nat), j + k = i → k < m → mkV (s 15) (s 13) (s 14) n → (∀ a, a ≤ i → s 19 a = nI (l a)) → PInv (jnG (s 12) (s 15) (s 13) (s 14) (s 18 2) (s 18 3)) n i j l → ∃ (t : Hp) (l2 : Nat → Nat), lp (fun _ _ _ => none) (f_X0_gather_22 N k2) m s (nI i) (nI j) = k2 t (nI (i + 1)) ∧ kpG s t ∧ (∀ a, a ≤ i → t 19 a = nI (l2 a)) ∧ PInv (jnG (s 12) (s 15) (s 13) (s 14) (s 18 2) (s 18 3)) n i i l2
  | k, j, 0, s, l, _, hm, _, _, _ => absurd hm (Nat.not_lt_zero k)
  | 0, j, m + 1, s, l, hj, _, hv, hl, hP => by
    have e : j = i := by omega
    subst e
    rw [lp_s]; unfold f_X0_gather_22
    rw [if_pos (i_le.mpr (Int.le_refl _)), vb_e, nI_1]
    exact ⟨s, l, rfl, fun _ _ => rfl, hl, hP⟩
  | k + 1, j, m + 1, s, l, hj, hm, hv, hl, hP => by
    have ih := fun s l => gin_loop hN hn hi k2 k (j + 1) m s l (by omega) (by omega)
    have g1 : ¬ nI i ≤ nI j := nI_ge (by omega) (by omega)
    have g2 : inR (nI i) 60 = true := inR_nI (by omega) (by decide)
    have g3 : inR (nI j) 60 = true := inR_nI (by omega) (by decide)
    have e65 : ∀ (S : Hp → Int32 → Int32 → Option (Int32 × Hp)) (u : Hp), f_X0_gather_65 N k2 S u (nI i) (nI j) = S u (nI i) (nI (j + 1)) := fun S u => by
      unfold f_X0_gather_65
      rw [vb_e, nI_1]
    rw [lp_s]
    generalize lp (fun _ _ _ => none) (f_X0_gather_22 N k2) m = S at ih ⊢
    unfold f_X0_gather_22
    have l60 : ∀ a, a ≤ i → l a < 60 := fun a ha => by have := (hP.1 a ha).1; omega
    rw [if_neg g1, g2, g3, ck_t, ck_t, ix_nI (by omega), ix_nI (by omega), e65, hl i (Nat.le_refl _), hl j (by omega)]
    have step : ∀ l', (l' i = l' j ∨ jnG (s 12) (s 15) (s 13) (s 14) (s 18 2) (s 18 3) i j = false) → PInv (jnG (s 12) (s 15) (s 13) (s 14) (s 18 2) (s 18 3)) n i j l' → PInv (jnG (s 12) (s 15) (s 13) (s 14) (s 18 2) (s 18 3)) n i (j + 1) l' := fun l' ho hp => ⟨hp.1, hp.2.1, fun b hb hr => by
      by_cases e : b = j
      · subst e
        rcases ho with ho | ho
        · exact ho
        · rw [ho] at hr; cases hr
      · exact hp.2.2.1 b (by omega) hr, hp.2.2.2⟩
    by_cases h1 : l i = l j
    · rw [if_pos (by rw [h1])]
      exact ih s l hv hl (step l (Or.inl h1) hP)
    · rw [if_neg (fun q => h1 ((nI_eq (by have := l60 i (Nat.le_refl _); omega) (by have := l60 j (by omega); omega)).mp q)), areJoined_e N s hn hv hi (show j < n by omega), bd_e, ifb]
      cases hr : jnG (s 12) (s 15) (s 13) (s 14) (s 18 2) (s 18 3) i j with
      | false =>
        rw [cond_false, e65]
        exact ih s l hv hl (step l (Or.inr hr) hP)
      | true =>
        obtain ⟨t, et, r1, r2⟩ := unite_e hN s (show i < 60 by omega) (show j ≤ i by omega) l (fun a ha => ⟨hl a ha, l60 a ha⟩)
        rw [cond_true, et, bd_e, e65]
        have hP2 := PInv_un (jnG_sy _ _ _ _ _ _) hi (show j < i by omega) hP hr h1
        have c12 := r1 12 (by decide)
        have c13 := r1 13 (by decide)
        have c14 := r1 14 (by decide)
        have c15 := r1 15 (by decide)
        have c18 := r1 18 (by decide)
        obtain ⟨u, l2, e2, k1, k3, k4⟩ := ih t _ (by rw [c15, c13, c14]; exact hv) r2 (by rw [c12, c15, c13, c14, c18]; exact hP2)
        refine ⟨u, l2, e2, fun c hc => by rw [k1 c hc, r1 c hc], k3, ?_⟩
        rw [c12, c15, c13, c14, c18] at k4
        exact k4
/-- giveNumbers -/
theorem give_loop {N : Nat} (hN : 101 ≤ N) {n : Nat} (hn : n ≤ 60) (l : Nat → Nat) (hl1 : ∀ a, a < n → l a ≤ a ∧ l (l a) = l a) : ∀ k i m (s : Hp), i + k = n → k < m → (∀ a, a < n → s 19 a = nI (l a)) → (∀ a, a < i → s 20 a = nI (fb_ct (fun x => decide (l x = x)) (l a))) → s 18 4 = nI (fb_ct (fun x => decide (l x = x)) i) → ∃ t, lp (fun _ _ _ => none) (f_X0_giveNumbers_7 N) m s (nI n) (nI i) = some (0, t) ∧ (∀ c, c ≠ 18 → c ≠ 20 → t c = s c) ∧ (∀ q, q ≠ 4 → t 18 q = s 18 q) ∧ (∀ a, a < n → t 20 a = nI (fb_ct (fun x => decide (l x = x)) (l a))) ∧ t 18 4 = nI (fb_ct (fun x => decide (l x = x)) n)
  | k, i, 0, s, _, hm, _, _, _ => absurd hm (Nat.not_lt_zero k)
  | 0, i, m + 1, s, hi, _, hl, hnum, hc => by
    have e : i = n := by omega
    subst e
    rw [lp_s]; unfold f_X0_giveNumbers_7
    rw [if_pos (i_le.mpr (Int.le_refl _))]
    exact ⟨s, rfl, fun _ _ _ => rfl, fun _ _ => rfl, hnum, hc⟩
  | k + 1, i, m + 1, s, hi, hm, hl, hnum, hc => by
    have ih := fun s => give_loop hN hn l hl1 k (i + 1) m s (by omega) (by omega)
    have g1 : ¬ nI n ≤ nI i := nI_ge (by omega) (by omega)
    have g2 : inR (nI i) 60 = true := inR_nI (by omega) (by decide)
    have g3 : ix (nI i) = i := ix_nI (by omega)
    have hli := hl1 i (by omega)
    have ct := fb_ct_succ (fun x => decide (l x = x)) i
    rw [lp_s]
    generalize lp (fun _ _ _ => none) (f_X0_giveNumbers_7 N) m = S at ih ⊢
    unfold f_X0_giveNumbers_7 f_X0_giveNumbers_62
    rw [if_neg g1, g2, ck_t, ck_t, ck_t, ck_t, g3, sb_e, sb_e, sb_e, vb_e, vb_e, nI_1, hl i (by omega)]
    by_cases h : l i = i
    · rw [if_pos (by rw [h]), hc]
      rw [decide_eq_true h, if_pos rfl] at ct
      have e4 : (hset s 20 i (nI (fb_ct (fun x => decide (l x = x)) i))) 18 4 + 1 = nI (fb_ct (fun x => decide (l x = x)) (i + 1)) := by
        show s 18 4 + 1 = _
        rw [hc, nI_1, ct]
      rw [e4]
      obtain ⟨t, e, r1, r2, r3, r4⟩ := ih (hset (hset s 20 i (nI (fb_ct (fun x => decide (l x = x)) i))) 18 4 (nI (fb_ct (fun x => decide (l x = x)) (i + 1)))) (fun a ha => hl a ha) (fun a ha => by
        rw [hset_d (by decide), hset_rd, if_pos rfl]
        by_cases ea : a = i
        · subst ea; rw [if_pos rfl, h]
        · rw [if_neg ea]; exact hnum a (by omega)) rfl
      refine ⟨t, e, fun c h1 h2 => by rw [r1 c h1 h2, hset_d h1, hset_d h2], fun q hq => by rw [r2 q hq, hs_slot hq, hset_d (by decide)], r3, r4⟩
    · have g4 : inR (nI (l i)) 60 = true := inR_nI (by omega) (by decide)
      rw [if_neg (fun q => h ((nI_eq (by omega) (by omega)).mp q)), g4, ck_t, ix_nI (by omega), hnum (l i) (by omega), hli.2]
      rw [decide_eq_false h, if_neg (by decide), Nat.add_zero] at ct
      obtain ⟨t, e, r1, r2, r3, r4⟩ := ih (hset s 20 i (nI (fb_ct (fun x => decide (l x = x)) (l i)))) (fun a ha => hl a ha) (fun a ha => by
        rw [hset_rd, if_pos rfl]
        by_cases ea : a = i
        · subst ea; rw [if_pos rfl]
        · rw [if_neg ea]; exact hnum a (by omega)) (by show s 18 4 = _; rw [ct]; exact hc)
      refine ⟨t, e, fun c h1 h2 => by rw [r1 c h1 h2, hset_d h2], fun q hq => by rw [r2 q hq, hset_d (by decide)], r3, r4⟩
/-- the outer loop of gather -/
theorem gat_loop {N : Nat} (hN : 101 ≤ N) {n : Nat} (hn : n ≤ 60) : ∀ k i m (s : Hp) (l : Nat → Nat), i + k = n → k < m → s 10 4 = nI n → mkV (s 15) (s 13) (s 14) n → (∀ a, a < i → s 19 a = nI (l a)) → (∀ a, a < i → l a ≤ a ∧ l (l a) = l a) → (∀ a b, a < i → b < i → jnG (s 12) (s 15) (s 13) (s 14) (s 18 2) (s 18 3) a b = true → l a = l b) → (∀ a, a < i → Cn (jnG (s 12) (s 15) (s 13) (s 14) (s 18 2) (s 18 3)) n a (l a)) → ∃ (t : Hp) (ld : Nat → Bool), lp (fun _ _ => none) (f_X0_gather_2 N) m s (nI i) = some (0, t) ∧ (∀ c, c ≠ 18 → c ≠ 19 → c ≠ 20 → t c = s c) ∧ (∀ q, q ≠ 4 → t 18 q = s 18 q) ∧ NumOK (jnG (s 12) (s 15) (s 13) (s 14) (s 18 2) (s 18 3)) n (t 20) ld ∧ t 18 4 = nI (fb_ct ld n)
  | k, i, 0, s, l, _, hm, _, _, _, _, _, _ => absurd hm (Nat.not_lt_zero k)
  | 0, i, m + 1, s, l, hi, _, hc, hv, hl, h1, h2, h3 => by
    have e : i = n := by omega
    subst e
    rw [lp_s]; unfold f_X0_gather_2 f_X0_giveNumbers
    rw [hc, if_pos (i_le.mpr (Int.le_refl _)), sb_e]
    obtain ⟨t, e, r1, r2, r3, r4⟩ := give_loop hN hn l h1 i 0 N (hset s 18 4 0) (by omega) (by omega) (fun a ha => hl a ha) (fun a ha => absurd ha (Nat.not_lt_zero a)) rfl
    refine ⟨t, fun x => decide (l x = x), ?_, fun c c1 c2 c3 => by rw [r1 c c1 c3, hset_d c1], fun q hq => by rw [r2 q hq, hs_slot hq], LabOK_num (jnG_sy _ _ _ _ _ _) ⟨h1, h2, h3⟩ r3, r4⟩
    have e' : l_X0_giveNumbers_7 N (hset s 18 4 0) (nI i) 0 = some (0, t) := e
    rw [e', bd_e]
  | k + 1, i, m + 1, s, l, hi, hm, hc, hv, hl, h1, h2, h3 => by
    have ih := fun s l => gat_loop hN hn k (i + 1) m s l (by omega) (by omega)
    have g1 : ¬ nI n ≤ nI i := nI_ge (by omega) (by omega)
    have g2 : inR (nI i) 60 = true := inR_nI (by omega) (by decide)
    have g3 : ix (nI i) = i := ix_nI (by omega)
    rw [lp_s]
    generalize lp (fun _ _ => none) (f_X0_gather_2 N) m = S at ih ⊢
    unfold f_X0_gather_2
    rw [hc, if_neg g1, g2, ck_t, g3, sb_e]
    have hP : PInv (jnG (s 12) (s 15) (s 13) (s 14) (s 18 2) (s 18 3)) n i 0 (fun a => if a = i then i else l a) := by
      refine ⟨fun a ha => ?_, fun a b ha hb hr => ?_, fun b hb => absurd hb (Nat.not_lt_zero b), fun a ha => ?_⟩
      · dsimp only
        by_cases e : a = i
        · rw [if_pos e, if_pos rfl]; omega
        · have q := h1 a (by omega)
          rw [if_neg e, if_neg (by omega)]; exact q
      · dsimp only
        rw [if_neg (by omega), if_neg (by omega)]; exact h2 a b ha hb hr
      · dsimp only
        by_cases e : a = i
        · rw [if_pos e, e]; exact Cn_rf _ n i
        · rw [if_neg e]; exact h3 a (by omega)
    obtain ⟨t, l2, e, r1, r2, r3⟩ := gin_loop hN hn (show i < n by omega) S i 0 N (hset s 19 i (nI i)) _ (by omega) (by omega) hv (fun a ha => by
      rw [hset_rd, if_pos rfl]
      by_cases ea : a = i
      · rw [if_pos ea, if_pos ea]
      · rw [if_neg ea, if_neg ea]; exact hl a (by omega)) hP
    have e' : l_X0_gather_22 N S (hset s 19 i (nI i)) (nI i) 0 = S t (nI (i + 1)) := e
    rw [e']
    have c10 := r1 10 (by decide)
    have c12 := r1 12 (by decide)
    have c13 := r1 13 (by decide)
    have c14 := r1 14 (by decide)
    have c15 := r1 15 (by decide)
    have c18 := r1 18 (by decide)
    rw [hset_d (by decide)] at c10 c12 c13 c14 c15 c18
    obtain ⟨q1, q2, q3, q4⟩ := r3
    obtain ⟨u, ld, e2, k1, k2, k3, k4⟩ := ih t l2 (by rw [c10]; exact hc) (by rw [c15, c13, c14]; exact hv) (fun a ha => r2 a (by omega)) (fun a ha => q1 a (by omega)) (by
      rw [c12, c15, c13, c14, c18]
      intro a b ha hb hr
      by_cases ea : a = i
      · subst ea
        by_cases eb : b = a
        · rw [eb]
        · exact q3 b (by omega) hr
      · by_cases eb : b = i
        · subst eb
          exact (q3 a (by omega) (by rw [jnG_sy]; exact hr)).symm
        · exact q2 a b (by omega) (by omega) hr) (by
      rw [c12, c15, c13, c14, c18]
      exact fun a ha => q4 a (by omega))
    rw [c12, c15, c13, c14, c18] at k3
    rw [c18] at k2
    exact ⟨u, ld, e2, fun c h1 h2 h3 => by rw [k1 c h1 h2 h3, r1 c h2, hset_d h2], k2, k3, k4⟩
theorem gather_e {N : Nat} (hN : 101 ≤ N) (s : Hp) {n : Nat} (hn : n ≤ 60) (hc : s 10 4 = nI n) (hv : mkV (s 15) (s 13) (s 14) n) : ∃ (t : Hp) (ld : Nat → Bool), f_X0_gather N s = some (0, t) ∧ (∀ c, c ≠ 18 → c ≠ 19 → c ≠ 20 → t c = s c) ∧ (∀ q, q ≠ 4 → t 18 q = s 18 q) ∧ NumOK (jnG (s 12) (s 15) (s 13) (s 14) (s 18 2) (s 18 3)) n (t 20) ld ∧ t 18 4 = nI (fb_ct ld n) :=
  gat_loop hN hn n 0 N s (fun _ => 0) (by omega) (by omega) hc hv (fun a ha => absurd ha (Nat.not_lt_zero a)) (fun a ha => absurd ha (Nat.not_lt_zero a)) (fun a b ha => absurd ha (Nat.not_lt_zero a)) (fun a ha => absurd ha (Nat.not_lt_zero a))
theorem E3_mk {s : Hp} (p3 : E3 s) : mkV (s 47) (s 45) (s 46) (nM s) := fun i hi => ⟨(p3.2.2.2.2.2.2.2.2.2.1 i hi).2.2.1, (p3.2.2.2.2.2.2.2.2.2.1 i hi).2.2.2.1, (p3.2.2.2.2.2.2.2.2.2.1 i hi).2.2.2.2.2⟩
theorem ok_joins {N : Nat} (hN : 101 ≤ N) : ag_joins N PS := by
  intro a b s p
  obtain ⟨p1, p2, p3, p4, p5, p6, p7, p8, p9, p10⟩ := id p
  have h60 := p3.2.2.2.2.2.2.2.2.1
  dsimp only
  by_cases hv : inR a 100 = true ∧ inR b 1000 = true
  · obtain ⟨h1, h2⟩ := hv
    obtain ⟨t, ld, e, r1, r2, r3, r4⟩ := gather_e hN (hset (hset s 18 2 a) 18 3 b) h60 (show s 10 4 = nI (nM s) from p3.1.trans p3.2.2.2.2.2.2.2.1) (show mkV (s 15) (s 13) (s 14) (nM s) by rw [p3.2.2.2.2.2.1, p3.2.2.2.1, p3.2.2.2.2.1]; exact E3_mk p3)
    have r0 : ∀ c, c ≠ 18 → c ≠ 19 → c ≠ 20 → t c = s c := fun c c1 c2 c3 => by rw [r1 c c1 c2 c3, hset_d c1, hset_d c1]
    have u0 : ∀ c, c ≠ 18 → c ≠ 19 → c ≠ 20 → c ≠ 36 → (hset (hset t 36 16 a) 36 17 b) c = s c := fun c c1 c2 c3 c4 => by rw [hset_d c4, hset_d c4, r0 c c1 c2 c3]
    have u36 : ∀ k, k ≠ 16 → k ≠ 17 → (hset (hset t 36 16 a) 36 17 b) 36 k = s 36 k := fun k c1 c2 => by rw [hs_slot c2, hs_slot c1, r0 36 (by decide) (by decide) (by decide)]
    have u18 : ∀ k, (hset (hset t 36 16 a) 36 17 b) 18 k = t 18 k := fun k => rfl
    have e2 : t 18 2 = a := by rw [r2 2 (by decide)]; rfl
    have e3 : t 18 3 = b := by rw [r2 3 (by decide)]; rfl
    refine ⟨1, t, hset (hset t 36 16 a) 36 17 b, ?_, ?_, ?_⟩
    · unfold f_X9_joins
      rw [show (100 : Int32) = nI 100 from rfl, isBelow_e N s a (by decide), bd_e, h1, if_neg (by decide), show (1000 : Int32) = nI 1000 from rfl, isBelow_e N s b (by decide), bd_e, h2, if_neg (by decide), sb_e, sb_e, e, bd_e]
    · unfold f_X10_joins
      rw [isIn_e, btw_lit a (show (99 : Int32) = nI 99 from rfl) (by decide), bd_e, h1, if_neg (by decide), isIn_e, btw_lit b (show (999 : Int32) = nI 999 from rfl) (by decide), bd_e, h2, if_neg (by decide), sb_e, sb_e]
    · generalize hu : hset (hset t 36 16 a) 36 17 b = u at u0 u36 u18
      have w16 : u 36 16 = a := by rw [← hu]; rfl
      have w17 : u 36 17 = b := by rw [← hu]; rfl
      refine ⟨E1_fr p1 (by rw [u0 1] <;> decide) (u36 0 (by decide) (by decide)) (by rw [u0 2] <;> decide) (by rw [u0 3] <;> decide) (by rw [u0 37] <;> decide) (by rw [u0 38] <;> decide), E2_fr p2 (by rw [u0 4] <;> decide) (u36 3 (by decide) (by decide)) (by rw [u0 5] <;> decide) (by rw [u0 6] <;> decide) (by rw [u0 7] <;> decide) (by rw [u0 8] <;> decide) (by rw [u0 39] <;> decide) (by rw [u0 40] <;> decide) (by rw [u0 41] <;> decide) (by rw [u0 42] <;> decide), E3_fr p3 (by unfold nP; rw [u36 0 (by decide) (by decide)]; exact Nat.le_refl _) (by rw [u0 10] <;> decide) (u36 8 (by decide) (by decide)) (by rw [u0 9] <;> decide) (by rw [u0 11] <;> decide) (by rw [u0 12] <;> decide) (by rw [u0 13] <;> decide) (by rw [u0 14] <;> decide) (by rw [u0 15] <;> decide) (by rw [u0 16] <;> decide) (by rw [u0 43] <;> decide) (by rw [u0 44] <;> decide) (by rw [u0 45] <;> decide) (by rw [u0 46] <;> decide) (by rw [u0 47] <;> decide) (by rw [u0 48] <;> decide), E4_fr p4 h60 (u36 8 (by decide) (by decide)) (by rw [u0 48] <;> decide) (by rw [u0 49] <;> decide) (by rw [u0 43] <;> decide) (fun m hm => u0 _ (by omega) (by omega) (by omega) (by omega)) (fun m hm => ⟨by rw [u0 37] <;> decide, by rw [u0 38] <;> decide⟩), ⟨by rw [u18, e2, w16], by rw [u18, e3, w17], by rw [w16]; exact inR_vI h1 (by decide), by rw [w17]; exact inR_vI h2 (by decide)⟩, ?_, E7_fr p7 (by rw [u0 24] <;> decide) (u36 22 (by decide) (by decide)) (by rw [u0 25] <;> decide) (by rw [u0 52] <;> decide), E8_fr p8 (by rw [u0 26] <;> decide) (by rw [u0 26] <;> decide) (u36 25 (by decide) (by decide)) (u36 26 (by decide) (by decide)), E9_fr p9 (by rw [u0 28] <;> decide) (u36 23 (by decide) (by decide)) (fun j _ => by rw [u0 53] <;> decide) (fun i hi => u0 _ (by omega) (by omega) (by omega) (by omega)), E10_fr p10 (by rw [u0 30] <;> decide) (u36 31 (by decide) (by decide)) (by rw [u0 35] <;> decide) (by rw [u0 54] <;> decide)⟩
      refine ⟨ld, ?_, ?_⟩
      · have hm : nM u = nM s := by unfold nM; rw [u36 8 (by decide) (by decide)]
        rw [jnB_G, hm, w16, w17, u0 44 (by decide) (by decide) (by decide) (by decide), u0 45 (by decide) (by decide) (by decide) (by decide), u0 46 (by decide) (by decide) (by decide) (by decide), u0 47 (by decide) (by decide) (by decide) (by decide), ← p3.2.2.1, ← p3.2.2.2.1, ← p3.2.2.2.2.1, ← p3.2.2.2.2.2.1]
        have e20 : u 20 = t 20 := by rw [← hu]; rfl
        rw [e20]
        exact r3
      · have hm : nM u = nM s := by unfold nM; rw [u36 8 (by decide) (by decide)]
        rw [u18, hm, r4]
  · refine ⟨0, s, s, ?_, ?_, p⟩
    · unfold f_X9_joins
      rw [show (100 : Int32) = nI 100 from rfl, isBelow_e N s a (by decide), bd_e, ifb]
      cases h1 : inR a 100 with
      | false => rfl
      | true =>
        rw [cond_true, show (1000 : Int32) = nI 1000 from rfl, isBelow_e N s b (by decide), bd_e, ifb]
        cases h2 : inR b 1000 with
        | false => rfl
        | true => exact absurd ⟨h1, h2⟩ hv
    · unfold f_X10_joins
      rw [isIn_e, btw_lit a (show (99 : Int32) = nI 99 from rfl) (by decide), bd_e, ifb]
      cases h1 : inR a 100 with
      | false => rfl
      | true =>
        rw [cond_true, isIn_e, btw_lit b (show (999 : Int32) = nI 999 from rfl) (by decide), bd_e, ifb]
        cases h2 : inR b 1000 with
        | false => rfl
        | true => exact absurd ⟨h1, h2⟩ hv
