/-! sweeps: the first best of all is among the oldest ones -/
def hr (k : Nat) (D : Nat → Nat) : Nat → Nat
  | 0 => 0
  | t + 1 => hr k D t * k + D t
def dg (k n j s : Nat) : Nat := j / k ^ (n - 1 - s) % k
theorem hr_cong {k : Nat} {D E : Nat → Nat} : ∀ n, (∀ t, t < n → D t = E t) → hr k D n = hr k E n
  | 0, _ => rfl
  | n + 1, h => by
    have ih := hr_cong (k := k) n (fun t ht => h t (by omega))
    unfold hr
    rw [ih, h n (by omega)]
theorem hr_lt {k : Nat} {D : Nat → Nat} : ∀ n, (∀ t, t < n → D t < k) → hr k D n < k ^ n
  | 0, _ => Nat.zero_lt_one
  | n + 1, h => by
    have ih := hr_lt n (fun t ht => h t (by omega))
    have hn := h n (by omega)
    unfold hr
    rw [Nat.pow_succ]
    have h1 : (hr k D n + 1) * k ≤ k ^ n * k := Nat.mul_le_mul_right k ih
    rw [Nat.add_mul, Nat.one_mul] at h1
    omega
theorem hr_inj {k : Nat} {D E : Nat → Nat} : ∀ n, (∀ t, t < n → D t < k ∧ E t < k) → hr k D n = hr k E n → ∀ t, t < n → D t = E t
  | 0, _, _, t, ht => absurd ht (Nat.not_lt_zero t)
  | n + 1, h, he, t, ht => by
    have hn := h n (by omega)
    unfold hr at he
    have e1 : D n = E n := by
      have hm : ∀ a x, x < k → (a * k + x) % k = x := fun a x hx => by rw [Nat.mul_comm, Nat.mul_add_mod, Nat.mod_eq_of_lt hx]
      have a : (hr k D n * k + D n) % k = (hr k E n * k + E n) % k := by rw [he]
      rw [hm _ _ hn.1, hm _ _ hn.2] at a
      exact a
    have e2 : hr k D n = hr k E n := by
      have hk : 0 < k := by omega
      rw [e1] at he
      exact Nat.eq_of_mul_eq_mul_right hk (by omega)
    by_cases q : t = n
    · rw [q]; exact e1
    · exact hr_inj n (fun t ht => h t (by omega)) e2 t (by omega)
theorem dg_lt {k n j s : Nat} (hk : 0 < k) : dg k n j s < k := Nat.mod_lt _ hk
theorem hr_dg {k n j : Nat} (hk : 0 < k) (hj : j < k ^ n) : hr k (dg k n j) n = j := by
  have key : ∀ t, t ≤ n → hr k (dg k n j) t = j / k ^ (n - t) := fun t => by
    induction t with
    | zero =>
      intro _
      show 0 = _
      rw [Nat.sub_zero, Nat.div_eq_of_lt hj]
    | succ t ih =>
      intro ht
      have ih' := ih (by omega)
      unfold hr
      rw [ih']
      unfold dg
      rw [show n - t = (n - (t + 1)) + 1 by omega, show n - 1 - t = n - (t + 1) by omega, Nat.pow_succ, ← Nat.div_div_eq_div_mul]
      generalize j / k ^ (n - (t + 1)) = Y
      have := Nat.div_add_mod Y k
      rw [Nat.mul_comm] at this
      exact this
  have := key n (Nat.le_refl n)
  rw [Nat.sub_self, Nat.pow_zero, Nat.div_one] at this
  exact this
theorem dg_hr {k n : Nat} {D : Nat → Nat} (hk : 0 < k) (hD : ∀ t, t < n → D t < k) {s : Nat} (hs : s < n) : dg k n (hr k D n) s = D s :=
  hr_inj n (fun t ht => ⟨dg_lt hk, hD t ht⟩) (hr_dg hk (hr_lt n hD)) s hs
theorem hr_cmp {k q : Nat} {D D' E E' : Nat → Nat} : ∀ n, (∀ t, t < n → D t < k ∧ D' t < k ∧ E t < q ∧ E' t < q ∧ (D t = D' t → E t = E' t) ∧ (D t < D' t → E t < E' t)) → (hr k D n < hr k D' n → hr q E n < hr q E' n) ∧ (hr k D n = hr k D' n → hr q E n = hr q E' n)
  | 0, _ => ⟨fun h => absurd h (Nat.lt_irrefl 0), fun _ => rfl⟩
  | n + 1, h => by
    obtain ⟨i1, i2⟩ := hr_cmp (k := k) (q := q) (D := D) (D' := D') (E := E) (E' := E') n (fun t ht => h t (by omega))
    obtain ⟨h1, h2, h3, h4, h5, h6⟩ := h n (by omega)
    have lt : ∀ a b, a < b → ∀ x y, x < q → a * q + x < b * q + y := fun a b hab x y hx => by
      have : (a + 1) * q ≤ b * q := Nat.mul_le_mul_right q hab
      rw [Nat.add_mul, Nat.one_mul] at this
      omega
    have cases3 : hr k D n < hr k D' n ∨ hr k D n = hr k D' n ∨ hr k D' n < hr k D n := Nat.lt_trichotomy _ _
    have gt : hr k D' n < hr k D n → hr k D' n * k + D' n < hr k D n * k + D n := fun z => by
      have : (hr k D' n + 1) * k ≤ hr k D n * k := Nat.mul_le_mul_right k z
      rw [Nat.add_mul, Nat.one_mul] at this
      omega
    have gt2 : hr k D n < hr k D' n → hr k D n * k + D n < hr k D' n * k + D' n := fun z => by
      have : (hr k D n + 1) * k ≤ hr k D' n * k := Nat.mul_le_mul_right k z
      rw [Nat.add_mul, Nat.one_mul] at this
      omega
    constructor
    · intro hh
      unfold hr at hh ⊢
      rcases cases3 with c | c | c
      · exact lt _ _ (i1 c) _ _ h3
      · rw [c] at hh
        rw [i2 c]
        have := h6 (by omega)
        omega
      · have := gt c; omega
    · intro hh
      unfold hr at hh ⊢
      rcases cases3 with c | c | c
      · have := gt2 c; omega
      · rw [c] at hh
        rw [i2 c, h5 (by omega)]
      · have := gt c; omega
theorem hr_lower {k : Nat} {D D' : Nat → Nat} (hk : 0 < k) {s : Nat} (h1 : D' s < D s) (h2 : ∀ t, t ≠ s → D' t = D t) : ∀ n, s < n → hr k D' n < hr k D n
  | 0, h => absurd h (Nat.not_lt_zero s)
  | n + 1, h => by
    unfold hr
    by_cases e : s = n
    · subst e
      rw [hr_cong (D := D') (E := D) s (fun t ht => h2 t (by omega))]
      omega
    · have ih := hr_lower hk h1 h2 n (by omega)
      rw [h2 n (fun z => e z.symm)]
      have : hr k D' n * k < hr k D n * k := Nat.mul_lt_mul_of_pos_right ih hk
      omega
/-! the worth -/
def hdZ (L : Nat → Nat → Int) (bg : Nat → Nat) (m : Nat) (c : Nat → Nat) (s : Nat) : Nat → Int
  | 0 => L s (c s)
  | e + 1 => if c e = c s then max (hdZ L bg m c s e) (((bg e + m : Nat) : Int) - 1) else hdZ L bg m c s e
def WZ (L : Nat → Nat → Int) (bg : Nat → Nat) (m : Nat) (c : Nat → Nat) : Nat → Int
  | 0 => 0
  | t + 1 => WZ L bg m c t + ((bg t : Int) - hdZ L bg m c t t)
theorem hdZ_cong {L : Nat → Nat → Int} {bg : Nat → Nat} {m : Nat} {c d : Nat → Nat} {s : Nat} (hs : c s = d s) : ∀ e, (∀ t, t < e → c t = d t) → hdZ L bg m c s e = hdZ L bg m d s e
  | 0, _ => by
    show L s (c s) = L s (d s)
    rw [hs]
  | e + 1, h => by
    have ih := hdZ_cong (L := L) (bg := bg) (m := m) hs e (fun t ht => h t (by omega))
    unfold hdZ
    rw [ih, hs, h e (by omega)]
theorem WZ_cong {L : Nat → Nat → Int} {bg : Nat → Nat} {m : Nat} {c d : Nat → Nat} : ∀ n, (∀ t, t < n → c t = d t) → WZ L bg m c n = WZ L bg m d n
  | 0, _ => rfl
  | n + 1, h => by
    have ih := WZ_cong (L := L) (bg := bg) (m := m) n (fun t ht => h t (by omega))
    unfold WZ
    rw [ih, hdZ_cong (h n (by omega)) n (fun t ht => h t (by omega))]
theorem hdZ_ge {L : Nat → Nat → Int} {bg : Nat → Nat} {m : Nat} {c : Nat → Nat} {s : Nat} : ∀ e, L s (c s) ≤ hdZ L bg m c s e
  | 0 => Int.le_refl _
  | e + 1 => by
    have ih := hdZ_ge (L := L) (bg := bg) (m := m) (c := c) (s := s) e
    unfold hdZ
    by_cases h : c e = c s
    · rw [if_pos h]; omega
    · rw [if_neg h]; exact ih
theorem hdZ_un {L : Nat → Nat → Int} {bg : Nat → Nat} {m : Nat} {c : Nat → Nat} {s : Nat} : ∀ e, (∀ t, t < e → c t ≠ c s) → hdZ L bg m c s e = L s (c s)
  | 0, _ => rfl
  | e + 1, h => by
    have ih := hdZ_un (L := L) (bg := bg) (m := m) (c := c) (s := s) e (fun t ht => h t (by omega))
    unfold hdZ
    rw [if_neg (h e (by omega)), ih]
theorem hdZ_mono {L : Nat → Nat → Int} {bg : Nat → Nat} {m : Nat} {c d : Nat → Nat} {s : Nat} (hs : d s = c s) : ∀ e, (∀ t, t < e → d t = d s → c t = c s) → hdZ L bg m d s e ≤ hdZ L bg m c s e
  | 0, _ => by
    show L s (d s) ≤ L s (c s)
    rw [hs]; exact Int.le_refl _
  | e + 1, h => by
    have ih := hdZ_mono (L := L) (bg := bg) (m := m) hs e (fun t ht => h t (by omega))
    unfold hdZ
    by_cases q : d e = d s
    · rw [if_pos q, if_pos (h e (by omega) q)]; omega
    · rw [if_neg q]
      by_cases q2 : c e = c s
      · rw [if_pos q2]; omega
      · rw [if_neg q2]; exact ih
/-- changing one slot to a channel that no other slot has, and that is older there -/
theorem exch {L : Nat → Nat → Int} {bg : Nat → Nat} {m n : Nat} {c : Nat → Nat} {s x : Nat} (hs : s < n) (hun : ∀ t, t < n → t ≠ s → c t ≠ x) (hL : L s x ≤ L s (c s)) : WZ L bg m c n + (L s (c s) - L s x) ≤ WZ L bg m (fun t => if t = s then x else c t) n := by
  have key : ∀ t, t ≤ n → WZ L bg m c t + (if s < t then L s (c s) - L s x else 0) ≤ WZ L bg m (fun t => if t = s then x else c t) t := fun t => by
    induction t with
    | zero =>
      intro _
      rw [if_neg (by omega)]
      exact Int.le_refl _
    | succ t ih =>
      intro ht
      have ih' := ih (by omega)
      unfold WZ
      by_cases e : t = s
      · subst e
        rw [if_neg (Nat.lt_irrefl t)] at ih'
        rw [if_pos (by omega)]
        have h1 : hdZ L bg m (fun u => if u = t then x else c u) t t = L t x := by
          rw [hdZ_un t (fun u hu => ?_)]
          · show L t (if t = t then x else c t) = _
            rw [if_pos rfl]
          · show (if u = t then x else c u) ≠ (if t = t then x else c t)
            rw [if_pos rfl, if_neg (by omega)]
            exact hun u (by omega) (by omega)
        have h2 := hdZ_ge (L := L) (bg := bg) (m := m) (c := c) (s := t) t
        rw [h1]
        omega
      · have h1 : hdZ L bg m (fun u => if u = s then x else c u) t t ≤ hdZ L bg m c t t := by
          refine hdZ_mono ?_ t (fun u hu hq => ?_)
          · show (if t = s then x else c t) = c t
            rw [if_neg e]
          · have hq' : (if u = s then x else c u) = (if t = s then x else c t) := hq
            rw [if_neg e] at hq'
            by_cases eu : u = s
            · rw [if_pos eu] at hq'
              exact absurd hq'.symm (hun t (by omega) e)
            · rw [if_neg eu] at hq'
              exact hq'
        by_cases st : s < t
        · rw [if_pos st] at ih'
          rw [if_pos (by omega)]
          omega
        · rw [if_neg st] at ih'
          rw [if_neg (by omega)]
          omega
  have := key n (Nat.le_refl n)
  rw [if_pos hs] at this
  exact this
/-! the order by age, then by number -/
def oldB (l : Nat → Int) (a b : Nat) : Bool := decide (l a < l b ∨ (l a = l b ∧ a < b))
def rkC (C : Nat → Bool) (l : Nat → Int) (b : Nat) : Nat := fb_ct (fun a => C a && oldB l a b) 16
def topB (C : Nat → Bool) (l : Nat → Int) (n c : Nat) : Bool := C c && decide (rkC C l c < n)
theorem oldB_iff {l : Nat → Int} {a b : Nat} : oldB l a b = true ↔ (l a < l b ∨ (l a = l b ∧ a < b)) := decide_eq_true_iff
theorem ct_one {p r : Nat → Bool} {N a : Nat} (ha : a < N) (hp : p a = false) (hr : r a = true) (hs : ∀ k, k < N → p k = true → r k = true) : fb_ct p N + 1 ≤ fb_ct r N := by
  have h1 := fb_ct_upd p true ha
  rw [hp, if_pos rfl] at h1
  have h2 : fb_ct (fun k => if k = a then true else p k) N ≤ fb_ct r N := fb_ct_sub (fun k hk z => by
    by_cases e : k = a
    · rw [e]; exact hr
    · rw [if_neg e] at z; exact hs k hk z)
  have : (if false = true then 1 else 0) = 0 := rfl
  omega
theorem rk_old {C : Nat → Bool} {l : Nat → Int} {a b : Nat} (ha : a < 16) (hC : C a = true) (h : oldB l a b = true) : rkC C l a < rkC C l b := by
  unfold rkC
  refine ct_one ha ?_ ?_ (fun k hk z => ?_)
  · rw [Bool.eq_false_iff]
    intro z
    rw [Bool.and_eq_true, oldB_iff] at z
    omega
  · rw [hC, h]; rfl
  · rw [Bool.and_eq_true, oldB_iff] at z
    rw [oldB_iff] at h
    rw [Bool.and_eq_true, oldB_iff]
    exact ⟨z.1, by omega⟩
theorem rk_q {C : Nat → Bool} {l : Nat → Int} {a : Nat} (ha : a < 16) (hC : C a = true) : rkC C l a < fb_ct C 16 := by
  unfold rkC
  refine ct_one ha ?_ hC (fun k hk z => ?_)
  · rw [Bool.eq_false_iff]
    intro z
    rw [Bool.and_eq_true, oldB_iff] at z
    omega
  · rw [Bool.and_eq_true] at z; exact z.1
theorem rk_tot {C : Nat → Bool} {l : Nat → Int} {a b : Nat} (hb : b < 16) (hC : C b = true) (h : rkC C l a < rkC C l b ∨ (rkC C l a = rkC C l b ∧ a ≠ b)) (ha : a < 16) (hCa : C a = true) : oldB l a b = true := by
  rw [oldB_iff]
  by_cases q : l a < l b ∨ (l a = l b ∧ a < b)
  · exact q
  · by_cases e : a = b
    · subst e; omega
    · have : oldB l b a = true := by rw [oldB_iff]; omega
      have := rk_old hb hC this
      omega
theorem top_ct {C : Nat → Bool} {l : Nat → Int} {n : Nat} : fb_ct (topB C l n) 16 = min n (fb_ct C 16) := by
  have hsub : fb_ct (topB C l n) 16 ≤ fb_ct C 16 := fb_ct_sub (fun k _ z => by unfold topB at z; rw [Bool.and_eq_true] at z; exact z.1)
  have tp : ∀ c, topB C l n c = true → C c = true ∧ rkC C l c < n := fun c z => by
    unfold topB at z
    rw [Bool.and_eq_true, decide_eq_true_iff] at z
    exact z
  have hle : fb_ct (topB C l n) 16 ≤ n := by
    have hex : ∀ k, ∃ c, k < fb_ct (topB C l n) 16 → c < 16 ∧ topB C l n c = true ∧ fb_ct (topB C l n) c = k := fun k => by
      by_cases hk : k < fb_ct (topB C l n) 16
      · obtain ⟨c, h1, h2, h3⟩ := fb_ct_kth hk
        exact ⟨c, fun _ => ⟨h1, h2, h3⟩⟩
      · exact ⟨0, fun z => absurd z hk⟩
    obtain ⟨f, hf⟩ := Classical.axiomOfChoice hex
    refine fb_holes n _ (fun k => rkC C l (f k)) (fun k hk => (tp _ (hf k hk).2.1).2) (fun i j hij hj heq => ?_)
    obtain ⟨i1, i2, i3⟩ := hf i (by omega)
    obtain ⟨j1, j2, j3⟩ := hf j hj
    by_cases e : f i = f j
    · rw [e, j3] at i3; omega
    · have := rk_old i1 (tp _ i2).1 (rk_tot (l := l) j1 (tp _ j2).1 (Or.inr ⟨heq, e⟩) i1 (tp _ i2).1)
      omega
  have hge : min n (fb_ct C 16) ≤ fb_ct (topB C l n) 16 := by
    have hex : ∀ k, ∃ c, k < fb_ct C 16 → c < 16 ∧ C c = true ∧ fb_ct C c = k := fun k => by
      by_cases hk : k < fb_ct C 16
      · obtain ⟨c, h1, h2, h3⟩ := fb_ct_kth hk
        exact ⟨c, fun _ => ⟨h1, h2, h3⟩⟩
      · exact ⟨0, fun z => absurd z hk⟩
    obtain ⟨f, hf⟩ := Classical.axiomOfChoice hex
    have honto : ∀ v, v < fb_ct C 16 → ∃ c, c < 16 ∧ C c = true ∧ rkC C l c = v := fun v hv => by
      obtain ⟨i, hi, hr⟩ := fb_onto (n := fb_ct C 16) (f := fun k => rkC C l (f k)) (fun k hk => rk_q (hf k hk).1 (hf k hk).2.1) (fun i j hij hj heq => by
        obtain ⟨i1, i2, i3⟩ := hf i (by omega)
        obtain ⟨j1, j2, j3⟩ := hf j hj
        by_cases e : f i = f j
        · rw [e, j3] at i3; omega
        · have := rk_old i1 i2 (rk_tot (l := l) j1 j2 (Or.inr ⟨heq, e⟩) i1 i2)
          omega) hv
      exact ⟨f i, (hf i hi).1, (hf i hi).2.1, hr⟩
    have hex2 : ∀ v, ∃ c, v < fb_ct C 16 → c < 16 ∧ C c = true ∧ rkC C l c = v := fun v => by
      by_cases hv : v < fb_ct C 16
      · obtain ⟨c, h⟩ := honto v hv
        exact ⟨c, fun _ => h⟩
      · exact ⟨0, fun z => absurd z hv⟩
    obtain ⟨g, hg⟩ := Classical.axiomOfChoice hex2
    have tg : ∀ v, v < min n (fb_ct C 16) → topB C l n (g v) = true := fun v hv => by
      obtain ⟨g1, g2, g3⟩ := hg v (by omega)
      unfold topB
      rw [g2, g3, decide_eq_true (by omega)]; rfl
    refine fb_holes _ _ (fun v => fb_ct (topB C l n) (g v)) (fun v hv => ?_) (fun i j hij hj heq => ?_)
    · have := fb_ct_mono (topB C l n) (show g v + 1 ≤ 16 from (hg v (by omega)).1)
      rw [fb_ct_succ, if_pos (tg v hv)] at this
      show fb_ct (topB C l n) (g v) < _
      omega
    · have e := fb_ct_kth_one (tg i (by omega)) (tg j hj) heq
      have a := (hg i (by omega)).2.2
      have b := (hg j (by omega)).2.2
      rw [e] at a
      omega
  omega
