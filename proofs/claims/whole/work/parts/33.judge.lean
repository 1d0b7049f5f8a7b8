/-! why a sender fits a licence, or not: the class's judge -/
def tmN (B E u : Nat) : Bool := if E < B then (decide (B ≤ u % 1440) || decide (u % 1440 ≤ E)) else (decide (B ≤ u % 1440) && decide (u % 1440 ≤ E))
theorem tmN_iff {B E u : Nat} (hB : B < 1440) (hE : E < 1440) : tmN B E u = true ↔ (u + 1440 - B) % 1440 ≤ (E + 1440 - B) % 1440 := by
  unfold tmN
  by_cases h : E < B
  · rw [if_pos h, Bool.or_eq_true, decide_eq_true_iff, decide_eq_true_iff]; omega
  · rw [if_neg h, Bool.and_eq_true, decide_eq_true_iff, decide_eq_true_iff]; omega
def tmA (B E f t : Nat) : Bool := !exF (fun u => !tmN B E u) (t + 1 - f) f
theorem tmA_iff {B E f t : Nat} : tmA B E f t = true ↔ ∀ u, f ≤ u → u ≤ t → tmN B E u = true := by
  unfold tmA
  rw [Bool.not_eq_true', Bool.eq_false_iff, ne_eq, exF_iff]
  constructor
  · intro h u h1 h2
    cases e : tmN B E u with
    | true => rfl
    | false => exact absurd ⟨u, h1, by omega, by rw [e]; rfl⟩ h
  · rintro h ⟨u, h1, h2, h3⟩
    rw [h u h1 (by omega)] at h3
    cases h3
theorem tmA_cls {B E f t : Nat} (hB : B < 1440) (hE : E < 1440) (hft : f ≤ t) : tmA B E f t = true ↔ ((E + 1440 - B) % 1440 = 1439 ∨ (f + 1440 - B) % 1440 + t - f ≤ (E + 1440 - B) % 1440) := by
  rw [tmA_iff]
  constructor
  · intro h
    rcases Nat.lt_or_ge ((E + 1440 - B) % 1440) ((f + 1440 - B) % 1440 + t - f) with q | q
    · by_cases e : (E + 1440 - B) % 1440 = 1439
      · exact Or.inl e
      · have h0 := (tmN_iff hB hE).mp (h f (Nat.le_refl _) hft)
        have h1 := (tmN_iff hB hE).mp (h (f + ((E + 1440 - B) % 1440 + 1 - (f + 1440 - B) % 1440)) (by omega) (by omega))
        omega
    · exact Or.inr q
  · intro h u h1 h2
    rw [tmN_iff hB hE]
    omega
theorem fm_neg : ∀ c, c < 1440 → ¬ c = 0 → (¬ 0 ≤ (nI 0 - nI c) ^^^ 1440) ∧ irm (nI 0 - nI c) 1440 = nI 0 - nI c ∧ ¬ (nI 0 - nI c) = 0 ∧ (nI 0 - nI c) + 1440 = nI (1440 - c) := by decide +kernel
theorem floorMod_e (N : Nat) (s : Hp) {a b : Nat} (ha : a < 10000) (hb : b < 1440) : f_J9_floorMod_7cf53 N s (nI a - nI b) 1440 = some (nI ((a + 1440 - b) % 1440), s) := by
  unfold f_J9_floorMod_7cf53
  rw [show ne0 1440 = true by decide, ck_t, vb_e]
  rcases Nat.lt_or_ge a b with h | h
  · have e : nI a - nI b = nI 0 - nI (b - a) := by
      rw [i_eq, pk_sub_toInt (by omega) (by omega), pk_sub_toInt (by omega) (by omega)]; omega
    obtain ⟨h1, h2, h3, h4⟩ := fm_neg (b - a) (by omega) (by omega)
    rw [e, if_neg h1, h2, if_neg h3, h4]
    congr 3
    omega
  · rw [pk_sub h]
    have e1 : irm (nI (a - b)) 1440 = nI ((a - b) % 1440) := pk_rem (d := 1440) (by omega) (by decide) (by decide)
    have e2 : nI (a - b) ^^^ 1440 = nI ((a - b) ^^^ 1440) := fb_xorI (a - b) 1440
    have e3 : (a - b) ^^^ 1440 < 2 ^ 14 := Nat.xor_lt_two_pow (by omega) (by decide)
    rw [e1, e2, if_pos (by rw [i_le, i_0, nI_toInt (by omega)]; omega)]
    congr 3
    omega
theorem alf_iff {O p : Nat → Bool} : ∀ n, fld O (fun c i => c && p i) true n = true ↔ ∀ i, i < n → O i = true → p i = true
  | 0 => ⟨fun _ i hi => absurd hi (Nat.not_lt_zero i), fun _ => rfl⟩
  | n + 1 => by
    have ih := alf_iff (O := O) (p := p) n
    by_cases hO : O n = true
    · rw [fld_t hO, Bool.and_eq_true, ih]
      constructor
      · rintro ⟨h1, h2⟩ i hi ho
        by_cases e : i = n
        · rw [e]; exact h2
        · exact h1 i (by omega) ho
      · intro h
        exact ⟨fun i hi => h i (by omega), h n (by omega) hO⟩
    · rw [fld_f hO, ih]
      constructor
      · intro h i hi ho
        by_cases e : i = n
        · rw [e] at ho; exact absurd ho hO
        · exact h i (by omega) ho
      · intro h i hi
        exact h i (by omega)
/-- a licence's bounds -/
def lB (s : Hp) (L j : Nat) : Int32 := s 53 (10 * L + j)
def inS (b : Nat → Int32) (f : Nat) : Bool := btw (b 6) (nI (f % 32)) (b 7) && btw (b 8) (nI (f / 32)) (b 9)
def fdF (p : Nat → Bool) (b : Nat → Int32) : Int32 := if exF (fun f => p f && inS b f) 1024 0 = false then 4 else if exF (fun f => p f && !inS b f) 1024 0 = true then 5 else 0
def anF (O : Nat → Bool) (s : Hp) (L : Nat) : Int32 :=
  if btw (lB s L 0) (fld O (fun _ j => s 44 j) (-1) (nM s)) (lB s L 1) = false then 1
  else if fld O (fun c i => c && btw (lB s L 4) (s 47 i) (lB s L 5)) true (nM s) = false then 2
  else if fld O (fun c i => c && tmA (ix (lB s L 2)) (ix (lB s L 3)) (ix (s 45 i)) (ix (s 46 i))) true (nM s) = false then 3
  else fdF (fun f => plG O s f (nM s)) (lB s L)
theorem anF_v (O : Nat → Bool) (s : Hp) (L : Nat) : vI 6 (anF O s L) := by
  unfold anF fdF
  repeat' split
  · exact ⟨1, by decide, rfl⟩
  · exact ⟨2, by decide, rfl⟩
  · exact ⟨3, by decide, rfl⟩
  · exact ⟨4, by decide, rfl⟩
  · exact ⟨5, by decide, rfl⟩
  · exact ⟨0, by decide, rfl⟩
theorem fdF_cong {p q : Nat → Bool} {b c : Nat → Int32} (h : ∀ f, f < 1024 → p f = q f) (hb : ∀ j, j < 10 → b j = c j) : fdF p b = fdF q c := by
  have hi : ∀ f, inS b f = inS c f := fun f => by
    unfold inS
    rw [hb 6 (by decide), hb 7 (by decide), hb 8 (by decide), hb 9 (by decide)]
  unfold fdF
  rw [exF_cong (p := fun f => p f && inS b f) (q := fun f => q f && inS c f) (fun j _ hj => by rw [h j (by omega), hi]), exF_cong (p := fun f => p f && !inS b f) (q := fun f => q f && !inS c f) (fun j _ hj => by rw [h j (by omega), hi])]
theorem anF_same {s u : Hp} (h : Same s u) {O O2 : Nat → Bool} (hO : ∀ j, j < nM s → O j = O2 j) {L : Nat} (hL : L < 10) : anF O u L = anF O2 s L := by
  have hb : ∀ j, j < 10 → lB u L j = lB s L j := fun j hj => h.2.2 (10 * L + j) (by omega)
  unfold anF
  rw [nM_same h, hb 0 (by decide), hb 1 (by decide), hb 2 (by decide), hb 3 (by decide), hb 4 (by decide), hb 5 (by decide), h.1 44 rfl, h.1 45 rfl, h.1 46 rfl, h.1 47 rfl, fld_cong (g2 := fun _ j => s 44 j) (O2 := O2) hO (fun _ _ _ _ => rfl), fld_cong (g2 := fun c i => c && btw (lB s L 4) (s 47 i) (lB s L 5)) (O2 := O2) hO (fun _ _ _ _ => rfl), fld_cong (g2 := fun c i => c && tmA (ix (lB s L 2)) (ix (lB s L 3)) (ix (s 45 i)) (ix (s 46 i))) (O2 := O2) hO (fun _ _ _ _ => rfl)]
  rw [fdF_cong (p := fun f => plG O u f (nM s)) (q := fun f => plG O2 s f (nM s)) (fun f _ => plG_same h hO) hb]
theorem allows_e (N : Nat) (t : Hp) {L q : Nat} (hL : L < 10) (hq : q < 5) (x y : Int32) : f_X1_allows N t (nI L) (nI q) x y = some (b01 (decide (t (118 + L) (2 * q) ≤ x) && decide (y ≤ t (118 + L) (2 * q + 1))), t) := by
  have g0 : (2 : Int32) * nI q = nI (2 * q) := pk_mul 2 q
  unfold f_X1_allows
  rw [inR_nI (show L < 10 by omega) (by decide), ck_t, ck_t, g0, inR_nI (show 2 * q < 10 by omega) (by decide), ck_t, nI_1, inR_nI (show 2 * q + 1 < 10 by omega) (by decide), ck_t, ix_nI (show L < 2 ^ 31 by omega), ix_nI (show 2 * q < 2 ^ 31 by omega), ix_nI (show 2 * q + 1 < 2 ^ 31 by omega)]
  by_cases h1 : x < t (118 + L) (2 * q)
  · rw [if_pos h1, decide_eq_false (by rw [i_lt] at h1; rw [i_le]; omega)]; rfl
  · rw [if_neg h1, decide_eq_true (by rw [i_lt] at h1; rw [i_le]; omega), Bool.true_and]
    by_cases h2 : t (118 + L) (2 * q + 1) < y
    · rw [if_pos h2, decide_eq_false (by rw [i_lt] at h2; rw [i_le]; omega)]; rfl
    · rw [if_neg h2, decide_eq_true (by rw [i_lt] at h2; rw [i_le]; omega)]; rfl
theorem bnd_min {O : Nat → Bool} {v : Nat → Int32} {b M : Int32} : ∀ n, b ≤ fld O (fun x j => imin x (v j)) M n ↔ b ≤ M ∧ ∀ j, j < n → O j = true → b ≤ v j
  | 0 => ⟨fun h => ⟨h, fun j hj => absurd hj (Nat.not_lt_zero j)⟩, fun h => h.1⟩
  | n + 1 => by
    have ih := bnd_min (O := O) (v := v) (b := b) (M := M) n
    by_cases hO : O n = true
    · rw [fld_t hO]
      have e : b ≤ imin (fld O (fun x j => imin x (v j)) M n) (v n) ↔ b ≤ fld O (fun x j => imin x (v j)) M n ∧ b ≤ v n := by
        rw [i_le, i_le, i_le, imin_i]; omega
      rw [e, ih]
      constructor
      · rintro ⟨⟨h0, h1⟩, h2⟩
        refine ⟨h0, fun j hj ho => ?_⟩
        by_cases ej : j = n
        · rw [ej]; exact h2
        · exact h1 j (by omega) ho
      · rintro ⟨h0, h1⟩
        exact ⟨⟨h0, fun j hj => h1 j (by omega)⟩, h1 n (by omega) hO⟩
    · rw [fld_f hO, ih]
      constructor
      · rintro ⟨h0, h1⟩
        refine ⟨h0, fun j hj ho => ?_⟩
        by_cases ej : j = n
        · rw [ej] at ho; exact absurd ho hO
        · exact h1 j (by omega) ho
      · rintro ⟨h0, h1⟩
        exact ⟨h0, fun j hj => h1 j (by omega)⟩
theorem bnd_max {O : Nat → Bool} {v : Nat → Int32} {b M : Int32} : ∀ n, fld O (fun x j => imax x (v j)) M n ≤ b ↔ M ≤ b ∧ ∀ j, j < n → O j = true → v j ≤ b
  | 0 => ⟨fun h => ⟨h, fun j hj => absurd hj (Nat.not_lt_zero j)⟩, fun h => h.1⟩
  | n + 1 => by
    have ih := bnd_max (O := O) (v := v) (b := b) (M := M) n
    by_cases hO : O n = true
    · rw [fld_t hO]
      have e : imax (fld O (fun x j => imax x (v j)) M n) (v n) ≤ b ↔ fld O (fun x j => imax x (v j)) M n ≤ b ∧ v n ≤ b := by
        rw [i_le, i_le, i_le, imax_i]; omega
      rw [e, ih]
      constructor
      · rintro ⟨⟨h0, h1⟩, h2⟩
        refine ⟨h0, fun j hj ho => ?_⟩
        by_cases ej : j = n
        · rw [ej]; exact h2
        · exact h1 j (by omega) ho
      · rintro ⟨h0, h1⟩
        exact ⟨⟨h0, fun j hj => h1 j (by omega)⟩, h1 n (by omega) hO⟩
    · rw [fld_f hO, ih]
      constructor
      · rintro ⟨h0, h1⟩
        refine ⟨h0, fun j hj ho => ?_⟩
        by_cases ej : j = n
        · rw [ej] at ho; exact absurd ho hO
        · exact h1 j (by omega) ho
      · rintro ⟨h0, h1⟩
        exact ⟨h0, fun j hj => h1 j (by omega)⟩
theorem aTime_e (N : Nat) (t : Hp) {L B E f o : Nat} (hL : L < 10) (h2 : t (118 + L) 2 = nI B) (h3 : t (118 + L) 3 = nI E) (hB : B < 1440) (hE : E < 1440) (hfo : f ≤ o) (ho : o < 10000) : f_X1_allowsTime N t (nI L) (nI f) (nI o) = some (b01 (tmA B E f o), t) := by
  unfold f_X1_allowsTime f_X1_allowsTime_56
  rw [inR_nI (show L < 10 by omega) (by decide), ck_t, show inR 2 10 = true by decide, ck_t, vb_e, ck_t, show inR 3 10 = true by decide, ck_t, ix_nI (show L < 2 ^ 31 by omega), show ix 2 = 2 from rfl, show ix 3 = 3 from rfl, h2, h3, floorMod_e N t (by omega) hB, bd_e, floorMod_e N t (by omega) hB, bd_e, nI_add, pk_sub (by omega)]
  have hc := tmA_cls (f := f) (t := o) hB hE hfo
  have bw : (E + 1440 - B) % 1440 < 1440 := Nat.mod_lt _ (by decide)
  have ba : (f + 1440 - B) % 1440 < 1440 := Nat.mod_lt _ (by decide)
  by_cases q1 : (E + 1440 - B) % 1440 = 1439
  · rw [if_pos (by rw [q1]; rfl), hc.mpr (Or.inl q1)]; rfl
  · rw [if_neg (show ¬ nI ((E + 1440 - B) % 1440) = 1439 from fun z => q1 ((nI_eq (by omega) (by decide)).mp (show nI _ = nI 1439 from z)))]
    by_cases q2 : (f + 1440 - B) % 1440 + o - f ≤ (E + 1440 - B) % 1440
    · rw [if_neg (nI_nlt q2 (by omega)), hc.mpr (Or.inr q2)]; rfl
    · rw [if_pos (nI_lt (by omega) (by omega)), show tmA B E f o = false from Bool.eq_false_iff.mpr (fun z => by have := hc.mp z; omega)]; rfl
theorem cols_b {l r i : Nat} (hlr : l ≤ r) (hr : r < 32) (hi : i < 32) : bt ((ushr (-1) (31 - (nI r - nI l))) <<< (nI l &&& 31)) i = (decide (l ≤ i) && decide (i ≤ r)) := by
  rw [b_shl l (by omega) _ hi, pk_sub hlr, show (31 : Int32) = nI 31 from rfl, pk_sub (show r - l ≤ 31 by omega)]
  unfold ushr
  rw [b_ushr (31 - (r - l)) (by omega)]
  by_cases h1 : l ≤ i
  · rw [decide_eq_true h1, Bool.true_and, Bool.true_and]
    by_cases h2 : i ≤ r
    · rw [decide_eq_true h2, b_m1 _ (by omega)]
    · rw [decide_eq_false h2, b_big (by omega)]
  · rw [decide_eq_false h1, Bool.false_and, Bool.false_and]
theorem bt_zero {x : Int32} : x = 0 ↔ ∀ i, i < 32 → bt x i = false := by
  constructor
  · intro h i _
    rw [h]; exact b_0 i
  · intro h
    exact b_ext (fun i hi => by rw [h i hi, b_0])
