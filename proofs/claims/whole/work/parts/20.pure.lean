/-! PURE: what holds between the class's cells and the model's, between calls -/
theorem ck_t (x : Option (Int32 × Hp)) : ck true x = x := rfl
theorem vb_e (a : Int32) (k : Int32 → Option (Int32 × Hp)) : vb a k = k a := rfl
theorem sb_e (s : Hp) (k : Hp → Option (Int32 × Hp)) : sb s k = k s := rfl
theorem bd_e (v : Int32) (s : Hp) (k : Int32 → Hp → Option (Int32 × Hp)) : bd (some (v, s)) k = k v s := rfl
theorem lp_0 {F : Type} (bot : F) (body : F → F) : lp bot body 0 = bot := rfl
theorem lp_s {F : Type} (bot : F) (body : F → F) (n : Nat) : lp bot body (n + 1) = body (lp bot body n) := rfl
theorem inR_nI {i n : Nat} (h : i < n) (hn : n < 2 ^ 31) : inR (nI i) n = true := decide_eq_true (nI_in h hn)
theorem ix_nI {i : Nat} (h : i < 2 ^ 31) : ix (nI i) = i := nI_clamp h
theorem nI_lit (n : Nat) : (OfNat.ofNat n : Int32) = nI n := rfl
theorem hs_same {s : Hp} {c k : Nat} {v : Int32} : hset s c k v c k = v := by rw [hset_c]; simp [upd]
theorem hs_slot {s : Hp} {c k j : Nat} {v : Int32} (h : j ≠ k) : hset s c k v c j = s c j := by rw [hset_c]; simp [upd, h]
def vI (n : Nat) (x : Int32) : Prop := ∃ j, j < n ∧ x = nI j
theorem vI_ix {n : Nat} {x : Int32} (h : vI n x) (hn : n ≤ 2 ^ 31) : ix x < n ∧ x = nI (ix x) := by
  obtain ⟨j, hj, rfl⟩ := h
  rw [ix_nI (by omega)]
  exact ⟨hj, rfl⟩
theorem vI_of {x : Int32} {n : Nat} (h0 : ¬ x < 0) (h1 : ¬ nI n ≤ x) (hn : n < 2 ^ 31) : vI n x := by
  obtain ⟨j, hj, rfl⟩ := nI_of h0
  refine ⟨j, ?_, rfl⟩
  rcases Nat.lt_or_ge j n with h | h
  · exact h
  · exact absurd (nI_le h hj) h1
def nP (s : Hp) : Nat := ix (s 36 0)
def nL (s : Hp) : Nat := ix (s 36 3)
def nM (s : Hp) : Nat := ix (s 36 8)
def nT (s : Hp) : Nat := ix (s 36 22)
def nK (s : Hp) : Nat := ix (s 36 23)
/-- bit j of an int -/
def tb (v : Int32) (j : Nat) : Bool := v.toBitVec.getLsbD j
/-- does field f lie in the wedge of mark m, by the model's cells -/
def liesB (s : Hp) (m f : Nat) : Bool :=
  decide (0 ≤ s 49 (4 * m) * (nI (f / 32) - s 38 (ix (s 43 m))) - s 49 (4 * m + 1) * (nI (f % 32) - s 37 (ix (s 43 m)))) &&
  decide (0 ≤ (nI (f % 32) - s 37 (ix (s 43 m))) * s 49 (4 * m + 3) - (nI (f / 32) - s 38 (ix (s 43 m))) * s 49 (4 * m + 2))
/-- two marks join, by the model's cells -/
def jnB (s : Hp) (i j : Nat) : Bool :=
  decide (s 44 i = s 44 j) && (decide ((s 47 i).toInt - (s 47 j).toInt ≤ (s 36 16).toInt) && (decide ((s 47 j).toInt - (s 47 i).toInt ≤ (s 36 16).toInt) &&
  (decide ((s 45 i).toInt - (s 46 j).toInt ≤ (s 36 17).toInt) && decide ((s 45 j).toInt - (s 46 i).toInt ≤ (s 36 17).toInt))))
/-- reached over joins, in k steps, by marks below n -/
def rch (R : Nat → Nat → Bool) (n : Nat) : Nat → Nat → Nat → Prop
  | 0, i, j => i = j
  | k + 1, i, j => rch R n k i j ∨ ∃ m, m < n ∧ rch R n k i m ∧ R m j = true
def Cn (R : Nat → Nat → Bool) (n i j : Nat) : Prop := ∃ k, rch R n k i j
/-- leaders: the least of their component -/
def isLd (R : Nat → Nat → Bool) (n i : Nat) : Prop := ∀ j, j < i → ¬ Cn R n j i
/-- the numbering of the components by their least marks -/
def NumOK (R : Nat → Nat → Bool) (n : Nat) (num : Nat → Int32) (ld : Nat → Bool) : Prop :=
  (∀ i, i < n → (ld i = true ↔ isLd R n i)) ∧ (∀ i, i < n → ld i = true → num i = nI (fb_ct ld i)) ∧ ∀ i j, i < n → j < n → Cn R n i j → num i = num j
/-- what holds -/
def E1 (s : Hp) : Prop := s 1 2 = s 36 0 ∧ s 2 = s 37 ∧ s 3 = s 38 ∧ s 36 0 = nI (nP s) ∧ nP s ≤ 6
def E2 (s : Hp) : Prop := s 4 4 = s 36 3 ∧ s 5 = s 39 ∧ s 6 = s 40 ∧ s 7 = s 41 ∧ s 8 = s 42 ∧ s 36 3 = nI (nL s) ∧ nL s ≤ 100 ∧ ∀ i, i < nL s → vI 6 (s 39 i) ∧ vI 16 (s 40 i) ∧ vI 10000 (s 41 i) ∧ vI 10000 (s 42 i) ∧ s 41 i ≤ s 42 i
def E3 (s : Hp) : Prop := s 10 4 = s 36 8 ∧ s 11 = s 43 ∧ s 12 = s 44 ∧ s 13 = s 45 ∧ s 14 = s 46 ∧ s 15 = s 47 ∧ s 16 = s 48 ∧ s 36 8 = nI (nM s) ∧ nM s ≤ 60 ∧ (∀ i, i < nM s → vI (nP s) (s 43 i) ∧ vI 16 (s 44 i) ∧ vI 10000 (s 45 i) ∧ vI 10000 (s 46 i) ∧ s 45 i ≤ s 46 i ∧ vI 1000 (s 47 i)) ∧ (∀ i, s 48 i = 0 ∨ s 48 i = 1) ∧ (∀ i, nM s ≤ i → s 48 i = 0) ∧ s 9 4 = nI (fb_ct (fun i => decide (s 48 i = 1)) (nM s))
def E4 (s : Hp) : Prop := ∀ m, m < nM s → s 48 m = 1 → ∀ f, f < 1024 → tb (s (58 + m) (f / 32)) (f % 32) = liesB s m f
def E5 (s : Hp) : Prop := s 18 2 = s 36 16 ∧ s 18 3 = s 36 17 ∧ vI 100 (s 36 16) ∧ vI 1000 (s 36 17)
def E6 (s : Hp) : Prop := ∃ ld, NumOK (jnB s) (nM s) (s 20) ld ∧ s 18 4 = nI (fb_ct ld (nM s))
def E7 (s : Hp) : Prop := s 24 1 = s 36 22 ∧ s 25 = s 52 ∧ s 36 22 = nI (nT s) ∧ nT s ≤ 100 ∧ ∀ i, vI 256 (s 52 i)
def E8 (s : Hp) : Prop := s 26 2 = s 36 25 ∧ s 26 3 = s 36 26
def licOK (f : Nat → Int32) : Prop := vI 16 (f 0) ∧ vI 16 (f 1) ∧ f 0 ≤ f 1 ∧ vI 1440 (f 2) ∧ vI 1440 (f 3) ∧ vI 1000 (f 4) ∧ vI 1000 (f 5) ∧ f 4 ≤ f 5 ∧ vI 32 (f 6) ∧ vI 32 (f 7) ∧ f 6 ≤ f 7 ∧ vI 32 (f 8) ∧ vI 32 (f 9) ∧ f 8 ≤ f 9
def E9 (s : Hp) : Prop := s 28 1 = s 36 23 ∧ s 36 23 = nI (nK s) ∧ nK s ≤ 10 ∧ ∀ i, i < nK s → licOK (fun j => s 53 (10 * i + j)) ∧ ∀ j, j < 10 → s (118 + i) j = s 53 (10 * i + j)
def E10 (s : Hp) : Prop := s 30 5 = s 36 31 ∧ s 35 = s 54 ∧ ∃ n, n ≤ 4 ∧ s 36 31 = nI n
def PS (s : Hp) : Prop := E1 s ∧ E2 s ∧ E3 s ∧ E4 s ∧ E5 s ∧ E6 s ∧ E7 s ∧ E8 s ∧ E9 s ∧ E10 s
/-- cells and slots that PS speaks of -/
def relC (c : Nat) : Bool := decide (c = 2) || (decide (c = 3) || (decide (5 ≤ c ∧ c ≤ 8) || (decide (11 ≤ c ∧ c ≤ 16) || (decide (c = 20) || (decide (c = 25) || (decide (c = 35) || (decide (37 ≤ c ∧ c ≤ 49) || (decide (c = 52) || (decide (c = 54) || decide (58 ≤ c ∧ c ≤ 127))))))))))
def relS (c k : Nat) : Bool := decide ((c, k) ∈ [(1, 2), (4, 4), (9, 4), (10, 4), (18, 2), (18, 3), (18, 4), (24, 1), (26, 2), (26, 3), (28, 1), (30, 5), (36, 0), (36, 3), (36, 8), (36, 16), (36, 17), (36, 22), (36, 23), (36, 25), (36, 26), (36, 31)])
def Same (s t : Hp) : Prop := (∀ c, relC c = true → t c = s c) ∧ (∀ c k, relS c k = true → t c k = s c k) ∧ ∀ j, j < 100 → t 53 j = s 53 j
theorem Same.rf {s : Hp} : Same s s := ⟨fun _ _ => rfl, fun _ _ _ => rfl, fun _ _ => rfl⟩
theorem Same.tr {s t u : Hp} (h : Same s t) (g : Same t u) : Same s u := ⟨fun c hc => (g.1 c hc).trans (h.1 c hc), fun c k hc => (g.2.1 c k hc).trans (h.2.1 c k hc), fun j hj => (g.2.2 j hj).trans (h.2.2 j hj)⟩
theorem relC_row {m : Nat} (h : m < 70) : relC (58 + m) = true := by
  unfold relC
  simp only [Bool.or_eq_true, decide_eq_true_eq]
  omega
theorem jnB_same {s t : Hp} (h : Same s t) : jnB t = jnB s := by
  funext i j
  unfold jnB
  rw [h.1 44 rfl, h.1 45 rfl, h.1 46 rfl, h.1 47 rfl, h.2.1 36 16 rfl, h.2.1 36 17 rfl]
theorem nM_same {s t : Hp} (h : Same s t) : nM t = nM s := by unfold nM; rw [h.2.1 36 8 rfl]
theorem liesB_same {s t : Hp} (h : Same s t) (m f : Nat) : liesB t m f = liesB s m f := by
  unfold liesB
  rw [h.1 37 rfl, h.1 38 rfl, h.1 43 rfl, h.1 49 rfl]
theorem E1_fr {s t : Hp} (h : E1 s) (a1 : t 1 2 = s 1 2) (a2 : t 36 0 = s 36 0) (a3 : t 2 = s 2) (a4 : t 3 = s 3) (a5 : t 37 = s 37) (a6 : t 38 = s 38) : E1 t := by
  unfold E1 nP at *
  rw [a1, a2, a3, a4, a5, a6]
  exact h
theorem E2_fr {s t : Hp} (h : E2 s) (a1 : t 4 4 = s 4 4) (a2 : t 36 3 = s 36 3) (a3 : t 5 = s 5) (a4 : t 6 = s 6) (a5 : t 7 = s 7) (a6 : t 8 = s 8) (a7 : t 39 = s 39) (a8 : t 40 = s 40) (a9 : t 41 = s 41) (a10 : t 42 = s 42) : E2 t := by
  unfold E2 nL at *
  rw [a1, a2, a3, a4, a5, a6, a7, a8, a9, a10]
  exact h
theorem vI_mono {n m : Nat} {x : Int32} (h : vI n x) (hm : n ≤ m) : vI m x := by
  obtain ⟨j, hj, e⟩ := h
  exact ⟨j, Nat.lt_of_lt_of_le hj hm, e⟩
theorem E3_fr {s t : Hp} (h : E3 s) (hp : nP s ≤ nP t) (a1 : t 10 4 = s 10 4) (a2 : t 36 8 = s 36 8) (a3 : t 9 4 = s 9 4) (b1 : t 11 = s 11) (b2 : t 12 = s 12) (b3 : t 13 = s 13) (b4 : t 14 = s 14) (b5 : t 15 = s 15) (b6 : t 16 = s 16) (c1 : t 43 = s 43) (c2 : t 44 = s 44) (c3 : t 45 = s 45) (c4 : t 46 = s 46) (c5 : t 47 = s 47) (c6 : t 48 = s 48) : E3 t := by
  unfold E3 at *
  have hm : nM t = nM s := by unfold nM; rw [a2]
  rw [hm, a1, a2, a3, b1, b2, b3, b4, b5, b6, c1, c2, c3, c4, c5, c6]
  obtain ⟨q1, q2, q3, q4, q5, q6, q7, q8, q9, q10, q11⟩ := h
  exact ⟨q1, q2, q3, q4, q5, q6, q7, q8, q9, fun i hi => ⟨vI_mono (q10 i hi).1 hp, (q10 i hi).2⟩, q11⟩
theorem E4_fr {s t : Hp} (h : E4 s) (hn : nM s ≤ 60) (a1 : t 36 8 = s 36 8) (a2 : t 48 = s 48) (a3 : t 49 = s 49) (a4 : t 43 = s 43) (a5 : ∀ m, m < 60 → t (58 + m) = s (58 + m)) (a6 : ∀ m, m < nM s → t 37 (ix (s 43 m)) = s 37 (ix (s 43 m)) ∧ t 38 (ix (s 43 m)) = s 38 (ix (s 43 m))) : E4 t := by
  have hm0 : nM t = nM s := by unfold nM; rw [a1]
  intro m hm hw f hf
  rw [hm0] at hm
  rw [a2] at hw
  have key : liesB t m f = liesB s m f := by
    unfold liesB
    rw [a3, a4, (a6 m hm).1, (a6 m hm).2]
  rw [key, a5 m (by omega)]
  exact h m hm hw f hf
theorem E5_fr {s t : Hp} (h : E5 s) (a1 : t 18 2 = s 18 2) (a2 : t 18 3 = s 18 3) (a3 : t 36 16 = s 36 16) (a4 : t 36 17 = s 36 17) : E5 t := by
  unfold E5 at *
  rw [a1, a2, a3, a4]
  exact h
theorem E6_fr {s t : Hp} (h : E6 s) (a1 : t 36 8 = s 36 8) (a2 : t 44 = s 44) (a3 : t 45 = s 45) (a4 : t 46 = s 46) (a5 : t 47 = s 47) (a6 : t 36 16 = s 36 16) (a7 : t 36 17 = s 36 17) (a8 : t 20 = s 20) (a9 : t 18 4 = s 18 4) : E6 t := by
  have hj : jnB t = jnB s := by
    funext i j
    unfold jnB
    rw [a2, a3, a4, a5, a6, a7]
  unfold E6 nM at *
  rw [hj, a1, a8, a9]
  exact h
theorem E7_fr {s t : Hp} (h : E7 s) (a1 : t 24 1 = s 24 1) (a2 : t 36 22 = s 36 22) (a3 : t 25 = s 25) (a4 : t 52 = s 52) : E7 t := by
  unfold E7 nT at *
  rw [a1, a2, a3, a4]
  exact h
theorem E8_fr {s t : Hp} (h : E8 s) (a1 : t 26 2 = s 26 2) (a2 : t 26 3 = s 26 3) (a3 : t 36 25 = s 36 25) (a4 : t 36 26 = s 36 26) : E8 t := by
  unfold E8 at *
  rw [a1, a2, a3, a4]
  exact h
theorem E9_fr {s t : Hp} (p9 : E9 s) (a1 : t 28 1 = s 28 1) (a2 : t 36 23 = s 36 23) (a3 : ∀ j, j < 100 → t 53 j = s 53 j) (a4 : ∀ i, i < 10 → t (118 + i) = s (118 + i)) : E9 t := by
  unfold E9 nK at *
  rw [a1, a2]
  refine ⟨p9.1, p9.2.1, p9.2.2.1, fun i hi => ?_⟩
  have hi10 : i < 10 := Nat.lt_of_lt_of_le hi p9.2.2.1
  obtain ⟨q1, q2⟩ := p9.2.2.2 i hi
  refine ⟨?_, fun j hj => ?_⟩
  · unfold licOK at *
    dsimp only at *
    rw [a3 (10 * i + 0) (by omega), a3 (10 * i + 1) (by omega), a3 (10 * i + 2) (by omega), a3 (10 * i + 3) (by omega), a3 (10 * i + 4) (by omega), a3 (10 * i + 5) (by omega), a3 (10 * i + 6) (by omega), a3 (10 * i + 7) (by omega), a3 (10 * i + 8) (by omega), a3 (10 * i + 9) (by omega)]
    exact q1
  · rw [a4 i hi10, a3 (10 * i + j) (by omega)]
    exact q2 j hj
theorem E10_fr {s t : Hp} (h : E10 s) (a1 : t 30 5 = s 30 5) (a2 : t 36 31 = s 36 31) (a3 : t 35 = s 35) (a4 : t 54 = s 54) : E10 t := by
  unfold E10 at *
  rw [a1, a2, a3, a4]
  exact h
theorem PS_same {s t : Hp} (h : Same s t) (p : PS s) : PS t := by
  obtain ⟨p1, p2, p3, p4, p5, p6, p7, p8, p9, p10⟩ := p
  have r60 : nM s ≤ 60 := p3.2.2.2.2.2.2.2.2.1
  refine ⟨E1_fr p1 (h.2.1 1 2 rfl) (h.2.1 36 0 rfl) (h.1 2 rfl) (h.1 3 rfl) (h.1 37 rfl) (h.1 38 rfl), E2_fr p2 (h.2.1 4 4 rfl) (h.2.1 36 3 rfl) (h.1 5 rfl) (h.1 6 rfl) (h.1 7 rfl) (h.1 8 rfl) (h.1 39 rfl) (h.1 40 rfl) (h.1 41 rfl) (h.1 42 rfl), E3_fr p3 (by unfold nP; rw [h.2.1 36 0 rfl]; exact Nat.le_refl _) (h.2.1 10 4 rfl) (h.2.1 36 8 rfl) (h.2.1 9 4 rfl) (h.1 11 rfl) (h.1 12 rfl) (h.1 13 rfl) (h.1 14 rfl) (h.1 15 rfl) (h.1 16 rfl) (h.1 43 rfl) (h.1 44 rfl) (h.1 45 rfl) (h.1 46 rfl) (h.1 47 rfl) (h.1 48 rfl), E4_fr p4 r60 (h.2.1 36 8 rfl) (h.1 48 rfl) (h.1 49 rfl) (h.1 43 rfl) (fun m hm => h.1 (58 + m) (relC_row (by omega))) (fun m _ => ⟨by rw [h.1 37 rfl], by rw [h.1 38 rfl]⟩), E5_fr p5 (h.2.1 18 2 rfl) (h.2.1 18 3 rfl) (h.2.1 36 16 rfl) (h.2.1 36 17 rfl), E6_fr p6 (h.2.1 36 8 rfl) (h.1 44 rfl) (h.1 45 rfl) (h.1 46 rfl) (h.1 47 rfl) (h.2.1 36 16 rfl) (h.2.1 36 17 rfl) (h.1 20 rfl) (h.2.1 18 4 rfl), E7_fr p7 (h.2.1 24 1 rfl) (h.2.1 36 22 rfl) (h.1 25 rfl) (h.1 52 rfl), E8_fr p8 (h.2.1 26 2 rfl) (h.2.1 26 3 rfl) (h.2.1 36 25 rfl) (h.2.1 36 26 rfl), E9_fr p9 (h.2.1 28 1 rfl) (h.2.1 36 23 rfl) h.2.2 (fun i hi => ?_), E10_fr p10 (h.2.1 30 5 rfl) (h.2.1 36 31 rfl) (h.1 35 rfl) (h.1 54 rfl)⟩
  have := h.1 (58 + (60 + i)) (relC_row (by omega))
  rw [show 58 + (60 + i) = 118 + i by omega] at this
  exact this
