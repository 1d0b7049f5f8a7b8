/-! the easy calls -/
theorem hset_rd (s : Hp) (c k d j : Nat) (v : Int32) : hset s c k v d j = if d = c then (if j = k then v else s c j) else s d j := by
  unfold hset
  by_cases h : d = c
  · rw [if_pos h, if_pos h]; rfl
  · rw [if_neg h, if_neg h]
theorem inR_iff {a : Int32} {n : Nat} : inR a n = true ↔ 0 ≤ a.toInt ∧ a.toInt < n := by
  constructor
  · intro h
    exact vp_in_iff.mp (inR_in h)
  · intro h
    have := vp_in_iff.mpr h
    exact decide_eq_true this
theorem inR_vI {a : Int32} {n : Nat} (h : inR a n = true) (hn : n < 2 ^ 31) : vI n a := by
  obtain ⟨j, hj, e⟩ := vp_in_of (inR_in h) hn
  exact ⟨j, hj, e⟩
theorem vI_inR {a : Int32} {n : Nat} (h : vI n a) (hn : n < 2 ^ 31) : inR a n = true := by
  obtain ⟨j, hj, rfl⟩ := h
  exact inR_nI hj hn
def b01 (b : Bool) : Int32 := if b then 1 else 0
theorem b01_t : b01 true = 1 := rfl
theorem b01_f : b01 false = 0 := rfl
theorem b01_0 (b : Bool) : b01 b = 0 ↔ b = false := by cases b <;> decide
theorem isB_b01 (b : Bool) : isB (b01 b) = true := by cases b <;> decide
theorem i_lt {a b : Int32} : a < b ↔ a.toInt < b.toInt := Int32.lt_iff_toInt_lt
theorem i_le {a b : Int32} : a ≤ b ↔ a.toInt ≤ b.toInt := Int32.le_iff_toInt_le
theorem i_eq {a b : Int32} : a = b ↔ a.toInt = b.toInt := Int32.toInt_inj.symm
theorem i_0 : (0 : Int32).toInt = 0 := rfl
theorem isBelow_e (N : Nat) (s : Hp) (a : Int32) {n : Nat} (hn : n < 2 ^ 31) : f_X9_isBelow N s a (nI n) = some (b01 (inR a n), s) := by
  unfold f_X9_isBelow
  by_cases h1 : a < 0
  · rw [if_pos h1]
    have : inR a n = false := by
      rw [Bool.eq_false_iff]; intro h; rw [inR_iff] at h; rw [i_lt, i_0] at h1; omega
    rw [this]; rfl
  · rw [if_neg h1]
    by_cases h2 : nI n ≤ a
    · rw [if_pos h2]
      have : inR a n = false := by
        rw [Bool.eq_false_iff]; intro h; rw [inR_iff] at h; rw [i_le, nI_toInt hn] at h2; omega
      rw [this]; rfl
    · rw [if_neg h2]
      have : inR a n = true := by
        rw [inR_iff]; rw [i_le, nI_toInt hn] at h2; rw [i_lt, i_0] at h1; omega
      rw [this]; rfl
/-- between two numbers -/
def btw (lo a hi : Int32) : Bool := decide (lo.toInt ≤ a.toInt ∧ a.toInt ≤ hi.toInt)
theorem isIn_e (N : Nat) (s : Hp) (a lo hi : Int32) : f_X10_isIn N s a lo hi = some (b01 (btw lo a hi), s) := by
  unfold f_X10_isIn btw
  by_cases h1 : a < lo
  · rw [if_pos h1]
    have : decide (lo.toInt ≤ a.toInt ∧ a.toInt ≤ hi.toInt) = false := by rw [decide_eq_false_iff_not]; rw [i_lt] at h1; omega
    rw [this]; rfl
  · rw [if_neg h1]
    by_cases h2 : hi < a
    · rw [if_pos h2]
      have : decide (lo.toInt ≤ a.toInt ∧ a.toInt ≤ hi.toInt) = false := by rw [decide_eq_false_iff_not]; rw [i_lt] at h2; omega
      rw [this]; rfl
    · rw [if_neg h2]
      have : decide (lo.toInt ≤ a.toInt ∧ a.toInt ≤ hi.toInt) = true := by rw [decide_eq_true_iff]; rw [i_lt] at h1 h2; omega
      rw [this]; rfl
theorem btw_0 (a : Int32) {n : Nat} (hn : n < 2 ^ 31) : btw 0 a (nI n - 1) = inR a n := by
  have e : (nI n - 1).toInt = (n : Int) - 1 := by
    cases n with
    | zero => rfl
    | succ k => rw [show nI (k + 1) - 1 = nI k from nI_pred k, nI_toInt (by omega)]; omega
  rw [Bool.eq_iff_iff, inR_iff, btw, decide_eq_true_iff, e, i_0]
  omega
theorem btw_lit (a : Int32) {n : Nat} {h : Int32} (hh : h = nI n) (hn : n + 1 < 2 ^ 31) : btw 0 a h = inR a (n + 1) := by
  rw [← btw_0 a hn, hh, nI_pred]
/-- a stretch of minutes -/
def spB (a b : Int32) : Bool := decide (0 ≤ a.toInt ∧ a.toInt ≤ b.toInt ∧ b.toInt < 10000)
theorem isStretch_e (N : Nat) (s : Hp) (a b : Int32) : f_X9_isStretch N s a b = some (b01 (spB a b), s) := by
  unfold f_X9_isStretch spB
  have e : (10000 : Int32).toInt = 10000 := rfl
  by_cases h1 : a < 0
  · rw [if_pos h1]
    rw [i_lt, i_0] at h1
    rw [decide_eq_false (by omega)]; rfl
  · rw [if_neg h1]
    rw [i_lt, i_0] at h1
    by_cases h2 : b < a
    · rw [if_pos h2]
      rw [i_lt] at h2
      rw [decide_eq_false (by omega)]; rfl
    · rw [if_neg h2]
      rw [i_lt] at h2
      by_cases h3 : 10000 ≤ b
      · rw [if_pos h3]
        rw [i_le, e] at h3
        rw [decide_eq_false (by omega)]; rfl
      · rw [if_neg h3]
        rw [i_le, e] at h3
        rw [decide_eq_true (by omega)]; rfl
theorem isSpan_e (N : Nat) (s : Hp) (a b : Int32) : f_X10_isSpan N s a b = some (b01 (spB a b), s) := by
  unfold f_X10_isSpan
  rw [isIn_e, bd_e]
  have e : (9999 : Int32).toInt = 9999 := rfl
  by_cases h1 : btw 0 a 9999 = true
  · rw [h1, if_neg (by decide), isIn_e, bd_e]
    by_cases h2 : btw a b 9999 = true
    · rw [h2, if_neg (by decide)]
      unfold btw at h1 h2
      unfold spB
      rw [decide_eq_true_iff, e] at h1 h2
      rw [i_0] at h1
      rw [decide_eq_true (by omega)]; rfl
    · rw [Bool.eq_false_iff.mpr h2, if_pos (show b01 false = 0 from rfl)]
      unfold btw at h1 h2
      unfold spB
      rw [decide_eq_true_iff, e] at h1 h2
      rw [i_0] at h1
      rw [decide_eq_false (by omega)]; rfl
  · rw [Bool.eq_false_iff.mpr h1, if_pos (show b01 false = 0 from rfl)]
    unfold btw at h1
    unfold spB
    rw [decide_eq_true_iff, e, i_0] at h1
    rw [decide_eq_false (by omega)]; rfl
theorem spB_v {a b : Int32} (h : spB a b = true) : vI 10000 a ∧ vI 10000 b ∧ a ≤ b := by
  unfold spB at h
  rw [decide_eq_true_iff] at h
  refine ⟨inR_vI (inR_iff.mpr (by omega)) (by omega), inR_vI (inR_iff.mpr (by omega)) (by omega), ?_⟩
  rw [i_le]; omega
theorem PS_00 : PS s00 := by
  refine ⟨⟨rfl, rfl, rfl, rfl, by decide⟩, ⟨rfl, rfl, rfl, rfl, rfl, rfl, by decide, fun i hi => absurd hi (Nat.not_lt_zero i)⟩, ⟨rfl, rfl, rfl, rfl, rfl, rfl, rfl, rfl, by decide, fun i hi => absurd hi (Nat.not_lt_zero i), fun i => Or.inl rfl, fun i _ => rfl, rfl⟩, fun m hm => absurd hm (Nat.not_lt_zero m), ⟨rfl, rfl, ⟨5, by decide, rfl⟩, ⟨10, by decide, rfl⟩⟩, ⟨fun _ => false, ⟨fun i hi => absurd hi (Nat.not_lt_zero i), fun i hi => absurd hi (Nat.not_lt_zero i), fun i j hi => absurd hi (Nat.not_lt_zero i)⟩, rfl⟩, ⟨rfl, rfl, rfl, by decide, fun i => ⟨0, by decide, rfl⟩⟩, ⟨rfl, rfl⟩, ⟨rfl, rfl, by decide, fun i hi => absurd hi (Nat.not_lt_zero i)⟩, ⟨rfl, rfl, 0, by decide, rfl⟩⟩
theorem ok_fault (N : Nat) : ag_fault N PS := by
  intro a s p
  have h8 : E8 s := p.2.2.2.2.2.2.2.1
  unfold f_X9_fault f_X10_fault
  by_cases h0 : a = 0
  · exact ⟨s 26 2, s, s, by simp [h0], by simp [h0, h8.1], p⟩
  · by_cases h1 : a = 1
    · exact ⟨s 26 3, s, s, by simp [h1], by simp [h1, h8.2], p⟩
    · exact ⟨-1, s, s, by simp [h0, h1], by simp [h0, h1], p⟩
theorem ok_slot (N : Nat) : ag_slot N PS := by
  intro a s p
  obtain ⟨e1, e2, n, hn, e3⟩ : E10 s := p.2.2.2.2.2.2.2.2.2
  dsimp only [f_X9_slot, f_X10_slot]
  have ea : f_X9_slot N s a = some (if inR a n then s 54 (ix a) else -1, s) := by
    unfold f_X9_slot
    rw [e1, e3, isBelow_e N s a (by omega), bd_e]
    by_cases h : inR a n = true
    · have h4 : inR a 4 = true := by rw [inR_iff] at h ⊢; omega
      rw [h, if_neg (by decide), h4, ck_t, e2]; rfl
    · rw [Bool.eq_false_iff.mpr h, if_pos (show b01 false = 0 from rfl)]; rfl
  have eb : f_X10_slot N s a = some (if inR a n then s 54 (ix a) else -1, s) := by
    unfold f_X10_slot
    rw [e3, isIn_e, btw_0 a (by omega), bd_e]
    by_cases h : inR a n = true
    · have h4 : inR a 4 = true := by rw [inR_iff] at h ⊢; omega
      rw [h, if_neg (by decide), h4, ck_t]; rfl
    · rw [Bool.eq_false_iff.mpr h, if_pos (show b01 false = 0 from rfl)]; rfl
  exact ⟨_, s, s, ea, eb, p⟩
theorem ifb {α : Type} (b : Bool) (x y : α) : (if b01 b = 0 then x else y) = cond b y x := by cases b <;> rfl
/-- valid post, channel, stretch -/
def hrB (n : Nat) (a c f t : Int32) : Bool := inR a n && (inR c 16 && spB f t)
theorem isHearing_e (N : Nat) (s : Hp) (a c f t : Int32) {n : Nat} (h : s 1 2 = nI n) (hn : n < 2 ^ 31) : f_X9_isHearing N s a c f t = some (b01 (hrB n a c f t), s) := by
  unfold f_X9_isHearing hrB
  rw [h, isBelow_e N s a hn, bd_e, ifb]
  cases inR a n with
  | false => rfl
  | true =>
    rw [cond_true, show (16 : Int32) = nI 16 from rfl, isBelow_e N s c (by decide), bd_e, ifb]
    cases inR c 16 with
    | false => rfl
    | true =>
      rw [cond_true, isStretch_e, bd_e, ifb]
      cases spB f t <;> rfl
theorem isPost_e (N : Nat) (s : Hp) (a : Int32) {n : Nat} (h : s 36 0 = nI n) (hn : n < 2 ^ 31) : f_X10_isPost N s a = some (b01 (inR a n), s) := by
  unfold f_X10_isPost
  rw [h, isIn_e, btw_0 a hn, bd_e, isB_b01, ck_t]
theorem Same.hs {s : Hp} {c k : Nat} {v : Int32} (h1 : relC c = false) (h2 : relS c k = false) (h3 : c ≠ 53) : Same s (hset s c k v) := by
  refine ⟨fun d hd => hset_d (fun e => ?_), fun d j hd => ?_, fun j hj => ?_⟩
  · rw [e, h1] at hd; cases hd
  · rw [hset_rd]
    by_cases e : d = c
    · rw [if_pos e]
      by_cases e2 : j = k
      · rw [e, e2, h2] at hd; cases hd
      · rw [if_neg e2, e]
    · rw [if_neg e]
  · rw [hset_d (Ne.symm h3)]
/-- the class's half has got a new post -/
theorem ok_post (N : Nat) : ag_post N PS := by
  intro a b s p
  obtain ⟨p1, p2, p3, p4, p5, p6, p7, p8, p9, p10⟩ := id p
  obtain ⟨e1, e2, e3, e4, e5⟩ := id p1
  dsimp only
  generalize hn : nP s = n at e4 e5
  by_cases h1 : inR a 32 = true ∧ inR b 32 = true ∧ n < 6
  · obtain ⟨ha, hb, hn6⟩ := h1
    have g1 : nI n < 6 := nI_lt hn6 (by decide)
    have g2 : ¬ nI n = 6 := fun q => by have := (nI_eq (show n < 2 ^ 31 by omega) (by decide)).mp (show nI n = nI 6 from q); omega
    have g3 : inR (nI n) 6 = true := inR_nI hn6 (by decide)
    have g4 : ix (nI n) = n := ix_nI (by omega)
    have g5 : nI n + 1 = nI (n + 1) := nI_1 n
    have g6 : nI (n + 1) - 1 = nI n := nI_pred n
    refine ⟨nI n, hset (hset (hset s 2 n a) 3 n b) 1 2 (nI (n + 1)), hset (hset (hset (hset (hset (hset s 2 n a) 3 n b) 1 2 (nI (n + 1))) 37 n a) 38 n b) 36 0 (nI (n + 1)), ?_, ?_, ?_⟩
    · unfold f_X9_post
      rw [show (32 : Int32) = nI 32 from rfl, isBelow_e N s a (by decide), bd_e, ha, if_neg (by decide), isBelow_e N s b (by decide), bd_e, hb, if_neg (by decide)]
      unfold f_X4_add
      simp [e1, e4, g1, g3, g4, ck_t, sb_e, bd_e, hset_rd, g5, g6]
    · unfold f_X10_post
      rw [isIn_e, btw_lit a (show (31 : Int32) = nI 31 from rfl) (by decide), bd_e, ha, if_neg (by decide), isIn_e, btw_lit b (show (31 : Int32) = nI 31 from rfl) (by decide), bd_e, hb, if_neg (by decide)]
      simp [e4, g2, g3, g4, ck_t, sb_e, hset_rd, g5, g6]
    · have hne : ∀ m, m < nM s → ix (s 43 m) ≠ n := fun m hm => by
        have := (vI_ix (p3.2.2.2.2.2.2.2.2.2.1 m hm).1 (by omega)).1
        omega
      refine ⟨⟨?_, ?_, ?_, ?_, ?_⟩, E2_fr p2 rfl rfl rfl rfl rfl rfl rfl rfl rfl rfl, E3_fr p3 ?_ rfl rfl rfl rfl rfl rfl rfl rfl rfl rfl rfl rfl rfl rfl rfl, E4_fr p4 p3.2.2.2.2.2.2.2.2.1 rfl rfl rfl rfl (fun m hm => ?_) (fun m hm => ?_), E5_fr p5 rfl rfl rfl rfl, E6_fr p6 rfl rfl rfl rfl rfl rfl rfl rfl rfl, E7_fr p7 rfl rfl rfl rfl, E8_fr p8 rfl rfl rfl rfl, E9_fr p9 rfl rfl (fun j _ => rfl) (fun i hi => ?_), E10_fr p10 rfl rfl rfl rfl⟩
      · rfl
      · show upd (s 2) n a = upd (s 37) n a
        rw [e2]
      · show upd (s 3) n b = upd (s 38) n b
        rw [e3]
      · show nI (n + 1) = nI (ix (nI (n + 1)))
        rw [ix_nI (by omega)]
      · show ix (nI (n + 1)) ≤ 6
        rw [ix_nI (by omega)]; omega
      · show nP s ≤ ix (nI (n + 1))
        rw [ix_nI (by omega)]; omega
      · rw [hset_d (by omega), hset_d (by omega), hset_d (by omega), hset_d (by omega), hset_d (by omega), hset_d (by omega)]
      · refine ⟨?_, ?_⟩
        · show upd (s 37) n a (ix (s 43 m)) = _
          simp [upd, hne m hm]
        · show upd (s 38) n b (ix (s 43 m)) = _
          simp [upd, hne m hm]
      · rw [hset_d (by omega), hset_d (by omega), hset_d (by omega), hset_d (by omega), hset_d (by omega), hset_d (by omega)]
  · have ea : f_X9_post N s a b = some (-1, s) := by
      unfold f_X9_post
      rw [show (32 : Int32) = nI 32 from rfl, isBelow_e N s a (by decide), bd_e, ifb]
      cases ha : inR a 32 with
      | false => rfl
      | true =>
        rw [cond_true, isBelow_e N s b (by decide), bd_e, ifb]
        cases hb : inR b 32 with
        | false => rfl
        | true =>
          have h6 : n = 6 := by
            rcases Nat.lt_or_ge n 6 with q | q
            · exact absurd ⟨ha, hb, q⟩ h1
            · omega
          rw [cond_true, e1, e4, h6]; rfl
    have eb : f_X10_post N s a b = some (-1, s) := by
      unfold f_X10_post
      rw [isIn_e, btw_lit a (show (31 : Int32) = nI 31 from rfl) (by decide), bd_e, ifb]
      cases ha : inR a 32 with
      | false => rfl
      | true =>
        rw [cond_true, isIn_e, btw_lit b (show (31 : Int32) = nI 31 from rfl) (by decide), bd_e, ifb]
        cases hb : inR b 32 with
        | false => rfl
        | true =>
          have h6 : n = 6 := by
            rcases Nat.lt_or_ge n 6 with q | q
            · exact absurd ⟨ha, hb, q⟩ h1
            · omega
          rw [cond_true, e4, h6]; rfl
    exact ⟨-1, s, s, ea, eb, p⟩
