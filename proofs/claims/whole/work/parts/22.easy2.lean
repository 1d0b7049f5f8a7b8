/-! listened, end, about, feed -/
theorem isHearing_no {n : Nat} {a c f t : Int32} (h : ¬ hrB n a c f t = true) : hrB n a c f t = false := Bool.eq_false_iff.mpr h
theorem hearM (N : Nat) (s : Hp) (a c f t : Int32) {n : Nat} (h : s 36 0 = nI n) (hn : n < 2 ^ 31) (k : Int32 → Hp → Option (Int32 × Hp)) (z : Option (Int32 × Hp)) :
    (bd (f_X10_isPost N s a) fun v2 s1 => if v2 = 0 then some (-1, s1) else bd (f_X10_isIn N s1 c 0 15) fun v4 s3 => if v4 = 0 then some (-1, s3) else bd (f_X10_isSpan N s3 f t) fun v6 s5 => if v6 = 0 then some (-1, s5) else k v6 s5) = if hrB n a c f t = true then k 1 s else some (-1, s) := by
  rw [isPost_e N s a h hn, bd_e, ifb]
  unfold hrB
  cases inR a n with
  | false => rfl
  | true =>
    rw [cond_true, isIn_e, btw_lit c (show (15 : Int32) = nI 15 from rfl) (by decide), bd_e, ifb]
    cases inR c 16 with
    | false => rfl
    | true =>
      rw [cond_true, isSpan_e, bd_e, ifb]
      cases spB f t <;> rfl
theorem hrB_v {n : Nat} {a c f t : Int32} (h : hrB n a c f t = true) (hn : n < 2 ^ 31) : vI n a ∧ vI 16 c ∧ vI 10000 f ∧ vI 10000 t ∧ f ≤ t := by
  unfold hrB at h
  rw [Bool.and_eq_true, Bool.and_eq_true] at h
  obtain ⟨h1, h2, h3⟩ := spB_v h.2.2
  exact ⟨inR_vI h.1 hn, inR_vI h.2.1 (by decide), h1, h2, h3⟩
theorem ok_listened (N : Nat) : ag_listened N PS := by
  intro a c f t s p
  obtain ⟨p1, p2, p3, p4, p5, p6, p7, p8, p9, p10⟩ := id p
  have hp6 : nP s < 2 ^ 31 := by have := p1.2.2.2.2; omega
  obtain ⟨e1, e2, e3, e4, e5, e6, e7, e8⟩ := id p2
  dsimp only
  generalize hn : nL s = n at e6 e7
  have hA : f_X9_isHearing N s a c f t = some (b01 (hrB (nP s) a c f t), s) := isHearing_e N s a c f t (p1.1.trans p1.2.2.2.1) hp6
  by_cases h1 : hrB (nP s) a c f t = true ∧ n < 100
  · obtain ⟨hh, hn1⟩ := h1
    obtain ⟨v1, v2, v3, v4, v5⟩ := hrB_v hh hp6
    have g1 : nI n < 100 := nI_lt hn1 (by decide)
    have g2 : ¬ nI n = 100 := fun q => by have := (nI_eq (show n < 2 ^ 31 by omega) (by decide)).mp (show nI n = nI 100 from q); omega
    have g3 : inR (nI n) 100 = true := inR_nI hn1 (by decide)
    have g4 : ix (nI n) = n := ix_nI (by omega)
    have g5 : nI n + 1 = nI (n + 1) := nI_1 n
    have g6 : nI (n + 1) - 1 = nI n := nI_pred n
    refine ⟨nI (n + 1), hset (hset (hset (hset (hset s 5 n a) 6 n c) 7 n f) 8 n t) 4 4 (nI (n + 1)), hset (hset (hset (hset (hset (hset (hset (hset (hset (hset s 5 n a) 6 n c) 7 n f) 8 n t) 4 4 (nI (n + 1))) 39 n a) 40 n c) 41 n f) 42 n t) 36 3 (nI (n + 1)), ?_, ?_, ?_⟩
    · unfold f_X9_listened
      rw [hA, bd_e, hh, if_neg (by decide)]
      unfold f_X7_add
      simp [e1, e6, g1, g3, g4, ck_t, sb_e, bd_e, hset_rd, g5, g6]
    · unfold f_X10_listened
      rw [hearM N (hset (hset (hset (hset (hset s 5 n a) 6 n c) 7 n f) 8 n t) 4 4 (nI (n + 1))) a c f t (n := nP s) p1.2.2.2.1 hp6 _ none, if_pos hh]
      simp [e6, g2, g3, g4, ck_t, sb_e, hset_rd, g5]
    · refine ⟨E1_fr p1 rfl rfl rfl rfl rfl rfl, ⟨?_, ?_, ?_, ?_, ?_, ?_, ?_, ?_⟩, E3_fr p3 (Nat.le_refl _) rfl rfl rfl rfl rfl rfl rfl rfl rfl rfl rfl rfl rfl rfl rfl, E4_fr p4 p3.2.2.2.2.2.2.2.2.1 rfl rfl rfl rfl (fun m hm => ?_) (fun m hm => ⟨rfl, rfl⟩), E5_fr p5 rfl rfl rfl rfl, E6_fr p6 rfl rfl rfl rfl rfl rfl rfl rfl rfl, E7_fr p7 rfl rfl rfl rfl, E8_fr p8 rfl rfl rfl rfl, E9_fr p9 rfl rfl (fun j _ => rfl) (fun i hi => ?_), E10_fr p10 rfl rfl rfl rfl⟩
      · rfl
      · show upd (s 5) n a = upd (s 39) n a
        rw [e2]
      · show upd (s 6) n c = upd (s 40) n c
        rw [e3]
      · show upd (s 7) n f = upd (s 41) n f
        rw [e4]
      · show upd (s 8) n t = upd (s 42) n t
        rw [e5]
      · show nI (n + 1) = nI (ix (nI (n + 1)))
        rw [ix_nI (by omega)]
      · show ix (nI (n + 1)) ≤ 100
        rw [ix_nI (by omega)]; omega
      · show ∀ i, i < ix (nI (n + 1)) → vI 6 (upd (s 39) n a i) ∧ vI 16 (upd (s 40) n c i) ∧ vI 10000 (upd (s 41) n f i) ∧ vI 10000 (upd (s 42) n t i) ∧ upd (s 41) n f i ≤ upd (s 42) n t i
        rw [ix_nI (by omega)]
        intro i hi
        by_cases hin : i = n
        · subst hin
          simp only [upd, if_true]
          exact ⟨vI_mono v1 p1.2.2.2.2, v2, v3, v4, v5⟩
        · simp only [upd, if_neg hin]
          exact e8 i (by omega)
      all_goals rw [hset_d (by omega), hset_d (by omega), hset_d (by omega), hset_d (by omega), hset_d (by omega), hset_d (by omega), hset_d (by omega), hset_d (by omega), hset_d (by omega), hset_d (by omega)]
  · have ea : f_X9_listened N s a c f t = some (-1, s) := by
      unfold f_X9_listened
      rw [hA, bd_e, ifb]
      cases hh : hrB (nP s) a c f t with
      | false => rfl
      | true =>
        have h6 : n = 100 := by
          rcases Nat.lt_or_ge n 100 with q | q
          · exact absurd ⟨hh, q⟩ h1
          · omega
        rw [cond_true, e1, e6, h6]; rfl
    have eb : f_X10_listened N s a c f t = some (-1, s) := by
      unfold f_X10_listened
      rw [hearM N s a c f t (n := nP s) p1.2.2.2.1 hp6 _ none]
      by_cases hh : hrB (nP s) a c f t = true
      · have h6 : n = 100 := by
          rcases Nat.lt_or_ge n 100 with q | q
          · exact absurd ⟨hh, q⟩ h1
          · omega
        rw [if_pos hh, e6, h6]; rfl
      · rw [if_neg hh]
    exact ⟨-1, s, s, ea, eb, p⟩
theorem ok_end (N : Nat) : ag_end N PS := by
  intro a s p
  obtain ⟨p1, p2, p3, p4, p5, p6, p7, p8, p9, p10⟩ := id p
  obtain ⟨e1, e2, e3, e4, e5⟩ := id p7
  dsimp only
  generalize hn : nT s = n at e3 e4
  have eb : ∀ u : Hp, u 36 22 = nI n → f_X10_end N u a = if inR a (n + 1) = true then some (a, hset u 36 22 a) else some (-1, u) := fun u hu => by
    unfold f_X10_end
    rw [hu, isIn_e, btw_lit a rfl (by omega), bd_e, ifb]
    cases inR a (n + 1) <;> rfl
  by_cases h : inR a (n + 1) = true
  · obtain ⟨j, hj, ej⟩ := inR_vI h (by omega)
    refine ⟨a, hset s 24 1 a, hset (hset s 24 1 a) 36 22 a, ?_, ?_, ?_⟩
    · unfold f_X9_end
      rw [inR_iff] at h
      rw [if_neg (by rw [i_lt, i_0]; omega), if_pos (by rw [e1, e3, i_le, nI_toInt (by omega)]; omega)]
      rfl
    · rw [eb (hset s 24 1 a) e3, if_pos h]
    · refine ⟨E1_fr p1 rfl rfl rfl rfl rfl rfl, E2_fr p2 rfl rfl rfl rfl rfl rfl rfl rfl rfl rfl, E3_fr p3 (Nat.le_refl _) rfl rfl rfl rfl rfl rfl rfl rfl rfl rfl rfl rfl rfl rfl rfl, E4_fr p4 p3.2.2.2.2.2.2.2.2.1 rfl rfl rfl rfl (fun m hm => ?_) (fun m hm => ⟨rfl, rfl⟩), E5_fr p5 rfl rfl rfl rfl, E6_fr p6 rfl rfl rfl rfl rfl rfl rfl rfl rfl, ⟨rfl, e2, ?_, ?_, e5⟩, E8_fr p8 rfl rfl rfl rfl, E9_fr p9 rfl rfl (fun j _ => rfl) (fun i hi => ?_), E10_fr p10 rfl rfl rfl rfl⟩
      · rw [hset_d (by omega), hset_d (by omega)]
      · show a = nI (ix a)
        rw [ej, ix_nI (by omega)]
      · show ix a ≤ 100
        rw [ej, ix_nI (by omega)]; omega
      · rw [hset_d (by omega), hset_d (by omega)]
  · refine ⟨-1, s, s, ?_, ?_, p⟩
    · unfold f_X9_end
      rw [inR_iff] at h
      by_cases h0 : a < 0
      · rw [if_pos h0]
      · rw [if_neg h0, if_neg (by rw [i_lt, i_0] at h0; rw [e1, e3, i_le, nI_toInt (by omega)]; omega)]
    · rw [eb s e3, if_neg h]
/-! feed -/
theorem byte_eq (x : Int32) (k : Nat) (hk : k ≤ 24) : (ushr x (nI k)) &&& 255 = (x >>> (nI k &&& 31)) &&& 255 := by
  apply b_ext
  intro i hi
  rw [b_and, b_and, b_255]
  show (bt ((x.toUInt32 >>> ((nI k).toUInt32 &&& Int32.toUInt32 31)).toInt32) i && _) = _
  rw [b_ushr k (by omega), b_sshr k (by omega) x hi]
  by_cases h : i < 8
  · rw [if_pos (by omega)]
  · rw [decide_eq_false h, Bool.and_false, Bool.and_false]
def byt (x : Int32) (k : Nat) : Int32 := (ushr x (nI k)) &&& 255
theorem byt_v (x : Int32) (k : Nat) : vI 256 (byt x k) := by
  obtain ⟨j, hj, e⟩ := pk_andE (ushr x (nI k)) (m := 255) 8 rfl
  exact ⟨j, hj, e⟩
def up4 (f : Nat → Int32) (n : Nat) (x : Int32) : Nat → Int32 := upd (upd (upd (upd f n (byt x 24)) (n + 1) (byt x 16)) (n + 2) (byt x 8)) (n + 3) (byt x 0)
theorem add4_e (M : Nat) (s : Hp) (x : Int32) {n : Nat} (h : s 24 1 = nI n) (hn : n + 4 ≤ 100) : ∃ t, f_X8_add (M + 5) s x = some (0, t) ∧ t 25 = up4 (s 25) n x ∧ t 24 1 = nI (n + 4) ∧ ∀ c, c ≠ 24 → c ≠ 25 → t c = s c := by
  have step : ∀ (m : Nat) (u : Hp) (y : Int32) (k j : Nat), y = nI k → k < 32 → u 24 1 = nI j → j < 100 → f_X8_add_3 (M + 5) (lp (fun _ _ _ => none) (f_X8_add_3 (M + 5)) m) u x y = lp (fun _ _ _ => none) (f_X8_add_3 (M + 5)) m (hset (hset u 25 j (byt x k)) 24 1 (nI (j + 1))) x (y + (-8)) := by
    intro m u y k j hy hk hu hj
    have g1 : ¬ y < 0 := by rw [hy]; exact nI_pos (by omega)
    have g2 : ¬ 100 ≤ nI j := nI_ge (show j < 100 from hj) (by decide)
    have g3 : inR (nI j) 100 = true := inR_nI hj (by decide)
    have g4 : ix (nI j) = j := ix_nI (by omega)
    unfold f_X8_add_3
    rw [if_neg g1, hu, if_neg g2, g3, ck_t, sb_e, sb_e, vb_e, g4, hy]
    have e : (hset u 25 j (ushr x (nI k) &&& 255)) 24 1 + 1 = nI (j + 1) := by
      show u 24 1 + 1 = _
      rw [hu]; exact nI_1 j
    rw [e]
    rfl
  have stop : ∀ (m : Nat) (u : Hp) (y : Int32), y < 0 → f_X8_add_3 (M + 5) (lp (fun _ _ _ => none) (f_X8_add_3 (M + 5)) m) u x y = some (0, u) := fun m u y hy => by
    unfold f_X8_add_3
    rw [if_pos hy]
  unfold f_X8_add l_X8_add_3
  rw [lp_s, step _ s 24 24 n rfl (by omega) h (by omega), lp_s, step _ _ _ 16 (n + 1) (by decide) (by omega) rfl (by omega), lp_s, step _ _ _ 8 (n + 2) (by decide) (by omega) rfl (by omega), lp_s, step _ _ _ 0 (n + 3) (by decide) (by omega) rfl (by omega), lp_s, stop _ _ _ (by decide)]
  exact ⟨_, rfl, rfl, rfl, fun c h1 h2 => by rw [hset_d h1, hset_d h2, hset_d h1, hset_d h2, hset_d h1, hset_d h2, hset_d h1, hset_d h2]⟩
theorem four_e (M : Nat) (s : Hp) (x : Int32) {n : Nat} (h : s 36 22 = nI n) (hn : n + 4 ≤ 100) : ∃ t, f_X10_four (M + 5) s x = some (0, t) ∧ t 52 = up4 (s 52) n x ∧ t 36 22 = nI (n + 4) ∧ (∀ c, c ≠ 36 → c ≠ 52 → t c = s c) ∧ ∀ k, k ≠ 22 → t 36 k = s 36 k := by
  have step : ∀ (m : Nat) (u : Hp) (y : Int32) (k j : Nat), y = nI k → k ≤ 24 → u 36 22 = nI j → j < 100 → f_X10_four_3 (M + 5) (lp (fun _ _ _ => none) (f_X10_four_3 (M + 5)) m) u x y = lp (fun _ _ _ => none) (f_X10_four_3 (M + 5)) m (hset (hset u 52 j (byt x k)) 36 22 (nI (j + 1))) x (y + (-8)) := by
    intro m u y k j hy hk hu hj
    have g1 : ¬ y < 0 := by rw [hy]; exact nI_pos (by omega)
    have g3 : inR (nI j) 100 = true := inR_nI hj (by decide)
    have g4 : ix (nI j) = j := ix_nI (by omega)
    unfold f_X10_four_3
    rw [if_neg g1, hu, g3, ck_t, sb_e, sb_e, vb_e, g4, hy, ← byte_eq x k hk]
    have e : (hset u 52 j (ushr x (nI k) &&& 255)) 36 22 + 1 = nI (j + 1) := by
      show u 36 22 + 1 = _
      rw [hu]; exact nI_1 j
    rw [e]
    rfl
  have stop : ∀ (m : Nat) (u : Hp) (y : Int32), y < 0 → f_X10_four_3 (M + 5) (lp (fun _ _ _ => none) (f_X10_four_3 (M + 5)) m) u x y = some (0, u) := fun m u y hy => by
    unfold f_X10_four_3
    rw [if_pos hy]
  unfold f_X10_four l_X10_four_3
  rw [lp_s, step _ s 24 24 n rfl (by omega) h (by omega), lp_s, step _ _ _ 16 (n + 1) (by decide) (by omega) rfl (by omega), lp_s, step _ _ _ 8 (n + 2) (by decide) (by omega) rfl (by omega), lp_s, step _ _ _ 0 (n + 3) (by decide) (by omega) rfl (by omega), lp_s, stop _ _ _ (by decide)]
  exact ⟨_, rfl, rfl, rfl, fun c h1 h2 => by rw [hset_d h1, hset_d h2, hset_d h1, hset_d h2, hset_d h1, hset_d h2, hset_d h1, hset_d h2], fun k hk => by rw [hs_slot hk, hset_d (by decide), hs_slot hk, hset_d (by decide), hs_slot hk, hset_d (by decide), hs_slot hk, hset_d (by decide)]⟩
theorem up4_v {f : Nat → Int32} (h : ∀ i, vI 256 (f i)) (n : Nat) (x : Int32) : ∀ i, vI 256 (up4 f n x i) := by
  intro i
  unfold up4 upd
  repeat' split
  all_goals first | exact byt_v x _ | exact h i
theorem ok_feed {N : Nat} (hN : 5 ≤ N) : ag_feed N PS := by
  obtain ⟨M, rfl⟩ : ∃ M, N = M + 5 := ⟨N - 5, by omega⟩
  intro a b c d e s p
  obtain ⟨p1, p2, p3, p4, p5, p6, p7, p8, p9, p10⟩ := id p
  obtain ⟨q1, q2, q3, q4, q5⟩ := id p7
  dsimp only
  generalize hn : nT s = n at q3 q4
  by_cases h : n + 20 ≤ 100
  · have hA : nI n + 20 ≤ 100 := by
      rw [show (20 : Int32) = nI 20 from rfl, nI_add]
      exact nI_le (show n + 20 ≤ 100 from h) (by decide)
    obtain ⟨t1, f1, g1, k1, r1⟩ := add4_e M s a (q1.trans q3) (by omega)
    obtain ⟨t2, f2, g2, k2, r2⟩ := add4_e M t1 b k1 (by omega)
    obtain ⟨t3, f3, g3, k3, r3⟩ := add4_e M t2 c k2 (by omega)
    obtain ⟨t4, f4, g4, k4, r4⟩ := add4_e M t3 d k3 (by omega)
    obtain ⟨t5, f5, g5, k5, r5⟩ := add4_e M t4 e k4 (by omega)
    have rC : ∀ c, c ≠ 24 → c ≠ 25 → t5 c = s c := fun c h1 h2 => by rw [r5 c h1 h2, r4 c h1 h2, r3 c h1 h2, r2 c h1 h2, r1 c h1 h2]
    have hm : t5 36 22 = nI n := by rw [rC 36 (by decide) (by decide)]; exact q3
    obtain ⟨u1, F1, G1, K1, R1, S1⟩ := four_e M t5 a hm (by omega)
    obtain ⟨u2, F2, G2, K2, R2, S2⟩ := four_e M u1 b K1 (by omega)
    obtain ⟨u3, F3, G3, K3, R3, S3⟩ := four_e M u2 c K2 (by omega)
    obtain ⟨u4, F4, G4, K4, R4, S4⟩ := four_e M u3 d K3 (by omega)
    obtain ⟨u5, F5, G5, K5, R5, S5⟩ := four_e M u4 e K4 (by omega)
    have rM : ∀ c, c ≠ 36 → c ≠ 52 → u5 c = t5 c := fun c h1 h2 => by rw [R5 c h1 h2, R4 c h1 h2, R3 c h1 h2, R2 c h1 h2, R1 c h1 h2]
    have rS : ∀ k, k ≠ 22 → u5 36 k = s 36 k := fun k h1 => by rw [S5 k h1, S4 k h1, S3 k h1, S2 k h1, S1 k h1, rC 36 (by decide) (by decide)]
    have r0 : ∀ c, c ≠ 24 → c ≠ 25 → c ≠ 36 → c ≠ 52 → u5 c = s c := fun c h1 h2 h3 h4 => by rw [rM c h3 h4, rC c h1 h2]
    have e24 : u5 24 = t5 24 := rM 24 (by decide) (by decide)
    have e25 : u5 25 = t5 25 := rM 25 (by decide) (by decide)
    refine ⟨nI (n + 4 + 4 + 4 + 4 + 4), t5, u5, ?_, ?_, ?_⟩
    · unfold f_X9_feed
      rw [q1, q3, if_pos hA, f1, bd_e, f2, bd_e, f3, bd_e, f4, bd_e, f5, bd_e, k5]
    · unfold f_X10_feed
      rw [hm, if_pos hA, F1, bd_e, F2, bd_e, F3, bd_e, F4, bd_e, F5, bd_e, K5]
    · refine ⟨E1_fr p1 (by rw [r0 1] <;> decide) (rS 0 (by decide)) (by rw [r0 2] <;> decide) (by rw [r0 3] <;> decide) (by rw [r0 37] <;> decide) (by rw [r0 38] <;> decide), E2_fr p2 (by rw [r0 4] <;> decide) (rS 3 (by decide)) (by rw [r0 5] <;> decide) (by rw [r0 6] <;> decide) (by rw [r0 7] <;> decide) (by rw [r0 8] <;> decide) (by rw [r0 39] <;> decide) (by rw [r0 40] <;> decide) (by rw [r0 41] <;> decide) (by rw [r0 42] <;> decide), E3_fr p3 (by unfold nP; rw [rS 0 (by decide)]; exact Nat.le_refl _) (by rw [r0 10] <;> decide) (rS 8 (by decide)) (by rw [r0 9] <;> decide) (by rw [r0 11] <;> decide) (by rw [r0 12] <;> decide) (by rw [r0 13] <;> decide) (by rw [r0 14] <;> decide) (by rw [r0 15] <;> decide) (by rw [r0 16] <;> decide) (by rw [r0 43] <;> decide) (by rw [r0 44] <;> decide) (by rw [r0 45] <;> decide) (by rw [r0 46] <;> decide) (by rw [r0 47] <;> decide) (by rw [r0 48] <;> decide), E4_fr p4 p3.2.2.2.2.2.2.2.2.1 (rS 8 (by decide)) (by rw [r0 48] <;> decide) (by rw [r0 49] <;> decide) (by rw [r0 43] <;> decide) (fun m hm => r0 _ (by omega) (by omega) (by omega) (by omega)) (fun m hm => ⟨by rw [r0 37] <;> decide, by rw [r0 38] <;> decide⟩), E5_fr p5 (by rw [r0 18] <;> decide) (by rw [r0 18] <;> decide) (rS 16 (by decide)) (rS 17 (by decide)), E6_fr p6 (rS 8 (by decide)) (by rw [r0 44] <;> decide) (by rw [r0 45] <;> decide) (by rw [r0 46] <;> decide) (by rw [r0 47] <;> decide) (rS 16 (by decide)) (rS 17 (by decide)) (by rw [r0 20] <;> decide) (by rw [r0 18] <;> decide), ⟨?_, ?_, ?_, ?_, ?_⟩, E8_fr p8 (by rw [r0 26] <;> decide) (by rw [r0 26] <;> decide) (rS 25 (by decide)) (rS 26 (by decide)), E9_fr p9 (by rw [r0 28] <;> decide) (rS 23 (by decide)) (fun j _ => by rw [r0 53] <;> decide) (fun i hi => r0 _ (by omega) (by omega) (by omega) (by omega)), E10_fr p10 (by rw [r0 30] <;> decide) (rS 31 (by decide)) (by rw [r0 35] <;> decide) (by rw [r0 54] <;> decide)⟩
      · rw [e24, k5, K5]
      · rw [e25, g5, g4, g3, g2, g1, G5, G4, G3, G2, G1, rC 52 (by decide) (by decide), q2]
      · show u5 36 22 = nI (ix (u5 36 22))
        rw [K5, ix_nI (by omega)]
      · show ix (u5 36 22) ≤ 100
        rw [K5, ix_nI (by omega)]; omega
      · rw [G5, G4, G3, G2, G1, rC 52 (by decide) (by decide)]
        exact up4_v (up4_v (up4_v (up4_v (up4_v q5 _ _) _ _) _ _) _ _) _ _
  · have hA : ¬ nI n + 20 ≤ 100 := by
      rw [show (20 : Int32) = nI 20 from rfl, nI_add]
      exact nI_ge (show 100 < n + 20 by omega) (by omega)
    refine ⟨-1, s, s, ?_, ?_, p⟩
    · unfold f_X9_feed
      rw [q1, q3, if_neg hA]
    · unfold f_X10_feed
      rw [q3, if_neg hA]
