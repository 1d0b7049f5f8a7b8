/-! listened, end, about, feed -/
theorem isHearing_no {n : Nat} {a c f t : Int32} (h : ¬ hrB n a c f t = true) : hrB n a c f t = false := Bool.eq_false_iff.mpr h
theorem hearM (N : Nat) (s : Hp) (a c f t : Int32) {n : Nat} (h : s 36 0 = nI n) (hn : n < 2 ^ 31) (k : Int32 → Hp → Option (Int32 × Hp)) (z : Option (Int32 × Hp)) :
    (bd (f_X10_isPost N s a) fun v2 s1 => if v2 = 0 then some (-1, s1) else bd (f_X10_isIn N s1 c 0 15) fun v4 s3 => if v4 = 0 then some (-1, s3) else bd (f_X10_isSpan N s3 f t) fun v6 s5 => if v6 = 0 then some (-1, s5) else k v6 s5) = if hrB n a c f t = true then k 1 s else some (-1, s) := by
  rw [isPost_e N s a h hn, bd_e, ifb]
  unfold hrB
  cases inR a n with
  | false => rfl
  | true =>
    rw [cond_true, isIn_e, btw_lit c (show (15 : Int32) = nI 15 from rfl) (by decide), bd_e, ifb]
    cases inR c 16 with
    | false => rfl
    | true =>
      rw [cond_true, isSpan_e, bd_e, ifb]
      cases spB f t <;> rfl
theorem hrB_v {n : Nat} {a c f t : Int32} (h : hrB n a c f t = true) (hn : n < 2 ^ 31) : vI n a ∧ vI 16 c ∧ vI 10000 f ∧ vI 10000 t ∧ f ≤ t := by
  unfold hrB at h
  rw [Bool.and_eq_true, Bool.and_eq_true] at h
  obtain ⟨h1, h2, h3⟩ := spB_v h.2.2
  exact ⟨inR_vI h.1 hn, inR_vI h.2.1 (by decide), h1, h2, h3⟩
theorem ok_listened (N : Nat) : ag_listened N PS := by
  intro a c f t s p
  obtain ⟨p1, p2, p3, p4, p5, p6, p7, p8, p9, p10⟩ := id p
  have hp6 : nP s < 2 ^ 31 := by have := p1.2.2.2.2; omega
  obtain ⟨e1, e2, e3, e4, e5, e6, e7, e8⟩ := id p2
  dsimp only
  generalize hn : nL s = n at e6 e7
  have hA : f_X9_isHearing N s a c f t = some (b01 (hrB (nP s) a c f t), s) := isHearing_e N s a c f t (p1.1.trans p1.2.2.2.1) hp6
  by_cases h1 : hrB (nP s) a c f t = true ∧ n < 100
  · obtain ⟨hh, hn1⟩ := h1
    obtain ⟨v1, v2, v3, v4, v5⟩ := hrB_v hh hp6
    have g1 : nI n < 100 := nI_lt hn1 (by decide)
    have g2 : ¬ nI n = 100 := fun q => by have := (nI_eq (show n < 2 ^ 31 by omega) (by decide)).mp (show nI n = nI 100 from q); omega
    have g3 : inR (nI n) 100 = true := inR_nI hn1 (by decide)
    have g4 : ix (nI n) = n := ix_nI (by omega)
    have g5 : nI n + 1 = nI (n + 1) := nI_1 n
    have g6 : nI (n + 1) - 1 = nI n := nI_pred n
    refine ⟨nI (n + 1), hset (hset (hset (hset (hset s 5 n a) 6 n c) 7 n f) 8 n t) 4 4 (nI (n + 1)), hset (hset (hset (hset (hset (hset (hset (hset (hset (hset s 5 n a) 6 n c) 7 n f) 8 n t) 4 4 (nI (n + 1))) 39 n a) 40 n c) 41 n f) 42 n t) 36 3 (nI (n + 1)), ?_, ?_, ?_⟩
    · unfold f_X9_listened
      rw [hA, bd_e, hh, if_neg (by decide)]
      unfold f_X7_add
      simp [e1, e6, g1, g3, g4, ck_t, sb_e, bd_e, hset_rd, g5, g6]
    · unfold f_X10_listened
      rw [hearM N _ a c f t (n := nP s) p1.2.2.2.1 hp6 _ none, if_pos hh]
      simp [e6, g2, g3, g4, ck_t, sb_e, hset_rd, g5]
    · refine ⟨E1_fr p1 rfl rfl rfl rfl rfl rfl, ⟨?_, ?_, ?_, ?_, ?_, ?_, ?_, ?_⟩, E3_fr p3 (Nat.le_refl _) rfl rfl rfl rfl rfl rfl rfl rfl rfl rfl rfl rfl rfl rfl rfl, E4_fr p4 p3.2.2.2.2.2.2.2.2.1 rfl rfl rfl rfl (fun m hm => ?_) (fun m hm => ⟨rfl, rfl⟩), E5_fr p5 rfl rfl rfl rfl, E6_fr p6 rfl rfl rfl rfl rfl rfl rfl rfl rfl, E7_fr p7 rfl rfl rfl rfl, E8_fr p8 rfl rfl rfl rfl, E9_fr p9 rfl rfl (fun j _ => rfl) (fun i hi => ?_), E10_fr p10 rfl rfl rfl rfl⟩
      · rfl
      · show upd (s 5) n a = upd (s 39) n a
        rw [e2]
      · show upd (s 6) n c = upd (s 40) n c
        rw [e3]
      · show upd (s 7) n f = upd (s 41) n f
        rw [e4]
      · show upd (s 8) n t = upd (s 42) n t
        rw [e5]
      · show nI (n + 1) = nI (ix (nI (n + 1)))
        rw [ix_nI (by omega)]
      · show ix (nI (n + 1)) ≤ 100
        rw [ix_nI (by omega)]; omega
      · show ∀ i, i < ix (nI (n + 1)) → vI 6 (upd (s 39) n a i) ∧ vI 16 (upd (s 40) n c i) ∧ vI 10000 (upd (s 41) n f i) ∧ vI 10000 (upd (s 42) n t i) ∧ upd (s 41) n f i ≤ upd (s 42) n t i
        rw [ix_nI (by omega)]
        intro i hi
        by_cases hin : i = n
        · subst hin
          simp only [upd, if_true]
          exact ⟨vI_mono v1 p1.2.2.2.2, v2, v3, v4, v5⟩
        · simp only [upd, if_neg hin]
          exact e8 i (by omega)
      all_goals (simp only [hset_d (show 58 + _ ≠ _ by omega), hset_d (show 118 + _ ≠ _ by omega)] <;> (repeat rw [hset_d (by omega)]))
  · have ea : f_X9_listened N s a c f t = some (-1, s) := by
      unfold f_X9_listened
      rw [hA, bd_e, ifb]
      cases hh : hrB (nP s) a c f t with
      | false => rfl
      | true =>
        have h6 : n = 100 := by
          rcases Nat.lt_or_ge n 100 with q | q
          · exact absurd ⟨hh, q⟩ h1
          · omega
        rw [cond_true, e1, e6, h6]; rfl
    have eb : f_X10_listened N s a c f t = some (-1, s) := by
      unfold f_X10_listened
      rw [hearM N s a c f t (n := nP s) p1.2.2.2.1 hp6 _ none]
      by_cases hh : hrB (nP s) a c f t = true
      · have h6 : n = 100 := by
          rcases Nat.lt_or_ge n 100 with q | q
          · exact absurd ⟨hh, q⟩ h1
          · omega
        rw [if_pos hh, e6, h6]; rfl
      · rw [if_neg hh]
    exact ⟨-1, s, s, ea, eb, p⟩
theorem ok_end (N : Nat) : ag_end N PS := by
  intro a s p
  obtain ⟨p1, p2, p3, p4, p5, p6, p7, p8, p9, p10⟩ := id p
  obtain ⟨e1, e2, e3, e4, e5⟩ := id p7
  dsimp only
  generalize hn : nT s = n at e3 e4
  have eb : ∀ u : Hp, u 36 22 = nI n → f_X10_end N u a = if inR a (n + 1) = true then some (a, hset u 36 22 a) else some (-1, u) := fun u hu => by
    unfold f_X10_end
    rw [hu, isIn_e, btw_lit a rfl (by omega), bd_e, ifb]
    cases inR a (n + 1) <;> rfl
  by_cases h : inR a (n + 1) = true
  · obtain ⟨j, hj, ej⟩ := inR_vI h (by omega)
    refine ⟨a, hset s 24 1 a, hset (hset s 24 1 a) 36 22 a, ?_, ?_, ?_⟩
    · unfold f_X9_end
      rw [inR_iff] at h
      rw [if_neg (by rw [i_lt, i_0]; omega), if_pos (by rw [e1, e3, i_le, nI_toInt (by omega)]; omega)]
      rfl
    · rw [eb (hset s 24 1 a) e3, if_pos h]
    · refine ⟨E1_fr p1 rfl rfl rfl rfl rfl rfl, E2_fr p2 rfl rfl rfl rfl rfl rfl rfl rfl rfl rfl, E3_fr p3 (Nat.le_refl _) rfl rfl rfl rfl rfl rfl rfl rfl rfl rfl rfl rfl rfl rfl rfl, E4_fr p4 p3.2.2.2.2.2.2.2.2.1 rfl rfl rfl rfl (fun m hm => ?_) (fun m hm => ⟨rfl, rfl⟩), E5_fr p5 rfl rfl rfl rfl, E6_fr p6 rfl rfl rfl rfl rfl rfl rfl rfl rfl, ⟨rfl, e2, ?_, ?_, e5⟩, E8_fr p8 rfl rfl rfl rfl, E9_fr p9 rfl rfl (fun j _ => rfl) (fun i hi => ?_), E10_fr p10 rfl rfl rfl rfl⟩
      · rw [hset_d (by omega), hset_d (by omega)]
      · show a = nI (ix a)
        rw [ej, ix_nI (by omega)]
      · show ix a ≤ 100
        rw [ej, ix_nI (by omega)]; omega
      · rw [hset_d (by omega), hset_d (by omega)]
  · refine ⟨-1, s, s, ?_, ?_, p⟩
    · unfold f_X9_end
      rw [inR_iff] at h
      by_cases h0 : a < 0
      · rw [if_pos h0]
      · rw [if_neg h0, if_neg (by rw [i_lt, i_0] at h0; rw [e1, e3, i_le, nI_toInt (by omega)]; omega)]
    · rw [eb s e3, if_neg h]
