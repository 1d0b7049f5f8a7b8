/-! wedge -/
def lsB (a b c d px py : Int32) (f : Nat) : Bool := decide (0 ≤ a * (nI (f / 32) - py) - b * (nI (f % 32) - px)) && decide (0 ≤ (nI (f % 32) - px) * d - (nI (f / 32) - py) * c)
theorem liesB_ls (s : Hp) (m f : Nat) : liesB s m f = lsB (s 49 (4 * m)) (s 49 (4 * m + 1)) (s 49 (4 * m + 2)) (s 49 (4 * m + 3)) (s 37 (ix (s 43 m))) (s 38 (ix (s 43 m))) f := rfl
theorem isSide_e (N : Nat) (s : Hp) (x : Int32) : f_X9_isSide N s x = some (b01 (btw (-100) x 100), s) := by
  unfold f_X9_isSide btw
  by_cases h1 : x < -100
  · rw [if_pos h1, decide_eq_false]
    · rfl
    · rw [i_lt] at h1; omega
  · rw [if_neg h1]
    by_cases h2 : 100 < x
    · rw [if_pos h2, decide_eq_false]
      · rfl
      · rw [i_lt] at h2; omega
    · rw [if_neg h2, decide_eq_true]
      · rfl
      · rw [i_lt] at h1 h2; omega
theorem isWay_e (N : Nat) (s : Hp) (x y : Int32) : f_X10_isWay N s x y = some (b01 (btw (-100) x 100 && (btw (-100) y 100 && !(decide (x = 0) && decide (y = 0)))), s) := by
  unfold f_X10_isWay f_X10_isWay_30
  rw [isIn_e, bd_e, ifb]
  cases btw (-100) x 100 with
  | false => rfl
  | true =>
    rw [cond_true, isIn_e, bd_e, ifb]
    cases btw (-100) y 100 with
    | false => rfl
    | true =>
      rw [cond_true]
      by_cases h1 : x = 0
      · by_cases h2 : y = 0
        · rw [if_pos h1, if_pos h2, decide_eq_true h1, decide_eq_true h2]; rfl
        · rw [if_pos h1, if_neg h2, decide_eq_true h1, decide_eq_false h2]; rfl
      · rw [if_neg h1, decide_eq_false h1]; rfl
theorem clear_loop (N : Nat) {r : Nat} (hr : r < 60) : ∀ k i m (s : Hp), i + k = 32 → k < m → ∃ t, lp (fun _ _ _ => none) (f_X2_clearFields_28 N) m s (nI r) (nI i) = some (0, t) ∧ (∀ c, c ≠ 58 + r → t c = s c) ∧ ∀ j, t (58 + r) j = if i ≤ j ∧ j < 32 then 0 else s (58 + r) j
  | k, i, 0, s, _, hm => absurd hm (Nat.not_lt_zero k)
  | 0, i, m + 1, s, hi, _ => by
    rw [lp_s]; unfold f_X2_clearFields_28
    rw [if_pos (show (32 : Int32) ≤ nI i from nI_le (a := 32) (by omega) (by omega))]
    exact ⟨s, rfl, fun _ _ => rfl, fun j => by rw [if_neg (by omega)]⟩
  | k + 1, i, m + 1, s, hi, hm => by
    have ih := fun s => clear_loop N hr k (i + 1) m s (by omega) (by omega)
    have g1 : ¬ (32 : Int32) ≤ nI i := nI_ge (b := 32) (by omega) (by omega)
    have g2 : inR (nI i) 32 = true := inR_nI (by omega) (by decide)
    have g3 : inR (nI r) 60 = true := inR_nI (by omega) (by decide)
    rw [lp_s]
    generalize lp (fun _ _ _ => none) (f_X2_clearFields_28 N) m = S at ih ⊢
    unfold f_X2_clearFields_28
    rw [if_neg g1, g2, g3, ck_t, ck_t, sb_e, vb_e, nI_1, ix_nI (by omega), ix_nI (by omega)]
    obtain ⟨t, e, r1, r2⟩ := ih (hset s (58 + r) i 0)
    refine ⟨t, e, fun c hc => by rw [r1 c hc, hset_d hc], fun j => ?_⟩
    rw [r2 j, hset_rd, if_pos rfl]
    by_cases hj : j = i
    · subst hj
      rw [if_pos rfl, if_neg (by omega), if_pos ⟨by omega, by omega⟩]
    · rw [if_neg hj]
      by_cases hc : i + 1 ≤ j ∧ j < 32
      · rw [if_pos hc, if_pos ⟨by omega, by omega⟩]
      · rw [if_neg hc, if_neg (by omega)]
theorem clear_e {N : Nat} (hN : 101 ≤ N) (s : Hp) {r : Nat} (hr : r < 60) (h01 : s 16 r = 0 ∨ s 16 r = 1) : ∃ t, f_X2_clearFields N s (nI r) = some (0, t) ∧ (∀ c, c ≠ 58 + r → c ≠ 16 → c ≠ 9 → t c = s c) ∧ (∀ j, j < 32 → t (58 + r) j = 0) ∧ t 16 = upd (s 16) r 1 ∧ t 9 4 = if s 16 r = 0 then s 9 4 + 1 else s 9 4 := by
  have g3 : inR (nI r) 60 = true := inR_nI (by omega) (by decide)
  unfold f_X2_clearFields f_X2_clearFields_26
  rw [g3, ck_t, ck_t, sb_e, sb_e, ix_nI (by omega)]
  by_cases h : s 16 r = 0
  · rw [if_pos h, if_pos h]
    obtain ⟨t, e, r1, r2⟩ := clear_loop N hr 32 0 N (hset (hset s 16 r 1) 9 4 (hset s 16 r 1 9 4 + 1)) (by omega) (by omega)
    refine ⟨t, e, fun c c1 c2 c3 => by rw [r1 c c1, hset_d c3, hset_d c2], fun j hj => by rw [r2 j, if_pos ⟨by omega, hj⟩], ?_, ?_⟩
    · rw [r1 16 (by omega)]; rfl
    · rw [r1 9 (by omega), hs_same]; rfl
  · rw [if_neg h, if_neg h]
    obtain ⟨t, e, r1, r2⟩ := clear_loop N hr 32 0 N s (by omega) (by omega)
    refine ⟨t, e, fun c c1 c2 c3 => r1 c c1, fun j hj => by rw [r2 j, if_pos ⟨by omega, hj⟩], ?_, ?_⟩
    · rw [r1 16 (by omega)]
      exact (fa_upd_same (by rcases h01 with q | q; exact absurd q h; exact q)).symm
    · rw [r1 9 (by omega)]
theorem bt_1 : ∀ i, i < 32 → bt 1 i = decide (i = 0) := by decide +kernel
theorem tb_add (v : Int32) {k j : Nat} (hk : k < 32) (hj : j < 32) : tb (v ||| ((1 : Int32) <<< (nI k &&& 31))) j = (tb v j || decide (j = k)) := by
  show bt _ j = (bt v j || _)
  rw [b_or, b_shl k hk 1 hj, bt_1 (j - k) (by omega)]
  congr 1
  rw [Bool.eq_iff_iff, Bool.and_eq_true, decide_eq_true_iff, decide_eq_true_iff, decide_eq_true_iff]
  omega
theorem wdg_loop (N : Nat) {r p : Nat} (hr : r < 60) (hp : p < 6) (x2 x3 x4 x5 : Int32) : ∀ k i m (s : Hp), i + k = 1024 → k < m → ∃ t, lp (fun _ _ _ _ _ _ _ _ => none) (f_X9_wedge_86 N) m s (nI r) x2 x3 x4 x5 (nI p) (nI i) = some (1, t) ∧ (∀ c, c ≠ 58 + r → t c = s c) ∧ ∀ f, f < 1024 → tb (t (58 + r) (f / 32)) (f % 32) = (tb (s (58 + r) (f / 32)) (f % 32) || (decide (i ≤ f) && lsB x2 x3 x4 x5 (s 2 p) (s 3 p) f))
  | k, i, 0, s, _, hm => absurd hm (Nat.not_lt_zero k)
  | 0, i, m + 1, s, hi, _ => by
    rw [lp_s]; unfold f_X9_wedge_86
    rw [if_pos (show (1024 : Int32) ≤ nI i from nI_le (a := 1024) (by omega) (by omega))]
    exact ⟨s, rfl, fun _ _ => rfl, fun f hf => by rw [decide_eq_false (show ¬ i ≤ f by omega), Bool.false_and, Bool.or_false]⟩
  | k + 1, i, m + 1, s, hi, hm => by
    have ih := fun s => wdg_loop N hr hp x2 x3 x4 x5 k (i + 1) m s (by omega) (by omega)
    have g1 : ¬ (1024 : Int32) ≤ nI i := nI_ge (b := 1024) (by omega) (by omega)
    have g2 : inR (nI p) 6 = true := inR_nI (by omega) (by decide)
    have g3 : inR (nI r) 60 = true := inR_nI (by omega) (by decide)
    have g4 : irm (nI i) 32 = nI (i % 32) := pk_rem (d := 32) (by omega) (by decide) (by decide)
    have g5 : nI i / 32 = nI (i / 32) := pk_div (d := 32) (by omega) (by decide) (by decide)
    have g6 : inR (nI (i / 32)) 32 = true := inR_nI (by omega) (by decide)
    rw [lp_s]
    generalize lp (fun _ _ _ _ _ _ _ _ => none) (f_X9_wedge_86 N) m = S at ih ⊢
    have e166 : ∀ u : Hp, f_X9_wedge_166 N S u (nI r) x2 x3 x4 x5 (nI p) (nI i) = S u (nI r) x2 x3 x4 x5 (nI p) (nI (i + 1)) := fun u => by
      unfold f_X9_wedge_166
      rw [vb_e, nI_1]
    have ea : f_X2_addField N s (nI r) (nI i) = some (0, hset s (58 + r) (i / 32) (s (58 + r) (i / 32) ||| ((1 : Int32) <<< (nI (i % 32) &&& 31)))) := by
      unfold f_X2_addField
      rw [g3, g5, g6, ck_t, ck_t, ck_t, sb_e, g4, ix_nI (by omega), ix_nI (by omega)]
    unfold f_X9_wedge_86
    rw [if_neg g1, g2, ck_t, vb_e, ck_t, vb_e, g4, g5, ix_nI (by omega), ea, bd_e, e166, e166]
    have skip : lsB x2 x3 x4 x5 (s 2 p) (s 3 p) i = false → ∃ t, S s (nI r) x2 x3 x4 x5 (nI p) (nI (i + 1)) = some (1, t) ∧ (∀ c, c ≠ 58 + r → t c = s c) ∧ ∀ f, f < 1024 → tb (t (58 + r) (f / 32)) (f % 32) = (tb (s (58 + r) (f / 32)) (f % 32) || (decide (i ≤ f) && lsB x2 x3 x4 x5 (s 2 p) (s 3 p) f)) := fun hl => by
      obtain ⟨t, e, r1, r2⟩ := ih s
      refine ⟨t, e, r1, fun f hf => ?_⟩
      rw [r2 f hf]
      by_cases ef : f = i
      · subst ef
        rw [hl, Bool.and_false, Bool.and_false]
      · rw [show decide (i + 1 ≤ f) = decide (i ≤ f) by rw [Bool.eq_iff_iff, decide_eq_true_iff, decide_eq_true_iff]; omega]
    by_cases h1 : x2 * (nI (i / 32) - s 3 p) - x3 * (nI (i % 32) - s 2 p) < 0
    · rw [if_pos h1]
      refine skip ?_
      unfold lsB
      rw [decide_eq_false (show ¬ 0 ≤ x2 * (nI (i / 32) - s 3 p) - x3 * (nI (i % 32) - s 2 p) by rw [i_lt] at h1; rw [i_le]; omega), Bool.false_and]
    · rw [if_neg h1]
      by_cases h2 : (nI (i % 32) - s 2 p) * x5 - (nI (i / 32) - s 3 p) * x4 < 0
      · rw [if_pos h2]
        refine skip ?_
        unfold lsB
        rw [decide_eq_false (show ¬ 0 ≤ (nI (i % 32) - s 2 p) * x5 - (nI (i / 32) - s 3 p) * x4 by rw [i_lt] at h2; rw [i_le]; omega), Bool.and_false]
      · rw [if_neg h2]
        have hl : lsB x2 x3 x4 x5 (s 2 p) (s 3 p) i = true := by
          unfold lsB
          rw [decide_eq_true (show 0 ≤ x2 * (nI (i / 32) - s 3 p) - x3 * (nI (i % 32) - s 2 p) by rw [i_lt] at h1; rw [i_le]; omega), decide_eq_true (show 0 ≤ (nI (i % 32) - s 2 p) * x5 - (nI (i / 32) - s 3 p) * x4 by rw [i_lt] at h2; rw [i_le]; omega)]
          rfl
        obtain ⟨t, e, r1, r2⟩ := ih (hset s (58 + r) (i / 32) (s (58 + r) (i / 32) ||| ((1 : Int32) <<< (nI (i % 32) &&& 31))))
        refine ⟨t, e, fun c hc => by rw [r1 c hc, hset_d hc], fun f hf => ?_⟩
        rw [r2 f hf, hset_d (show 2 ≠ 58 + r by omega), hset_d (show 3 ≠ 58 + r by omega), hset_rd, if_pos rfl]
        by_cases ef : f / 32 = i / 32
        · rw [if_pos ef, tb_add _ (by omega) (by omega), ← ef]
          by_cases eg : f = i
          · subst eg
            rw [hl, decide_eq_true (show f % 32 = f % 32 from rfl), decide_eq_true (Nat.le_refl f), Bool.true_and, Bool.or_true, Bool.true_or]
          · rw [decide_eq_false (show ¬ f % 32 = i % 32 by omega), Bool.or_false, show decide (i + 1 ≤ f) = decide (i ≤ f) by rw [Bool.eq_iff_iff, decide_eq_true_iff, decide_eq_true_iff]; omega]
        · rw [if_neg ef, show decide (i + 1 ≤ f) = decide (i ≤ f) by rw [Bool.eq_iff_iff, decide_eq_true_iff, decide_eq_true_iff]; omega]
theorem ok_wedge {N : Nat} (hN : 1026 ≤ N) : ag_wedge N PS := by
  intro x1 x2 x3 x4 x5 s p
  obtain ⟨p1, p2, p3, p4, p5, p6, p7, p8, p9, p10⟩ := id p
  obtain ⟨e1, e2, e3, e4, e5, e6, e7, e8, e9, e10, e11, e12, e13⟩ := id p3
  dsimp only
  generalize hn : nM s = n at e8 e9 e10 e12 e13
  by_cases hc : inR x1 n = true ∧ btw (-100) x2 100 = true ∧ btw (-100) x3 100 = true ∧ btw (-100) x4 100 = true ∧ btw (-100) x5 100 = true ∧ 0 < x2 * x5 - x3 * x4
  · obtain ⟨h1, h2, h3, h4, h5, h6⟩ := hc
    obtain ⟨m, hm, rfl⟩ := inR_vI h1 (by omega)
    obtain ⟨q, hq, eq⟩ := (e10 m hm).1
    have hq6 : q < 6 := Nat.lt_of_lt_of_le hq p1.2.2.2.2
    have z1 : ¬ (x2 = 0 ∧ x3 = 0) := fun ⟨z, z'⟩ => by rw [z, z', Int32.zero_mul, Int32.zero_mul] at h6; exact absurd h6 (by decide)
    have z2 : ¬ (x4 = 0 ∧ x5 = 0) := fun ⟨z, z'⟩ => by rw [z, z', Int32.mul_zero, Int32.mul_zero] at h6; exact absurd h6 (by decide)
    obtain ⟨w, ew, w1, w2, w3, w4⟩ := clear_e (N := N) (by omega) s (show m < 60 by omega) (by rw [e7]; exact e11 m)
    obtain ⟨t, et, t1, t2⟩ := wdg_loop N (r := m) (p := q) (by omega) hq6 x2 x3 x4 x5 1024 0 N w (by omega) (by omega)
    have tw : ∀ c, c ≠ 58 + m → c ≠ 16 → c ≠ 9 → t c = s c := fun c c1 c2 c3 => (t1 c c1).trans (w1 c c1 c2 c3)
    have g60 : inR (nI m) 60 = true := inR_nI (by omega) (by decide)
    have gi : ix (nI m) = m := ix_nI (by omega)
    refine ⟨1, t, hset (hset (hset (hset (hset t 48 m 1) 49 (4 * m) x2) 49 (4 * m + 1) x3) 49 (4 * m + 2) x4) 49 (4 * m + 3) x5, ?_, ?_, ?_⟩
    · unfold f_X9_wedge
      rw [e1, e8, isBelow_e N s _ (by omega), bd_e, h1, if_neg (by decide), isSide_e, bd_e, h2, if_neg (by decide), isSide_e, bd_e, h3, if_neg (by decide), isSide_e, bd_e, h4, if_neg (by decide), isSide_e, bd_e, h5, if_neg (by decide), if_pos h6, g60, ck_t, vb_e, ew, bd_e, gi, e2, eq]
      exact et
    · unfold f_X10_wedge
      have g0 : (4 : Int32) * nI m = nI (4 * m) := pk_mul 4 m
      rw [tw 36 (by omega) (by decide) (by decide), e8, isIn_e, btw_0 _ (by omega), bd_e, h1, if_neg (by decide), isWay_e, bd_e, h2, h3, Bool.true_and, Bool.true_and, show (!(decide (x2 = 0) && decide (x3 = 0))) = true by rw [Bool.not_eq_true', Bool.eq_false_iff]; intro z; rw [Bool.and_eq_true, decide_eq_true_iff, decide_eq_true_iff] at z; exact z1 z, if_neg (by decide), isWay_e, bd_e, h4, h5, Bool.true_and, Bool.true_and, show (!(decide (x4 = 0) && decide (x5 = 0))) = true by rw [Bool.not_eq_true', Bool.eq_false_iff]; intro z; rw [Bool.and_eq_true, decide_eq_true_iff, decide_eq_true_iff] at z; exact z2 z, if_neg (by decide), if_pos h6, g60, ck_t, sb_e, g0, show nI (4 * m) + 1 = nI (4 * m + 1) from nI_1 _, show nI (4 * m) + 2 = nI (4 * m + 2) from nI_add _ 2, show nI (4 * m) + 3 = nI (4 * m + 3) from nI_add _ 3, inR_nI (show 4 * m < 240 by omega) (by decide), ck_t, sb_e, inR_nI (show 4 * m + 1 < 240 by omega) (by decide), ck_t, sb_e, inR_nI (show 4 * m + 2 < 240 by omega) (by decide), ck_t, sb_e, inR_nI (show 4 * m + 3 < 240 by omega) (by decide), ck_t, sb_e, gi, ix_nI (by omega), ix_nI (by omega), ix_nI (by omega), ix_nI (by omega)]
    · generalize hu : hset (hset (hset (hset (hset t 48 m 1) 49 (4 * m) x2) 49 (4 * m + 1) x3) 49 (4 * m + 2) x4) 49 (4 * m + 3) x5 = u
      have ut : ∀ c, c ≠ 48 → c ≠ 49 → u c = t c := fun c c1 c2 => by rw [← hu, hset_d c2, hset_d c2, hset_d c2, hset_d c2, hset_d c1]
      have us : ∀ c, c ≠ 48 → c ≠ 49 → c ≠ 58 + m → c ≠ 16 → c ≠ 9 → u c = s c := fun c c1 c2 c3 c4 c5 => (ut c c1 c2).trans (tw c c3 c4 c5)
      have u36 : u 36 = s 36 := us 36 (by decide) (by decide) (by omega) (by decide) (by decide)
      have u48 : u 48 = upd (s 48) m 1 := by
        rw [← hu]
        show upd (t 48) m 1 = _
        rw [tw 48 (by omega) (by decide) (by decide)]
      have u49 : u 49 = upd (upd (upd (upd (s 49) (4 * m) x2) (4 * m + 1) x3) (4 * m + 2) x4) (4 * m + 3) x5 := by
        rw [← hu]
        show upd (upd (upd (upd (t 49) (4 * m) x2) (4 * m + 1) x3) (4 * m + 2) x4) (4 * m + 3) x5 = _
        rw [tw 49 (by omega) (by decide) (by decide)]
      have u16 : u 16 = upd (s 16) m 1 := by rw [ut 16 (by decide) (by decide), t1 16 (by omega), w3]
      have u9 : u 9 4 = if s 16 m = 0 then s 9 4 + 1 else s 9 4 := by rw [ut 9 (by decide) (by decide), t1 9 (by omega), w4]
      have un : nM u = n := by unfold nM; rw [u36, ← hn]; rfl
      have uf : ∀ c, c < 58 → c ≠ 48 → c ≠ 49 → c ≠ 16 → c ≠ 9 → u c = s c := fun c c0 c1 c2 c3 c4 => us c c1 c2 (by omega) c3 c4
      refine ⟨E1_fr p1 (by rw [uf 1] <;> decide) (by rw [u36]) (by rw [uf 2] <;> decide) (by rw [uf 3] <;> decide) (by rw [uf 37] <;> decide) (by rw [uf 38] <;> decide), E2_fr p2 (by rw [uf 4] <;> decide) (by rw [u36]) (by rw [uf 5] <;> decide) (by rw [uf 6] <;> decide) (by rw [uf 7] <;> decide) (by rw [uf 8] <;> decide) (by rw [uf 39] <;> decide) (by rw [uf 40] <;> decide) (by rw [uf 41] <;> decide) (by rw [uf 42] <;> decide), ⟨?_, ?_, ?_, ?_, ?_, ?_, ?_, ?_, ?_, ?_, ?_, ?_, ?_⟩, ?_, E5_fr p5 (by rw [uf 18] <;> decide) (by rw [uf 18] <;> decide) (by rw [u36]) (by rw [u36]), E6_fr p6 (by rw [u36]) (by rw [uf 44] <;> decide) (by rw [uf 45] <;> decide) (by rw [uf 46] <;> decide) (by rw [uf 47] <;> decide) (by rw [u36]) (by rw [u36]) (by rw [uf 20] <;> decide) (by rw [uf 18] <;> decide), E7_fr p7 (by rw [uf 24] <;> decide) (by rw [u36]) (by rw [uf 25] <;> decide) (by rw [uf 52] <;> decide), E8_fr p8 (by rw [uf 26] <;> decide) (by rw [uf 26] <;> decide) (by rw [u36]) (by rw [u36]), E9_fr p9 (by rw [uf 28] <;> decide) (by rw [u36]) (fun j _ => by rw [uf 53] <;> decide) (fun i hi => by rw [us (118 + i)] <;> omega), E10_fr p10 (by rw [uf 30] <;> decide) (by rw [u36]) (by rw [uf 35] <;> decide) (by rw [uf 54] <;> decide)⟩
      · rw [uf 10 (by decide) (by decide) (by decide) (by decide) (by decide), u36]; exact e1
      · rw [uf 11 (by decide) (by decide) (by decide) (by decide) (by decide), uf 43 (by decide) (by decide) (by decide) (by decide) (by decide)]; exact e2
      · rw [uf 12 (by decide) (by decide) (by decide) (by decide) (by decide), uf 44 (by decide) (by decide) (by decide) (by decide) (by decide)]; exact e3
      · rw [uf 13 (by decide) (by decide) (by decide) (by decide) (by decide), uf 45 (by decide) (by decide) (by decide) (by decide) (by decide)]; exact e4
      · rw [uf 14 (by decide) (by decide) (by decide) (by decide) (by decide), uf 46 (by decide) (by decide) (by decide) (by decide) (by decide)]; exact e5
      · rw [uf 15 (by decide) (by decide) (by decide) (by decide) (by decide), uf 47 (by decide) (by decide) (by decide) (by decide) (by decide)]; exact e6
      · rw [u16, u48, e7]
      · rw [u36, un]; exact e8
      · rw [un]; exact e9
      · rw [un, show nP u = nP s by unfold nP; rw [u36], uf 43 (by decide) (by decide) (by decide) (by decide) (by decide), uf 44 (by decide) (by decide) (by decide) (by decide) (by decide), uf 45 (by decide) (by decide) (by decide) (by decide) (by decide), uf 46 (by decide) (by decide) (by decide) (by decide) (by decide), uf 47 (by decide) (by decide) (by decide) (by decide) (by decide)]
        exact e10
      · intro i
        rw [u48]
        by_cases ei : i = m
        · rw [ei]; exact Or.inr pk_us
        · rw [pk_un ei]; exact e11 i
      · intro i hi
        rw [un] at hi
        rw [u48, pk_un (by omega)]; exact e12 i hi
      · rw [u9, un, u48, e7, e13]
        have hup := fb_ct_upd (fun i => decide (s 48 i = 1)) true hm
        have hcg : fb_ct (fun i => decide (upd (s 48) m 1 i = 1)) n = fb_ct (fun k => if k = m then true else decide (s 48 k = 1)) n := fb_ct_cong (fun k _ => by
          by_cases ek : k = m
          · rw [if_pos ek, ek, pk_us]; rfl
          · rw [if_neg ek, pk_un ek])
        rw [hcg]
        rcases e11 m with z | z
        · rw [if_pos z, nI_1]
          rw [if_neg (show ¬ decide (s 48 m = 1) = true by rw [z]; decide), if_pos rfl] at hup
          rw [← hup, Nat.add_zero]
        · rw [if_neg (by rw [z]; decide)]
          rw [if_pos (decide_eq_true z), if_pos rfl] at hup
          rw [show fb_ct (fun k => if k = m then true else decide (s 48 k = 1)) n = fb_ct (fun i => decide (s 48 i = 1)) n by omega]
      · intro m' hm' hw f hf
        rw [un] at hm'
        rw [liesB_ls, u49, uf 37 (by decide) (by decide) (by decide) (by decide) (by decide), uf 38 (by decide) (by decide) (by decide) (by decide) (by decide), uf 43 (by decide) (by decide) (by decide) (by decide) (by decide)]
        by_cases em : m' = m
        · rw [em, pk_us, pk_un (show 4 * m + 2 ≠ 4 * m + 3 by omega), pk_us, pk_un (show 4 * m + 1 ≠ 4 * m + 3 by omega), pk_un (show 4 * m + 1 ≠ 4 * m + 2 by omega), pk_us, pk_un (show 4 * m ≠ 4 * m + 3 by omega), pk_un (show 4 * m ≠ 4 * m + 2 by omega), pk_un (show 4 * m ≠ 4 * m + 1 by omega), pk_us, ut (58 + m) (by omega) (by omega), t2 f hf, w2 (f / 32) (by omega), show tb 0 (f % 32) = false from b_0 _, Bool.false_or, decide_eq_true (Nat.zero_le f), Bool.true_and, w1 2 (by omega) (by decide) (by decide), w1 3 (by omega) (by decide) (by decide), eq, ix_nI (by omega), p1.2.1, p1.2.2.1]
        · rw [pk_un (show 4 * m' + 3 ≠ 4 * m + 3 by omega), pk_un (show 4 * m' + 3 ≠ 4 * m + 2 by omega), pk_un (show 4 * m' + 3 ≠ 4 * m + 1 by omega), pk_un (show 4 * m' + 3 ≠ 4 * m by omega), pk_un (show 4 * m' + 2 ≠ 4 * m + 3 by omega), pk_un (show 4 * m' + 2 ≠ 4 * m + 2 by omega), pk_un (show 4 * m' + 2 ≠ 4 * m + 1 by omega), pk_un (show 4 * m' + 2 ≠ 4 * m by omega), pk_un (show 4 * m' + 1 ≠ 4 * m + 3 by omega), pk_un (show 4 * m' + 1 ≠ 4 * m + 2 by omega), pk_un (show 4 * m' + 1 ≠ 4 * m + 1 by omega), pk_un (show 4 * m' + 1 ≠ 4 * m by omega), pk_un (show 4 * m' ≠ 4 * m + 3 by omega), pk_un (show 4 * m' ≠ 4 * m + 2 by omega), pk_un (show 4 * m' ≠ 4 * m + 1 by omega), pk_un (show 4 * m' ≠ 4 * m by omega)]
          rw [u48, pk_un em] at hw
          rw [us (58 + m') (by omega) (by omega) (by omega) (by omega) (by omega), ← liesB_ls]
          exact p4 m' (by omega) hw f hf
  · have ea : f_X9_wedge N s x1 x2 x3 x4 x5 = some (0, s) := by
      unfold f_X9_wedge
      rw [e1, e8, isBelow_e N s _ (by omega), bd_e, ifb]
      cases h1 : inR x1 n with
      | false => rfl
      | true =>
        rw [cond_true, isSide_e, bd_e, ifb]
        cases h2 : btw (-100) x2 100 with
        | false => rfl
        | true =>
          rw [cond_true, isSide_e, bd_e, ifb]
          cases h3 : btw (-100) x3 100 with
          | false => rfl
          | true =>
            rw [cond_true, isSide_e, bd_e, ifb]
            cases h4 : btw (-100) x4 100 with
            | false => rfl
            | true =>
              rw [cond_true, isSide_e, bd_e, ifb]
              cases h5 : btw (-100) x5 100 with
              | false => rfl
              | true => rw [cond_true, if_neg (fun h6 => hc ⟨h1, h2, h3, h4, h5, h6⟩)]
    have eb : f_X10_wedge N s x1 x2 x3 x4 x5 = some (0, s) := by
      unfold f_X10_wedge
      rw [e8, isIn_e, btw_0 _ (by omega), bd_e, ifb]
      cases h1 : inR x1 n with
      | false => rfl
      | true =>
        rw [cond_true, isWay_e, bd_e, ifb]
        cases hw1 : (btw (-100) x2 100 && (btw (-100) x3 100 && !(decide (x2 = 0) && decide (x3 = 0)))) with
        | false => rfl
        | true =>
          rw [cond_true, isWay_e, bd_e, ifb]
          cases hw2 : (btw (-100) x4 100 && (btw (-100) x5 100 && !(decide (x4 = 0) && decide (x5 = 0)))) with
          | false => rfl
          | true =>
            rw [Bool.and_eq_true, Bool.and_eq_true] at hw1 hw2
            rw [cond_true, if_neg (fun h6 => hc ⟨h1, hw1.1, hw1.2.1, hw2.1, hw2.2.1, h6⟩)]
    exact ⟨0, s, s, ea, eb, p⟩
