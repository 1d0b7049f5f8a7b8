/-! sweep -/
def swB (x1 x2 x3 x4 : Int32) : Bool := btw 1 x1 65535 && (inR x2 10000 && (btw 1 x3 4 && (btw 1 x4 240 && decide (x2 + x3 * x4 ≤ 10000))))
def swC (N : Nat) (s : Hp) (x1 x2 x3 x4 : Int32) : Option (Int32 × Hp) := bd (f_X3_lay N s x2 x3 x4) fun _ s3 => bd (f_X3_look N s3 x1) fun _ s5 => bd (f_X3_search N s5) fun v8 s7 => some (v8, s7)
theorem if2 {α : Type} {c d : Prop} [Decidable c] [Decidable d] {b : Bool} (x y : α) (h : b = true ↔ (¬ c ∧ ¬ d)) : (if c then x else if d then x else y) = cond b y x := by
  by_cases hc : c
  · rw [if_pos hc, show b = false from Bool.eq_false_iff.mpr (fun z => (h.mp z).1 hc)]; rfl
  · rw [if_neg hc]
    by_cases hd : d
    · rw [if_pos hd, show b = false from Bool.eq_false_iff.mpr (fun z => (h.mp z).2 hd)]; rfl
    · rw [if_neg hd, h.mpr ⟨hc, hd⟩]; rfl
theorem btw_iff (lo a hi : Int32) : btw lo a hi = true ↔ lo.toInt ≤ a.toInt ∧ a.toInt ≤ hi.toInt := decide_eq_true_iff
theorem swC_e (N : Nat) (s : Hp) (x1 x2 x3 x4 : Int32) : f_X9_sweep N s x1 x2 x3 x4 = cond (swB x1 x2 x3 x4) (swC N s x1 x2 x3 x4) (some (-1, s)) := by
  unfold f_X9_sweep swB swC
  rw [if2 (b := btw 1 x1 65535) _ _ (by rw [btw_iff, i_le, i_le, i_0, show (1 : Int32).toInt = 1 from rfl, show (65535 : Int32).toInt = 65535 from rfl, show (65536 : Int32).toInt = 65536 from rfl]; omega)]
  cases btw 1 x1 65535 with
  | false => rfl
  | true =>
    rw [cond_true, Bool.true_and, show (10000 : Int32) = nI 10000 from rfl, isBelow_e N s x2 (by decide), bd_e, ifb]
    cases inR x2 10000 with
    | false => rfl
    | true =>
      rw [cond_true, Bool.true_and]
      rw [if2 (b := btw 1 x3 4) _ _ (by rw [btw_iff, i_lt, i_lt, show (1 : Int32).toInt = 1 from rfl, show (4 : Int32).toInt = 4 from rfl]; omega)]
      cases btw 1 x3 4 with
      | false => rfl
      | true =>
        rw [cond_true, Bool.true_and]
        rw [if2 (b := btw 1 x4 240) _ _ (by rw [btw_iff, i_lt, i_lt, show (1 : Int32).toInt = 1 from rfl, show (240 : Int32).toInt = 240 from rfl]; omega)]
        cases btw 1 x4 240 with
        | false => rfl
        | true =>
          rw [cond_true, Bool.true_and]
          by_cases h : x2 + x3 * x4 ≤ nI 10000
          · rw [if_pos h, decide_eq_true h, cond_true]
          · rw [if_neg h, decide_eq_false h, cond_false]
theorem swM_e (N : Nat) (s : Hp) (x1 x2 x3 x4 : Int32) : f_X10_sweep N s x1 x2 x3 x4 = cond (swB x1 x2 x3 x4) (l_X10_sweep_62 N s x1 x2 x3 x4 0 0) (some (-1, s)) := by
  unfold f_X10_sweep swB
  rw [isIn_e, bd_e, ifb]
  cases btw 1 x1 65535 with
  | false => rfl
  | true =>
    rw [cond_true, Bool.true_and, isIn_e, btw_lit x2 (show (9999 : Int32) = nI 9999 from rfl) (by decide), bd_e, ifb]
    cases inR x2 10000 with
    | false => rfl
    | true =>
      rw [cond_true, Bool.true_and, isIn_e, bd_e, ifb]
      cases btw 1 x3 4 with
      | false => rfl
      | true =>
        rw [cond_true, Bool.true_and, isIn_e, bd_e, ifb]
        cases btw 1 x4 240 with
        | false => rfl
        | true =>
          rw [cond_true, Bool.true_and]
          by_cases h : x2 + x3 * x4 ≤ 10000
          · rw [if_pos h, decide_eq_true h, cond_true]
          · rw [if_neg h, decide_eq_false h, cond_false]
theorem hr_zero (q : Nat) : ∀ n, hr q (fun _ => 0) n = 0
  | 0 => rfl
  | n + 1 => by
    have ih := hr_zero q n
    unfold hr
    rw [ih, Nat.zero_mul]
theorem bits16 {v : Nat} (h0 : 0 < v) (h : v < 65536) : 0 < fb_ct (bt (nI v)) 16 := by
  rcases Nat.eq_zero_or_pos (fb_ct (bt (nI v)) 16) with z | z
  · rw [fb_ct_zero] at z
    have : v = 0 := by
      apply Nat.eq_of_testBit_eq
      intro i
      rw [Nat.zero_testBit]
      rcases Nat.lt_or_ge i 16 with q | q
      · have := z i q
        rw [un_bt, un_nI (by omega)] at this
        exact this
      · exact Nat.testBit_lt_two_pow (Nat.lt_of_lt_of_le h (show 2 ^ 16 ≤ 2 ^ i from Nat.pow_le_pow_right (by decide) q))
    omega
  · exact z
theorem nI_of_btw {a : Int32} {lo hi : Nat} (hlo : lo < 2 ^ 31) (hhi : hi < 2 ^ 31) (h : btw (nI lo) a (nI hi) = true) : ∃ v, lo ≤ v ∧ v ≤ hi ∧ a = nI v := by
  rw [btw_iff, nI_toInt hlo, nI_toInt hhi] at h
  obtain ⟨v, hv, e⟩ := nI_of (x := a) (by rw [i_lt, i_0]; omega)
  rw [e, nI_toInt hv] at h
  exact ⟨v, by omega, by omega, e⟩
theorem pow16 {q n : Nat} (hq : q ≤ 16) (hn : n ≤ 4) : q ^ n ≤ 65536 := by
  have h1 : q ^ n ≤ 16 ^ n := Nat.pow_le_pow_left hq n
  have h2 : 16 ^ n ≤ 16 ^ 4 := Nat.pow_le_pow_right (by decide) hn
  exact Nat.le_trans h1 h2
theorem sweepM {N : Nat} (hN : 65600 ≤ N) {s : Hp} (p2 : E2 s) {f m n : Nat} (hn0 : 0 < n) (hn : n ≤ 4) (hfm : f + n * m ≤ 10000) (hm : 0 < m) (x1 : Int32) (hq0 : 0 < fb_ct (bt x1) 16) : ∃ (t : Hp) (ch : Nat → Nat) (b : Nat), l_X10_sweep_62 N s x1 (nI f) (nI n) (nI m) 0 0 = some (zI (gM s f m n (fb_ct (bt x1) 16) ch b), t) ∧ (∀ i, i < fb_ct (bt x1) 16 → ch i < 16 ∧ bt x1 (ch i) = true ∧ fb_ct (bt x1) (ch i) = i) ∧ FM (gM s f m n (fb_ct (bt x1) 16) ch) (fb_ct (bt x1) 16 ^ n) b ∧ (∀ j, t 54 j = if j < n then nI (ch (dg (fb_ct (bt x1) 16) n b j)) else s 54 j) ∧ (∀ d, d ≠ 36 → d ≠ 54 → d ≠ 55 → d ≠ 56 → d ≠ 57 → t d = s d) ∧ (∀ j, j ≠ 31 → t 36 j = s 36 j) ∧ t 36 31 = nI n := by
  obtain ⟨t1, e1, a1, a2⟩ := ask62 (N := N) x1 (nI f) (nI n) (nI m) 16 0 N s (by omega) (by omega) (fun a ha => absurd ha (Nat.not_lt_zero a))
  have hq := fb_ct_le (bt x1) 16
  generalize hqq : fb_ct (bt x1) 16 = q at e1 hq0 hq ⊢
  have e1' : l_X10_sweep_62 N s x1 (nI f) (nI n) (nI m) 0 0 = _ := e1
  have hex : ∀ i, ∃ c, i < q → c < 16 ∧ bt x1 c = true ∧ fb_ct (bt x1) c = i := fun i => by
    by_cases hi : i < q
    · rw [← hqq] at hi
      obtain ⟨c, h1, h2, h3⟩ := fb_ct_kth hi
      exact ⟨c, fun _ => ⟨h1, h2, h3⟩⟩
    · exact ⟨0, fun z => absurd z hi⟩
  obtain ⟨ch, hch⟩ := Classical.axiomOfChoice hex
  obtain ⟨t2, e2, b1, b2⟩ := sl102 (N := N) (by omega) p2 hn hfm hm (nI q) n 0 N t1 (by omega) (by omega) (fun d _ _ h3 => a1 d h3) (fun a ha => absurd ha (Nat.not_lt_zero a))
  have e2' : l_X10_sweep_102 N t1 (nI f) (nI n) (nI m) (nI q) 0 = _ := e2
  have hM : MK s f m n q ch t2 := by
    refine ⟨fun d _ _ h3 h4 h5 => by rw [b1 d h3 h4, a1 d h5], fun j _ => by rw [b1 36 (by decide) (by decide), a1 36 (by decide)], fun i hi => ?_, fun a ha => (b2 a ha).2⟩
    obtain ⟨h1, h2, h3⟩ := hch i hi
    rw [b1 57 (by decide) (by decide)]
    have := a2 (ch i) h1 h2
    rw [h3] at this
    exact this
  have hinj : ∀ a b, a < q → b < q → ch a = ch b → a = b := fun a b ha hb he => by
    have h1 := (hch a ha).2.2
    have h2 := (hch b hb).2.2
    rw [he, h2] at h1
    exact h1.symm
  have hp := pow16 hq hn
  obtain ⟨t3, z, e3, m3, s3, h31⟩ := whl170 (N := N) (by omega) (s := s) (f := f) (m := m) (ch := ch) hn0 hn hfm hm hq0 hq (fun i hi => (hch i hi).1) hinj N t2 (fun _ => 0) 0 (-1) (hr_zero q n) (Nat.pow_pos hq0) (by omega) (by omega) (by omega) hM (fun a ha => ⟨(b2 a ha).1, hq0⟩) (Or.inl ⟨rfl, rfl, by rw [b1 54 (by decide) (by decide), a1 54 (by decide)]⟩) (fun h => absurd h (Nat.lt_irrefl 0))
  have e3' : l_X10_sweep_170 N t2 (nI f) (nI n) (nI m) (nI q) (-1) 1 = _ := e3
  obtain ⟨b, hz, hF, h54⟩ := SI_end (Nat.pow_pos hq0) s3
  refine ⟨t3, ch, b, ?_, hch, hF, h54, m3.1, m3.2.1, h31⟩
  rw [e1', e2', e3', hz]
theorem ok_sweep {N : Nat} (hN : 65600 ≤ N) : ag_sweep N PS := by
  intro x1 x2 x3 x4 s p
  obtain ⟨p1, p2, p3, p4, p5, p6, p7, p8, p9, p10⟩ := id p
  have h60 := p3.2.2.2.2.2.2.2.2.1
  dsimp only
  cases hB : swB x1 x2 x3 x4 with
  | false =>
    refine ⟨-1, s, s, ?_, ?_, p⟩
    · rw [swC_e, hB, cond_false]
    · rw [swM_e, hB, cond_false]
  | true =>
    have hB' := hB
    unfold swB at hB'
    rw [Bool.and_eq_true, Bool.and_eq_true, Bool.and_eq_true, Bool.and_eq_true, decide_eq_true_iff] at hB'
    obtain ⟨c1, c2, c3, c4, c5⟩ := hB'
    obtain ⟨v, v1, v2, rfl⟩ := nI_of_btw (lo := 1) (hi := 65535) (by decide) (by decide) c1
    obtain ⟨f, hf, rfl⟩ := inR_vI c2 (by decide)
    obtain ⟨n, n1, n2, rfl⟩ := nI_of_btw (lo := 1) (hi := 4) (by decide) (by decide) c3
    obtain ⟨m, m1, m2, rfl⟩ := nI_of_btw (lo := 1) (hi := 240) (by decide) (by decide) c4
    have hnm : n * m ≤ 4 * 240 := Nat.mul_le_mul n2 m2
    have hfm : f + n * m ≤ 10000 := by
      rw [pk_mul, nI_add, i_le, nI_toInt (by omega), show (10000 : Int32).toInt = 10000 from rfl] at c5
      omega
    have hq0 := bits16 (show 0 < v by omega) (show v < 65536 by omega)
    obtain ⟨w, T, b, eC, hT, hFC, h35, hfr, h305⟩ := sweepC (N := N) (by omega) p2 (show 0 < n by omega) n2 hfm (show 0 < m by omega) (nI v) hq0
    have wf : ∀ d, d < 128 → d ≠ 30 → d ≠ 31 → d ≠ 34 → d ≠ 35 → w d = s d := fun d h0 h1 h2 h3 h4 => hfr d h1 h2 h3 h4 (by omega)
    have w2 : E2 w := E2_fr p2 (by rw [wf 4] <;> decide) (by rw [wf 36] <;> decide) (by rw [wf 5] <;> decide) (by rw [wf 6] <;> decide) (by rw [wf 7] <;> decide) (by rw [wf 8] <;> decide) (by rw [wf 39] <;> decide) (by rw [wf 40] <;> decide) (by rw [wf 41] <;> decide) (by rw [wf 42] <;> decide)
    obtain ⟨u, ch, b', eM, hch, hFM, h54, ufr, u36, u31⟩ := sweepM hN w2 (show 0 < n by omega) n2 hfm (show 0 < m by omega) (nI v) hq0
    have w36 : w 36 = s 36 := wf 36 (by decide) (by decide) (by decide) (by decide) (by decide)
    have hLZ : LZ w f m = LZ s f m := by
      funext a c
      unfold LZ nL
      rw [w36, wf 40 (by decide) (by decide) (by decide) (by decide) (by decide), wf 41 (by decide) (by decide) (by decide) (by decide) (by decide), wf 42 (by decide) (by decide) (by decide) (by decide) (by decide)]
    have hgM : gM w f m n (fb_ct (bt (nI v)) 16) ch = gM s f m n (fb_ct (bt (nI v)) 16) ch := by
      funext j
      unfold gM
      rw [hLZ]
    rw [hgM] at eM hFM
    have main := sw_main (C := bt (nI v)) (L := LZ s f m) (bg := bgF f m) (m := m) (n := n) rfl hq0 (show 0 < n by omega) rfl hch hT hFM hFC
    have hval : gC s f m n (min n (fb_ct (bt (nI v)) 16)) T b = gM s f m n (fb_ct (bt (nI v)) 16) ch b' := WZ_cong n main
    refine ⟨zI (gC s f m n (min n (fb_ct (bt (nI v)) 16)) T b), w, u, ?_, ?_, ?_⟩
    · rw [swC_e, hB, cond_true]
      exact eC
    · rw [swM_e, hB, cond_true, eM, hval]
    · have us : ∀ d, d < 128 → d ≠ 36 → d ≠ 54 → d ≠ 55 → d ≠ 56 → d ≠ 57 → d ≠ 30 → d ≠ 31 → d ≠ 34 → d ≠ 35 → u d = s d := fun d h0 h1 h2 h3 h4 h5 h6 h7 h8 h9 => (ufr d h1 h2 h3 h4 h5).trans (wf d h0 h6 h7 h8 h9)
      have u36' : ∀ j, j ≠ 31 → u 36 j = s 36 j := fun j hj => by rw [u36 j hj, w36]
      refine ⟨E1_fr p1 (by rw [us 1] <;> decide) (u36' 0 (by decide)) (by rw [us 2] <;> decide) (by rw [us 3] <;> decide) (by rw [us 37] <;> decide) (by rw [us 38] <;> decide), E2_fr p2 (by rw [us 4] <;> decide) (u36' 3 (by decide)) (by rw [us 5] <;> decide) (by rw [us 6] <;> decide) (by rw [us 7] <;> decide) (by rw [us 8] <;> decide) (by rw [us 39] <;> decide) (by rw [us 40] <;> decide) (by rw [us 41] <;> decide) (by rw [us 42] <;> decide), E3_fr p3 (by unfold nP; rw [u36' 0 (by decide)]; exact Nat.le_refl _) (by rw [us 10] <;> decide) (u36' 8 (by decide)) (by rw [us 9] <;> decide) (by rw [us 11] <;> decide) (by rw [us 12] <;> decide) (by rw [us 13] <;> decide) (by rw [us 14] <;> decide) (by rw [us 15] <;> decide) (by rw [us 16] <;> decide) (by rw [us 43] <;> decide) (by rw [us 44] <;> decide) (by rw [us 45] <;> decide) (by rw [us 46] <;> decide) (by rw [us 47] <;> decide) (by rw [us 48] <;> decide), E4_fr p4 h60 (u36' 8 (by decide)) (by rw [us 48] <;> decide) (by rw [us 49] <;> decide) (by rw [us 43] <;> decide) (fun x hx => by rw [us (58 + x)] <;> omega) (fun x _ => ⟨by rw [us 37] <;> decide, by rw [us 38] <;> decide⟩), E5_fr p5 (by rw [us 18] <;> decide) (by rw [us 18] <;> decide) (u36' 16 (by decide)) (u36' 17 (by decide)), E6_fr p6 (u36' 8 (by decide)) (by rw [us 44] <;> decide) (by rw [us 45] <;> decide) (by rw [us 46] <;> decide) (by rw [us 47] <;> decide) (u36' 16 (by decide)) (u36' 17 (by decide)) (by rw [us 20] <;> decide) (by rw [us 18] <;> decide), E7_fr p7 (by rw [us 24] <;> decide) (u36' 22 (by decide)) (by rw [us 25] <;> decide) (by rw [us 52] <;> decide), E8_fr p8 (by rw [us 26] <;> decide) (by rw [us 26] <;> decide) (u36' 25 (by decide)) (u36' 26 (by decide)), E9_fr p9 (by rw [us 28] <;> decide) (u36' 23 (by decide)) (fun j _ => by rw [us 53] <;> decide) (fun i hi => by rw [us (118 + i)] <;> omega), ⟨?_, ?_, n, n2, u31⟩⟩
      · rw [ufr 30 (by decide) (by decide) (by decide) (by decide) (by decide), h305, u31]
      · rw [ufr 35 (by decide) (by decide) (by decide) (by decide) (by decide)]
        funext j
        rw [h35 j, h54 j]
        by_cases e : j < n
        · rw [if_pos e, if_pos e, main j e]
        · rw [if_neg e, if_neg e, wf 54 (by decide) (by decide) (by decide) (by decide) (by decide), p10.2.1]
