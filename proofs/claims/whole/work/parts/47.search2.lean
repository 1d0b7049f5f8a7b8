/-! sweep: the class's search, whole -/
def CT (s : Hp) (f m n kk : Nat) (T : Nat → Nat → Nat) (t : Hp) : Prop := LK s (t 35) f m n t ∧ t 30 7 = nI kk ∧ (∀ a, a < n → RW s f m t a) ∧ ∀ a, a < n → ∀ d, d < kk → t (132 + a) d = nI (T a d)
theorem CT_fr {s t t' : Hp} {f m n kk : Nat} {T : Nat → Nat → Nat} (h : CT s f m n kk T t) (hn : n ≤ 4) (hf : ∀ d, d ≠ 34 → d ≠ 35 → t' d = t d) : CT s f m n kk T t' := by
  obtain ⟨⟨a, b, c, e, g⟩, h2, h3, h4⟩ := h
  refine ⟨⟨fun d h1 h2 h3 h4 h5 => by rw [hf d h3 h4]; exact a d h1 h2 h3 h4 h5, ?_, ?_, fun j hj => ?_, rfl⟩, ?_, fun x hx c hc => ?_, fun x hx d hd => ?_⟩
  · rw [hf 30 (by decide) (by decide)]; exact b
  · rw [hf 30 (by decide) (by decide)]; exact c
  · rw [hf 31 (by decide) (by decide)]; exact e j hj
  · rw [hf 30 (by decide) (by decide)]; exact h2
  · rw [hf (128 + x) (by omega) (by omega)]; exact h3 x hx c hc
  · rw [hf (132 + x) (by omega) (by omega)]; exact h4 x hx d hd
def gC (s : Hp) (f m n kk : Nat) (T : Nat → Nat → Nat) (j : Nat) : Int := WZ (LZ s f m) (bgF f m) m (fun a => T a (dg kk n j a)) n
def SI35 (s : Hp) (n c35 : Nat) (old : Nat → Int32) (g : Nat → Int) (asg : Nat → Nat → Nat) (w : Nat) (z : Int) (t : Hp) : Prop := (w = 0 ∧ z = -1 ∧ t c35 = old) ∨ ∃ b, b < w ∧ z = g b ∧ (∀ j, j < w → g j ≤ g b) ∧ (∀ j, j < b → g j < g b) ∧ ∀ j, t c35 j = if j < n then nI (asg b j) else old j
theorem SI_end {s : Hp} {n c35 : Nat} {old : Nat → Int32} {g : Nat → Int} {asg : Nat → Nat → Nat} {K : Nat} {z : Int} {t : Hp} (hK : 0 < K) (h : SI35 s n c35 old g asg K z t) : ∃ b, z = g b ∧ FM g K b ∧ ∀ j, t c35 j = if j < n then nI (asg b j) else old j := by
  rcases h with ⟨h, _, _⟩ | ⟨b, h1, h2, h3, h4, h5⟩
  · omega
  · exact ⟨b, h2, ⟨h1, h3, h4⟩, h5⟩
theorem SI_skip {s : Hp} {n c35 : Nat} {old : Nat → Int32} {g : Nat → Int} {asg : Nat → Nat → Nat} {w : Nat} {z : Int} {t t' : Hp} (hp : -1 < g w) (h : SI35 s n c35 old g asg w z t) (hz : g w ≤ z) (ht : t' c35 = t c35) : SI35 s n c35 old g asg (w + 1) z t' := by
  rcases h with ⟨_, h, _⟩ | ⟨b, h1, h2, h3, h4, h5⟩
  · omega
  · refine Or.inr ⟨b, by omega, h2, fun j hj => ?_, h4, fun j => by rw [ht]; exact h5 j⟩
    by_cases e : j = w
    · rw [e, ← h2]; exact hz
    · exact h3 j (by omega)
theorem SI_take {s : Hp} {n c35 : Nat} {old : Nat → Int32} {g : Nat → Int} {asg : Nat → Nat → Nat} {w : Nat} {z : Int} {t t' : Hp} (h : SI35 s n c35 old g asg w z t) (hz : z < g w) (ht : ∀ j, t' c35 j = if j < n then nI (asg w j) else t c35 j) : SI35 s n c35 old g asg (w + 1) (g w) t' := by
  refine Or.inr ⟨w, by omega, rfl, fun j hj => ?_, fun j hj => ?_, fun j => ?_⟩
  · rcases h with ⟨h, _, _⟩ | ⟨b, h1, h2, h3, h4, h5⟩
    · have : j = w := by omega
      rw [this]; exact Int.le_refl _
    · by_cases e : j = w
      · rw [e]; exact Int.le_refl _
      · have := h3 j (by omega); omega
  · rcases h with ⟨h, _, _⟩ | ⟨b, h1, h2, h3, h4, h5⟩
    · omega
    · have := h3 j (by omega); omega
  · rw [ht j]
    by_cases e : j < n
    · rw [if_pos e, if_pos e]
    · rw [if_neg e, if_neg e]
      rcases h with ⟨_, _, h⟩ | ⟨b, _, _, _, _, h5⟩
      · rw [h]
      · rw [h5 j, if_neg e]
theorem ser29 {N : Nat} (hN : 102 ≤ N) {s : Hp} {f m n kk K : Nat} (hn : n ≤ 4) (hfm : f + n * m ≤ 10000) (hm : 0 < m) (hk0 : 0 < kk) (hk : kk ≤ 4) {T : Nat → Nat → Nat} (hT : ∀ a, a < n → ∀ d, d < kk → T a d < 16) (hn0 : 0 < n) (hKb : K ≤ 256) : ∀ r w fu (t : Hp) z, w + r = K → r < fu → -1 ≤ z → z ≤ 50000 → CT s f m n kk T t → SI35 s n 35 (s 35) (gC s f m n kk T) (fun b j => T j (dg kk n b j)) w z t → ∃ t' z', lp (fun _ _ _ _ => none) (f_X3_search_29 N) fu t (nI K) (zI z) (nI w) = some (zI z', t') ∧ CT s f m n kk T t' ∧ SI35 s n 35 (s 35) (gC s f m n kk T) (fun b j => T j (dg kk n b j)) K z' t'
  | r, w, 0, t, z, _, hm, _, _, _, _ => absurd hm (Nat.not_lt_zero r)
  | 0, w, fu + 1, t, z, hw, _, _, _, hC, hS => by
    have e : w = K := by omega
    subst e
    rw [lp_s]; unfold f_X3_search_29
    rw [if_pos (nI_le (by omega) (by omega))]
    exact ⟨t, z, rfl, hC, hS⟩
  | r + 1, w, fu + 1, t, z, hw, hfu, hz1, hz2, hC, hS => by
    have ih := fun t z => ser29 hN (s := s) hn hfm hm hk0 hk hT hn0 hKb r (w + 1) fu t z (by omega) (by omega)
    obtain ⟨t1, e1, a1, a2⟩ := cho9 N hk0 hk (T := T) n N t w hn (by omega) (by omega) hC.2.1 (fun a ha d hd => hC.2.2.2 a ha d hd)
    have hC1 : CT s f m n kk T t1 := CT_fr hC hn (fun d h1 _ => a1 d h1)
    have hch : ∀ a, a < n → t1 34 a = nI (T a (dg kk n w a)) ∧ T a (dg kk n w a) < 16 := fun a ha => by
      refine ⟨?_, hT a ha _ (dg_lt hk0)⟩
      rw [a2 a, if_pos ha]
      rfl
    have hwb := WZ_b (s := s) (c := fun a => T a (dg kk n w a)) hfm hm n (Nat.le_refl n)
    have e2 : f_X3_worthOfChosen N t1 = some (zI (gC s f m n kk T w), t1) := wor4 hN hn hfm hm hC1.1 hC1.2.2.1 hch n 0 N (by omega) (by omega)
    have hg : gC s f m n kk T w = WZ (LZ s f m) (bgF f m) m (fun a => T a (dg kk n w a)) n := rfl
    have e1' : f_X3_choose N t (nI w) = some (0, t1) := by
      unfold f_X3_choose
      rw [vb_e, hC.1.2.1]
      exact e1
    rw [lp_s]
    generalize lp (fun _ _ _ _ => none) (f_X3_search_29 N) fu = S at ih ⊢
    unfold f_X3_search_29 f_X3_search_58
    rw [if_neg (nI_ge (by omega) (by omega)), e1', bd_e, e2, bd_e, vb_e, nI_1]
    by_cases c1 : gC s f m n kk T w ≤ z
    · rw [if_pos ((zI_le (by omega) (by omega)).mpr c1)]
      exact ih t1 z hz1 hz2 hC1 (SI_skip (by omega) hS c1 (a1 35 (by decide)))
    · rw [if_neg (fun q => c1 ((zI_le (by omega) (by omega)).mp q))]
      obtain ⟨t2, e3, b1, b2⟩ := keep2 N hn n 0 N t1 (by omega) (by omega) hC1.1.2.1
      have e3' : f_X3_keepChosen N t1 = some (0, t2) := e3
      rw [e3', bd_e, vb_e]
      refine ih t2 _ (by omega) (by omega) (CT_fr hC1 hn (fun d _ h2 => b1 d h2)) (SI_take hS (by omega) (fun j => ?_))
      rw [b2 j]
      by_cases e : j < n
      · rw [if_pos ⟨Nat.zero_le _, e⟩, if_pos e]
        exact (hch j e).1
      · rw [if_neg (fun q => e q.2), if_neg e, a1 35 (by decide)]
theorem ser4 {N : Nat} {t : Hp} {n kk : Nat} (hn : n ≤ 4) (hk : kk ≤ 4) (h5 : t 30 5 = nI n) (h7 : t 30 7 = nI kk) : ∀ r i fu, i + r = n → r < fu → lp (fun _ _ _ => none) (f_X3_search_4 N) fu t (nI (kk ^ i)) (nI i) = l_X3_search_29 N t (nI (kk ^ n)) (-1) 0
  | r, i, 0, _, hm => absurd hm (Nat.not_lt_zero r)
  | 0, i, fu + 1, hi, _ => by
    have e : i = n := by omega
    subst e
    rw [lp_s]; unfold f_X3_search_4
    rw [h5, if_pos (nI_le (by omega) (by omega))]
  | r + 1, i, fu + 1, hi, hm => by
    have ih := ser4 (N := N) hn hk h5 h7 r (i + 1) fu (by omega) (by omega)
    rw [lp_s]
    generalize lp (fun _ _ _ => none) (f_X3_search_4 N) fu = S at ih ⊢
    unfold f_X3_search_4
    rw [h5, if_neg (nI_ge (by omega) (by omega)), h7, vb_e, vb_e, nI_1, pk_mul, ← Nat.pow_succ]
    exact ih
theorem pow_b {k n : Nat} (hk : k ≤ 4) (hn : n ≤ 4) : k ^ n ≤ 256 := by
  have h1 : k ^ n ≤ 4 ^ n := Nat.pow_le_pow_left hk n
  have h2 : 4 ^ n ≤ 4 ^ 4 := Nat.pow_le_pow_right (by decide) hn
  exact Nat.le_trans h1 h2
theorem sweepC {N : Nat} (hN : 302 ≤ N) {s : Hp} (p2 : E2 s) {f m n : Nat} (hn0 : 0 < n) (hn : n ≤ 4) (hfm : f + n * m ≤ 10000) (hm : 0 < m) (x1 : Int32) (hq : 0 < fb_ct (bt x1) 16) : ∃ (t : Hp) (T : Nat → Nat → Nat) (b : Nat), (bd (f_X3_lay N s (nI f) (nI n) (nI m)) fun _ s3 => bd (f_X3_look N s3 x1) fun _ s5 => bd (f_X3_search N s5) fun v8 s7 => some (v8, s7)) = some (zI (gC s f m n (min n (fb_ct (bt x1) 16)) T b), t) ∧ (∀ sl, sl < n → ∀ d, d < min n (fb_ct (bt x1) 16) → T sl d < 16 ∧ topB (bt x1) (LZ s f m sl) n (T sl d) = true ∧ fb_ct (topB (bt x1) (LZ s f m sl) n) (T sl d) = d) ∧ FM (gC s f m n (min n (fb_ct (bt x1) 16)) T) (min n (fb_ct (bt x1) 16) ^ n) b ∧ (∀ j, t 35 j = if j < n then nI (T j (dg (min n (fb_ct (bt x1) 16)) n b j)) else s 35 j) ∧ frP s t ∧ t 30 5 = nI n := by
  obtain ⟨t1, e1, l1⟩ := lay_e (N := N) (by omega) s (f := f) (m := m) hn
  obtain ⟨t2, e2, l2, r2, h7⟩ := look_loop (N := N) (by omega) p2 hn hfm hm x1 n 0 N t1 (by omega) (by omega) l1 (fun a ha => absurd ha (Nat.not_lt_zero a)) (fun h => absurd h (Nat.lt_irrefl 0))
  have e2' : f_X3_look N t1 x1 = some (0, t2) := e2
  have h7' := h7 hn0
  generalize hkk : min n (fb_ct (bt x1) 16) = kk at h7' ⊢
  have hk0 : 0 < kk := by omega
  have hk4 : kk ≤ 4 := by omega
  have hex : ∀ sl, ∃ Ts : Nat → Nat, sl < n → ∀ d, d < kk → Ts d < 16 ∧ topB (bt x1) (LZ s f m sl) n (Ts d) = true ∧ fb_ct (topB (bt x1) (LZ s f m sl) n) (Ts d) = d := fun sl => by
    have h1 : ∀ d, ∃ c, d < kk → c < 16 ∧ topB (bt x1) (LZ s f m sl) n c = true ∧ fb_ct (topB (bt x1) (LZ s f m sl) n) c = d := fun d => by
      by_cases hd : d < kk
      · have hd' : d < fb_ct (topB (bt x1) (LZ s f m sl) n) 16 := by rw [top_ct, hkk]; exact hd
        obtain ⟨c, q1, q2, q3⟩ := fb_ct_kth hd'
        exact ⟨c, fun _ => ⟨q1, q2, q3⟩⟩
      · exact ⟨0, fun z => absurd z hd⟩
    obtain ⟨Ts, hTs⟩ := Classical.axiomOfChoice h1
    exact ⟨Ts, fun _ d hd => hTs d hd⟩
  obtain ⟨T, hT⟩ := Classical.axiomOfChoice hex
  have hC : CT s f m n kk T t2 := by
    refine ⟨?_, h7', fun a ha => (r2 a ha).1, fun a ha d hd => ?_⟩
    · rw [show t2 35 = s 35 from l2.2.2.2.2]; exact l2
    · obtain ⟨q1, q2, q3⟩ := hT a ha d hd
      have := (r2 a ha).2 (T a d) q1 q2
      rw [q3] at this
      exact this
  have hS : SI35 s n 35 (s 35) (gC s f m n kk T) (fun b j => T j (dg kk n b j)) 0 (-1) t2 := Or.inl ⟨rfl, rfl, l2.2.2.2.2⟩
  have hKb := pow_b hk4 hn
  obtain ⟨t3, z, e3, c3, s3⟩ := ser29 (N := N) (by omega) (K := kk ^ n) hn hfm hm hk0 hk4 (fun a ha d hd => (hT a ha d hd).1) hn0 hKb (kk ^ n) 0 N t2 (-1) (by omega) (by omega) (by omega) (by omega) hC hS
  have e4 : f_X3_search N t2 = some (zI z, t3) := (ser4 (N := N) hn hk4 hC.1.2.1 h7' n 0 N (by omega) (by omega)).trans e3
  obtain ⟨b, hz, hF, h35⟩ := SI_end (Nat.pow_pos hk0) s3
  refine ⟨t3, T, b, ?_, hT, hF, h35, c3.1.1, c3.1.2.1⟩
  rw [e1, bd_e, e2', bd_e, e4, bd_e, hz]
