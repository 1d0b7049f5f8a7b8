/-! the first best of all sweeps is the first best of those that the class tries -/
def FM (g : Nat → Int) (K i : Nat) : Prop := i < K ∧ (∀ j, j < K → g j ≤ g i) ∧ ∀ j, j < i → g j < g i
theorem FM_one {g : Nat → Int} {K i j : Nat} (h : FM g K i) (h2 : FM g K j) : i = j := fb_best_one h.1 h.2.1 h.2.2 h2.1 h2.2.1 h2.2.2
theorem ct_lt {p : Nat → Bool} {a b : Nat} (h : a < b) (hp : p a = true) : fb_ct p a < fb_ct p b := by
  have := fb_ct_mono p (show a + 1 ≤ b from h)
  rw [fb_ct_succ, if_pos hp] at this
  omega
theorem sw_main {C : Nat → Bool} {L : Nat → Nat → Int} {bg : Nat → Nat} {m n q k : Nat} (hq : q = fb_ct C 16) (hq0 : 0 < q) (hn0 : 0 < n) (hk : k = min n q) {ch : Nat → Nat} (hch : ∀ i, i < q → ch i < 16 ∧ C (ch i) = true ∧ fb_ct C (ch i) = i) {T : Nat → Nat → Nat} (hT : ∀ s, s < n → ∀ d, d < k → T s d < 16 ∧ topB C (L s) n (T s d) = true ∧ fb_ct (topB C (L s) n) (T s d) = d) {i j : Nat} (hi : FM (fun i => WZ L bg m (fun s => ch (dg q n i s)) n) (q ^ n) i) (hj : FM (fun j => WZ L bg m (fun s => T s (dg k n j s)) n) (k ^ n) j) : ∀ s, s < n → T s (dg k n j s) = ch (dg q n i s) := by
  have hk0 : 0 < k := by omega
  have chi : ∀ c, c < 16 → C c = true → fb_ct C c < q ∧ ch (fb_ct C c) = c := fun c hc hC => by
    have h1 := ct_lt hc hC
    rw [← hq] at h1
    obtain ⟨a1, a2, a3⟩ := hch (fb_ct C c) h1
    exact ⟨h1, fb_ct_kth_one a2 hC a3⟩
  have tp : ∀ s c, topB C (L s) n c = true → C c = true ∧ rkC C (L s) c < n := fun s c z => by
    unfold topB at z
    rw [Bool.and_eq_true, decide_eq_true_iff] at z
    exact z
  have A1 : ∀ s, ch (dg q n i s) < 16 ∧ C (ch (dg q n i s)) = true ∧ fb_ct C (ch (dg q n i s)) = dg q n i s := fun s => hch _ (dg_lt hq0)
  have hdgi : hr q (dg q n i) n = i := hr_dg hq0 hi.1
  have step1 : ∀ s, s < n → topB C (L s) n (ch (dg q n i s)) = true := fun s hs => by
    apply Classical.byContradiction
    intro hnt
    obtain ⟨a1, a2, a3⟩ := A1 s
    have hrk : n ≤ rkC C (L s) (ch (dg q n i s)) := by
      rcases Nat.lt_or_ge (rkC C (L s) (ch (dg q n i s))) n with z | z
      · exact absurd (by unfold topB; rw [a2, decide_eq_true z]; rfl) hnt
      · exact z
    have hrq := rk_q (l := L s) a1 a2
    rw [← hq] at hrq
    have hkn : k = n := by omega
    have hfree : ∃ d, d < n ∧ ∀ t, t < n → t ≠ s → ch (dg q n i t) ≠ T s d := by
      apply Classical.byContradiction
      intro hno
      have hex : ∀ d, ∃ t, d < n → t < n ∧ t ≠ s ∧ ch (dg q n i t) = T s d := fun d => by
        by_cases hd : d < n
        · apply Classical.byContradiction
          intro h2
          refine hno ⟨d, hd, fun t h3 h4 h5 => h2 ⟨t, fun _ => ⟨h3, h4, h5⟩⟩⟩
        · exact ⟨0, fun z => absurd z hd⟩
      obtain ⟨e, he⟩ := Classical.axiomOfChoice hex
      have := fb_holes (n - 1) n (fun d => if e d < s then e d else e d - 1) (fun d hd => by
        obtain ⟨e1, e2, e3⟩ := he d hd
        show (if e d < s then e d else e d - 1) < n - 1
        by_cases z : e d < s
        · rw [if_pos z]; omega
        · rw [if_neg z]; omega) (fun x y hxy hy heq => by
        obtain ⟨x1, x2, x3⟩ := he x (by omega)
        obtain ⟨y1, y2, y3⟩ := he y hy
        have heq' : (if e x < s then e x else e x - 1) = (if e y < s then e y else e y - 1) := heq
        have exy : e x = e y := by
          by_cases z1 : e x < s
          · rw [if_pos z1] at heq'
            by_cases z2 : e y < s
            · rw [if_pos z2] at heq'; exact heq'
            · rw [if_neg z2] at heq'; omega
          · rw [if_neg z1] at heq'
            by_cases z2 : e y < s
            · rw [if_pos z2] at heq'; omega
            · rw [if_neg z2] at heq'; omega
        rw [exy, y3] at x3
        have t1 := (hT s hs x (by omega)).2.2
        have t2 := (hT s hs y (by omega)).2.2
        rw [x3, t1] at t2
        omega)
      omega
    obtain ⟨d, hd, hun⟩ := hfree
    obtain ⟨t1, t2, t3⟩ := hT s hs d (by omega)
    obtain ⟨t4, t5⟩ := tp s _ t2
    obtain ⟨c1, c2⟩ := chi _ t1 t4
    have hold := rk_tot (l := L s) a1 a2 (Or.inl (show rkC C (L s) (T s d) < rkC C (L s) (ch (dg q n i s)) by omega)) t1 t4
    rw [oldB_iff] at hold
    have hex := exch (L := L) (bg := bg) (m := m) (c := fun t => ch (dg q n i t)) (x := T s d) hs hun (show L s (T s d) ≤ L s (ch (dg q n i s)) by omega)
    have hD' : ∀ t, t < n → (if t = s then fb_ct C (T s d) else dg q n i t) < q := fun t ht => by
      by_cases e : t = s
      · rw [if_pos e]; exact c1
      · rw [if_neg e]; exact dg_lt hq0
    have hi' : hr q (fun t => if t = s then fb_ct C (T s d) else dg q n i t) n < q ^ n := hr_lt n hD'
    have hg : WZ L bg m (fun t => ch (dg q n (hr q (fun t => if t = s then fb_ct C (T s d) else dg q n i t) n) t)) n = WZ L bg m (fun t => if t = s then T s d else ch (dg q n i t)) n := WZ_cong n (fun t ht => by
      rw [dg_hr (k := q) (n := n) (D := fun t => if t = s then fb_ct C (T s d) else dg q n i t) hq0 hD' ht]
      by_cases e : t = s
      · rw [if_pos e, if_pos e, c2]
      · rw [if_neg e, if_neg e])
    have b1 := hi.2.1 _ hi'
    dsimp only at b1 hex
    rw [hg] at b1
    have heqL : L s (T s d) = L s (ch (dg q n i s)) := by omega
    have hlt : T s d < ch (dg q n i s) := by omega
    have hidx : fb_ct C (T s d) < dg q n i s := by
      have := ct_lt hlt t4
      omega
    have hlow := hr_lower (k := q) (D := dg q n i) (D' := fun t => if t = s then fb_ct C (T s d) else dg q n i t) hq0 (s := s) (by rw [if_pos rfl]; exact hidx) (fun t ht => by rw [if_neg ht]) n hs
    rw [hdgi] at hlow
    have b2 := hi.2.2 _ hlow
    dsimp only at b2
    rw [hg] at b2
    omega
  have d0lt : ∀ s, s < n → fb_ct (topB C (L s) n) (ch (dg q n i s)) < k := fun s hs => by
    have := ct_lt (A1 s).1 (step1 s hs)
    rw [top_ct, ← hq, ← hk] at this
    exact this
  have hTd : ∀ s, s < n → T s (fb_ct (topB C (L s) n) (ch (dg q n i s))) = ch (dg q n i s) := fun s hs => by
    obtain ⟨t1, t2, t3⟩ := hT s hs _ (d0lt s hs)
    exact fb_ct_kth_one t2 (step1 s hs) t3
  have ejs : ∀ s, s < n → dg k n (hr k (fun s => fb_ct (topB C (L s) n) (ch (dg q n i s))) n) s = fb_ct (topB C (L s) n) (ch (dg q n i s)) := fun s hs => dg_hr (D := fun s => fb_ct (topB C (L s) n) (ch (dg q n i s))) hk0 d0lt hs
  have phi : ∀ x, x < k ^ n → hr q (fun s => fb_ct C (T s (dg k n x s))) n < q ^ n ∧ WZ L bg m (fun s => T s (dg k n x s)) n = WZ L bg m (fun s => ch (dg q n (hr q (fun s => fb_ct C (T s (dg k n x s))) n) s)) n := fun x hx => by
    have hE : ∀ t, t < n → fb_ct C (T t (dg k n x t)) < q := fun t ht => by
      obtain ⟨t1, t2, _⟩ := hT t ht (dg k n x t) (dg_lt hk0)
      exact (chi _ t1 (tp t _ t2).1).1
    refine ⟨hr_lt n hE, WZ_cong n (fun t ht => ?_)⟩
    rw [dg_hr (D := fun s => fb_ct C (T s (dg k n x s))) hq0 hE ht]
    obtain ⟨t1, t2, _⟩ := hT t ht (dg k n x t) (dg_lt hk0)
    exact (chi _ t1 (tp t _ t2).1).2.symm
  have hj0 : FM (fun j => WZ L bg m (fun s => T s (dg k n j s)) n) (k ^ n) (hr k (fun s => fb_ct (topB C (L s) n) (ch (dg q n i s))) n) := by
    have ev : WZ L bg m (fun s => T s (dg k n (hr k (fun s => fb_ct (topB C (L s) n) (ch (dg q n i s))) n) s)) n = WZ L bg m (fun s => ch (dg q n i s)) n := WZ_cong n (fun t ht => by rw [ejs t ht, hTd t ht])
    refine ⟨hr_lt n d0lt, fun x hx => ?_, fun x hx => ?_⟩
    · show WZ L bg m (fun s => T s (dg k n x s)) n ≤ _
      dsimp only
      rw [ev, (phi x hx).2]
      exact hi.2.1 _ (phi x hx).1
    · have hxk : x < k ^ n := Nat.lt_trans hx (hr_lt n d0lt)
      show WZ L bg m (fun s => T s (dg k n x s)) n < _
      dsimp only
      rw [ev, (phi x hxk).2]
      refine hi.2.2 _ ?_
      have hc := (hr_cmp (k := k) (q := q) (D := dg k n x) (D' := fun s => fb_ct (topB C (L s) n) (ch (dg q n i s))) (E := fun s => fb_ct C (T s (dg k n x s))) (E' := dg q n i) n (fun t ht => by
        obtain ⟨t1, t2, t3⟩ := hT t ht (dg k n x t) (dg_lt hk0)
        refine ⟨dg_lt hk0, d0lt t ht, (chi _ t1 (tp t _ t2).1).1, dg_lt hq0, fun z => ?_, fun z => ?_⟩
        · show fb_ct C (T t (dg k n x t)) = _
          rw [z]
          show fb_ct C (T t (fb_ct (topB C (L t) n) (ch (dg q n i t)))) = _
          rw [hTd t ht, (A1 t).2.2]
        · show fb_ct C (T t (dg k n x t)) < _
          rw [← (A1 t).2.2]
          refine ct_lt ?_ (tp t _ t2).1
          rcases Nat.lt_or_ge (T t (dg k n x t)) (ch (dg q n i t)) with y | y
          · exact y
          · have := fb_ct_mono (topB C (L t) n) y
            rw [t3] at this
            have z' : dg k n x t < fb_ct (topB C (L t) n) (ch (dg q n i t)) := z
            omega)).1
      rw [hr_dg hk0 hxk, hdgi] at hc
      exact hc hx
  have ej := FM_one hj hj0
  intro s hs
  rw [ej, ejs s hs, hTd s hs]
