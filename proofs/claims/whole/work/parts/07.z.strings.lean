/-! the four texts: length() and charAt(i) -/
section TS
variable {G : Gx} {x xa xb : Option (Int32 × Hp)} {s : Hp} {pc : Nat} {lv : List (Nat × Value)} {st rest : List Value} {cc cc2 : ByteArray} {nL nL2 : Nat} {own : String} {ret ret2 : Option FieldType} {fr lo fr2 lo2 n : Nat}
theorem T_none : T G none s pc lv st := fun h => nomatch h
theorem tneg {c : Prop} [Decidable c] (h : ¬ c) (k : T G (if c then xa else x) s pc lv st) : T G x s pc lv st := by rw [if_neg h] at k; exact k
theorem tpos {c : Prop} [Decidable c] (h : c) (k : T G (if c then x else xb) s pc lv st) : T G x s pc lv st := by rw [if_pos h] at k; exact k
theorem tr_nret {ty : FieldType} (hX : ok G cc nL own (some ty) fr lo) (hR : okR G) {v : Int32} (hn : narrow ty (.int v) = .int v) (hd : decode cc pc = .ok (.ireturn, 1)) : T G (some (v, s)) s pc lv [.int v] := by
  obtain ⟨E, ⟨p, e, R, s0, m, args, below, meth, cde, A, cells, slots⟩, nL0, Q, r⟩ := G
  obtain ⟨hexec, hb, hml, rfl, hown, hts, hK, hD, hr, hlocks, ⟨hfr, hlo, hc, hs⟩, hst⟩ := hX
  obtain ⟨rfl, rfl⟩ := hR
  intro hx H locs ls hP hS hl
  exact W.zret hexec hb hr hn (fun t ht hW => ⟨⟨v, s, rfl, Option.some.inj hx, (by show va_P _ _ _ t.heap; rw [ht]; exact hP)⟩, hS.F ht⟩) hS.2.2 hd hlocks
theorem tr_i2c (hX : ok G cc nL own ret fr lo) {a v : Int32} (hd : decode cc pc = .ok (.i2c, 1)) (hv : (a.toUInt32 % 65536).toInt32 = v) (k : T G x s (pc + 1) lv (.int v :: st)) : T G x s pc lv (.int a :: st) := by
  obtain ⟨E, ⟨p, e, R, s0, m, args, below, meth, cde, A, cells, slots⟩, nL0, Q, r⟩ := G
  obtain ⟨hexec, hb, hml, rfl, hown, hts, hK, hD, hr, hlocks, ⟨hfr, hlo, hc, hs⟩, hst⟩ := hX
  exact fun hx H locs ls hP hS hl => lv_i2c hexec hb hd hv (k hx H locs ls hP hS hl)
theorem tr_pop (hX : ok G cc nL own ret fr lo) {v : Value} (hd : decode cc pc = .ok (.pop, 1)) (hv : v.category = 1) (k : T G x s (pc + 1) lv st) : T G x s pc lv (v :: st) := by
  obtain ⟨E, ⟨p, e, R, s0, m, args, below, meth, cde, A, cells, slots⟩, nL0, Q, r⟩ := G
  obtain ⟨hexec, hb, hml, rfl, hown, hts, hK, hD, hr, hlocks, ⟨hfr, hlo, hc, hs⟩, hst⟩ := hX
  exact fun hx H locs ls hP hS hl => lv_pop hexec hb hd hv (k hx H locs ls hP hS hl)
theorem tr_cmp (hX : ok G cc nL RJ0 ret fr lo) (hd : decode cc pc = .ok (.getstatic 38, 3)) (k0 : T G x s (pc + 3) lv (.int 1 :: st)) : T G x s pc lv st := by
  obtain ⟨E, ⟨p, e, R, s0, m, args, below, meth, cde, A, cells, slots⟩, nL0, Q, r⟩ := G
  obtain ⟨hexec, hb, hml, rfl, hown, hts, hK, hD, hr, hlocks, ⟨hfr, hlo, hc, hs⟩, hst⟩ := hX
  exact fun hx H locs ls hP hS hl => va_gets hexec hb hst.2.2.2.2.2.2.2.2.1 hS hown (hts _ wf_38) (fun _ h => h) hd (k0 hx H locs ls hP hS hl)
theorem tr_fmt (hX : ok G cc nL RJ0 ret fr lo) (hd : decode cc pc = .ok (.getstatic 1053, 3)) (k1 : T G x s (pc + 3) lv (.null :: st)) (k2 : ∀ t : Nat, T G x s (pc + 3) lv (.ref t :: st)) : T G x s pc lv st := by
  obtain ⟨E, ⟨p, e, R, s0, m, args, below, meth, cde, A, cells, slots⟩, nL0, Q, r⟩ := G
  obtain ⟨hexec, hb, hml, rfl, hown, hts, hK, hD, hr, hlocks, ⟨hfr, hlo, hc, hs⟩, hst⟩ := hX
  intro hx H locs ls hP hS hl
  rcases hst.2.2.2.2.2.2.2.2.2 with hz | ⟨t, hz⟩
  · exact va_gets hexec hb hz hS hown (hts _ wf_1053) (fun _ h => h) hd (k1 hx H locs ls hP hS hl)
  · exact va_gets hexec hb hz hS hown (hts _ wf_1053) (fun _ h => h) hd (k2 t hx H locs ls hP hS hl)
theorem tr_scod (hX : ok G cc nL RJ0 ret fr lo) {i : Nat} (hi : i < 4) (hd : decode cc pc = .ok (.getfield 15, 3)) (k0 : T G x s (pc + 3) lv (.int 0 :: st)) : T G x s pc lv (rf G.1 (137 + i) :: st) := by
  obtain ⟨E, ⟨p, e, R, s0, m, args, below, meth, cde, A, cells, slots⟩, nL0, Q, r⟩ := G
  obtain ⟨hexec, hb, hml, rfl, hown, hts, hK, hD, hr, hlocks, ⟨hfr, hlo, hc, hs⟩, hst⟩ := hX
  exact fun hx H locs ls hP hS hl => vk_getf hexec hb (hst.2.2.2.2.2.2.2.1.1 i hi).2.1 hS hown (hts _ wf_15) (fun _ h => h) hd (k0 hx H locs ls hP hS hl)
theorem tr_sval (hX : ok G cc nL RJ0 ret fr lo) {i : Nat} (hi : i < 4) (hd : decode cc pc = .ok (.getfield 9, 3)) (k0 : T G x s (pc + 3) lv (rf G.1 (141 + i) :: st)) : T G x s pc lv (rf G.1 (137 + i) :: st) := by
  obtain ⟨E, ⟨p, e, R, s0, m, args, below, meth, cde, A, cells, slots⟩, nL0, Q, r⟩ := G
  obtain ⟨hexec, hb, hml, rfl, hown, hts, hK, hD, hr, hlocks, ⟨hfr, hlo, hc, hs⟩, hst⟩ := hX
  exact fun hx H locs ls hP hS hl => vk_getf hexec hb (hst.2.2.2.2.2.2.2.1.1 i hi).2.2.1 hS hown (hts _ wf_9) (fun _ h => h) hd (k0 hx H locs ls hP hS hl)
theorem tr_blen (hX : ok G cc nL own ret fr lo) {i : Nat} (hi : i < 4) {v : Int32} (hv : Int32.ofNat (sLen.getD i 0) = v) (hd : decode cc pc = .ok (.arraylength, 1)) (k0 : T G x s (pc + 1) lv (.int v :: st)) : T G x s pc lv (rf G.1 (141 + i) :: st) := by
  obtain ⟨E, ⟨p, e, R, s0, m, args, below, meth, cde, A, cells, slots⟩, nL0, Q, r⟩ := G
  obtain ⟨hexec, hb, hml, rfl, hown, hts, hK, hD, hr, hlocks, ⟨hfr, hlo, hc, hs⟩, hst⟩ := hX
  exact fun hx H locs ls hP hS hl => va_tlen hexec hb (hst.2.2.2.2.2.2.2.1.1 i hi).2.2.2 hS hv hd (k0 hx H locs ls hP hS hl)
theorem tr_bald (hX : ok G cc nL own ret fr lo) {i : Nat} (hi : i < 4) {j : Int32} (hj : inR j (sLen.getD i 0) = true) (hd : decode cc pc = .ok (.baload, 1)) (k0 : T G x s (pc + 1) lv (.int (sAt i (ix j)) :: st)) : T G x s pc lv (.int j :: rf G.1 (141 + i) :: st) := by
  obtain ⟨E, ⟨p, e, R, s0, m, args, below, meth, cde, A, cells, slots⟩, nL0, Q, r⟩ := G
  obtain ⟨hexec, hb, hml, rfl, hown, hts, hK, hD, hr, hlocks, ⟨hfr, hlo, hc, hs⟩, hst⟩ := hX
  exact fun hx H locs ls hP hS hl => va_tb hexec hb (hst.2.2.2.2.2.2.2.1.1 i hi).2.2.2 hS (inR_in hj) rfl hd (k0 hx H locs ls hP hS hl)
theorem tr_callVs (hX : ok G cc nL own ret fr lo) {y : MethodName} {k : Nat} (i : Nat) (hi : i < 4) (As : List Value) {v : Int32} {s2 : Hp} (hy : y.cls = "java/lang/String") (hm : calV y cc2 nL2 ret2 n) (hw : Cond.methodLink own k y ∈ gw) (hR : fr2 + 1 ≤ fr ∧ 8 + (nL2 + 11) + lo2 ≤ lo) (hn : As.length = n) (hst0 : st = As.reverse ++ rf G.1 (137 + i) :: rest) (hrm : (rest.map fun v => v.category).sum ≤ 8) (hd : decode cc pc = .ok (.invokevirtual k, 3))
    (hC : CtrI G.1 y cc2 nL2 ret2 fr2 lo2 (rf G.1 (137 + i) :: As) s (v, s2)) (k0 : T G x s2 (pc + 3) lv (.int v :: rest)) : T G x s pc lv st := by
  obtain ⟨E, ⟨p, e, R, s0, m, args, below, meth, cde, A, cells, slots⟩, nL0, Q, r⟩ := G
  obtain ⟨hexec, hb, hml, rfl, hown, hts, hK, hD, hr, hlocks, ⟨hfr, hlo, hc, hs⟩, hst⟩ := hX
  intro hx H locs ls hP hS hl
  refine va_calli (va_runV (As := As) (rest := rest) (b := E.2.2.2 (137 + i)) ⟨hexec, hb, hml, hown, hts⟩ hC (cwV n hts (gw_wsV hw hm) rfl rfl rfl ⟨rfl, hm.2.2.2.2⟩ ⟨Nat.le_trans hR.1 hfr, Nat.le_trans hR.2 hlo⟩) ⟨PRE_blind, by have h9 := vk_recv hst.2.2.2.2.2.2.2.1 hi hS; rw [hy]; exact h9, fun U hU hW => ⟨rfl, PRE_at hW hU hP hK hS hD hst⟩⟩ rfl hn hl.1 hst0 (lv_room hrm) hd ⟨hc, hs⟩) hS (fun q _ h => AW_in hD h) (fun q h => AW_in hD h) (fun v1 u t H1 locs1 ht hvm hw1 hB hz1 hk1 hS1 => ?_)
  cases hw1
  exact k0 hx H1 locs1 ls (by rw [← ht]; exact hB) hS1 hl
theorem tr_callSs (hX : ok G cc nL own ret fr lo) {y : MethodName} {k : Nat} (As : List Value) {v : Int32} {s2 : Hp} (hm : calS y cc2 nL2 ret2 n) (hw : Cond.methodLink own k y ∈ gw) (hR : fr2 + 1 ≤ fr ∧ 8 + (nL2 + 11) + lo2 ≤ lo) (hn : As.length = n) (hst0 : st = As.reverse ++ rest) (hrm : (rest.map fun v => v.category).sum ≤ 8) (hd : decode cc pc = .ok (.invokestatic k, 3))
    (hC : CtrI G.1 y cc2 nL2 ret2 fr2 lo2 As s (v, s2)) (k0 : T G x s2 (pc + 3) lv (.int v :: rest)) : T G x s pc lv st := by
  obtain ⟨E, ⟨p, e, R, s0, m, args, below, meth, cde, A, cells, slots⟩, nL0, Q, r⟩ := G
  obtain ⟨hexec, hb, hml, rfl, hown, hts, hK, hD, hr, hlocks, ⟨hfr, hlo, hc, hs⟩, hst⟩ := hX
  intro hx H locs ls hP hS hl
  refine va_calli (va_runS (As := As) (rest := rest) ⟨hexec, hb, hml, hown, hts⟩ hC (va_cwS n hts (gw_wsS hw hm) rfl rfl rfl hm.2.2.2 ⟨Nat.le_trans hR.1 hfr, Nat.le_trans hR.2 hlo⟩) ⟨PRE_blind, fun U hU hW => ⟨rfl, PRE_at hW hU hP hK hS hD hst⟩⟩ rfl hn hl.1 hst0 (lv_room hrm) hd ⟨hc, hs⟩) hS (fun q _ h => AW_in hD h) (fun q h => AW_in hD h) (fun v1 u t H1 locs1 ht hvm hw1 hB hz1 hk1 hS1 => ?_)
  cases hw1
  exact k0 hx H1 locs1 ls (by rw [← ht]; exact hB) hS1 hl
theorem tr_callSv (hX : ok G cc nL own ret fr lo) {y : MethodName} {k : Nat} (As : List Value) {s2 : Hp} (hm : calS y cc2 nL2 ret2 n) (hw : Cond.methodLink own k y ∈ gw) (hR : fr2 + 1 ≤ fr ∧ 8 + (nL2 + 11) + lo2 ≤ lo) (hn : As.length = n) (hst0 : st = As.reverse ++ rest) (hrm : (rest.map fun v => v.category).sum ≤ 8) (hd : decode cc pc = .ok (.invokestatic k, 3))
    (hC : CtrV G.1 y cc2 nL2 ret2 fr2 lo2 As s (0, s2)) (k0 : T G x s2 (pc + 3) lv rest) : T G x s pc lv st := by
  obtain ⟨E, ⟨p, e, R, s0, m, args, below, meth, cde, A, cells, slots⟩, nL0, Q, r⟩ := G
  obtain ⟨hexec, hb, hml, rfl, hown, hts, hK, hD, hr, hlocks, ⟨hfr, hlo, hc, hs⟩, hst⟩ := hX
  intro hx H locs ls hP hS hl
  refine va_callv (va_runS (As := As) (rest := rest) ⟨hexec, hb, hml, hown, hts⟩ hC (va_cwS n hts (gw_wsS hw hm) rfl rfl rfl hm.2.2.2 ⟨Nat.le_trans hR.1 hfr, Nat.le_trans hR.2 hlo⟩) ⟨PRE_blind, fun U hU hW => ⟨rfl, PRE_at hW hU hP hK hS hD hst⟩⟩ rfl hn hl.1 hst0 (lv_room hrm) hd ⟨hc, hs⟩) hS (fun q _ h => AW_in hD h) (fun q h => AW_in hD h) (fun u t H1 locs1 ht hvm hw1 hB hz1 hk1 hS1 => ?_)
  cases hw1
  exact k0 hx H1 locs1 ls (by rw [← ht]; exact hB) hS1 hl
end TS
theorem c_check3 (E : Ex) (hE : va_D (AW E) (wd E (fun _ _ => 0))) (s : Hp) (a b : Int32) (v : Value) (hv : v = .null ∨ ∃ t, v = .ref t) (h1 : ¬ a < 0) (h2 : a < b) : CtrI E yJ3_checkIndex_8e157 cJ3_checkIndex_8e157 3 (some .int) 0 0 [.int a, .int b, v] s (a, s) := by
  have key : ∀ {G : Gx} (hX : ok G cJ3_checkIndex_8e157 3 RJ3 (some .int) 0 0) (hR : okR G), T G (some (a, s)) s 0 [(0, .int a), (1, .int b), (2, v)] [] := by
    intro G hX hR
    refine tr_iload_n hX 0 dJ3_checkIndex_8e157_0 rfl rfl ?_
    refine tneg (xa := none) h1 (tr_if_lt hX 9 dJ3_checkIndex_8e157_1 (by decide) T_none ?_)
    refine tr_iload_n hX 0 dJ3_checkIndex_8e157_4 rfl rfl ?_
    refine tr_iload_n hX 1 dJ3_checkIndex_8e157_5 rfl rfl ?_
    refine tpos (xb := none) h2 (tr_icmp_lt hX 16 dJ3_checkIndex_8e157_6 (by decide) ?_ T_none)
    refine tr_iload_n hX 0 dJ3_checkIndex_8e157_16 rfl rfl ?_
    exact tr_iret hX hR dJ3_checkIndex_8e157_17
  rcases hv with rfl | ⟨t, rfl⟩
  · exact ctrI_of (by decide +kernel) hE (Nat.le_of_ble_eq_true rfl) rfl (fun G hX hR hG => by subst hG; exact key hX hR)
  · exact ctrI_of (by decide +kernel) hE (Nat.le_of_ble_eq_true rfl) rfl (fun G hX hR hG => by subst hG; exact key hX hR)
theorem c_check0 (E : Ex) (hE : va_D (AW E) (wd E (fun _ _ => 0))) (s : Hp) (a b : Int32) (h1 : ¬ a < 0) (h2 : a < b) : CtrV E yJ0_checkIndex_df160 cJ0_checkIndex_df160 2 none 1 22 [.int a, .int b] s (0, s) := by
  refine ctrV_of (by decide +kernel) hE (Nat.le_of_ble_eq_true rfl) rfl (fun G hX hR hG => ?_)
  subst hG
  show T G (some (0, s)) s 0 [(0, .int a), (1, .int b)] []
  refine tr_iload_n hX 0 dJ0_checkIndex_df160_0 rfl rfl ?_
  refine tr_iload_n hX 1 dJ0_checkIndex_df160_1 rfl rfl ?_
  refine tr_fmt hX dJ0_checkIndex_df160_2 ?_ (fun t => ?_)
  · refine tr_callSs hX [.int a, .int b, .null] ks_J3_checkIndex_8e157 wk_J0_1059 (by decide) rfl rfl (Nat.le_of_ble_eq_true rfl) dJ0_checkIndex_df160_5 (c_check3 G.1 hE s a b .null (Or.inl rfl) h1 h2) ?_
    refine tr_pop hX dJ0_checkIndex_df160_8 rfl ?_
    exact tr_vret hX hR dJ0_checkIndex_df160_9
  · refine tr_callSs hX [.int a, .int b, .ref t] ks_J3_checkIndex_8e157 wk_J0_1059 (by decide) rfl rfl (Nat.le_of_ble_eq_true rfl) dJ0_checkIndex_df160_5 (c_check3 G.1 hE s a b (.ref t) (Or.inr ⟨t, rfl⟩) h1 h2) ?_
    refine tr_pop hX dJ0_checkIndex_df160_8 rfl ?_
    exact tr_vret hX hR dJ0_checkIndex_df160_9
theorem inR_0 {j : Int32} {n : Nat} (h : inR j n = true) : ¬ j < 0 := fun q => inR_in h (Or.inl q)
theorem inR_lt {j : Int32} {n : Nat} (h : inR j n = true) (hn : n < 2 ^ 31) : j < Int32.ofNat n := by
  obtain ⟨k, hk, rfl⟩ := vp_in_of (inR_in h) hn
  exact nI_lt hk hn
theorem sAt_char : ∀ i, i < 4 → ∀ j, j < 4 → ((sAt i j &&& 255).toUInt32 % 65536).toInt32 = sAt i j := by decide +kernel
theorem sAt_nar : ∀ i, i < 4 → ∀ j, j < 4 → narrow .char (.int (sAt i j)) = .int (sAt i j) := by decide +kernel
theorem sLen_lt {i : Nat} (hi : i < 4) : sLen.getD i 0 ≤ 4 := by
  match i, hi with
  | 0, _ => decide
  | 1, _ => decide
  | 2, _ => decide
  | 3, _ => decide
theorem ix_lt {j : Int32} {n : Nat} (h : inR j n = true) : ix j < n := Nat.not_le.mp fun q => inR_in h (Or.inr q)
theorem c_lat (E : Ex) (hE : va_D (AW E) (wd E (fun _ _ => 0))) (s : Hp) (i : Nat) (hi : i < 4) (j : Int32) (hj : inR j (sLen.getD i 0) = true) : CtrI E yJ1_charAt_3b067 cJ1_charAt_3b067 2 (some .char) 2 43 [rf E (141 + i), .int j] s (sAt i (ix j), s) := by
  refine ctrI_of (by decide +kernel) hE (Nat.le_of_ble_eq_true rfl) rfl (fun G hX hR hG => ?_)
  subst hG
  show T G (some (sAt i (ix j), s)) s 0 [(0, rf G.1 (141 + i)), (1, .int j)] []
  have hj4 : ix j < 4 := Nat.lt_of_lt_of_le (ix_lt hj) (sLen_lt hi)
  refine tr_iload_n hX 1 dJ1_charAt_3b067_0 rfl rfl ?_
  refine tr_aload_n hX 0 dJ1_charAt_3b067_1 rfl rfl ?_
  refine tr_blen hX hi rfl dJ1_charAt_3b067_2 ?_
  refine tr_callSv hX [.int j, .int (Int32.ofNat (sLen.getD i 0))] ks_J0_checkIndex_df160 wk_J1_9 (by decide) rfl rfl (Nat.le_of_ble_eq_true rfl) dJ1_charAt_3b067_3 (c_check0 G.1 hE s j _ (inR_0 hj) (inR_lt hj (by have := sLen_lt hi; omega))) ?_
  refine tr_aload_n hX 0 dJ1_charAt_3b067_6 rfl rfl ?_
  refine tr_iload_n hX 1 dJ1_charAt_3b067_7 rfl rfl ?_
  refine tr_bald hX hi hj dJ1_charAt_3b067_8 ?_
  refine tr_sipush (v := 255) hX dJ1_charAt_3b067_9 rfl ?_
  refine tr_iand hX dJ1_charAt_3b067_12 ?_
  refine tr_i2c hX dJ1_charAt_3b067_13 (sAt_char i hi (ix j) hj4) ?_
  exact tr_nret hX hR (sAt_nar i hi (ix j) hj4) dJ1_charAt_3b067_14
theorem c_isL (E : Ex) (hE : va_D (AW E) (wd E (fun _ _ => 0))) (s : Hp) (i : Nat) (hi : i < 4) : CtrI E yJ0_isLatin1_aae02 cJ0_isLatin1_aae02 1 (some .boolean) 0 0 [rf E (137 + i)] s (1, s) := by
  refine ctrI_of (by decide +kernel) hE (Nat.le_of_ble_eq_true rfl) rfl (fun G hX hR hG => ?_)
  subst hG
  show T G (some (1, s)) s 0 [(0, rf G.1 (137 + i))] []
  refine tr_cmp hX dJ0_isLatin1_aae02_0 ?_
  refine tneg (xa := none) (by decide) (tr_if_eq hX 17 dJ0_isLatin1_aae02_3 (by decide) T_none ?_)
  refine tr_aload_n hX 0 dJ0_isLatin1_aae02_6 rfl rfl ?_
  refine tr_scod hX hi dJ0_isLatin1_aae02_7 ?_
  refine tpos (xb := none) (by decide) (tr_if_ne hX 17 dJ0_isLatin1_aae02_10 (by decide) T_none ?_)
  refine tr_iconst (v := 1) hX dJ0_isLatin1_aae02_13 rfl ?_
  refine tr_goto hX 18 dJ0_isLatin1_aae02_14 (by decide) ?_
  exact tr_nret hX hR rfl dJ0_isLatin1_aae02_18
theorem c_cod (E : Ex) (hE : va_D (AW E) (wd E (fun _ _ => 0))) (s : Hp) (i : Nat) (hi : i < 4) : CtrI E yJ0_coder_7d493 cJ0_coder_7d493 1 (some .byte) 0 0 [rf E (137 + i)] s (0, s) := by
  refine ctrI_of (by decide +kernel) hE (Nat.le_of_ble_eq_true rfl) rfl (fun G hX hR hG => ?_)
  subst hG
  show T G (some (0, s)) s 0 [(0, rf G.1 (137 + i))] []
  refine tr_cmp hX dJ0_coder_7d493_0 ?_
  refine tneg (xa := none) (by decide) (tr_if_eq hX 13 dJ0_coder_7d493_3 (by decide) T_none ?_)
  refine tr_aload_n hX 0 dJ0_coder_7d493_6 rfl rfl ?_
  refine tr_scod hX hi dJ0_coder_7d493_7 ?_
  refine tr_goto hX 14 dJ0_coder_7d493_10 (by decide) ?_
  exact tr_nret hX hR rfl dJ0_coder_7d493_14
theorem sLen_shr : ∀ i, i < 4 → (Int32.ofNat (sLen.getD i 0)) >>> ((0 : Int32) &&& 31) = Int32.ofNat (sLen.getD i 0) := by decide +kernel
theorem c_len (E : Ex) (hE : va_D (AW E) (wd E (fun _ _ => 0))) (s : Hp) (i : Nat) (hi : i < 4) : CtrI E yJ0_length_8abf5 cJ0_length_8abf5 1 (some .int) 1 20 [rf E (137 + i)] s (Int32.ofNat (sLen.getD i 0), s) := by
  refine ctrI_of (by decide +kernel) hE (Nat.le_of_ble_eq_true rfl) rfl (fun G hX hR hG => ?_)
  subst hG
  show T G (some (Int32.ofNat (sLen.getD i 0), s)) s 0 [(0, rf G.1 (137 + i))] []
  refine tr_aload_n hX 0 dJ0_length_8abf5_0 rfl rfl ?_
  refine tr_sval hX hi dJ0_length_8abf5_1 ?_
  refine tr_blen hX hi rfl dJ0_length_8abf5_4 ?_
  refine tr_aload_n hX 0 dJ0_length_8abf5_5 rfl rfl ?_
  refine tr_callVs hX i hi [] rfl kv_J0_coder_7d493 wk_J0_335 (by decide) rfl rfl (Nat.le_of_ble_eq_true rfl) dJ0_length_8abf5_6 (c_cod G.1 hE s i hi) ?_
  refine tr_ishr hX dJ0_length_8abf5_9 ?_
  rw [sLen_shr i hi]
  exact tr_iret hX hR dJ0_length_8abf5_10
theorem c_chr (E : Ex) (hE : va_D (AW E) (wd E (fun _ _ => 0))) (s : Hp) (i : Nat) (hi : i < 4) (j : Int32) (hj : inR j (sLen.getD i 0) = true) : CtrI E yJ0_charAt_5068e cJ0_charAt_5068e 2 (some .char) 3 64 [rf E (137 + i), .int j] s (sAt i (ix j), s) := by
  refine ctrI_of (by decide +kernel) hE (Nat.le_of_ble_eq_true rfl) rfl (fun G hX hR hG => ?_)
  subst hG
  show T G (some (sAt i (ix j), s)) s 0 [(0, rf G.1 (137 + i)), (1, .int j)] []
  have hj4 : ix j < 4 := Nat.lt_of_lt_of_le (ix_lt hj) (sLen_lt hi)
  refine tr_aload_n hX 0 dJ0_charAt_5068e_0 rfl rfl ?_
  refine tr_callVs hX i hi [] rfl kv_J0_isLatin1_aae02 wk_J0_492 (by decide) rfl rfl (Nat.le_of_ble_eq_true rfl) dJ0_charAt_5068e_1 (c_isL G.1 hE s i hi) ?_
  refine tneg (xa := none) (by decide) (tr_if_eq hX 16 dJ0_charAt_5068e_4 (by decide) T_none ?_)
  refine tr_aload_n hX 0 dJ0_charAt_5068e_7 rfl rfl ?_
  refine tr_sval hX hi dJ0_charAt_5068e_8 ?_
  refine tr_iload_n hX 1 dJ0_charAt_5068e_11 rfl rfl ?_
  refine tr_callSs hX [rf G.1 (141 + i), .int j] ks_J1_charAt_3b067 wk_J0_495 (by decide) rfl rfl (Nat.le_of_ble_eq_true rfl) dJ0_charAt_5068e_12 (c_lat G.1 hE s i hi j hj) ?_
  exact tr_nret hX hR (sAt_nar i hi (ix j) hj4) dJ0_charAt_5068e_15
section TS2
variable {G : Gx} {x : Option (Int32 × Hp)} {s : Hp} {pc : Nat} {lv : List (Nat × Value)} {st : List Value} {cc : ByteArray} {nL : Nat} {own : String} {ret : Option FieldType} {fr lo k n : Nat}
theorem tr_slen (hX : ok G cc nL own ret fr lo) (i : Nat) (hi : i < 4) {v : Int32} (hv : Int32.ofNat (sLen.getD i 0) = v) (hm : calV yJ0_length_8abf5 cJ0_length_8abf5 1 (some .int) n) (hw : Cond.methodLink own k yJ0_length_8abf5 ∈ gw) (hR : 4 ≤ fr ∧ 120 ≤ lo) (hrm : (st.map fun v => v.category).sum ≤ 8) (hd : decode cc pc = .ok (.invokevirtual k, 3)) (k0 : T G x s (pc + 3) lv (.int v :: st)) : T G x s pc lv (rf G.1 (137 + i) :: st) := by
  subst hv
  have hn : 0 = n := by have h2 := hm.2.2.2.2.2.2; exact Option.some.inj ((show (parseMethodDescriptor yJ0_length_8abf5.desc).map (fun d => d.parameters.length) = some 0 by decide +kernel).symm.trans h2)
  exact tr_callVs hX i hi [] rfl hm hw ⟨by omega, by omega⟩ hn rfl hrm hd (c_len G.1 (okE hX) s i hi) k0
theorem tr_sat (hX : ok G cc nL own ret fr lo) (i : Nat) (hi : i < 4) {m : Nat} {j : Int32} (hv : sLen.getD i 0 = m) (hm : calV yJ0_charAt_5068e cJ0_charAt_5068e 2 (some .char) n) (hw : Cond.methodLink own k yJ0_charAt_5068e ∈ gw) (hR : 4 ≤ fr ∧ 120 ≤ lo) (hrm : (st.map fun v => v.category).sum ≤ 8) (hd : decode cc pc = .ok (.invokevirtual k, 3)) (k0 : T G x s (pc + 3) lv (.int (sAt i (ix j)) :: st)) : T G (ck (inR j m) x) s pc lv (.int j :: rf G.1 (137 + i) :: st) := by
  subst hv
  intro hx
  have hn : 1 = n := by have h2 := hm.2.2.2.2.2.2; exact Option.some.inj ((show (parseMethodDescriptor yJ0_charAt_5068e.desc).map (fun d => d.parameters.length) = some 1 by decide +kernel).symm.trans h2)
  exact tr_callVs hX i hi [.int j] rfl hm hw ⟨by omega, by omega⟩ hn rfl hrm hd (c_chr G.1 (okE hX) s i hi j (ck_some hx).1) k0 (ck_some hx).2
theorem tr_ldcS137 (hX : ok G cc nL RX5 ret fr lo) (hd : decode cc pc = .ok (.ldc 57, 2)) (k0 : T G x s (pc + 2) lv (rf G.1 137 :: st)) : T G x s pc lv st := by
  obtain ⟨E, ⟨p, e, R, s0, m, args, below, meth, cde, A, cells, slots⟩, nL0, Q, r⟩ := G
  obtain ⟨hexec, hb, hml, rfl, hown, hts, hK, hD, hr, hlocks, ⟨hfr, hlo, hc, hs⟩, hst⟩ := hX
  exact fun hx H locs ls hP hS hl => va_ldcS hexec hb hown hst.2.2.2.1 hd (k0 hx H locs ls hP hS hl)
theorem tr_ldcS138 (hX : ok G cc nL RX5 ret fr lo) (hd : decode cc pc = .ok (.ldc 63, 2)) (k0 : T G x s (pc + 2) lv (rf G.1 138 :: st)) : T G x s pc lv st := by
  obtain ⟨E, ⟨p, e, R, s0, m, args, below, meth, cde, A, cells, slots⟩, nL0, Q, r⟩ := G
  obtain ⟨hexec, hb, hml, rfl, hown, hts, hK, hD, hr, hlocks, ⟨hfr, hlo, hc, hs⟩, hst⟩ := hX
  exact fun hx H locs ls hP hS hl => va_ldcS hexec hb hown hst.2.2.2.2.1 hd (k0 hx H locs ls hP hS hl)
theorem tr_ldcS139 (hX : ok G cc nL RX5 ret fr lo) (hd : decode cc pc = .ok (.ldc 65, 2)) (k0 : T G x s (pc + 2) lv (rf G.1 139 :: st)) : T G x s pc lv st := by
  obtain ⟨E, ⟨p, e, R, s0, m, args, below, meth, cde, A, cells, slots⟩, nL0, Q, r⟩ := G
  obtain ⟨hexec, hb, hml, rfl, hown, hts, hK, hD, hr, hlocks, ⟨hfr, hlo, hc, hs⟩, hst⟩ := hX
  exact fun hx H locs ls hP hS hl => va_ldcS hexec hb hown hst.2.2.2.2.2.1 hd (k0 hx H locs ls hP hS hl)
theorem tr_ldcS140 (hX : ok G cc nL RX5 ret fr lo) (hd : decode cc pc = .ok (.ldc 67, 2)) (k0 : T G x s (pc + 2) lv (rf G.1 140 :: st)) : T G x s pc lv st := by
  obtain ⟨E, ⟨p, e, R, s0, m, args, below, meth, cde, A, cells, slots⟩, nL0, Q, r⟩ := G
  obtain ⟨hexec, hb, hml, rfl, hown, hts, hK, hD, hr, hlocks, ⟨hfr, hlo, hc, hs⟩, hst⟩ := hX
  exact fun hx H locs ls hP hS hl => va_ldcS hexec hb hown hst.2.2.2.2.2.2.1 hd (k0 hx H locs ls hP hS hl)
end TS2
theorem tr_getsN {G : Gx} {x : Option (Int32 × Hp)} {s : Hp} {pc : Nat} {lv : List (Nat × Value)} {st : List Value} {cc : ByteArray} {nL : Nat} {own : String} {ret : Option FieldType} {fr lo : Nat} {h : String} (hX : ok G cc nL own ret fr lo) {i : Nat} (hw : Cond.fieldLinkNest own i "AirWatch" "GREATEST" "[I" h ∈ lw_tbl) (hd : decode cc pc = .ok (.getstatic i, 3)) (k0 : T G x s (pc + 3) lv (rf G.1 136 :: st)) : T G x s pc lv st := by
  obtain ⟨E, ⟨p, e, R, s0, m, args, below, meth, cde, A, cells, slots⟩, nL0, Q, r⟩ := G
  obtain ⟨hexec, hb, hml, rfl, hown, hts, hK, hD, hr, hlocks, ⟨hfr, hlo, hc, hs⟩, hst⟩ := hX
  exact fun hx H locs ls hP hS hl => va_getsN hexec hb hst.2.1 hS hown (va_Nw.use (A := args) rfl (hst.1 _ _ _ _ _ _ hw)) (fun _ h => h) hd (k0 hx H locs ls hP hS hl)
