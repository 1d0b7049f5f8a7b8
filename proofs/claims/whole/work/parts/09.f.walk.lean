set_option maxRecDepth 20000 in
set_option maxHeartbeats 2000000 in
theorem w_X3_lay_17 {G : Gx} (hX : ok G cX3_lay 5 RX3 none 1 21) (hR : okV G) (hE : va_D (AW G.1) (wd G.1 (fun _ _ => 0))) (N : Nat) (k17 : Hp → Int32 → Int32 → Int32 → Option (Int32 × Hp)) (hk17 : ∀ (s : Hp) (x1 x3 x4 : Int32), T G (k17 s x1 x3 x4) s 17 [(0, rf G.1 30), (1, .int x1), (3, .int x3), (4, .int x4)] []) (s : Hp) (x1 x3 x4 : Int32) : T G (f_X3_lay_17 N k17 s x1 x3 x4) s 17 [(0, rf G.1 30), (1, .int x1), (3, .int x3), (4, .int x4)] [] := by
  unfold f_X3_lay_17
  refine tr_iload hX 3 dX3_lay_17 rfl ?_
  refine tr_aload_n hX 0 dX3_lay_19 rfl rfl ?_
  refine tr_getI hX 30 5 (by decide) rfl rfl rfl (by decide) gX3 wm_267 dX3_lay_20 ?_
  refine tr_icmp_ge hX 45 dX3_lay_23 (by decide) ?_ ?_
  · exact tr_vret hX hR dX3_lay_45
  · refine tr_aload_n hX 0 dX3_lay_26 rfl rfl ?_
    refine tr_getR hX 30 0 (by decide) rfl rfl rfl (by decide) gX3 wm_261 dX3_lay_27 ?_
    refine tr_iload hX 3 dX3_lay_30 rfl ?_
    refine tr_iload_n hX 1 dX3_lay_32 rfl rfl ?_
    refine tr_iload hX 3 dX3_lay_33 rfl ?_
    refine tr_iload_n hX 2 dX3_lay_35 rfl rfl ?_
    refine tr_imul hX dX3_lay_36 ?_
    refine tr_iadd hX dX3_lay_37 ?_
    refine tr_iast hX 31 (by decide) rfl dX3_lay_38 fun s3 => ?_
    refine tr_iincB (b := 1) (lv2 := fun y4 => [(4, .int y4), (0, rf G.1 30), (1, .int x1), (3, .int x3)]) hX 3 dX3_lay_39 rfl rfl (by decide) (fun _ => rfl) fun y4 => ?_
    refine tr_goto hX 17 dX3_lay_42 (by decide) ?_
    refine tr_lv (lv2 := [(0, rf G.1 30), (1, .int x1), (3, .int x3), (4, .int y4)]) [1, 2, 3, 0] rfl ?_
    exact hk17 s3 x1 x3 y4
theorem wl_X3_lay_17 {G : Gx} (hX : ok G cX3_lay 5 RX3 none 1 21) (hR : okV G) (hE : va_D (AW G.1) (wd G.1 (fun _ _ => 0))) (N : Nat) : ∀ (n : Nat) (s : Hp) (x1 x3 x4 : Int32), T G (lp (fun _ _ _ _ => none) (f_X3_lay_17 N) n s x1 x3 x4) s 17 [(0, rf G.1 30), (1, .int x1), (3, .int x3), (4, .int x4)] [] := by
  intro n
  induction n with
  | zero => exact fun s x1 x3 x4 h => nomatch (show (none : Option (Int32 × Hp)) = some _ from h)
  | succ n ih => exact fun s x1 x3 x4 => w_X3_lay_17 hX hR hE N _ ih s x1 x3 x4
set_option maxRecDepth 20000 in
set_option maxHeartbeats 2000000 in
theorem w_X3_lay {G : Gx} (hX : ok G cX3_lay 5 RX3 none 1 21) (hR : okV G) (hE : va_D (AW G.1) (wd G.1 (fun _ _ => 0))) (N : Nat) (s : Hp) (x1 x2 x3 : Int32) : T G (f_X3_lay N s x1 x2 x3) s 0 [(0, rf G.1 30), (1, .int x1), (2, .int x2), (3, .int x3)] [] := by
  unfold f_X3_lay
  refine tr_aload_n hX 0 dX3_lay_0 rfl rfl ?_
  refine tr_iload_n hX 2 dX3_lay_1 rfl rfl ?_
  refine tr_iconst (v := 4) hX dX3_lay_2 rfl ?_
  refine tr_min hX wm_652 wm_375 wm_4 wm_376 (by decide) (Nat.le_of_ble_eq_true rfl) dX3_lay_3 ?_
  refine tr_putI hX 30 5 tyX3 tyX3_ok nmX3 (by decide) rfl rfl rfl (by decide) gX3 wm_267 rfl (by decide +kernel) dX3_lay_6 fun s1 => ?_
  refine tr_aload_n hX 0 dX3_lay_9 rfl rfl ?_
  refine tr_iload_n hX 3 dX3_lay_10 rfl rfl ?_
  refine tr_putI hX 30 6 tyX3 tyX3_ok nmX3 (by decide) rfl rfl rfl (by decide) gX3 wm_269 rfl (by decide +kernel) dX3_lay_11 fun s2 => ?_
  refine tr_iconst (v := 0) hX dX3_lay_14 rfl ?_
  refine tr_istore (lv2 := [(4, .int 0), (0, rf G.1 30), (1, .int x1), (2, .int x2), (3, .int x3)]) hX dX3_lay_15 (by decide) rfl ?_
  refine tr_lv (lv2 := [(0, rf G.1 30), (1, .int x1), (3, .int x3), (4, .int 0)]) [1, 2, 4, 0] rfl ?_
  exact wl_X3_lay_17 hX hR hE N N s2 x1 x3 0
theorem c_X3_lay (E : Ex) (hE : va_D (AW E) (wd E (fun _ _ => 0))) (N : Nat) (s : Hp) (x1 x2 x3 : Int32) (r : Int32 × Hp) (h : f_X3_lay N s x1 x2 x3 = some r) : CtrV E yX3_lay cX3_lay 5 none 1 21 [rf E 30, .int x1, .int x2, .int x3] s r :=
  ctrV_of (by decide +kernel) hE (Nat.le_of_ble_eq_true rfl) h (fun G hX hR hG => by subst hG; exact w_X3_lay hX hR hE N s x1 x2 x3)
set_option maxRecDepth 20000 in
set_option maxHeartbeats 2000000 in
theorem w_X7_latestAhead_54 {G : Gx} (hX : ok G cX7_latestAhead 5 RX7 (some .int) 1 21) (hR : okR G) (hE : va_D (AW G.1) (wd G.1 (fun _ _ => 0))) (N : Nat) (k5 : Hp → Int32 → Int32 → Int32 → Int32 → Option (Int32 × Hp)) (hk5 : ∀ (s : Hp) (x1 x2 x3 x4 : Int32), T G (k5 s x1 x2 x3 x4) s 5 [(0, rf G.1 4), (1, .int x1), (2, .int x2), (3, .int x3), (4, .int x4)] []) (s : Hp) (x1 x2 x3 x4 : Int32) : T G (f_X7_latestAhead_54 N k5 s x1 x2 x3 x4) s 54 [(0, rf G.1 4), (1, .int x1), (2, .int x2), (3, .int x3), (4, .int x4)] [] := by
  unfold f_X7_latestAhead_54
  refine tr_iincB (b := 1) (lv2 := fun y2 => [(4, .int y2), (0, rf G.1 4), (1, .int x1), (2, .int x2), (3, .int x3)]) hX 4 dX7_latestAhead_54 rfl rfl (by decide) (fun _ => rfl) fun y2 => ?_
  refine tr_goto hX 5 dX7_latestAhead_57 (by decide) ?_
  refine tr_lv (lv2 := [(0, rf G.1 4), (1, .int x1), (2, .int x2), (3, .int x3), (4, .int y2)]) [1, 2, 3, 4, 0] rfl ?_
  exact hk5 s x1 x2 x3 y2
set_option maxRecDepth 20000 in
set_option maxHeartbeats 2000000 in
theorem w_X7_latestAhead_5 {G : Gx} (hX : ok G cX7_latestAhead 5 RX7 (some .int) 1 21) (hR : okR G) (hE : va_D (AW G.1) (wd G.1 (fun _ _ => 0))) (N : Nat) (k5 : Hp → Int32 → Int32 → Int32 → Int32 → Option (Int32 × Hp)) (hk5 : ∀ (s : Hp) (x1 x2 x3 x4 : Int32), T G (k5 s x1 x2 x3 x4) s 5 [(0, rf G.1 4), (1, .int x1), (2, .int x2), (3, .int x3), (4, .int x4)] []) (s : Hp) (x1 x2 x3 x4 : Int32) : T G (f_X7_latestAhead_5 N k5 s x1 x2 x3 x4) s 5 [(0, rf G.1 4), (1, .int x1), (2, .int x2), (3, .int x3), (4, .int x4)] [] := by
  unfold f_X7_latestAhead_5
  refine tr_iload hX 4 dX7_latestAhead_5 rfl ?_
  refine tr_aload_n hX 0 dX7_latestAhead_7 rfl rfl ?_
  refine tr_getI hX 4 4 (by decide) rfl rfl rfl (by decide) gX7 wm_69 dX7_latestAhead_8 ?_
  refine tr_icmp_ge hX 60 dX7_latestAhead_11 (by decide) ?_ ?_
  · refine tr_iload_n hX 3 dX7_latestAhead_60 rfl rfl ?_
    exact tr_iret hX hR dX7_latestAhead_61
  · refine tr_aload_n hX 0 dX7_latestAhead_14 rfl rfl ?_
    refine tr_getR hX 4 1 (by decide) rfl rfl rfl (by decide) gX7 wm_58 dX7_latestAhead_15 ?_
    refine tr_iload hX 4 dX7_latestAhead_18 rfl ?_
    refine tr_iald hX 6 (by decide) rfl dX7_latestAhead_20 ?_
    refine tr_iload_n hX 1 dX7_latestAhead_21 rfl rfl ?_
    refine tr_icmp_ne hX 54 dX7_latestAhead_22 (by decide) ?_ ?_
    · exact w_X7_latestAhead_54 hX hR hE N k5 hk5 s x1 x2 x3 x4
    · refine tr_aload_n hX 0 dX7_latestAhead_25 rfl rfl ?_
      refine tr_getR hX 4 2 (by decide) rfl rfl rfl (by decide) gX7 wm_61 dX7_latestAhead_26 ?_
      refine tr_iload hX 4 dX7_latestAhead_29 rfl ?_
      refine tr_iald hX 7 (by decide) rfl dX7_latestAhead_31 ?_
      refine tr_iload_n hX 2 dX7_latestAhead_32 rfl rfl ?_
      refine tr_icmp_ge hX 54 dX7_latestAhead_33 (by decide) ?_ ?_
      · exact w_X7_latestAhead_54 hX hR hE N k5 hk5 s x1 x2 x3 x4
      · refine tr_iload_n hX 3 dX7_latestAhead_36 rfl rfl ?_
        refine tr_aload_n hX 0 dX7_latestAhead_37 rfl rfl ?_
        refine tr_getR hX 4 3 (by decide) rfl rfl rfl (by decide) gX7 wm_65 dX7_latestAhead_38 ?_
        refine tr_iload hX 4 dX7_latestAhead_41 rfl ?_
        refine tr_iald hX 8 (by decide) rfl dX7_latestAhead_43 ?_
        refine tr_iload_n hX 2 dX7_latestAhead_44 rfl rfl ?_
        refine tr_iconst (v := 1) hX dX7_latestAhead_45 rfl ?_
        refine tr_isub hX dX7_latestAhead_46 ?_
        refine tr_min hX wm_466 wm_375 wm_4 wm_376 (by decide) (Nat.le_of_ble_eq_true rfl) dX7_latestAhead_47 ?_
        refine tr_max hX wm_52 wm_53 wm_4 wm_54 (by decide) (Nat.le_of_ble_eq_true rfl) dX7_latestAhead_50 ?_
        refine tr_istore_nB (lv2 := fun y1 => [(3, .int y1), (0, rf G.1 4), (1, .int x1), (2, .int x2), (4, .int x4)]) hX dX7_latestAhead_53 rfl (by decide) (fun _ => rfl) fun y1 => ?_
        refine tr_lv (lv2 := [(0, rf G.1 4), (1, .int x1), (2, .int x2), (3, .int y1), (4, .int x4)]) [1, 2, 3, 0, 4] rfl ?_
        exact w_X7_latestAhead_54 hX hR hE N k5 hk5 s x1 x2 y1 x4
theorem wl_X7_latestAhead_5 {G : Gx} (hX : ok G cX7_latestAhead 5 RX7 (some .int) 1 21) (hR : okR G) (hE : va_D (AW G.1) (wd G.1 (fun _ _ => 0))) (N : Nat) : ∀ (n : Nat) (s : Hp) (x1 x2 x3 x4 : Int32), T G (lp (fun _ _ _ _ _ => none) (f_X7_latestAhead_5 N) n s x1 x2 x3 x4) s 5 [(0, rf G.1 4), (1, .int x1), (2, .int x2), (3, .int x3), (4, .int x4)] [] := by
  intro n
  induction n with
  | zero => exact fun s x1 x2 x3 x4 h => nomatch (show (none : Option (Int32 × Hp)) = some _ from h)
  | succ n ih => exact fun s x1 x2 x3 x4 => w_X7_latestAhead_5 hX hR hE N _ ih s x1 x2 x3 x4
set_option maxRecDepth 20000 in
set_option maxHeartbeats 2000000 in
theorem w_X7_latestAhead {G : Gx} (hX : ok G cX7_latestAhead 5 RX7 (some .int) 1 21) (hR : okR G) (hE : va_D (AW G.1) (wd G.1 (fun _ _ => 0))) (N : Nat) (s : Hp) (x1 x2 : Int32) : T G (f_X7_latestAhead N s x1 x2) s 0 [(0, rf G.1 4), (1, .int x1), (2, .int x2)] [] := by
  unfold f_X7_latestAhead
  refine tr_iconst (v := (-1)) hX dX7_latestAhead_0 rfl ?_
  refine tr_istore_n (lv2 := [(3, .int (-1)), (0, rf G.1 4), (1, .int x1), (2, .int x2)]) hX dX7_latestAhead_1 rfl (by decide) rfl ?_
  refine tr_iconst (v := 0) hX dX7_latestAhead_2 rfl ?_
  refine tr_istore (lv2 := [(4, .int 0), (3, .int (-1)), (0, rf G.1 4), (1, .int x1), (2, .int x2)]) hX dX7_latestAhead_3 (by decide) rfl ?_
  refine tr_lv (lv2 := [(0, rf G.1 4), (1, .int x1), (2, .int x2), (3, .int (-1)), (4, .int 0)]) [2, 3, 4, 1, 0] rfl ?_
  exact wl_X7_latestAhead_5 hX hR hE N N s x1 x2 (-1) 0
theorem c_X7_latestAhead (E : Ex) (hE : va_D (AW E) (wd E (fun _ _ => 0))) (N : Nat) (s : Hp) (x1 x2 : Int32) (r : Int32 × Hp) (h : f_X7_latestAhead N s x1 x2 = some r) : CtrI E yX7_latestAhead cX7_latestAhead 5 (some .int) 1 21 [rf E 4, .int x1, .int x2] s r :=
  ctrI_of (by decide +kernel) hE (Nat.le_of_ble_eq_true rfl) h (fun G hX hR hG => by subst hG; exact w_X7_latestAhead hX hR hE N s x1 x2)
set_option maxRecDepth 20000 in
set_option maxHeartbeats 2000000 in
theorem w_X3_isOneOfOldest_83 {G : Gx} (hX : ok G cX3_isOneOfOldest 7 RX3 (some .boolean) 0 0) (hR : okR G) (hE : va_D (AW G.1) (wd G.1 (fun _ _ => 0))) (N : Nat) (k6 : Hp → Int32 → Int32 → Int32 → Int32 → Int32 → Option (Int32 × Hp)) (hk6 : ∀ (s : Hp) (x1 x2 x3 x4 x5 : Int32), T G (k6 s x1 x2 x3 x4 x5) s 6 [(0, rf G.1 30), (1, .int x1), (2, .int x2), (3, .int x3), (4, .int x4), (5, .int x5)] []) (s : Hp) (x1 x2 x3 x4 x5 : Int32) : T G (f_X3_isOneOfOldest_83 N k6 s x1 x2 x3 x4 x5) s 83 [(0, rf G.1 30), (1, .int x1), (2, .int x2), (3, .int x3), (4, .int x4), (5, .int x5)] [] := by
  unfold f_X3_isOneOfOldest_83
  refine tr_iincB (b := 1) (lv2 := fun y6 => [(5, .int y6), (0, rf G.1 30), (1, .int x1), (2, .int x2), (3, .int x3), (4, .int x4)]) hX 5 dX3_isOneOfOldest_83 rfl rfl (by decide) (fun _ => rfl) fun y6 => ?_
  refine tr_goto hX 6 dX3_isOneOfOldest_86 (by decide) ?_
  refine tr_lv (lv2 := [(0, rf G.1 30), (1, .int x1), (2, .int x2), (3, .int x3), (4, .int x4), (5, .int y6)]) [1, 2, 3, 4, 5, 0] rfl ?_
  exact hk6 s x1 x2 x3 x4 y6
set_option maxRecDepth 20000 in
set_option maxHeartbeats 2000000 in
theorem w_X3_isOneOfOldest_64 {G : Gx} (hX : ok G cX3_isOneOfOldest 7 RX3 (some .boolean) 0 0) (hR : okR G) (hE : va_D (AW G.1) (wd G.1 (fun _ _ => 0))) (N : Nat) (k6 : Hp → Int32 → Int32 → Int32 → Int32 → Int32 → Option (Int32 × Hp)) (hk6 : ∀ (s : Hp) (x1 x2 x3 x4 x5 : Int32), T G (k6 s x1 x2 x3 x4 x5) s 6 [(0, rf G.1 30), (1, .int x1), (2, .int x2), (3, .int x3), (4, .int x4), (5, .int x5)] []) (s : Hp) (x1 x2 x3 x4 x5 t0 : Int32) : T G (f_X3_isOneOfOldest_64 N k6 s x1 x2 x3 x4 x5 t0) s 64 [(0, rf G.1 30), (1, .int x1), (2, .int x2), (3, .int x3), (4, .int x4), (5, .int x5)] [.int t0] := by
  unfold f_X3_isOneOfOldest_64
  refine tr_istore (lv2 := [(6, .int t0), (0, rf G.1 30), (1, .int x1), (2, .int x2), (3, .int x3), (4, .int x4), (5, .int x5)]) hX dX3_isOneOfOldest_64 (by decide) rfl ?_
  refine tr_iload hX 0 dX3_isOneOfOldest_66 rfl ?_
  refine tr_if_eq hX 83 dX3_isOneOfOldest_68 (by decide) ?_ ?_
  · refine tr_lv (lv2 := [(0, rf G.1 30), (1, .int x1), (2, .int x2), (3, .int x3), (4, .int x4), (5, .int x5)]) [1, 2, 3, 4, 5, 6] rfl ?_
    exact w_X3_isOneOfOldest_83 hX hR hE N k6 hk6 s x1 x2 x3 x4 x5
  · refine tr_iload_n hX 4 dX3_isOneOfOldest_71 rfl rfl ?_
    refine tr_iload hX 6 dX3_isOneOfOldest_72 rfl ?_
    refine tr_ishr hX dX3_isOneOfOldest_74 ?_
    refine tr_iconst (v := 1) hX dX3_isOneOfOldest_75 rfl ?_
    refine tr_iand hX dX3_isOneOfOldest_76 ?_
    refine tr_if_eq hX 83 dX3_isOneOfOldest_77 (by decide) ?_ ?_
    · refine tr_lv (lv2 := [(0, rf G.1 30), (1, .int x1), (2, .int x2), (3, .int x3), (4, .int x4), (5, .int x5)]) [1, 2, 3, 4, 5, 6] rfl ?_
      exact w_X3_isOneOfOldest_83 hX hR hE N k6 hk6 s x1 x2 x3 x4 x5
    · refine tr_iincB (b := 1) (lv2 := fun y5 => [(4, .int y5), (6, .int t0), (0, rf G.1 30), (1, .int x1), (2, .int x2), (3, .int x3), (5, .int x5)]) hX 5 dX3_isOneOfOldest_80 rfl rfl (by decide) (fun _ => rfl) fun y5 => ?_
      refine tr_lv (lv2 := [(0, rf G.1 30), (1, .int x1), (2, .int x2), (3, .int x3), (4, .int y5), (5, .int x5)]) [2, 3, 4, 5, 0, 6] rfl ?_
      exact w_X3_isOneOfOldest_83 hX hR hE N k6 hk6 s x1 x2 x3 y5 x5
set_option maxRecDepth 20000 in
set_option maxHeartbeats 2000000 in
theorem w_X3_isOneOfOldest_59 {G : Gx} (hX : ok G cX3_isOneOfOldest 7 RX3 (some .boolean) 0 0) (hR : okR G) (hE : va_D (AW G.1) (wd G.1 (fun _ _ => 0))) (N : Nat) (k6 : Hp → Int32 → Int32 → Int32 → Int32 → Int32 → Option (Int32 × Hp)) (hk6 : ∀ (s : Hp) (x1 x2 x3 x4 x5 : Int32), T G (k6 s x1 x2 x3 x4 x5) s 6 [(0, rf G.1 30), (1, .int x1), (2, .int x2), (3, .int x3), (4, .int x4), (5, .int x5)] []) (s : Hp) (x1 x2 x3 x4 x5 : Int32) : T G (f_X3_isOneOfOldest_59 N k6 s x1 x2 x3 x4 x5) s 59 [(0, rf G.1 30), (1, .int x1), (2, .int x2), (3, .int x3), (4, .int x4), (5, .int x5)] [] := by
  unfold f_X3_isOneOfOldest_59
  refine tr_iconst (v := 1) hX dX3_isOneOfOldest_59 rfl ?_
  refine tr_goto hX 64 dX3_isOneOfOldest_60 (by decide) ?_
  exact w_X3_isOneOfOldest_64 hX hR hE N k6 hk6 s x1 x2 x3 x4 x5 1
set_option maxRecDepth 20000 in
set_option maxHeartbeats 2000000 in
theorem w_X3_isOneOfOldest_63 {G : Gx} (hX : ok G cX3_isOneOfOldest 7 RX3 (some .boolean) 0 0) (hR : okR G) (hE : va_D (AW G.1) (wd G.1 (fun _ _ => 0))) (N : Nat) (k6 : Hp → Int32 → Int32 → Int32 → Int32 → Int32 → Option (Int32 × Hp)) (hk6 : ∀ (s : Hp) (x1 x2 x3 x4 x5 : Int32), T G (k6 s x1 x2 x3 x4 x5) s 6 [(0, rf G.1 30), (1, .int x1), (2, .int x2), (3, .int x3), (4, .int x4), (5, .int x5)] []) (s : Hp) (x1 x2 x3 x4 x5 : Int32) : T G (f_X3_isOneOfOldest_63 N k6 s x1 x2 x3 x4 x5) s 63 [(0, rf G.1 30), (1, .int x1), (2, .int x2), (3, .int x3), (4, .int x4), (5, .int x5)] [] := by
  unfold f_X3_isOneOfOldest_63
  refine tr_iconst (v := 0) hX dX3_isOneOfOldest_63 rfl ?_
  exact w_X3_isOneOfOldest_64 hX hR hE N k6 hk6 s x1 x2 x3 x4 x5 0
set_option maxRecDepth 20000 in
set_option maxHeartbeats 2000000 in
theorem w_X3_isOneOfOldest_6 {G : Gx} (hX : ok G cX3_isOneOfOldest 7 RX3 (some .boolean) 0 0) (hR : okR G) (hE : va_D (AW G.1) (wd G.1 (fun _ _ => 0))) (N : Nat) (k6 : Hp → Int32 → Int32 → Int32 → Int32 → Int32 → Option (Int32 × Hp)) (hk6 : ∀ (s : Hp) (x1 x2 x3 x4 x5 : Int32), T G (k6 s x1 x2 x3 x4 x5) s 6 [(0, rf G.1 30), (1, .int x1), (2, .int x2), (3, .int x3), (4, .int x4), (5, .int x5)] []) (s : Hp) (x1 x2 x3 x4 x5 : Int32) : T G (f_X3_isOneOfOldest_6 N k6 s x1 x2 x3 x4 x5) s 6 [(0, rf G.1 30), (1, .int x1), (2, .int x2), (3, .int x3), (4, .int x4), (5, .int x5)] [] := by
  unfold f_X3_isOneOfOldest_6
  refine tr_iload hX 5 dX3_isOneOfOldest_6 rfl ?_
  refine tr_bipush (v := 16) hX dX3_isOneOfOldest_8 rfl ?_
  refine tr_icmp_ge hX 89 dX3_isOneOfOldest_10 (by decide) ?_ ?_
  · refine tr_iload_n hX 3 dX3_isOneOfOldest_89 rfl rfl ?_
    refine tr_iload_n hX 2 dX3_isOneOfOldest_90 rfl rfl ?_
    refine tr_ishr hX dX3_isOneOfOldest_91 ?_
    refine tr_iconst (v := 1) hX dX3_isOneOfOldest_92 rfl ?_
    refine tr_iand hX dX3_isOneOfOldest_93 ?_
    refine tr_if_eq hX 110 dX3_isOneOfOldest_94 (by decide) ?_ ?_
    · refine tr_iconst (v := 0) hX dX3_isOneOfOldest_110 rfl ?_
      exact tr_zret hX hR rfl dX3_isOneOfOldest_111
    · refine tr_iload hX 4 dX3_isOneOfOldest_97 rfl ?_
      refine tr_aload_n hX 0 dX3_isOneOfOldest_99 rfl rfl ?_
      refine tr_getI hX 30 5 (by decide) rfl rfl rfl (by decide) gX3 wm_267 dX3_isOneOfOldest_100 ?_
      refine tr_icmp_ge hX 110 dX3_isOneOfOldest_103 (by decide) ?_ ?_
      · refine tr_iconst (v := 0) hX dX3_isOneOfOldest_110 rfl ?_
        exact tr_zret hX hR rfl dX3_isOneOfOldest_111
      · refine tr_iconst (v := 1) hX dX3_isOneOfOldest_106 rfl ?_
        refine tr_goto hX 111 dX3_isOneOfOldest_107 (by decide) ?_
        exact tr_zret hX hR rfl dX3_isOneOfOldest_111
  · refine tr_aload_n hX 0 dX3_isOneOfOldest_13 rfl rfl ?_
    refine tr_getR hX 30 1 (by decide) rfl rfl rfl (by decide) gX3 wm_262 dX3_isOneOfOldest_14 ?_
    refine tr_iload_n hX 1 dX3_isOneOfOldest_17 rfl rfl ?_
    refine tr_aald hX 32 (by decide) rfl dX3_isOneOfOldest_18 (fun hr1 => ?_)
    refine tr_iload hX 5 dX3_isOneOfOldest_19 rfl ?_
    refine tr_iald hX (128 + ix x1) (rw_c128 hr1) (rw_s128 hr1) dX3_isOneOfOldest_21 ?_
    refine tr_aload_n hX 0 dX3_isOneOfOldest_22 rfl rfl ?_
    refine tr_getR hX 30 1 (by decide) rfl rfl rfl (by decide) gX3 wm_262 dX3_isOneOfOldest_23 ?_
    refine tr_iload_n hX 1 dX3_isOneOfOldest_26 rfl rfl ?_
    refine tr_aald hX 32 (by decide) rfl dX3_isOneOfOldest_27 (fun hr2 => ?_)
    refine tr_iload_n hX 2 dX3_isOneOfOldest_28 rfl rfl ?_
    refine tr_iald hX (128 + ix x1) (rw_c128 hr2) (rw_s128 hr2) dX3_isOneOfOldest_29 ?_
    refine tr_icmp_lt hX 59 dX3_isOneOfOldest_30 (by decide) ?_ ?_
    · exact w_X3_isOneOfOldest_59 hX hR hE N k6 hk6 s x1 x2 x3 x4 x5
    · refine tr_aload_n hX 0 dX3_isOneOfOldest_33 rfl rfl ?_
      refine tr_getR hX 30 1 (by decide) rfl rfl rfl (by decide) gX3 wm_262 dX3_isOneOfOldest_34 ?_
      refine tr_iload_n hX 1 dX3_isOneOfOldest_37 rfl rfl ?_
      refine tr_aald hX 32 (by decide) rfl dX3_isOneOfOldest_38 (fun hr3 => ?_)
      refine tr_iload hX 5 dX3_isOneOfOldest_39 rfl ?_
      refine tr_iald hX (128 + ix x1) (rw_c128 hr3) (rw_s128 hr3) dX3_isOneOfOldest_41 ?_
      refine tr_aload_n hX 0 dX3_isOneOfOldest_42 rfl rfl ?_
      refine tr_getR hX 30 1 (by decide) rfl rfl rfl (by decide) gX3 wm_262 dX3_isOneOfOldest_43 ?_
      refine tr_iload_n hX 1 dX3_isOneOfOldest_46 rfl rfl ?_
      refine tr_aald hX 32 (by decide) rfl dX3_isOneOfOldest_47 (fun hr4 => ?_)
      refine tr_iload_n hX 2 dX3_isOneOfOldest_48 rfl rfl ?_
      refine tr_iald hX (128 + ix x1) (rw_c128 hr4) (rw_s128 hr4) dX3_isOneOfOldest_49 ?_
      refine tr_icmp_ne hX 63 dX3_isOneOfOldest_50 (by decide) ?_ ?_
      · exact w_X3_isOneOfOldest_63 hX hR hE N k6 hk6 s x1 x2 x3 x4 x5
      · refine tr_iload hX 5 dX3_isOneOfOldest_53 rfl ?_
        refine tr_iload_n hX 2 dX3_isOneOfOldest_55 rfl rfl ?_
        refine tr_icmp_ge hX 63 dX3_isOneOfOldest_56 (by decide) ?_ ?_
        · exact w_X3_isOneOfOldest_63 hX hR hE N k6 hk6 s x1 x2 x3 x4 x5
        · exact w_X3_isOneOfOldest_59 hX hR hE N k6 hk6 s x1 x2 x3 x4 x5
theorem wl_X3_isOneOfOldest_6 {G : Gx} (hX : ok G cX3_isOneOfOldest 7 RX3 (some .boolean) 0 0) (hR : okR G) (hE : va_D (AW G.1) (wd G.1 (fun _ _ => 0))) (N : Nat) : ∀ (n : Nat) (s : Hp) (x1 x2 x3 x4 x5 : Int32), T G (lp (fun _ _ _ _ _ _ => none) (f_X3_isOneOfOldest_6 N) n s x1 x2 x3 x4 x5) s 6 [(0, rf G.1 30), (1, .int x1), (2, .int x2), (3, .int x3), (4, .int x4), (5, .int x5)] [] := by
  intro n
  induction n with
  | zero => exact fun s x1 x2 x3 x4 x5 h => nomatch (show (none : Option (Int32 × Hp)) = some _ from h)
  | succ n ih => exact fun s x1 x2 x3 x4 x5 => w_X3_isOneOfOldest_6 hX hR hE N _ ih s x1 x2 x3 x4 x5
set_option maxRecDepth 20000 in
set_option maxHeartbeats 2000000 in
theorem w_X3_isOneOfOldest {G : Gx} (hX : ok G cX3_isOneOfOldest 7 RX3 (some .boolean) 0 0) (hR : okR G) (hE : va_D (AW G.1) (wd G.1 (fun _ _ => 0))) (N : Nat) (s : Hp) (x1 x2 x3 : Int32) : T G (f_X3_isOneOfOldest N s x1 x2 x3) s 0 [(0, rf G.1 30), (1, .int x1), (2, .int x2), (3, .int x3)] [] := by
  unfold f_X3_isOneOfOldest
  refine tr_iconst (v := 0) hX dX3_isOneOfOldest_0 rfl ?_
  refine tr_istore (lv2 := [(4, .int 0), (0, rf G.1 30), (1, .int x1), (2, .int x2), (3, .int x3)]) hX dX3_isOneOfOldest_1 (by decide) rfl ?_
  refine tr_iconst (v := 0) hX dX3_isOneOfOldest_3 rfl ?_
  refine tr_istore (lv2 := [(5, .int 0), (4, .int 0), (0, rf G.1 30), (1, .int x1), (2, .int x2), (3, .int x3)]) hX dX3_isOneOfOldest_4 (by decide) rfl ?_
  refine tr_lv (lv2 := [(0, rf G.1 30), (1, .int x1), (2, .int x2), (3, .int x3), (4, .int 0), (5, .int 0)]) [2, 3, 4, 5, 1, 0] rfl ?_
  exact wl_X3_isOneOfOldest_6 hX hR hE N N s x1 x2 x3 0 0
theorem c_X3_isOneOfOldest (E : Ex) (hE : va_D (AW E) (wd E (fun _ _ => 0))) (N : Nat) (s : Hp) (x1 x2 x3 : Int32) (r : Int32 × Hp) (h : f_X3_isOneOfOldest N s x1 x2 x3 = some r) : CtrI E yX3_isOneOfOldest cX3_isOneOfOldest 7 (some .boolean) 0 0 [rf E 30, .int x1, .int x2, .int x3] s r :=
  ctrI_of (by decide +kernel) hE (Nat.le_of_ble_eq_true rfl) h (fun G hX hR hG => by subst hG; exact w_X3_isOneOfOldest hX hR hE N s x1 x2 x3)
set_option maxRecDepth 20000 in
set_option maxHeartbeats 2000000 in
theorem w_X3_look_104 {G : Gx} (hX : ok G cX3_look 5 RX3 none 2 45) (hR : okV G) (hE : va_D (AW G.1) (wd G.1 (fun _ _ => 0))) (N : Nat) (k2 : Hp → Int32 → Int32 → Option (Int32 × Hp)) (hk2 : ∀ (s : Hp) (x2 x3 : Int32), T G (k2 s x2 x3) s 2 [(0, rf G.1 30), (1, rf G.1 4), (2, .int x2), (3, .int x3)] []) (k55 : Hp → Int32 → Int32 → Int32 → Option (Int32 × Hp)) (hk55 : ∀ (s : Hp) (x2 x3 x4 : Int32), T G (k55 s x2 x3 x4) s 55 [(0, rf G.1 30), (1, rf G.1 4), (2, .int x2), (3, .int x3), (4, .int x4)] []) (s : Hp) (x2 x3 x4 : Int32) : T G (f_X3_look_104 N k2 k55 s x2 x3 x4) s 104 [(0, rf G.1 30), (1, rf G.1 4), (2, .int x2), (3, .int x3), (4, .int x4)] [] := by
  unfold f_X3_look_104
  refine tr_iincB (b := 1) (lv2 := fun y13 => [(4, .int y13), (0, rf G.1 30), (1, rf G.1 4), (2, .int x2), (3, .int x3)]) hX 4 dX3_look_104 rfl rfl (by decide) (fun _ => rfl) fun y13 => ?_
  refine tr_goto hX 55 dX3_look_107 (by decide) ?_
  refine tr_lv (lv2 := [(0, rf G.1 30), (1, rf G.1 4), (2, .int x2), (3, .int x3), (4, .int y13)]) [1, 2, 3, 4, 0] rfl ?_
  exact hk55 s x2 x3 y13
set_option maxRecDepth 20000 in
set_option maxHeartbeats 2000000 in
theorem w_X3_look_55 {G : Gx} (hX : ok G cX3_look 5 RX3 none 2 45) (hR : okV G) (hE : va_D (AW G.1) (wd G.1 (fun _ _ => 0))) (N : Nat) (k2 : Hp → Int32 → Int32 → Option (Int32 × Hp)) (hk2 : ∀ (s : Hp) (x2 x3 : Int32), T G (k2 s x2 x3) s 2 [(0, rf G.1 30), (1, rf G.1 4), (2, .int x2), (3, .int x3)] []) (k55 : Hp → Int32 → Int32 → Int32 → Option (Int32 × Hp)) (hk55 : ∀ (s : Hp) (x2 x3 x4 : Int32), T G (k55 s x2 x3 x4) s 55 [(0, rf G.1 30), (1, rf G.1 4), (2, .int x2), (3, .int x3), (4, .int x4)] []) (s : Hp) (x2 x3 x4 : Int32) : T G (f_X3_look_55 N k2 k55 s x2 x3 x4) s 55 [(0, rf G.1 30), (1, rf G.1 4), (2, .int x2), (3, .int x3), (4, .int x4)] [] := by
  unfold f_X3_look_55
  refine tr_iload hX 4 dX3_look_55 rfl ?_
  refine tr_bipush (v := 16) hX dX3_look_57 rfl ?_
  refine tr_icmp_ge hX 110 dX3_look_59 (by decide) ?_ ?_
  · refine tr_iincB (b := 1) (lv2 := fun y7 => [(3, .int y7), (0, rf G.1 30), (1, rf G.1 4), (2, .int x2), (4, .int x4)]) hX 3 dX3_look_110 rfl rfl (by decide) (fun _ => rfl) fun y7 => ?_
    refine tr_goto hX 2 dX3_look_113 (by decide) ?_
    refine tr_lv (lv2 := [(0, rf G.1 30), (1, rf G.1 4), (2, .int x2), (3, .int y7)]) [1, 2, 3, 0] rfl ?_
    exact hk2 s x2 y7
  · refine tr_aload_n hX 0 dX3_look_62 rfl rfl ?_
    refine tr_iload_n hX 3 dX3_look_63 rfl rfl ?_
    refine tr_iload hX 4 dX3_look_64 rfl ?_
    refine tr_iload_n hX 2 dX3_look_66 rfl rfl ?_
    refine tr_callV hX 30 [.int x3, .int x4, .int x2] kv_X3_isOneOfOldest wm_661 (by decide) rfl rfl rfl (by decide) rfl rfl (Nat.le_of_ble_eq_true rfl) dX3_look_67 (fun vq sq hq => c_X3_isOneOfOldest G.1 hE N s x3 x4 x2 (vq, sq) hq) fun v9 s8 => ?_
    refine tr_if_eq hX 104 dX3_look_70 (by decide) ?_ ?_
    · exact w_X3_look_104 hX hR hE N k2 hk2 k55 hk55 s8 x2 x3 x4
    · refine tr_aload_n hX 0 dX3_look_73 rfl rfl ?_
      refine tr_getI hX 30 7 (by decide) rfl rfl rfl (by decide) gX3 wm_270 dX3_look_74 ?_
      refine tr_iconst (v := 4) hX dX3_look_77 rfl ?_
      refine tr_icmp_ge hX 104 dX3_look_78 (by decide) ?_ ?_
      · exact w_X3_look_104 hX hR hE N k2 hk2 k55 hk55 s8 x2 x3 x4
      · refine tr_aload_n hX 0 dX3_look_81 rfl rfl ?_
        refine tr_getR hX 30 2 (by decide) rfl rfl rfl (by decide) gX3 wm_263 dX3_look_82 ?_
        refine tr_iload_n hX 3 dX3_look_85 rfl rfl ?_
        refine tr_aald hX 33 (by decide) rfl dX3_look_86 (fun hr10 => ?_)
        refine tr_aload_n hX 0 dX3_look_87 rfl rfl ?_
        refine tr_getI hX 30 7 (by decide) rfl rfl rfl (by decide) gX3 wm_270 dX3_look_88 ?_
        refine tr_iload hX 4 dX3_look_91 rfl ?_
        refine tr_iast hX (132 + ix x3) (rw_c132 hr10) (rw_s132 hr10) dX3_look_93 fun s11 => ?_
        refine tr_aload_n hX 0 dX3_look_94 rfl rfl ?_
        refine tr_dup hX dX3_look_95 rfl ?_
        refine tr_getI hX 30 7 (by decide) rfl rfl rfl (by decide) gX3 wm_270 dX3_look_96 ?_
        refine tr_iconst (v := 1) hX dX3_look_99 rfl ?_
        refine tr_iadd hX dX3_look_100 ?_
        refine tr_putI hX 30 7 tyX3 tyX3_ok nmX3 (by decide) rfl rfl rfl (by decide) gX3 wm_270 rfl (by decide +kernel) dX3_look_101 fun s12 => ?_
        exact w_X3_look_104 hX hR hE N k2 hk2 k55 hk55 s12 x2 x3 x4
theorem wl_X3_look_55 {G : Gx} (hX : ok G cX3_look 5 RX3 none 2 45) (hR : okV G) (hE : va_D (AW G.1) (wd G.1 (fun _ _ => 0))) (N : Nat) (k2 : Hp → Int32 → Int32 → Option (Int32 × Hp)) (hk2 : ∀ (s : Hp) (x2 x3 : Int32), T G (k2 s x2 x3) s 2 [(0, rf G.1 30), (1, rf G.1 4), (2, .int x2), (3, .int x3)] []) : ∀ (n : Nat) (s : Hp) (x2 x3 x4 : Int32), T G (lp (fun _ _ _ _ => none) (f_X3_look_55 N k2) n s x2 x3 x4) s 55 [(0, rf G.1 30), (1, rf G.1 4), (2, .int x2), (3, .int x3), (4, .int x4)] [] := by
  intro n
  induction n with
  | zero => exact fun s x2 x3 x4 h => nomatch (show (none : Option (Int32 × Hp)) = some _ from h)
  | succ n ih => exact fun s x2 x3 x4 => w_X3_look_55 hX hR hE N k2 hk2 _ ih s x2 x3 x4
set_option maxRecDepth 20000 in
set_option maxHeartbeats 2000000 in
theorem w_X3_look_13 {G : Gx} (hX : ok G cX3_look 5 RX3 none 2 45) (hR : okV G) (hE : va_D (AW G.1) (wd G.1 (fun _ _ => 0))) (N : Nat) (k2 : Hp → Int32 → Int32 → Option (Int32 × Hp)) (hk2 : ∀ (s : Hp) (x2 x3 : Int32), T G (k2 s x2 x3) s 2 [(0, rf G.1 30), (1, rf G.1 4), (2, .int x2), (3, .int x3)] []) (k13 : Hp → Int32 → Int32 → Int32 → Option (Int32 × Hp)) (hk13 : ∀ (s : Hp) (x2 x3 x4 : Int32), T G (k13 s x2 x3 x4) s 13 [(0, rf G.1 30), (1, rf G.1 4), (2, .int x2), (3, .int x3), (4, .int x4)] []) (s : Hp) (x2 x3 x4 : Int32) : T G (f_X3_look_13 N k2 k13 s x2 x3 x4) s 13 [(0, rf G.1 30), (1, rf G.1 4), (2, .int x2), (3, .int x3), (4, .int x4)] [] := by
  unfold f_X3_look_13
  refine tr_iload hX 4 dX3_look_13 rfl ?_
  refine tr_bipush (v := 16) hX dX3_look_15 rfl ?_
  refine tr_icmp_ge hX 47 dX3_look_17 (by decide) ?_ ?_
  · refine tr_aload_n hX 0 dX3_look_47 rfl rfl ?_
    refine tr_iconst (v := 0) hX dX3_look_48 rfl ?_
    refine tr_putI hX 30 7 tyX3 tyX3_ok nmX3 (by decide) rfl rfl rfl (by decide) gX3 wm_270 rfl (by decide +kernel) dX3_look_49 fun s1 => ?_
    refine tr_iconst (v := 0) hX dX3_look_52 rfl ?_
    refine tr_istore (lv2 := [(4, .int 0), (0, rf G.1 30), (1, rf G.1 4), (2, .int x2), (3, .int x3)]) hX dX3_look_53 (by decide) rfl ?_
    refine tr_lv (lv2 := [(0, rf G.1 30), (1, rf G.1 4), (2, .int x2), (3, .int x3), (4, .int 0)]) [1, 2, 3, 4, 0] rfl ?_
    exact wl_X3_look_55 hX hR hE N k2 hk2 N s1 x2 x3 0
  · refine tr_aload_n hX 0 dX3_look_20 rfl rfl ?_
    refine tr_getR hX 30 1 (by decide) rfl rfl rfl (by decide) gX3 wm_262 dX3_look_21 ?_
    refine tr_iload_n hX 3 dX3_look_24 rfl rfl ?_
    refine tr_aald hX 32 (by decide) rfl dX3_look_25 (fun hr2 => ?_)
    refine tr_iload hX 4 dX3_look_26 rfl ?_
    refine tr_aload_n hX 1 dX3_look_28 rfl rfl ?_
    refine tr_iload hX 4 dX3_look_29 rfl ?_
    refine tr_aload_n hX 0 dX3_look_31 rfl rfl ?_
    refine tr_getR hX 30 0 (by decide) rfl rfl rfl (by decide) gX3 wm_261 dX3_look_32 ?_
    refine tr_iload_n hX 3 dX3_look_35 rfl rfl ?_
    refine tr_iald hX 31 (by decide) rfl dX3_look_36 ?_
    refine tr_callV hX 4 [.int x4, .int (s 31 (ix x3))] kv_X7_latestAhead wm_657 (by decide) rfl rfl rfl (by decide) rfl rfl (Nat.le_of_ble_eq_true rfl) dX3_look_37 (fun vq sq hq => c_X7_latestAhead G.1 hE N s x4 (s 31 (ix x3)) (vq, sq) hq) fun v4 s3 => ?_
    refine tr_iast hX (128 + ix x3) (rw_c128 hr2) (rw_s128 hr2) dX3_look_40 fun s5 => ?_
    refine tr_iincB (b := 1) (lv2 := fun y6 => [(4, .int y6), (0, rf G.1 30), (1, rf G.1 4), (2, .int x2), (3, .int x3)]) hX 4 dX3_look_41 rfl rfl (by decide) (fun _ => rfl) fun y6 => ?_
    refine tr_goto hX 13 dX3_look_44 (by decide) ?_
    refine tr_lv (lv2 := [(0, rf G.1 30), (1, rf G.1 4), (2, .int x2), (3, .int x3), (4, .int y6)]) [1, 2, 3, 4, 0] rfl ?_
    exact hk13 s5 x2 x3 y6
theorem wl_X3_look_13 {G : Gx} (hX : ok G cX3_look 5 RX3 none 2 45) (hR : okV G) (hE : va_D (AW G.1) (wd G.1 (fun _ _ => 0))) (N : Nat) (k2 : Hp → Int32 → Int32 → Option (Int32 × Hp)) (hk2 : ∀ (s : Hp) (x2 x3 : Int32), T G (k2 s x2 x3) s 2 [(0, rf G.1 30), (1, rf G.1 4), (2, .int x2), (3, .int x3)] []) : ∀ (n : Nat) (s : Hp) (x2 x3 x4 : Int32), T G (lp (fun _ _ _ _ => none) (f_X3_look_13 N k2) n s x2 x3 x4) s 13 [(0, rf G.1 30), (1, rf G.1 4), (2, .int x2), (3, .int x3), (4, .int x4)] [] := by
  intro n
  induction n with
  | zero => exact fun s x2 x3 x4 h => nomatch (show (none : Option (Int32 × Hp)) = some _ from h)
  | succ n ih => exact fun s x2 x3 x4 => w_X3_look_13 hX hR hE N k2 hk2 _ ih s x2 x3 x4
set_option maxRecDepth 20000 in
set_option maxHeartbeats 2000000 in
theorem w_X3_look_2 {G : Gx} (hX : ok G cX3_look 5 RX3 none 2 45) (hR : okV G) (hE : va_D (AW G.1) (wd G.1 (fun _ _ => 0))) (N : Nat) (k2 : Hp → Int32 → Int32 → Option (Int32 × Hp)) (hk2 : ∀ (s : Hp) (x2 x3 : Int32), T G (k2 s x2 x3) s 2 [(0, rf G.1 30), (1, rf G.1 4), (2, .int x2), (3, .int x3)] []) (s : Hp) (x2 x3 : Int32) : T G (f_X3_look_2 N k2 s x2 x3) s 2 [(0, rf G.1 30), (1, rf G.1 4), (2, .int x2), (3, .int x3)] [] := by
  unfold f_X3_look_2
  refine tr_iload_n hX 3 dX3_look_2 rfl rfl ?_
  refine tr_aload_n hX 0 dX3_look_3 rfl rfl ?_
  refine tr_getI hX 30 5 (by decide) rfl rfl rfl (by decide) gX3 wm_267 dX3_look_4 ?_
  refine tr_icmp_ge hX 116 dX3_look_7 (by decide) ?_ ?_
  · exact tr_vret hX hR dX3_look_116
  · refine tr_iconst (v := 0) hX dX3_look_10 rfl ?_
    refine tr_istore (lv2 := [(4, .int 0), (0, rf G.1 30), (1, rf G.1 4), (2, .int x2), (3, .int x3)]) hX dX3_look_11 (by decide) rfl ?_
    refine tr_lv (lv2 := [(0, rf G.1 30), (1, rf G.1 4), (2, .int x2), (3, .int x3), (4, .int 0)]) [1, 2, 3, 4, 0] rfl ?_
    exact wl_X3_look_13 hX hR hE N k2 hk2 N s x2 x3 0
theorem wl_X3_look_2 {G : Gx} (hX : ok G cX3_look 5 RX3 none 2 45) (hR : okV G) (hE : va_D (AW G.1) (wd G.1 (fun _ _ => 0))) (N : Nat) : ∀ (n : Nat) (s : Hp) (x2 x3 : Int32), T G (lp (fun _ _ _ => none) (f_X3_look_2 N) n s x2 x3) s 2 [(0, rf G.1 30), (1, rf G.1 4), (2, .int x2), (3, .int x3)] [] := by
  intro n
  induction n with
  | zero => exact fun s x2 x3 h => nomatch (show (none : Option (Int32 × Hp)) = some _ from h)
  | succ n ih => exact fun s x2 x3 => w_X3_look_2 hX hR hE N _ ih s x2 x3
set_option maxRecDepth 20000 in
set_option maxHeartbeats 2000000 in
theorem w_X3_look {G : Gx} (hX : ok G cX3_look 5 RX3 none 2 45) (hR : okV G) (hE : va_D (AW G.1) (wd G.1 (fun _ _ => 0))) (N : Nat) (s : Hp) (x2 : Int32) : T G (f_X3_look N s x2) s 0 [(0, rf G.1 30), (1, rf G.1 4), (2, .int x2)] [] := by
  unfold f_X3_look
  refine tr_iconst (v := 0) hX dX3_look_0 rfl ?_
  refine tr_istore_n (lv2 := [(3, .int 0), (0, rf G.1 30), (1, rf G.1 4), (2, .int x2)]) hX dX3_look_1 rfl (by decide) rfl ?_
  refine tr_lv (lv2 := [(0, rf G.1 30), (1, rf G.1 4), (2, .int x2), (3, .int 0)]) [1, 2, 3, 0] rfl ?_
  exact wl_X3_look_2 hX hR hE N N s x2 0
theorem c_X3_look (E : Ex) (hE : va_D (AW E) (wd E (fun _ _ => 0))) (N : Nat) (s : Hp) (x2 : Int32) (r : Int32 × Hp) (h : f_X3_look N s x2 = some r) : CtrV E yX3_look cX3_look 5 none 2 45 [rf E 30, rf E 4, .int x2] s r :=
  ctrV_of (by decide +kernel) hE (Nat.le_of_ble_eq_true rfl) h (fun G hX hR hG => by subst hG; exact w_X3_look hX hR hE N s x2)
set_option maxRecDepth 20000 in
set_option maxHeartbeats 2000000 in
theorem w_X3_choose_9 {G : Gx} (hX : ok G cX3_choose 4 RX3 none 0 0) (hR : okV G) (hE : va_D (AW G.1) (wd G.1 (fun _ _ => 0))) (N : Nat) (k9 : Hp → Int32 → Int32 → Option (Int32 × Hp)) (hk9 : ∀ (s : Hp) (x2 x3 : Int32), T G (k9 s x2 x3) s 9 [(0, rf G.1 30), (2, .int x2), (3, .int x3)] []) (s : Hp) (x2 x3 : Int32) : T G (f_X3_choose_9 N k9 s x2 x3) s 9 [(0, rf G.1 30), (2, .int x2), (3, .int x3)] [] := by
  unfold f_X3_choose_9
  refine tr_iload_n hX 2 dX3_choose_9 rfl rfl ?_
  refine tr_if_lt hX 52 dX3_choose_10 (by decide) ?_ ?_
  · exact tr_vret hX hR dX3_choose_52
  · refine tr_aload_n hX 0 dX3_choose_13 rfl rfl ?_
    refine tr_getI hX 30 7 (by decide) rfl rfl rfl (by decide) gX3 wm_270 dX3_choose_14 ?_
    refine tr_if_le hX 52 dX3_choose_17 (by decide) ?_ ?_
    · exact tr_vret hX hR dX3_choose_52
    · refine tr_aload_n hX 0 dX3_choose_20 rfl rfl ?_
      refine tr_getR hX 30 3 (by decide) rfl rfl rfl (by decide) gX3 wm_264 dX3_choose_21 ?_
      refine tr_iload_n hX 2 dX3_choose_24 rfl rfl ?_
      refine tr_aload_n hX 0 dX3_choose_25 rfl rfl ?_
      refine tr_getR hX 30 2 (by decide) rfl rfl rfl (by decide) gX3 wm_263 dX3_choose_26 ?_
      refine tr_iload_n hX 2 dX3_choose_29 rfl rfl ?_
      refine tr_aald hX 33 (by decide) rfl dX3_choose_30 (fun hr2 => ?_)
      refine tr_iload_n hX 1 dX3_choose_31 rfl rfl ?_
      refine tr_aload_n hX 0 dX3_choose_32 rfl rfl ?_
      refine tr_getI hX 30 7 (by decide) rfl rfl rfl (by decide) gX3 wm_270 dX3_choose_33 ?_
      refine tr_irem hX dX3_choose_36 ?_
      refine tr_iald hX (132 + ix x3) (rw_c132 hr2) (rw_s132 hr2) dX3_choose_37 ?_
      refine tr_iast hX 34 (by decide) rfl dX3_choose_38 fun s3 => ?_
      refine tr_iload_n hX 1 dX3_choose_39 rfl rfl ?_
      refine tr_aload_n hX 0 dX3_choose_40 rfl rfl ?_
      refine tr_getI hX 30 7 (by decide) rfl rfl rfl (by decide) gX3 wm_270 dX3_choose_41 ?_
      refine tr_idiv hX dX3_choose_44 ?_
      refine tr_istore_nB (lv2 := fun y4 => [(2, .int y4), (0, rf G.1 30), (3, .int x3)]) hX dX3_choose_45 rfl (by decide) (fun _ => rfl) fun y4 => ?_
      refine tr_iincB (b := (-1)) (lv2 := fun y5 => [(3, .int y5), (2, .int y4), (0, rf G.1 30)]) hX 2 dX3_choose_46 rfl rfl (by decide) (fun _ => rfl) fun y5 => ?_
      refine tr_goto hX 9 dX3_choose_49 (by decide) ?_
      refine tr_lv (lv2 := [(0, rf G.1 30), (2, .int y4), (3, .int y5)]) [2, 1, 0] rfl ?_
      exact hk9 s3 y4 y5
theorem wl_X3_choose_9 {G : Gx} (hX : ok G cX3_choose 4 RX3 none 0 0) (hR : okV G) (hE : va_D (AW G.1) (wd G.1 (fun _ _ => 0))) (N : Nat) : ∀ (n : Nat) (s : Hp) (x2 x3 : Int32), T G (lp (fun _ _ _ => none) (f_X3_choose_9 N) n s x2 x3) s 9 [(0, rf G.1 30), (2, .int x2), (3, .int x3)] [] := by
  intro n
  induction n with
  | zero => exact fun s x2 x3 h => nomatch (show (none : Option (Int32 × Hp)) = some _ from h)
  | succ n ih => exact fun s x2 x3 => w_X3_choose_9 hX hR hE N _ ih s x2 x3
set_option maxRecDepth 20000 in
set_option maxHeartbeats 2000000 in
theorem w_X3_choose {G : Gx} (hX : ok G cX3_choose 4 RX3 none 0 0) (hR : okV G) (hE : va_D (AW G.1) (wd G.1 (fun _ _ => 0))) (N : Nat) (s : Hp) (x1 : Int32) : T G (f_X3_choose N s x1) s 0 [(0, rf G.1 30), (1, .int x1)] [] := by
  unfold f_X3_choose
  refine tr_iload_n hX 1 dX3_choose_0 rfl rfl ?_
  refine tr_istore_n (lv2 := [(2, .int x1), (0, rf G.1 30), (1, .int x1)]) hX dX3_choose_1 rfl (by decide) rfl ?_
  refine tr_aload_n hX 1 dX3_choose_2 rfl rfl ?_
  refine tr_getI hX 30 5 (by decide) rfl rfl rfl (by decide) gX3 wm_267 dX3_choose_3 ?_
  refine tr_iconst (v := 1) hX dX3_choose_6 rfl ?_
  refine tr_isub hX dX3_choose_7 ?_
  refine tr_istore_nB (lv2 := fun y1 => [(3, .int y1), (2, .int x1), (0, rf G.1 30), (1, .int x1)]) hX dX3_choose_8 rfl (by decide) (fun _ => rfl) fun y1 => ?_
  refine tr_lv (lv2 := [(0, rf G.1 30), (2, .int x1), (3, .int y1)]) [2, 1, 0] rfl ?_
  exact wl_X3_choose_9 hX hR hE N N s x1 y1
theorem c_X3_choose (E : Ex) (hE : va_D (AW E) (wd E (fun _ _ => 0))) (N : Nat) (s : Hp) (x1 : Int32) (r : Int32 × Hp) (h : f_X3_choose N s x1 = some r) : CtrV E yX3_choose cX3_choose 4 none 0 0 [rf E 30, .int x1] s r :=
  ctrV_of (by decide +kernel) hE (Nat.le_of_ble_eq_true rfl) h (fun G hX hR hG => by subst hG; exact w_X3_choose hX hR hE N s x1)
set_option maxRecDepth 20000 in
set_option maxHeartbeats 2000000 in
theorem w_X3_worthOfChosen_70 {G : Gx} (hX : ok G cX3_worthOfChosen 5 RX3 (some .int) 1 21) (hR : okR G) (hE : va_D (AW G.1) (wd G.1 (fun _ _ => 0))) (N : Nat) (k4 : Hp → Int32 → Int32 → Option (Int32 × Hp)) (hk4 : ∀ (s : Hp) (x1 x2 : Int32), T G (k4 s x1 x2) s 4 [(0, rf G.1 30), (1, .int x1), (2, .int x2)] []) (k29 : Hp → Int32 → Int32 → Int32 → Int32 → Option (Int32 × Hp)) (hk29 : ∀ (s : Hp) (x1 x2 x3 x4 : Int32), T G (k29 s x1 x2 x3 x4) s 29 [(0, rf G.1 30), (1, .int x1), (2, .int x2), (3, .int x3), (4, .int x4)] []) (s : Hp) (x1 x2 x3 x4 : Int32) : T G (f_X3_worthOfChosen_70 N k4 k29 s x1 x2 x3 x4) s 70 [(0, rf G.1 30), (1, .int x1), (2, .int x2), (3, .int x3), (4, .int x4)] [] := by
  unfold f_X3_worthOfChosen_70
  refine tr_iincB (b := 1) (lv2 := fun y6 => [(4, .int y6), (0, rf G.1 30), (1, .int x1), (2, .int x2), (3, .int x3)]) hX 4 dX3_worthOfChosen_70 rfl rfl (by decide) (fun _ => rfl) fun y6 => ?_
  refine tr_goto hX 29 dX3_worthOfChosen_73 (by decide) ?_
  refine tr_lv (lv2 := [(0, rf G.1 30), (1, .int x1), (2, .int x2), (3, .int x3), (4, .int y6)]) [1, 2, 3, 4, 0] rfl ?_
  exact hk29 s x1 x2 x3 y6
set_option maxRecDepth 20000 in
set_option maxHeartbeats 2000000 in
theorem w_X3_worthOfChosen_29 {G : Gx} (hX : ok G cX3_worthOfChosen 5 RX3 (some .int) 1 21) (hR : okR G) (hE : va_D (AW G.1) (wd G.1 (fun _ _ => 0))) (N : Nat) (k4 : Hp → Int32 → Int32 → Option (Int32 × Hp)) (hk4 : ∀ (s : Hp) (x1 x2 : Int32), T G (k4 s x1 x2) s 4 [(0, rf G.1 30), (1, .int x1), (2, .int x2)] []) (k29 : Hp → Int32 → Int32 → Int32 → Int32 → Option (Int32 × Hp)) (hk29 : ∀ (s : Hp) (x1 x2 x3 x4 : Int32), T G (k29 s x1 x2 x3 x4) s 29 [(0, rf G.1 30), (1, .int x1), (2, .int x2), (3, .int x3), (4, .int x4)] []) (s : Hp) (x1 x2 x3 x4 : Int32) : T G (f_X3_worthOfChosen_29 N k4 k29 s x1 x2 x3 x4) s 29 [(0, rf G.1 30), (1, .int x1), (2, .int x2), (3, .int x3), (4, .int x4)] [] := by
  unfold f_X3_worthOfChosen_29
  refine tr_iload hX 4 dX3_worthOfChosen_29 rfl ?_
  refine tr_iload_n hX 2 dX3_worthOfChosen_31 rfl rfl ?_
  refine tr_icmp_ge hX 76 dX3_worthOfChosen_32 (by decide) ?_ ?_
  · refine tr_iload_n hX 1 dX3_worthOfChosen_76 rfl rfl ?_
    refine tr_aload_n hX 0 dX3_worthOfChosen_77 rfl rfl ?_
    refine tr_getR hX 30 0 (by decide) rfl rfl rfl (by decide) gX3 wm_261 dX3_worthOfChosen_78 ?_
    refine tr_iload_n hX 2 dX3_worthOfChosen_81 rfl rfl ?_
    refine tr_iald hX 31 (by decide) rfl dX3_worthOfChosen_82 ?_
    refine tr_iload_n hX 3 dX3_worthOfChosen_83 rfl rfl ?_
    refine tr_isub hX dX3_worthOfChosen_84 ?_
    refine tr_iadd hX dX3_worthOfChosen_85 ?_
    refine tr_istore_nB (lv2 := fun y3 => [(1, .int y3), (0, rf G.1 30), (2, .int x2), (3, .int x3), (4, .int x4)]) hX dX3_worthOfChosen_86 rfl (by decide) (fun _ => rfl) fun y3 => ?_
    refine tr_iincB (b := 1) (lv2 := fun y4 => [(2, .int y4), (1, .int y3), (0, rf G.1 30), (3, .int x3), (4, .int x4)]) hX 2 dX3_worthOfChosen_87 rfl rfl (by decide) (fun _ => rfl) fun y4 => ?_
    refine tr_goto hX 4 dX3_worthOfChosen_90 (by decide) ?_
    refine tr_lv (lv2 := [(0, rf G.1 30), (1, .int y3), (2, .int y4)]) [2, 1, 0] rfl ?_
    exact hk4 s y3 y4
  · refine tr_aload_n hX 0 dX3_worthOfChosen_35 rfl rfl ?_
    refine tr_getR hX 30 3 (by decide) rfl rfl rfl (by decide) gX3 wm_264 dX3_worthOfChosen_36 ?_
    refine tr_iload hX 4 dX3_worthOfChosen_39 rfl ?_
    refine tr_iald hX 34 (by decide) rfl dX3_worthOfChosen_41 ?_
    refine tr_aload_n hX 0 dX3_worthOfChosen_42 rfl rfl ?_
    refine tr_getR hX 30 3 (by decide) rfl rfl rfl (by decide) gX3 wm_264 dX3_worthOfChosen_43 ?_
    refine tr_iload_n hX 2 dX3_worthOfChosen_46 rfl rfl ?_
    refine tr_iald hX 34 (by decide) rfl dX3_worthOfChosen_47 ?_
    refine tr_icmp_ne hX 70 dX3_worthOfChosen_48 (by decide) ?_ ?_
    · exact w_X3_worthOfChosen_70 hX hR hE N k4 hk4 k29 hk29 s x1 x2 x3 x4
    · refine tr_iload_n hX 3 dX3_worthOfChosen_51 rfl rfl ?_
      refine tr_aload_n hX 0 dX3_worthOfChosen_52 rfl rfl ?_
      refine tr_getR hX 30 0 (by decide) rfl rfl rfl (by decide) gX3 wm_261 dX3_worthOfChosen_53 ?_
      refine tr_iload hX 4 dX3_worthOfChosen_56 rfl ?_
      refine tr_iald hX 31 (by decide) rfl dX3_worthOfChosen_58 ?_
      refine tr_aload_n hX 0 dX3_worthOfChosen_59 rfl rfl ?_
      refine tr_getI hX 30 6 (by decide) rfl rfl rfl (by decide) gX3 wm_269 dX3_worthOfChosen_60 ?_
      refine tr_iadd hX dX3_worthOfChosen_63 ?_
      refine tr_iconst (v := 1) hX dX3_worthOfChosen_64 rfl ?_
      refine tr_isub hX dX3_worthOfChosen_65 ?_
      refine tr_max hX wm_677 wm_53 wm_4 wm_54 (by decide) (Nat.le_of_ble_eq_true rfl) dX3_worthOfChosen_66 ?_
      refine tr_istore_nB (lv2 := fun y5 => [(3, .int y5), (0, rf G.1 30), (1, .int x1), (2, .int x2), (4, .int x4)]) hX dX3_worthOfChosen_69 rfl (by decide) (fun _ => rfl) fun y5 => ?_
      refine tr_lv (lv2 := [(0, rf G.1 30), (1, .int x1), (2, .int x2), (3, .int y5), (4, .int x4)]) [1, 2, 3, 0, 4] rfl ?_
      exact w_X3_worthOfChosen_70 hX hR hE N k4 hk4 k29 hk29 s x1 x2 y5 x4
theorem wl_X3_worthOfChosen_29 {G : Gx} (hX : ok G cX3_worthOfChosen 5 RX3 (some .int) 1 21) (hR : okR G) (hE : va_D (AW G.1) (wd G.1 (fun _ _ => 0))) (N : Nat) (k4 : Hp → Int32 → Int32 → Option (Int32 × Hp)) (hk4 : ∀ (s : Hp) (x1 x2 : Int32), T G (k4 s x1 x2) s 4 [(0, rf G.1 30), (1, .int x1), (2, .int x2)] []) : ∀ (n : Nat) (s : Hp) (x1 x2 x3 x4 : Int32), T G (lp (fun _ _ _ _ _ => none) (f_X3_worthOfChosen_29 N k4) n s x1 x2 x3 x4) s 29 [(0, rf G.1 30), (1, .int x1), (2, .int x2), (3, .int x3), (4, .int x4)] [] := by
  intro n
  induction n with
  | zero => exact fun s x1 x2 x3 x4 h => nomatch (show (none : Option (Int32 × Hp)) = some _ from h)
  | succ n ih => exact fun s x1 x2 x3 x4 => w_X3_worthOfChosen_29 hX hR hE N k4 hk4 _ ih s x1 x2 x3 x4
set_option maxRecDepth 20000 in
set_option maxHeartbeats 2000000 in
theorem w_X3_worthOfChosen_4 {G : Gx} (hX : ok G cX3_worthOfChosen 5 RX3 (some .int) 1 21) (hR : okR G) (hE : va_D (AW G.1) (wd G.1 (fun _ _ => 0))) (N : Nat) (k4 : Hp → Int32 → Int32 → Option (Int32 × Hp)) (hk4 : ∀ (s : Hp) (x1 x2 : Int32), T G (k4 s x1 x2) s 4 [(0, rf G.1 30), (1, .int x1), (2, .int x2)] []) (s : Hp) (x1 x2 : Int32) : T G (f_X3_worthOfChosen_4 N k4 s x1 x2) s 4 [(0, rf G.1 30), (1, .int x1), (2, .int x2)] [] := by
  unfold f_X3_worthOfChosen_4
  refine tr_iload_n hX 2 dX3_worthOfChosen_4 rfl rfl ?_
  refine tr_aload_n hX 0 dX3_worthOfChosen_5 rfl rfl ?_
  refine tr_getI hX 30 5 (by decide) rfl rfl rfl (by decide) gX3 wm_267 dX3_worthOfChosen_6 ?_
  refine tr_icmp_ge hX 93 dX3_worthOfChosen_9 (by decide) ?_ ?_
  · refine tr_iload_n hX 1 dX3_worthOfChosen_93 rfl rfl ?_
    exact tr_iret hX hR dX3_worthOfChosen_94
  · refine tr_aload_n hX 0 dX3_worthOfChosen_12 rfl rfl ?_
    refine tr_getR hX 30 1 (by decide) rfl rfl rfl (by decide) gX3 wm_262 dX3_worthOfChosen_13 ?_
    refine tr_iload_n hX 2 dX3_worthOfChosen_16 rfl rfl ?_
    refine tr_aald hX 32 (by decide) rfl dX3_worthOfChosen_17 (fun hr1 => ?_)
    refine tr_aload_n hX 0 dX3_worthOfChosen_18 rfl rfl ?_
    refine tr_getR hX 30 3 (by decide) rfl rfl rfl (by decide) gX3 wm_264 dX3_worthOfChosen_19 ?_
    refine tr_iload_n hX 2 dX3_worthOfChosen_22 rfl rfl ?_
    refine tr_iald hX 34 (by decide) rfl dX3_worthOfChosen_23 ?_
    refine tr_iald hX (128 + ix x2) (rw_c128 hr1) (rw_s128 hr1) dX3_worthOfChosen_24 ?_
    refine tr_istore_nB (lv2 := fun y2 => [(3, .int y2), (0, rf G.1 30), (1, .int x1), (2, .int x2)]) hX dX3_worthOfChosen_25 rfl (by decide) (fun _ => rfl) fun y2 => ?_
    refine tr_iconst (v := 0) hX dX3_worthOfChosen_26 rfl ?_
    refine tr_istore (lv2 := [(4, .int 0), (3, .int y2), (0, rf G.1 30), (1, .int x1), (2, .int x2)]) hX dX3_worthOfChosen_27 (by decide) rfl ?_
    refine tr_lv (lv2 := [(0, rf G.1 30), (1, .int x1), (2, .int x2), (3, .int y2), (4, .int 0)]) [2, 3, 4, 1, 0] rfl ?_
    exact wl_X3_worthOfChosen_29 hX hR hE N k4 hk4 N s x1 x2 y2 0
theorem wl_X3_worthOfChosen_4 {G : Gx} (hX : ok G cX3_worthOfChosen 5 RX3 (some .int) 1 21) (hR : okR G) (hE : va_D (AW G.1) (wd G.1 (fun _ _ => 0))) (N : Nat) : ∀ (n : Nat) (s : Hp) (x1 x2 : Int32), T G (lp (fun _ _ _ => none) (f_X3_worthOfChosen_4 N) n s x1 x2) s 4 [(0, rf G.1 30), (1, .int x1), (2, .int x2)] [] := by
  intro n
  induction n with
  | zero => exact fun s x1 x2 h => nomatch (show (none : Option (Int32 × Hp)) = some _ from h)
  | succ n ih => exact fun s x1 x2 => w_X3_worthOfChosen_4 hX hR hE N _ ih s x1 x2
set_option maxRecDepth 20000 in
set_option maxHeartbeats 2000000 in
theorem w_X3_worthOfChosen {G : Gx} (hX : ok G cX3_worthOfChosen 5 RX3 (some .int) 1 21) (hR : okR G) (hE : va_D (AW G.1) (wd G.1 (fun _ _ => 0))) (N : Nat) (s : Hp) : T G (f_X3_worthOfChosen N s) s 0 [(0, rf G.1 30)] [] := by
  unfold f_X3_worthOfChosen
  refine tr_iconst (v := 0) hX dX3_worthOfChosen_0 rfl ?_
  refine tr_istore_n (lv2 := [(1, .int 0), (0, rf G.1 30)]) hX dX3_worthOfChosen_1 rfl (by decide) rfl ?_
  refine tr_iconst (v := 0) hX dX3_worthOfChosen_2 rfl ?_
  refine tr_istore_n (lv2 := [(2, .int 0), (1, .int 0), (0, rf G.1 30)]) hX dX3_worthOfChosen_3 rfl (by decide) rfl ?_
  refine tr_lv (lv2 := [(0, rf G.1 30), (1, .int 0), (2, .int 0)]) [2, 1, 0] rfl ?_
  exact wl_X3_worthOfChosen_4 hX hR hE N N s 0 0
theorem c_X3_worthOfChosen (E : Ex) (hE : va_D (AW E) (wd E (fun _ _ => 0))) (N : Nat) (s : Hp) (r : Int32 × Hp) (h : f_X3_worthOfChosen N s = some r) : CtrI E yX3_worthOfChosen cX3_worthOfChosen 5 (some .int) 1 21 [rf E 30] s r :=
  ctrI_of (by decide +kernel) hE (Nat.le_of_ble_eq_true rfl) h (fun G hX hR hG => by subst hG; exact w_X3_worthOfChosen hX hR hE N s)
set_option maxRecDepth 20000 in
set_option maxHeartbeats 2000000 in
theorem w_X3_keepChosen_2 {G : Gx} (hX : ok G cX3_keepChosen 2 RX3 none 0 0) (hR : okV G) (hE : va_D (AW G.1) (wd G.1 (fun _ _ => 0))) (N : Nat) (k2 : Hp → Int32 → Option (Int32 × Hp)) (hk2 : ∀ (s : Hp) (x1 : Int32), T G (k2 s x1) s 2 [(0, rf G.1 30), (1, .int x1)] []) (s : Hp) (x1 : Int32) : T G (f_X3_keepChosen_2 N k2 s x1) s 2 [(0, rf G.1 30), (1, .int x1)] [] := by
  unfold f_X3_keepChosen_2
  refine tr_iload_n hX 1 dX3_keepChosen_2 rfl rfl ?_
  refine tr_aload_n hX 0 dX3_keepChosen_3 rfl rfl ?_
  refine tr_getI hX 30 5 (by decide) rfl rfl rfl (by decide) gX3 wm_267 dX3_keepChosen_4 ?_
  refine tr_icmp_ge hX 28 dX3_keepChosen_7 (by decide) ?_ ?_
  · exact tr_vret hX hR dX3_keepChosen_28
  · refine tr_aload_n hX 0 dX3_keepChosen_10 rfl rfl ?_
    refine tr_getR hX 30 4 (by decide) rfl rfl rfl (by decide) gX3 wm_265 dX3_keepChosen_11 ?_
    refine tr_iload_n hX 1 dX3_keepChosen_14 rfl rfl ?_
    refine tr_aload_n hX 0 dX3_keepChosen_15 rfl rfl ?_
    refine tr_getR hX 30 3 (by decide) rfl rfl rfl (by decide) gX3 wm_264 dX3_keepChosen_16 ?_
    refine tr_iload_n hX 1 dX3_keepChosen_19 rfl rfl ?_
    refine tr_iald hX 34 (by decide) rfl dX3_keepChosen_20 ?_
    refine tr_iast hX 35 (by decide) rfl dX3_keepChosen_21 fun s1 => ?_
    refine tr_iincB (b := 1) (lv2 := fun y2 => [(1, .int y2), (0, rf G.1 30)]) hX 1 dX3_keepChosen_22 rfl rfl (by decide) (fun _ => rfl) fun y2 => ?_
    refine tr_goto hX 2 dX3_keepChosen_25 (by decide) ?_
    refine tr_lv (lv2 := [(0, rf G.1 30), (1, .int y2)]) [1, 0] rfl ?_
    exact hk2 s1 y2
theorem wl_X3_keepChosen_2 {G : Gx} (hX : ok G cX3_keepChosen 2 RX3 none 0 0) (hR : okV G) (hE : va_D (AW G.1) (wd G.1 (fun _ _ => 0))) (N : Nat) : ∀ (n : Nat) (s : Hp) (x1 : Int32), T G (lp (fun _ _ => none) (f_X3_keepChosen_2 N) n s x1) s 2 [(0, rf G.1 30), (1, .int x1)] [] := by
  intro n
  induction n with
  | zero => exact fun s x1 h => nomatch (show (none : Option (Int32 × Hp)) = some _ from h)
  | succ n ih => exact fun s x1 => w_X3_keepChosen_2 hX hR hE N _ ih s x1
set_option maxRecDepth 20000 in
set_option maxHeartbeats 2000000 in
theorem w_X3_keepChosen {G : Gx} (hX : ok G cX3_keepChosen 2 RX3 none 0 0) (hR : okV G) (hE : va_D (AW G.1) (wd G.1 (fun _ _ => 0))) (N : Nat) (s : Hp) : T G (f_X3_keepChosen N s) s 0 [(0, rf G.1 30)] [] := by
  unfold f_X3_keepChosen
  refine tr_iconst (v := 0) hX dX3_keepChosen_0 rfl ?_
  refine tr_istore_n (lv2 := [(1, .int 0), (0, rf G.1 30)]) hX dX3_keepChosen_1 rfl (by decide) rfl ?_
  refine tr_lv (lv2 := [(0, rf G.1 30), (1, .int 0)]) [1, 0] rfl ?_
  exact wl_X3_keepChosen_2 hX hR hE N N s 0
theorem c_X3_keepChosen (E : Ex) (hE : va_D (AW E) (wd E (fun _ _ => 0))) (N : Nat) (s : Hp) (r : Int32 × Hp) (h : f_X3_keepChosen N s = some r) : CtrV E yX3_keepChosen cX3_keepChosen 2 none 0 0 [rf E 30] s r :=
  ctrV_of (by decide +kernel) hE (Nat.le_of_ble_eq_true rfl) h (fun G hX hR hG => by subst hG; exact w_X3_keepChosen hX hR hE N s)
set_option maxRecDepth 20000 in
set_option maxHeartbeats 2000000 in
theorem w_X3_search_58 {G : Gx} (hX : ok G cX3_search 5 RX3 (some .int) 2 45) (hR : okR G) (hE : va_D (AW G.1) (wd G.1 (fun _ _ => 0))) (N : Nat) (k29 : Hp → Int32 → Int32 → Int32 → Option (Int32 × Hp)) (hk29 : ∀ (s : Hp) (x1 x2 x3 : Int32), T G (k29 s x1 x2 x3) s 29 [(0, rf G.1 30), (1, .int x1), (2, .int x2), (3, .int x3)] []) (s : Hp) (x1 x2 x3 : Int32) : T G (f_X3_search_58 N k29 s x1 x2 x3) s 58 [(0, rf G.1 30), (1, .int x1), (2, .int x2), (3, .int x3)] [] := by
  unfold f_X3_search_58
  refine tr_iincB (b := 1) (lv2 := fun y9 => [(3, .int y9), (0, rf G.1 30), (1, .int x1), (2, .int x2)]) hX 3 dX3_search_58 rfl rfl (by decide) (fun _ => rfl) fun y9 => ?_
  refine tr_goto hX 29 dX3_search_61 (by decide) ?_
  refine tr_lv (lv2 := [(0, rf G.1 30), (1, .int x1), (2, .int x2), (3, .int y9)]) [1, 2, 3, 0] rfl ?_
  exact hk29 s x1 x2 y9
set_option maxRecDepth 20000 in
set_option maxHeartbeats 2000000 in
theorem w_X3_search_29 {G : Gx} (hX : ok G cX3_search 5 RX3 (some .int) 2 45) (hR : okR G) (hE : va_D (AW G.1) (wd G.1 (fun _ _ => 0))) (N : Nat) (k29 : Hp → Int32 → Int32 → Int32 → Option (Int32 × Hp)) (hk29 : ∀ (s : Hp) (x1 x2 x3 : Int32), T G (k29 s x1 x2 x3) s 29 [(0, rf G.1 30), (1, .int x1), (2, .int x2), (3, .int x3)] []) (s : Hp) (x1 x2 x3 : Int32) : T G (f_X3_search_29 N k29 s x1 x2 x3) s 29 [(0, rf G.1 30), (1, .int x1), (2, .int x2), (3, .int x3)] [] := by
  unfold f_X3_search_29
  refine tr_iload_n hX 3 dX3_search_29 rfl rfl ?_
  refine tr_iload_n hX 1 dX3_search_30 rfl rfl ?_
  refine tr_icmp_ge hX 64 dX3_search_31 (by decide) ?_ ?_
  · refine tr_iload_n hX 2 dX3_search_64 rfl rfl ?_
    exact tr_iret hX hR dX3_search_65
  · refine tr_aload_n hX 0 dX3_search_34 rfl rfl ?_
    refine tr_iload_n hX 3 dX3_search_35 rfl rfl ?_
    refine tr_callVv hX 30 [.int x3] kv_X3_choose wm_669 (by decide) rfl rfl rfl (by decide) rfl rfl (Nat.le_of_ble_eq_true rfl) dX3_search_36 (fun vq sq hq => c_X3_choose G.1 hE N s x3 (vq, sq) hq) fun v4 s3 => ?_
    refine tr_aload_n hX 0 dX3_search_39 rfl rfl ?_
    refine tr_callV hX 30 [] kv_X3_worthOfChosen wm_673 (by decide) rfl rfl rfl (by decide) rfl rfl (Nat.le_of_ble_eq_true rfl) dX3_search_40 (fun vq sq hq => c_X3_worthOfChosen G.1 hE N s3 (vq, sq) hq) fun v6 s5 => ?_
    refine tr_istore (lv2 := [(4, .int v6), (0, rf G.1 30), (1, .int x1), (2, .int x2), (3, .int x3)]) hX dX3_search_43 (by decide) rfl ?_
    refine tr_iload hX 0 dX3_search_45 rfl ?_
    refine tr_iload_n hX 3 dX3_search_47 rfl rfl ?_
    refine tr_icmp_le hX 58 dX3_search_48 (by decide) ?_ ?_
    · refine tr_lv (lv2 := [(0, rf G.1 30), (1, .int x1), (2, .int x2), (3, .int x3)]) [1, 2, 3, 4] rfl ?_
      exact w_X3_search_58 hX hR hE N k29 hk29 s5 x1 x2 x3
    · refine tr_iload hX 0 dX3_search_51 rfl ?_
      refine tr_istore_n (lv2 := [(2, .int v6), (4, .int v6), (0, rf G.1 30), (1, .int x1), (3, .int x3)]) hX dX3_search_53 rfl (by decide) rfl ?_
      refine tr_aload_n hX 2 dX3_search_54 rfl rfl ?_
      refine tr_callVv hX 30 [] kv_X3_keepChosen wm_678 (by decide) rfl rfl rfl (by decide) rfl rfl (Nat.le_of_ble_eq_true rfl) dX3_search_55 (fun vq sq hq => c_X3_keepChosen G.1 hE N s5 (vq, sq) hq) fun v8 s7 => ?_
      refine tr_lv (lv2 := [(0, rf G.1 30), (1, .int x1), (2, .int v6), (3, .int x3)]) [2, 3, 0, 4] rfl ?_
      exact w_X3_search_58 hX hR hE N k29 hk29 s7 x1 v6 x3
theorem wl_X3_search_29 {G : Gx} (hX : ok G cX3_search 5 RX3 (some .int) 2 45) (hR : okR G) (hE : va_D (AW G.1) (wd G.1 (fun _ _ => 0))) (N : Nat) : ∀ (n : Nat) (s : Hp) (x1 x2 x3 : Int32), T G (lp (fun _ _ _ _ => none) (f_X3_search_29 N) n s x1 x2 x3) s 29 [(0, rf G.1 30), (1, .int x1), (2, .int x2), (3, .int x3)] [] := by
  intro n
  induction n with
  | zero => exact fun s x1 x2 x3 h => nomatch (show (none : Option (Int32 × Hp)) = some _ from h)
  | succ n ih => exact fun s x1 x2 x3 => w_X3_search_29 hX hR hE N _ ih s x1 x2 x3
set_option maxRecDepth 20000 in
set_option maxHeartbeats 2000000 in
theorem w_X3_search_4 {G : Gx} (hX : ok G cX3_search 5 RX3 (some .int) 2 45) (hR : okR G) (hE : va_D (AW G.1) (wd G.1 (fun _ _ => 0))) (N : Nat) (k4 : Hp → Int32 → Int32 → Option (Int32 × Hp)) (hk4 : ∀ (s : Hp) (x1 x2 : Int32), T G (k4 s x1 x2) s 4 [(0, rf G.1 30), (1, .int x1), (2, .int x2)] []) (s : Hp) (x1 x2 : Int32) : T G (f_X3_search_4 N k4 s x1 x2) s 4 [(0, rf G.1 30), (1, .int x1), (2, .int x2)] [] := by
  unfold f_X3_search_4
  refine tr_iload_n hX 2 dX3_search_4 rfl rfl ?_
  refine tr_aload_n hX 0 dX3_search_5 rfl rfl ?_
  refine tr_getI hX 30 5 (by decide) rfl rfl rfl (by decide) gX3 wm_267 dX3_search_6 ?_
  refine tr_icmp_ge hX 25 dX3_search_9 (by decide) ?_ ?_
  · refine tr_iconst (v := (-1)) hX dX3_search_25 rfl ?_
    refine tr_istore_n (lv2 := [(2, .int (-1)), (0, rf G.1 30), (1, .int x1)]) hX dX3_search_26 rfl (by decide) rfl ?_
    refine tr_iconst (v := 0) hX dX3_search_27 rfl ?_
    refine tr_istore_n (lv2 := [(3, .int 0), (2, .int (-1)), (0, rf G.1 30), (1, .int x1)]) hX dX3_search_28 rfl (by decide) rfl ?_
    refine tr_lv (lv2 := [(0, rf G.1 30), (1, .int x1), (2, .int (-1)), (3, .int 0)]) [2, 3, 1, 0] rfl ?_
    exact wl_X3_search_29 hX hR hE N N s x1 (-1) 0
  · refine tr_iload_n hX 1 dX3_search_12 rfl rfl ?_
    refine tr_aload_n hX 0 dX3_search_13 rfl rfl ?_
    refine tr_getI hX 30 7 (by decide) rfl rfl rfl (by decide) gX3 wm_270 dX3_search_14 ?_
    refine tr_imul hX dX3_search_17 ?_
    refine tr_istore_nB (lv2 := fun y1 => [(1, .int y1), (0, rf G.1 30), (2, .int x2)]) hX dX3_search_18 rfl (by decide) (fun _ => rfl) fun y1 => ?_
    refine tr_iincB (b := 1) (lv2 := fun y2 => [(2, .int y2), (1, .int y1), (0, rf G.1 30)]) hX 2 dX3_search_19 rfl rfl (by decide) (fun _ => rfl) fun y2 => ?_
    refine tr_goto hX 4 dX3_search_22 (by decide) ?_
    refine tr_lv (lv2 := [(0, rf G.1 30), (1, .int y1), (2, .int y2)]) [2, 1, 0] rfl ?_
    exact hk4 s y1 y2
theorem wl_X3_search_4 {G : Gx} (hX : ok G cX3_search 5 RX3 (some .int) 2 45) (hR : okR G) (hE : va_D (AW G.1) (wd G.1 (fun _ _ => 0))) (N : Nat) : ∀ (n : Nat) (s : Hp) (x1 x2 : Int32), T G (lp (fun _ _ _ => none) (f_X3_search_4 N) n s x1 x2) s 4 [(0, rf G.1 30), (1, .int x1), (2, .int x2)] [] := by
  intro n
  induction n with
  | zero => exact fun s x1 x2 h => nomatch (show (none : Option (Int32 × Hp)) = some _ from h)
  | succ n ih => exact fun s x1 x2 => w_X3_search_4 hX hR hE N _ ih s x1 x2
set_option maxRecDepth 20000 in
set_option maxHeartbeats 2000000 in
theorem w_X3_search {G : Gx} (hX : ok G cX3_search 5 RX3 (some .int) 2 45) (hR : okR G) (hE : va_D (AW G.1) (wd G.1 (fun _ _ => 0))) (N : Nat) (s : Hp) : T G (f_X3_search N s) s 0 [(0, rf G.1 30)] [] := by
  unfold f_X3_search
  refine tr_iconst (v := 1) hX dX3_search_0 rfl ?_
  refine tr_istore_n (lv2 := [(1, .int 1), (0, rf G.1 30)]) hX dX3_search_1 rfl (by decide) rfl ?_
  refine tr_iconst (v := 0) hX dX3_search_2 rfl ?_
  refine tr_istore_n (lv2 := [(2, .int 0), (1, .int 1), (0, rf G.1 30)]) hX dX3_search_3 rfl (by decide) rfl ?_
  refine tr_lv (lv2 := [(0, rf G.1 30), (1, .int 1), (2, .int 0)]) [2, 1, 0] rfl ?_
  exact wl_X3_search_4 hX hR hE N N s 1 0
theorem c_X3_search (E : Ex) (hE : va_D (AW E) (wd E (fun _ _ => 0))) (N : Nat) (s : Hp) (r : Int32 × Hp) (h : f_X3_search N s = some r) : CtrI E yX3_search cX3_search 5 (some .int) 2 45 [rf E 30] s r :=
  ctrI_of (by decide +kernel) hE (Nat.le_of_ble_eq_true rfl) h (fun G hX hR hG => by subst hG; exact w_X3_search hX hR hE N s)
set_option maxRecDepth 20000 in
set_option maxHeartbeats 2000000 in
theorem w_X9_sweep {G : Gx} (hX : ok G cX9_sweep 5 RX9 (some .int) 3 69) (hR : okR G) (hE : va_D (AW G.1) (wd G.1 (fun _ _ => 0))) (N : Nat) (s : Hp) (x1 x2 x3 x4 : Int32) : T G (f_X9_sweep N s x1 x2 x3 x4) s 0 [(0, rf G.1 0), (1, .int x1), (2, .int x2), (3, .int x3), (4, .int x4)] [] := by
  unfold f_X9_sweep
  refine tr_iload_n hX 1 dX9_sweep_0 rfl rfl ?_
  refine tr_if_le hX 56 dX9_sweep_1 (by decide) ?_ ?_
  · refine tr_iconst (v := (-1)) hX dX9_sweep_56 rfl ?_
    exact tr_iret hX hR dX9_sweep_57
  · refine tr_iload_n hX 1 dX9_sweep_4 rfl rfl ?_
    refine tr_ldc (v := 65536) hX wm_647 dX9_sweep_5 ?_
    refine tr_icmp_ge hX 56 dX9_sweep_7 (by decide) ?_ ?_
    · refine tr_iconst (v := (-1)) hX dX9_sweep_56 rfl ?_
      exact tr_iret hX hR dX9_sweep_57
    · refine tr_iload_n hX 2 dX9_sweep_10 rfl rfl ?_
      refine tr_sipush (v := 10000) hX dX9_sweep_11 rfl ?_
      refine tr_callS hX [.int x2, .int 10000] ks_X9_isBelow wm_320 (by decide) rfl rfl (Nat.le_of_ble_eq_true rfl) dX9_sweep_14 (fun vq sq hq => c_X9_isBelow G.1 hE N s x2 10000 (vq, sq) hq) fun v2 s1 => ?_
      refine tr_if_eq hX 56 dX9_sweep_17 (by decide) ?_ ?_
      · refine tr_iconst (v := (-1)) hX dX9_sweep_56 rfl ?_
        exact tr_iret hX hR dX9_sweep_57
      · refine tr_iload_n hX 3 dX9_sweep_20 rfl rfl ?_
        refine tr_iconst (v := 1) hX dX9_sweep_21 rfl ?_
        refine tr_icmp_lt hX 56 dX9_sweep_22 (by decide) ?_ ?_
        · refine tr_iconst (v := (-1)) hX dX9_sweep_56 rfl ?_
          exact tr_iret hX hR dX9_sweep_57
        · refine tr_iload_n hX 3 dX9_sweep_25 rfl rfl ?_
          refine tr_iconst (v := 4) hX dX9_sweep_26 rfl ?_
          refine tr_icmp_gt hX 56 dX9_sweep_27 (by decide) ?_ ?_
          · refine tr_iconst (v := (-1)) hX dX9_sweep_56 rfl ?_
            exact tr_iret hX hR dX9_sweep_57
          · refine tr_iload hX 4 dX9_sweep_30 rfl ?_
            refine tr_iconst (v := 1) hX dX9_sweep_32 rfl ?_
            refine tr_icmp_lt hX 56 dX9_sweep_33 (by decide) ?_ ?_
            · refine tr_iconst (v := (-1)) hX dX9_sweep_56 rfl ?_
              exact tr_iret hX hR dX9_sweep_57
            · refine tr_iload hX 4 dX9_sweep_36 rfl ?_
              refine tr_sipush (v := 240) hX dX9_sweep_38 rfl ?_
              refine tr_icmp_gt hX 56 dX9_sweep_41 (by decide) ?_ ?_
              · refine tr_iconst (v := (-1)) hX dX9_sweep_56 rfl ?_
                exact tr_iret hX hR dX9_sweep_57
              · refine tr_iload_n hX 2 dX9_sweep_44 rfl rfl ?_
                refine tr_iload_n hX 3 dX9_sweep_45 rfl rfl ?_
                refine tr_iload hX 4 dX9_sweep_46 rfl ?_
                refine tr_imul hX dX9_sweep_48 ?_
                refine tr_iadd hX dX9_sweep_49 ?_
                refine tr_sipush (v := 10000) hX dX9_sweep_50 rfl ?_
                refine tr_icmp_le hX 58 dX9_sweep_53 (by decide) ?_ ?_
                · refine tr_aload_n hX 0 dX9_sweep_58 rfl rfl ?_
                  refine tr_getR hX 0 8 (by decide) rfl rfl rfl (by decide) gX9 wm_296 dX9_sweep_59 ?_
                  refine tr_iload_n hX 2 dX9_sweep_62 rfl rfl ?_
                  refine tr_iload_n hX 3 dX9_sweep_63 rfl rfl ?_
                  refine tr_iload hX 4 dX9_sweep_64 rfl ?_
                  refine tr_callVv hX 30 [.int x2, .int x3, .int x4] kv_X3_lay wm_648 (by decide) rfl rfl rfl (by decide) rfl rfl (Nat.le_of_ble_eq_true rfl) dX9_sweep_66 (fun vq sq hq => c_X3_lay G.1 hE N s1 x2 x3 x4 (vq, sq) hq) fun v4 s3 => ?_
                  refine tr_aload_n hX 0 dX9_sweep_69 rfl rfl ?_
                  refine tr_getR hX 0 8 (by decide) rfl rfl rfl (by decide) gX9 wm_296 dX9_sweep_70 ?_
                  refine tr_aload_n hX 0 dX9_sweep_73 rfl rfl ?_
                  refine tr_getR hX 0 1 (by decide) rfl rfl rfl (by decide) gX9 wm_289 dX9_sweep_74 ?_
                  refine tr_iload_n hX 1 dX9_sweep_77 rfl rfl ?_
                  refine tr_callVv hX 30 [rf G.1 4, .int x1] kv_X3_look wm_653 (by decide) rfl rfl rfl (by decide) rfl rfl (Nat.le_of_ble_eq_true rfl) dX9_sweep_78 (fun vq sq hq => c_X3_look G.1 hE N s3 x1 (vq, sq) hq) fun v6 s5 => ?_
                  refine tr_aload_n hX 0 dX9_sweep_81 rfl rfl ?_
                  refine tr_getR hX 0 8 (by decide) rfl rfl rfl (by decide) gX9 wm_296 dX9_sweep_82 ?_
                  refine tr_callV hX 30 [] kv_X3_search wm_665 (by decide) rfl rfl rfl (by decide) rfl rfl (Nat.le_of_ble_eq_true rfl) dX9_sweep_85 (fun vq sq hq => c_X3_search G.1 hE N s5 (vq, sq) hq) fun v8 s7 => ?_
                  exact tr_iret hX hR dX9_sweep_88
                · refine tr_iconst (v := (-1)) hX dX9_sweep_56 rfl ?_
                  exact tr_iret hX hR dX9_sweep_57
theorem c_X9_sweep (E : Ex) (hE : va_D (AW E) (wd E (fun _ _ => 0))) (N : Nat) (s : Hp) (x1 x2 x3 x4 : Int32) (r : Int32 × Hp) (h : f_X9_sweep N s x1 x2 x3 x4 = some r) : CtrI E yX9_sweep cX9_sweep 5 (some .int) 3 69 [rf E 0, .int x1, .int x2, .int x3, .int x4] s r :=
  ctrI_of (by decide +kernel) hE (Nat.le_of_ble_eq_true rfl) h (fun G hX hR hG => by subst hG; exact w_X9_sweep hX hR hE N s x1 x2 x3 x4)
