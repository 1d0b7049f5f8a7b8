set_option maxRecDepth 20000 in
set_option maxHeartbeats 2000000 in
theorem w_X8_add_3 {G : Gx} (hX : ok G cX8_add 3 RX8 none 0 0) (hR : okV G) (hE : va_D (AW G.1) (wd G.1 (fun _ _ => 0))) (N : Nat) (k3 : Hp → Int32 → Int32 → Option (Int32 × Hp)) (hk3 : ∀ (s : Hp) (x1 x2 : Int32), T G (k3 s x1 x2) s 3 [(0, rf G.1 24), (1, .int x1), (2, .int x2)] []) (s : Hp) (x1 x2 : Int32) : T G (f_X8_add_3 N k3 s x1 x2) s 3 [(0, rf G.1 24), (1, .int x1), (2, .int x2)] [] := by
  unfold f_X8_add_3
  refine tr_iload_n hX 2 dX8_add_3 rfl rfl ?_
  refine tr_if_lt hX 48 dX8_add_4 (by decide) ?_ ?_
  · exact tr_vret hX hR dX8_add_48
  · refine tr_aload_n hX 0 dX8_add_7 rfl rfl ?_
    refine tr_getI hX 24 1 (by decide) rfl rfl rfl (by decide) gX8 wm_199 dX8_add_8 ?_
    refine tr_bipush (v := 100) hX dX8_add_11 rfl ?_
    refine tr_icmp_ge hX 48 dX8_add_13 (by decide) ?_ ?_
    · exact tr_vret hX hR dX8_add_48
    · refine tr_aload_n hX 0 dX8_add_16 rfl rfl ?_
      refine tr_getR hX 24 0 (by decide) rfl rfl rfl (by decide) gX8 wm_198 dX8_add_17 ?_
      refine tr_aload_n hX 0 dX8_add_20 rfl rfl ?_
      refine tr_getI hX 24 1 (by decide) rfl rfl rfl (by decide) gX8 wm_199 dX8_add_21 ?_
      refine tr_iload_n hX 1 dX8_add_24 rfl rfl ?_
      refine tr_iload_n hX 2 dX8_add_25 rfl rfl ?_
      refine tr_iushr hX dX8_add_26 ?_
      refine tr_sipush (v := 255) hX dX8_add_27 rfl ?_
      refine tr_iand hX dX8_add_30 ?_
      refine tr_iast hX 25 (by decide) rfl dX8_add_31 fun s1 => ?_
      refine tr_aload_n hX 0 dX8_add_32 rfl rfl ?_
      refine tr_dup hX dX8_add_33 rfl ?_
      refine tr_getI hX 24 1 (by decide) rfl rfl rfl (by decide) gX8 wm_199 dX8_add_34 ?_
      refine tr_iconst (v := 1) hX dX8_add_37 rfl ?_
      refine tr_iadd hX dX8_add_38 ?_
      refine tr_putI hX 24 1 tyX8 tyX8_ok nmX8 (by decide) rfl rfl rfl (by decide) gX8 wm_199 rfl (by decide +kernel) dX8_add_39 fun s2 => ?_
      refine tr_iincB (b := (-8)) (lv2 := fun y3 => [(2, .int y3), (0, rf G.1 24), (1, .int x1)]) hX 2 dX8_add_42 rfl rfl (by decide) (fun _ => rfl) fun y3 => ?_
      refine tr_goto hX 3 dX8_add_45 (by decide) ?_
      refine tr_lv (lv2 := [(0, rf G.1 24), (1, .int x1), (2, .int y3)]) [1, 2, 0] rfl ?_
      exact hk3 s2 x1 y3
theorem wl_X8_add_3 {G : Gx} (hX : ok G cX8_add 3 RX8 none 0 0) (hR : okV G) (hE : va_D (AW G.1) (wd G.1 (fun _ _ => 0))) (N : Nat) : ∀ (n : Nat) (s : Hp) (x1 x2 : Int32), T G (lp (fun _ _ _ => none) (f_X8_add_3 N) n s x1 x2) s 3 [(0, rf G.1 24), (1, .int x1), (2, .int x2)] [] := by
  intro n
  induction n with
  | zero => exact fun s x1 x2 h => nomatch (show (none : Option (Int32 × Hp)) = some _ from h)
  | succ n ih => exact fun s x1 x2 => w_X8_add_3 hX hR hE N _ ih s x1 x2
set_option maxRecDepth 20000 in
set_option maxHeartbeats 2000000 in
theorem w_X8_add {G : Gx} (hX : ok G cX8_add 3 RX8 none 0 0) (hR : okV G) (hE : va_D (AW G.1) (wd G.1 (fun _ _ => 0))) (N : Nat) (s : Hp) (x1 : Int32) : T G (f_X8_add N s x1) s 0 [(0, rf G.1 24), (1, .int x1)] [] := by
  unfold f_X8_add
  refine tr_bipush (v := 24) hX dX8_add_0 rfl ?_
  refine tr_istore_n (lv2 := [(2, .int 24), (0, rf G.1 24), (1, .int x1)]) hX dX8_add_2 rfl (by decide) rfl ?_
  refine tr_lv (lv2 := [(0, rf G.1 24), (1, .int x1), (2, .int 24)]) [1, 2, 0] rfl ?_
  exact wl_X8_add_3 hX hR hE N N s x1 24
theorem c_X8_add (E : Ex) (hE : va_D (AW E) (wd E (fun _ _ => 0))) (N : Nat) (s : Hp) (x1 : Int32) (r : Int32 × Hp) (h : f_X8_add N s x1 = some r) : CtrV E yX8_add cX8_add 3 none 0 0 [rf E 24, .int x1] s r :=
  ctrV_of (by decide +kernel) hE (Nat.le_of_ble_eq_true rfl) h (fun G hX hR hG => by subst hG; exact w_X8_add hX hR hE N s x1)
set_option maxRecDepth 20000 in
set_option maxHeartbeats 2000000 in
theorem w_X9_feed {G : Gx} (hX : ok G cX9_feed 6 RX9 (some .int) 1 22) (hR : okR G) (hE : va_D (AW G.1) (wd G.1 (fun _ _ => 0))) (N : Nat) (s : Hp) (x1 x2 x3 x4 x5 : Int32) : T G (f_X9_feed N s x1 x2 x3 x4 x5) s 0 [(0, rf G.1 0), (1, .int x1), (2, .int x2), (3, .int x3), (4, .int x4), (5, .int x5)] [] := by
  unfold f_X9_feed
  refine tr_aload_n hX 0 dX9_feed_0 rfl rfl ?_
  refine tr_getR hX 0 5 (by decide) rfl rfl rfl (by decide) gX9 wm_293 dX9_feed_1 ?_
  refine tr_getNI hX 24 1 (by decide) rfl rfl rfl (by decide) gX8 wm_200 dX9_feed_4 ?_
  refine tr_bipush (v := 20) hX dX9_feed_7 rfl ?_
  refine tr_iadd hX dX9_feed_9 ?_
  refine tr_bipush (v := 100) hX dX9_feed_10 rfl ?_
  refine tr_icmp_le hX 17 dX9_feed_12 (by decide) ?_ ?_
  · refine tr_aload_n hX 0 dX9_feed_17 rfl rfl ?_
    refine tr_getR hX 0 5 (by decide) rfl rfl rfl (by decide) gX9 wm_293 dX9_feed_18 ?_
    refine tr_iload_n hX 1 dX9_feed_21 rfl rfl ?_
    refine tr_callVv hX 24 [.int x1] kv_X8_add wm_484 (by decide) rfl rfl rfl (by decide) rfl rfl (Nat.le_of_ble_eq_true rfl) dX9_feed_22 (fun vq sq hq => c_X8_add G.1 hE N s x1 (vq, sq) hq) fun v2 s1 => ?_
    refine tr_aload_n hX 0 dX9_feed_25 rfl rfl ?_
    refine tr_getR hX 0 5 (by decide) rfl rfl rfl (by decide) gX9 wm_293 dX9_feed_26 ?_
    refine tr_iload_n hX 2 dX9_feed_29 rfl rfl ?_
    refine tr_callVv hX 24 [.int x2] kv_X8_add wm_484 (by decide) rfl rfl rfl (by decide) rfl rfl (Nat.le_of_ble_eq_true rfl) dX9_feed_30 (fun vq sq hq => c_X8_add G.1 hE N s1 x2 (vq, sq) hq) fun v4 s3 => ?_
    refine tr_aload_n hX 0 dX9_feed_33 rfl rfl ?_
    refine tr_getR hX 0 5 (by decide) rfl rfl rfl (by decide) gX9 wm_293 dX9_feed_34 ?_
    refine tr_iload_n hX 3 dX9_feed_37 rfl rfl ?_
    refine tr_callVv hX 24 [.int x3] kv_X8_add wm_484 (by decide) rfl rfl rfl (by decide) rfl rfl (Nat.le_of_ble_eq_true rfl) dX9_feed_38 (fun vq sq hq => c_X8_add G.1 hE N s3 x3 (vq, sq) hq) fun v6 s5 => ?_
    refine tr_aload_n hX 0 dX9_feed_41 rfl rfl ?_
    refine tr_getR hX 0 5 (by decide) rfl rfl rfl (by decide) gX9 wm_293 dX9_feed_42 ?_
    refine tr_iload hX 4 dX9_feed_45 rfl ?_
    refine tr_callVv hX 24 [.int x4] kv_X8_add wm_484 (by decide) rfl rfl rfl (by decide) rfl rfl (Nat.le_of_ble_eq_true rfl) dX9_feed_47 (fun vq sq hq => c_X8_add G.1 hE N s5 x4 (vq, sq) hq) fun v8 s7 => ?_
    refine tr_aload_n hX 0 dX9_feed_50 rfl rfl ?_
    refine tr_getR hX 0 5 (by decide) rfl rfl rfl (by decide) gX9 wm_293 dX9_feed_51 ?_
    refine tr_iload hX 5 dX9_feed_54 rfl ?_
    refine tr_callVv hX 24 [.int x5] kv_X8_add wm_484 (by decide) rfl rfl rfl (by decide) rfl rfl (Nat.le_of_ble_eq_true rfl) dX9_feed_56 (fun vq sq hq => c_X8_add G.1 hE N s7 x5 (vq, sq) hq) fun v10 s9 => ?_
    refine tr_aload_n hX 0 dX9_feed_59 rfl rfl ?_
    refine tr_getR hX 0 5 (by decide) rfl rfl rfl (by decide) gX9 wm_293 dX9_feed_60 ?_
    refine tr_getNI hX 24 1 (by decide) rfl rfl rfl (by decide) gX8 wm_200 dX9_feed_63 ?_
    exact tr_iret hX hR dX9_feed_66
  · refine tr_iconst (v := (-1)) hX dX9_feed_15 rfl ?_
    exact tr_iret hX hR dX9_feed_16
theorem c_X9_feed (E : Ex) (hE : va_D (AW E) (wd E (fun _ _ => 0))) (N : Nat) (s : Hp) (x1 x2 x3 x4 x5 : Int32) (r : Int32 × Hp) (h : f_X9_feed N s x1 x2 x3 x4 x5 = some r) : CtrI E yX9_feed cX9_feed 6 (some .int) 1 22 [rf E 0, .int x1, .int x2, .int x3, .int x4, .int x5] s r :=
  ctrI_of (by decide +kernel) hE (Nat.le_of_ble_eq_true rfl) h (fun G hX hR hG => by subst hG; exact w_X9_feed hX hR hE N s x1 x2 x3 x4 x5)
set_option maxRecDepth 20000 in
set_option maxHeartbeats 2000000 in
theorem w_X9_end {G : Gx} (hX : ok G cX9_end 2 RX9 (some .int) 0 0) (hR : okR G) (hE : va_D (AW G.1) (wd G.1 (fun _ _ => 0))) (N : Nat) (s : Hp) (x1 : Int32) : T G (f_X9_end N s x1) s 0 [(0, rf G.1 0), (1, .int x1)] [] := by
  unfold f_X9_end
  refine tr_iload_n hX 1 dX9_end_0 rfl rfl ?_
  refine tr_if_lt hX 15 dX9_end_1 (by decide) ?_ ?_
  · refine tr_iconst (v := (-1)) hX dX9_end_15 rfl ?_
    exact tr_iret hX hR dX9_end_16
  · refine tr_iload_n hX 1 dX9_end_4 rfl rfl ?_
    refine tr_aload_n hX 0 dX9_end_5 rfl rfl ?_
    refine tr_getR hX 0 5 (by decide) rfl rfl rfl (by decide) gX9 wm_293 dX9_end_6 ?_
    refine tr_getNI hX 24 1 (by decide) rfl rfl rfl (by decide) gX8 wm_200 dX9_end_9 ?_
    refine tr_icmp_le hX 17 dX9_end_12 (by decide) ?_ ?_
    · refine tr_aload_n hX 0 dX9_end_17 rfl rfl ?_
      refine tr_getR hX 0 5 (by decide) rfl rfl rfl (by decide) gX9 wm_293 dX9_end_18 ?_
      refine tr_iload_n hX 1 dX9_end_21 rfl rfl ?_
      refine tr_putNI hX 24 1 tyX8 tyX8_ok nmX8 (by decide) rfl rfl rfl (by decide) gX8 wm_200 rfl (by decide +kernel) dX9_end_22 fun s1 => ?_
      refine tr_iload_n hX 1 dX9_end_25 rfl rfl ?_
      exact tr_iret hX hR dX9_end_26
    · refine tr_iconst (v := (-1)) hX dX9_end_15 rfl ?_
      exact tr_iret hX hR dX9_end_16
theorem c_X9_end (E : Ex) (hE : va_D (AW E) (wd E (fun _ _ => 0))) (N : Nat) (s : Hp) (x1 : Int32) (r : Int32 × Hp) (h : f_X9_end N s x1 = some r) : CtrI E yX9_end cX9_end 2 (some .int) 0 0 [rf E 0, .int x1] s r :=
  ctrI_of (by decide +kernel) hE (Nat.le_of_ble_eq_true rfl) h (fun G hX hR hG => by subst hG; exact w_X9_end hX hR hE N s x1)
set_option maxRecDepth 20000 in
set_option maxHeartbeats 2000000 in
theorem w_X8_kindOf_40 {G : Gx} (hX : ok G cX8_kindOf 1 RX8 (some .int) 0 0) (hR : okR G) (hE : va_D (AW G.1) (wd G.1 (fun _ _ => 0))) (N : Nat) (s : Hp) (x0 : Int32) : T G (f_X8_kindOf_40 N s x0) s 40 [(0, .int x0)] [] := by
  unfold f_X8_kindOf_40
  refine tr_iload_n hX 0 dX8_kindOf_40 rfl rfl ?_
  refine tr_bipush (v := 45) hX dX8_kindOf_41 rfl ?_
  refine tr_icmp_ne hX 48 dX8_kindOf_43 (by decide) ?_ ?_
  · refine tr_iload_n hX 0 dX8_kindOf_48 rfl rfl ?_
    refine tr_bipush (v := 59) hX dX8_kindOf_49 rfl ?_
    refine tr_icmp_ne hX 58 dX8_kindOf_51 (by decide) ?_ ?_
    · refine tr_iconst (v := 5) hX dX8_kindOf_58 rfl ?_
      exact tr_iret hX hR dX8_kindOf_59
    · refine tr_iconst (v := 4) hX dX8_kindOf_54 rfl ?_
      refine tr_goto hX 59 dX8_kindOf_55 (by decide) ?_
      exact tr_iret hX hR dX8_kindOf_59
  · refine tr_iconst (v := 3) hX dX8_kindOf_46 rfl ?_
    exact tr_iret hX hR dX8_kindOf_47
set_option maxRecDepth 20000 in
set_option maxHeartbeats 2000000 in
theorem w_X8_kindOf_26 {G : Gx} (hX : ok G cX8_kindOf 1 RX8 (some .int) 0 0) (hR : okR G) (hE : va_D (AW G.1) (wd G.1 (fun _ _ => 0))) (N : Nat) (s : Hp) (x0 : Int32) : T G (f_X8_kindOf_26 N s x0) s 26 [(0, .int x0)] [] := by
  unfold f_X8_kindOf_26
  refine tr_iload_n hX 0 dX8_kindOf_26 rfl rfl ?_
  refine tr_bipush (v := 48) hX dX8_kindOf_27 rfl ?_
  refine tr_icmp_lt hX 40 dX8_kindOf_29 (by decide) ?_ ?_
  · exact w_X8_kindOf_40 hX hR hE N s x0
  · refine tr_iload_n hX 0 dX8_kindOf_32 rfl rfl ?_
    refine tr_bipush (v := 57) hX dX8_kindOf_33 rfl ?_
    refine tr_icmp_gt hX 40 dX8_kindOf_35 (by decide) ?_ ?_
    · exact w_X8_kindOf_40 hX hR hE N s x0
    · refine tr_iconst (v := 2) hX dX8_kindOf_38 rfl ?_
      exact tr_iret hX hR dX8_kindOf_39
set_option maxRecDepth 20000 in
set_option maxHeartbeats 2000000 in
theorem w_X8_kindOf_12 {G : Gx} (hX : ok G cX8_kindOf 1 RX8 (some .int) 0 0) (hR : okR G) (hE : va_D (AW G.1) (wd G.1 (fun _ _ => 0))) (N : Nat) (s : Hp) (x0 : Int32) : T G (f_X8_kindOf_12 N s x0) s 12 [(0, .int x0)] [] := by
  unfold f_X8_kindOf_12
  refine tr_iload_n hX 0 dX8_kindOf_12 rfl rfl ?_
  refine tr_bipush (v := 65) hX dX8_kindOf_13 rfl ?_
  refine tr_icmp_lt hX 26 dX8_kindOf_15 (by decide) ?_ ?_
  · exact w_X8_kindOf_26 hX hR hE N s x0
  · refine tr_iload_n hX 0 dX8_kindOf_18 rfl rfl ?_
    refine tr_bipush (v := 90) hX dX8_kindOf_19 rfl ?_
    refine tr_icmp_gt hX 26 dX8_kindOf_21 (by decide) ?_ ?_
    · exact w_X8_kindOf_26 hX hR hE N s x0
    · refine tr_iconst (v := 1) hX dX8_kindOf_24 rfl ?_
      exact tr_iret hX hR dX8_kindOf_25
set_option maxRecDepth 20000 in
set_option maxHeartbeats 2000000 in
theorem w_X8_kindOf {G : Gx} (hX : ok G cX8_kindOf 1 RX8 (some .int) 0 0) (hR : okR G) (hE : va_D (AW G.1) (wd G.1 (fun _ _ => 0))) (N : Nat) (s : Hp) (x0 : Int32) : T G (f_X8_kindOf N s x0) s 0 [(0, .int x0)] [] := by
  unfold f_X8_kindOf
  refine tr_iload_n hX 0 dX8_kindOf_0 rfl rfl ?_
  refine tr_bipush (v := 97) hX dX8_kindOf_1 rfl ?_
  refine tr_icmp_lt hX 12 dX8_kindOf_3 (by decide) ?_ ?_
  · exact w_X8_kindOf_12 hX hR hE N s x0
  · refine tr_iload_n hX 0 dX8_kindOf_6 rfl rfl ?_
    refine tr_bipush (v := 122) hX dX8_kindOf_7 rfl ?_
    refine tr_icmp_le hX 24 dX8_kindOf_9 (by decide) ?_ ?_
    · refine tr_iconst (v := 1) hX dX8_kindOf_24 rfl ?_
      exact tr_iret hX hR dX8_kindOf_25
    · exact w_X8_kindOf_12 hX hR hE N s x0
theorem c_X8_kindOf (E : Ex) (hE : va_D (AW E) (wd E (fun _ _ => 0))) (N : Nat) (s : Hp) (x0 : Int32) (r : Int32 × Hp) (h : f_X8_kindOf N s x0 = some r) : CtrI E yX8_kindOf cX8_kindOf 1 (some .int) 0 0 [.int x0] s r :=
  ctrI_of (by decide +kernel) hE (Nat.le_of_ble_eq_true rfl) h (fun G hX hR hG => by subst hG; exact w_X8_kindOf hX hR hE N s x0)
set_option maxRecDepth 20000 in
set_option maxHeartbeats 2000000 in
theorem w_X8_step_123 {G : Gx} (hX : ok G cX8_step 2 RX8 none 1 20) (hR : okV G) (hE : va_D (AW G.1) (wd G.1 (fun _ _ => 0))) (N : Nat) (k123 : Hp → Int32 → Option (Int32 × Hp)) (hk123 : ∀ (s : Hp) (x1 : Int32), T G (k123 s x1) s 123 [(0, rf G.1 24), (1, .int x1)] []) (s : Hp) (x1 : Int32) : T G (f_X8_step_123 N k123 s x1) s 123 [(0, rf G.1 24), (1, .int x1)] [] := by
  unfold f_X8_step_123
  refine tr_iload_n hX 1 dX8_step_123 rfl rfl ?_
  refine tr_if_eq hX 170 dX8_step_124 (by decide) ?_ ?_
  · exact tr_vret hX hR dX8_step_170
  · refine tr_aload_n hX 0 dX8_step_127 rfl rfl ?_
    refine tr_getI hX 24 3 (by decide) rfl rfl rfl (by decide) gX8 wm_203 dX8_step_128 ?_
    refine tr_aload_n hX 0 dX8_step_131 rfl rfl ?_
    refine tr_getI hX 24 1 (by decide) rfl rfl rfl (by decide) gX8 wm_199 dX8_step_132 ?_
    refine tr_icmp_ge hX 170 dX8_step_135 (by decide) ?_ ?_
    · exact tr_vret hX hR dX8_step_170
    · refine tr_aload_n hX 0 dX8_step_138 rfl rfl ?_
      refine tr_getR hX 24 0 (by decide) rfl rfl rfl (by decide) gX8 wm_198 dX8_step_139 ?_
      refine tr_aload_n hX 0 dX8_step_142 rfl rfl ?_
      refine tr_getI hX 24 3 (by decide) rfl rfl rfl (by decide) gX8 wm_203 dX8_step_143 ?_
      refine tr_iald hX 25 (by decide) rfl dX8_step_146 ?_
      refine tr_callS hX [.int (s 25 (ix (s 24 3)))] ks_X8_kindOf wm_510 (by decide) rfl rfl (Nat.le_of_ble_eq_true rfl) dX8_step_147 (fun vq sq hq => c_X8_kindOf G.1 hE N s (s 25 (ix (s 24 3))) (vq, sq) hq) fun v8 s7 => ?_
      refine tr_aload_n hX 0 dX8_step_150 rfl rfl ?_
      refine tr_getI hX 24 4 (by decide) rfl rfl rfl (by decide) gX8 wm_205 dX8_step_151 ?_
      refine tr_icmp_ne hX 170 dX8_step_154 (by decide) ?_ ?_
      · exact tr_vret hX hR dX8_step_170
      · refine tr_aload_n hX 0 dX8_step_157 rfl rfl ?_
        refine tr_dup hX dX8_step_158 rfl ?_
        refine tr_getI hX 24 3 (by decide) rfl rfl rfl (by decide) gX8 wm_203 dX8_step_159 ?_
        refine tr_iconst (v := 1) hX dX8_step_162 rfl ?_
        refine tr_iadd hX dX8_step_163 ?_
        refine tr_putI hX 24 3 tyX8 tyX8_ok nmX8 (by decide) rfl rfl rfl (by decide) gX8 wm_203 rfl (by decide +kernel) dX8_step_164 fun s9 => ?_
        refine tr_goto hX 123 dX8_step_167 (by decide) ?_
        exact hk123 s9 x1
theorem wl_X8_step_123 {G : Gx} (hX : ok G cX8_step 2 RX8 none 1 20) (hR : okV G) (hE : va_D (AW G.1) (wd G.1 (fun _ _ => 0))) (N : Nat) : ∀ (n : Nat) (s : Hp) (x1 : Int32), T G (lp (fun _ _ => none) (f_X8_step_123 N) n s x1) s 123 [(0, rf G.1 24), (1, .int x1)] [] := by
  intro n
  induction n with
  | zero => exact fun s x1 h => nomatch (show (none : Option (Int32 × Hp)) = some _ from h)
  | succ n ih => exact fun s x1 => w_X8_step_123 hX hR hE N _ ih s x1
set_option maxRecDepth 20000 in
set_option maxHeartbeats 2000000 in
theorem w_X8_step_122 {G : Gx} (hX : ok G cX8_step 2 RX8 none 1 20) (hR : okV G) (hE : va_D (AW G.1) (wd G.1 (fun _ _ => 0))) (N : Nat) (s : Hp) (t0 : Int32) : T G (f_X8_step_122 N s t0) s 122 [(0, rf G.1 24)] [.int t0] := by
  unfold f_X8_step_122
  refine tr_istore_n (lv2 := [(1, .int t0), (0, rf G.1 24)]) hX dX8_step_122 rfl (by decide) rfl ?_
  refine tr_lv (lv2 := [(0, rf G.1 24), (1, .int t0)]) [1, 0] rfl ?_
  exact wl_X8_step_123 hX hR hE N N s t0
set_option maxRecDepth 20000 in
set_option maxHeartbeats 2000000 in
theorem w_X8_step_117 {G : Gx} (hX : ok G cX8_step 2 RX8 none 1 20) (hR : okV G) (hE : va_D (AW G.1) (wd G.1 (fun _ _ => 0))) (N : Nat) (s : Hp) : T G (f_X8_step_117 N s) s 117 [(0, rf G.1 24)] [] := by
  unfold f_X8_step_117
  refine tr_iconst (v := 1) hX dX8_step_117 rfl ?_
  refine tr_goto hX 122 dX8_step_118 (by decide) ?_
  exact w_X8_step_122 hX hR hE N s 1
set_option maxRecDepth 20000 in
set_option maxHeartbeats 2000000 in
theorem w_X8_step_98 {G : Gx} (hX : ok G cX8_step 2 RX8 none 1 20) (hR : okV G) (hE : va_D (AW G.1) (wd G.1 (fun _ _ => 0))) (N : Nat) (s : Hp) (t1 : Int32) : T G (f_X8_step_98 N s t1) s 98 [(0, rf G.1 24)] [.int t1, rf G.1 24] := by
  unfold f_X8_step_98
  refine tr_putI hX 24 3 tyX8 tyX8_ok nmX8 (by decide) rfl rfl rfl (by decide) gX8 wm_203 rfl (by decide +kernel) dX8_step_98 fun s6 => ?_
  refine tr_aload_n hX 0 dX8_step_101 rfl rfl ?_
  refine tr_getI hX 24 4 (by decide) rfl rfl rfl (by decide) gX8 wm_205 dX8_step_102 ?_
  refine tr_iconst (v := 1) hX dX8_step_105 rfl ?_
  refine tr_icmp_eq hX 117 dX8_step_106 (by decide) ?_ ?_
  · exact w_X8_step_117 hX hR hE N s6
  · refine tr_aload_n hX 0 dX8_step_109 rfl rfl ?_
    refine tr_getI hX 24 4 (by decide) rfl rfl rfl (by decide) gX8 wm_205 dX8_step_110 ?_
    refine tr_iconst (v := 2) hX dX8_step_113 rfl ?_
    refine tr_icmp_ne hX 121 dX8_step_114 (by decide) ?_ ?_
    · refine tr_iconst (v := 0) hX dX8_step_121 rfl ?_
      exact w_X8_step_122 hX hR hE N s6 0
    · exact w_X8_step_117 hX hR hE N s6
set_option maxRecDepth 20000 in
set_option maxHeartbeats 2000000 in
theorem w_X8_step_74 {G : Gx} (hX : ok G cX8_step 2 RX8 none 1 20) (hR : okV G) (hE : va_D (AW G.1) (wd G.1 (fun _ _ => 0))) (N : Nat) (s : Hp) (t1 : Int32) : T G (f_X8_step_74 N s t1) s 74 [(0, rf G.1 24)] [.int t1, rf G.1 24] := by
  unfold f_X8_step_74
  refine tr_putI hX 24 4 tyX8 tyX8_ok nmX8 (by decide) rfl rfl rfl (by decide) gX8 wm_205 rfl (by decide +kernel) dX8_step_74 fun s5 => ?_
  refine tr_aload_n hX 0 dX8_step_77 rfl rfl ?_
  refine tr_aload_n hX 0 dX8_step_78 rfl rfl ?_
  refine tr_getI hX 24 4 (by decide) rfl rfl rfl (by decide) gX8 wm_205 dX8_step_79 ?_
  refine tr_if_ne hX 92 dX8_step_82 (by decide) ?_ ?_
  · refine tr_aload_n hX 0 dX8_step_92 rfl rfl ?_
    refine tr_getI hX 24 2 (by decide) rfl rfl rfl (by decide) gX8 wm_201 dX8_step_93 ?_
    refine tr_iconst (v := 1) hX dX8_step_96 rfl ?_
    refine tr_iadd hX dX8_step_97 ?_
    exact w_X8_step_98 hX hR hE N s5 ((s5 24 2) + 1)
  · refine tr_aload_n hX 0 dX8_step_85 rfl rfl ?_
    refine tr_getI hX 24 2 (by decide) rfl rfl rfl (by decide) gX8 wm_201 dX8_step_86 ?_
    refine tr_goto hX 98 dX8_step_89 (by decide) ?_
    exact w_X8_step_98 hX hR hE N s5 (s5 24 2)
set_option maxRecDepth 20000 in
set_option maxHeartbeats 2000000 in
theorem w_X8_step_46 {G : Gx} (hX : ok G cX8_step 2 RX8 none 1 20) (hR : okV G) (hE : va_D (AW G.1) (wd G.1 (fun _ _ => 0))) (N : Nat) (s : Hp) : T G (f_X8_step_46 N s) s 46 [(0, rf G.1 24)] [] := by
  unfold f_X8_step_46
  refine tr_aload_n hX 0 dX8_step_46 rfl rfl ?_
  refine tr_aload_n hX 0 dX8_step_47 rfl rfl ?_
  refine tr_getI hX 24 2 (by decide) rfl rfl rfl (by decide) gX8 wm_201 dX8_step_48 ?_
  refine tr_aload_n hX 0 dX8_step_51 rfl rfl ?_
  refine tr_getI hX 24 1 (by decide) rfl rfl rfl (by decide) gX8 wm_199 dX8_step_52 ?_
  refine tr_icmp_ge hX 73 dX8_step_55 (by decide) ?_ ?_
  · refine tr_iconst (v := 0) hX dX8_step_73 rfl ?_
    exact w_X8_step_74 hX hR hE N s 0
  · refine tr_aload_n hX 0 dX8_step_58 rfl rfl ?_
    refine tr_getR hX 24 0 (by decide) rfl rfl rfl (by decide) gX8 wm_198 dX8_step_59 ?_
    refine tr_aload_n hX 0 dX8_step_62 rfl rfl ?_
    refine tr_getI hX 24 2 (by decide) rfl rfl rfl (by decide) gX8 wm_201 dX8_step_63 ?_
    refine tr_iald hX 25 (by decide) rfl dX8_step_66 ?_
    refine tr_callS hX [.int (s 25 (ix (s 24 2)))] ks_X8_kindOf wm_510 (by decide) rfl rfl (Nat.le_of_ble_eq_true rfl) dX8_step_67 (fun vq sq hq => c_X8_kindOf G.1 hE N s (s 25 (ix (s 24 2))) (vq, sq) hq) fun v4 s3 => ?_
    refine tr_goto hX 74 dX8_step_70 (by decide) ?_
    exact w_X8_step_74 hX hR hE N s3 v4
set_option maxRecDepth 20000 in
set_option maxHeartbeats 2000000 in
theorem w_X8_step_8 {G : Gx} (hX : ok G cX8_step 2 RX8 none 1 20) (hR : okV G) (hE : va_D (AW G.1) (wd G.1 (fun _ _ => 0))) (N : Nat) (k8 : Hp → Option (Int32 × Hp)) (hk8 : ∀ (s : Hp), T G (k8 s) s 8 [(0, rf G.1 24)] []) (s : Hp) : T G (f_X8_step_8 N k8 s) s 8 [(0, rf G.1 24)] [] := by
  unfold f_X8_step_8
  refine tr_aload_n hX 0 dX8_step_8 rfl rfl ?_
  refine tr_getI hX 24 2 (by decide) rfl rfl rfl (by decide) gX8 wm_201 dX8_step_9 ?_
  refine tr_aload_n hX 0 dX8_step_12 rfl rfl ?_
  refine tr_getI hX 24 1 (by decide) rfl rfl rfl (by decide) gX8 wm_199 dX8_step_13 ?_
  refine tr_icmp_ge hX 46 dX8_step_16 (by decide) ?_ ?_
  · exact w_X8_step_46 hX hR hE N s
  · refine tr_aload_n hX 0 dX8_step_19 rfl rfl ?_
    refine tr_getR hX 24 0 (by decide) rfl rfl rfl (by decide) gX8 wm_198 dX8_step_20 ?_
    refine tr_aload_n hX 0 dX8_step_23 rfl rfl ?_
    refine tr_getI hX 24 2 (by decide) rfl rfl rfl (by decide) gX8 wm_201 dX8_step_24 ?_
    refine tr_iald hX 25 (by decide) rfl dX8_step_27 ?_
    refine tr_bipush (v := 32) hX dX8_step_28 rfl ?_
    refine tr_icmp_ne hX 46 dX8_step_30 (by decide) ?_ ?_
    · exact w_X8_step_46 hX hR hE N s
    · refine tr_aload_n hX 0 dX8_step_33 rfl rfl ?_
      refine tr_dup hX dX8_step_34 rfl ?_
      refine tr_getI hX 24 2 (by decide) rfl rfl rfl (by decide) gX8 wm_201 dX8_step_35 ?_
      refine tr_iconst (v := 1) hX dX8_step_38 rfl ?_
      refine tr_iadd hX dX8_step_39 ?_
      refine tr_putI hX 24 2 tyX8 tyX8_ok nmX8 (by decide) rfl rfl rfl (by decide) gX8 wm_201 rfl (by decide +kernel) dX8_step_40 fun s2 => ?_
      refine tr_goto hX 8 dX8_step_43 (by decide) ?_
      exact hk8 s2
theorem wl_X8_step_8 {G : Gx} (hX : ok G cX8_step 2 RX8 none 1 20) (hR : okV G) (hE : va_D (AW G.1) (wd G.1 (fun _ _ => 0))) (N : Nat) : ∀ (n : Nat) (s : Hp), T G (lp (fun _ => none) (f_X8_step_8 N) n s) s 8 [(0, rf G.1 24)] [] := by
  intro n
  induction n with
  | zero => exact fun s  h => nomatch (show (none : Option (Int32 × Hp)) = some _ from h)
  | succ n ih => exact fun s  => w_X8_step_8 hX hR hE N _ ih s 
set_option maxRecDepth 20000 in
set_option maxHeartbeats 2000000 in
theorem w_X8_step {G : Gx} (hX : ok G cX8_step 2 RX8 none 1 20) (hR : okV G) (hE : va_D (AW G.1) (wd G.1 (fun _ _ => 0))) (N : Nat) (s : Hp) : T G (f_X8_step N s) s 0 [(0, rf G.1 24)] [] := by
  unfold f_X8_step
  refine tr_aload_n hX 0 dX8_step_0 rfl rfl ?_
  refine tr_aload_n hX 0 dX8_step_1 rfl rfl ?_
  refine tr_getI hX 24 3 (by decide) rfl rfl rfl (by decide) gX8 wm_203 dX8_step_2 ?_
  refine tr_putI hX 24 2 tyX8 tyX8_ok nmX8 (by decide) rfl rfl rfl (by decide) gX8 wm_201 rfl (by decide +kernel) dX8_step_5 fun s1 => ?_
  exact wl_X8_step_8 hX hR hE N N s1
theorem c_X8_step (E : Ex) (hE : va_D (AW E) (wd E (fun _ _ => 0))) (N : Nat) (s : Hp) (r : Int32 × Hp) (h : f_X8_step N s = some r) : CtrV E yX8_step cX8_step 2 none 1 20 [rf E 24] s r :=
  ctrV_of (by decide +kernel) hE (Nat.le_of_ble_eq_true rfl) h (fun G hX hR hG => by subst hG; exact w_X8_step hX hR hE N s)
set_option maxRecDepth 20000 in
set_option maxHeartbeats 2000000 in
theorem w_X8_rewind {G : Gx} (hX : ok G cX8_rewind 1 RX8 none 2 41) (hR : okV G) (hE : va_D (AW G.1) (wd G.1 (fun _ _ => 0))) (N : Nat) (s : Hp) : T G (f_X8_rewind N s) s 0 [(0, rf G.1 24)] [] := by
  unfold f_X8_rewind
  refine tr_aload_n hX 0 dX8_rewind_0 rfl rfl ?_
  refine tr_iconst (v := 0) hX dX8_rewind_1 rfl ?_
  refine tr_putI hX 24 3 tyX8 tyX8_ok nmX8 (by decide) rfl rfl rfl (by decide) gX8 wm_203 rfl (by decide +kernel) dX8_rewind_2 fun s1 => ?_
  refine tr_aload_n hX 0 dX8_rewind_5 rfl rfl ?_
  refine tr_callVv hX 24 [] kv_X8_step wm_506 (by decide) rfl rfl rfl (by decide) rfl rfl (Nat.le_of_ble_eq_true rfl) dX8_rewind_6 (fun vq sq hq => c_X8_step G.1 hE N s1 (vq, sq) hq) fun v3 s2 => ?_
  exact tr_vret hX hR dX8_rewind_9
theorem c_X8_rewind (E : Ex) (hE : va_D (AW E) (wd E (fun _ _ => 0))) (N : Nat) (s : Hp) (r : Int32 × Hp) (h : f_X8_rewind N s = some r) : CtrV E yX8_rewind cX8_rewind 1 none 2 41 [rf E 24] s r :=
  ctrV_of (by decide +kernel) hE (Nat.le_of_ble_eq_true rfl) h (fun G hX hR hG => by subst hG; exact w_X8_rewind hX hR hE N s)
set_option maxRecDepth 20000 in
set_option maxHeartbeats 2000000 in
theorem w_X8_spells_20 {G : Gx} (hX : ok G cX8_spells 3 RX8 (some .boolean) 4 120) (hR : okR G) (hE : va_D (AW G.1) (wd G.1 (fun _ _ => 0))) (N : Nat) (k20 : Hp → Int32 → Option (Int32 × Hp)) (hk20 : ∀ (s : Hp) (x2 : Int32), T G (k20 s x2) s 20 [(0, rf G.1 24), (1, rf G.1 137), (2, .int x2)] []) (s : Hp) (x2 : Int32) : T G (f_X8_spells_20 N k20 s x2) s 20 [(0, rf G.1 24), (1, rf G.1 137), (2, .int x2)] [] := by
  unfold f_X8_spells_20
  refine tr_iload_n hX 2 dX8_spells_20 rfl rfl ?_
  refine tr_aload_n hX 1 dX8_spells_21 rfl rfl ?_
  refine tr_slen (v := 4) hX 0 (by decide) rfl kv_J0_length_8abf5 wm_525 (by decide) (Nat.le_of_ble_eq_true rfl) dX8_spells_22 ?_
  refine tr_icmp_ge hX 55 dX8_spells_25 (by decide) ?_ ?_
  · refine tr_iconst (v := 1) hX dX8_spells_55 rfl ?_
    exact tr_zret hX hR rfl dX8_spells_56
  · refine tr_aload_n hX 0 dX8_spells_28 rfl rfl ?_
    refine tr_getR hX 24 0 (by decide) rfl rfl rfl (by decide) gX8 wm_198 dX8_spells_29 ?_
    refine tr_aload_n hX 0 dX8_spells_32 rfl rfl ?_
    refine tr_getI hX 24 2 (by decide) rfl rfl rfl (by decide) gX8 wm_201 dX8_spells_33 ?_
    refine tr_iload_n hX 2 dX8_spells_36 rfl rfl ?_
    refine tr_iadd hX dX8_spells_37 ?_
    refine tr_iald hX 25 (by decide) rfl dX8_spells_38 ?_
    refine tr_aload_n hX 1 dX8_spells_39 rfl rfl ?_
    refine tr_iload_n hX 2 dX8_spells_40 rfl rfl ?_
    refine tr_sat hX 0 (by decide) rfl kv_J0_charAt_5068e wm_535 (by decide) (Nat.le_of_ble_eq_true rfl) dX8_spells_41 ?_
    refine tr_icmp_eq hX 49 dX8_spells_44 (by decide) ?_ ?_
    · refine tr_iincB (b := 1) (lv2 := fun y1 => [(2, .int y1), (0, rf G.1 24), (1, rf G.1 137)]) hX 2 dX8_spells_49 rfl rfl (by decide) (fun _ => rfl) fun y1 => ?_
      refine tr_goto hX 20 dX8_spells_52 (by decide) ?_
      refine tr_lv (lv2 := [(0, rf G.1 24), (1, rf G.1 137), (2, .int y1)]) [1, 2, 0] rfl ?_
      exact hk20 s y1
    · refine tr_iconst (v := 0) hX dX8_spells_47 rfl ?_
      exact tr_zret hX hR rfl dX8_spells_48
theorem wl_X8_spells_20 {G : Gx} (hX : ok G cX8_spells 3 RX8 (some .boolean) 4 120) (hR : okR G) (hE : va_D (AW G.1) (wd G.1 (fun _ _ => 0))) (N : Nat) : ∀ (n : Nat) (s : Hp) (x2 : Int32), T G (lp (fun _ _ => none) (f_X8_spells_20 N) n s x2) s 20 [(0, rf G.1 24), (1, rf G.1 137), (2, .int x2)] [] := by
  intro n
  induction n with
  | zero => exact fun s x2 h => nomatch (show (none : Option (Int32 × Hp)) = some _ from h)
  | succ n ih => exact fun s x2 => w_X8_spells_20 hX hR hE N _ ih s x2
set_option maxRecDepth 20000 in
set_option maxHeartbeats 2000000 in
theorem w_X8_spells {G : Gx} (hX : ok G cX8_spells 3 RX8 (some .boolean) 4 120) (hR : okR G) (hE : va_D (AW G.1) (wd G.1 (fun _ _ => 0))) (N : Nat) (s : Hp) : T G (f_X8_spells N s) s 0 [(0, rf G.1 24), (1, rf G.1 137)] [] := by
  unfold f_X8_spells
  refine tr_aload_n hX 0 dX8_spells_0 rfl rfl ?_
  refine tr_getI hX 24 3 (by decide) rfl rfl rfl (by decide) gX8 wm_203 dX8_spells_1 ?_
  refine tr_aload_n hX 0 dX8_spells_4 rfl rfl ?_
  refine tr_getI hX 24 2 (by decide) rfl rfl rfl (by decide) gX8 wm_201 dX8_spells_5 ?_
  refine tr_isub hX dX8_spells_8 ?_
  refine tr_aload_n hX 1 dX8_spells_9 rfl rfl ?_
  refine tr_slen (v := 4) hX 0 (by decide) rfl kv_J0_length_8abf5 wm_525 (by decide) (Nat.le_of_ble_eq_true rfl) dX8_spells_10 ?_
  refine tr_icmp_eq hX 18 dX8_spells_13 (by decide) ?_ ?_
  · refine tr_iconst (v := 0) hX dX8_spells_18 rfl ?_
    refine tr_istore_n (lv2 := [(2, .int 0), (0, rf G.1 24), (1, rf G.1 137)]) hX dX8_spells_19 rfl (by decide) rfl ?_
    refine tr_lv (lv2 := [(0, rf G.1 24), (1, rf G.1 137), (2, .int 0)]) [1, 2, 0] rfl ?_
    exact wl_X8_spells_20 hX hR hE N N s 0
  · refine tr_iconst (v := 0) hX dX8_spells_16 rfl ?_
    exact tr_zret hX hR rfl dX8_spells_17
theorem c_X8_spells (E : Ex) (hE : va_D (AW E) (wd E (fun _ _ => 0))) (N : Nat) (s : Hp) (r : Int32 × Hp) (h : f_X8_spells N s = some r) : CtrI E yX8_spells cX8_spells 3 (some .boolean) 4 120 [rf E 24, rf E 137] s r :=
  ctrI_of (by decide +kernel) hE (Nat.le_of_ble_eq_true rfl) h (fun G hX hR hG => by subst hG; exact w_X8_spells hX hR hE N s)
set_option maxRecDepth 20000 in
set_option maxHeartbeats 2000000 in
theorem w_X8_spells_b_20 {G : Gx} (hX : ok G cX8_spells 3 RX8 (some .boolean) 4 120) (hR : okR G) (hE : va_D (AW G.1) (wd G.1 (fun _ _ => 0))) (N : Nat) (k20 : Hp → Int32 → Option (Int32 × Hp)) (hk20 : ∀ (s : Hp) (x2 : Int32), T G (k20 s x2) s 20 [(0, rf G.1 24), (1, rf G.1 138), (2, .int x2)] []) (s : Hp) (x2 : Int32) : T G (f_X8_spells_b_20 N k20 s x2) s 20 [(0, rf G.1 24), (1, rf G.1 138), (2, .int x2)] [] := by
  unfold f_X8_spells_b_20
  refine tr_iload_n hX 2 dX8_spells_20 rfl rfl ?_
  refine tr_aload_n hX 1 dX8_spells_21 rfl rfl ?_
  refine tr_slen (v := 4) hX 1 (by decide) rfl kv_J0_length_8abf5 wm_525 (by decide) (Nat.le_of_ble_eq_true rfl) dX8_spells_22 ?_
  refine tr_icmp_ge hX 55 dX8_spells_25 (by decide) ?_ ?_
  · refine tr_iconst (v := 1) hX dX8_spells_55 rfl ?_
    exact tr_zret hX hR rfl dX8_spells_56
  · refine tr_aload_n hX 0 dX8_spells_28 rfl rfl ?_
    refine tr_getR hX 24 0 (by decide) rfl rfl rfl (by decide) gX8 wm_198 dX8_spells_29 ?_
    refine tr_aload_n hX 0 dX8_spells_32 rfl rfl ?_
    refine tr_getI hX 24 2 (by decide) rfl rfl rfl (by decide) gX8 wm_201 dX8_spells_33 ?_
    refine tr_iload_n hX 2 dX8_spells_36 rfl rfl ?_
    refine tr_iadd hX dX8_spells_37 ?_
    refine tr_iald hX 25 (by decide) rfl dX8_spells_38 ?_
    refine tr_aload_n hX 1 dX8_spells_39 rfl rfl ?_
    refine tr_iload_n hX 2 dX8_spells_40 rfl rfl ?_
    refine tr_sat hX 1 (by decide) rfl kv_J0_charAt_5068e wm_535 (by decide) (Nat.le_of_ble_eq_true rfl) dX8_spells_41 ?_
    refine tr_icmp_eq hX 49 dX8_spells_44 (by decide) ?_ ?_
    · refine tr_iincB (b := 1) (lv2 := fun y1 => [(2, .int y1), (0, rf G.1 24), (1, rf G.1 138)]) hX 2 dX8_spells_49 rfl rfl (by decide) (fun _ => rfl) fun y1 => ?_
      refine tr_goto hX 20 dX8_spells_52 (by decide) ?_
      refine tr_lv (lv2 := [(0, rf G.1 24), (1, rf G.1 138), (2, .int y1)]) [1, 2, 0] rfl ?_
      exact hk20 s y1
    · refine tr_iconst (v := 0) hX dX8_spells_47 rfl ?_
      exact tr_zret hX hR rfl dX8_spells_48
theorem wl_X8_spells_b_20 {G : Gx} (hX : ok G cX8_spells 3 RX8 (some .boolean) 4 120) (hR : okR G) (hE : va_D (AW G.1) (wd G.1 (fun _ _ => 0))) (N : Nat) : ∀ (n : Nat) (s : Hp) (x2 : Int32), T G (lp (fun _ _ => none) (f_X8_spells_b_20 N) n s x2) s 20 [(0, rf G.1 24), (1, rf G.1 138), (2, .int x2)] [] := by
  intro n
  induction n with
  | zero => exact fun s x2 h => nomatch (show (none : Option (Int32 × Hp)) = some _ from h)
  | succ n ih => exact fun s x2 => w_X8_spells_b_20 hX hR hE N _ ih s x2
set_option maxRecDepth 20000 in
set_option maxHeartbeats 2000000 in
theorem w_X8_spells_b {G : Gx} (hX : ok G cX8_spells 3 RX8 (some .boolean) 4 120) (hR : okR G) (hE : va_D (AW G.1) (wd G.1 (fun _ _ => 0))) (N : Nat) (s : Hp) : T G (f_X8_spells_b N s) s 0 [(0, rf G.1 24), (1, rf G.1 138)] [] := by
  unfold f_X8_spells_b
  refine tr_aload_n hX 0 dX8_spells_0 rfl rfl ?_
  refine tr_getI hX 24 3 (by decide) rfl rfl rfl (by decide) gX8 wm_203 dX8_spells_1 ?_
  refine tr_aload_n hX 0 dX8_spells_4 rfl rfl ?_
  refine tr_getI hX 24 2 (by decide) rfl rfl rfl (by decide) gX8 wm_201 dX8_spells_5 ?_
  refine tr_isub hX dX8_spells_8 ?_
  refine tr_aload_n hX 1 dX8_spells_9 rfl rfl ?_
  refine tr_slen (v := 4) hX 1 (by decide) rfl kv_J0_length_8abf5 wm_525 (by decide) (Nat.le_of_ble_eq_true rfl) dX8_spells_10 ?_
  refine tr_icmp_eq hX 18 dX8_spells_13 (by decide) ?_ ?_
  · refine tr_iconst (v := 0) hX dX8_spells_18 rfl ?_
    refine tr_istore_n (lv2 := [(2, .int 0), (0, rf G.1 24), (1, rf G.1 138)]) hX dX8_spells_19 rfl (by decide) rfl ?_
    refine tr_lv (lv2 := [(0, rf G.1 24), (1, rf G.1 138), (2, .int 0)]) [1, 2, 0] rfl ?_
    exact wl_X8_spells_b_20 hX hR hE N N s 0
  · refine tr_iconst (v := 0) hX dX8_spells_16 rfl ?_
    exact tr_zret hX hR rfl dX8_spells_17
theorem c_X8_spells_b (E : Ex) (hE : va_D (AW E) (wd E (fun _ _ => 0))) (N : Nat) (s : Hp) (r : Int32 × Hp) (h : f_X8_spells_b N s = some r) : CtrI E yX8_spells cX8_spells 3 (some .boolean) 4 120 [rf E 24, rf E 138] s r :=
  ctrI_of (by decide +kernel) hE (Nat.le_of_ble_eq_true rfl) h (fun G hX hR hG => by subst hG; exact w_X8_spells_b hX hR hE N s)
set_option maxRecDepth 20000 in
set_option maxHeartbeats 2000000 in
theorem w_X8_spells_c_20 {G : Gx} (hX : ok G cX8_spells 3 RX8 (some .boolean) 4 120) (hR : okR G) (hE : va_D (AW G.1) (wd G.1 (fun _ _ => 0))) (N : Nat) (k20 : Hp → Int32 → Option (Int32 × Hp)) (hk20 : ∀ (s : Hp) (x2 : Int32), T G (k20 s x2) s 20 [(0, rf G.1 24), (1, rf G.1 139), (2, .int x2)] []) (s : Hp) (x2 : Int32) : T G (f_X8_spells_c_20 N k20 s x2) s 20 [(0, rf G.1 24), (1, rf G.1 139), (2, .int x2)] [] := by
  unfold f_X8_spells_c_20
  refine tr_iload_n hX 2 dX8_spells_20 rfl rfl ?_
  refine tr_aload_n hX 1 dX8_spells_21 rfl rfl ?_
  refine tr_slen (v := 4) hX 2 (by decide) rfl kv_J0_length_8abf5 wm_525 (by decide) (Nat.le_of_ble_eq_true rfl) dX8_spells_22 ?_
  refine tr_icmp_ge hX 55 dX8_spells_25 (by decide) ?_ ?_
  · refine tr_iconst (v := 1) hX dX8_spells_55 rfl ?_
    exact tr_zret hX hR rfl dX8_spells_56
  · refine tr_aload_n hX 0 dX8_spells_28 rfl rfl ?_
    refine tr_getR hX 24 0 (by decide) rfl rfl rfl (by decide) gX8 wm_198 dX8_spells_29 ?_
    refine tr_aload_n hX 0 dX8_spells_32 rfl rfl ?_
    refine tr_getI hX 24 2 (by decide) rfl rfl rfl (by decide) gX8 wm_201 dX8_spells_33 ?_
    refine tr_iload_n hX 2 dX8_spells_36 rfl rfl ?_
    refine tr_iadd hX dX8_spells_37 ?_
    refine tr_iald hX 25 (by decide) rfl dX8_spells_38 ?_
    refine tr_aload_n hX 1 dX8_spells_39 rfl rfl ?_
    refine tr_iload_n hX 2 dX8_spells_40 rfl rfl ?_
    refine tr_sat hX 2 (by decide) rfl kv_J0_charAt_5068e wm_535 (by decide) (Nat.le_of_ble_eq_true rfl) dX8_spells_41 ?_
    refine tr_icmp_eq hX 49 dX8_spells_44 (by decide) ?_ ?_
    · refine tr_iincB (b := 1) (lv2 := fun y1 => [(2, .int y1), (0, rf G.1 24), (1, rf G.1 139)]) hX 2 dX8_spells_49 rfl rfl (by decide) (fun _ => rfl) fun y1 => ?_
      refine tr_goto hX 20 dX8_spells_52 (by decide) ?_
      refine tr_lv (lv2 := [(0, rf G.1 24), (1, rf G.1 139), (2, .int y1)]) [1, 2, 0] rfl ?_
      exact hk20 s y1
    · refine tr_iconst (v := 0) hX dX8_spells_47 rfl ?_
      exact tr_zret hX hR rfl dX8_spells_48
theorem wl_X8_spells_c_20 {G : Gx} (hX : ok G cX8_spells 3 RX8 (some .boolean) 4 120) (hR : okR G) (hE : va_D (AW G.1) (wd G.1 (fun _ _ => 0))) (N : Nat) : ∀ (n : Nat) (s : Hp) (x2 : Int32), T G (lp (fun _ _ => none) (f_X8_spells_c_20 N) n s x2) s 20 [(0, rf G.1 24), (1, rf G.1 139), (2, .int x2)] [] := by
  intro n
  induction n with
  | zero => exact fun s x2 h => nomatch (show (none : Option (Int32 × Hp)) = some _ from h)
  | succ n ih => exact fun s x2 => w_X8_spells_c_20 hX hR hE N _ ih s x2
set_option maxRecDepth 20000 in
set_option maxHeartbeats 2000000 in
theorem w_X8_spells_c {G : Gx} (hX : ok G cX8_spells 3 RX8 (some .boolean) 4 120) (hR : okR G) (hE : va_D (AW G.1) (wd G.1 (fun _ _ => 0))) (N : Nat) (s : Hp) : T G (f_X8_spells_c N s) s 0 [(0, rf G.1 24), (1, rf G.1 139)] [] := by
  unfold f_X8_spells_c
  refine tr_aload_n hX 0 dX8_spells_0 rfl rfl ?_
  refine tr_getI hX 24 3 (by decide) rfl rfl rfl (by decide) gX8 wm_203 dX8_spells_1 ?_
  refine tr_aload_n hX 0 dX8_spells_4 rfl rfl ?_
  refine tr_getI hX 24 2 (by decide) rfl rfl rfl (by decide) gX8 wm_201 dX8_spells_5 ?_
  refine tr_isub hX dX8_spells_8 ?_
  refine tr_aload_n hX 1 dX8_spells_9 rfl rfl ?_
  refine tr_slen (v := 4) hX 2 (by decide) rfl kv_J0_length_8abf5 wm_525 (by decide) (Nat.le_of_ble_eq_true rfl) dX8_spells_10 ?_
  refine tr_icmp_eq hX 18 dX8_spells_13 (by decide) ?_ ?_
  · refine tr_iconst (v := 0) hX dX8_spells_18 rfl ?_
    refine tr_istore_n (lv2 := [(2, .int 0), (0, rf G.1 24), (1, rf G.1 139)]) hX dX8_spells_19 rfl (by decide) rfl ?_
    refine tr_lv (lv2 := [(0, rf G.1 24), (1, rf G.1 139), (2, .int 0)]) [1, 2, 0] rfl ?_
    exact wl_X8_spells_c_20 hX hR hE N N s 0
  · refine tr_iconst (v := 0) hX dX8_spells_16 rfl ?_
    exact tr_zret hX hR rfl dX8_spells_17
theorem c_X8_spells_c (E : Ex) (hE : va_D (AW E) (wd E (fun _ _ => 0))) (N : Nat) (s : Hp) (r : Int32 × Hp) (h : f_X8_spells_c N s = some r) : CtrI E yX8_spells cX8_spells 3 (some .boolean) 4 120 [rf E 24, rf E 139] s r :=
  ctrI_of (by decide +kernel) hE (Nat.le_of_ble_eq_true rfl) h (fun G hX hR hG => by subst hG; exact w_X8_spells_c hX hR hE N s)
set_option maxRecDepth 20000 in
set_option maxHeartbeats 2000000 in
theorem w_X8_spells_d_20 {G : Gx} (hX : ok G cX8_spells 3 RX8 (some .boolean) 4 120) (hR : okR G) (hE : va_D (AW G.1) (wd G.1 (fun _ _ => 0))) (N : Nat) (k20 : Hp → Int32 → Option (Int32 × Hp)) (hk20 : ∀ (s : Hp) (x2 : Int32), T G (k20 s x2) s 20 [(0, rf G.1 24), (1, rf G.1 140), (2, .int x2)] []) (s : Hp) (x2 : Int32) : T G (f_X8_spells_d_20 N k20 s x2) s 20 [(0, rf G.1 24), (1, rf G.1 140), (2, .int x2)] [] := by
  unfold f_X8_spells_d_20
  refine tr_iload_n hX 2 dX8_spells_20 rfl rfl ?_
  refine tr_aload_n hX 1 dX8_spells_21 rfl rfl ?_
  refine tr_slen (v := 3) hX 3 (by decide) rfl kv_J0_length_8abf5 wm_525 (by decide) (Nat.le_of_ble_eq_true rfl) dX8_spells_22 ?_
  refine tr_icmp_ge hX 55 dX8_spells_25 (by decide) ?_ ?_
  · refine tr_iconst (v := 1) hX dX8_spells_55 rfl ?_
    exact tr_zret hX hR rfl dX8_spells_56
  · refine tr_aload_n hX 0 dX8_spells_28 rfl rfl ?_
    refine tr_getR hX 24 0 (by decide) rfl rfl rfl (by decide) gX8 wm_198 dX8_spells_29 ?_
    refine tr_aload_n hX 0 dX8_spells_32 rfl rfl ?_
    refine tr_getI hX 24 2 (by decide) rfl rfl rfl (by decide) gX8 wm_201 dX8_spells_33 ?_
    refine tr_iload_n hX 2 dX8_spells_36 rfl rfl ?_
    refine tr_iadd hX dX8_spells_37 ?_
    refine tr_iald hX 25 (by decide) rfl dX8_spells_38 ?_
    refine tr_aload_n hX 1 dX8_spells_39 rfl rfl ?_
    refine tr_iload_n hX 2 dX8_spells_40 rfl rfl ?_
    refine tr_sat hX 3 (by decide) rfl kv_J0_charAt_5068e wm_535 (by decide) (Nat.le_of_ble_eq_true rfl) dX8_spells_41 ?_
    refine tr_icmp_eq hX 49 dX8_spells_44 (by decide) ?_ ?_
    · refine tr_iincB (b := 1) (lv2 := fun y1 => [(2, .int y1), (0, rf G.1 24), (1, rf G.1 140)]) hX 2 dX8_spells_49 rfl rfl (by decide) (fun _ => rfl) fun y1 => ?_
      refine tr_goto hX 20 dX8_spells_52 (by decide) ?_
      refine tr_lv (lv2 := [(0, rf G.1 24), (1, rf G.1 140), (2, .int y1)]) [1, 2, 0] rfl ?_
      exact hk20 s y1
    · refine tr_iconst (v := 0) hX dX8_spells_47 rfl ?_
      exact tr_zret hX hR rfl dX8_spells_48
theorem wl_X8_spells_d_20 {G : Gx} (hX : ok G cX8_spells 3 RX8 (some .boolean) 4 120) (hR : okR G) (hE : va_D (AW G.1) (wd G.1 (fun _ _ => 0))) (N : Nat) : ∀ (n : Nat) (s : Hp) (x2 : Int32), T G (lp (fun _ _ => none) (f_X8_spells_d_20 N) n s x2) s 20 [(0, rf G.1 24), (1, rf G.1 140), (2, .int x2)] [] := by
  intro n
  induction n with
  | zero => exact fun s x2 h => nomatch (show (none : Option (Int32 × Hp)) = some _ from h)
  | succ n ih => exact fun s x2 => w_X8_spells_d_20 hX hR hE N _ ih s x2
set_option maxRecDepth 20000 in
set_option maxHeartbeats 2000000 in
theorem w_X8_spells_d {G : Gx} (hX : ok G cX8_spells 3 RX8 (some .boolean) 4 120) (hR : okR G) (hE : va_D (AW G.1) (wd G.1 (fun _ _ => 0))) (N : Nat) (s : Hp) : T G (f_X8_spells_d N s) s 0 [(0, rf G.1 24), (1, rf G.1 140)] [] := by
  unfold f_X8_spells_d
  refine tr_aload_n hX 0 dX8_spells_0 rfl rfl ?_
  refine tr_getI hX 24 3 (by decide) rfl rfl rfl (by decide) gX8 wm_203 dX8_spells_1 ?_
  refine tr_aload_n hX 0 dX8_spells_4 rfl rfl ?_
  refine tr_getI hX 24 2 (by decide) rfl rfl rfl (by decide) gX8 wm_201 dX8_spells_5 ?_
  refine tr_isub hX dX8_spells_8 ?_
  refine tr_aload_n hX 1 dX8_spells_9 rfl rfl ?_
  refine tr_slen (v := 3) hX 3 (by decide) rfl kv_J0_length_8abf5 wm_525 (by decide) (Nat.le_of_ble_eq_true rfl) dX8_spells_10 ?_
  refine tr_icmp_eq hX 18 dX8_spells_13 (by decide) ?_ ?_
  · refine tr_iconst (v := 0) hX dX8_spells_18 rfl ?_
    refine tr_istore_n (lv2 := [(2, .int 0), (0, rf G.1 24), (1, rf G.1 140)]) hX dX8_spells_19 rfl (by decide) rfl ?_
    refine tr_lv (lv2 := [(0, rf G.1 24), (1, rf G.1 140), (2, .int 0)]) [1, 2, 0] rfl ?_
    exact wl_X8_spells_d_20 hX hR hE N N s 0
  · refine tr_iconst (v := 0) hX dX8_spells_16 rfl ?_
    exact tr_zret hX hR rfl dX8_spells_17
theorem c_X8_spells_d (E : Ex) (hE : va_D (AW E) (wd E (fun _ _ => 0))) (N : Nat) (s : Hp) (r : Int32 × Hp) (h : f_X8_spells_d N s = some r) : CtrI E yX8_spells cX8_spells 3 (some .boolean) 4 120 [rf E 24, rf E 140] s r :=
  ctrI_of (by decide +kernel) hE (Nat.le_of_ble_eq_true rfl) h (fun G hX hR hG => by subst hG; exact w_X8_spells_d hX hR hE N s)
set_option maxRecDepth 20000 in
set_option maxHeartbeats 2000000 in
theorem w_X5_wordOf {G : Gx} (hX : ok G cX5_wordOf 1 RX5 (some .int) 5 142) (hR : okR G) (hE : va_D (AW G.1) (wd G.1 (fun _ _ => 0))) (N : Nat) (s : Hp) : T G (f_X5_wordOf N s) s 0 [(0, rf G.1 24)] [] := by
  unfold f_X5_wordOf
  refine tr_aload_n hX 0 dX5_wordOf_0 rfl rfl ?_
  refine tr_ldcS137 hX dX5_wordOf_1 ?_
  refine tr_callV hX 24 [rf G.1 137] kv_X8_spells wm_521 (by decide) rfl rfl rfl (by decide) rfl rfl (Nat.le_of_ble_eq_true rfl) dX5_wordOf_3 (fun vq sq hq => c_X8_spells G.1 hE N s (vq, sq) hq) fun v2 s1 => ?_
  refine tr_if_eq hX 11 dX5_wordOf_6 (by decide) ?_ ?_
  · refine tr_aload_n hX 0 dX5_wordOf_11 rfl rfl ?_
    refine tr_ldcS138 hX dX5_wordOf_12 ?_
    refine tr_callV hX 24 [rf G.1 138] kv_X8_spells wm_521 (by decide) rfl rfl rfl (by decide) rfl rfl (Nat.le_of_ble_eq_true rfl) dX5_wordOf_14 (fun vq sq hq => c_X8_spells_b G.1 hE N s1 (vq, sq) hq) fun v4 s3 => ?_
    refine tr_if_eq hX 22 dX5_wordOf_17 (by decide) ?_ ?_
    · refine tr_aload_n hX 0 dX5_wordOf_22 rfl rfl ?_
      refine tr_ldcS139 hX dX5_wordOf_23 ?_
      refine tr_callV hX 24 [rf G.1 139] kv_X8_spells wm_521 (by decide) rfl rfl rfl (by decide) rfl rfl (Nat.le_of_ble_eq_true rfl) dX5_wordOf_25 (fun vq sq hq => c_X8_spells_c G.1 hE N s3 (vq, sq) hq) fun v6 s5 => ?_
      refine tr_if_eq hX 33 dX5_wordOf_28 (by decide) ?_ ?_
      · refine tr_aload_n hX 0 dX5_wordOf_33 rfl rfl ?_
        refine tr_ldcS140 hX dX5_wordOf_34 ?_
        refine tr_callV hX 24 [rf G.1 140] kv_X8_spells wm_521 (by decide) rfl rfl rfl (by decide) rfl rfl (Nat.le_of_ble_eq_true rfl) dX5_wordOf_36 (fun vq sq hq => c_X8_spells_d G.1 hE N s5 (vq, sq) hq) fun v8 s7 => ?_
        refine tr_if_eq hX 46 dX5_wordOf_39 (by decide) ?_ ?_
        · refine tr_iconst (v := (-1)) hX dX5_wordOf_46 rfl ?_
          exact tr_iret hX hR dX5_wordOf_47
        · refine tr_iconst (v := 3) hX dX5_wordOf_42 rfl ?_
          refine tr_goto hX 47 dX5_wordOf_43 (by decide) ?_
          exact tr_iret hX hR dX5_wordOf_47
      · refine tr_iconst (v := 2) hX dX5_wordOf_31 rfl ?_
        exact tr_iret hX hR dX5_wordOf_32
    · refine tr_iconst (v := 1) hX dX5_wordOf_20 rfl ?_
      exact tr_iret hX hR dX5_wordOf_21
  · refine tr_iconst (v := 0) hX dX5_wordOf_9 rfl ?_
    exact tr_iret hX hR dX5_wordOf_10
theorem c_X5_wordOf (E : Ex) (hE : va_D (AW E) (wd E (fun _ _ => 0))) (N : Nat) (s : Hp) (r : Int32 × Hp) (h : f_X5_wordOf N s = some r) : CtrI E yX5_wordOf cX5_wordOf 1 (some .int) 5 142 [rf E 24] s r :=
  ctrI_of (by decide +kernel) hE (Nat.le_of_ble_eq_true rfl) h (fun G hX hR hG => by subst hG; exact w_X5_wordOf hX hR hE N s)
set_option maxRecDepth 20000 in
set_option maxHeartbeats 2000000 in
theorem w_X8_value_7 {G : Gx} (hX : ok G cX8_value 3 RX8 (some .int) 1 21) (hR : okR G) (hE : va_D (AW G.1) (wd G.1 (fun _ _ => 0))) (N : Nat) (k7 : Hp → Int32 → Int32 → Option (Int32 × Hp)) (hk7 : ∀ (s : Hp) (x1 x2 : Int32), T G (k7 s x1 x2) s 7 [(0, rf G.1 24), (1, .int x1), (2, .int x2)] []) (s : Hp) (x1 x2 : Int32) : T G (f_X8_value_7 N k7 s x1 x2) s 7 [(0, rf G.1 24), (1, .int x1), (2, .int x2)] [] := by
  unfold f_X8_value_7
  refine tr_iload_n hX 2 dX8_value_7 rfl rfl ?_
  refine tr_aload_n hX 0 dX8_value_8 rfl rfl ?_
  refine tr_getI hX 24 3 (by decide) rfl rfl rfl (by decide) gX8 wm_203 dX8_value_9 ?_
  refine tr_icmp_ge hX 42 dX8_value_12 (by decide) ?_ ?_
  · refine tr_iload_n hX 1 dX8_value_42 rfl rfl ?_
    exact tr_iret hX hR dX8_value_43
  · refine tr_sipush (v := 10000) hX dX8_value_15 rfl ?_
    refine tr_iload_n hX 1 dX8_value_18 rfl rfl ?_
    refine tr_bipush (v := 10) hX dX8_value_19 rfl ?_
    refine tr_imul hX dX8_value_21 ?_
    refine tr_aload_n hX 0 dX8_value_22 rfl rfl ?_
    refine tr_getR hX 24 0 (by decide) rfl rfl rfl (by decide) gX8 wm_198 dX8_value_23 ?_
    refine tr_iload_n hX 2 dX8_value_26 rfl rfl ?_
    refine tr_iald hX 25 (by decide) rfl dX8_value_27 ?_
    refine tr_iadd hX dX8_value_28 ?_
    refine tr_bipush (v := 48) hX dX8_value_29 rfl ?_
    refine tr_isub hX dX8_value_31 ?_
    refine tr_min hX wm_593 wm_375 wm_4 wm_376 (by decide) (Nat.le_of_ble_eq_true rfl) dX8_value_32 ?_
    refine tr_istore_nB (lv2 := fun y2 => [(1, .int y2), (0, rf G.1 24), (2, .int x2)]) hX dX8_value_35 rfl (by decide) (fun _ => rfl) fun y2 => ?_
    refine tr_iincB (b := 1) (lv2 := fun y3 => [(2, .int y3), (1, .int y2), (0, rf G.1 24)]) hX 2 dX8_value_36 rfl rfl (by decide) (fun _ => rfl) fun y3 => ?_
    refine tr_goto hX 7 dX8_value_39 (by decide) ?_
    refine tr_lv (lv2 := [(0, rf G.1 24), (1, .int y2), (2, .int y3)]) [2, 1, 0] rfl ?_
    exact hk7 s y2 y3
theorem wl_X8_value_7 {G : Gx} (hX : ok G cX8_value 3 RX8 (some .int) 1 21) (hR : okR G) (hE : va_D (AW G.1) (wd G.1 (fun _ _ => 0))) (N : Nat) : ∀ (n : Nat) (s : Hp) (x1 x2 : Int32), T G (lp (fun _ _ _ => none) (f_X8_value_7 N) n s x1 x2) s 7 [(0, rf G.1 24), (1, .int x1), (2, .int x2)] [] := by
  intro n
  induction n with
  | zero => exact fun s x1 x2 h => nomatch (show (none : Option (Int32 × Hp)) = some _ from h)
  | succ n ih => exact fun s x1 x2 => w_X8_value_7 hX hR hE N _ ih s x1 x2
set_option maxRecDepth 20000 in
set_option maxHeartbeats 2000000 in
theorem w_X8_value {G : Gx} (hX : ok G cX8_value 3 RX8 (some .int) 1 21) (hR : okR G) (hE : va_D (AW G.1) (wd G.1 (fun _ _ => 0))) (N : Nat) (s : Hp) : T G (f_X8_value N s) s 0 [(0, rf G.1 24)] [] := by
  unfold f_X8_value
  refine tr_iconst (v := 0) hX dX8_value_0 rfl ?_
  refine tr_istore_n (lv2 := [(1, .int 0), (0, rf G.1 24)]) hX dX8_value_1 rfl (by decide) rfl ?_
  refine tr_aload_n hX 1 dX8_value_2 rfl rfl ?_
  refine tr_getI hX 24 2 (by decide) rfl rfl rfl (by decide) gX8 wm_201 dX8_value_3 ?_
  refine tr_istore_nB (lv2 := fun y1 => [(2, .int y1), (1, .int 0), (0, rf G.1 24)]) hX dX8_value_6 rfl (by decide) (fun _ => rfl) fun y1 => ?_
  refine tr_lv (lv2 := [(0, rf G.1 24), (1, .int 0), (2, .int y1)]) [2, 1, 0] rfl ?_
  exact wl_X8_value_7 hX hR hE N N s 0 y1
theorem c_X8_value (E : Ex) (hE : va_D (AW E) (wd E (fun _ _ => 0))) (N : Nat) (s : Hp) (r : Int32 × Hp) (h : f_X8_value N s = some r) : CtrI E yX8_value cX8_value 3 (some .int) 1 21 [rf E 24] s r :=
  ctrI_of (by decide +kernel) hE (Nat.le_of_ble_eq_true rfl) h (fun G hX hR hG => by subst hG; exact w_X8_value hX hR hE N s)
set_option maxRecDepth 20000 in
set_option maxHeartbeats 2000000 in
theorem w_X5_blame {G : Gx} (hX : ok G cX5_blame 3 RX5 none 0 0) (hR : okV G) (hE : va_D (AW G.1) (wd G.1 (fun _ _ => 0))) (N : Nat) (s : Hp) (x2 : Int32) : T G (f_X5_blame N s x2) s 0 [(0, rf G.1 26), (1, rf G.1 24), (2, .int x2)] [] := by
  unfold f_X5_blame
  refine tr_aload_n hX 0 dX5_blame_0 rfl rfl ?_
  refine tr_iload_n hX 2 dX5_blame_1 rfl rfl ?_
  refine tr_putI hX 26 2 tyX5 tyX5_ok nmX5 (by decide) rfl rfl rfl (by decide) gX5 wm_226 rfl (by decide +kernel) dX5_blame_2 fun s1 => ?_
  refine tr_aload_n hX 0 dX5_blame_5 rfl rfl ?_
  refine tr_aload_n hX 1 dX5_blame_6 rfl rfl ?_
  refine tr_getNI hX 24 2 (by decide) rfl rfl rfl (by decide) gX8 wm_202 dX5_blame_7 ?_
  refine tr_putI hX 26 3 tyX5 tyX5_ok nmX5 (by decide) rfl rfl rfl (by decide) gX5 wm_228 rfl (by decide +kernel) dX5_blame_10 fun s2 => ?_
  exact tr_vret hX hR dX5_blame_13
theorem c_X5_blame (E : Ex) (hE : va_D (AW E) (wd E (fun _ _ => 0))) (N : Nat) (s : Hp) (x2 : Int32) (r : Int32 × Hp) (h : f_X5_blame N s x2 = some r) : CtrV E yX5_blame cX5_blame 3 none 0 0 [rf E 26, rf E 24, .int x2] s r :=
  ctrV_of (by decide +kernel) hE (Nat.le_of_ble_eq_true rfl) h (fun G hX hR hG => by subst hG; exact w_X5_blame hX hR hE N s x2)
set_option maxRecDepth 20000 in
set_option maxHeartbeats 2000000 in
theorem w_X5_readNumber_42 {G : Gx} (hX : ok G cX5_readNumber 6 RX5 none 2 43) (hR : okV G) (hE : va_D (AW G.1) (wd G.1 (fun _ _ => 0))) (N : Nat) (s : Hp) : T G (f_X5_readNumber_42 N s) s 42 [(0, rf G.1 26), (1, rf G.1 24)] [] := by
  unfold f_X5_readNumber_42
  refine tr_aload_n hX 0 dX5_readNumber_42 rfl rfl ?_
  refine tr_aload_n hX 1 dX5_readNumber_43 rfl rfl ?_
  refine tr_iconst (v := 3) hX dX5_readNumber_44 rfl ?_
  refine tr_callVv hX 26 [rf G.1 24, .int 3] kv_X5_blame wm_576 (by decide) rfl rfl rfl (by decide) rfl rfl (Nat.le_of_ble_eq_true rfl) dX5_readNumber_45 (fun vq sq hq => c_X5_blame G.1 hE N s 3 (vq, sq) hq) fun v9 s8 => ?_
  exact tr_vret hX hR dX5_readNumber_48
set_option maxRecDepth 20000 in
set_option maxHeartbeats 2000000 in
theorem w_X5_readNumber {G : Gx} (hX : ok G cX5_readNumber 6 RX5 none 2 43) (hR : okV G) (hE : va_D (AW G.1) (wd G.1 (fun _ _ => 0))) (N : Nat) (s : Hp) (x2 x3 x4 : Int32) : T G (f_X5_readNumber N s x2 x3 x4) s 0 [(0, rf G.1 26), (1, rf G.1 24), (2, .int x2), (3, .int x3), (4, .int x4)] [] := by
  unfold f_X5_readNumber
  refine tr_aload_n hX 0 dX5_readNumber_0 rfl rfl ?_
  refine tr_getI hX 26 2 (by decide) rfl rfl rfl (by decide) gX5 wm_226 dX5_readNumber_1 ?_
  refine tr_if_eq hX 8 dX5_readNumber_4 (by decide) ?_ ?_
  · refine tr_aload_n hX 1 dX5_readNumber_8 rfl rfl ?_
    refine tr_getNI hX 24 4 (by decide) rfl rfl rfl (by decide) gX8 wm_204 dX5_readNumber_9 ?_
    refine tr_iconst (v := 2) hX dX5_readNumber_12 rfl ?_
    refine tr_icmp_eq hX 23 dX5_readNumber_13 (by decide) ?_ ?_
    · refine tr_aload_n hX 1 dX5_readNumber_23 rfl rfl ?_
      refine tr_callV hX 24 [] kv_X8_value wm_589 (by decide) rfl rfl rfl (by decide) rfl rfl (Nat.le_of_ble_eq_true rfl) dX5_readNumber_24 (fun vq sq hq => c_X8_value G.1 hE N s (vq, sq) hq) fun v2 s1 => ?_
      refine tr_istore (lv2 := [(5, .int v2), (0, rf G.1 26), (1, rf G.1 24), (2, .int x2), (3, .int x3), (4, .int x4)]) hX dX5_readNumber_27 (by decide) rfl ?_
      refine tr_iload hX 0 dX5_readNumber_29 rfl ?_
      refine tr_iload_n hX 4 dX5_readNumber_31 rfl rfl ?_
      refine tr_icmp_lt hX 42 dX5_readNumber_32 (by decide) ?_ ?_
      · refine tr_lv (lv2 := [(0, rf G.1 26), (1, rf G.1 24)]) [1, 2] rfl ?_
        exact w_X5_readNumber_42 hX hR hE N s1
      · refine tr_iload hX 0 dX5_readNumber_35 rfl ?_
        refine tr_iload hX 5 dX5_readNumber_37 rfl ?_
        refine tr_icmp_le hX 49 dX5_readNumber_39 (by decide) ?_ ?_
        · refine tr_aload_n hX 1 dX5_readNumber_49 rfl rfl ?_
          refine tr_getR hX 26 0 (by decide) rfl rfl rfl (by decide) gX5 wm_223 dX5_readNumber_50 ?_
          refine tr_iload_n hX 3 dX5_readNumber_53 rfl rfl ?_
          refine tr_iload hX 0 dX5_readNumber_54 rfl ?_
          refine tr_iast hX 27 (by decide) rfl dX5_readNumber_56 fun s3 => ?_
          refine tr_aload_n hX 2 dX5_readNumber_57 rfl rfl ?_
          refine tr_callVv hX 24 [] kv_X8_step wm_580 (by decide) rfl rfl rfl (by decide) rfl rfl (Nat.le_of_ble_eq_true rfl) dX5_readNumber_58 (fun vq sq hq => c_X8_step G.1 hE N s3 (vq, sq) hq) fun v5 s4 => ?_
          exact tr_vret hX hR dX5_readNumber_61
        · refine tr_lv (lv2 := [(0, rf G.1 26), (1, rf G.1 24)]) [1, 2] rfl ?_
          exact w_X5_readNumber_42 hX hR hE N s1
    · refine tr_aload_n hX 0 dX5_readNumber_16 rfl rfl ?_
      refine tr_aload_n hX 1 dX5_readNumber_17 rfl rfl ?_
      refine tr_iconst (v := 1) hX dX5_readNumber_18 rfl ?_
      refine tr_callVv hX 26 [rf G.1 24, .int 1] kv_X5_blame wm_576 (by decide) rfl rfl rfl (by decide) rfl rfl (Nat.le_of_ble_eq_true rfl) dX5_readNumber_19 (fun vq sq hq => c_X5_blame G.1 hE N s 1 (vq, sq) hq) fun v7 s6 => ?_
      exact tr_vret hX hR dX5_readNumber_22
  · exact tr_vret hX hR dX5_readNumber_7
theorem c_X5_readNumber (E : Ex) (hE : va_D (AW E) (wd E (fun _ _ => 0))) (N : Nat) (s : Hp) (x2 x3 x4 : Int32) (r : Int32 × Hp) (h : f_X5_readNumber N s x2 x3 x4 = some r) : CtrV E yX5_readNumber cX5_readNumber 6 none 2 43 [rf E 26, rf E 24, .int x2, .int x3, .int x4] s r :=
  ctrV_of (by decide +kernel) hE (Nat.le_of_ble_eq_true rfl) h (fun G hX hR hG => by subst hG; exact w_X5_readNumber hX hR hE N s x2 x3 x4)
set_option maxRecDepth 20000 in
set_option maxHeartbeats 2000000 in
theorem w_X5_readSign {G : Gx} (hX : ok G cX5_readSign 3 RX5 none 2 41) (hR : okV G) (hE : va_D (AW G.1) (wd G.1 (fun _ _ => 0))) (N : Nat) (s : Hp) (x2 : Int32) : T G (f_X5_readSign N s x2) s 0 [(0, rf G.1 26), (1, rf G.1 24), (2, .int x2)] [] := by
  unfold f_X5_readSign
  refine tr_aload_n hX 0 dX5_readSign_0 rfl rfl ?_
  refine tr_getI hX 26 2 (by decide) rfl rfl rfl (by decide) gX5 wm_226 dX5_readSign_1 ?_
  refine tr_if_eq hX 8 dX5_readSign_4 (by decide) ?_ ?_
  · refine tr_aload_n hX 1 dX5_readSign_8 rfl rfl ?_
    refine tr_getNI hX 24 4 (by decide) rfl rfl rfl (by decide) gX8 wm_204 dX5_readSign_9 ?_
    refine tr_iload_n hX 2 dX5_readSign_12 rfl rfl ?_
    refine tr_icmp_eq hX 23 dX5_readSign_13 (by decide) ?_ ?_
    · refine tr_aload_n hX 1 dX5_readSign_23 rfl rfl ?_
      refine tr_callVv hX 24 [] kv_X8_step wm_580 (by decide) rfl rfl rfl (by decide) rfl rfl (Nat.le_of_ble_eq_true rfl) dX5_readSign_24 (fun vq sq hq => c_X8_step G.1 hE N s (vq, sq) hq) fun v2 s1 => ?_
      exact tr_vret hX hR dX5_readSign_27
    · refine tr_aload_n hX 0 dX5_readSign_16 rfl rfl ?_
      refine tr_aload_n hX 1 dX5_readSign_17 rfl rfl ?_
      refine tr_iconst (v := 1) hX dX5_readSign_18 rfl ?_
      refine tr_callVv hX 26 [rf G.1 24, .int 1] kv_X5_blame wm_576 (by decide) rfl rfl rfl (by decide) rfl rfl (Nat.le_of_ble_eq_true rfl) dX5_readSign_19 (fun vq sq hq => c_X5_blame G.1 hE N s 1 (vq, sq) hq) fun v4 s3 => ?_
      exact tr_vret hX hR dX5_readSign_22
  · exact tr_vret hX hR dX5_readSign_7
theorem c_X5_readSign (E : Ex) (hE : va_D (AW E) (wd E (fun _ _ => 0))) (N : Nat) (s : Hp) (x2 : Int32) (r : Int32 × Hp) (h : f_X5_readSign N s x2 = some r) : CtrV E yX5_readSign cX5_readSign 3 none 2 41 [rf E 26, rf E 24, .int x2] s r :=
  ctrV_of (by decide +kernel) hE (Nat.le_of_ble_eq_true rfl) h (fun G hX hR hG => by subst hG; exact w_X5_readSign hX hR hE N s x2)
set_option maxRecDepth 20000 in
set_option maxHeartbeats 2000000 in
theorem w_X5_readRange_37 {G : Gx} (hX : ok G cX5_readRange 4 RX5 none 3 68) (hR : okV G) (hE : va_D (AW G.1) (wd G.1 (fun _ _ => 0))) (N : Nat) (s : Hp) (x2 t0 : Int32) : T G (f_X5_readRange_37 N s x2 t0) s 37 [(0, rf G.1 26), (1, rf G.1 24), (2, .int x2)] [.int t0] := by
  unfold f_X5_readRange_37
  refine tr_istore_n (lv2 := [(3, .int t0), (0, rf G.1 26), (1, rf G.1 24), (2, .int x2)]) hX dX5_readRange_37 rfl (by decide) rfl ?_
  refine tr_aload_n hX 1 dX5_readRange_38 rfl rfl ?_
  refine tr_aload_n hX 2 dX5_readRange_39 rfl rfl ?_
  refine tr_iconst (v := 2) hX dX5_readRange_40 rfl ?_
  refine tr_iload_n hX 3 dX5_readRange_41 rfl rfl ?_
  refine tr_imul hX dX5_readRange_42 ?_
  refine tr_iconst (v := 1) hX dX5_readRange_43 rfl ?_
  refine tr_iadd hX dX5_readRange_44 ?_
  refine tr_iload_n hX 0 dX5_readRange_45 rfl rfl ?_
  refine tr_getsN hX wm_500 dX5_readRange_46 ?_
  refine tr_iload_n hX 3 dX5_readRange_49 rfl rfl ?_
  refine tr_gald hX dX5_readRange_50 ?_
  refine tr_callVv hX 26 [rf G.1 24, .int ((2 * x2) + 1), .int t0, .int (gG (ix x2))] kv_X5_readNumber wm_585 (by decide) rfl rfl rfl (by decide) rfl rfl (Nat.le_of_ble_eq_true rfl) dX5_readRange_51 (fun vq sq hq => c_X5_readNumber G.1 hE N s ((2 * x2) + 1) t0 (gG (ix x2)) (vq, sq) hq) fun v6 s5 => ?_
  exact tr_vret hX hR dX5_readRange_54
set_option maxRecDepth 20000 in
set_option maxHeartbeats 2000000 in
theorem w_X5_readRange {G : Gx} (hX : ok G cX5_readRange 4 RX5 none 3 68) (hR : okV G) (hE : va_D (AW G.1) (wd G.1 (fun _ _ => 0))) (N : Nat) (s : Hp) (x2 : Int32) : T G (f_X5_readRange N s x2) s 0 [(0, rf G.1 26), (1, rf G.1 24), (2, .int x2)] [] := by
  unfold f_X5_readRange
  refine tr_aload_n hX 0 dX5_readRange_0 rfl rfl ?_
  refine tr_aload_n hX 1 dX5_readRange_1 rfl rfl ?_
  refine tr_iconst (v := 2) hX dX5_readRange_2 rfl ?_
  refine tr_iload_n hX 2 dX5_readRange_3 rfl rfl ?_
  refine tr_imul hX dX5_readRange_4 ?_
  refine tr_iconst (v := 0) hX dX5_readRange_5 rfl ?_
  refine tr_getsN hX wm_500 dX5_readRange_6 ?_
  refine tr_iload_n hX 2 dX5_readRange_9 rfl rfl ?_
  refine tr_gald hX dX5_readRange_10 ?_
  refine tr_callVv hX 26 [rf G.1 24, .int (2 * x2), .int 0, .int (gG (ix x2))] kv_X5_readNumber wm_585 (by decide) rfl rfl rfl (by decide) rfl rfl (Nat.le_of_ble_eq_true rfl) dX5_readRange_11 (fun vq sq hq => c_X5_readNumber G.1 hE N s (2 * x2) 0 (gG (ix x2)) (vq, sq) hq) fun v2 s1 => ?_
  refine tr_aload_n hX 0 dX5_readRange_14 rfl rfl ?_
  refine tr_aload_n hX 1 dX5_readRange_15 rfl rfl ?_
  refine tr_iconst (v := 3) hX dX5_readRange_16 rfl ?_
  refine tr_callVv hX 26 [rf G.1 24, .int 3] kv_X5_readSign wm_594 (by decide) rfl rfl rfl (by decide) rfl rfl (Nat.le_of_ble_eq_true rfl) dX5_readRange_17 (fun vq sq hq => c_X5_readSign G.1 hE N s1 3 (vq, sq) hq) fun v4 s3 => ?_
  refine tr_iload_n hX 2 dX5_readRange_20 rfl rfl ?_
  refine tr_iconst (v := 1) hX dX5_readRange_21 rfl ?_
  refine tr_icmp_ne hX 29 dX5_readRange_22 (by decide) ?_ ?_
  · refine tr_aload_n hX 0 dX5_readRange_29 rfl rfl ?_
    refine tr_getR hX 26 0 (by decide) rfl rfl rfl (by decide) gX5 wm_223 dX5_readRange_30 ?_
    refine tr_iconst (v := 2) hX dX5_readRange_33 rfl ?_
    refine tr_iload_n hX 2 dX5_readRange_34 rfl rfl ?_
    refine tr_imul hX dX5_readRange_35 ?_
    refine tr_iald hX 27 (by decide) rfl dX5_readRange_36 ?_
    exact w_X5_readRange_37 hX hR hE N s3 x2 (s3 27 (ix (2 * x2)))
  · refine tr_iconst (v := 0) hX dX5_readRange_25 rfl ?_
    refine tr_goto hX 37 dX5_readRange_26 (by decide) ?_
    exact w_X5_readRange_37 hX hR hE N s3 x2 0
theorem c_X5_readRange (E : Ex) (hE : va_D (AW E) (wd E (fun _ _ => 0))) (N : Nat) (s : Hp) (x2 : Int32) (r : Int32 × Hp) (h : f_X5_readRange N s x2 = some r) : CtrV E yX5_readRange cX5_readRange 4 none 3 68 [rf E 26, rf E 24, .int x2] s r :=
  ctrV_of (by decide +kernel) hE (Nat.le_of_ble_eq_true rfl) h (fun G hX hR hG => by subst hG; exact w_X5_readRange hX hR hE N s x2)
set_option maxRecDepth 20000 in
set_option maxHeartbeats 2000000 in
theorem w_X5_readClause_72 {G : Gx} (hX : ok G cX5_readClause 3 RX5 none 6 162) (hR : okV G) (hE : va_D (AW G.1) (wd G.1 (fun _ _ => 0))) (N : Nat) (s : Hp) : T G (f_X5_readClause_72 N s) s 72 [(0, rf G.1 26), (1, rf G.1 24)] [] := by
  unfold f_X5_readClause_72
  refine tr_aload_n hX 0 dX5_readClause_72 rfl rfl ?_
  refine tr_aload_n hX 1 dX5_readClause_73 rfl rfl ?_
  refine tr_iconst (v := 4) hX dX5_readClause_74 rfl ?_
  refine tr_callVv hX 26 [rf G.1 24, .int 4] kv_X5_readSign wm_594 (by decide) rfl rfl rfl (by decide) rfl rfl (Nat.le_of_ble_eq_true rfl) dX5_readClause_75 (fun vq sq hq => c_X5_readSign G.1 hE N s 4 (vq, sq) hq) fun v15 s14 => ?_
  exact tr_vret hX hR dX5_readClause_78
set_option maxRecDepth 20000 in
set_option maxHeartbeats 2000000 in
theorem w_X5_readClause {G : Gx} (hX : ok G cX5_readClause 3 RX5 none 6 162) (hR : okV G) (hE : va_D (AW G.1) (wd G.1 (fun _ _ => 0))) (N : Nat) (s : Hp) : T G (f_X5_readClause N s) s 0 [(0, rf G.1 26), (1, rf G.1 24)] [] := by
  unfold f_X5_readClause
  refine tr_aload_n hX 1 dX5_readClause_0 rfl rfl ?_
  refine tr_callS hX [rf G.1 24] ks_X5_wordOf wm_517 (by decide) rfl rfl (Nat.le_of_ble_eq_true rfl) dX5_readClause_1 (fun vq sq hq => c_X5_wordOf G.1 hE N s (vq, sq) hq) fun v2 s1 => ?_
  refine tr_istore_n (lv2 := [(2, .int v2), (0, rf G.1 26), (1, rf G.1 24)]) hX dX5_readClause_4 rfl (by decide) rfl ?_
  refine tr_iload_n hX 0 dX5_readClause_5 rfl rfl ?_
  refine tr_iconst (v := (-1)) hX dX5_readClause_6 rfl ?_
  refine tr_icmp_ne hX 19 dX5_readClause_7 (by decide) ?_ ?_
  · refine tr_aload_n hX 1 dX5_readClause_19 rfl rfl ?_
    refine tr_getI hX 26 1 (by decide) rfl rfl rfl (by decide) gX5 wm_225 dX5_readClause_20 ?_
    refine tr_iload_n hX 0 dX5_readClause_23 rfl rfl ?_
    refine tr_ishr hX dX5_readClause_24 ?_
    refine tr_iconst (v := 1) hX dX5_readClause_25 rfl ?_
    refine tr_iand hX dX5_readClause_26 ?_
    refine tr_if_eq hX 39 dX5_readClause_27 (by decide) ?_ ?_
    · refine tr_aload_n hX 1 dX5_readClause_39 rfl rfl ?_
      refine tr_dup hX dX5_readClause_40 rfl ?_
      refine tr_getI hX 26 1 (by decide) rfl rfl rfl (by decide) gX5 wm_225 dX5_readClause_41 ?_
      refine tr_iconst (v := 1) hX dX5_readClause_44 rfl ?_
      refine tr_iload_n hX 0 dX5_readClause_45 rfl rfl ?_
      refine tr_ishl hX dX5_readClause_46 ?_
      refine tr_ior hX dX5_readClause_47 ?_
      refine tr_putI hX 26 1 tyX5 tyX5_ok nmX5 (by decide) rfl rfl rfl (by decide) gX5 wm_225 rfl (by decide +kernel) dX5_readClause_48 fun s3 => ?_
      refine tr_aload_n hX 2 dX5_readClause_51 rfl rfl ?_
      refine tr_callVv hX 24 [] kv_X8_step wm_580 (by decide) rfl rfl rfl (by decide) rfl rfl (Nat.le_of_ble_eq_true rfl) dX5_readClause_52 (fun vq sq hq => c_X8_step G.1 hE N s3 (vq, sq) hq) fun v5 s4 => ?_
      refine tr_aload_n hX 1 dX5_readClause_55 rfl rfl ?_
      refine tr_aload_n hX 2 dX5_readClause_56 rfl rfl ?_
      refine tr_iload_n hX 0 dX5_readClause_57 rfl rfl ?_
      refine tr_callVv hX 26 [rf G.1 24, .int v2] kv_X5_readRange wm_581 (by decide) rfl rfl rfl (by decide) rfl rfl (Nat.le_of_ble_eq_true rfl) dX5_readClause_58 (fun vq sq hq => c_X5_readRange G.1 hE N s4 v2 (vq, sq) hq) fun v7 s6 => ?_
      refine tr_iload_n hX 0 dX5_readClause_61 rfl rfl ?_
      refine tr_iconst (v := 3) hX dX5_readClause_62 rfl ?_
      refine tr_icmp_ne hX 72 dX5_readClause_63 (by decide) ?_ ?_
      · refine tr_lv (lv2 := [(0, rf G.1 26), (1, rf G.1 24)]) [1, 2] rfl ?_
        exact w_X5_readClause_72 hX hR hE N s6
      · refine tr_aload_n hX 1 dX5_readClause_66 rfl rfl ?_
        refine tr_aload_n hX 2 dX5_readClause_67 rfl rfl ?_
        refine tr_iconst (v := 4) hX dX5_readClause_68 rfl ?_
        refine tr_callVv hX 26 [rf G.1 24, .int 4] kv_X5_readRange wm_581 (by decide) rfl rfl rfl (by decide) rfl rfl (Nat.le_of_ble_eq_true rfl) dX5_readClause_69 (fun vq sq hq => c_X5_readRange G.1 hE N s6 4 (vq, sq) hq) fun v9 s8 => ?_
        refine tr_lv (lv2 := [(0, rf G.1 26), (1, rf G.1 24)]) [1, 2] rfl ?_
        exact w_X5_readClause_72 hX hR hE N s8
    · refine tr_aload_n hX 1 dX5_readClause_30 rfl rfl ?_
      refine tr_aload_n hX 2 dX5_readClause_31 rfl rfl ?_
      refine tr_iconst (v := 2) hX dX5_readClause_32 rfl ?_
      refine tr_callVv hX 26 [rf G.1 24, .int 2] kv_X5_blame wm_576 (by decide) rfl rfl rfl (by decide) rfl rfl (Nat.le_of_ble_eq_true rfl) dX5_readClause_33 (fun vq sq hq => c_X5_blame G.1 hE N s1 2 (vq, sq) hq) fun v11 s10 => ?_
      refine tr_goto hX 78 dX5_readClause_36 (by decide) ?_
      exact tr_vret hX hR dX5_readClause_78
  · refine tr_aload_n hX 1 dX5_readClause_10 rfl rfl ?_
    refine tr_aload_n hX 2 dX5_readClause_11 rfl rfl ?_
    refine tr_iconst (v := 1) hX dX5_readClause_12 rfl ?_
    refine tr_callVv hX 26 [rf G.1 24, .int 1] kv_X5_blame wm_576 (by decide) rfl rfl rfl (by decide) rfl rfl (Nat.le_of_ble_eq_true rfl) dX5_readClause_13 (fun vq sq hq => c_X5_blame G.1 hE N s1 1 (vq, sq) hq) fun v13 s12 => ?_
    refine tr_goto hX 78 dX5_readClause_16 (by decide) ?_
    exact tr_vret hX hR dX5_readClause_78
theorem c_X5_readClause (E : Ex) (hE : va_D (AW E) (wd E (fun _ _ => 0))) (N : Nat) (s : Hp) (r : Int32 × Hp) (h : f_X5_readClause N s = some r) : CtrV E yX5_readClause cX5_readClause 3 none 6 162 [rf E 26, rf E 24] s r :=
  ctrV_of (by decide +kernel) hE (Nat.le_of_ble_eq_true rfl) h (fun G hX hR hG => by subst hG; exact w_X5_readClause hX hR hE N s)
