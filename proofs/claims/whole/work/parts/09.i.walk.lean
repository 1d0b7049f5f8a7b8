set_option maxRecDepth 20000 in
set_option maxHeartbeats 2000000 in
theorem w_X10_sortOf_41 {G : Gx} (hX : ok G cX10_sortOf 4 RX10 (some .int) 2 46) (hR : okR G) (hE : va_D (AW G.1) (wd G.1 (fun _ _ => 0))) (N : Nat) (k2 : Hp → Int32 → Int32 → Int32 → Option (Int32 × Hp)) (hk2 : ∀ (s : Hp) (x1 x2 x3 : Int32), T G (k2 s x1 x2 x3) s 2 [(0, rf G.1 36), (1, .int x1), (2, .int x2), (3, .int x3)] []) (s : Hp) (x1 x2 x3 : Int32) : T G (f_X10_sortOf_41 N k2 s x1 x2 x3) s 41 [(0, rf G.1 36), (1, .int x1), (2, .int x2), (3, .int x3)] [] := by
  unfold f_X10_sortOf_41
  refine tr_iincB (b := 1) (lv2 := fun y5 => [(3, .int y5), (0, rf G.1 36), (1, .int x1), (2, .int x2)]) hX 3 dX10_sortOf_41 rfl rfl (by decide) (fun _ => rfl) fun y5 => ?_
  refine tr_goto hX 2 dX10_sortOf_44 (by decide) ?_
  refine tr_lv (lv2 := [(0, rf G.1 36), (1, .int x1), (2, .int x2), (3, .int y5)]) [1, 2, 3, 0] rfl ?_
  exact hk2 s x1 x2 y5
set_option maxRecDepth 20000 in
set_option maxHeartbeats 2000000 in
theorem w_X10_sortOf_2 {G : Gx} (hX : ok G cX10_sortOf 4 RX10 (some .int) 2 46) (hR : okR G) (hE : va_D (AW G.1) (wd G.1 (fun _ _ => 0))) (N : Nat) (k2 : Hp → Int32 → Int32 → Int32 → Option (Int32 × Hp)) (hk2 : ∀ (s : Hp) (x1 x2 x3 : Int32), T G (k2 s x1 x2 x3) s 2 [(0, rf G.1 36), (1, .int x1), (2, .int x2), (3, .int x3)] []) (s : Hp) (x1 x2 x3 : Int32) : T G (f_X10_sortOf_2 N k2 s x1 x2 x3) s 2 [(0, rf G.1 36), (1, .int x1), (2, .int x2), (3, .int x3)] [] := by
  unfold f_X10_sortOf_2
  refine tr_iload_n hX 3 dX10_sortOf_2 rfl rfl ?_
  refine tr_aload_n hX 0 dX10_sortOf_3 rfl rfl ?_
  refine tr_getI hX 36 8 (by decide) rfl rfl rfl (by decide) gX10 wm_704 dX10_sortOf_4 ?_
  refine tr_icmp_ge hX 47 dX10_sortOf_7 (by decide) ?_ ?_
  · refine tr_aload_n hX 0 dX10_sortOf_47 rfl rfl ?_
    refine tr_iconst (v := (-1)) hX dX10_sortOf_48 rfl ?_
    refine tr_iload_n hX 1 dX10_sortOf_49 rfl rfl ?_
    refine tr_iload_n hX 2 dX10_sortOf_50 rfl rfl ?_
    refine tr_callV hX 36 [.int (-1), .int x1, .int x2] kv_X10_wasListened wm_827 (by decide) rfl rfl rfl (by decide) rfl rfl (Nat.le_of_ble_eq_true rfl) dX10_sortOf_51 (fun vq sq hq => c_X10_wasListened G.1 hE N s (-1) x1 x2 (vq, sq) hq) fun v2 s1 => ?_
    refine tr_if_eq hX 61 dX10_sortOf_54 (by decide) ?_ ?_
    · refine tr_iconst (v := 2) hX dX10_sortOf_61 rfl ?_
      exact tr_iret hX hR dX10_sortOf_62
    · refine tr_iconst (v := 1) hX dX10_sortOf_57 rfl ?_
      refine tr_goto hX 62 dX10_sortOf_58 (by decide) ?_
      exact tr_iret hX hR dX10_sortOf_62
  · refine tr_aload_n hX 0 dX10_sortOf_10 rfl rfl ?_
    refine tr_getR hX 36 10 (by decide) rfl rfl rfl (by decide) gX10 wm_706 dX10_sortOf_11 ?_
    refine tr_iload_n hX 3 dX10_sortOf_14 rfl rfl ?_
    refine tr_iald hX 44 (by decide) rfl dX10_sortOf_15 ?_
    refine tr_iload_n hX 1 dX10_sortOf_16 rfl rfl ?_
    refine tr_icmp_ne hX 41 dX10_sortOf_17 (by decide) ?_ ?_
    · exact w_X10_sortOf_41 hX hR hE N k2 hk2 s x1 x2 x3
    · refine tr_iload_n hX 2 dX10_sortOf_20 rfl rfl ?_
      refine tr_aload_n hX 0 dX10_sortOf_21 rfl rfl ?_
      refine tr_getR hX 36 11 (by decide) rfl rfl rfl (by decide) gX10 wm_707 dX10_sortOf_22 ?_
      refine tr_iload_n hX 3 dX10_sortOf_25 rfl rfl ?_
      refine tr_iald hX 45 (by decide) rfl dX10_sortOf_26 ?_
      refine tr_aload_n hX 0 dX10_sortOf_27 rfl rfl ?_
      refine tr_getR hX 36 12 (by decide) rfl rfl rfl (by decide) gX10 wm_708 dX10_sortOf_28 ?_
      refine tr_iload_n hX 3 dX10_sortOf_31 rfl rfl ?_
      refine tr_iald hX 46 (by decide) rfl dX10_sortOf_32 ?_
      refine tr_callS hX [.int x2, .int (s 45 (ix x3)), .int (s 46 (ix x3))] ks_X10_isIn wm_809 (by decide) rfl rfl (Nat.le_of_ble_eq_true rfl) dX10_sortOf_33 (fun vq sq hq => c_X10_isIn G.1 hE N s x2 (s 45 (ix x3)) (s 46 (ix x3)) (vq, sq) hq) fun v4 s3 => ?_
      refine tr_if_eq hX 41 dX10_sortOf_36 (by decide) ?_ ?_
      · exact w_X10_sortOf_41 hX hR hE N k2 hk2 s3 x1 x2 x3
      · refine tr_iconst (v := 0) hX dX10_sortOf_39 rfl ?_
        exact tr_iret hX hR dX10_sortOf_40
theorem wl_X10_sortOf_2 {G : Gx} (hX : ok G cX10_sortOf 4 RX10 (some .int) 2 46) (hR : okR G) (hE : va_D (AW G.1) (wd G.1 (fun _ _ => 0))) (N : Nat) : ∀ (n : Nat) (s : Hp) (x1 x2 x3 : Int32), T G (lp (fun _ _ _ _ => none) (f_X10_sortOf_2 N) n s x1 x2 x3) s 2 [(0, rf G.1 36), (1, .int x1), (2, .int x2), (3, .int x3)] [] := by
  intro n
  induction n with
  | zero => exact fun s x1 x2 x3 h => nomatch (show (none : Option (Int32 × Hp)) = some _ from h)
  | succ n ih => exact fun s x1 x2 x3 => w_X10_sortOf_2 hX hR hE N _ ih s x1 x2 x3
set_option maxRecDepth 20000 in
set_option maxHeartbeats 2000000 in
theorem w_X10_sortOf {G : Gx} (hX : ok G cX10_sortOf 4 RX10 (some .int) 2 46) (hR : okR G) (hE : va_D (AW G.1) (wd G.1 (fun _ _ => 0))) (N : Nat) (s : Hp) (x1 x2 : Int32) : T G (f_X10_sortOf N s x1 x2) s 0 [(0, rf G.1 36), (1, .int x1), (2, .int x2)] [] := by
  unfold f_X10_sortOf
  refine tr_iconst (v := 0) hX dX10_sortOf_0 rfl ?_
  refine tr_istore_n (lv2 := [(3, .int 0), (0, rf G.1 36), (1, .int x1), (2, .int x2)]) hX dX10_sortOf_1 rfl (by decide) rfl ?_
  refine tr_lv (lv2 := [(0, rf G.1 36), (1, .int x1), (2, .int x2), (3, .int 0)]) [1, 2, 3, 0] rfl ?_
  exact wl_X10_sortOf_2 hX hR hE N N s x1 x2 0
theorem c_X10_sortOf (E : Ex) (hE : va_D (AW E) (wd E (fun _ _ => 0))) (N : Nat) (s : Hp) (x1 x2 : Int32) (r : Int32 × Hp) (h : f_X10_sortOf N s x1 x2 = some r) : CtrI E yX10_sortOf cX10_sortOf 4 (some .int) 2 46 [rf E 36, .int x1, .int x2] s r :=
  ctrI_of (by decide +kernel) hE (Nat.le_of_ble_eq_true rfl) h (fun G hX hR hG => by subst hG; exact w_X10_sortOf hX hR hE N s x1 x2)
set_option maxRecDepth 20000 in
set_option maxHeartbeats 2000000 in
theorem w_X10_minutes_61 {G : Gx} (hX : ok G cX10_minutes 7 RX10 (some .int) 3 69) (hR : okR G) (hE : va_D (AW G.1) (wd G.1 (fun _ _ => 0))) (N : Nat) (k36 : Hp → Int32 → Int32 → Int32 → Int32 → Int32 → Option (Int32 × Hp)) (hk36 : ∀ (s : Hp) (x1 x3 x4 x5 x6 : Int32), T G (k36 s x1 x3 x4 x5 x6) s 36 [(0, rf G.1 36), (1, .int x1), (3, .int x3), (4, .int x4), (5, .int x5), (6, .int x6)] []) (s : Hp) (x1 x3 x4 x6 t0 t1 : Int32) : T G (f_X10_minutes_61 N k36 s x1 x3 x4 x6 t0 t1) s 61 [(0, rf G.1 36), (1, .int x1), (3, .int x3), (4, .int x4), (6, .int x6)] [.int t1, .int t0] := by
  unfold f_X10_minutes_61
  refine tr_iadd hX dX10_minutes_61 ?_
  refine tr_istoreB (lv2 := fun y9 => [(5, .int y9), (0, rf G.1 36), (1, .int x1), (3, .int x3), (4, .int x4), (6, .int x6)]) hX dX10_minutes_62 (by decide) (fun _ => rfl) fun y9 => ?_
  refine tr_iincB (b := 1) (lv2 := fun y10 => [(6, .int y10), (5, .int y9), (0, rf G.1 36), (1, .int x1), (3, .int x3), (4, .int x4)]) hX 5 dX10_minutes_64 rfl rfl (by decide) (fun _ => rfl) fun y10 => ?_
  refine tr_goto hX 36 dX10_minutes_67 (by decide) ?_
  refine tr_lv (lv2 := [(0, rf G.1 36), (1, .int x1), (3, .int x3), (4, .int x4), (5, .int y9), (6, .int y10)]) [2, 3, 4, 5, 1, 0] rfl ?_
  exact hk36 s x1 x3 x4 y9 y10
set_option maxRecDepth 20000 in
set_option maxHeartbeats 2000000 in
theorem w_X10_minutes_36 {G : Gx} (hX : ok G cX10_minutes 7 RX10 (some .int) 3 69) (hR : okR G) (hE : va_D (AW G.1) (wd G.1 (fun _ _ => 0))) (N : Nat) (k36 : Hp → Int32 → Int32 → Int32 → Int32 → Int32 → Option (Int32 × Hp)) (hk36 : ∀ (s : Hp) (x1 x3 x4 x5 x6 : Int32), T G (k36 s x1 x3 x4 x5 x6) s 36 [(0, rf G.1 36), (1, .int x1), (3, .int x3), (4, .int x4), (5, .int x5), (6, .int x6)] []) (s : Hp) (x1 x3 x4 x5 x6 : Int32) : T G (f_X10_minutes_36 N k36 s x1 x3 x4 x5 x6) s 36 [(0, rf G.1 36), (1, .int x1), (3, .int x3), (4, .int x4), (5, .int x5), (6, .int x6)] [] := by
  unfold f_X10_minutes_36
  refine tr_iload hX 5 dX10_minutes_36 rfl ?_
  refine tr_iload_n hX 2 dX10_minutes_38 rfl rfl ?_
  refine tr_icmp_gt hX 70 dX10_minutes_39 (by decide) ?_ ?_
  · refine tr_iload hX 4 dX10_minutes_70 rfl ?_
    exact tr_iret hX hR dX10_minutes_72
  · refine tr_iload hX 4 dX10_minutes_42 rfl ?_
    refine tr_aload_n hX 0 dX10_minutes_44 rfl rfl ?_
    refine tr_iload_n hX 1 dX10_minutes_45 rfl rfl ?_
    refine tr_iload hX 5 dX10_minutes_46 rfl ?_
    refine tr_callV hX 36 [.int x1, .int x6] kv_X10_sortOf wm_890 (by decide) rfl rfl rfl (by decide) rfl rfl (Nat.le_of_ble_eq_true rfl) dX10_minutes_48 (fun vq sq hq => c_X10_sortOf G.1 hE N s x1 x6 (vq, sq) hq) fun v8 s7 => ?_
    refine tr_iload hX 3 dX10_minutes_51 rfl ?_
    refine tr_icmp_ne hX 60 dX10_minutes_53 (by decide) ?_ ?_
    · refine tr_iconst (v := 0) hX dX10_minutes_60 rfl ?_
      refine tr_lv (lv2 := [(0, rf G.1 36), (1, .int x1), (3, .int x3), (4, .int x4), (6, .int x6)]) [0, 1, 2, 3, 5] rfl ?_
      exact w_X10_minutes_61 hX hR hE N k36 hk36 s7 x1 x3 x4 x6 x5 0
    · refine tr_iconst (v := 1) hX dX10_minutes_56 rfl ?_
      refine tr_goto hX 61 dX10_minutes_57 (by decide) ?_
      refine tr_lv (lv2 := [(0, rf G.1 36), (1, .int x1), (3, .int x3), (4, .int x4), (6, .int x6)]) [0, 1, 2, 3, 5] rfl ?_
      exact w_X10_minutes_61 hX hR hE N k36 hk36 s7 x1 x3 x4 x6 x5 1
theorem wl_X10_minutes_36 {G : Gx} (hX : ok G cX10_minutes 7 RX10 (some .int) 3 69) (hR : okR G) (hE : va_D (AW G.1) (wd G.1 (fun _ _ => 0))) (N : Nat) : ∀ (n : Nat) (s : Hp) (x1 x3 x4 x5 x6 : Int32), T G (lp (fun _ _ _ _ _ _ => none) (f_X10_minutes_36 N) n s x1 x3 x4 x5 x6) s 36 [(0, rf G.1 36), (1, .int x1), (3, .int x3), (4, .int x4), (5, .int x5), (6, .int x6)] [] := by
  intro n
  induction n with
  | zero => exact fun s x1 x3 x4 x5 x6 h => nomatch (show (none : Option (Int32 × Hp)) = some _ from h)
  | succ n ih => exact fun s x1 x3 x4 x5 x6 => w_X10_minutes_36 hX hR hE N _ ih s x1 x3 x4 x5 x6
set_option maxRecDepth 20000 in
set_option maxHeartbeats 2000000 in
theorem w_X10_minutes {G : Gx} (hX : ok G cX10_minutes 7 RX10 (some .int) 3 69) (hR : okR G) (hE : va_D (AW G.1) (wd G.1 (fun _ _ => 0))) (N : Nat) (s : Hp) (x1 x2 x3 x4 : Int32) : T G (f_X10_minutes N s x1 x2 x3 x4) s 0 [(0, rf G.1 36), (1, .int x1), (2, .int x2), (3, .int x3), (4, .int x4)] [] := by
  unfold f_X10_minutes
  refine tr_iload_n hX 1 dX10_minutes_0 rfl rfl ?_
  refine tr_iconst (v := 0) hX dX10_minutes_1 rfl ?_
  refine tr_bipush (v := 15) hX dX10_minutes_2 rfl ?_
  refine tr_callS hX [.int x1, .int 0, .int 15] ks_X10_isIn wm_809 (by decide) rfl rfl (Nat.le_of_ble_eq_true rfl) dX10_minutes_4 (fun vq sq hq => c_X10_isIn G.1 hE N s x1 0 15 (vq, sq) hq) fun v2 s1 => ?_
  refine tr_if_eq hX 28 dX10_minutes_7 (by decide) ?_ ?_
  · refine tr_iconst (v := (-1)) hX dX10_minutes_28 rfl ?_
    exact tr_iret hX hR dX10_minutes_29
  · refine tr_iload_n hX 2 dX10_minutes_10 rfl rfl ?_
    refine tr_iload_n hX 3 dX10_minutes_11 rfl rfl ?_
    refine tr_callS hX [.int x2, .int x3] ks_X10_isSpan wm_820 (by decide) rfl rfl (Nat.le_of_ble_eq_true rfl) dX10_minutes_12 (fun vq sq hq => c_X10_isSpan G.1 hE N s1 x2 x3 (vq, sq) hq) fun v4 s3 => ?_
    refine tr_if_eq hX 28 dX10_minutes_15 (by decide) ?_ ?_
    · refine tr_iconst (v := (-1)) hX dX10_minutes_28 rfl ?_
      exact tr_iret hX hR dX10_minutes_29
    · refine tr_iload hX 4 dX10_minutes_18 rfl ?_
      refine tr_iconst (v := 0) hX dX10_minutes_20 rfl ?_
      refine tr_iconst (v := 2) hX dX10_minutes_21 rfl ?_
      refine tr_callS hX [.int x4, .int 0, .int 2] ks_X10_isIn wm_809 (by decide) rfl rfl (Nat.le_of_ble_eq_true rfl) dX10_minutes_22 (fun vq sq hq => c_X10_isIn G.1 hE N s3 x4 0 2 (vq, sq) hq) fun v6 s5 => ?_
      refine tr_if_ne hX 30 dX10_minutes_25 (by decide) ?_ ?_
      · refine tr_iconst (v := 0) hX dX10_minutes_30 rfl ?_
        refine tr_istore (lv2 := [(5, .int 0), (0, rf G.1 36), (1, .int x1), (2, .int x2), (3, .int x3), (4, .int x4)]) hX dX10_minutes_31 (by decide) rfl ?_
        refine tr_iload_n hX 3 dX10_minutes_33 rfl rfl ?_
        refine tr_istore (lv2 := [(6, .int x2), (5, .int 0), (0, rf G.1 36), (1, .int x1), (2, .int x2), (3, .int x3), (4, .int x4)]) hX dX10_minutes_34 (by decide) rfl ?_
        refine tr_lv (lv2 := [(0, rf G.1 36), (1, .int x1), (3, .int x3), (4, .int x4), (5, .int 0), (6, .int x2)]) [2, 3, 5, 6, 1, 0] rfl ?_
        exact wl_X10_minutes_36 hX hR hE N N s5 x1 x3 x4 0 x2
      · refine tr_iconst (v := (-1)) hX dX10_minutes_28 rfl ?_
        exact tr_iret hX hR dX10_minutes_29
theorem c_X10_minutes (E : Ex) (hE : va_D (AW E) (wd E (fun _ _ => 0))) (N : Nat) (s : Hp) (x1 x2 x3 x4 : Int32) (r : Int32 × Hp) (h : f_X10_minutes N s x1 x2 x3 x4 = some r) : CtrI E yX10_minutes cX10_minutes 7 (some .int) 3 69 [rf E 36, .int x1, .int x2, .int x3, .int x4] s r :=
  ctrI_of (by decide +kernel) hE (Nat.le_of_ble_eq_true rfl) h (fun G hX hR hG => by subst hG; exact w_X10_minutes hX hR hE N s x1 x2 x3 x4)
set_option maxRecDepth 20000 in
set_option maxHeartbeats 2000000 in
theorem w_X10_blind_67 {G : Gx} (hX : ok G cX10_blind 7 RX10 (some .int) 3 69) (hR : okR G) (hE : va_D (AW G.1) (wd G.1 (fun _ _ => 0))) (N : Nat) (k29 : Hp → Int32 → Int32 → Int32 → Int32 → Int32 → Option (Int32 × Hp)) (hk29 : ∀ (s : Hp) (x1 x3 x4 x5 x6 : Int32), T G (k29 s x1 x3 x4 x5 x6) s 29 [(0, rf G.1 36), (1, .int x1), (3, .int x3), (4, .int x4), (5, .int x5), (6, .int x6)] []) (s : Hp) (x1 x3 x4 x5 x6 : Int32) : T G (f_X10_blind_67 N k29 s x1 x3 x4 x5 x6) s 67 [(0, rf G.1 36), (1, .int x1), (3, .int x3), (4, .int x4), (5, .int x5), (6, .int x6)] [] := by
  unfold f_X10_blind_67
  refine tr_iincB (b := 1) (lv2 := fun y7 => [(6, .int y7), (0, rf G.1 36), (1, .int x1), (3, .int x3), (4, .int x4), (5, .int x5)]) hX 5 dX10_blind_67 rfl rfl (by decide) (fun _ => rfl) fun y7 => ?_
  refine tr_goto hX 29 dX10_blind_70 (by decide) ?_
  refine tr_lv (lv2 := [(0, rf G.1 36), (1, .int x1), (3, .int x3), (4, .int x4), (5, .int x5), (6, .int y7)]) [1, 2, 3, 4, 5, 0] rfl ?_
  exact hk29 s x1 x3 x4 x5 y7
set_option maxRecDepth 20000 in
set_option maxHeartbeats 2000000 in
theorem w_X10_blind_54 {G : Gx} (hX : ok G cX10_blind 7 RX10 (some .int) 3 69) (hR : okR G) (hE : va_D (AW G.1) (wd G.1 (fun _ _ => 0))) (N : Nat) (k29 : Hp → Int32 → Int32 → Int32 → Int32 → Int32 → Option (Int32 × Hp)) (hk29 : ∀ (s : Hp) (x1 x3 x4 x5 x6 : Int32), T G (k29 s x1 x3 x4 x5 x6) s 29 [(0, rf G.1 36), (1, .int x1), (3, .int x3), (4, .int x4), (5, .int x5), (6, .int x6)] []) (s : Hp) (x1 x3 x4 x6 t0 : Int32) : T G (f_X10_blind_54 N k29 s x1 x3 x4 x6 t0) s 54 [(0, rf G.1 36), (1, .int x1), (3, .int x3), (4, .int x4), (6, .int x6)] [.int t0] := by
  unfold f_X10_blind_54
  refine tr_istore (lv2 := [(5, .int t0), (0, rf G.1 36), (1, .int x1), (3, .int x3), (4, .int x4), (6, .int x6)]) hX dX10_blind_54 (by decide) rfl ?_
  refine tr_iload hX 0 dX10_blind_56 rfl ?_
  refine tr_iload hX 4 dX10_blind_58 rfl ?_
  refine tr_icmp_le hX 67 dX10_blind_60 (by decide) ?_ ?_
  · refine tr_lv (lv2 := [(0, rf G.1 36), (1, .int x1), (3, .int x3), (4, .int x4), (5, .int t0), (6, .int x6)]) [1, 2, 3, 4, 0, 5] rfl ?_
    exact w_X10_blind_67 hX hR hE N k29 hk29 s x1 x3 x4 t0 x6
  · refine tr_iload hX 0 dX10_blind_63 rfl ?_
    refine tr_istore (lv2 := [(4, .int t0), (5, .int t0), (0, rf G.1 36), (1, .int x1), (3, .int x3), (6, .int x6)]) hX dX10_blind_65 (by decide) rfl ?_
    refine tr_lv (lv2 := [(0, rf G.1 36), (1, .int x1), (3, .int x3), (4, .int t0), (5, .int t0), (6, .int x6)]) [2, 3, 4, 0, 1, 5] rfl ?_
    exact w_X10_blind_67 hX hR hE N k29 hk29 s x1 x3 t0 t0 x6
set_option maxRecDepth 20000 in
set_option maxHeartbeats 2000000 in
theorem w_X10_blind_29 {G : Gx} (hX : ok G cX10_blind 7 RX10 (some .int) 3 69) (hR : okR G) (hE : va_D (AW G.1) (wd G.1 (fun _ _ => 0))) (N : Nat) (k29 : Hp → Int32 → Int32 → Int32 → Int32 → Int32 → Option (Int32 × Hp)) (hk29 : ∀ (s : Hp) (x1 x3 x4 x5 x6 : Int32), T G (k29 s x1 x3 x4 x5 x6) s 29 [(0, rf G.1 36), (1, .int x1), (3, .int x3), (4, .int x4), (5, .int x5), (6, .int x6)] []) (s : Hp) (x1 x3 x4 x5 x6 : Int32) : T G (f_X10_blind_29 N k29 s x1 x3 x4 x5 x6) s 29 [(0, rf G.1 36), (1, .int x1), (3, .int x3), (4, .int x4), (5, .int x5), (6, .int x6)] [] := by
  unfold f_X10_blind_29
  refine tr_iload hX 5 dX10_blind_29 rfl ?_
  refine tr_iload_n hX 2 dX10_blind_31 rfl rfl ?_
  refine tr_icmp_gt hX 73 dX10_blind_32 (by decide) ?_ ?_
  · refine tr_iload hX 3 dX10_blind_73 rfl ?_
    exact tr_iret hX hR dX10_blind_75
  · refine tr_aload_n hX 0 dX10_blind_35 rfl rfl ?_
    refine tr_iload_n hX 1 dX10_blind_36 rfl rfl ?_
    refine tr_iload hX 5 dX10_blind_37 rfl ?_
    refine tr_callV hX 36 [.int x1, .int x6] kv_X10_sortOf wm_890 (by decide) rfl rfl rfl (by decide) rfl rfl (Nat.le_of_ble_eq_true rfl) dX10_blind_39 (fun vq sq hq => c_X10_sortOf G.1 hE N s x1 x6 (vq, sq) hq) fun v6 s5 => ?_
    refine tr_iconst (v := 2) hX dX10_blind_42 rfl ?_
    refine tr_icmp_ne hX 53 dX10_blind_43 (by decide) ?_ ?_
    · refine tr_iconst (v := 0) hX dX10_blind_53 rfl ?_
      refine tr_lv (lv2 := [(0, rf G.1 36), (1, .int x1), (3, .int x3), (4, .int x4), (6, .int x6)]) [0, 1, 2, 3, 5] rfl ?_
      exact w_X10_blind_54 hX hR hE N k29 hk29 s5 x1 x3 x4 x6 0
    · refine tr_iload hX 4 dX10_blind_46 rfl ?_
      refine tr_iconst (v := 1) hX dX10_blind_48 rfl ?_
      refine tr_iadd hX dX10_blind_49 ?_
      refine tr_goto hX 54 dX10_blind_50 (by decide) ?_
      refine tr_lv (lv2 := [(0, rf G.1 36), (1, .int x1), (3, .int x3), (4, .int x4), (6, .int x6)]) [0, 1, 2, 3, 5] rfl ?_
      exact w_X10_blind_54 hX hR hE N k29 hk29 s5 x1 x3 x4 x6 (x5 + 1)
theorem wl_X10_blind_29 {G : Gx} (hX : ok G cX10_blind 7 RX10 (some .int) 3 69) (hR : okR G) (hE : va_D (AW G.1) (wd G.1 (fun _ _ => 0))) (N : Nat) : ∀ (n : Nat) (s : Hp) (x1 x3 x4 x5 x6 : Int32), T G (lp (fun _ _ _ _ _ _ => none) (f_X10_blind_29 N) n s x1 x3 x4 x5 x6) s 29 [(0, rf G.1 36), (1, .int x1), (3, .int x3), (4, .int x4), (5, .int x5), (6, .int x6)] [] := by
  intro n
  induction n with
  | zero => exact fun s x1 x3 x4 x5 x6 h => nomatch (show (none : Option (Int32 × Hp)) = some _ from h)
  | succ n ih => exact fun s x1 x3 x4 x5 x6 => w_X10_blind_29 hX hR hE N _ ih s x1 x3 x4 x5 x6
set_option maxRecDepth 20000 in
set_option maxHeartbeats 2000000 in
theorem w_X10_blind {G : Gx} (hX : ok G cX10_blind 7 RX10 (some .int) 3 69) (hR : okR G) (hE : va_D (AW G.1) (wd G.1 (fun _ _ => 0))) (N : Nat) (s : Hp) (x1 x2 x3 : Int32) : T G (f_X10_blind N s x1 x2 x3) s 0 [(0, rf G.1 36), (1, .int x1), (2, .int x2), (3, .int x3)] [] := by
  unfold f_X10_blind
  refine tr_iload_n hX 1 dX10_blind_0 rfl rfl ?_
  refine tr_iconst (v := 0) hX dX10_blind_1 rfl ?_
  refine tr_bipush (v := 15) hX dX10_blind_2 rfl ?_
  refine tr_callS hX [.int x1, .int 0, .int 15] ks_X10_isIn wm_809 (by decide) rfl rfl (Nat.le_of_ble_eq_true rfl) dX10_blind_4 (fun vq sq hq => c_X10_isIn G.1 hE N s x1 0 15 (vq, sq) hq) fun v2 s1 => ?_
  refine tr_if_eq hX 18 dX10_blind_7 (by decide) ?_ ?_
  · refine tr_iconst (v := (-1)) hX dX10_blind_18 rfl ?_
    exact tr_iret hX hR dX10_blind_19
  · refine tr_iload_n hX 2 dX10_blind_10 rfl rfl ?_
    refine tr_iload_n hX 3 dX10_blind_11 rfl rfl ?_
    refine tr_callS hX [.int x2, .int x3] ks_X10_isSpan wm_820 (by decide) rfl rfl (Nat.le_of_ble_eq_true rfl) dX10_blind_12 (fun vq sq hq => c_X10_isSpan G.1 hE N s1 x2 x3 (vq, sq) hq) fun v4 s3 => ?_
    refine tr_if_ne hX 20 dX10_blind_15 (by decide) ?_ ?_
    · refine tr_iconst (v := 0) hX dX10_blind_20 rfl ?_
      refine tr_istore (lv2 := [(4, .int 0), (0, rf G.1 36), (1, .int x1), (2, .int x2), (3, .int x3)]) hX dX10_blind_21 (by decide) rfl ?_
      refine tr_iconst (v := 0) hX dX10_blind_23 rfl ?_
      refine tr_istore (lv2 := [(5, .int 0), (4, .int 0), (0, rf G.1 36), (1, .int x1), (2, .int x2), (3, .int x3)]) hX dX10_blind_24 (by decide) rfl ?_
      refine tr_iload_n hX 4 dX10_blind_26 rfl rfl ?_
      refine tr_istore (lv2 := [(6, .int x2), (5, .int 0), (4, .int 0), (0, rf G.1 36), (1, .int x1), (2, .int x2), (3, .int x3)]) hX dX10_blind_27 (by decide) rfl ?_
      refine tr_lv (lv2 := [(0, rf G.1 36), (1, .int x1), (3, .int x3), (4, .int 0), (5, .int 0), (6, .int x2)]) [3, 4, 6, 2, 1, 0] rfl ?_
      exact wl_X10_blind_29 hX hR hE N N s3 x1 x3 0 0 x2
    · refine tr_iconst (v := (-1)) hX dX10_blind_18 rfl ?_
      exact tr_iret hX hR dX10_blind_19
theorem c_X10_blind (E : Ex) (hE : va_D (AW E) (wd E (fun _ _ => 0))) (N : Nat) (s : Hp) (x1 x2 x3 : Int32) (r : Int32 × Hp) (h : f_X10_blind N s x1 x2 x3 = some r) : CtrI E yX10_blind cX10_blind 7 (some .int) 3 69 [rf E 36, .int x1, .int x2, .int x3] s r :=
  ctrI_of (by decide +kernel) hE (Nat.le_of_ble_eq_true rfl) h (fun G hX hR hG => by subst hG; exact w_X10_blind hX hR hE N s x1 x2 x3)
set_option maxRecDepth 20000 in
set_option maxHeartbeats 2000000 in
theorem w_X10_four_3 {G : Gx} (hX : ok G cX10_four 3 RX10 none 0 0) (hR : okV G) (hE : va_D (AW G.1) (wd G.1 (fun _ _ => 0))) (N : Nat) (k3 : Hp → Int32 → Int32 → Option (Int32 × Hp)) (hk3 : ∀ (s : Hp) (x1 x2 : Int32), T G (k3 s x1 x2) s 3 [(0, rf G.1 36), (1, .int x1), (2, .int x2)] []) (s : Hp) (x1 x2 : Int32) : T G (f_X10_four_3 N k3 s x1 x2) s 3 [(0, rf G.1 36), (1, .int x1), (2, .int x2)] [] := by
  unfold f_X10_four_3
  refine tr_iload_n hX 2 dX10_four_3 rfl rfl ?_
  refine tr_if_lt hX 39 dX10_four_4 (by decide) ?_ ?_
  · exact tr_vret hX hR dX10_four_39
  · refine tr_aload_n hX 0 dX10_four_7 rfl rfl ?_
    refine tr_getR hX 36 21 (by decide) rfl rfl rfl (by decide) gX10 wm_717 dX10_four_8 ?_
    refine tr_aload_n hX 0 dX10_four_11 rfl rfl ?_
    refine tr_getI hX 36 22 (by decide) rfl rfl rfl (by decide) gX10 wm_718 dX10_four_12 ?_
    refine tr_iload_n hX 1 dX10_four_15 rfl rfl ?_
    refine tr_iload_n hX 2 dX10_four_16 rfl rfl ?_
    refine tr_ishr hX dX10_four_17 ?_
    refine tr_sipush (v := 255) hX dX10_four_18 rfl ?_
    refine tr_iand hX dX10_four_21 ?_
    refine tr_iast hX 52 (by decide) rfl dX10_four_22 fun s1 => ?_
    refine tr_aload_n hX 0 dX10_four_23 rfl rfl ?_
    refine tr_dup hX dX10_four_24 rfl ?_
    refine tr_getI hX 36 22 (by decide) rfl rfl rfl (by decide) gX10 wm_718 dX10_four_25 ?_
    refine tr_iconst (v := 1) hX dX10_four_28 rfl ?_
    refine tr_iadd hX dX10_four_29 ?_
    refine tr_putI hX 36 22 tyX10 tyX10_ok nmX10 (by decide) rfl rfl rfl (by decide) gX10 wm_718 rfl (by decide +kernel) dX10_four_30 fun s2 => ?_
    refine tr_iincB (b := (-8)) (lv2 := fun y3 => [(2, .int y3), (0, rf G.1 36), (1, .int x1)]) hX 2 dX10_four_33 rfl rfl (by decide) (fun _ => rfl) fun y3 => ?_
    refine tr_goto hX 3 dX10_four_36 (by decide) ?_
    refine tr_lv (lv2 := [(0, rf G.1 36), (1, .int x1), (2, .int y3)]) [1, 2, 0] rfl ?_
    exact hk3 s2 x1 y3
theorem wl_X10_four_3 {G : Gx} (hX : ok G cX10_four 3 RX10 none 0 0) (hR : okV G) (hE : va_D (AW G.1) (wd G.1 (fun _ _ => 0))) (N : Nat) : ∀ (n : Nat) (s : Hp) (x1 x2 : Int32), T G (lp (fun _ _ _ => none) (f_X10_four_3 N) n s x1 x2) s 3 [(0, rf G.1 36), (1, .int x1), (2, .int x2)] [] := by
  intro n
  induction n with
  | zero => exact fun s x1 x2 h => nomatch (show (none : Option (Int32 × Hp)) = some _ from h)
  | succ n ih => exact fun s x1 x2 => w_X10_four_3 hX hR hE N _ ih s x1 x2
set_option maxRecDepth 20000 in
set_option maxHeartbeats 2000000 in
theorem w_X10_four {G : Gx} (hX : ok G cX10_four 3 RX10 none 0 0) (hR : okV G) (hE : va_D (AW G.1) (wd G.1 (fun _ _ => 0))) (N : Nat) (s : Hp) (x1 : Int32) : T G (f_X10_four N s x1) s 0 [(0, rf G.1 36), (1, .int x1)] [] := by
  unfold f_X10_four
  refine tr_bipush (v := 24) hX dX10_four_0 rfl ?_
  refine tr_istore_n (lv2 := [(2, .int 24), (0, rf G.1 36), (1, .int x1)]) hX dX10_four_2 rfl (by decide) rfl ?_
  refine tr_lv (lv2 := [(0, rf G.1 36), (1, .int x1), (2, .int 24)]) [1, 2, 0] rfl ?_
  exact wl_X10_four_3 hX hR hE N N s x1 24
theorem c_X10_four (E : Ex) (hE : va_D (AW E) (wd E (fun _ _ => 0))) (N : Nat) (s : Hp) (x1 : Int32) (r : Int32 × Hp) (h : f_X10_four N s x1 = some r) : CtrV E yX10_four cX10_four 3 none 0 0 [rf E 36, .int x1] s r :=
  ctrV_of (by decide +kernel) hE (Nat.le_of_ble_eq_true rfl) h (fun G hX hR hG => by subst hG; exact w_X10_four hX hR hE N s x1)
set_option maxRecDepth 20000 in
set_option maxHeartbeats 2000000 in
theorem w_X10_feed {G : Gx} (hX : ok G cX10_feed 6 RX10 (some .int) 1 22) (hR : okR G) (hE : va_D (AW G.1) (wd G.1 (fun _ _ => 0))) (N : Nat) (s : Hp) (x1 x2 x3 x4 x5 : Int32) : T G (f_X10_feed N s x1 x2 x3 x4 x5) s 0 [(0, rf G.1 36), (1, .int x1), (2, .int x2), (3, .int x3), (4, .int x4), (5, .int x5)] [] := by
  unfold f_X10_feed
  refine tr_aload_n hX 0 dX10_feed_0 rfl rfl ?_
  refine tr_getI hX 36 22 (by decide) rfl rfl rfl (by decide) gX10 wm_718 dX10_feed_1 ?_
  refine tr_bipush (v := 20) hX dX10_feed_4 rfl ?_
  refine tr_iadd hX dX10_feed_6 ?_
  refine tr_bipush (v := 100) hX dX10_feed_7 rfl ?_
  refine tr_icmp_le hX 14 dX10_feed_9 (by decide) ?_ ?_
  · refine tr_aload_n hX 0 dX10_feed_14 rfl rfl ?_
    refine tr_iload_n hX 1 dX10_feed_15 rfl rfl ?_
    refine tr_callVv hX 36 [.int x1] kv_X10_four wm_902 (by decide) rfl rfl rfl (by decide) rfl rfl (Nat.le_of_ble_eq_true rfl) dX10_feed_16 (fun vq sq hq => c_X10_four G.1 hE N s x1 (vq, sq) hq) fun v2 s1 => ?_
    refine tr_aload_n hX 0 dX10_feed_19 rfl rfl ?_
    refine tr_iload_n hX 2 dX10_feed_20 rfl rfl ?_
    refine tr_callVv hX 36 [.int x2] kv_X10_four wm_902 (by decide) rfl rfl rfl (by decide) rfl rfl (Nat.le_of_ble_eq_true rfl) dX10_feed_21 (fun vq sq hq => c_X10_four G.1 hE N s1 x2 (vq, sq) hq) fun v4 s3 => ?_
    refine tr_aload_n hX 0 dX10_feed_24 rfl rfl ?_
    refine tr_iload_n hX 3 dX10_feed_25 rfl rfl ?_
    refine tr_callVv hX 36 [.int x3] kv_X10_four wm_902 (by decide) rfl rfl rfl (by decide) rfl rfl (Nat.le_of_ble_eq_true rfl) dX10_feed_26 (fun vq sq hq => c_X10_four G.1 hE N s3 x3 (vq, sq) hq) fun v6 s5 => ?_
    refine tr_aload_n hX 0 dX10_feed_29 rfl rfl ?_
    refine tr_iload hX 4 dX10_feed_30 rfl ?_
    refine tr_callVv hX 36 [.int x4] kv_X10_four wm_902 (by decide) rfl rfl rfl (by decide) rfl rfl (Nat.le_of_ble_eq_true rfl) dX10_feed_32 (fun vq sq hq => c_X10_four G.1 hE N s5 x4 (vq, sq) hq) fun v8 s7 => ?_
    refine tr_aload_n hX 0 dX10_feed_35 rfl rfl ?_
    refine tr_iload hX 5 dX10_feed_36 rfl ?_
    refine tr_callVv hX 36 [.int x5] kv_X10_four wm_902 (by decide) rfl rfl rfl (by decide) rfl rfl (Nat.le_of_ble_eq_true rfl) dX10_feed_38 (fun vq sq hq => c_X10_four G.1 hE N s7 x5 (vq, sq) hq) fun v10 s9 => ?_
    refine tr_aload_n hX 0 dX10_feed_41 rfl rfl ?_
    refine tr_getI hX 36 22 (by decide) rfl rfl rfl (by decide) gX10 wm_718 dX10_feed_42 ?_
    exact tr_iret hX hR dX10_feed_45
  · refine tr_iconst (v := (-1)) hX dX10_feed_12 rfl ?_
    exact tr_iret hX hR dX10_feed_13
theorem c_X10_feed (E : Ex) (hE : va_D (AW E) (wd E (fun _ _ => 0))) (N : Nat) (s : Hp) (x1 x2 x3 x4 x5 : Int32) (r : Int32 × Hp) (h : f_X10_feed N s x1 x2 x3 x4 x5 = some r) : CtrI E yX10_feed cX10_feed 6 (some .int) 1 22 [rf E 36, .int x1, .int x2, .int x3, .int x4, .int x5] s r :=
  ctrI_of (by decide +kernel) hE (Nat.le_of_ble_eq_true rfl) h (fun G hX hR hG => by subst hG; exact w_X10_feed hX hR hE N s x1 x2 x3 x4 x5)
set_option maxRecDepth 20000 in
set_option maxHeartbeats 2000000 in
theorem w_X10_end {G : Gx} (hX : ok G cX10_end 2 RX10 (some .int) 1 22) (hR : okR G) (hE : va_D (AW G.1) (wd G.1 (fun _ _ => 0))) (N : Nat) (s : Hp) (x1 : Int32) : T G (f_X10_end N s x1) s 0 [(0, rf G.1 36), (1, .int x1)] [] := by
  unfold f_X10_end
  refine tr_iload_n hX 1 dX10_end_0 rfl rfl ?_
  refine tr_iconst (v := 0) hX dX10_end_1 rfl ?_
  refine tr_aload_n hX 0 dX10_end_2 rfl rfl ?_
  refine tr_getI hX 36 22 (by decide) rfl rfl rfl (by decide) gX10 wm_718 dX10_end_3 ?_
  refine tr_callS hX [.int x1, .int 0, .int (s 36 22)] ks_X10_isIn wm_809 (by decide) rfl rfl (Nat.le_of_ble_eq_true rfl) dX10_end_6 (fun vq sq hq => c_X10_isIn G.1 hE N s x1 0 (s 36 22) (vq, sq) hq) fun v2 s1 => ?_
  refine tr_if_ne hX 14 dX10_end_9 (by decide) ?_ ?_
  · refine tr_aload_n hX 0 dX10_end_14 rfl rfl ?_
    refine tr_iload_n hX 1 dX10_end_15 rfl rfl ?_
    refine tr_putI hX 36 22 tyX10 tyX10_ok nmX10 (by decide) rfl rfl rfl (by decide) gX10 wm_718 rfl (by decide +kernel) dX10_end_16 fun s3 => ?_
    refine tr_iload_n hX 1 dX10_end_19 rfl rfl ?_
    exact tr_iret hX hR dX10_end_20
  · refine tr_iconst (v := (-1)) hX dX10_end_12 rfl ?_
    exact tr_iret hX hR dX10_end_13
theorem c_X10_end (E : Ex) (hE : va_D (AW E) (wd E (fun _ _ => 0))) (N : Nat) (s : Hp) (x1 : Int32) (r : Int32 × Hp) (h : f_X10_end N s x1 = some r) : CtrI E yX10_end cX10_end 2 (some .int) 1 22 [rf E 36, .int x1] s r :=
  ctrI_of (by decide +kernel) hE (Nat.le_of_ble_eq_true rfl) h (fun G hX hR hG => by subst hG; exact w_X10_end hX hR hE N s x1)
set_option maxRecDepth 20000 in
set_option maxHeartbeats 2000000 in
theorem w_X10_see {G : Gx} (hX : ok G cX10_see 2 RX10 (some .int) 0 0) (hR : okR G) (hE : va_D (AW G.1) (wd G.1 (fun _ _ => 0))) (N : Nat) (s : Hp) (x1 : Int32) : T G (f_X10_see N s x1) s 0 [(0, rf G.1 36), (1, .int x1)] [] := by
  unfold f_X10_see
  refine tr_iload_n hX 1 dX10_see_0 rfl rfl ?_
  refine tr_aload_n hX 0 dX10_see_1 rfl rfl ?_
  refine tr_getI hX 36 22 (by decide) rfl rfl rfl (by decide) gX10 wm_718 dX10_see_2 ?_
  refine tr_icmp_ge hX 17 dX10_see_5 (by decide) ?_ ?_
  · refine tr_iconst (v := (-1)) hX dX10_see_17 rfl ?_
    exact tr_iret hX hR dX10_see_18
  · refine tr_aload_n hX 0 dX10_see_8 rfl rfl ?_
    refine tr_getR hX 36 21 (by decide) rfl rfl rfl (by decide) gX10 wm_717 dX10_see_9 ?_
    refine tr_iload_n hX 1 dX10_see_12 rfl rfl ?_
    refine tr_iald hX 52 (by decide) rfl dX10_see_13 ?_
    refine tr_goto hX 18 dX10_see_14 (by decide) ?_
    exact tr_iret hX hR dX10_see_18
theorem c_X10_see (E : Ex) (hE : va_D (AW E) (wd E (fun _ _ => 0))) (N : Nat) (s : Hp) (x1 : Int32) (r : Int32 × Hp) (h : f_X10_see N s x1 = some r) : CtrI E yX10_see cX10_see 2 (some .int) 0 0 [rf E 36, .int x1] s r :=
  ctrI_of (by decide +kernel) hE (Nat.le_of_ble_eq_true rfl) h (fun G hX hR hG => by subst hG; exact w_X10_see hX hR hE N s x1)
set_option maxRecDepth 20000 in
set_option maxHeartbeats 2000000 in
theorem w_X10_isDigit {G : Gx} (hX : ok G cX10_isDigit 1 RX10 (some .boolean) 1 22) (hR : okR G) (hE : va_D (AW G.1) (wd G.1 (fun _ _ => 0))) (N : Nat) (s : Hp) (x0 : Int32) : T G (f_X10_isDigit N s x0) s 0 [(0, .int x0)] [] := by
  unfold f_X10_isDigit
  refine tr_iload_n hX 0 dX10_isDigit_0 rfl rfl ?_
  refine tr_bipush (v := 48) hX dX10_isDigit_1 rfl ?_
  refine tr_bipush (v := 57) hX dX10_isDigit_3 rfl ?_
  refine tr_callS hX [.int x0, .int 48, .int 57] ks_X10_isIn wm_809 (by decide) rfl rfl (Nat.le_of_ble_eq_true rfl) dX10_isDigit_5 (fun vq sq hq => c_X10_isIn G.1 hE N s x0 48 57 (vq, sq) hq) fun v2 s1 => ?_
  exact tr_zretC hX hR dX10_isDigit_8
theorem c_X10_isDigit (E : Ex) (hE : va_D (AW E) (wd E (fun _ _ => 0))) (N : Nat) (s : Hp) (x0 : Int32) (r : Int32 × Hp) (h : f_X10_isDigit N s x0 = some r) : CtrI E yX10_isDigit cX10_isDigit 1 (some .boolean) 1 22 [.int x0] s r :=
  ctrI_of (by decide +kernel) hE (Nat.le_of_ble_eq_true rfl) h (fun G hX hR hG => by subst hG; exact w_X10_isDigit hX hR hE N s x0)
set_option maxRecDepth 20000 in
set_option maxHeartbeats 2000000 in
theorem w_X10_isLetter_22 {G : Gx} (hX : ok G cX10_isLetter 1 RX10 (some .boolean) 1 22) (hR : okR G) (hE : va_D (AW G.1) (wd G.1 (fun _ _ => 0))) (N : Nat) (s : Hp) : T G (f_X10_isLetter_22 N s) s 22 [] [] := by
  unfold f_X10_isLetter_22
  refine tr_iconst (v := 1) hX dX10_isLetter_22 rfl ?_
  refine tr_goto hX 27 dX10_isLetter_23 (by decide) ?_
  exact tr_zret hX hR rfl dX10_isLetter_27
set_option maxRecDepth 20000 in
set_option maxHeartbeats 2000000 in
theorem w_X10_isLetter {G : Gx} (hX : ok G cX10_isLetter 1 RX10 (some .boolean) 1 22) (hR : okR G) (hE : va_D (AW G.1) (wd G.1 (fun _ _ => 0))) (N : Nat) (s : Hp) (x0 : Int32) : T G (f_X10_isLetter N s x0) s 0 [(0, .int x0)] [] := by
  unfold f_X10_isLetter
  refine tr_iload_n hX 0 dX10_isLetter_0 rfl rfl ?_
  refine tr_bipush (v := 97) hX dX10_isLetter_1 rfl ?_
  refine tr_bipush (v := 122) hX dX10_isLetter_3 rfl ?_
  refine tr_callS hX [.int x0, .int 97, .int 122] ks_X10_isIn wm_809 (by decide) rfl rfl (Nat.le_of_ble_eq_true rfl) dX10_isLetter_5 (fun vq sq hq => c_X10_isIn G.1 hE N s x0 97 122 (vq, sq) hq) fun v2 s1 => ?_
  refine tr_if_ne hX 22 dX10_isLetter_8 (by decide) ?_ ?_
  · refine tr_lv (lv2 := []) [] rfl ?_
    exact w_X10_isLetter_22 hX hR hE N s1
  · refine tr_iload_n hX 0 dX10_isLetter_11 rfl rfl ?_
    refine tr_bipush (v := 65) hX dX10_isLetter_12 rfl ?_
    refine tr_bipush (v := 90) hX dX10_isLetter_14 rfl ?_
    refine tr_callS hX [.int x0, .int 65, .int 90] ks_X10_isIn wm_809 (by decide) rfl rfl (Nat.le_of_ble_eq_true rfl) dX10_isLetter_16 (fun vq sq hq => c_X10_isIn G.1 hE N s1 x0 65 90 (vq, sq) hq) fun v4 s3 => ?_
    refine tr_if_eq hX 26 dX10_isLetter_19 (by decide) ?_ ?_
    · refine tr_iconst (v := 0) hX dX10_isLetter_26 rfl ?_
      exact tr_zret hX hR rfl dX10_isLetter_27
    · refine tr_lv (lv2 := []) [] rfl ?_
      exact w_X10_isLetter_22 hX hR hE N s3
theorem c_X10_isLetter (E : Ex) (hE : va_D (AW E) (wd E (fun _ _ => 0))) (N : Nat) (s : Hp) (x0 : Int32) (r : Int32 × Hp) (h : f_X10_isLetter N s x0 = some r) : CtrI E yX10_isLetter cX10_isLetter 1 (some .boolean) 1 22 [.int x0] s r :=
  ctrI_of (by decide +kernel) hE (Nat.le_of_ble_eq_true rfl) h (fun G hX hR hG => by subst hG; exact w_X10_isLetter hX hR hE N s x0)
set_option maxRecDepth 20000 in
set_option maxHeartbeats 2000000 in
theorem w_X10_pack {G : Gx} (hX : ok G cX10_pack 4 RX10 (some .int) 0 0) (hR : okR G) (hE : va_D (AW G.1) (wd G.1 (fun _ _ => 0))) (N : Nat) (s : Hp) (x0 x1 x2 x3 : Int32) : T G (f_X10_pack N s x0 x1 x2 x3) s 0 [(0, .int x0), (1, .int x1), (2, .int x2), (3, .int x3)] [] := by
  unfold f_X10_pack
  refine tr_iload_n hX 0 dX10_pack_0 rfl rfl ?_
  refine tr_bipush (v := 7) hX dX10_pack_1 rfl ?_
  refine tr_ishl hX dX10_pack_3 ?_
  refine tr_iload_n hX 1 dX10_pack_4 rfl rfl ?_
  refine tr_ior hX dX10_pack_5 ?_
  refine tr_bipush (v := 7) hX dX10_pack_6 rfl ?_
  refine tr_ishl hX dX10_pack_8 ?_
  refine tr_iload_n hX 2 dX10_pack_9 rfl rfl ?_
  refine tr_ior hX dX10_pack_10 ?_
  refine tr_bipush (v := 7) hX dX10_pack_11 rfl ?_
  refine tr_ishl hX dX10_pack_13 ?_
  refine tr_iload_n hX 3 dX10_pack_14 rfl rfl ?_
  refine tr_ior hX dX10_pack_15 ?_
  exact tr_iret hX hR dX10_pack_16
theorem c_X10_pack (E : Ex) (hE : va_D (AW E) (wd E (fun _ _ => 0))) (N : Nat) (s : Hp) (x0 x1 x2 x3 : Int32) (r : Int32 × Hp) (h : f_X10_pack N s x0 x1 x2 x3 = some r) : CtrI E yX10_pack cX10_pack 4 (some .int) 0 0 [.int x0, .int x1, .int x2, .int x3] s r :=
  ctrI_of (by decide +kernel) hE (Nat.le_of_ble_eq_true rfl) h (fun G hX hR hG => by subst hG; exact w_X10_pack hX hR hE N s x0 x1 x2 x3)
set_option maxRecDepth 20000 in
set_option maxHeartbeats 2000000 in
theorem w_X10_wordOf {G : Gx} (hX : ok G cX10_wordOf 1 RX10 (some .int) 1 23) (hR : okR G) (hE : va_D (AW G.1) (wd G.1 (fun _ _ => 0))) (N : Nat) (s : Hp) (x0 : Int32) : T G (f_X10_wordOf N s x0) s 0 [(0, .int x0)] [] := by
  unfold f_X10_wordOf
  refine tr_iload_n hX 0 dX10_wordOf_0 rfl rfl ?_
  refine tr_bipush (v := 99) hX dX10_wordOf_1 rfl ?_
  refine tr_bipush (v := 104) hX dX10_wordOf_3 rfl ?_
  refine tr_bipush (v := 97) hX dX10_wordOf_5 rfl ?_
  refine tr_bipush (v := 110) hX dX10_wordOf_7 rfl ?_
  refine tr_callS hX [.int 99, .int 104, .int 97, .int 110] ks_X10_pack wm_936 (by decide) rfl rfl (Nat.le_of_ble_eq_true rfl) dX10_wordOf_9 (fun vq sq hq => c_X10_pack G.1 hE N s 99 104 97 110 (vq, sq) hq) fun v2 s1 => ?_
  refine tr_icmp_ne hX 19 dX10_wordOf_12 (by decide) ?_ ?_
  · refine tr_iload_n hX 0 dX10_wordOf_19 rfl rfl ?_
    refine tr_bipush (v := 116) hX dX10_wordOf_20 rfl ?_
    refine tr_bipush (v := 105) hX dX10_wordOf_22 rfl ?_
    refine tr_bipush (v := 109) hX dX10_wordOf_24 rfl ?_
    refine tr_bipush (v := 101) hX dX10_wordOf_26 rfl ?_
    refine tr_callS hX [.int 116, .int 105, .int 109, .int 101] ks_X10_pack wm_936 (by decide) rfl rfl (Nat.le_of_ble_eq_true rfl) dX10_wordOf_28 (fun vq sq hq => c_X10_pack G.1 hE N s1 116 105 109 101 (vq, sq) hq) fun v4 s3 => ?_
    refine tr_icmp_ne hX 39 dX10_wordOf_31 (by decide) ?_ ?_
    · refine tr_iload_n hX 0 dX10_wordOf_39 rfl rfl ?_
      refine tr_bipush (v := 116) hX dX10_wordOf_40 rfl ?_
      refine tr_bipush (v := 111) hX dX10_wordOf_42 rfl ?_
      refine tr_bipush (v := 110) hX dX10_wordOf_44 rfl ?_
      refine tr_bipush (v := 101) hX dX10_wordOf_46 rfl ?_
      refine tr_callS hX [.int 116, .int 111, .int 110, .int 101] ks_X10_pack wm_936 (by decide) rfl rfl (Nat.le_of_ble_eq_true rfl) dX10_wordOf_48 (fun vq sq hq => c_X10_pack G.1 hE N s3 116 111 110 101 (vq, sq) hq) fun v6 s5 => ?_
      refine tr_icmp_ne hX 59 dX10_wordOf_51 (by decide) ?_ ?_
      · refine tr_iload_n hX 0 dX10_wordOf_59 rfl rfl ?_
        refine tr_iconst (v := 0) hX dX10_wordOf_60 rfl ?_
        refine tr_bipush (v := 98) hX dX10_wordOf_61 rfl ?_
        refine tr_bipush (v := 111) hX dX10_wordOf_63 rfl ?_
        refine tr_bipush (v := 120) hX dX10_wordOf_65 rfl ?_
        refine tr_callS hX [.int 0, .int 98, .int 111, .int 120] ks_X10_pack wm_936 (by decide) rfl rfl (Nat.le_of_ble_eq_true rfl) dX10_wordOf_67 (fun vq sq hq => c_X10_pack G.1 hE N s5 0 98 111 120 (vq, sq) hq) fun v8 s7 => ?_
        refine tr_icmp_ne hX 78 dX10_wordOf_70 (by decide) ?_ ?_
        · refine tr_iconst (v := 4) hX dX10_wordOf_78 rfl ?_
          exact tr_iret hX hR dX10_wordOf_79
        · refine tr_bipush (v := 8) hX dX10_wordOf_73 rfl ?_
          refine tr_goto hX 79 dX10_wordOf_75 (by decide) ?_
          exact tr_iret hX hR dX10_wordOf_79
      · refine tr_bipush (v := 7) hX dX10_wordOf_54 rfl ?_
        refine tr_goto hX 79 dX10_wordOf_56 (by decide) ?_
        exact tr_iret hX hR dX10_wordOf_79
    · refine tr_bipush (v := 6) hX dX10_wordOf_34 rfl ?_
      refine tr_goto hX 79 dX10_wordOf_36 (by decide) ?_
      exact tr_iret hX hR dX10_wordOf_79
  · refine tr_iconst (v := 5) hX dX10_wordOf_15 rfl ?_
    refine tr_goto hX 79 dX10_wordOf_16 (by decide) ?_
    exact tr_iret hX hR dX10_wordOf_79
theorem c_X10_wordOf (E : Ex) (hE : va_D (AW E) (wd E (fun _ _ => 0))) (N : Nat) (s : Hp) (x0 : Int32) (r : Int32 × Hp) (h : f_X10_wordOf N s x0 = some r) : CtrI E yX10_wordOf cX10_wordOf 1 (some .int) 1 23 [.int x0] s r :=
  ctrI_of (by decide +kernel) hE (Nat.le_of_ble_eq_true rfl) h (fun G hX hR hG => by subst hG; exact w_X10_wordOf hX hR hE N s x0)
set_option maxRecDepth 20000 in
set_option maxHeartbeats 2000000 in
theorem w_X10_nextToken_118 {G : Gx} (hX : ok G cX10_nextToken 3 RX10 none 2 43) (hR : okV G) (hE : va_D (AW G.1) (wd G.1 (fun _ _ => 0))) (N : Nat) (k72 : Hp → Option (Int32 × Hp)) (hk72 : ∀ (s : Hp), T G (k72 s) s 72 [(0, rf G.1 36)] []) (s : Hp) : T G (f_X10_nextToken_118 N k72 s) s 118 [(0, rf G.1 36)] [] := by
  unfold f_X10_nextToken_118
  refine tr_aload_n hX 0 dX10_nextToken_118 rfl rfl ?_
  refine tr_dup hX dX10_nextToken_119 rfl ?_
  refine tr_getI hX 36 27 (by decide) rfl rfl rfl (by decide) gX10 wm_723 dX10_nextToken_120 ?_
  refine tr_iconst (v := 1) hX dX10_nextToken_123 rfl ?_
  refine tr_iadd hX dX10_nextToken_124 ?_
  refine tr_putI hX 36 27 tyX10 tyX10_ok nmX10 (by decide) rfl rfl rfl (by decide) gX10 wm_723 rfl (by decide +kernel) dX10_nextToken_125 fun s34 => ?_
  refine tr_goto hX 72 dX10_nextToken_128 (by decide) ?_
  exact hk72 s34
set_option maxRecDepth 20000 in
set_option maxHeartbeats 2000000 in
theorem w_X10_nextToken_72 {G : Gx} (hX : ok G cX10_nextToken 3 RX10 none 2 43) (hR : okV G) (hE : va_D (AW G.1) (wd G.1 (fun _ _ => 0))) (N : Nat) (k72 : Hp → Option (Int32 × Hp)) (hk72 : ∀ (s : Hp), T G (k72 s) s 72 [(0, rf G.1 36)] []) (s : Hp) : T G (f_X10_nextToken_72 N k72 s) s 72 [(0, rf G.1 36)] [] := by
  unfold f_X10_nextToken_72
  refine tr_aload_n hX 0 dX10_nextToken_72 rfl rfl ?_
  refine tr_aload_n hX 0 dX10_nextToken_73 rfl rfl ?_
  refine tr_getI hX 36 27 (by decide) rfl rfl rfl (by decide) gX10 wm_723 dX10_nextToken_74 ?_
  refine tr_callV hX 36 [.int (s 36 27)] kv_X10_see wm_922 (by decide) rfl rfl rfl (by decide) rfl rfl (Nat.le_of_ble_eq_true rfl) dX10_nextToken_77 (fun vq sq hq => c_X10_see G.1 hE N s (s 36 27) (vq, sq) hq) fun v26 s25 => ?_
  refine tr_callS hX [.int v26] ks_X10_isDigit wm_926 (by decide) rfl rfl (Nat.le_of_ble_eq_true rfl) dX10_nextToken_80 (fun vq sq hq => c_X10_isDigit G.1 hE N s25 v26 (vq, sq) hq) fun v28 s27 => ?_
  refine tr_if_eq hX 257 dX10_nextToken_83 (by decide) ?_ ?_
  · exact tr_vret hX hR dX10_nextToken_257
  · refine tr_aload_n hX 0 dX10_nextToken_86 rfl rfl ?_
    refine tr_getI hX 36 30 (by decide) rfl rfl rfl (by decide) gX10 wm_726 dX10_nextToken_87 ?_
    refine tr_ldc (v := 100000) hX wm_929 dX10_nextToken_90 ?_
    refine tr_icmp_ge hX 118 dX10_nextToken_92 (by decide) ?_ ?_
    · exact w_X10_nextToken_118 hX hR hE N k72 hk72 s27
    · refine tr_aload_n hX 0 dX10_nextToken_95 rfl rfl ?_
      refine tr_bipush (v := 10) hX dX10_nextToken_96 rfl ?_
      refine tr_aload_n hX 0 dX10_nextToken_98 rfl rfl ?_
      refine tr_getI hX 36 30 (by decide) rfl rfl rfl (by decide) gX10 wm_726 dX10_nextToken_99 ?_
      refine tr_imul hX dX10_nextToken_102 ?_
      refine tr_aload_n hX 0 dX10_nextToken_103 rfl rfl ?_
      refine tr_aload_n hX 0 dX10_nextToken_104 rfl rfl ?_
      refine tr_getI hX 36 27 (by decide) rfl rfl rfl (by decide) gX10 wm_723 dX10_nextToken_105 ?_
      refine tr_callV hX 36 [.int (s27 36 27)] kv_X10_see wm_922 (by decide) rfl rfl rfl (by decide) rfl rfl (Nat.le_of_ble_eq_true rfl) dX10_nextToken_108 (fun vq sq hq => c_X10_see G.1 hE N s27 (s27 36 27) (vq, sq) hq) fun v30 s29 => ?_
      refine tr_iadd hX dX10_nextToken_111 ?_
      refine tr_bipush (v := 48) hX dX10_nextToken_112 rfl ?_
      refine tr_isub hX dX10_nextToken_114 ?_
      refine tr_putI hX 36 30 tyX10 tyX10_ok nmX10 (by decide) rfl rfl rfl (by decide) gX10 wm_726 rfl (by decide +kernel) dX10_nextToken_115 fun s31 => ?_
      exact w_X10_nextToken_118 hX hR hE N k72 hk72 s31
theorem wl_X10_nextToken_72 {G : Gx} (hX : ok G cX10_nextToken 3 RX10 none 2 43) (hR : okV G) (hE : va_D (AW G.1) (wd G.1 (fun _ _ => 0))) (N : Nat) : ∀ (n : Nat) (s : Hp), T G (lp (fun _ => none) (f_X10_nextToken_72 N) n s) s 72 [(0, rf G.1 36)] [] := by
  intro n
  induction n with
  | zero => exact fun s  h => nomatch (show (none : Option (Int32 × Hp)) = some _ from h)
  | succ n ih => exact fun s  => w_X10_nextToken_72 hX hR hE N _ ih s 
set_option maxRecDepth 20000 in
set_option maxHeartbeats 2000000 in
theorem w_X10_nextToken_181 {G : Gx} (hX : ok G cX10_nextToken 3 RX10 none 2 43) (hR : okV G) (hE : va_D (AW G.1) (wd G.1 (fun _ _ => 0))) (N : Nat) (k140 : Hp → Int32 → Option (Int32 × Hp)) (hk140 : ∀ (s : Hp) (x2 : Int32), T G (k140 s x2) s 140 [(0, rf G.1 36), (2, .int x2)] []) (s : Hp) (x2 : Int32) : T G (f_X10_nextToken_181 N k140 s x2) s 181 [(0, rf G.1 36), (2, .int x2)] [] := by
  unfold f_X10_nextToken_181
  refine tr_aload_n hX 0 dX10_nextToken_181 rfl rfl ?_
  refine tr_dup hX dX10_nextToken_182 rfl ?_
  refine tr_getI hX 36 27 (by decide) rfl rfl rfl (by decide) gX10 wm_723 dX10_nextToken_183 ?_
  refine tr_iconst (v := 1) hX dX10_nextToken_186 rfl ?_
  refine tr_iadd hX dX10_nextToken_187 ?_
  refine tr_putI hX 36 27 tyX10 tyX10_ok nmX10 (by decide) rfl rfl rfl (by decide) gX10 wm_723 rfl (by decide +kernel) dX10_nextToken_188 fun s33 => ?_
  refine tr_goto hX 140 dX10_nextToken_191 (by decide) ?_
  exact hk140 s33 x2
set_option maxRecDepth 20000 in
set_option maxHeartbeats 2000000 in
theorem w_X10_nextToken_216 {G : Gx} (hX : ok G cX10_nextToken 3 RX10 none 2 43) (hR : okV G) (hE : va_D (AW G.1) (wd G.1 (fun _ _ => 0))) (N : Nat) (s : Hp) (t1 : Int32) : T G (f_X10_nextToken_216 N s t1) s 216 [] [.int t1, rf G.1 36] := by
  unfold f_X10_nextToken_216
  refine tr_putI hX 36 29 tyX10 tyX10_ok nmX10 (by decide) rfl rfl rfl (by decide) gX10 wm_725 rfl (by decide +kernel) dX10_nextToken_216 fun s32 => ?_
  refine tr_goto hX 257 dX10_nextToken_219 (by decide) ?_
  exact tr_vret hX hR dX10_nextToken_257
set_option maxRecDepth 20000 in
set_option maxHeartbeats 2000000 in
theorem w_X10_nextToken_140 {G : Gx} (hX : ok G cX10_nextToken 3 RX10 none 2 43) (hR : okV G) (hE : va_D (AW G.1) (wd G.1 (fun _ _ => 0))) (N : Nat) (k140 : Hp → Int32 → Option (Int32 × Hp)) (hk140 : ∀ (s : Hp) (x2 : Int32), T G (k140 s x2) s 140 [(0, rf G.1 36), (2, .int x2)] []) (s : Hp) (x2 : Int32) : T G (f_X10_nextToken_140 N k140 s x2) s 140 [(0, rf G.1 36), (2, .int x2)] [] := by
  unfold f_X10_nextToken_140
  refine tr_aload_n hX 0 dX10_nextToken_140 rfl rfl ?_
  refine tr_aload_n hX 0 dX10_nextToken_141 rfl rfl ?_
  refine tr_getI hX 36 27 (by decide) rfl rfl rfl (by decide) gX10 wm_723 dX10_nextToken_142 ?_
  refine tr_callV hX 36 [.int (s 36 27)] kv_X10_see wm_922 (by decide) rfl rfl rfl (by decide) rfl rfl (Nat.le_of_ble_eq_true rfl) dX10_nextToken_145 (fun vq sq hq => c_X10_see G.1 hE N s (s 36 27) (vq, sq) hq) fun v17 s16 => ?_
  refine tr_callS hX [.int v17] ks_X10_isLetter wm_930 (by decide) rfl rfl (Nat.le_of_ble_eq_true rfl) dX10_nextToken_148 (fun vq sq hq => c_X10_isLetter G.1 hE N s16 v17 (vq, sq) hq) fun v19 s18 => ?_
  refine tr_if_eq hX 194 dX10_nextToken_151 (by decide) ?_ ?_
  · refine tr_aload_n hX 0 dX10_nextToken_194 rfl rfl ?_
    refine tr_aload_n hX 0 dX10_nextToken_195 rfl rfl ?_
    refine tr_getI hX 36 27 (by decide) rfl rfl rfl (by decide) gX10 wm_723 dX10_nextToken_196 ?_
    refine tr_aload_n hX 0 dX10_nextToken_199 rfl rfl ?_
    refine tr_getI hX 36 28 (by decide) rfl rfl rfl (by decide) gX10 wm_724 dX10_nextToken_200 ?_
    refine tr_isub hX dX10_nextToken_203 ?_
    refine tr_iconst (v := 4) hX dX10_nextToken_204 rfl ?_
    refine tr_icmp_le hX 212 dX10_nextToken_205 (by decide) ?_ ?_
    · refine tr_iload_n hX 1 dX10_nextToken_212 rfl rfl ?_
      refine tr_callS hX [.int x2] ks_X10_wordOf wm_933 (by decide) rfl rfl (Nat.le_of_ble_eq_true rfl) dX10_nextToken_213 (fun vq sq hq => c_X10_wordOf G.1 hE N s18 x2 (vq, sq) hq) fun v21 s20 => ?_
      refine tr_lv (lv2 := []) [] rfl ?_
      exact w_X10_nextToken_216 hX hR hE N s20 v21
    · refine tr_iconst (v := 4) hX dX10_nextToken_208 rfl ?_
      refine tr_goto hX 216 dX10_nextToken_209 (by decide) ?_
      refine tr_lv (lv2 := []) [] rfl ?_
      exact w_X10_nextToken_216 hX hR hE N s18 4
  · refine tr_aload_n hX 0 dX10_nextToken_154 rfl rfl ?_
    refine tr_getI hX 36 27 (by decide) rfl rfl rfl (by decide) gX10 wm_723 dX10_nextToken_155 ?_
    refine tr_aload_n hX 0 dX10_nextToken_158 rfl rfl ?_
    refine tr_getI hX 36 28 (by decide) rfl rfl rfl (by decide) gX10 wm_724 dX10_nextToken_159 ?_
    refine tr_isub hX dX10_nextToken_162 ?_
    refine tr_iconst (v := 4) hX dX10_nextToken_163 rfl ?_
    refine tr_icmp_ge hX 181 dX10_nextToken_164 (by decide) ?_ ?_
    · exact w_X10_nextToken_181 hX hR hE N k140 hk140 s18 x2
    · refine tr_iload_n hX 1 dX10_nextToken_167 rfl rfl ?_
      refine tr_bipush (v := 7) hX dX10_nextToken_168 rfl ?_
      refine tr_ishl hX dX10_nextToken_170 ?_
      refine tr_aload_n hX 0 dX10_nextToken_171 rfl rfl ?_
      refine tr_aload_n hX 0 dX10_nextToken_172 rfl rfl ?_
      refine tr_getI hX 36 27 (by decide) rfl rfl rfl (by decide) gX10 wm_723 dX10_nextToken_173 ?_
      refine tr_callV hX 36 [.int (s18 36 27)] kv_X10_see wm_922 (by decide) rfl rfl rfl (by decide) rfl rfl (Nat.le_of_ble_eq_true rfl) dX10_nextToken_176 (fun vq sq hq => c_X10_see G.1 hE N s18 (s18 36 27) (vq, sq) hq) fun v23 s22 => ?_
      refine tr_ior hX dX10_nextToken_179 ?_
      refine tr_istore_nB (lv2 := fun y24 => [(2, .int y24), (0, rf G.1 36)]) hX dX10_nextToken_180 rfl (by decide) (fun _ => rfl) fun y24 => ?_
      refine tr_lv (lv2 := [(0, rf G.1 36), (2, .int y24)]) [1, 0] rfl ?_
      exact w_X10_nextToken_181 hX hR hE N k140 hk140 s22 y24
theorem wl_X10_nextToken_140 {G : Gx} (hX : ok G cX10_nextToken 3 RX10 none 2 43) (hR : okV G) (hE : va_D (AW G.1) (wd G.1 (fun _ _ => 0))) (N : Nat) : ∀ (n : Nat) (s : Hp) (x2 : Int32), T G (lp (fun _ _ => none) (f_X10_nextToken_140 N) n s x2) s 140 [(0, rf G.1 36), (2, .int x2)] [] := by
  intro n
  induction n with
  | zero => exact fun s x2 h => nomatch (show (none : Option (Int32 × Hp)) = some _ from h)
  | succ n ih => exact fun s x2 => w_X10_nextToken_140 hX hR hE N _ ih s x2
set_option maxRecDepth 20000 in
set_option maxHeartbeats 2000000 in
theorem w_X10_nextToken_244 {G : Gx} (hX : ok G cX10_nextToken 3 RX10 none 2 43) (hR : okV G) (hE : va_D (AW G.1) (wd G.1 (fun _ _ => 0))) (N : Nat) (s : Hp) (t1 : Int32) : T G (f_X10_nextToken_244 N s t1) s 244 [(0, rf G.1 36)] [.int t1, rf G.1 36] := by
  unfold f_X10_nextToken_244
  refine tr_putI hX 36 29 tyX10 tyX10_ok nmX10 (by decide) rfl rfl rfl (by decide) gX10 wm_725 rfl (by decide +kernel) dX10_nextToken_244 fun s14 => ?_
  refine tr_aload_n hX 0 dX10_nextToken_247 rfl rfl ?_
  refine tr_dup hX dX10_nextToken_248 rfl ?_
  refine tr_getI hX 36 27 (by decide) rfl rfl rfl (by decide) gX10 wm_723 dX10_nextToken_249 ?_
  refine tr_iconst (v := 1) hX dX10_nextToken_252 rfl ?_
  refine tr_iadd hX dX10_nextToken_253 ?_
  refine tr_putI hX 36 27 tyX10 tyX10_ok nmX10 (by decide) rfl rfl rfl (by decide) gX10 wm_723 rfl (by decide +kernel) dX10_nextToken_254 fun s15 => ?_
  exact tr_vret hX hR dX10_nextToken_257
set_option maxRecDepth 20000 in
set_option maxHeartbeats 2000000 in
theorem w_X10_nextToken_0 {G : Gx} (hX : ok G cX10_nextToken 3 RX10 none 2 43) (hR : okV G) (hE : va_D (AW G.1) (wd G.1 (fun _ _ => 0))) (N : Nat) (k0 : Hp → Option (Int32 × Hp)) (hk0 : ∀ (s : Hp), T G (k0 s) s 0 [(0, rf G.1 36)] []) (s : Hp) : T G (f_X10_nextToken_0 N k0 s) s 0 [(0, rf G.1 36)] [] := by
  unfold f_X10_nextToken_0
  refine tr_aload_n hX 0 dX10_nextToken_0 rfl rfl ?_
  refine tr_aload_n hX 0 dX10_nextToken_1 rfl rfl ?_
  refine tr_getI hX 36 27 (by decide) rfl rfl rfl (by decide) gX10 wm_723 dX10_nextToken_2 ?_
  refine tr_callV hX 36 [.int (s 36 27)] kv_X10_see wm_922 (by decide) rfl rfl rfl (by decide) rfl rfl (Nat.le_of_ble_eq_true rfl) dX10_nextToken_5 (fun vq sq hq => c_X10_see G.1 hE N s (s 36 27) (vq, sq) hq) fun v2 s1 => ?_
  refine tr_bipush (v := 32) hX dX10_nextToken_8 rfl ?_
  refine tr_icmp_ne hX 26 dX10_nextToken_10 (by decide) ?_ ?_
  · refine tr_aload_n hX 0 dX10_nextToken_26 rfl rfl ?_
    refine tr_aload_n hX 0 dX10_nextToken_27 rfl rfl ?_
    refine tr_getI hX 36 27 (by decide) rfl rfl rfl (by decide) gX10 wm_723 dX10_nextToken_28 ?_
    refine tr_putI hX 36 28 tyX10 tyX10_ok nmX10 (by decide) rfl rfl rfl (by decide) gX10 wm_724 rfl (by decide +kernel) dX10_nextToken_31 fun s3 => ?_
    refine tr_aload_n hX 0 dX10_nextToken_34 rfl rfl ?_
    refine tr_aload_n hX 0 dX10_nextToken_35 rfl rfl ?_
    refine tr_getI hX 36 27 (by decide) rfl rfl rfl (by decide) gX10 wm_723 dX10_nextToken_36 ?_
    refine tr_callV hX 36 [.int (s3 36 27)] kv_X10_see wm_922 (by decide) rfl rfl rfl (by decide) rfl rfl (Nat.le_of_ble_eq_true rfl) dX10_nextToken_39 (fun vq sq hq => c_X10_see G.1 hE N s3 (s3 36 27) (vq, sq) hq) fun v5 s4 => ?_
    refine tr_istore_n (lv2 := [(1, .int v5), (0, rf G.1 36)]) hX dX10_nextToken_42 rfl (by decide) rfl ?_
    refine tr_iload_n hX 0 dX10_nextToken_43 rfl rfl ?_
    refine tr_if_ge hX 55 dX10_nextToken_44 (by decide) ?_ ?_
    · refine tr_iload_n hX 0 dX10_nextToken_55 rfl rfl ?_
      refine tr_callS hX [.int v5] ks_X10_isDigit wm_926 (by decide) rfl rfl (Nat.le_of_ble_eq_true rfl) dX10_nextToken_56 (fun vq sq hq => c_X10_isDigit G.1 hE N s4 v5 (vq, sq) hq) fun v7 s6 => ?_
      refine tr_if_eq hX 131 dX10_nextToken_59 (by decide) ?_ ?_
      · refine tr_iload_n hX 0 dX10_nextToken_131 rfl rfl ?_
        refine tr_callS hX [.int v5] ks_X10_isLetter wm_930 (by decide) rfl rfl (Nat.le_of_ble_eq_true rfl) dX10_nextToken_132 (fun vq sq hq => c_X10_isLetter G.1 hE N s6 v5 (vq, sq) hq) fun v9 s8 => ?_
        refine tr_if_eq hX 222 dX10_nextToken_135 (by decide) ?_ ?_
        · refine tr_aload_n hX 1 dX10_nextToken_222 rfl rfl ?_
          refine tr_iload_n hX 0 dX10_nextToken_223 rfl rfl ?_
          refine tr_bipush (v := 59) hX dX10_nextToken_224 rfl ?_
          refine tr_icmp_ne hX 233 dX10_nextToken_226 (by decide) ?_ ?_
          · refine tr_iload_n hX 0 dX10_nextToken_233 rfl rfl ?_
            refine tr_bipush (v := 45) hX dX10_nextToken_234 rfl ?_
            refine tr_icmp_ne hX 243 dX10_nextToken_236 (by decide) ?_ ?_
            · refine tr_iconst (v := 4) hX dX10_nextToken_243 rfl ?_
              refine tr_lv (lv2 := [(0, rf G.1 36)]) [1] rfl ?_
              exact w_X10_nextToken_244 hX hR hE N s8 4
            · refine tr_iconst (v := 3) hX dX10_nextToken_239 rfl ?_
              refine tr_goto hX 244 dX10_nextToken_240 (by decide) ?_
              refine tr_lv (lv2 := [(0, rf G.1 36)]) [1] rfl ?_
              exact w_X10_nextToken_244 hX hR hE N s8 3
          · refine tr_iconst (v := 2) hX dX10_nextToken_229 rfl ?_
            refine tr_goto hX 244 dX10_nextToken_230 (by decide) ?_
            refine tr_lv (lv2 := [(0, rf G.1 36)]) [1] rfl ?_
            exact w_X10_nextToken_244 hX hR hE N s8 2
        · refine tr_iconst (v := 0) hX dX10_nextToken_138 rfl ?_
          refine tr_istore_n (lv2 := [(2, .int 0), (1, .int v5), (0, rf G.1 36)]) hX dX10_nextToken_139 rfl (by decide) rfl ?_
          refine tr_lv (lv2 := [(0, rf G.1 36), (2, .int 0)]) [2, 0] rfl ?_
          exact wl_X10_nextToken_140 hX hR hE N N s8 0
      · refine tr_aload_n hX 1 dX10_nextToken_62 rfl rfl ?_
        refine tr_iconst (v := 1) hX dX10_nextToken_63 rfl ?_
        refine tr_putI hX 36 29 tyX10 tyX10_ok nmX10 (by decide) rfl rfl rfl (by decide) gX10 wm_725 rfl (by decide +kernel) dX10_nextToken_64 fun s10 => ?_
        refine tr_aload_n hX 1 dX10_nextToken_67 rfl rfl ?_
        refine tr_iconst (v := 0) hX dX10_nextToken_68 rfl ?_
        refine tr_putI hX 36 30 tyX10 tyX10_ok nmX10 (by decide) rfl rfl rfl (by decide) gX10 wm_726 rfl (by decide +kernel) dX10_nextToken_69 fun s11 => ?_
        refine tr_lv (lv2 := [(0, rf G.1 36)]) [1] rfl ?_
        exact wl_X10_nextToken_72 hX hR hE N N s11
    · refine tr_aload_n hX 1 dX10_nextToken_47 rfl rfl ?_
      refine tr_iconst (v := 0) hX dX10_nextToken_48 rfl ?_
      refine tr_putI hX 36 29 tyX10 tyX10_ok nmX10 (by decide) rfl rfl rfl (by decide) gX10 wm_725 rfl (by decide +kernel) dX10_nextToken_49 fun s12 => ?_
      refine tr_goto hX 257 dX10_nextToken_52 (by decide) ?_
      exact tr_vret hX hR dX10_nextToken_257
  · refine tr_aload_n hX 0 dX10_nextToken_13 rfl rfl ?_
    refine tr_dup hX dX10_nextToken_14 rfl ?_
    refine tr_getI hX 36 27 (by decide) rfl rfl rfl (by decide) gX10 wm_723 dX10_nextToken_15 ?_
    refine tr_iconst (v := 1) hX dX10_nextToken_18 rfl ?_
    refine tr_iadd hX dX10_nextToken_19 ?_
    refine tr_putI hX 36 27 tyX10 tyX10_ok nmX10 (by decide) rfl rfl rfl (by decide) gX10 wm_723 rfl (by decide +kernel) dX10_nextToken_20 fun s13 => ?_
    refine tr_goto hX 0 dX10_nextToken_23 (by decide) ?_
    exact hk0 s13
theorem wl_X10_nextToken_0 {G : Gx} (hX : ok G cX10_nextToken 3 RX10 none 2 43) (hR : okV G) (hE : va_D (AW G.1) (wd G.1 (fun _ _ => 0))) (N : Nat) : ∀ (n : Nat) (s : Hp), T G (lp (fun _ => none) (f_X10_nextToken_0 N) n s) s 0 [(0, rf G.1 36)] [] := by
  intro n
  induction n with
  | zero => exact fun s  h => nomatch (show (none : Option (Int32 × Hp)) = some _ from h)
  | succ n ih => exact fun s  => w_X10_nextToken_0 hX hR hE N _ ih s 
theorem w_X10_nextToken {G : Gx} (hX : ok G cX10_nextToken 3 RX10 none 2 43) (hR : okV G) (hE : va_D (AW G.1) (wd G.1 (fun _ _ => 0))) (N : Nat) (s : Hp) : T G (f_X10_nextToken N s) s 0 [(0, rf G.1 36)] [] := wl_X10_nextToken_0 hX hR hE N N s
theorem c_X10_nextToken (E : Ex) (hE : va_D (AW E) (wd E (fun _ _ => 0))) (N : Nat) (s : Hp) (r : Int32 × Hp) (h : f_X10_nextToken N s = some r) : CtrV E yX10_nextToken cX10_nextToken 3 none 2 43 [rf E 36] s r :=
  ctrV_of (by decide +kernel) hE (Nat.le_of_ble_eq_true rfl) h (fun G hX hR hG => by subst hG; exact w_X10_nextToken hX hR hE N s)
set_option maxRecDepth 20000 in
set_option maxHeartbeats 2000000 in
theorem w_X10_span_77 {G : Gx} (hX : ok G cX10_span 5 RX10 (some .int) 3 65) (hR : okR G) (hE : va_D (AW G.1) (wd G.1 (fun _ _ => 0))) (N : Nat) (s : Hp) (x1 x4 : Int32) : T G (f_X10_span_77 N s x1 x4) s 77 [(0, rf G.1 36), (1, .int x1), (4, .int x4)] [] := by
  unfold f_X10_span_77
  refine tr_aload_n hX 0 dX10_span_77 rfl rfl ?_
  refine tr_getR hX 36 24 (by decide) rfl rfl rfl (by decide) gX10 wm_720 dX10_span_78 ?_
  refine tr_bipush (v := 100) hX dX10_span_81 rfl ?_
  refine tr_iload_n hX 1 dX10_span_83 rfl rfl ?_
  refine tr_iadd hX dX10_span_84 ?_
  refine tr_iload hX 2 dX10_span_85 rfl ?_
  refine tr_iast hX 53 (by decide) rfl dX10_span_87 fun s6 => ?_
  refine tr_aload_n hX 0 dX10_span_88 rfl rfl ?_
  refine tr_getR hX 36 24 (by decide) rfl rfl rfl (by decide) gX10 wm_720 dX10_span_89 ?_
  refine tr_bipush (v := 101) hX dX10_span_92 rfl ?_
  refine tr_iload_n hX 1 dX10_span_94 rfl rfl ?_
  refine tr_iadd hX dX10_span_95 ?_
  refine tr_aload_n hX 0 dX10_span_96 rfl rfl ?_
  refine tr_getI hX 36 30 (by decide) rfl rfl rfl (by decide) gX10 wm_726 dX10_span_97 ?_
  refine tr_iast hX 53 (by decide) rfl dX10_span_100 fun s7 => ?_
  refine tr_aload_n hX 0 dX10_span_101 rfl rfl ?_
  refine tr_callVv hX 36 [] kv_X10_nextToken wm_918 (by decide) rfl rfl rfl (by decide) rfl rfl (Nat.le_of_ble_eq_true rfl) dX10_span_102 (fun vq sq hq => c_X10_nextToken G.1 hE N s7 (vq, sq) hq) fun v9 s8 => ?_
  refine tr_iconst (v := 0) hX dX10_span_105 rfl ?_
  exact tr_iret hX hR dX10_span_106
set_option maxRecDepth 20000 in
set_option maxHeartbeats 2000000 in
theorem w_X10_span {G : Gx} (hX : ok G cX10_span 5 RX10 (some .int) 3 65) (hR : okR G) (hE : va_D (AW G.1) (wd G.1 (fun _ _ => 0))) (N : Nat) (s : Hp) (x1 x2 x3 : Int32) : T G (f_X10_span N s x1 x2 x3) s 0 [(0, rf G.1 36), (1, .int x1), (2, .int x2), (3, .int x3)] [] := by
  unfold f_X10_span
  refine tr_aload_n hX 0 dX10_span_0 rfl rfl ?_
  refine tr_getI hX 36 29 (by decide) rfl rfl rfl (by decide) gX10 wm_725 dX10_span_1 ?_
  refine tr_iconst (v := 1) hX dX10_span_4 rfl ?_
  refine tr_icmp_eq hX 10 dX10_span_5 (by decide) ?_ ?_
  · refine tr_aload_n hX 0 dX10_span_10 rfl rfl ?_
    refine tr_getI hX 36 30 (by decide) rfl rfl rfl (by decide) gX10 wm_726 dX10_span_11 ?_
    refine tr_iload_n hX 2 dX10_span_14 rfl rfl ?_
    refine tr_icmp_le hX 20 dX10_span_15 (by decide) ?_ ?_
    · refine tr_aload_n hX 0 dX10_span_20 rfl rfl ?_
      refine tr_getI hX 36 30 (by decide) rfl rfl rfl (by decide) gX10 wm_726 dX10_span_21 ?_
      refine tr_istoreB (lv2 := fun y1 => [(4, .int y1), (0, rf G.1 36), (1, .int x1), (2, .int x2), (3, .int x3)]) hX dX10_span_24 (by decide) (fun _ => rfl) fun y1 => ?_
      refine tr_aload_n hX 1 dX10_span_26 rfl rfl ?_
      refine tr_callVv hX 36 [] kv_X10_nextToken wm_918 (by decide) rfl rfl rfl (by decide) rfl rfl (Nat.le_of_ble_eq_true rfl) dX10_span_27 (fun vq sq hq => c_X10_nextToken G.1 hE N s (vq, sq) hq) fun v3 s2 => ?_
      refine tr_aload_n hX 1 dX10_span_30 rfl rfl ?_
      refine tr_getI hX 36 29 (by decide) rfl rfl rfl (by decide) gX10 wm_725 dX10_span_31 ?_
      refine tr_iconst (v := 3) hX dX10_span_34 rfl ?_
      refine tr_icmp_eq hX 40 dX10_span_35 (by decide) ?_ ?_
      · refine tr_aload_n hX 1 dX10_span_40 rfl rfl ?_
        refine tr_callVv hX 36 [] kv_X10_nextToken wm_918 (by decide) rfl rfl rfl (by decide) rfl rfl (Nat.le_of_ble_eq_true rfl) dX10_span_41 (fun vq sq hq => c_X10_nextToken G.1 hE N s2 (vq, sq) hq) fun v5 s4 => ?_
        refine tr_aload_n hX 1 dX10_span_44 rfl rfl ?_
        refine tr_getI hX 36 29 (by decide) rfl rfl rfl (by decide) gX10 wm_725 dX10_span_45 ?_
        refine tr_iconst (v := 1) hX dX10_span_48 rfl ?_
        refine tr_icmp_eq hX 54 dX10_span_49 (by decide) ?_ ?_
        · refine tr_aload_n hX 1 dX10_span_54 rfl rfl ?_
          refine tr_getI hX 36 30 (by decide) rfl rfl rfl (by decide) gX10 wm_726 dX10_span_55 ?_
          refine tr_iload_n hX 3 dX10_span_58 rfl rfl ?_
          refine tr_icmp_gt hX 75 dX10_span_59 (by decide) ?_ ?_
          · refine tr_iconst (v := 3) hX dX10_span_75 rfl ?_
            exact tr_iret hX hR dX10_span_76
          · refine tr_aload_n hX 1 dX10_span_62 rfl rfl ?_
            refine tr_getI hX 36 30 (by decide) rfl rfl rfl (by decide) gX10 wm_726 dX10_span_63 ?_
            refine tr_iload hX 0 dX10_span_66 rfl ?_
            refine tr_icmp_ge hX 77 dX10_span_68 (by decide) ?_ ?_
            · refine tr_lv (lv2 := [(0, rf G.1 36), (1, .int x1), (4, .int y1)]) [1, 2, 0] rfl ?_
              exact w_X10_span_77 hX hR hE N s4 x1 y1
            · refine tr_iload_n hX 4 dX10_span_71 rfl rfl ?_
              refine tr_if_ne hX 77 dX10_span_72 (by decide) ?_ ?_
              · refine tr_lv (lv2 := [(0, rf G.1 36), (1, .int x1), (4, .int y1)]) [1, 2, 0] rfl ?_
                exact w_X10_span_77 hX hR hE N s4 x1 y1
              · refine tr_iconst (v := 3) hX dX10_span_75 rfl ?_
                exact tr_iret hX hR dX10_span_76
        · refine tr_iconst (v := 1) hX dX10_span_52 rfl ?_
          exact tr_iret hX hR dX10_span_53
      · refine tr_iconst (v := 1) hX dX10_span_38 rfl ?_
        exact tr_iret hX hR dX10_span_39
    · refine tr_iconst (v := 3) hX dX10_span_18 rfl ?_
      exact tr_iret hX hR dX10_span_19
  · refine tr_iconst (v := 1) hX dX10_span_8 rfl ?_
    exact tr_iret hX hR dX10_span_9
theorem c_X10_span (E : Ex) (hE : va_D (AW E) (wd E (fun _ _ => 0))) (N : Nat) (s : Hp) (x1 x2 x3 : Int32) (r : Int32 × Hp) (h : f_X10_span N s x1 x2 x3 = some r) : CtrI E yX10_span cX10_span 5 (some .int) 3 65 [rf E 36, .int x1, .int x2, .int x3] s r :=
  ctrI_of (by decide +kernel) hE (Nat.le_of_ble_eq_true rfl) h (fun G hX hR hG => by subst hG; exact w_X10_span hX hR hE N s x1 x2 x3)
