set_option maxRecDepth 20000 in
set_option maxHeartbeats 2000000 in
theorem w_X9_isBelow {G : Gx} (hX : ok G cX9_isBelow 2 RX9 (some .boolean) 0 0) (hR : okR G) (hE : va_D (AW G.1) (wd G.1 (fun _ _ => 0))) (N : Nat) (s : Hp) (x0 x1 : Int32) : T G (f_X9_isBelow N s x0 x1) s 0 [(0, .int x0), (1, .int x1)] [] := by
  unfold f_X9_isBelow
  refine tr_iload_n hX 0 dX9_isBelow_0 rfl rfl ?_
  refine tr_if_lt hX 13 dX9_isBelow_1 (by decide) ?_ ?_
  · refine tr_iconst (v := 0) hX dX9_isBelow_13 rfl ?_
    exact tr_zret hX hR rfl dX9_isBelow_14
  · refine tr_iload_n hX 0 dX9_isBelow_4 rfl rfl ?_
    refine tr_iload_n hX 1 dX9_isBelow_5 rfl rfl ?_
    refine tr_icmp_ge hX 13 dX9_isBelow_6 (by decide) ?_ ?_
    · refine tr_iconst (v := 0) hX dX9_isBelow_13 rfl ?_
      exact tr_zret hX hR rfl dX9_isBelow_14
    · refine tr_iconst (v := 1) hX dX9_isBelow_9 rfl ?_
      refine tr_goto hX 14 dX9_isBelow_10 (by decide) ?_
      exact tr_zret hX hR rfl dX9_isBelow_14
theorem c_X9_isBelow (E : Ex) (hE : va_D (AW E) (wd E (fun _ _ => 0))) (N : Nat) (s : Hp) (x0 x1 : Int32) (r : Int32 × Hp) (h : f_X9_isBelow N s x0 x1 = some r) : CtrI E yX9_isBelow cX9_isBelow 2 (some .boolean) 0 0 [.int x0, .int x1] s r :=
  ctrI_of (by decide +kernel) hE (Nat.le_of_ble_eq_true rfl) h (fun G hX hR hG => by subst hG; exact w_X9_isBelow hX hR hE N s x0 x1)
set_option maxRecDepth 20000 in
set_option maxHeartbeats 2000000 in
theorem w_X4_add {G : Gx} (hX : ok G cX4_add 3 RX4 (some .int) 0 0) (hR : okR G) (hE : va_D (AW G.1) (wd G.1 (fun _ _ => 0))) (N : Nat) (s : Hp) (x1 x2 : Int32) : T G (f_X4_add N s x1 x2) s 0 [(0, rf G.1 1), (1, .int x1), (2, .int x2)] [] := by
  unfold f_X4_add
  refine tr_aload_n hX 0 dX4_add_0 rfl rfl ?_
  refine tr_getI hX 1 2 (by decide) rfl rfl rfl (by decide) gX4 wm_36 dX4_add_1 ?_
  refine tr_bipush (v := 6) hX dX4_add_4 rfl ?_
  refine tr_icmp_lt hX 11 dX4_add_6 (by decide) ?_ ?_
  · refine tr_aload_n hX 0 dX4_add_11 rfl rfl ?_
    refine tr_getR hX 1 0 (by decide) rfl rfl rfl (by decide) gX4 wm_32 dX4_add_12 ?_
    refine tr_aload_n hX 0 dX4_add_15 rfl rfl ?_
    refine tr_getI hX 1 2 (by decide) rfl rfl rfl (by decide) gX4 wm_36 dX4_add_16 ?_
    refine tr_iload_n hX 1 dX4_add_19 rfl rfl ?_
    refine tr_iast hX 2 (by decide) rfl dX4_add_20 fun s1 => ?_
    refine tr_aload_n hX 0 dX4_add_21 rfl rfl ?_
    refine tr_getR hX 1 1 (by decide) rfl rfl rfl (by decide) gX4 wm_34 dX4_add_22 ?_
    refine tr_aload_n hX 0 dX4_add_25 rfl rfl ?_
    refine tr_getI hX 1 2 (by decide) rfl rfl rfl (by decide) gX4 wm_36 dX4_add_26 ?_
    refine tr_iload_n hX 2 dX4_add_29 rfl rfl ?_
    refine tr_iast hX 3 (by decide) rfl dX4_add_30 fun s2 => ?_
    refine tr_aload_n hX 0 dX4_add_31 rfl rfl ?_
    refine tr_dup hX dX4_add_32 rfl ?_
    refine tr_getI hX 1 2 (by decide) rfl rfl rfl (by decide) gX4 wm_36 dX4_add_33 ?_
    refine tr_iconst (v := 1) hX dX4_add_36 rfl ?_
    refine tr_iadd hX dX4_add_37 ?_
    refine tr_putI hX 1 2 tyX4 tyX4_ok nmX4 (by decide) rfl rfl rfl (by decide) gX4 wm_36 rfl (by decide +kernel) dX4_add_38 fun s3 => ?_
    refine tr_aload_n hX 0 dX4_add_41 rfl rfl ?_
    refine tr_getI hX 1 2 (by decide) rfl rfl rfl (by decide) gX4 wm_36 dX4_add_42 ?_
    refine tr_iconst (v := 1) hX dX4_add_45 rfl ?_
    refine tr_isub hX dX4_add_46 ?_
    exact tr_iret hX hR dX4_add_47
  · refine tr_iconst (v := (-1)) hX dX4_add_9 rfl ?_
    exact tr_iret hX hR dX4_add_10
theorem c_X4_add (E : Ex) (hE : va_D (AW E) (wd E (fun _ _ => 0))) (N : Nat) (s : Hp) (x1 x2 : Int32) (r : Int32 × Hp) (h : f_X4_add N s x1 x2 = some r) : CtrI E yX4_add cX4_add 3 (some .int) 0 0 [rf E 1, .int x1, .int x2] s r :=
  ctrI_of (by decide +kernel) hE (Nat.le_of_ble_eq_true rfl) h (fun G hX hR hG => by subst hG; exact w_X4_add hX hR hE N s x1 x2)
set_option maxRecDepth 20000 in
set_option maxHeartbeats 2000000 in
theorem w_X9_post {G : Gx} (hX : ok G cX9_post 3 RX9 (some .int) 1 22) (hR : okR G) (hE : va_D (AW G.1) (wd G.1 (fun _ _ => 0))) (N : Nat) (s : Hp) (x1 x2 : Int32) : T G (f_X9_post N s x1 x2) s 0 [(0, rf G.1 0), (1, .int x1), (2, .int x2)] [] := by
  unfold f_X9_post
  refine tr_iload_n hX 1 dX9_post_0 rfl rfl ?_
  refine tr_bipush (v := 32) hX dX9_post_1 rfl ?_
  refine tr_callS hX [.int x1, .int 32] ks_X9_isBelow wm_320 (by decide) rfl rfl (Nat.le_of_ble_eq_true rfl) dX9_post_3 (fun vq sq hq => c_X9_isBelow G.1 hE N s x1 32 (vq, sq) hq) fun v2 s1 => ?_
  refine tr_if_eq hX 30 dX9_post_6 (by decide) ?_ ?_
  · refine tr_iconst (v := (-1)) hX dX9_post_30 rfl ?_
    exact tr_iret hX hR dX9_post_31
  · refine tr_iload_n hX 2 dX9_post_9 rfl rfl ?_
    refine tr_bipush (v := 32) hX dX9_post_10 rfl ?_
    refine tr_callS hX [.int x2, .int 32] ks_X9_isBelow wm_320 (by decide) rfl rfl (Nat.le_of_ble_eq_true rfl) dX9_post_12 (fun vq sq hq => c_X9_isBelow G.1 hE N s1 x2 32 (vq, sq) hq) fun v4 s3 => ?_
    refine tr_if_eq hX 30 dX9_post_15 (by decide) ?_ ?_
    · refine tr_iconst (v := (-1)) hX dX9_post_30 rfl ?_
      exact tr_iret hX hR dX9_post_31
    · refine tr_aload_n hX 0 dX9_post_18 rfl rfl ?_
      refine tr_getR hX 0 0 (by decide) rfl rfl rfl (by decide) gX9 wm_288 dX9_post_19 ?_
      refine tr_getNI hX 1 2 (by decide) rfl rfl rfl (by decide) gX4 wm_37 dX9_post_22 ?_
      refine tr_bipush (v := 6) hX dX9_post_25 rfl ?_
      refine tr_icmp_lt hX 32 dX9_post_27 (by decide) ?_ ?_
      · refine tr_aload_n hX 0 dX9_post_32 rfl rfl ?_
        refine tr_getR hX 0 0 (by decide) rfl rfl rfl (by decide) gX9 wm_288 dX9_post_33 ?_
        refine tr_iload_n hX 1 dX9_post_36 rfl rfl ?_
        refine tr_iload_n hX 2 dX9_post_37 rfl rfl ?_
        refine tr_callV hX 1 [.int x1, .int x2] kv_X4_add wm_323 (by decide) rfl rfl rfl (by decide) rfl rfl (Nat.le_of_ble_eq_true rfl) dX9_post_38 (fun vq sq hq => c_X4_add G.1 hE N s3 x1 x2 (vq, sq) hq) fun v6 s5 => ?_
        exact tr_iret hX hR dX9_post_41
      · refine tr_iconst (v := (-1)) hX dX9_post_30 rfl ?_
        exact tr_iret hX hR dX9_post_31
theorem c_X9_post (E : Ex) (hE : va_D (AW E) (wd E (fun _ _ => 0))) (N : Nat) (s : Hp) (x1 x2 : Int32) (r : Int32 × Hp) (h : f_X9_post N s x1 x2 = some r) : CtrI E yX9_post cX9_post 3 (some .int) 1 22 [rf E 0, .int x1, .int x2] s r :=
  ctrI_of (by decide +kernel) hE (Nat.le_of_ble_eq_true rfl) h (fun G hX hR hG => by subst hG; exact w_X9_post hX hR hE N s x1 x2)
set_option maxRecDepth 20000 in
set_option maxHeartbeats 2000000 in
theorem w_X9_isStretch {G : Gx} (hX : ok G cX9_isStretch 2 RX9 (some .boolean) 0 0) (hR : okR G) (hE : va_D (AW G.1) (wd G.1 (fun _ _ => 0))) (N : Nat) (s : Hp) (x0 x1 : Int32) : T G (f_X9_isStretch N s x0 x1) s 0 [(0, .int x0), (1, .int x1)] [] := by
  unfold f_X9_isStretch
  refine tr_iload_n hX 0 dX9_isStretch_0 rfl rfl ?_
  refine tr_if_lt hX 20 dX9_isStretch_1 (by decide) ?_ ?_
  · refine tr_iconst (v := 0) hX dX9_isStretch_20 rfl ?_
    exact tr_zret hX hR rfl dX9_isStretch_21
  · refine tr_iload_n hX 0 dX9_isStretch_4 rfl rfl ?_
    refine tr_iload_n hX 1 dX9_isStretch_5 rfl rfl ?_
    refine tr_icmp_gt hX 20 dX9_isStretch_6 (by decide) ?_ ?_
    · refine tr_iconst (v := 0) hX dX9_isStretch_20 rfl ?_
      exact tr_zret hX hR rfl dX9_isStretch_21
    · refine tr_iload_n hX 1 dX9_isStretch_9 rfl rfl ?_
      refine tr_sipush (v := 10000) hX dX9_isStretch_10 rfl ?_
      refine tr_icmp_ge hX 20 dX9_isStretch_13 (by decide) ?_ ?_
      · refine tr_iconst (v := 0) hX dX9_isStretch_20 rfl ?_
        exact tr_zret hX hR rfl dX9_isStretch_21
      · refine tr_iconst (v := 1) hX dX9_isStretch_16 rfl ?_
        refine tr_goto hX 21 dX9_isStretch_17 (by decide) ?_
        exact tr_zret hX hR rfl dX9_isStretch_21
theorem c_X9_isStretch (E : Ex) (hE : va_D (AW E) (wd E (fun _ _ => 0))) (N : Nat) (s : Hp) (x0 x1 : Int32) (r : Int32 × Hp) (h : f_X9_isStretch N s x0 x1 = some r) : CtrI E yX9_isStretch cX9_isStretch 2 (some .boolean) 0 0 [.int x0, .int x1] s r :=
  ctrI_of (by decide +kernel) hE (Nat.le_of_ble_eq_true rfl) h (fun G hX hR hG => by subst hG; exact w_X9_isStretch hX hR hE N s x0 x1)
set_option maxRecDepth 20000 in
set_option maxHeartbeats 2000000 in
theorem w_X9_isHearing {G : Gx} (hX : ok G cX9_isHearing 5 RX9 (some .boolean) 1 21) (hR : okR G) (hE : va_D (AW G.1) (wd G.1 (fun _ _ => 0))) (N : Nat) (s : Hp) (x1 x2 x3 x4 : Int32) : T G (f_X9_isHearing N s x1 x2 x3 x4) s 0 [(0, rf G.1 0), (1, .int x1), (2, .int x2), (3, .int x3), (4, .int x4)] [] := by
  unfold f_X9_isHearing
  refine tr_iload_n hX 1 dX9_isHearing_0 rfl rfl ?_
  refine tr_aload_n hX 0 dX9_isHearing_1 rfl rfl ?_
  refine tr_getR hX 0 0 (by decide) rfl rfl rfl (by decide) gX9 wm_288 dX9_isHearing_2 ?_
  refine tr_getNI hX 1 2 (by decide) rfl rfl rfl (by decide) gX4 wm_37 dX9_isHearing_5 ?_
  refine tr_callS hX [.int x1, .int (s 1 2)] ks_X9_isBelow wm_320 (by decide) rfl rfl (Nat.le_of_ble_eq_true rfl) dX9_isHearing_8 (fun vq sq hq => c_X9_isBelow G.1 hE N s x1 (s 1 2) (vq, sq) hq) fun v2 s1 => ?_
  refine tr_if_eq hX 36 dX9_isHearing_11 (by decide) ?_ ?_
  · refine tr_iconst (v := 0) hX dX9_isHearing_36 rfl ?_
    exact tr_zret hX hR rfl dX9_isHearing_37
  · refine tr_iload_n hX 2 dX9_isHearing_14 rfl rfl ?_
    refine tr_bipush (v := 16) hX dX9_isHearing_15 rfl ?_
    refine tr_callS hX [.int x2, .int 16] ks_X9_isBelow wm_320 (by decide) rfl rfl (Nat.le_of_ble_eq_true rfl) dX9_isHearing_17 (fun vq sq hq => c_X9_isBelow G.1 hE N s1 x2 16 (vq, sq) hq) fun v4 s3 => ?_
    refine tr_if_eq hX 36 dX9_isHearing_20 (by decide) ?_ ?_
    · refine tr_iconst (v := 0) hX dX9_isHearing_36 rfl ?_
      exact tr_zret hX hR rfl dX9_isHearing_37
    · refine tr_iload_n hX 3 dX9_isHearing_23 rfl rfl ?_
      refine tr_iload hX 4 dX9_isHearing_24 rfl ?_
      refine tr_callS hX [.int x3, .int x4] ks_X9_isStretch wm_335 (by decide) rfl rfl (Nat.le_of_ble_eq_true rfl) dX9_isHearing_26 (fun vq sq hq => c_X9_isStretch G.1 hE N s3 x3 x4 (vq, sq) hq) fun v6 s5 => ?_
      refine tr_if_eq hX 36 dX9_isHearing_29 (by decide) ?_ ?_
      · refine tr_iconst (v := 0) hX dX9_isHearing_36 rfl ?_
        exact tr_zret hX hR rfl dX9_isHearing_37
      · refine tr_iconst (v := 1) hX dX9_isHearing_32 rfl ?_
        refine tr_goto hX 37 dX9_isHearing_33 (by decide) ?_
        exact tr_zret hX hR rfl dX9_isHearing_37
theorem c_X9_isHearing (E : Ex) (hE : va_D (AW E) (wd E (fun _ _ => 0))) (N : Nat) (s : Hp) (x1 x2 x3 x4 : Int32) (r : Int32 × Hp) (h : f_X9_isHearing N s x1 x2 x3 x4 = some r) : CtrI E yX9_isHearing cX9_isHearing 5 (some .boolean) 1 21 [rf E 0, .int x1, .int x2, .int x3, .int x4] s r :=
  ctrI_of (by decide +kernel) hE (Nat.le_of_ble_eq_true rfl) h (fun G hX hR hG => by subst hG; exact w_X9_isHearing hX hR hE N s x1 x2 x3 x4)
set_option maxRecDepth 20000 in
set_option maxHeartbeats 2000000 in
theorem w_X7_add {G : Gx} (hX : ok G cX7_add 5 RX7 (some .int) 0 0) (hR : okR G) (hE : va_D (AW G.1) (wd G.1 (fun _ _ => 0))) (N : Nat) (s : Hp) (x1 x2 x3 x4 : Int32) : T G (f_X7_add N s x1 x2 x3 x4) s 0 [(0, rf G.1 4), (1, .int x1), (2, .int x2), (3, .int x3), (4, .int x4)] [] := by
  unfold f_X7_add
  refine tr_aload_n hX 0 dX7_add_0 rfl rfl ?_
  refine tr_getI hX 4 4 (by decide) rfl rfl rfl (by decide) gX7 wm_69 dX7_add_1 ?_
  refine tr_aload_n hX 0 dX7_add_4 rfl rfl ?_
  refine tr_getR hX 4 0 (by decide) rfl rfl rfl (by decide) gX7 wm_55 dX7_add_5 ?_
  refine tr_alen (v := 100) hX 5 (by decide) rfl rfl dX7_add_8 ?_
  refine tr_icmp_lt hX 14 dX7_add_9 (by decide) ?_ ?_
  · refine tr_aload_n hX 0 dX7_add_14 rfl rfl ?_
    refine tr_getR hX 4 0 (by decide) rfl rfl rfl (by decide) gX7 wm_55 dX7_add_15 ?_
    refine tr_aload_n hX 0 dX7_add_18 rfl rfl ?_
    refine tr_getI hX 4 4 (by decide) rfl rfl rfl (by decide) gX7 wm_69 dX7_add_19 ?_
    refine tr_iload_n hX 1 dX7_add_22 rfl rfl ?_
    refine tr_iast hX 5 (by decide) rfl dX7_add_23 fun s1 => ?_
    refine tr_aload_n hX 0 dX7_add_24 rfl rfl ?_
    refine tr_getR hX 4 1 (by decide) rfl rfl rfl (by decide) gX7 wm_58 dX7_add_25 ?_
    refine tr_aload_n hX 0 dX7_add_28 rfl rfl ?_
    refine tr_getI hX 4 4 (by decide) rfl rfl rfl (by decide) gX7 wm_69 dX7_add_29 ?_
    refine tr_iload_n hX 2 dX7_add_32 rfl rfl ?_
    refine tr_iast hX 6 (by decide) rfl dX7_add_33 fun s2 => ?_
    refine tr_aload_n hX 0 dX7_add_34 rfl rfl ?_
    refine tr_getR hX 4 2 (by decide) rfl rfl rfl (by decide) gX7 wm_61 dX7_add_35 ?_
    refine tr_aload_n hX 0 dX7_add_38 rfl rfl ?_
    refine tr_getI hX 4 4 (by decide) rfl rfl rfl (by decide) gX7 wm_69 dX7_add_39 ?_
    refine tr_iload_n hX 3 dX7_add_42 rfl rfl ?_
    refine tr_iast hX 7 (by decide) rfl dX7_add_43 fun s3 => ?_
    refine tr_aload_n hX 0 dX7_add_44 rfl rfl ?_
    refine tr_getR hX 4 3 (by decide) rfl rfl rfl (by decide) gX7 wm_65 dX7_add_45 ?_
    refine tr_aload_n hX 0 dX7_add_48 rfl rfl ?_
    refine tr_getI hX 4 4 (by decide) rfl rfl rfl (by decide) gX7 wm_69 dX7_add_49 ?_
    refine tr_iload hX 4 dX7_add_52 rfl ?_
    refine tr_iast hX 8 (by decide) rfl dX7_add_54 fun s4 => ?_
    refine tr_aload_n hX 0 dX7_add_55 rfl rfl ?_
    refine tr_dup hX dX7_add_56 rfl ?_
    refine tr_getI hX 4 4 (by decide) rfl rfl rfl (by decide) gX7 wm_69 dX7_add_57 ?_
    refine tr_iconst (v := 1) hX dX7_add_60 rfl ?_
    refine tr_iadd hX dX7_add_61 ?_
    refine tr_putI hX 4 4 tyX7 tyX7_ok nmX7 (by decide) rfl rfl rfl (by decide) gX7 wm_69 rfl (by decide +kernel) dX7_add_62 fun s5 => ?_
    refine tr_aload_n hX 0 dX7_add_65 rfl rfl ?_
    refine tr_getI hX 4 4 (by decide) rfl rfl rfl (by decide) gX7 wm_69 dX7_add_66 ?_
    refine tr_iconst (v := 1) hX dX7_add_69 rfl ?_
    refine tr_isub hX dX7_add_70 ?_
    exact tr_iret hX hR dX7_add_71
  · refine tr_iconst (v := (-1)) hX dX7_add_12 rfl ?_
    exact tr_iret hX hR dX7_add_13
theorem c_X7_add (E : Ex) (hE : va_D (AW E) (wd E (fun _ _ => 0))) (N : Nat) (s : Hp) (x1 x2 x3 x4 : Int32) (r : Int32 × Hp) (h : f_X7_add N s x1 x2 x3 x4 = some r) : CtrI E yX7_add cX7_add 5 (some .int) 0 0 [rf E 4, .int x1, .int x2, .int x3, .int x4] s r :=
  ctrI_of (by decide +kernel) hE (Nat.le_of_ble_eq_true rfl) h (fun G hX hR hG => by subst hG; exact w_X7_add hX hR hE N s x1 x2 x3 x4)
set_option maxRecDepth 20000 in
set_option maxHeartbeats 2000000 in
theorem w_X9_listened {G : Gx} (hX : ok G cX9_listened 5 RX9 (some .int) 2 45) (hR : okR G) (hE : va_D (AW G.1) (wd G.1 (fun _ _ => 0))) (N : Nat) (s : Hp) (x1 x2 x3 x4 : Int32) : T G (f_X9_listened N s x1 x2 x3 x4) s 0 [(0, rf G.1 0), (1, .int x1), (2, .int x2), (3, .int x3), (4, .int x4)] [] := by
  unfold f_X9_listened
  refine tr_aload_n hX 0 dX9_listened_0 rfl rfl ?_
  refine tr_iload_n hX 1 dX9_listened_1 rfl rfl ?_
  refine tr_iload_n hX 2 dX9_listened_2 rfl rfl ?_
  refine tr_iload_n hX 3 dX9_listened_3 rfl rfl ?_
  refine tr_iload hX 4 dX9_listened_4 rfl ?_
  refine tr_callV hX 0 [.int x1, .int x2, .int x3, .int x4] kv_X9_isHearing wm_331 (by decide) rfl rfl rfl (by decide) rfl rfl (Nat.le_of_ble_eq_true rfl) dX9_listened_6 (fun vq sq hq => c_X9_isHearing G.1 hE N s x1 x2 x3 x4 (vq, sq) hq) fun v2 s1 => ?_
  refine tr_if_eq hX 24 dX9_listened_9 (by decide) ?_ ?_
  · refine tr_iconst (v := (-1)) hX dX9_listened_24 rfl ?_
    exact tr_iret hX hR dX9_listened_25
  · refine tr_aload_n hX 0 dX9_listened_12 rfl rfl ?_
    refine tr_getR hX 0 1 (by decide) rfl rfl rfl (by decide) gX9 wm_289 dX9_listened_13 ?_
    refine tr_getNI hX 4 4 (by decide) rfl rfl rfl (by decide) gX7 wm_72 dX9_listened_16 ?_
    refine tr_bipush (v := 100) hX dX9_listened_19 rfl ?_
    refine tr_icmp_lt hX 26 dX9_listened_21 (by decide) ?_ ?_
    · refine tr_aload_n hX 0 dX9_listened_26 rfl rfl ?_
      refine tr_getR hX 0 1 (by decide) rfl rfl rfl (by decide) gX9 wm_289 dX9_listened_27 ?_
      refine tr_iload_n hX 1 dX9_listened_30 rfl rfl ?_
      refine tr_iload_n hX 2 dX9_listened_31 rfl rfl ?_
      refine tr_iload_n hX 3 dX9_listened_32 rfl rfl ?_
      refine tr_iload hX 4 dX9_listened_33 rfl ?_
      refine tr_callV hX 4 [.int x1, .int x2, .int x3, .int x4] kv_X7_add wm_338 (by decide) rfl rfl rfl (by decide) rfl rfl (Nat.le_of_ble_eq_true rfl) dX9_listened_35 (fun vq sq hq => c_X7_add G.1 hE N s1 x1 x2 x3 x4 (vq, sq) hq) fun v4 s3 => ?_
      refine tr_iconst (v := 1) hX dX9_listened_38 rfl ?_
      refine tr_iadd hX dX9_listened_39 ?_
      exact tr_iret hX hR dX9_listened_40
    · refine tr_iconst (v := (-1)) hX dX9_listened_24 rfl ?_
      exact tr_iret hX hR dX9_listened_25
theorem c_X9_listened (E : Ex) (hE : va_D (AW E) (wd E (fun _ _ => 0))) (N : Nat) (s : Hp) (x1 x2 x3 x4 : Int32) (r : Int32 × Hp) (h : f_X9_listened N s x1 x2 x3 x4 = some r) : CtrI E yX9_listened cX9_listened 5 (some .int) 2 45 [rf E 0, .int x1, .int x2, .int x3, .int x4] s r :=
  ctrI_of (by decide +kernel) hE (Nat.le_of_ble_eq_true rfl) h (fun G hX hR hG => by subst hG; exact w_X9_listened hX hR hE N s x1 x2 x3 x4)
set_option maxRecDepth 20000 in
set_option maxHeartbeats 2000000 in
theorem w_X7_openBehind_64 {G : Gx} (hX : ok G cX7_openBehind 6 RX7 (some .int) 1 21) (hR : okR G) (hE : va_D (AW G.1) (wd G.1 (fun _ _ => 0))) (N : Nat) (k6 : Hp → Int32 → Int32 → Int32 → Int32 → Int32 → Option (Int32 × Hp)) (hk6 : ∀ (s : Hp) (x1 x2 x3 x4 x5 : Int32), T G (k6 s x1 x2 x3 x4 x5) s 6 [(0, rf G.1 4), (1, .int x1), (2, .int x2), (3, .int x3), (4, .int x4), (5, .int x5)] []) (s : Hp) (x1 x2 x3 x4 x5 : Int32) : T G (f_X7_openBehind_64 N k6 s x1 x2 x3 x4 x5) s 64 [(0, rf G.1 4), (1, .int x1), (2, .int x2), (3, .int x3), (4, .int x4), (5, .int x5)] [] := by
  unfold f_X7_openBehind_64
  refine tr_iincB (b := 1) (lv2 := fun y2 => [(5, .int y2), (0, rf G.1 4), (1, .int x1), (2, .int x2), (3, .int x3), (4, .int x4)]) hX 5 dX7_openBehind_64 rfl rfl (by decide) (fun _ => rfl) fun y2 => ?_
  refine tr_goto hX 6 dX7_openBehind_67 (by decide) ?_
  refine tr_lv (lv2 := [(0, rf G.1 4), (1, .int x1), (2, .int x2), (3, .int x3), (4, .int x4), (5, .int y2)]) [1, 2, 3, 4, 5, 0] rfl ?_
  exact hk6 s x1 x2 x3 x4 y2
set_option maxRecDepth 20000 in
set_option maxHeartbeats 2000000 in
theorem w_X7_openBehind_6 {G : Gx} (hX : ok G cX7_openBehind 6 RX7 (some .int) 1 21) (hR : okR G) (hE : va_D (AW G.1) (wd G.1 (fun _ _ => 0))) (N : Nat) (k6 : Hp → Int32 → Int32 → Int32 → Int32 → Int32 → Option (Int32 × Hp)) (hk6 : ∀ (s : Hp) (x1 x2 x3 x4 x5 : Int32), T G (k6 s x1 x2 x3 x4 x5) s 6 [(0, rf G.1 4), (1, .int x1), (2, .int x2), (3, .int x3), (4, .int x4), (5, .int x5)] []) (s : Hp) (x1 x2 x3 x4 x5 : Int32) : T G (f_X7_openBehind_6 N k6 s x1 x2 x3 x4 x5) s 6 [(0, rf G.1 4), (1, .int x1), (2, .int x2), (3, .int x3), (4, .int x4), (5, .int x5)] [] := by
  unfold f_X7_openBehind_6
  refine tr_iload hX 5 dX7_openBehind_6 rfl ?_
  refine tr_aload_n hX 0 dX7_openBehind_8 rfl rfl ?_
  refine tr_getI hX 4 4 (by decide) rfl rfl rfl (by decide) gX7 wm_69 dX7_openBehind_9 ?_
  refine tr_icmp_ge hX 70 dX7_openBehind_12 (by decide) ?_ ?_
  · refine tr_iload hX 4 dX7_openBehind_70 rfl ?_
    exact tr_iret hX hR dX7_openBehind_72
  · refine tr_aload_n hX 0 dX7_openBehind_15 rfl rfl ?_
    refine tr_getR hX 4 0 (by decide) rfl rfl rfl (by decide) gX7 wm_55 dX7_openBehind_16 ?_
    refine tr_iload hX 5 dX7_openBehind_19 rfl ?_
    refine tr_iald hX 5 (by decide) rfl dX7_openBehind_21 ?_
    refine tr_iload_n hX 1 dX7_openBehind_22 rfl rfl ?_
    refine tr_icmp_ne hX 64 dX7_openBehind_23 (by decide) ?_ ?_
    · exact w_X7_openBehind_64 hX hR hE N k6 hk6 s x1 x2 x3 x4 x5
    · refine tr_aload_n hX 0 dX7_openBehind_26 rfl rfl ?_
      refine tr_getR hX 4 1 (by decide) rfl rfl rfl (by decide) gX7 wm_58 dX7_openBehind_27 ?_
      refine tr_iload hX 5 dX7_openBehind_30 rfl ?_
      refine tr_iald hX 6 (by decide) rfl dX7_openBehind_32 ?_
      refine tr_iload_n hX 2 dX7_openBehind_33 rfl rfl ?_
      refine tr_icmp_ne hX 64 dX7_openBehind_34 (by decide) ?_ ?_
      · exact w_X7_openBehind_64 hX hR hE N k6 hk6 s x1 x2 x3 x4 x5
      · refine tr_aload_n hX 0 dX7_openBehind_37 rfl rfl ?_
        refine tr_getR hX 4 2 (by decide) rfl rfl rfl (by decide) gX7 wm_61 dX7_openBehind_38 ?_
        refine tr_iload hX 5 dX7_openBehind_41 rfl ?_
        refine tr_iald hX 7 (by decide) rfl dX7_openBehind_43 ?_
        refine tr_iload_n hX 3 dX7_openBehind_44 rfl rfl ?_
        refine tr_icmp_gt hX 64 dX7_openBehind_45 (by decide) ?_ ?_
        · exact w_X7_openBehind_64 hX hR hE N k6 hk6 s x1 x2 x3 x4 x5
        · refine tr_iload hX 4 dX7_openBehind_48 rfl ?_
          refine tr_aload_n hX 0 dX7_openBehind_50 rfl rfl ?_
          refine tr_getR hX 4 3 (by decide) rfl rfl rfl (by decide) gX7 wm_65 dX7_openBehind_51 ?_
          refine tr_iload hX 5 dX7_openBehind_54 rfl ?_
          refine tr_iald hX 8 (by decide) rfl dX7_openBehind_56 ?_
          refine tr_iconst (v := 1) hX dX7_openBehind_57 rfl ?_
          refine tr_iadd hX dX7_openBehind_58 ?_
          refine tr_max hX wm_52 wm_53 wm_4 wm_54 (by decide) (Nat.le_of_ble_eq_true rfl) dX7_openBehind_59 ?_
          refine tr_istoreB (lv2 := fun y1 => [(4, .int y1), (0, rf G.1 4), (1, .int x1), (2, .int x2), (3, .int x3), (5, .int x5)]) hX dX7_openBehind_62 (by decide) (fun _ => rfl) fun y1 => ?_
          refine tr_lv (lv2 := [(0, rf G.1 4), (1, .int x1), (2, .int x2), (3, .int x3), (4, .int y1), (5, .int x5)]) [1, 2, 3, 4, 0, 5] rfl ?_
          exact w_X7_openBehind_64 hX hR hE N k6 hk6 s x1 x2 x3 y1 x5
theorem wl_X7_openBehind_6 {G : Gx} (hX : ok G cX7_openBehind 6 RX7 (some .int) 1 21) (hR : okR G) (hE : va_D (AW G.1) (wd G.1 (fun _ _ => 0))) (N : Nat) : ∀ (n : Nat) (s : Hp) (x1 x2 x3 x4 x5 : Int32), T G (lp (fun _ _ _ _ _ _ => none) (f_X7_openBehind_6 N) n s x1 x2 x3 x4 x5) s 6 [(0, rf G.1 4), (1, .int x1), (2, .int x2), (3, .int x3), (4, .int x4), (5, .int x5)] [] := by
  intro n
  induction n with
  | zero => exact fun s x1 x2 x3 x4 x5 h => nomatch (show (none : Option (Int32 × Hp)) = some _ from h)
  | succ n ih => exact fun s x1 x2 x3 x4 x5 => w_X7_openBehind_6 hX hR hE N _ ih s x1 x2 x3 x4 x5
set_option maxRecDepth 20000 in
set_option maxHeartbeats 2000000 in
theorem w_X7_openBehind {G : Gx} (hX : ok G cX7_openBehind 6 RX7 (some .int) 1 21) (hR : okR G) (hE : va_D (AW G.1) (wd G.1 (fun _ _ => 0))) (N : Nat) (s : Hp) (x1 x2 x3 : Int32) : T G (f_X7_openBehind N s x1 x2 x3) s 0 [(0, rf G.1 4), (1, .int x1), (2, .int x2), (3, .int x3)] [] := by
  unfold f_X7_openBehind
  refine tr_iload_n hX 3 dX7_openBehind_0 rfl rfl ?_
  refine tr_istore (lv2 := [(4, .int x3), (0, rf G.1 4), (1, .int x1), (2, .int x2), (3, .int x3)]) hX dX7_openBehind_1 (by decide) rfl ?_
  refine tr_iconst (v := 0) hX dX7_openBehind_3 rfl ?_
  refine tr_istore (lv2 := [(5, .int 0), (4, .int x3), (0, rf G.1 4), (1, .int x1), (2, .int x2), (3, .int x3)]) hX dX7_openBehind_4 (by decide) rfl ?_
  refine tr_lv (lv2 := [(0, rf G.1 4), (1, .int x1), (2, .int x2), (3, .int x3), (4, .int x3), (5, .int 0)]) [2, 3, 4, 5, 1, 0] rfl ?_
  exact wl_X7_openBehind_6 hX hR hE N N s x1 x2 x3 x3 0
theorem c_X7_openBehind (E : Ex) (hE : va_D (AW E) (wd E (fun _ _ => 0))) (N : Nat) (s : Hp) (x1 x2 x3 : Int32) (r : Int32 × Hp) (h : f_X7_openBehind N s x1 x2 x3 = some r) : CtrI E yX7_openBehind cX7_openBehind 6 (some .int) 1 21 [rf E 4, .int x1, .int x2, .int x3] s r :=
  ctrI_of (by decide +kernel) hE (Nat.le_of_ble_eq_true rfl) h (fun G hX hR hG => by subst hG; exact w_X7_openBehind hX hR hE N s x1 x2 x3)
set_option maxRecDepth 20000 in
set_option maxHeartbeats 2000000 in
theorem w_X7_holdsEach_38 {G : Gx} (hX : ok G cX7_holdsEach 7 RX7 (some .boolean) 2 46) (hR : okR G) (hE : va_D (AW G.1) (wd G.1 (fun _ _ => 0))) (N : Nat) (s : Hp) (x4 x5 : Int32) : T G (f_X7_holdsEach_38 N s x4 x5) s 38 [(4, .int x4), (5, .int x5)] [] := by
  unfold f_X7_holdsEach_38
  refine tr_iload hX 1 dX7_holdsEach_38 rfl ?_
  refine tr_iload hX 0 dX7_holdsEach_40 rfl ?_
  refine tr_icmp_le hX 49 dX7_holdsEach_42 (by decide) ?_ ?_
  · refine tr_iconst (v := 0) hX dX7_holdsEach_49 rfl ?_
    exact tr_zret hX hR rfl dX7_holdsEach_50
  · refine tr_iconst (v := 1) hX dX7_holdsEach_45 rfl ?_
    refine tr_goto hX 50 dX7_holdsEach_46 (by decide) ?_
    exact tr_zret hX hR rfl dX7_holdsEach_50
set_option maxRecDepth 20000 in
set_option maxHeartbeats 2000000 in
theorem w_X7_holdsEach_6 {G : Gx} (hX : ok G cX7_holdsEach 7 RX7 (some .boolean) 2 46) (hR : okR G) (hE : va_D (AW G.1) (wd G.1 (fun _ _ => 0))) (N : Nat) (k6 : Hp → Int32 → Int32 → Int32 → Int32 → Int32 → Option (Int32 × Hp)) (hk6 : ∀ (s : Hp) (x1 x2 x4 x5 x6 : Int32), T G (k6 s x1 x2 x4 x5 x6) s 6 [(0, rf G.1 4), (1, .int x1), (2, .int x2), (4, .int x4), (5, .int x5), (6, .int x6)] []) (s : Hp) (x1 x2 x4 x5 x6 : Int32) : T G (f_X7_holdsEach_6 N k6 s x1 x2 x4 x5 x6) s 6 [(0, rf G.1 4), (1, .int x1), (2, .int x2), (4, .int x4), (5, .int x5), (6, .int x6)] [] := by
  unfold f_X7_holdsEach_6
  refine tr_iload hX 5 dX7_holdsEach_6 rfl ?_
  refine tr_aload_n hX 0 dX7_holdsEach_8 rfl rfl ?_
  refine tr_getI hX 4 4 (by decide) rfl rfl rfl (by decide) gX7 wm_69 dX7_holdsEach_9 ?_
  refine tr_icmp_ge hX 38 dX7_holdsEach_12 (by decide) ?_ ?_
  · refine tr_lv (lv2 := [(4, .int x4), (5, .int x5)]) [3, 4] rfl ?_
    exact w_X7_holdsEach_38 hX hR hE N s x4 x5
  · refine tr_iload hX 4 dX7_holdsEach_15 rfl ?_
    refine tr_iload hX 3 dX7_holdsEach_17 rfl ?_
    refine tr_icmp_gt hX 38 dX7_holdsEach_19 (by decide) ?_ ?_
    · refine tr_lv (lv2 := [(4, .int x4), (5, .int x5)]) [3, 4] rfl ?_
      exact w_X7_holdsEach_38 hX hR hE N s x4 x5
    · refine tr_aload_n hX 0 dX7_holdsEach_22 rfl rfl ?_
      refine tr_iload_n hX 1 dX7_holdsEach_23 rfl rfl ?_
      refine tr_iload_n hX 2 dX7_holdsEach_24 rfl rfl ?_
      refine tr_iload hX 4 dX7_holdsEach_25 rfl ?_
      refine tr_callV hX 4 [.int x1, .int x2, .int x5] kv_X7_openBehind wm_350 (by decide) rfl rfl rfl (by decide) rfl rfl (Nat.le_of_ble_eq_true rfl) dX7_holdsEach_27 (fun vq sq hq => c_X7_openBehind G.1 hE N s x1 x2 x5 (vq, sq) hq) fun v2 s1 => ?_
      refine tr_istore (lv2 := [(5, .int v2), (0, rf G.1 4), (1, .int x1), (2, .int x2), (4, .int x4), (6, .int x6)]) hX dX7_holdsEach_30 (by decide) rfl ?_
      refine tr_iincB (b := 1) (lv2 := fun y3 => [(6, .int y3), (5, .int v2), (0, rf G.1 4), (1, .int x1), (2, .int x2), (4, .int x4)]) hX 5 dX7_holdsEach_32 rfl rfl (by decide) (fun _ => rfl) fun y3 => ?_
      refine tr_goto hX 6 dX7_holdsEach_35 (by decide) ?_
      refine tr_lv (lv2 := [(0, rf G.1 4), (1, .int x1), (2, .int x2), (4, .int x4), (5, .int v2), (6, .int y3)]) [2, 3, 4, 5, 1, 0] rfl ?_
      exact hk6 s1 x1 x2 x4 v2 y3
theorem wl_X7_holdsEach_6 {G : Gx} (hX : ok G cX7_holdsEach 7 RX7 (some .boolean) 2 46) (hR : okR G) (hE : va_D (AW G.1) (wd G.1 (fun _ _ => 0))) (N : Nat) : ∀ (n : Nat) (s : Hp) (x1 x2 x4 x5 x6 : Int32), T G (lp (fun _ _ _ _ _ _ => none) (f_X7_holdsEach_6 N) n s x1 x2 x4 x5 x6) s 6 [(0, rf G.1 4), (1, .int x1), (2, .int x2), (4, .int x4), (5, .int x5), (6, .int x6)] [] := by
  intro n
  induction n with
  | zero => exact fun s x1 x2 x4 x5 x6 h => nomatch (show (none : Option (Int32 × Hp)) = some _ from h)
  | succ n ih => exact fun s x1 x2 x4 x5 x6 => w_X7_holdsEach_6 hX hR hE N _ ih s x1 x2 x4 x5 x6
set_option maxRecDepth 20000 in
set_option maxHeartbeats 2000000 in
theorem w_X7_holdsEach {G : Gx} (hX : ok G cX7_holdsEach 7 RX7 (some .boolean) 2 46) (hR : okR G) (hE : va_D (AW G.1) (wd G.1 (fun _ _ => 0))) (N : Nat) (s : Hp) (x1 x2 x3 x4 : Int32) : T G (f_X7_holdsEach N s x1 x2 x3 x4) s 0 [(0, rf G.1 4), (1, .int x1), (2, .int x2), (3, .int x3), (4, .int x4)] [] := by
  unfold f_X7_holdsEach
  refine tr_iload_n hX 3 dX7_holdsEach_0 rfl rfl ?_
  refine tr_istore (lv2 := [(5, .int x3), (0, rf G.1 4), (1, .int x1), (2, .int x2), (3, .int x3), (4, .int x4)]) hX dX7_holdsEach_1 (by decide) rfl ?_
  refine tr_iconst (v := 0) hX dX7_holdsEach_3 rfl ?_
  refine tr_istore (lv2 := [(6, .int 0), (5, .int x3), (0, rf G.1 4), (1, .int x1), (2, .int x2), (3, .int x3), (4, .int x4)]) hX dX7_holdsEach_4 (by decide) rfl ?_
  refine tr_lv (lv2 := [(0, rf G.1 4), (1, .int x1), (2, .int x2), (4, .int x4), (5, .int x3), (6, .int 0)]) [2, 3, 4, 6, 1, 0] rfl ?_
  exact wl_X7_holdsEach_6 hX hR hE N N s x1 x2 x4 x3 0
theorem c_X7_holdsEach (E : Ex) (hE : va_D (AW E) (wd E (fun _ _ => 0))) (N : Nat) (s : Hp) (x1 x2 x3 x4 : Int32) (r : Int32 × Hp) (h : f_X7_holdsEach N s x1 x2 x3 x4 = some r) : CtrI E yX7_holdsEach cX7_holdsEach 7 (some .boolean) 2 46 [rf E 4, .int x1, .int x2, .int x3, .int x4] s r :=
  ctrI_of (by decide +kernel) hE (Nat.le_of_ble_eq_true rfl) h (fun G hX hR hG => by subst hG; exact w_X7_holdsEach hX hR hE N s x1 x2 x3 x4)
set_option maxRecDepth 20000 in
set_option maxHeartbeats 2000000 in
theorem w_X7_add_b {G : Gx} (hX : ok G cX7_add 5 RX7 (some .int) 0 0) (hR : okR G) (hE : va_D (AW G.1) (wd G.1 (fun _ _ => 0))) (N : Nat) (s : Hp) (x1 x2 x3 x4 : Int32) : T G (f_X7_add_b N s x1 x2 x3 x4) s 0 [(0, rf G.1 10), (1, .int x1), (2, .int x2), (3, .int x3), (4, .int x4)] [] := by
  unfold f_X7_add_b
  refine tr_aload_n hX 0 dX7_add_0 rfl rfl ?_
  refine tr_getI hX 10 4 (by decide) rfl rfl rfl (by decide) gX7 wm_69 dX7_add_1 ?_
  refine tr_aload_n hX 0 dX7_add_4 rfl rfl ?_
  refine tr_getR hX 10 0 (by decide) rfl rfl rfl (by decide) gX7 wm_55 dX7_add_5 ?_
  refine tr_alen (v := 60) hX 11 (by decide) rfl rfl dX7_add_8 ?_
  refine tr_icmp_lt hX 14 dX7_add_9 (by decide) ?_ ?_
  · refine tr_aload_n hX 0 dX7_add_14 rfl rfl ?_
    refine tr_getR hX 10 0 (by decide) rfl rfl rfl (by decide) gX7 wm_55 dX7_add_15 ?_
    refine tr_aload_n hX 0 dX7_add_18 rfl rfl ?_
    refine tr_getI hX 10 4 (by decide) rfl rfl rfl (by decide) gX7 wm_69 dX7_add_19 ?_
    refine tr_iload_n hX 1 dX7_add_22 rfl rfl ?_
    refine tr_iast hX 11 (by decide) rfl dX7_add_23 fun s1 => ?_
    refine tr_aload_n hX 0 dX7_add_24 rfl rfl ?_
    refine tr_getR hX 10 1 (by decide) rfl rfl rfl (by decide) gX7 wm_58 dX7_add_25 ?_
    refine tr_aload_n hX 0 dX7_add_28 rfl rfl ?_
    refine tr_getI hX 10 4 (by decide) rfl rfl rfl (by decide) gX7 wm_69 dX7_add_29 ?_
    refine tr_iload_n hX 2 dX7_add_32 rfl rfl ?_
    refine tr_iast hX 12 (by decide) rfl dX7_add_33 fun s2 => ?_
    refine tr_aload_n hX 0 dX7_add_34 rfl rfl ?_
    refine tr_getR hX 10 2 (by decide) rfl rfl rfl (by decide) gX7 wm_61 dX7_add_35 ?_
    refine tr_aload_n hX 0 dX7_add_38 rfl rfl ?_
    refine tr_getI hX 10 4 (by decide) rfl rfl rfl (by decide) gX7 wm_69 dX7_add_39 ?_
    refine tr_iload_n hX 3 dX7_add_42 rfl rfl ?_
    refine tr_iast hX 13 (by decide) rfl dX7_add_43 fun s3 => ?_
    refine tr_aload_n hX 0 dX7_add_44 rfl rfl ?_
    refine tr_getR hX 10 3 (by decide) rfl rfl rfl (by decide) gX7 wm_65 dX7_add_45 ?_
    refine tr_aload_n hX 0 dX7_add_48 rfl rfl ?_
    refine tr_getI hX 10 4 (by decide) rfl rfl rfl (by decide) gX7 wm_69 dX7_add_49 ?_
    refine tr_iload hX 4 dX7_add_52 rfl ?_
    refine tr_iast hX 14 (by decide) rfl dX7_add_54 fun s4 => ?_
    refine tr_aload_n hX 0 dX7_add_55 rfl rfl ?_
    refine tr_dup hX dX7_add_56 rfl ?_
    refine tr_getI hX 10 4 (by decide) rfl rfl rfl (by decide) gX7 wm_69 dX7_add_57 ?_
    refine tr_iconst (v := 1) hX dX7_add_60 rfl ?_
    refine tr_iadd hX dX7_add_61 ?_
    refine tr_putI hX 10 4 tyX7 tyX7_ok nmX7 (by decide) rfl rfl rfl (by decide) gX7 wm_69 rfl (by decide +kernel) dX7_add_62 fun s5 => ?_
    refine tr_aload_n hX 0 dX7_add_65 rfl rfl ?_
    refine tr_getI hX 10 4 (by decide) rfl rfl rfl (by decide) gX7 wm_69 dX7_add_66 ?_
    refine tr_iconst (v := 1) hX dX7_add_69 rfl ?_
    refine tr_isub hX dX7_add_70 ?_
    exact tr_iret hX hR dX7_add_71
  · refine tr_iconst (v := (-1)) hX dX7_add_12 rfl ?_
    exact tr_iret hX hR dX7_add_13
theorem c_X7_add_b (E : Ex) (hE : va_D (AW E) (wd E (fun _ _ => 0))) (N : Nat) (s : Hp) (x1 x2 x3 x4 : Int32) (r : Int32 × Hp) (h : f_X7_add_b N s x1 x2 x3 x4 = some r) : CtrI E yX7_add cX7_add 5 (some .int) 0 0 [rf E 10, .int x1, .int x2, .int x3, .int x4] s r :=
  ctrI_of (by decide +kernel) hE (Nat.le_of_ble_eq_true rfl) h (fun G hX hR hG => by subst hG; exact w_X7_add_b hX hR hE N s x1 x2 x3 x4)
set_option maxRecDepth 20000 in
set_option maxHeartbeats 2000000 in
theorem w_X2_add {G : Gx} (hX : ok G cX2_add 7 RX2 (some .int) 1 24) (hR : okR G) (hE : va_D (AW G.1) (wd G.1 (fun _ _ => 0))) (N : Nat) (s : Hp) (x1 x2 x3 x4 x5 : Int32) : T G (f_X2_add N s x1 x2 x3 x4 x5) s 0 [(0, rf G.1 9), (1, .int x1), (2, .int x2), (3, .int x3), (4, .int x4), (5, .int x5)] [] := by
  unfold f_X2_add
  refine tr_aload_n hX 0 dX2_add_0 rfl rfl ?_
  refine tr_getR hX 9 0 (by decide) rfl rfl rfl (by decide) gX2 wm_94 dX2_add_1 ?_
  refine tr_iload_n hX 1 dX2_add_4 rfl rfl ?_
  refine tr_iload_n hX 2 dX2_add_5 rfl rfl ?_
  refine tr_iload_n hX 3 dX2_add_6 rfl rfl ?_
  refine tr_iload hX 4 dX2_add_7 rfl ?_
  refine tr_callV hX 10 [.int x1, .int x2, .int x3, .int x4] kv_X7_add wm_358 (by decide) rfl rfl rfl (by decide) rfl rfl (Nat.le_of_ble_eq_true rfl) dX2_add_9 (fun vq sq hq => c_X7_add_b G.1 hE N s x1 x2 x3 x4 (vq, sq) hq) fun v2 s1 => ?_
  refine tr_istore (lv2 := [(6, .int v2), (0, rf G.1 9), (1, .int x1), (2, .int x2), (3, .int x3), (4, .int x4), (5, .int x5)]) hX dX2_add_12 (by decide) rfl ?_
  refine tr_iload hX 0 dX2_add_14 rfl ?_
  refine tr_iconst (v := (-1)) hX dX2_add_16 rfl ?_
  refine tr_icmp_eq hX 29 dX2_add_17 (by decide) ?_ ?_
  · refine tr_iload hX 0 dX2_add_29 rfl ?_
    exact tr_iret hX hR dX2_add_31
  · refine tr_aload_n hX 1 dX2_add_20 rfl rfl ?_
    refine tr_getR hX 9 1 (by decide) rfl rfl rfl (by decide) gX2 wm_98 dX2_add_21 ?_
    refine tr_iload hX 0 dX2_add_24 rfl ?_
    refine tr_iload hX 6 dX2_add_26 rfl ?_
    refine tr_iast hX 15 (by decide) rfl dX2_add_28 fun s3 => ?_
    refine tr_iload hX 0 dX2_add_29 rfl ?_
    exact tr_iret hX hR dX2_add_31
theorem c_X2_add (E : Ex) (hE : va_D (AW E) (wd E (fun _ _ => 0))) (N : Nat) (s : Hp) (x1 x2 x3 x4 x5 : Int32) (r : Int32 × Hp) (h : f_X2_add N s x1 x2 x3 x4 x5 = some r) : CtrI E yX2_add cX2_add 7 (some .int) 1 24 [rf E 9, .int x1, .int x2, .int x3, .int x4, .int x5] s r :=
  ctrI_of (by decide +kernel) hE (Nat.le_of_ble_eq_true rfl) h (fun G hX hR hG => by subst hG; exact w_X2_add hX hR hE N s x1 x2 x3 x4 x5)
set_option maxRecDepth 20000 in
set_option maxHeartbeats 2000000 in
theorem w_X0_giveNumbers_62 {G : Gx} (hX : ok G cX0_giveNumbers 3 RX0 none 0 0) (hR : okV G) (hE : va_D (AW G.1) (wd G.1 (fun _ _ => 0))) (N : Nat) (k7 : Hp → Int32 → Int32 → Option (Int32 × Hp)) (hk7 : ∀ (s : Hp) (x1 x2 : Int32), T G (k7 s x1 x2) s 7 [(0, rf G.1 18), (1, .int x1), (2, .int x2)] []) (s : Hp) (x1 x2 : Int32) : T G (f_X0_giveNumbers_62 N k7 s x1 x2) s 62 [(0, rf G.1 18), (1, .int x1), (2, .int x2)] [] := by
  unfold f_X0_giveNumbers_62
  refine tr_iincB (b := 1) (lv2 := fun y5 => [(2, .int y5), (0, rf G.1 18), (1, .int x1)]) hX 2 dX0_giveNumbers_62 rfl rfl (by decide) (fun _ => rfl) fun y5 => ?_
  refine tr_goto hX 7 dX0_giveNumbers_65 (by decide) ?_
  refine tr_lv (lv2 := [(0, rf G.1 18), (1, .int x1), (2, .int y5)]) [1, 2, 0] rfl ?_
  exact hk7 s x1 y5
set_option maxRecDepth 20000 in
set_option maxHeartbeats 2000000 in
theorem w_X0_giveNumbers_7 {G : Gx} (hX : ok G cX0_giveNumbers 3 RX0 none 0 0) (hR : okV G) (hE : va_D (AW G.1) (wd G.1 (fun _ _ => 0))) (N : Nat) (k7 : Hp → Int32 → Int32 → Option (Int32 × Hp)) (hk7 : ∀ (s : Hp) (x1 x2 : Int32), T G (k7 s x1 x2) s 7 [(0, rf G.1 18), (1, .int x1), (2, .int x2)] []) (s : Hp) (x1 x2 : Int32) : T G (f_X0_giveNumbers_7 N k7 s x1 x2) s 7 [(0, rf G.1 18), (1, .int x1), (2, .int x2)] [] := by
  unfold f_X0_giveNumbers_7
  refine tr_iload_n hX 2 dX0_giveNumbers_7 rfl rfl ?_
  refine tr_iload_n hX 1 dX0_giveNumbers_8 rfl rfl ?_
  refine tr_icmp_ge hX 68 dX0_giveNumbers_9 (by decide) ?_ ?_
  · exact tr_vret hX hR dX0_giveNumbers_68
  · refine tr_aload_n hX 0 dX0_giveNumbers_12 rfl rfl ?_
    refine tr_getR hX 18 0 (by decide) rfl rfl rfl (by decide) gX0 wm_124 dX0_giveNumbers_13 ?_
    refine tr_iload_n hX 2 dX0_giveNumbers_16 rfl rfl ?_
    refine tr_iald hX 19 (by decide) rfl dX0_giveNumbers_17 ?_
    refine tr_iload_n hX 2 dX0_giveNumbers_18 rfl rfl ?_
    refine tr_icmp_ne hX 45 dX0_giveNumbers_19 (by decide) ?_ ?_
    · refine tr_aload_n hX 0 dX0_giveNumbers_45 rfl rfl ?_
      refine tr_getR hX 18 1 (by decide) rfl rfl rfl (by decide) gX0 wm_125 dX0_giveNumbers_46 ?_
      refine tr_iload_n hX 2 dX0_giveNumbers_49 rfl rfl ?_
      refine tr_aload_n hX 0 dX0_giveNumbers_50 rfl rfl ?_
      refine tr_getR hX 18 1 (by decide) rfl rfl rfl (by decide) gX0 wm_125 dX0_giveNumbers_51 ?_
      refine tr_aload_n hX 0 dX0_giveNumbers_54 rfl rfl ?_
      refine tr_getR hX 18 0 (by decide) rfl rfl rfl (by decide) gX0 wm_124 dX0_giveNumbers_55 ?_
      refine tr_iload_n hX 2 dX0_giveNumbers_58 rfl rfl ?_
      refine tr_iald hX 19 (by decide) rfl dX0_giveNumbers_59 ?_
      refine tr_iald hX 20 (by decide) rfl dX0_giveNumbers_60 ?_
      refine tr_iast hX 20 (by decide) rfl dX0_giveNumbers_61 fun s2 => ?_
      exact w_X0_giveNumbers_62 hX hR hE N k7 hk7 s2 x1 x2
    · refine tr_aload_n hX 0 dX0_giveNumbers_22 rfl rfl ?_
      refine tr_getR hX 18 1 (by decide) rfl rfl rfl (by decide) gX0 wm_125 dX0_giveNumbers_23 ?_
      refine tr_iload_n hX 2 dX0_giveNumbers_26 rfl rfl ?_
      refine tr_aload_n hX 0 dX0_giveNumbers_27 rfl rfl ?_
      refine tr_getI hX 18 4 (by decide) rfl rfl rfl (by decide) gX0 wm_131 dX0_giveNumbers_28 ?_
      refine tr_iast hX 20 (by decide) rfl dX0_giveNumbers_31 fun s3 => ?_
      refine tr_aload_n hX 0 dX0_giveNumbers_32 rfl rfl ?_
      refine tr_dup hX dX0_giveNumbers_33 rfl ?_
      refine tr_getI hX 18 4 (by decide) rfl rfl rfl (by decide) gX0 wm_131 dX0_giveNumbers_34 ?_
      refine tr_iconst (v := 1) hX dX0_giveNumbers_37 rfl ?_
      refine tr_iadd hX dX0_giveNumbers_38 ?_
      refine tr_putI hX 18 4 tyX0 tyX0_ok nmX0 (by decide) rfl rfl rfl (by decide) gX0 wm_131 rfl (by decide +kernel) dX0_giveNumbers_39 fun s4 => ?_
      refine tr_goto hX 62 dX0_giveNumbers_42 (by decide) ?_
      exact w_X0_giveNumbers_62 hX hR hE N k7 hk7 s4 x1 x2
theorem wl_X0_giveNumbers_7 {G : Gx} (hX : ok G cX0_giveNumbers 3 RX0 none 0 0) (hR : okV G) (hE : va_D (AW G.1) (wd G.1 (fun _ _ => 0))) (N : Nat) : ∀ (n : Nat) (s : Hp) (x1 x2 : Int32), T G (lp (fun _ _ _ => none) (f_X0_giveNumbers_7 N) n s x1 x2) s 7 [(0, rf G.1 18), (1, .int x1), (2, .int x2)] [] := by
  intro n
  induction n with
  | zero => exact fun s x1 x2 h => nomatch (show (none : Option (Int32 × Hp)) = some _ from h)
  | succ n ih => exact fun s x1 x2 => w_X0_giveNumbers_7 hX hR hE N _ ih s x1 x2
set_option maxRecDepth 20000 in
set_option maxHeartbeats 2000000 in
theorem w_X0_giveNumbers {G : Gx} (hX : ok G cX0_giveNumbers 3 RX0 none 0 0) (hR : okV G) (hE : va_D (AW G.1) (wd G.1 (fun _ _ => 0))) (N : Nat) (s : Hp) (x1 : Int32) : T G (f_X0_giveNumbers N s x1) s 0 [(0, rf G.1 18), (1, .int x1)] [] := by
  unfold f_X0_giveNumbers
  refine tr_aload_n hX 0 dX0_giveNumbers_0 rfl rfl ?_
  refine tr_iconst (v := 0) hX dX0_giveNumbers_1 rfl ?_
  refine tr_putI hX 18 4 tyX0 tyX0_ok nmX0 (by decide) rfl rfl rfl (by decide) gX0 wm_131 rfl (by decide +kernel) dX0_giveNumbers_2 fun s1 => ?_
  refine tr_iconst (v := 0) hX dX0_giveNumbers_5 rfl ?_
  refine tr_istore_n (lv2 := [(2, .int 0), (0, rf G.1 18), (1, .int x1)]) hX dX0_giveNumbers_6 rfl (by decide) rfl ?_
  refine tr_lv (lv2 := [(0, rf G.1 18), (1, .int x1), (2, .int 0)]) [1, 2, 0] rfl ?_
  exact wl_X0_giveNumbers_7 hX hR hE N N s1 x1 0
theorem c_X0_giveNumbers (E : Ex) (hE : va_D (AW E) (wd E (fun _ _ => 0))) (N : Nat) (s : Hp) (x1 : Int32) (r : Int32 × Hp) (h : f_X0_giveNumbers N s x1 = some r) : CtrV E yX0_giveNumbers cX0_giveNumbers 3 none 0 0 [rf E 18, .int x1] s r :=
  ctrV_of (by decide +kernel) hE (Nat.le_of_ble_eq_true rfl) h (fun G hX hR hG => by subst hG; exact w_X0_giveNumbers hX hR hE N s x1)
set_option maxRecDepth 20000 in
set_option maxHeartbeats 2000000 in
theorem w_X2_areJoined {G : Gx} (hX : ok G cX2_areJoined 5 RX2 (some .boolean) 1 21) (hR : okR G) (hE : va_D (AW G.1) (wd G.1 (fun _ _ => 0))) (N : Nat) (s : Hp) (x1 x2 x3 x4 : Int32) : T G (f_X2_areJoined N s x1 x2 x3 x4) s 0 [(0, rf G.1 9), (1, .int x1), (2, .int x2), (3, .int x3), (4, .int x4)] [] := by
  unfold f_X2_areJoined
  refine tr_aload_n hX 0 dX2_areJoined_0 rfl rfl ?_
  refine tr_getR hX 9 0 (by decide) rfl rfl rfl (by decide) gX2 wm_94 dX2_areJoined_1 ?_
  refine tr_getNR hX 10 1 (by decide) rfl rfl rfl (by decide) gX7 wm_60 dX2_areJoined_4 ?_
  refine tr_iload_n hX 1 dX2_areJoined_7 rfl rfl ?_
  refine tr_iald hX 12 (by decide) rfl dX2_areJoined_8 ?_
  refine tr_aload_n hX 0 dX2_areJoined_9 rfl rfl ?_
  refine tr_getR hX 9 0 (by decide) rfl rfl rfl (by decide) gX2 wm_94 dX2_areJoined_10 ?_
  refine tr_getNR hX 10 1 (by decide) rfl rfl rfl (by decide) gX7 wm_60 dX2_areJoined_13 ?_
  refine tr_iload_n hX 2 dX2_areJoined_16 rfl rfl ?_
  refine tr_iald hX 12 (by decide) rfl dX2_areJoined_17 ?_
  refine tr_icmp_ne hX 93 dX2_areJoined_18 (by decide) ?_ ?_
  · refine tr_iconst (v := 0) hX dX2_areJoined_93 rfl ?_
    exact tr_zret hX hR rfl dX2_areJoined_94
  · refine tr_aload_n hX 0 dX2_areJoined_21 rfl rfl ?_
    refine tr_getR hX 9 1 (by decide) rfl rfl rfl (by decide) gX2 wm_98 dX2_areJoined_22 ?_
    refine tr_iload_n hX 1 dX2_areJoined_25 rfl rfl ?_
    refine tr_iald hX 15 (by decide) rfl dX2_areJoined_26 ?_
    refine tr_aload_n hX 0 dX2_areJoined_27 rfl rfl ?_
    refine tr_getR hX 9 1 (by decide) rfl rfl rfl (by decide) gX2 wm_98 dX2_areJoined_28 ?_
    refine tr_iload_n hX 2 dX2_areJoined_31 rfl rfl ?_
    refine tr_iald hX 15 (by decide) rfl dX2_areJoined_32 ?_
    refine tr_isub hX dX2_areJoined_33 ?_
    refine tr_abs hX wm_367 wm_368 wm_4 wm_369 (by decide) (Nat.le_of_ble_eq_true rfl) dX2_areJoined_34 ?_
    refine tr_iload_n hX 3 dX2_areJoined_37 rfl rfl ?_
    refine tr_icmp_gt hX 93 dX2_areJoined_38 (by decide) ?_ ?_
    · refine tr_iconst (v := 0) hX dX2_areJoined_93 rfl ?_
      exact tr_zret hX hR rfl dX2_areJoined_94
    · refine tr_aload_n hX 0 dX2_areJoined_41 rfl rfl ?_
      refine tr_getR hX 9 0 (by decide) rfl rfl rfl (by decide) gX2 wm_94 dX2_areJoined_42 ?_
      refine tr_getNR hX 10 2 (by decide) rfl rfl rfl (by decide) gX7 wm_64 dX2_areJoined_45 ?_
      refine tr_iload_n hX 1 dX2_areJoined_48 rfl rfl ?_
      refine tr_iald hX 13 (by decide) rfl dX2_areJoined_49 ?_
      refine tr_aload_n hX 0 dX2_areJoined_50 rfl rfl ?_
      refine tr_getR hX 9 0 (by decide) rfl rfl rfl (by decide) gX2 wm_94 dX2_areJoined_51 ?_
      refine tr_getNR hX 10 3 (by decide) rfl rfl rfl (by decide) gX7 wm_68 dX2_areJoined_54 ?_
      refine tr_iload_n hX 2 dX2_areJoined_57 rfl rfl ?_
      refine tr_iald hX 14 (by decide) rfl dX2_areJoined_58 ?_
      refine tr_isub hX dX2_areJoined_59 ?_
      refine tr_iload hX 4 dX2_areJoined_60 rfl ?_
      refine tr_icmp_gt hX 93 dX2_areJoined_62 (by decide) ?_ ?_
      · refine tr_iconst (v := 0) hX dX2_areJoined_93 rfl ?_
        exact tr_zret hX hR rfl dX2_areJoined_94
      · refine tr_aload_n hX 0 dX2_areJoined_65 rfl rfl ?_
        refine tr_getR hX 9 0 (by decide) rfl rfl rfl (by decide) gX2 wm_94 dX2_areJoined_66 ?_
        refine tr_getNR hX 10 2 (by decide) rfl rfl rfl (by decide) gX7 wm_64 dX2_areJoined_69 ?_
        refine tr_iload_n hX 2 dX2_areJoined_72 rfl rfl ?_
        refine tr_iald hX 13 (by decide) rfl dX2_areJoined_73 ?_
        refine tr_aload_n hX 0 dX2_areJoined_74 rfl rfl ?_
        refine tr_getR hX 9 0 (by decide) rfl rfl rfl (by decide) gX2 wm_94 dX2_areJoined_75 ?_
        refine tr_getNR hX 10 3 (by decide) rfl rfl rfl (by decide) gX7 wm_68 dX2_areJoined_78 ?_
        refine tr_iload_n hX 1 dX2_areJoined_81 rfl rfl ?_
        refine tr_iald hX 14 (by decide) rfl dX2_areJoined_82 ?_
        refine tr_isub hX dX2_areJoined_83 ?_
        refine tr_iload hX 4 dX2_areJoined_84 rfl ?_
        refine tr_icmp_gt hX 93 dX2_areJoined_86 (by decide) ?_ ?_
        · refine tr_iconst (v := 0) hX dX2_areJoined_93 rfl ?_
          exact tr_zret hX hR rfl dX2_areJoined_94
        · refine tr_iconst (v := 1) hX dX2_areJoined_89 rfl ?_
          refine tr_goto hX 94 dX2_areJoined_90 (by decide) ?_
          exact tr_zret hX hR rfl dX2_areJoined_94
theorem c_X2_areJoined (E : Ex) (hE : va_D (AW E) (wd E (fun _ _ => 0))) (N : Nat) (s : Hp) (x1 x2 x3 x4 : Int32) (r : Int32 × Hp) (h : f_X2_areJoined N s x1 x2 x3 x4 = some r) : CtrI E yX2_areJoined cX2_areJoined 5 (some .boolean) 1 21 [rf E 9, .int x1, .int x2, .int x3, .int x4] s r :=
  ctrI_of (by decide +kernel) hE (Nat.le_of_ble_eq_true rfl) h (fun G hX hR hG => by subst hG; exact w_X2_areJoined hX hR hE N s x1 x2 x3 x4)
set_option maxRecDepth 20000 in
set_option maxHeartbeats 2000000 in
theorem w_X0_unite_62 {G : Gx} (hX : ok G cX0_unite 6 RX0 none 1 21) (hR : okV G) (hE : va_D (AW G.1) (wd G.1 (fun _ _ => 0))) (N : Nat) (k36 : Hp → Int32 → Int32 → Int32 → Int32 → Option (Int32 × Hp)) (hk36 : ∀ (s : Hp) (x1 x3 x4 x5 : Int32), T G (k36 s x1 x3 x4 x5) s 36 [(0, rf G.1 18), (1, .int x1), (3, .int x3), (4, .int x4), (5, .int x5)] []) (s : Hp) (x1 x3 x4 x5 : Int32) : T G (f_X0_unite_62 N k36 s x1 x3 x4 x5) s 62 [(0, rf G.1 18), (1, .int x1), (3, .int x3), (4, .int x4), (5, .int x5)] [] := by
  unfold f_X0_unite_62
  refine tr_iincB (b := 1) (lv2 := fun y4 => [(5, .int y4), (0, rf G.1 18), (1, .int x1), (3, .int x3), (4, .int x4)]) hX 4 dX0_unite_62 rfl rfl (by decide) (fun _ => rfl) fun y4 => ?_
  refine tr_goto hX 36 dX0_unite_65 (by decide) ?_
  refine tr_lv (lv2 := [(0, rf G.1 18), (1, .int x1), (3, .int x3), (4, .int x4), (5, .int y4)]) [1, 2, 3, 4, 0] rfl ?_
  exact hk36 s x1 x3 x4 y4
set_option maxRecDepth 20000 in
set_option maxHeartbeats 2000000 in
theorem w_X0_unite_36 {G : Gx} (hX : ok G cX0_unite 6 RX0 none 1 21) (hR : okV G) (hE : va_D (AW G.1) (wd G.1 (fun _ _ => 0))) (N : Nat) (k36 : Hp → Int32 → Int32 → Int32 → Int32 → Option (Int32 × Hp)) (hk36 : ∀ (s : Hp) (x1 x3 x4 x5 : Int32), T G (k36 s x1 x3 x4 x5) s 36 [(0, rf G.1 18), (1, .int x1), (3, .int x3), (4, .int x4), (5, .int x5)] []) (s : Hp) (x1 x3 x4 x5 : Int32) : T G (f_X0_unite_36 N k36 s x1 x3 x4 x5) s 36 [(0, rf G.1 18), (1, .int x1), (3, .int x3), (4, .int x4), (5, .int x5)] [] := by
  unfold f_X0_unite_36
  refine tr_iload hX 4 dX0_unite_36 rfl ?_
  refine tr_iload_n hX 1 dX0_unite_38 rfl rfl ?_
  refine tr_icmp_gt hX 68 dX0_unite_39 (by decide) ?_ ?_
  · exact tr_vret hX hR dX0_unite_68
  · refine tr_aload_n hX 0 dX0_unite_42 rfl rfl ?_
    refine tr_getR hX 18 0 (by decide) rfl rfl rfl (by decide) gX0 wm_124 dX0_unite_43 ?_
    refine tr_iload hX 4 dX0_unite_46 rfl ?_
    refine tr_iald hX 19 (by decide) rfl dX0_unite_48 ?_
    refine tr_iload hX 3 dX0_unite_49 rfl ?_
    refine tr_icmp_ne hX 62 dX0_unite_51 (by decide) ?_ ?_
    · exact w_X0_unite_62 hX hR hE N k36 hk36 s x1 x3 x4 x5
    · refine tr_aload_n hX 0 dX0_unite_54 rfl rfl ?_
      refine tr_getR hX 18 0 (by decide) rfl rfl rfl (by decide) gX0 wm_124 dX0_unite_55 ?_
      refine tr_iload hX 4 dX0_unite_58 rfl ?_
      refine tr_iload_n hX 2 dX0_unite_60 rfl rfl ?_
      refine tr_iast hX 19 (by decide) rfl dX0_unite_61 fun s3 => ?_
      exact w_X0_unite_62 hX hR hE N k36 hk36 s3 x1 x3 x4 x5
theorem wl_X0_unite_36 {G : Gx} (hX : ok G cX0_unite 6 RX0 none 1 21) (hR : okV G) (hE : va_D (AW G.1) (wd G.1 (fun _ _ => 0))) (N : Nat) : ∀ (n : Nat) (s : Hp) (x1 x3 x4 x5 : Int32), T G (lp (fun _ _ _ _ _ => none) (f_X0_unite_36 N) n s x1 x3 x4 x5) s 36 [(0, rf G.1 18), (1, .int x1), (3, .int x3), (4, .int x4), (5, .int x5)] [] := by
  intro n
  induction n with
  | zero => exact fun s x1 x3 x4 x5 h => nomatch (show (none : Option (Int32 × Hp)) = some _ from h)
  | succ n ih => exact fun s x1 x3 x4 x5 => w_X0_unite_36 hX hR hE N _ ih s x1 x3 x4 x5
set_option maxRecDepth 20000 in
set_option maxHeartbeats 2000000 in
theorem w_X0_unite {G : Gx} (hX : ok G cX0_unite 6 RX0 none 1 21) (hR : okV G) (hE : va_D (AW G.1) (wd G.1 (fun _ _ => 0))) (N : Nat) (s : Hp) (x1 x2 : Int32) : T G (f_X0_unite N s x1 x2) s 0 [(0, rf G.1 18), (1, .int x1), (2, .int x2)] [] := by
  unfold f_X0_unite
  refine tr_aload_n hX 0 dX0_unite_0 rfl rfl ?_
  refine tr_getR hX 18 0 (by decide) rfl rfl rfl (by decide) gX0 wm_124 dX0_unite_1 ?_
  refine tr_iload_n hX 1 dX0_unite_4 rfl rfl ?_
  refine tr_iald hX 19 (by decide) rfl dX0_unite_5 ?_
  refine tr_aload_n hX 0 dX0_unite_6 rfl rfl ?_
  refine tr_getR hX 18 0 (by decide) rfl rfl rfl (by decide) gX0 wm_124 dX0_unite_7 ?_
  refine tr_iload_n hX 2 dX0_unite_10 rfl rfl ?_
  refine tr_iald hX 19 (by decide) rfl dX0_unite_11 ?_
  refine tr_min hX wm_374 wm_375 wm_4 wm_376 (by decide) (Nat.le_of_ble_eq_true rfl) dX0_unite_12 ?_
  refine tr_istore_nB (lv2 := fun y1 => [(3, .int y1), (0, rf G.1 18), (1, .int x1), (2, .int x2)]) hX dX0_unite_15 rfl (by decide) (fun _ => rfl) fun y1 => ?_
  refine tr_aload_n hX 1 dX0_unite_16 rfl rfl ?_
  refine tr_getR hX 18 0 (by decide) rfl rfl rfl (by decide) gX0 wm_124 dX0_unite_17 ?_
  refine tr_iload_n hX 2 dX0_unite_20 rfl rfl ?_
  refine tr_iald hX 19 (by decide) rfl dX0_unite_21 ?_
  refine tr_aload_n hX 1 dX0_unite_22 rfl rfl ?_
  refine tr_getR hX 18 0 (by decide) rfl rfl rfl (by decide) gX0 wm_124 dX0_unite_23 ?_
  refine tr_iload_n hX 3 dX0_unite_26 rfl rfl ?_
  refine tr_iald hX 19 (by decide) rfl dX0_unite_27 ?_
  refine tr_max hX wm_377 wm_53 wm_4 wm_54 (by decide) (Nat.le_of_ble_eq_true rfl) dX0_unite_28 ?_
  refine tr_istoreB (lv2 := fun y2 => [(4, .int y2), (3, .int y1), (0, rf G.1 18), (1, .int x1), (2, .int x2)]) hX dX0_unite_31 (by decide) (fun _ => rfl) fun y2 => ?_
  refine tr_iconst (v := 0) hX dX0_unite_33 rfl ?_
  refine tr_istore (lv2 := [(5, .int 0), (4, .int y2), (3, .int y1), (0, rf G.1 18), (1, .int x1), (2, .int x2)]) hX dX0_unite_34 (by decide) rfl ?_
  refine tr_lv (lv2 := [(0, rf G.1 18), (1, .int x1), (3, .int y1), (4, .int y2), (5, .int 0)]) [3, 4, 2, 1, 0] rfl ?_
  exact wl_X0_unite_36 hX hR hE N N s x1 y1 y2 0
theorem c_X0_unite (E : Ex) (hE : va_D (AW E) (wd E (fun _ _ => 0))) (N : Nat) (s : Hp) (x1 x2 : Int32) (r : Int32 × Hp) (h : f_X0_unite N s x1 x2 = some r) : CtrV E yX0_unite cX0_unite 6 none 1 21 [rf E 18, .int x1, .int x2] s r :=
  ctrV_of (by decide +kernel) hE (Nat.le_of_ble_eq_true rfl) h (fun G hX hR hG => by subst hG; exact w_X0_unite hX hR hE N s x1 x2)
set_option maxRecDepth 20000 in
set_option maxHeartbeats 2000000 in
theorem w_X0_gather_65 {G : Gx} (hX : ok G cX0_gather 4 RX0 none 2 46) (hR : okV G) (hE : va_D (AW G.1) (wd G.1 (fun _ _ => 0))) (N : Nat) (k2 : Hp → Int32 → Option (Int32 × Hp)) (hk2 : ∀ (s : Hp) (x2 : Int32), T G (k2 s x2) s 2 [(0, rf G.1 18), (1, rf G.1 9), (2, .int x2)] []) (k22 : Hp → Int32 → Int32 → Option (Int32 × Hp)) (hk22 : ∀ (s : Hp) (x2 x3 : Int32), T G (k22 s x2 x3) s 22 [(0, rf G.1 18), (1, rf G.1 9), (2, .int x2), (3, .int x3)] []) (s : Hp) (x2 x3 : Int32) : T G (f_X0_gather_65 N k2 k22 s x2 x3) s 65 [(0, rf G.1 18), (1, rf G.1 9), (2, .int x2), (3, .int x3)] [] := by
  unfold f_X0_gather_65
  refine tr_iincB (b := 1) (lv2 := fun y9 => [(3, .int y9), (0, rf G.1 18), (1, rf G.1 9), (2, .int x2)]) hX 3 dX0_gather_65 rfl rfl (by decide) (fun _ => rfl) fun y9 => ?_
  refine tr_goto hX 22 dX0_gather_68 (by decide) ?_
  refine tr_lv (lv2 := [(0, rf G.1 18), (1, rf G.1 9), (2, .int x2), (3, .int y9)]) [1, 2, 3, 0] rfl ?_
  exact hk22 s x2 y9
set_option maxRecDepth 20000 in
set_option maxHeartbeats 2000000 in
theorem w_X0_gather_22 {G : Gx} (hX : ok G cX0_gather 4 RX0 none 2 46) (hR : okV G) (hE : va_D (AW G.1) (wd G.1 (fun _ _ => 0))) (N : Nat) (k2 : Hp → Int32 → Option (Int32 × Hp)) (hk2 : ∀ (s : Hp) (x2 : Int32), T G (k2 s x2) s 2 [(0, rf G.1 18), (1, rf G.1 9), (2, .int x2)] []) (k22 : Hp → Int32 → Int32 → Option (Int32 × Hp)) (hk22 : ∀ (s : Hp) (x2 x3 : Int32), T G (k22 s x2 x3) s 22 [(0, rf G.1 18), (1, rf G.1 9), (2, .int x2), (3, .int x3)] []) (s : Hp) (x2 x3 : Int32) : T G (f_X0_gather_22 N k2 k22 s x2 x3) s 22 [(0, rf G.1 18), (1, rf G.1 9), (2, .int x2), (3, .int x3)] [] := by
  unfold f_X0_gather_22
  refine tr_iload_n hX 3 dX0_gather_22 rfl rfl ?_
  refine tr_iload_n hX 2 dX0_gather_23 rfl rfl ?_
  refine tr_icmp_ge hX 71 dX0_gather_24 (by decide) ?_ ?_
  · refine tr_iincB (b := 1) (lv2 := fun y4 => [(2, .int y4), (0, rf G.1 18), (1, rf G.1 9), (3, .int x3)]) hX 2 dX0_gather_71 rfl rfl (by decide) (fun _ => rfl) fun y4 => ?_
    refine tr_goto hX 2 dX0_gather_74 (by decide) ?_
    refine tr_lv (lv2 := [(0, rf G.1 18), (1, rf G.1 9), (2, .int y4)]) [1, 2, 0] rfl ?_
    exact hk2 s y4
  · refine tr_aload_n hX 0 dX0_gather_27 rfl rfl ?_
    refine tr_getR hX 18 0 (by decide) rfl rfl rfl (by decide) gX0 wm_124 dX0_gather_28 ?_
    refine tr_iload_n hX 2 dX0_gather_31 rfl rfl ?_
    refine tr_iald hX 19 (by decide) rfl dX0_gather_32 ?_
    refine tr_aload_n hX 0 dX0_gather_33 rfl rfl ?_
    refine tr_getR hX 18 0 (by decide) rfl rfl rfl (by decide) gX0 wm_124 dX0_gather_34 ?_
    refine tr_iload_n hX 3 dX0_gather_37 rfl rfl ?_
    refine tr_iald hX 19 (by decide) rfl dX0_gather_38 ?_
    refine tr_icmp_eq hX 65 dX0_gather_39 (by decide) ?_ ?_
    · exact w_X0_gather_65 hX hR hE N k2 hk2 k22 hk22 s x2 x3
    · refine tr_aload_n hX 1 dX0_gather_42 rfl rfl ?_
      refine tr_iload_n hX 2 dX0_gather_43 rfl rfl ?_
      refine tr_iload_n hX 3 dX0_gather_44 rfl rfl ?_
      refine tr_aload_n hX 0 dX0_gather_45 rfl rfl ?_
      refine tr_getI hX 18 2 (by decide) rfl rfl rfl (by decide) gX0 wm_127 dX0_gather_46 ?_
      refine tr_aload_n hX 0 dX0_gather_49 rfl rfl ?_
      refine tr_getI hX 18 3 (by decide) rfl rfl rfl (by decide) gX0 wm_129 dX0_gather_50 ?_
      refine tr_callV hX 9 [.int x2, .int x3, .int (s 18 2), .int (s 18 3)] kv_X2_areJoined wm_363 (by decide) rfl rfl rfl (by decide) rfl rfl (Nat.le_of_ble_eq_true rfl) dX0_gather_53 (fun vq sq hq => c_X2_areJoined G.1 hE N s x2 x3 (s 18 2) (s 18 3) (vq, sq) hq) fun v6 s5 => ?_
      refine tr_if_eq hX 65 dX0_gather_56 (by decide) ?_ ?_
      · exact w_X0_gather_65 hX hR hE N k2 hk2 k22 hk22 s5 x2 x3
      · refine tr_aload_n hX 0 dX0_gather_59 rfl rfl ?_
        refine tr_iload_n hX 2 dX0_gather_60 rfl rfl ?_
        refine tr_iload_n hX 3 dX0_gather_61 rfl rfl ?_
        refine tr_callVv hX 18 [.int x2, .int x3] kv_X0_unite wm_370 (by decide) rfl rfl rfl (by decide) rfl rfl (Nat.le_of_ble_eq_true rfl) dX0_gather_62 (fun vq sq hq => c_X0_unite G.1 hE N s5 x2 x3 (vq, sq) hq) fun v8 s7 => ?_
        exact w_X0_gather_65 hX hR hE N k2 hk2 k22 hk22 s7 x2 x3
theorem wl_X0_gather_22 {G : Gx} (hX : ok G cX0_gather 4 RX0 none 2 46) (hR : okV G) (hE : va_D (AW G.1) (wd G.1 (fun _ _ => 0))) (N : Nat) (k2 : Hp → Int32 → Option (Int32 × Hp)) (hk2 : ∀ (s : Hp) (x2 : Int32), T G (k2 s x2) s 2 [(0, rf G.1 18), (1, rf G.1 9), (2, .int x2)] []) : ∀ (n : Nat) (s : Hp) (x2 x3 : Int32), T G (lp (fun _ _ _ => none) (f_X0_gather_22 N k2) n s x2 x3) s 22 [(0, rf G.1 18), (1, rf G.1 9), (2, .int x2), (3, .int x3)] [] := by
  intro n
  induction n with
  | zero => exact fun s x2 x3 h => nomatch (show (none : Option (Int32 × Hp)) = some _ from h)
  | succ n ih => exact fun s x2 x3 => w_X0_gather_22 hX hR hE N k2 hk2 _ ih s x2 x3
set_option maxRecDepth 20000 in
set_option maxHeartbeats 2000000 in
theorem w_X0_gather_2 {G : Gx} (hX : ok G cX0_gather 4 RX0 none 2 46) (hR : okV G) (hE : va_D (AW G.1) (wd G.1 (fun _ _ => 0))) (N : Nat) (k2 : Hp → Int32 → Option (Int32 × Hp)) (hk2 : ∀ (s : Hp) (x2 : Int32), T G (k2 s x2) s 2 [(0, rf G.1 18), (1, rf G.1 9), (2, .int x2)] []) (s : Hp) (x2 : Int32) : T G (f_X0_gather_2 N k2 s x2) s 2 [(0, rf G.1 18), (1, rf G.1 9), (2, .int x2)] [] := by
  unfold f_X0_gather_2
  refine tr_iload_n hX 2 dX0_gather_2 rfl rfl ?_
  refine tr_aload_n hX 1 dX0_gather_3 rfl rfl ?_
  refine tr_getNR hX 9 0 (by decide) rfl rfl rfl (by decide) gX2 wm_95 dX0_gather_4 ?_
  refine tr_getNI hX 10 4 (by decide) rfl rfl rfl (by decide) gX7 wm_70 dX0_gather_7 ?_
  refine tr_icmp_ge hX 77 dX0_gather_10 (by decide) ?_ ?_
  · refine tr_aload_n hX 0 dX0_gather_77 rfl rfl ?_
    refine tr_aload_n hX 1 dX0_gather_78 rfl rfl ?_
    refine tr_getNR hX 9 0 (by decide) rfl rfl rfl (by decide) gX2 wm_95 dX0_gather_79 ?_
    refine tr_getNI hX 10 4 (by decide) rfl rfl rfl (by decide) gX7 wm_70 dX0_gather_82 ?_
    refine tr_callVv hX 18 [.int (s 10 4)] kv_X0_giveNumbers wm_378 (by decide) rfl rfl rfl (by decide) rfl rfl (Nat.le_of_ble_eq_true rfl) dX0_gather_85 (fun vq sq hq => c_X0_giveNumbers G.1 hE N s (s 10 4) (vq, sq) hq) fun v2 s1 => ?_
    exact tr_vret hX hR dX0_gather_88
  · refine tr_aload_n hX 0 dX0_gather_13 rfl rfl ?_
    refine tr_getR hX 18 0 (by decide) rfl rfl rfl (by decide) gX0 wm_124 dX0_gather_14 ?_
    refine tr_iload_n hX 2 dX0_gather_17 rfl rfl ?_
    refine tr_iload_n hX 2 dX0_gather_18 rfl rfl ?_
    refine tr_iast hX 19 (by decide) rfl dX0_gather_19 fun s3 => ?_
    refine tr_iconst (v := 0) hX dX0_gather_20 rfl ?_
    refine tr_istore_n (lv2 := [(3, .int 0), (0, rf G.1 18), (1, rf G.1 9), (2, .int x2)]) hX dX0_gather_21 rfl (by decide) rfl ?_
    refine tr_lv (lv2 := [(0, rf G.1 18), (1, rf G.1 9), (2, .int x2), (3, .int 0)]) [1, 2, 3, 0] rfl ?_
    exact wl_X0_gather_22 hX hR hE N k2 hk2 N s3 x2 0
theorem wl_X0_gather_2 {G : Gx} (hX : ok G cX0_gather 4 RX0 none 2 46) (hR : okV G) (hE : va_D (AW G.1) (wd G.1 (fun _ _ => 0))) (N : Nat) : ∀ (n : Nat) (s : Hp) (x2 : Int32), T G (lp (fun _ _ => none) (f_X0_gather_2 N) n s x2) s 2 [(0, rf G.1 18), (1, rf G.1 9), (2, .int x2)] [] := by
  intro n
  induction n with
  | zero => exact fun s x2 h => nomatch (show (none : Option (Int32 × Hp)) = some _ from h)
  | succ n ih => exact fun s x2 => w_X0_gather_2 hX hR hE N _ ih s x2
set_option maxRecDepth 20000 in
set_option maxHeartbeats 2000000 in
theorem w_X0_gather {G : Gx} (hX : ok G cX0_gather 4 RX0 none 2 46) (hR : okV G) (hE : va_D (AW G.1) (wd G.1 (fun _ _ => 0))) (N : Nat) (s : Hp) : T G (f_X0_gather N s) s 0 [(0, rf G.1 18), (1, rf G.1 9)] [] := by
  unfold f_X0_gather
  refine tr_iconst (v := 0) hX dX0_gather_0 rfl ?_
  refine tr_istore_n (lv2 := [(2, .int 0), (0, rf G.1 18), (1, rf G.1 9)]) hX dX0_gather_1 rfl (by decide) rfl ?_
  refine tr_lv (lv2 := [(0, rf G.1 18), (1, rf G.1 9), (2, .int 0)]) [1, 2, 0] rfl ?_
  exact wl_X0_gather_2 hX hR hE N N s 0
theorem c_X0_gather (E : Ex) (hE : va_D (AW E) (wd E (fun _ _ => 0))) (N : Nat) (s : Hp) (r : Int32 × Hp) (h : f_X0_gather N s = some r) : CtrV E yX0_gather cX0_gather 4 none 2 46 [rf E 18, rf E 9] s r :=
  ctrV_of (by decide +kernel) hE (Nat.le_of_ble_eq_true rfl) h (fun G hX hR hG => by subst hG; exact w_X0_gather hX hR hE N s)
set_option maxRecDepth 20000 in
set_option maxHeartbeats 2000000 in
theorem w_X9_mark {G : Gx} (hX : ok G cX9_mark 7 RX9 (some .int) 3 72) (hR : okR G) (hE : va_D (AW G.1) (wd G.1 (fun _ _ => 0))) (N : Nat) (s : Hp) (x1 x2 x3 x4 x5 : Int32) : T G (f_X9_mark N s x1 x2 x3 x4 x5) s 0 [(0, rf G.1 0), (1, .int x1), (2, .int x2), (3, .int x3), (4, .int x4), (5, .int x5)] [] := by
  unfold f_X9_mark
  refine tr_aload_n hX 0 dX9_mark_0 rfl rfl ?_
  refine tr_iload_n hX 1 dX9_mark_1 rfl rfl ?_
  refine tr_iload_n hX 2 dX9_mark_2 rfl rfl ?_
  refine tr_iload_n hX 3 dX9_mark_3 rfl rfl ?_
  refine tr_iload hX 4 dX9_mark_4 rfl ?_
  refine tr_callV hX 0 [.int x1, .int x2, .int x3, .int x4] kv_X9_isHearing wm_331 (by decide) rfl rfl rfl (by decide) rfl rfl (Nat.le_of_ble_eq_true rfl) dX9_mark_6 (fun vq sq hq => c_X9_isHearing G.1 hE N s x1 x2 x3 x4 (vq, sq) hq) fun v2 s1 => ?_
  refine tr_if_eq hX 53 dX9_mark_9 (by decide) ?_ ?_
  · refine tr_iconst (v := (-1)) hX dX9_mark_53 rfl ?_
    exact tr_iret hX hR dX9_mark_54
  · refine tr_iload hX 5 dX9_mark_12 rfl ?_
    refine tr_sipush (v := 1000) hX dX9_mark_14 rfl ?_
    refine tr_callS hX [.int x5, .int 1000] ks_X9_isBelow wm_320 (by decide) rfl rfl (Nat.le_of_ble_eq_true rfl) dX9_mark_17 (fun vq sq hq => c_X9_isBelow G.1 hE N s1 x5 1000 (vq, sq) hq) fun v4 s3 => ?_
    refine tr_if_eq hX 53 dX9_mark_20 (by decide) ?_ ?_
    · refine tr_iconst (v := (-1)) hX dX9_mark_53 rfl ?_
      exact tr_iret hX hR dX9_mark_54
    · refine tr_aload_n hX 0 dX9_mark_23 rfl rfl ?_
      refine tr_getR hX 0 2 (by decide) rfl rfl rfl (by decide) gX9 wm_290 dX9_mark_24 ?_
      refine tr_getNR hX 9 0 (by decide) rfl rfl rfl (by decide) gX2 wm_97 dX9_mark_27 ?_
      refine tr_getNI hX 10 4 (by decide) rfl rfl rfl (by decide) gX7 wm_72 dX9_mark_30 ?_
      refine tr_bipush (v := 60) hX dX9_mark_33 rfl ?_
      refine tr_icmp_ge hX 53 dX9_mark_35 (by decide) ?_ ?_
      · refine tr_iconst (v := (-1)) hX dX9_mark_53 rfl ?_
        exact tr_iret hX hR dX9_mark_54
      · refine tr_aload_n hX 0 dX9_mark_38 rfl rfl ?_
        refine tr_getR hX 0 1 (by decide) rfl rfl rfl (by decide) gX9 wm_289 dX9_mark_39 ?_
        refine tr_iload_n hX 1 dX9_mark_42 rfl rfl ?_
        refine tr_iload_n hX 2 dX9_mark_43 rfl rfl ?_
        refine tr_iload_n hX 3 dX9_mark_44 rfl rfl ?_
        refine tr_iload hX 4 dX9_mark_45 rfl ?_
        refine tr_callV hX 4 [.int x1, .int x2, .int x3, .int x4] kv_X7_holdsEach wm_346 (by decide) rfl rfl rfl (by decide) rfl rfl (Nat.le_of_ble_eq_true rfl) dX9_mark_47 (fun vq sq hq => c_X7_holdsEach G.1 hE N s3 x1 x2 x3 x4 (vq, sq) hq) fun v6 s5 => ?_
        refine tr_if_ne hX 55 dX9_mark_50 (by decide) ?_ ?_
        · refine tr_aload_n hX 0 dX9_mark_55 rfl rfl ?_
          refine tr_getR hX 0 2 (by decide) rfl rfl rfl (by decide) gX9 wm_290 dX9_mark_56 ?_
          refine tr_iload_n hX 1 dX9_mark_59 rfl rfl ?_
          refine tr_iload_n hX 2 dX9_mark_60 rfl rfl ?_
          refine tr_iload_n hX 3 dX9_mark_61 rfl rfl ?_
          refine tr_iload hX 4 dX9_mark_62 rfl ?_
          refine tr_iload hX 5 dX9_mark_64 rfl ?_
          refine tr_callV hX 9 [.int x1, .int x2, .int x3, .int x4, .int x5] kv_X2_add wm_354 (by decide) rfl rfl rfl (by decide) rfl rfl (Nat.le_of_ble_eq_true rfl) dX9_mark_66 (fun vq sq hq => c_X2_add G.1 hE N s5 x1 x2 x3 x4 x5 (vq, sq) hq) fun v8 s7 => ?_
          refine tr_istore (lv2 := [(6, .int v8), (0, rf G.1 0), (1, .int x1), (2, .int x2), (3, .int x3), (4, .int x4), (5, .int x5)]) hX dX9_mark_69 (by decide) rfl ?_
          refine tr_aload_n hX 1 dX9_mark_71 rfl rfl ?_
          refine tr_getR hX 0 3 (by decide) rfl rfl rfl (by decide) gX9 wm_291 dX9_mark_72 ?_
          refine tr_aload_n hX 1 dX9_mark_75 rfl rfl ?_
          refine tr_getR hX 0 2 (by decide) rfl rfl rfl (by decide) gX9 wm_290 dX9_mark_76 ?_
          refine tr_callVv hX 18 [rf G.1 9] kv_X0_gather wm_359 (by decide) rfl rfl rfl (by decide) rfl rfl (Nat.le_of_ble_eq_true rfl) dX9_mark_79 (fun vq sq hq => c_X0_gather G.1 hE N s7 (vq, sq) hq) fun v10 s9 => ?_
          refine tr_iload hX 0 dX9_mark_82 rfl ?_
          exact tr_iret hX hR dX9_mark_84
        · refine tr_iconst (v := (-1)) hX dX9_mark_53 rfl ?_
          exact tr_iret hX hR dX9_mark_54
theorem c_X9_mark (E : Ex) (hE : va_D (AW E) (wd E (fun _ _ => 0))) (N : Nat) (s : Hp) (x1 x2 x3 x4 x5 : Int32) (r : Int32 × Hp) (h : f_X9_mark N s x1 x2 x3 x4 x5 = some r) : CtrI E yX9_mark cX9_mark 7 (some .int) 3 72 [rf E 0, .int x1, .int x2, .int x3, .int x4, .int x5] s r :=
  ctrI_of (by decide +kernel) hE (Nat.le_of_ble_eq_true rfl) h (fun G hX hR hG => by subst hG; exact w_X9_mark hX hR hE N s x1 x2 x3 x4 x5)
