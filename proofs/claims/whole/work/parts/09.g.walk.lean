set_option maxRecDepth 20000 in
set_option maxHeartbeats 2000000 in
theorem w_X9_slot {G : Gx} (hX : ok G cX9_slot 2 RX9 (some .int) 1 21) (hR : okR G) (hE : va_D (AW G.1) (wd G.1 (fun _ _ => 0))) (N : Nat) (s : Hp) (x1 : Int32) : T G (f_X9_slot N s x1) s 0 [(0, rf G.1 0), (1, .int x1)] [] := by
  unfold f_X9_slot
  refine tr_iload_n hX 1 dX9_slot_0 rfl rfl ?_
  refine tr_aload_n hX 0 dX9_slot_1 rfl rfl ?_
  refine tr_getR hX 0 8 (by decide) rfl rfl rfl (by decide) gX9 wm_296 dX9_slot_2 ?_
  refine tr_getNI hX 30 5 (by decide) rfl rfl rfl (by decide) gX3 wm_268 dX9_slot_5 ?_
  refine tr_callS hX [.int x1, .int (s 30 5)] ks_X9_isBelow wm_320 (by decide) rfl rfl (Nat.le_of_ble_eq_true rfl) dX9_slot_8 (fun vq sq hq => c_X9_isBelow G.1 hE N s x1 (s 30 5) (vq, sq) hq) fun v2 s1 => ?_
  refine tr_if_eq hX 26 dX9_slot_11 (by decide) ?_ ?_
  · refine tr_iconst (v := (-1)) hX dX9_slot_26 rfl ?_
    exact tr_iret hX hR dX9_slot_27
  · refine tr_aload_n hX 0 dX9_slot_14 rfl rfl ?_
    refine tr_getR hX 0 8 (by decide) rfl rfl rfl (by decide) gX9 wm_296 dX9_slot_15 ?_
    refine tr_getNR hX 30 4 (by decide) rfl rfl rfl (by decide) gX3 wm_266 dX9_slot_18 ?_
    refine tr_iload_n hX 1 dX9_slot_21 rfl rfl ?_
    refine tr_iald hX 35 (by decide) rfl dX9_slot_22 ?_
    refine tr_goto hX 27 dX9_slot_23 (by decide) ?_
    exact tr_iret hX hR dX9_slot_27
theorem c_X9_slot (E : Ex) (hE : va_D (AW E) (wd E (fun _ _ => 0))) (N : Nat) (s : Hp) (x1 : Int32) (r : Int32 × Hp) (h : f_X9_slot N s x1 = some r) : CtrI E yX9_slot cX9_slot 2 (some .int) 1 21 [rf E 0, .int x1] s r :=
  ctrI_of (by decide +kernel) hE (Nat.le_of_ble_eq_true rfl) h (fun G hX hR hG => by subst hG; exact w_X9_slot hX hR hE N s x1)
set_option maxRecDepth 20000 in
set_option maxHeartbeats 2000000 in
theorem w_X9_about {G : Gx} (hX : ok G cX9_about 2 RX9 (some .int) 0 0) (hR : okR G) (hE : va_D (AW G.1) (wd G.1 (fun _ _ => 0))) (N : Nat) (s : Hp) (x1 : Int32) : T G (f_X9_about N s x1) s 0 [(0, rf G.1 0), (1, .int x1)] [] := by
  unfold f_X9_about
  refine tr_iload_n hX 1 dX9_about_0 rfl rfl ?_
  refine tr_split (fun hs1_0 => ?_) (fun hs1_0 => ?_)
  · refine tr_tab hX 48 hs1_0 dX9_about_1 (by decide) (by decide) rfl (by decide) ?_
    refine tr_aload_n hX 0 dX9_about_48 rfl rfl ?_
    refine tr_getR hX 0 0 (by decide) rfl rfl rfl (by decide) gX9 wm_288 dX9_about_49 ?_
    refine tr_getNI hX 1 2 (by decide) rfl rfl rfl (by decide) gX4 wm_37 dX9_about_52 ?_
    exact tr_iret hX hR dX9_about_55
  · refine tr_split (fun hs1_1 => ?_) (fun hs1_1 => ?_)
    · refine tr_tab hX 56 hs1_1 dX9_about_1 (by decide) (by decide) rfl (by decide) ?_
      refine tr_aload_n hX 0 dX9_about_56 rfl rfl ?_
      refine tr_getR hX 0 1 (by decide) rfl rfl rfl (by decide) gX9 wm_289 dX9_about_57 ?_
      refine tr_getNI hX 4 4 (by decide) rfl rfl rfl (by decide) gX7 wm_72 dX9_about_60 ?_
      exact tr_iret hX hR dX9_about_63
    · refine tr_split (fun hs1_2 => ?_) (fun hs1_2 => ?_)
      · refine tr_tab hX 64 hs1_2 dX9_about_1 (by decide) (by decide) rfl (by decide) ?_
        refine tr_aload_n hX 0 dX9_about_64 rfl rfl ?_
        refine tr_getR hX 0 2 (by decide) rfl rfl rfl (by decide) gX9 wm_290 dX9_about_65 ?_
        refine tr_getNR hX 9 0 (by decide) rfl rfl rfl (by decide) gX2 wm_97 dX9_about_68 ?_
        refine tr_getNI hX 10 4 (by decide) rfl rfl rfl (by decide) gX7 wm_72 dX9_about_71 ?_
        exact tr_iret hX hR dX9_about_74
      · refine tr_split (fun hs1_3 => ?_) (fun hs1_3 => ?_)
        · refine tr_tab hX 75 hs1_3 dX9_about_1 (by decide) (by decide) rfl (by decide) ?_
          refine tr_aload_n hX 0 dX9_about_75 rfl rfl ?_
          refine tr_getR hX 0 7 (by decide) rfl rfl rfl (by decide) gX9 wm_295 dX9_about_76 ?_
          refine tr_getNI hX 28 1 (by decide) rfl rfl rfl (by decide) gX1 wm_248 dX9_about_79 ?_
          exact tr_iret hX hR dX9_about_82
        · refine tr_split (fun hs1_4 => ?_) (fun hs1_4 => ?_)
          · refine tr_tab hX 83 hs1_4 dX9_about_1 (by decide) (by decide) rfl (by decide) ?_
            refine tr_aload_n hX 0 dX9_about_83 rfl rfl ?_
            refine tr_getR hX 0 3 (by decide) rfl rfl rfl (by decide) gX9 wm_291 dX9_about_84 ?_
            refine tr_getNI hX 18 2 (by decide) rfl rfl rfl (by decide) gX0 wm_128 dX9_about_87 ?_
            exact tr_iret hX hR dX9_about_90
          · refine tr_split (fun hs1_5 => ?_) (fun hs1_5 => ?_)
            · refine tr_tab hX 91 hs1_5 dX9_about_1 (by decide) (by decide) rfl (by decide) ?_
              refine tr_aload_n hX 0 dX9_about_91 rfl rfl ?_
              refine tr_getR hX 0 3 (by decide) rfl rfl rfl (by decide) gX9 wm_291 dX9_about_92 ?_
              refine tr_getNI hX 18 3 (by decide) rfl rfl rfl (by decide) gX0 wm_130 dX9_about_95 ?_
              exact tr_iret hX hR dX9_about_98
            · refine tr_split (fun hs1_6 => ?_) (fun hs1_6 => ?_)
              · refine tr_tab hX 99 hs1_6 dX9_about_1 (by decide) (by decide) rfl (by decide) ?_
                refine tr_aload_n hX 0 dX9_about_99 rfl rfl ?_
                refine tr_getR hX 0 5 (by decide) rfl rfl rfl (by decide) gX9 wm_293 dX9_about_100 ?_
                refine tr_getNI hX 24 1 (by decide) rfl rfl rfl (by decide) gX8 wm_200 dX9_about_103 ?_
                exact tr_iret hX hR dX9_about_106
              · refine tr_split (fun hs1_7 => ?_) (fun hs1_7 => ?_)
                · refine tr_tab hX 107 hs1_7 dX9_about_1 (by decide) (by decide) rfl (by decide) ?_
                  refine tr_aload_n hX 0 dX9_about_107 rfl rfl ?_
                  refine tr_getR hX 0 2 (by decide) rfl rfl rfl (by decide) gX9 wm_290 dX9_about_108 ?_
                  refine tr_getNI hX 9 4 (by decide) rfl rfl rfl (by decide) gX2 wm_105 dX9_about_111 ?_
                  exact tr_iret hX hR dX9_about_114
                · refine tr_tabO hX 115 dX9_about_1 (by have q0 := lv_neT (a := 0) hs1_0 rfl; have q1 := lv_neT (a := 1) hs1_1 rfl; have q2 := lv_neT (a := 2) hs1_2 rfl; have q3 := lv_neT (a := 3) hs1_3 rfl; have q4 := lv_neT (a := 4) hs1_4 rfl; have q5 := lv_neT (a := 5) hs1_5 rfl; have q6 := lv_neT (a := 6) hs1_6 rfl; have q7 := lv_neT (a := 7) hs1_7 rfl; omega) (by decide) ?_
                  refine tr_iconst (v := (-1)) hX dX9_about_115 rfl ?_
                  exact tr_iret hX hR dX9_about_116
theorem c_X9_about (E : Ex) (hE : va_D (AW E) (wd E (fun _ _ => 0))) (N : Nat) (s : Hp) (x1 : Int32) (r : Int32 × Hp) (h : f_X9_about N s x1 = some r) : CtrI E yX9_about cX9_about 2 (some .int) 0 0 [rf E 0, .int x1] s r :=
  ctrI_of (by decide +kernel) hE (Nat.le_of_ble_eq_true rfl) h (fun G hX hR hG => by subst hG; exact w_X9_about hX hR hE N s x1)
set_option maxRecDepth 20000 in
set_option maxHeartbeats 2000000 in
theorem w_X10_isIn {G : Gx} (hX : ok G cX10_isIn 3 RX10 (some .boolean) 0 0) (hR : okR G) (hE : va_D (AW G.1) (wd G.1 (fun _ _ => 0))) (N : Nat) (s : Hp) (x0 x1 x2 : Int32) : T G (f_X10_isIn N s x0 x1 x2) s 0 [(0, .int x0), (1, .int x1), (2, .int x2)] [] := by
  unfold f_X10_isIn
  refine tr_iload_n hX 0 dX10_isIn_0 rfl rfl ?_
  refine tr_iload_n hX 1 dX10_isIn_1 rfl rfl ?_
  refine tr_icmp_lt hX 14 dX10_isIn_2 (by decide) ?_ ?_
  · refine tr_iconst (v := 0) hX dX10_isIn_14 rfl ?_
    exact tr_zret hX hR rfl dX10_isIn_15
  · refine tr_iload_n hX 0 dX10_isIn_5 rfl rfl ?_
    refine tr_iload_n hX 2 dX10_isIn_6 rfl rfl ?_
    refine tr_icmp_gt hX 14 dX10_isIn_7 (by decide) ?_ ?_
    · refine tr_iconst (v := 0) hX dX10_isIn_14 rfl ?_
      exact tr_zret hX hR rfl dX10_isIn_15
    · refine tr_iconst (v := 1) hX dX10_isIn_10 rfl ?_
      refine tr_goto hX 15 dX10_isIn_11 (by decide) ?_
      exact tr_zret hX hR rfl dX10_isIn_15
theorem c_X10_isIn (E : Ex) (hE : va_D (AW E) (wd E (fun _ _ => 0))) (N : Nat) (s : Hp) (x0 x1 x2 : Int32) (r : Int32 × Hp) (h : f_X10_isIn N s x0 x1 x2 = some r) : CtrI E yX10_isIn cX10_isIn 3 (some .boolean) 0 0 [.int x0, .int x1, .int x2] s r :=
  ctrI_of (by decide +kernel) hE (Nat.le_of_ble_eq_true rfl) h (fun G hX hR hG => by subst hG; exact w_X10_isIn hX hR hE N s x0 x1 x2)
set_option maxRecDepth 20000 in
set_option maxHeartbeats 2000000 in
theorem w_X10_post {G : Gx} (hX : ok G cX10_post 3 RX10 (some .int) 1 22) (hR : okR G) (hE : va_D (AW G.1) (wd G.1 (fun _ _ => 0))) (N : Nat) (s : Hp) (x1 x2 : Int32) : T G (f_X10_post N s x1 x2) s 0 [(0, rf G.1 36), (1, .int x1), (2, .int x2)] [] := by
  unfold f_X10_post
  refine tr_iload_n hX 1 dX10_post_0 rfl rfl ?_
  refine tr_iconst (v := 0) hX dX10_post_1 rfl ?_
  refine tr_bipush (v := 31) hX dX10_post_2 rfl ?_
  refine tr_callS hX [.int x1, .int 0, .int 31] ks_X10_isIn wm_809 (by decide) rfl rfl (Nat.le_of_ble_eq_true rfl) dX10_post_4 (fun vq sq hq => c_X10_isIn G.1 hE N s x1 0 31 (vq, sq) hq) fun v2 s1 => ?_
  refine tr_if_eq hX 29 dX10_post_7 (by decide) ?_ ?_
  · refine tr_iconst (v := (-1)) hX dX10_post_29 rfl ?_
    exact tr_iret hX hR dX10_post_30
  · refine tr_iload_n hX 2 dX10_post_10 rfl rfl ?_
    refine tr_iconst (v := 0) hX dX10_post_11 rfl ?_
    refine tr_bipush (v := 31) hX dX10_post_12 rfl ?_
    refine tr_callS hX [.int x2, .int 0, .int 31] ks_X10_isIn wm_809 (by decide) rfl rfl (Nat.le_of_ble_eq_true rfl) dX10_post_14 (fun vq sq hq => c_X10_isIn G.1 hE N s1 x2 0 31 (vq, sq) hq) fun v4 s3 => ?_
    refine tr_if_eq hX 29 dX10_post_17 (by decide) ?_ ?_
    · refine tr_iconst (v := (-1)) hX dX10_post_29 rfl ?_
      exact tr_iret hX hR dX10_post_30
    · refine tr_aload_n hX 0 dX10_post_20 rfl rfl ?_
      refine tr_getI hX 36 0 (by decide) rfl rfl rfl (by decide) gX10 wm_696 dX10_post_21 ?_
      refine tr_bipush (v := 6) hX dX10_post_24 rfl ?_
      refine tr_icmp_ne hX 31 dX10_post_26 (by decide) ?_ ?_
      · refine tr_aload_n hX 0 dX10_post_31 rfl rfl ?_
        refine tr_getR hX 36 1 (by decide) rfl rfl rfl (by decide) gX10 wm_697 dX10_post_32 ?_
        refine tr_aload_n hX 0 dX10_post_35 rfl rfl ?_
        refine tr_getI hX 36 0 (by decide) rfl rfl rfl (by decide) gX10 wm_696 dX10_post_36 ?_
        refine tr_iload_n hX 1 dX10_post_39 rfl rfl ?_
        refine tr_iast hX 37 (by decide) rfl dX10_post_40 fun s5 => ?_
        refine tr_aload_n hX 0 dX10_post_41 rfl rfl ?_
        refine tr_getR hX 36 2 (by decide) rfl rfl rfl (by decide) gX10 wm_698 dX10_post_42 ?_
        refine tr_aload_n hX 0 dX10_post_45 rfl rfl ?_
        refine tr_getI hX 36 0 (by decide) rfl rfl rfl (by decide) gX10 wm_696 dX10_post_46 ?_
        refine tr_iload_n hX 2 dX10_post_49 rfl rfl ?_
        refine tr_iast hX 38 (by decide) rfl dX10_post_50 fun s6 => ?_
        refine tr_aload_n hX 0 dX10_post_51 rfl rfl ?_
        refine tr_dup hX dX10_post_52 rfl ?_
        refine tr_getI hX 36 0 (by decide) rfl rfl rfl (by decide) gX10 wm_696 dX10_post_53 ?_
        refine tr_iconst (v := 1) hX dX10_post_56 rfl ?_
        refine tr_iadd hX dX10_post_57 ?_
        refine tr_putI hX 36 0 tyX10 tyX10_ok nmX10 (by decide) rfl rfl rfl (by decide) gX10 wm_696 rfl (by decide +kernel) dX10_post_58 fun s7 => ?_
        refine tr_aload_n hX 0 dX10_post_61 rfl rfl ?_
        refine tr_getI hX 36 0 (by decide) rfl rfl rfl (by decide) gX10 wm_696 dX10_post_62 ?_
        refine tr_iconst (v := 1) hX dX10_post_65 rfl ?_
        refine tr_isub hX dX10_post_66 ?_
        exact tr_iret hX hR dX10_post_67
      · refine tr_iconst (v := (-1)) hX dX10_post_29 rfl ?_
        exact tr_iret hX hR dX10_post_30
theorem c_X10_post (E : Ex) (hE : va_D (AW E) (wd E (fun _ _ => 0))) (N : Nat) (s : Hp) (x1 x2 : Int32) (r : Int32 × Hp) (h : f_X10_post N s x1 x2 = some r) : CtrI E yX10_post cX10_post 3 (some .int) 1 22 [rf E 36, .int x1, .int x2] s r :=
  ctrI_of (by decide +kernel) hE (Nat.le_of_ble_eq_true rfl) h (fun G hX hR hG => by subst hG; exact w_X10_post hX hR hE N s x1 x2)
set_option maxRecDepth 20000 in
set_option maxHeartbeats 2000000 in
theorem w_X10_isPost {G : Gx} (hX : ok G cX10_isPost 2 RX10 (some .boolean) 1 22) (hR : okR G) (hE : va_D (AW G.1) (wd G.1 (fun _ _ => 0))) (N : Nat) (s : Hp) (x1 : Int32) : T G (f_X10_isPost N s x1) s 0 [(0, rf G.1 36), (1, .int x1)] [] := by
  unfold f_X10_isPost
  refine tr_iload_n hX 1 dX10_isPost_0 rfl rfl ?_
  refine tr_iconst (v := 0) hX dX10_isPost_1 rfl ?_
  refine tr_aload_n hX 0 dX10_isPost_2 rfl rfl ?_
  refine tr_getI hX 36 0 (by decide) rfl rfl rfl (by decide) gX10 wm_696 dX10_isPost_3 ?_
  refine tr_iconst (v := 1) hX dX10_isPost_6 rfl ?_
  refine tr_isub hX dX10_isPost_7 ?_
  refine tr_callS hX [.int x1, .int 0, .int ((s 36 0) - 1)] ks_X10_isIn wm_809 (by decide) rfl rfl (Nat.le_of_ble_eq_true rfl) dX10_isPost_8 (fun vq sq hq => c_X10_isIn G.1 hE N s x1 0 ((s 36 0) - 1) (vq, sq) hq) fun v2 s1 => ?_
  exact tr_zretC hX hR dX10_isPost_11
theorem c_X10_isPost (E : Ex) (hE : va_D (AW E) (wd E (fun _ _ => 0))) (N : Nat) (s : Hp) (x1 : Int32) (r : Int32 × Hp) (h : f_X10_isPost N s x1 = some r) : CtrI E yX10_isPost cX10_isPost 2 (some .boolean) 1 22 [rf E 36, .int x1] s r :=
  ctrI_of (by decide +kernel) hE (Nat.le_of_ble_eq_true rfl) h (fun G hX hR hG => by subst hG; exact w_X10_isPost hX hR hE N s x1)
set_option maxRecDepth 20000 in
set_option maxHeartbeats 2000000 in
theorem w_X10_isSpan {G : Gx} (hX : ok G cX10_isSpan 2 RX10 (some .boolean) 1 22) (hR : okR G) (hE : va_D (AW G.1) (wd G.1 (fun _ _ => 0))) (N : Nat) (s : Hp) (x0 x1 : Int32) : T G (f_X10_isSpan N s x0 x1) s 0 [(0, .int x0), (1, .int x1)] [] := by
  unfold f_X10_isSpan
  refine tr_iload_n hX 0 dX10_isSpan_0 rfl rfl ?_
  refine tr_iconst (v := 0) hX dX10_isSpan_1 rfl ?_
  refine tr_sipush (v := 9999) hX dX10_isSpan_2 rfl ?_
  refine tr_callS hX [.int x0, .int 0, .int 9999] ks_X10_isIn wm_809 (by decide) rfl rfl (Nat.le_of_ble_eq_true rfl) dX10_isSpan_5 (fun vq sq hq => c_X10_isIn G.1 hE N s x0 0 9999 (vq, sq) hq) fun v2 s1 => ?_
  refine tr_if_eq hX 26 dX10_isSpan_8 (by decide) ?_ ?_
  · refine tr_iconst (v := 0) hX dX10_isSpan_26 rfl ?_
    exact tr_zret hX hR rfl dX10_isSpan_27
  · refine tr_iload_n hX 1 dX10_isSpan_11 rfl rfl ?_
    refine tr_iload_n hX 0 dX10_isSpan_12 rfl rfl ?_
    refine tr_sipush (v := 9999) hX dX10_isSpan_13 rfl ?_
    refine tr_callS hX [.int x1, .int x0, .int 9999] ks_X10_isIn wm_809 (by decide) rfl rfl (Nat.le_of_ble_eq_true rfl) dX10_isSpan_16 (fun vq sq hq => c_X10_isIn G.1 hE N s1 x1 x0 9999 (vq, sq) hq) fun v4 s3 => ?_
    refine tr_if_eq hX 26 dX10_isSpan_19 (by decide) ?_ ?_
    · refine tr_iconst (v := 0) hX dX10_isSpan_26 rfl ?_
      exact tr_zret hX hR rfl dX10_isSpan_27
    · refine tr_iconst (v := 1) hX dX10_isSpan_22 rfl ?_
      refine tr_goto hX 27 dX10_isSpan_23 (by decide) ?_
      exact tr_zret hX hR rfl dX10_isSpan_27
theorem c_X10_isSpan (E : Ex) (hE : va_D (AW E) (wd E (fun _ _ => 0))) (N : Nat) (s : Hp) (x0 x1 : Int32) (r : Int32 × Hp) (h : f_X10_isSpan N s x0 x1 = some r) : CtrI E yX10_isSpan cX10_isSpan 2 (some .boolean) 1 22 [.int x0, .int x1] s r :=
  ctrI_of (by decide +kernel) hE (Nat.le_of_ble_eq_true rfl) h (fun G hX hR hG => by subst hG; exact w_X10_isSpan hX hR hE N s x0 x1)
set_option maxRecDepth 20000 in
set_option maxHeartbeats 2000000 in
theorem w_X10_listened {G : Gx} (hX : ok G cX10_listened 5 RX10 (some .int) 2 43) (hR : okR G) (hE : va_D (AW G.1) (wd G.1 (fun _ _ => 0))) (N : Nat) (s : Hp) (x1 x2 x3 x4 : Int32) : T G (f_X10_listened N s x1 x2 x3 x4) s 0 [(0, rf G.1 36), (1, .int x1), (2, .int x2), (3, .int x3), (4, .int x4)] [] := by
  unfold f_X10_listened
  refine tr_aload_n hX 0 dX10_listened_0 rfl rfl ?_
  refine tr_iload_n hX 1 dX10_listened_1 rfl rfl ?_
  refine tr_callV hX 36 [.int x1] kv_X10_isPost wm_816 (by decide) rfl rfl rfl (by decide) rfl rfl (Nat.le_of_ble_eq_true rfl) dX10_listened_2 (fun vq sq hq => c_X10_isPost G.1 hE N s x1 (vq, sq) hq) fun v2 s1 => ?_
  refine tr_if_eq hX 36 dX10_listened_5 (by decide) ?_ ?_
  · refine tr_iconst (v := (-1)) hX dX10_listened_36 rfl ?_
    exact tr_iret hX hR dX10_listened_37
  · refine tr_iload_n hX 2 dX10_listened_8 rfl rfl ?_
    refine tr_iconst (v := 0) hX dX10_listened_9 rfl ?_
    refine tr_bipush (v := 15) hX dX10_listened_10 rfl ?_
    refine tr_callS hX [.int x2, .int 0, .int 15] ks_X10_isIn wm_809 (by decide) rfl rfl (Nat.le_of_ble_eq_true rfl) dX10_listened_12 (fun vq sq hq => c_X10_isIn G.1 hE N s1 x2 0 15 (vq, sq) hq) fun v4 s3 => ?_
    refine tr_if_eq hX 36 dX10_listened_15 (by decide) ?_ ?_
    · refine tr_iconst (v := (-1)) hX dX10_listened_36 rfl ?_
      exact tr_iret hX hR dX10_listened_37
    · refine tr_iload_n hX 3 dX10_listened_18 rfl rfl ?_
      refine tr_iload hX 4 dX10_listened_19 rfl ?_
      refine tr_callS hX [.int x3, .int x4] ks_X10_isSpan wm_820 (by decide) rfl rfl (Nat.le_of_ble_eq_true rfl) dX10_listened_21 (fun vq sq hq => c_X10_isSpan G.1 hE N s3 x3 x4 (vq, sq) hq) fun v6 s5 => ?_
      refine tr_if_eq hX 36 dX10_listened_24 (by decide) ?_ ?_
      · refine tr_iconst (v := (-1)) hX dX10_listened_36 rfl ?_
        exact tr_iret hX hR dX10_listened_37
      · refine tr_aload_n hX 0 dX10_listened_27 rfl rfl ?_
        refine tr_getI hX 36 3 (by decide) rfl rfl rfl (by decide) gX10 wm_699 dX10_listened_28 ?_
        refine tr_bipush (v := 100) hX dX10_listened_31 rfl ?_
        refine tr_icmp_ne hX 38 dX10_listened_33 (by decide) ?_ ?_
        · refine tr_aload_n hX 0 dX10_listened_38 rfl rfl ?_
          refine tr_getR hX 36 4 (by decide) rfl rfl rfl (by decide) gX10 wm_700 dX10_listened_39 ?_
          refine tr_aload_n hX 0 dX10_listened_42 rfl rfl ?_
          refine tr_getI hX 36 3 (by decide) rfl rfl rfl (by decide) gX10 wm_699 dX10_listened_43 ?_
          refine tr_iload_n hX 1 dX10_listened_46 rfl rfl ?_
          refine tr_iast hX 39 (by decide) rfl dX10_listened_47 fun s7 => ?_
          refine tr_aload_n hX 0 dX10_listened_48 rfl rfl ?_
          refine tr_getR hX 36 5 (by decide) rfl rfl rfl (by decide) gX10 wm_701 dX10_listened_49 ?_
          refine tr_aload_n hX 0 dX10_listened_52 rfl rfl ?_
          refine tr_getI hX 36 3 (by decide) rfl rfl rfl (by decide) gX10 wm_699 dX10_listened_53 ?_
          refine tr_iload_n hX 2 dX10_listened_56 rfl rfl ?_
          refine tr_iast hX 40 (by decide) rfl dX10_listened_57 fun s8 => ?_
          refine tr_aload_n hX 0 dX10_listened_58 rfl rfl ?_
          refine tr_getR hX 36 6 (by decide) rfl rfl rfl (by decide) gX10 wm_702 dX10_listened_59 ?_
          refine tr_aload_n hX 0 dX10_listened_62 rfl rfl ?_
          refine tr_getI hX 36 3 (by decide) rfl rfl rfl (by decide) gX10 wm_699 dX10_listened_63 ?_
          refine tr_iload_n hX 3 dX10_listened_66 rfl rfl ?_
          refine tr_iast hX 41 (by decide) rfl dX10_listened_67 fun s9 => ?_
          refine tr_aload_n hX 0 dX10_listened_68 rfl rfl ?_
          refine tr_getR hX 36 7 (by decide) rfl rfl rfl (by decide) gX10 wm_703 dX10_listened_69 ?_
          refine tr_aload_n hX 0 dX10_listened_72 rfl rfl ?_
          refine tr_getI hX 36 3 (by decide) rfl rfl rfl (by decide) gX10 wm_699 dX10_listened_73 ?_
          refine tr_iload hX 4 dX10_listened_76 rfl ?_
          refine tr_iast hX 42 (by decide) rfl dX10_listened_78 fun s10 => ?_
          refine tr_aload_n hX 0 dX10_listened_79 rfl rfl ?_
          refine tr_dup hX dX10_listened_80 rfl ?_
          refine tr_getI hX 36 3 (by decide) rfl rfl rfl (by decide) gX10 wm_699 dX10_listened_81 ?_
          refine tr_iconst (v := 1) hX dX10_listened_84 rfl ?_
          refine tr_iadd hX dX10_listened_85 ?_
          refine tr_putI hX 36 3 tyX10 tyX10_ok nmX10 (by decide) rfl rfl rfl (by decide) gX10 wm_699 rfl (by decide +kernel) dX10_listened_86 fun s11 => ?_
          refine tr_aload_n hX 0 dX10_listened_89 rfl rfl ?_
          refine tr_getI hX 36 3 (by decide) rfl rfl rfl (by decide) gX10 wm_699 dX10_listened_90 ?_
          exact tr_iret hX hR dX10_listened_93
        · refine tr_iconst (v := (-1)) hX dX10_listened_36 rfl ?_
          exact tr_iret hX hR dX10_listened_37
theorem c_X10_listened (E : Ex) (hE : va_D (AW E) (wd E (fun _ _ => 0))) (N : Nat) (s : Hp) (x1 x2 x3 x4 : Int32) (r : Int32 × Hp) (h : f_X10_listened N s x1 x2 x3 x4 = some r) : CtrI E yX10_listened cX10_listened 5 (some .int) 2 43 [rf E 36, .int x1, .int x2, .int x3, .int x4] s r :=
  ctrI_of (by decide +kernel) hE (Nat.le_of_ble_eq_true rfl) h (fun G hX hR hG => by subst hG; exact w_X10_listened hX hR hE N s x1 x2 x3 x4)
set_option maxRecDepth 20000 in
set_option maxHeartbeats 2000000 in
theorem w_X10_wasListened_61 {G : Gx} (hX : ok G cX10_wasListened 5 RX10 (some .boolean) 1 22) (hR : okR G) (hE : va_D (AW G.1) (wd G.1 (fun _ _ => 0))) (N : Nat) (k3 : Hp → Int32 → Int32 → Int32 → Int32 → Option (Int32 × Hp)) (hk3 : ∀ (s : Hp) (x1 x2 x3 x4 : Int32), T G (k3 s x1 x2 x3 x4) s 3 [(0, rf G.1 36), (1, .int x1), (2, .int x2), (3, .int x3), (4, .int x4)] []) (s : Hp) (x1 x2 x3 x4 : Int32) : T G (f_X10_wasListened_61 N k3 s x1 x2 x3 x4) s 61 [(0, rf G.1 36), (1, .int x1), (2, .int x2), (3, .int x3), (4, .int x4)] [] := by
  unfold f_X10_wasListened_61
  refine tr_iincB (b := 1) (lv2 := fun y3 => [(4, .int y3), (0, rf G.1 36), (1, .int x1), (2, .int x2), (3, .int x3)]) hX 4 dX10_wasListened_61 rfl rfl (by decide) (fun _ => rfl) fun y3 => ?_
  refine tr_goto hX 3 dX10_wasListened_64 (by decide) ?_
  refine tr_lv (lv2 := [(0, rf G.1 36), (1, .int x1), (2, .int x2), (3, .int x3), (4, .int y3)]) [1, 2, 3, 4, 0] rfl ?_
  exact hk3 s x1 x2 x3 y3
set_option maxRecDepth 20000 in
set_option maxHeartbeats 2000000 in
theorem w_X10_wasListened_27 {G : Gx} (hX : ok G cX10_wasListened 5 RX10 (some .boolean) 1 22) (hR : okR G) (hE : va_D (AW G.1) (wd G.1 (fun _ _ => 0))) (N : Nat) (k3 : Hp → Int32 → Int32 → Int32 → Int32 → Option (Int32 × Hp)) (hk3 : ∀ (s : Hp) (x1 x2 x3 x4 : Int32), T G (k3 s x1 x2 x3 x4) s 3 [(0, rf G.1 36), (1, .int x1), (2, .int x2), (3, .int x3), (4, .int x4)] []) (s : Hp) (x1 x2 x3 x4 : Int32) : T G (f_X10_wasListened_27 N k3 s x1 x2 x3 x4) s 27 [(0, rf G.1 36), (1, .int x1), (2, .int x2), (3, .int x3), (4, .int x4)] [] := by
  unfold f_X10_wasListened_27
  refine tr_aload_n hX 0 dX10_wasListened_27 rfl rfl ?_
  refine tr_getR hX 36 5 (by decide) rfl rfl rfl (by decide) gX10 wm_701 dX10_wasListened_28 ?_
  refine tr_iload hX 4 dX10_wasListened_31 rfl ?_
  refine tr_iald hX 40 (by decide) rfl dX10_wasListened_33 ?_
  refine tr_iload_n hX 2 dX10_wasListened_34 rfl rfl ?_
  refine tr_icmp_ne hX 61 dX10_wasListened_35 (by decide) ?_ ?_
  · exact w_X10_wasListened_61 hX hR hE N k3 hk3 s x1 x2 x3 x4
  · refine tr_iload_n hX 3 dX10_wasListened_38 rfl rfl ?_
    refine tr_aload_n hX 0 dX10_wasListened_39 rfl rfl ?_
    refine tr_getR hX 36 6 (by decide) rfl rfl rfl (by decide) gX10 wm_702 dX10_wasListened_40 ?_
    refine tr_iload hX 4 dX10_wasListened_43 rfl ?_
    refine tr_iald hX 41 (by decide) rfl dX10_wasListened_45 ?_
    refine tr_aload_n hX 0 dX10_wasListened_46 rfl rfl ?_
    refine tr_getR hX 36 7 (by decide) rfl rfl rfl (by decide) gX10 wm_703 dX10_wasListened_47 ?_
    refine tr_iload hX 4 dX10_wasListened_50 rfl ?_
    refine tr_iald hX 42 (by decide) rfl dX10_wasListened_52 ?_
    refine tr_callS hX [.int x3, .int (s 41 (ix x4)), .int (s 42 (ix x4))] ks_X10_isIn wm_809 (by decide) rfl rfl (Nat.le_of_ble_eq_true rfl) dX10_wasListened_53 (fun vq sq hq => c_X10_isIn G.1 hE N s x3 (s 41 (ix x4)) (s 42 (ix x4)) (vq, sq) hq) fun v2 s1 => ?_
    refine tr_if_eq hX 61 dX10_wasListened_56 (by decide) ?_ ?_
    · exact w_X10_wasListened_61 hX hR hE N k3 hk3 s1 x1 x2 x3 x4
    · refine tr_iconst (v := 1) hX dX10_wasListened_59 rfl ?_
      exact tr_zret hX hR rfl dX10_wasListened_60
set_option maxRecDepth 20000 in
set_option maxHeartbeats 2000000 in
theorem w_X10_wasListened_3 {G : Gx} (hX : ok G cX10_wasListened 5 RX10 (some .boolean) 1 22) (hR : okR G) (hE : va_D (AW G.1) (wd G.1 (fun _ _ => 0))) (N : Nat) (k3 : Hp → Int32 → Int32 → Int32 → Int32 → Option (Int32 × Hp)) (hk3 : ∀ (s : Hp) (x1 x2 x3 x4 : Int32), T G (k3 s x1 x2 x3 x4) s 3 [(0, rf G.1 36), (1, .int x1), (2, .int x2), (3, .int x3), (4, .int x4)] []) (s : Hp) (x1 x2 x3 x4 : Int32) : T G (f_X10_wasListened_3 N k3 s x1 x2 x3 x4) s 3 [(0, rf G.1 36), (1, .int x1), (2, .int x2), (3, .int x3), (4, .int x4)] [] := by
  unfold f_X10_wasListened_3
  refine tr_iload hX 4 dX10_wasListened_3 rfl ?_
  refine tr_aload_n hX 0 dX10_wasListened_5 rfl rfl ?_
  refine tr_getI hX 36 3 (by decide) rfl rfl rfl (by decide) gX10 wm_699 dX10_wasListened_6 ?_
  refine tr_icmp_ge hX 67 dX10_wasListened_9 (by decide) ?_ ?_
  · refine tr_iconst (v := 0) hX dX10_wasListened_67 rfl ?_
    exact tr_zret hX hR rfl dX10_wasListened_68
  · refine tr_iload_n hX 1 dX10_wasListened_12 rfl rfl ?_
    refine tr_if_lt hX 27 dX10_wasListened_13 (by decide) ?_ ?_
    · exact w_X10_wasListened_27 hX hR hE N k3 hk3 s x1 x2 x3 x4
    · refine tr_aload_n hX 0 dX10_wasListened_16 rfl rfl ?_
      refine tr_getR hX 36 4 (by decide) rfl rfl rfl (by decide) gX10 wm_700 dX10_wasListened_17 ?_
      refine tr_iload hX 4 dX10_wasListened_20 rfl ?_
      refine tr_iald hX 39 (by decide) rfl dX10_wasListened_22 ?_
      refine tr_iload_n hX 1 dX10_wasListened_23 rfl rfl ?_
      refine tr_icmp_ne hX 61 dX10_wasListened_24 (by decide) ?_ ?_
      · exact w_X10_wasListened_61 hX hR hE N k3 hk3 s x1 x2 x3 x4
      · exact w_X10_wasListened_27 hX hR hE N k3 hk3 s x1 x2 x3 x4
theorem wl_X10_wasListened_3 {G : Gx} (hX : ok G cX10_wasListened 5 RX10 (some .boolean) 1 22) (hR : okR G) (hE : va_D (AW G.1) (wd G.1 (fun _ _ => 0))) (N : Nat) : ∀ (n : Nat) (s : Hp) (x1 x2 x3 x4 : Int32), T G (lp (fun _ _ _ _ _ => none) (f_X10_wasListened_3 N) n s x1 x2 x3 x4) s 3 [(0, rf G.1 36), (1, .int x1), (2, .int x2), (3, .int x3), (4, .int x4)] [] := by
  intro n
  induction n with
  | zero => exact fun s x1 x2 x3 x4 h => nomatch (show (none : Option (Int32 × Hp)) = some _ from h)
  | succ n ih => exact fun s x1 x2 x3 x4 => w_X10_wasListened_3 hX hR hE N _ ih s x1 x2 x3 x4
set_option maxRecDepth 20000 in
set_option maxHeartbeats 2000000 in
theorem w_X10_wasListened {G : Gx} (hX : ok G cX10_wasListened 5 RX10 (some .boolean) 1 22) (hR : okR G) (hE : va_D (AW G.1) (wd G.1 (fun _ _ => 0))) (N : Nat) (s : Hp) (x1 x2 x3 : Int32) : T G (f_X10_wasListened N s x1 x2 x3) s 0 [(0, rf G.1 36), (1, .int x1), (2, .int x2), (3, .int x3)] [] := by
  unfold f_X10_wasListened
  refine tr_iconst (v := 0) hX dX10_wasListened_0 rfl ?_
  refine tr_istore (lv2 := [(4, .int 0), (0, rf G.1 36), (1, .int x1), (2, .int x2), (3, .int x3)]) hX dX10_wasListened_1 (by decide) rfl ?_
  refine tr_lv (lv2 := [(0, rf G.1 36), (1, .int x1), (2, .int x2), (3, .int x3), (4, .int 0)]) [1, 2, 3, 4, 0] rfl ?_
  exact wl_X10_wasListened_3 hX hR hE N N s x1 x2 x3 0
theorem c_X10_wasListened (E : Ex) (hE : va_D (AW E) (wd E (fun _ _ => 0))) (N : Nat) (s : Hp) (x1 x2 x3 : Int32) (r : Int32 × Hp) (h : f_X10_wasListened N s x1 x2 x3 = some r) : CtrI E yX10_wasListened cX10_wasListened 5 (some .boolean) 1 22 [rf E 36, .int x1, .int x2, .int x3] s r :=
  ctrI_of (by decide +kernel) hE (Nat.le_of_ble_eq_true rfl) h (fun G hX hR hG => by subst hG; exact w_X10_wasListened hX hR hE N s x1 x2 x3)
set_option maxRecDepth 20000 in
set_option maxHeartbeats 2000000 in
theorem w_X10_mark_53 {G : Gx} (hX : ok G cX10_mark 7 RX10 (some .int) 2 46) (hR : okR G) (hE : va_D (AW G.1) (wd G.1 (fun _ _ => 0))) (N : Nat) (k53 : Hp → Int32 → Int32 → Int32 → Int32 → Int32 → Int32 → Option (Int32 × Hp)) (hk53 : ∀ (s : Hp) (x1 x2 x3 x4 x5 x6 : Int32), T G (k53 s x1 x2 x3 x4 x5 x6) s 53 [(0, rf G.1 36), (1, .int x1), (2, .int x2), (3, .int x3), (4, .int x4), (5, .int x5), (6, .int x6)] []) (s : Hp) (x1 x2 x3 x4 x5 x6 : Int32) : T G (f_X10_mark_53 N k53 s x1 x2 x3 x4 x5 x6) s 53 [(0, rf G.1 36), (1, .int x1), (2, .int x2), (3, .int x3), (4, .int x4), (5, .int x5), (6, .int x6)] [] := by
  unfold f_X10_mark_53
  refine tr_iload hX 6 dX10_mark_53 rfl ?_
  refine tr_iload hX 4 dX10_mark_55 rfl ?_
  refine tr_icmp_gt hX 79 dX10_mark_57 (by decide) ?_ ?_
  · refine tr_aload_n hX 0 dX10_mark_79 rfl rfl ?_
    refine tr_getR hX 36 9 (by decide) rfl rfl rfl (by decide) gX10 wm_705 dX10_mark_80 ?_
    refine tr_aload_n hX 0 dX10_mark_83 rfl rfl ?_
    refine tr_getI hX 36 8 (by decide) rfl rfl rfl (by decide) gX10 wm_704 dX10_mark_84 ?_
    refine tr_iload_n hX 1 dX10_mark_87 rfl rfl ?_
    refine tr_iast hX 43 (by decide) rfl dX10_mark_88 fun s9 => ?_
    refine tr_aload_n hX 0 dX10_mark_89 rfl rfl ?_
    refine tr_getR hX 36 10 (by decide) rfl rfl rfl (by decide) gX10 wm_706 dX10_mark_90 ?_
    refine tr_aload_n hX 0 dX10_mark_93 rfl rfl ?_
    refine tr_getI hX 36 8 (by decide) rfl rfl rfl (by decide) gX10 wm_704 dX10_mark_94 ?_
    refine tr_iload_n hX 2 dX10_mark_97 rfl rfl ?_
    refine tr_iast hX 44 (by decide) rfl dX10_mark_98 fun s10 => ?_
    refine tr_aload_n hX 0 dX10_mark_99 rfl rfl ?_
    refine tr_getR hX 36 11 (by decide) rfl rfl rfl (by decide) gX10 wm_707 dX10_mark_100 ?_
    refine tr_aload_n hX 0 dX10_mark_103 rfl rfl ?_
    refine tr_getI hX 36 8 (by decide) rfl rfl rfl (by decide) gX10 wm_704 dX10_mark_104 ?_
    refine tr_iload_n hX 3 dX10_mark_107 rfl rfl ?_
    refine tr_iast hX 45 (by decide) rfl dX10_mark_108 fun s11 => ?_
    refine tr_aload_n hX 0 dX10_mark_109 rfl rfl ?_
    refine tr_getR hX 36 12 (by decide) rfl rfl rfl (by decide) gX10 wm_708 dX10_mark_110 ?_
    refine tr_aload_n hX 0 dX10_mark_113 rfl rfl ?_
    refine tr_getI hX 36 8 (by decide) rfl rfl rfl (by decide) gX10 wm_704 dX10_mark_114 ?_
    refine tr_iload hX 4 dX10_mark_117 rfl ?_
    refine tr_iast hX 46 (by decide) rfl dX10_mark_119 fun s12 => ?_
    refine tr_aload_n hX 0 dX10_mark_120 rfl rfl ?_
    refine tr_getR hX 36 13 (by decide) rfl rfl rfl (by decide) gX10 wm_709 dX10_mark_121 ?_
    refine tr_aload_n hX 0 dX10_mark_124 rfl rfl ?_
    refine tr_getI hX 36 8 (by decide) rfl rfl rfl (by decide) gX10 wm_704 dX10_mark_125 ?_
    refine tr_iload hX 5 dX10_mark_128 rfl ?_
    refine tr_iast hX 47 (by decide) rfl dX10_mark_130 fun s13 => ?_
    refine tr_aload_n hX 0 dX10_mark_131 rfl rfl ?_
    refine tr_dup hX dX10_mark_132 rfl ?_
    refine tr_getI hX 36 8 (by decide) rfl rfl rfl (by decide) gX10 wm_704 dX10_mark_133 ?_
    refine tr_iconst (v := 1) hX dX10_mark_136 rfl ?_
    refine tr_iadd hX dX10_mark_137 ?_
    refine tr_putI hX 36 8 tyX10 tyX10_ok nmX10 (by decide) rfl rfl rfl (by decide) gX10 wm_704 rfl (by decide +kernel) dX10_mark_138 fun s14 => ?_
    refine tr_aload_n hX 0 dX10_mark_141 rfl rfl ?_
    refine tr_getI hX 36 8 (by decide) rfl rfl rfl (by decide) gX10 wm_704 dX10_mark_142 ?_
    refine tr_iconst (v := 1) hX dX10_mark_145 rfl ?_
    refine tr_isub hX dX10_mark_146 ?_
    exact tr_iret hX hR dX10_mark_147
  · refine tr_aload_n hX 0 dX10_mark_60 rfl rfl ?_
    refine tr_iload_n hX 1 dX10_mark_61 rfl rfl ?_
    refine tr_iload_n hX 2 dX10_mark_62 rfl rfl ?_
    refine tr_iload hX 6 dX10_mark_63 rfl ?_
    refine tr_callV hX 36 [.int x1, .int x2, .int x6] kv_X10_wasListened wm_827 (by decide) rfl rfl rfl (by decide) rfl rfl (Nat.le_of_ble_eq_true rfl) dX10_mark_65 (fun vq sq hq => c_X10_wasListened G.1 hE N s x1 x2 x6 (vq, sq) hq) fun v16 s15 => ?_
    refine tr_if_ne hX 73 dX10_mark_68 (by decide) ?_ ?_
    · refine tr_iincB (b := 1) (lv2 := fun y17 => [(6, .int y17), (0, rf G.1 36), (1, .int x1), (2, .int x2), (3, .int x3), (4, .int x4), (5, .int x5)]) hX 6 dX10_mark_73 rfl rfl (by decide) (fun _ => rfl) fun y17 => ?_
      refine tr_goto hX 53 dX10_mark_76 (by decide) ?_
      refine tr_lv (lv2 := [(0, rf G.1 36), (1, .int x1), (2, .int x2), (3, .int x3), (4, .int x4), (5, .int x5), (6, .int y17)]) [1, 2, 3, 4, 5, 6, 0] rfl ?_
      exact hk53 s15 x1 x2 x3 x4 x5 y17
    · refine tr_iconst (v := (-1)) hX dX10_mark_71 rfl ?_
      exact tr_iret hX hR dX10_mark_72
theorem wl_X10_mark_53 {G : Gx} (hX : ok G cX10_mark 7 RX10 (some .int) 2 46) (hR : okR G) (hE : va_D (AW G.1) (wd G.1 (fun _ _ => 0))) (N : Nat) : ∀ (n : Nat) (s : Hp) (x1 x2 x3 x4 x5 x6 : Int32), T G (lp (fun _ _ _ _ _ _ _ => none) (f_X10_mark_53 N) n s x1 x2 x3 x4 x5 x6) s 53 [(0, rf G.1 36), (1, .int x1), (2, .int x2), (3, .int x3), (4, .int x4), (5, .int x5), (6, .int x6)] [] := by
  intro n
  induction n with
  | zero => exact fun s x1 x2 x3 x4 x5 x6 h => nomatch (show (none : Option (Int32 × Hp)) = some _ from h)
  | succ n ih => exact fun s x1 x2 x3 x4 x5 x6 => w_X10_mark_53 hX hR hE N _ ih s x1 x2 x3 x4 x5 x6
set_option maxRecDepth 20000 in
set_option maxHeartbeats 2000000 in
theorem w_X10_mark {G : Gx} (hX : ok G cX10_mark 7 RX10 (some .int) 2 46) (hR : okR G) (hE : va_D (AW G.1) (wd G.1 (fun _ _ => 0))) (N : Nat) (s : Hp) (x1 x2 x3 x4 x5 : Int32) : T G (f_X10_mark N s x1 x2 x3 x4 x5) s 0 [(0, rf G.1 36), (1, .int x1), (2, .int x2), (3, .int x3), (4, .int x4), (5, .int x5)] [] := by
  unfold f_X10_mark
  refine tr_aload_n hX 0 dX10_mark_0 rfl rfl ?_
  refine tr_iload_n hX 1 dX10_mark_1 rfl rfl ?_
  refine tr_callV hX 36 [.int x1] kv_X10_isPost wm_816 (by decide) rfl rfl rfl (by decide) rfl rfl (Nat.le_of_ble_eq_true rfl) dX10_mark_2 (fun vq sq hq => c_X10_isPost G.1 hE N s x1 (vq, sq) hq) fun v2 s1 => ?_
  refine tr_if_eq hX 48 dX10_mark_5 (by decide) ?_ ?_
  · refine tr_iconst (v := (-1)) hX dX10_mark_48 rfl ?_
    exact tr_iret hX hR dX10_mark_49
  · refine tr_iload_n hX 2 dX10_mark_8 rfl rfl ?_
    refine tr_iconst (v := 0) hX dX10_mark_9 rfl ?_
    refine tr_bipush (v := 15) hX dX10_mark_10 rfl ?_
    refine tr_callS hX [.int x2, .int 0, .int 15] ks_X10_isIn wm_809 (by decide) rfl rfl (Nat.le_of_ble_eq_true rfl) dX10_mark_12 (fun vq sq hq => c_X10_isIn G.1 hE N s1 x2 0 15 (vq, sq) hq) fun v4 s3 => ?_
    refine tr_if_eq hX 48 dX10_mark_15 (by decide) ?_ ?_
    · refine tr_iconst (v := (-1)) hX dX10_mark_48 rfl ?_
      exact tr_iret hX hR dX10_mark_49
    · refine tr_iload_n hX 3 dX10_mark_18 rfl rfl ?_
      refine tr_iload hX 4 dX10_mark_19 rfl ?_
      refine tr_callS hX [.int x3, .int x4] ks_X10_isSpan wm_820 (by decide) rfl rfl (Nat.le_of_ble_eq_true rfl) dX10_mark_21 (fun vq sq hq => c_X10_isSpan G.1 hE N s3 x3 x4 (vq, sq) hq) fun v6 s5 => ?_
      refine tr_if_eq hX 48 dX10_mark_24 (by decide) ?_ ?_
      · refine tr_iconst (v := (-1)) hX dX10_mark_48 rfl ?_
        exact tr_iret hX hR dX10_mark_49
      · refine tr_iload hX 5 dX10_mark_27 rfl ?_
        refine tr_iconst (v := 0) hX dX10_mark_29 rfl ?_
        refine tr_sipush (v := 999) hX dX10_mark_30 rfl ?_
        refine tr_callS hX [.int x5, .int 0, .int 999] ks_X10_isIn wm_809 (by decide) rfl rfl (Nat.le_of_ble_eq_true rfl) dX10_mark_33 (fun vq sq hq => c_X10_isIn G.1 hE N s5 x5 0 999 (vq, sq) hq) fun v8 s7 => ?_
        refine tr_if_eq hX 48 dX10_mark_36 (by decide) ?_ ?_
        · refine tr_iconst (v := (-1)) hX dX10_mark_48 rfl ?_
          exact tr_iret hX hR dX10_mark_49
        · refine tr_aload_n hX 0 dX10_mark_39 rfl rfl ?_
          refine tr_getI hX 36 8 (by decide) rfl rfl rfl (by decide) gX10 wm_704 dX10_mark_40 ?_
          refine tr_bipush (v := 60) hX dX10_mark_43 rfl ?_
          refine tr_icmp_ne hX 50 dX10_mark_45 (by decide) ?_ ?_
          · refine tr_iload_n hX 3 dX10_mark_50 rfl rfl ?_
            refine tr_istore (lv2 := [(6, .int x3), (0, rf G.1 36), (1, .int x1), (2, .int x2), (3, .int x3), (4, .int x4), (5, .int x5)]) hX dX10_mark_51 (by decide) rfl ?_
            refine tr_lv (lv2 := [(0, rf G.1 36), (1, .int x1), (2, .int x2), (3, .int x3), (4, .int x4), (5, .int x5), (6, .int x3)]) [1, 2, 3, 4, 5, 6, 0] rfl ?_
            exact wl_X10_mark_53 hX hR hE N N s7 x1 x2 x3 x4 x5 x3
          · refine tr_iconst (v := (-1)) hX dX10_mark_48 rfl ?_
            exact tr_iret hX hR dX10_mark_49
theorem c_X10_mark (E : Ex) (hE : va_D (AW E) (wd E (fun _ _ => 0))) (N : Nat) (s : Hp) (x1 x2 x3 x4 x5 : Int32) (r : Int32 × Hp) (h : f_X10_mark N s x1 x2 x3 x4 x5 = some r) : CtrI E yX10_mark cX10_mark 7 (some .int) 2 46 [rf E 36, .int x1, .int x2, .int x3, .int x4, .int x5] s r :=
  ctrI_of (by decide +kernel) hE (Nat.le_of_ble_eq_true rfl) h (fun G hX hR hG => by subst hG; exact w_X10_mark hX hR hE N s x1 x2 x3 x4 x5)
set_option maxRecDepth 20000 in
set_option maxHeartbeats 2000000 in
theorem w_X10_isWay_30 {G : Gx} (hX : ok G cX10_isWay 2 RX10 (some .boolean) 1 22) (hR : okR G) (hE : va_D (AW G.1) (wd G.1 (fun _ _ => 0))) (N : Nat) (s : Hp) : T G (f_X10_isWay_30 N s) s 30 [] [] := by
  unfold f_X10_isWay_30
  refine tr_iconst (v := 1) hX dX10_isWay_30 rfl ?_
  refine tr_goto hX 35 dX10_isWay_31 (by decide) ?_
  exact tr_zret hX hR rfl dX10_isWay_35
set_option maxRecDepth 20000 in
set_option maxHeartbeats 2000000 in
theorem w_X10_isWay {G : Gx} (hX : ok G cX10_isWay 2 RX10 (some .boolean) 1 22) (hR : okR G) (hE : va_D (AW G.1) (wd G.1 (fun _ _ => 0))) (N : Nat) (s : Hp) (x0 x1 : Int32) : T G (f_X10_isWay N s x0 x1) s 0 [(0, .int x0), (1, .int x1)] [] := by
  unfold f_X10_isWay
  refine tr_iload_n hX 0 dX10_isWay_0 rfl rfl ?_
  refine tr_bipush (v := (-100)) hX dX10_isWay_1 rfl ?_
  refine tr_bipush (v := 100) hX dX10_isWay_3 rfl ?_
  refine tr_callS hX [.int x0, .int (-100), .int 100] ks_X10_isIn wm_809 (by decide) rfl rfl (Nat.le_of_ble_eq_true rfl) dX10_isWay_5 (fun vq sq hq => c_X10_isIn G.1 hE N s x0 (-100) 100 (vq, sq) hq) fun v2 s1 => ?_
  refine tr_if_eq hX 34 dX10_isWay_8 (by decide) ?_ ?_
  · refine tr_iconst (v := 0) hX dX10_isWay_34 rfl ?_
    exact tr_zret hX hR rfl dX10_isWay_35
  · refine tr_iload_n hX 1 dX10_isWay_11 rfl rfl ?_
    refine tr_bipush (v := (-100)) hX dX10_isWay_12 rfl ?_
    refine tr_bipush (v := 100) hX dX10_isWay_14 rfl ?_
    refine tr_callS hX [.int x1, .int (-100), .int 100] ks_X10_isIn wm_809 (by decide) rfl rfl (Nat.le_of_ble_eq_true rfl) dX10_isWay_16 (fun vq sq hq => c_X10_isIn G.1 hE N s1 x1 (-100) 100 (vq, sq) hq) fun v4 s3 => ?_
    refine tr_if_eq hX 34 dX10_isWay_19 (by decide) ?_ ?_
    · refine tr_iconst (v := 0) hX dX10_isWay_34 rfl ?_
      exact tr_zret hX hR rfl dX10_isWay_35
    · refine tr_iload_n hX 0 dX10_isWay_22 rfl rfl ?_
      refine tr_if_ne hX 30 dX10_isWay_23 (by decide) ?_ ?_
      · refine tr_lv (lv2 := []) [] rfl ?_
        exact w_X10_isWay_30 hX hR hE N s3
      · refine tr_iload_n hX 1 dX10_isWay_26 rfl rfl ?_
        refine tr_if_eq hX 34 dX10_isWay_27 (by decide) ?_ ?_
        · refine tr_iconst (v := 0) hX dX10_isWay_34 rfl ?_
          exact tr_zret hX hR rfl dX10_isWay_35
        · refine tr_lv (lv2 := []) [] rfl ?_
          exact w_X10_isWay_30 hX hR hE N s3
theorem c_X10_isWay (E : Ex) (hE : va_D (AW E) (wd E (fun _ _ => 0))) (N : Nat) (s : Hp) (x0 x1 : Int32) (r : Int32 × Hp) (h : f_X10_isWay N s x0 x1 = some r) : CtrI E yX10_isWay cX10_isWay 2 (some .boolean) 1 22 [.int x0, .int x1] s r :=
  ctrI_of (by decide +kernel) hE (Nat.le_of_ble_eq_true rfl) h (fun G hX hR hG => by subst hG; exact w_X10_isWay hX hR hE N s x0 x1)
set_option maxRecDepth 20000 in
set_option maxHeartbeats 2000000 in
theorem w_X10_wedge {G : Gx} (hX : ok G cX10_wedge 6 RX10 (some .boolean) 2 43) (hR : okR G) (hE : va_D (AW G.1) (wd G.1 (fun _ _ => 0))) (N : Nat) (s : Hp) (x1 x2 x3 x4 x5 : Int32) : T G (f_X10_wedge N s x1 x2 x3 x4 x5) s 0 [(0, rf G.1 36), (1, .int x1), (2, .int x2), (3, .int x3), (4, .int x4), (5, .int x5)] [] := by
  unfold f_X10_wedge
  refine tr_iload_n hX 1 dX10_wedge_0 rfl rfl ?_
  refine tr_iconst (v := 0) hX dX10_wedge_1 rfl ?_
  refine tr_aload_n hX 0 dX10_wedge_2 rfl rfl ?_
  refine tr_getI hX 36 8 (by decide) rfl rfl rfl (by decide) gX10 wm_704 dX10_wedge_3 ?_
  refine tr_iconst (v := 1) hX dX10_wedge_6 rfl ?_
  refine tr_isub hX dX10_wedge_7 ?_
  refine tr_callS hX [.int x1, .int 0, .int ((s 36 8) - 1)] ks_X10_isIn wm_809 (by decide) rfl rfl (Nat.le_of_ble_eq_true rfl) dX10_wedge_8 (fun vq sq hq => c_X10_isIn G.1 hE N s x1 0 ((s 36 8) - 1) (vq, sq) hq) fun v2 s1 => ?_
  refine tr_if_eq hX 44 dX10_wedge_11 (by decide) ?_ ?_
  · refine tr_iconst (v := 0) hX dX10_wedge_44 rfl ?_
    exact tr_zret hX hR rfl dX10_wedge_45
  · refine tr_iload_n hX 2 dX10_wedge_14 rfl rfl ?_
    refine tr_iload_n hX 3 dX10_wedge_15 rfl rfl ?_
    refine tr_callS hX [.int x2, .int x3] ks_X10_isWay wm_835 (by decide) rfl rfl (Nat.le_of_ble_eq_true rfl) dX10_wedge_16 (fun vq sq hq => c_X10_isWay G.1 hE N s1 x2 x3 (vq, sq) hq) fun v4 s3 => ?_
    refine tr_if_eq hX 44 dX10_wedge_19 (by decide) ?_ ?_
    · refine tr_iconst (v := 0) hX dX10_wedge_44 rfl ?_
      exact tr_zret hX hR rfl dX10_wedge_45
    · refine tr_iload hX 4 dX10_wedge_22 rfl ?_
      refine tr_iload hX 5 dX10_wedge_24 rfl ?_
      refine tr_callS hX [.int x4, .int x5] ks_X10_isWay wm_835 (by decide) rfl rfl (Nat.le_of_ble_eq_true rfl) dX10_wedge_26 (fun vq sq hq => c_X10_isWay G.1 hE N s3 x4 x5 (vq, sq) hq) fun v6 s5 => ?_
      refine tr_if_eq hX 44 dX10_wedge_29 (by decide) ?_ ?_
      · refine tr_iconst (v := 0) hX dX10_wedge_44 rfl ?_
        exact tr_zret hX hR rfl dX10_wedge_45
      · refine tr_iload_n hX 2 dX10_wedge_32 rfl rfl ?_
        refine tr_iload hX 5 dX10_wedge_33 rfl ?_
        refine tr_imul hX dX10_wedge_35 ?_
        refine tr_iload_n hX 3 dX10_wedge_36 rfl rfl ?_
        refine tr_iload hX 4 dX10_wedge_37 rfl ?_
        refine tr_imul hX dX10_wedge_39 ?_
        refine tr_isub hX dX10_wedge_40 ?_
        refine tr_if_gt hX 46 dX10_wedge_41 (by decide) ?_ ?_
        · refine tr_aload_n hX 0 dX10_wedge_46 rfl rfl ?_
          refine tr_getR hX 36 14 (by decide) rfl rfl rfl (by decide) gX10 wm_710 dX10_wedge_47 ?_
          refine tr_iload_n hX 1 dX10_wedge_50 rfl rfl ?_
          refine tr_iconst (v := 1) hX dX10_wedge_51 rfl ?_
          refine tr_zast hX 48 (by decide) rfl rfl dX10_wedge_52 fun s7 => ?_
          refine tr_aload_n hX 0 dX10_wedge_53 rfl rfl ?_
          refine tr_getR hX 36 15 (by decide) rfl rfl rfl (by decide) gX10 wm_711 dX10_wedge_54 ?_
          refine tr_iconst (v := 4) hX dX10_wedge_57 rfl ?_
          refine tr_iload_n hX 1 dX10_wedge_58 rfl rfl ?_
          refine tr_imul hX dX10_wedge_59 ?_
          refine tr_iload_n hX 2 dX10_wedge_60 rfl rfl ?_
          refine tr_iast hX 49 (by decide) rfl dX10_wedge_61 fun s8 => ?_
          refine tr_aload_n hX 0 dX10_wedge_62 rfl rfl ?_
          refine tr_getR hX 36 15 (by decide) rfl rfl rfl (by decide) gX10 wm_711 dX10_wedge_63 ?_
          refine tr_iconst (v := 4) hX dX10_wedge_66 rfl ?_
          refine tr_iload_n hX 1 dX10_wedge_67 rfl rfl ?_
          refine tr_imul hX dX10_wedge_68 ?_
          refine tr_iconst (v := 1) hX dX10_wedge_69 rfl ?_
          refine tr_iadd hX dX10_wedge_70 ?_
          refine tr_iload_n hX 3 dX10_wedge_71 rfl rfl ?_
          refine tr_iast hX 49 (by decide) rfl dX10_wedge_72 fun s9 => ?_
          refine tr_aload_n hX 0 dX10_wedge_73 rfl rfl ?_
          refine tr_getR hX 36 15 (by decide) rfl rfl rfl (by decide) gX10 wm_711 dX10_wedge_74 ?_
          refine tr_iconst (v := 4) hX dX10_wedge_77 rfl ?_
          refine tr_iload_n hX 1 dX10_wedge_78 rfl rfl ?_
          refine tr_imul hX dX10_wedge_79 ?_
          refine tr_iconst (v := 2) hX dX10_wedge_80 rfl ?_
          refine tr_iadd hX dX10_wedge_81 ?_
          refine tr_iload hX 4 dX10_wedge_82 rfl ?_
          refine tr_iast hX 49 (by decide) rfl dX10_wedge_84 fun s10 => ?_
          refine tr_aload_n hX 0 dX10_wedge_85 rfl rfl ?_
          refine tr_getR hX 36 15 (by decide) rfl rfl rfl (by decide) gX10 wm_711 dX10_wedge_86 ?_
          refine tr_iconst (v := 4) hX dX10_wedge_89 rfl ?_
          refine tr_iload_n hX 1 dX10_wedge_90 rfl rfl ?_
          refine tr_imul hX dX10_wedge_91 ?_
          refine tr_iconst (v := 3) hX dX10_wedge_92 rfl ?_
          refine tr_iadd hX dX10_wedge_93 ?_
          refine tr_iload hX 5 dX10_wedge_94 rfl ?_
          refine tr_iast hX 49 (by decide) rfl dX10_wedge_96 fun s11 => ?_
          refine tr_iconst (v := 1) hX dX10_wedge_97 rfl ?_
          exact tr_zret hX hR rfl dX10_wedge_98
        · refine tr_iconst (v := 0) hX dX10_wedge_44 rfl ?_
          exact tr_zret hX hR rfl dX10_wedge_45
theorem c_X10_wedge (E : Ex) (hE : va_D (AW E) (wd E (fun _ _ => 0))) (N : Nat) (s : Hp) (x1 x2 x3 x4 x5 : Int32) (r : Int32 × Hp) (h : f_X10_wedge N s x1 x2 x3 x4 x5 = some r) : CtrI E yX10_wedge cX10_wedge 6 (some .boolean) 2 43 [rf E 36, .int x1, .int x2, .int x3, .int x4, .int x5] s r :=
  ctrI_of (by decide +kernel) hE (Nat.le_of_ble_eq_true rfl) h (fun G hX hR hG => by subst hG; exact w_X10_wedge hX hR hE N s x1 x2 x3 x4 x5)
set_option maxRecDepth 20000 in
set_option maxHeartbeats 2000000 in
theorem w_X10_joins {G : Gx} (hX : ok G cX10_joins 3 RX10 (some .boolean) 1 22) (hR : okR G) (hE : va_D (AW G.1) (wd G.1 (fun _ _ => 0))) (N : Nat) (s : Hp) (x1 x2 : Int32) : T G (f_X10_joins N s x1 x2) s 0 [(0, rf G.1 36), (1, .int x1), (2, .int x2)] [] := by
  unfold f_X10_joins
  refine tr_iload_n hX 1 dX10_joins_0 rfl rfl ?_
  refine tr_iconst (v := 0) hX dX10_joins_1 rfl ?_
  refine tr_bipush (v := 99) hX dX10_joins_2 rfl ?_
  refine tr_callS hX [.int x1, .int 0, .int 99] ks_X10_isIn wm_809 (by decide) rfl rfl (Nat.le_of_ble_eq_true rfl) dX10_joins_4 (fun vq sq hq => c_X10_isIn G.1 hE N s x1 0 99 (vq, sq) hq) fun v2 s1 => ?_
  refine tr_if_eq hX 21 dX10_joins_7 (by decide) ?_ ?_
  · refine tr_iconst (v := 0) hX dX10_joins_21 rfl ?_
    exact tr_zret hX hR rfl dX10_joins_22
  · refine tr_iload_n hX 2 dX10_joins_10 rfl rfl ?_
    refine tr_iconst (v := 0) hX dX10_joins_11 rfl ?_
    refine tr_sipush (v := 999) hX dX10_joins_12 rfl ?_
    refine tr_callS hX [.int x2, .int 0, .int 999] ks_X10_isIn wm_809 (by decide) rfl rfl (Nat.le_of_ble_eq_true rfl) dX10_joins_15 (fun vq sq hq => c_X10_isIn G.1 hE N s1 x2 0 999 (vq, sq) hq) fun v4 s3 => ?_
    refine tr_if_ne hX 23 dX10_joins_18 (by decide) ?_ ?_
    · refine tr_aload_n hX 0 dX10_joins_23 rfl rfl ?_
      refine tr_iload_n hX 1 dX10_joins_24 rfl rfl ?_
      refine tr_putI hX 36 16 tyX10 tyX10_ok nmX10 (by decide) rfl rfl rfl (by decide) gX10 wm_712 rfl (by decide +kernel) dX10_joins_25 fun s5 => ?_
      refine tr_aload_n hX 0 dX10_joins_28 rfl rfl ?_
      refine tr_iload_n hX 2 dX10_joins_29 rfl rfl ?_
      refine tr_putI hX 36 17 tyX10 tyX10_ok nmX10 (by decide) rfl rfl rfl (by decide) gX10 wm_713 rfl (by decide +kernel) dX10_joins_30 fun s6 => ?_
      refine tr_iconst (v := 1) hX dX10_joins_33 rfl ?_
      exact tr_zret hX hR rfl dX10_joins_34
    · refine tr_iconst (v := 0) hX dX10_joins_21 rfl ?_
      exact tr_zret hX hR rfl dX10_joins_22
theorem c_X10_joins (E : Ex) (hE : va_D (AW E) (wd E (fun _ _ => 0))) (N : Nat) (s : Hp) (x1 x2 : Int32) (r : Int32 × Hp) (h : f_X10_joins N s x1 x2 = some r) : CtrI E yX10_joins cX10_joins 3 (some .boolean) 1 22 [rf E 36, .int x1, .int x2] s r :=
  ctrI_of (by decide +kernel) hE (Nat.le_of_ble_eq_true rfl) h (fun G hX hR hG => by subst hG; exact w_X10_joins hX hR hE N s x1 x2)
set_option maxRecDepth 20000 in
set_option maxHeartbeats 2000000 in
theorem w_X10_isJoin_44 {G : Gx} (hX : ok G cX10_isJoin 4 RX10 (some .boolean) 0 0) (hR : okR G) (hE : va_D (AW G.1) (wd G.1 (fun _ _ => 0))) (N : Nat) (s : Hp) (x1 x2 t0 : Int32) : T G (f_X10_isJoin_44 N s x1 x2 t0) s 44 [(0, rf G.1 36), (1, .int x1), (2, .int x2)] [.int t0] := by
  unfold f_X10_isJoin_44
  refine tr_istore_n (lv2 := [(3, .int t0), (0, rf G.1 36), (1, .int x1), (2, .int x2)]) hX dX10_isJoin_44 rfl (by decide) rfl ?_
  refine tr_aload_n hX 1 dX10_isJoin_45 rfl rfl ?_
  refine tr_getR hX 36 10 (by decide) rfl rfl rfl (by decide) gX10 wm_706 dX10_isJoin_46 ?_
  refine tr_iload_n hX 2 dX10_isJoin_49 rfl rfl ?_
  refine tr_iald hX 44 (by decide) rfl dX10_isJoin_50 ?_
  refine tr_aload_n hX 1 dX10_isJoin_51 rfl rfl ?_
  refine tr_getR hX 36 10 (by decide) rfl rfl rfl (by decide) gX10 wm_706 dX10_isJoin_52 ?_
  refine tr_iload_n hX 3 dX10_isJoin_55 rfl rfl ?_
  refine tr_iald hX 44 (by decide) rfl dX10_isJoin_56 ?_
  refine tr_icmp_ne hX 112 dX10_isJoin_57 (by decide) ?_ ?_
  · refine tr_iconst (v := 0) hX dX10_isJoin_112 rfl ?_
    exact tr_zret hX hR rfl dX10_isJoin_113
  · refine tr_iload_n hX 0 dX10_isJoin_60 rfl rfl ?_
    refine tr_aload_n hX 1 dX10_isJoin_61 rfl rfl ?_
    refine tr_getI hX 36 16 (by decide) rfl rfl rfl (by decide) gX10 wm_712 dX10_isJoin_62 ?_
    refine tr_icmp_gt hX 112 dX10_isJoin_65 (by decide) ?_ ?_
    · refine tr_iconst (v := 0) hX dX10_isJoin_112 rfl ?_
      exact tr_zret hX hR rfl dX10_isJoin_113
    · refine tr_aload_n hX 1 dX10_isJoin_68 rfl rfl ?_
      refine tr_getR hX 36 11 (by decide) rfl rfl rfl (by decide) gX10 wm_707 dX10_isJoin_69 ?_
      refine tr_iload_n hX 3 dX10_isJoin_72 rfl rfl ?_
      refine tr_iald hX 45 (by decide) rfl dX10_isJoin_73 ?_
      refine tr_aload_n hX 1 dX10_isJoin_74 rfl rfl ?_
      refine tr_getR hX 36 12 (by decide) rfl rfl rfl (by decide) gX10 wm_708 dX10_isJoin_75 ?_
      refine tr_iload_n hX 2 dX10_isJoin_78 rfl rfl ?_
      refine tr_iald hX 46 (by decide) rfl dX10_isJoin_79 ?_
      refine tr_isub hX dX10_isJoin_80 ?_
      refine tr_aload_n hX 1 dX10_isJoin_81 rfl rfl ?_
      refine tr_getI hX 36 17 (by decide) rfl rfl rfl (by decide) gX10 wm_713 dX10_isJoin_82 ?_
      refine tr_icmp_gt hX 112 dX10_isJoin_85 (by decide) ?_ ?_
      · refine tr_iconst (v := 0) hX dX10_isJoin_112 rfl ?_
        exact tr_zret hX hR rfl dX10_isJoin_113
      · refine tr_aload_n hX 1 dX10_isJoin_88 rfl rfl ?_
        refine tr_getR hX 36 11 (by decide) rfl rfl rfl (by decide) gX10 wm_707 dX10_isJoin_89 ?_
        refine tr_iload_n hX 2 dX10_isJoin_92 rfl rfl ?_
        refine tr_iald hX 45 (by decide) rfl dX10_isJoin_93 ?_
        refine tr_aload_n hX 1 dX10_isJoin_94 rfl rfl ?_
        refine tr_getR hX 36 12 (by decide) rfl rfl rfl (by decide) gX10 wm_708 dX10_isJoin_95 ?_
        refine tr_iload_n hX 3 dX10_isJoin_98 rfl rfl ?_
        refine tr_iald hX 46 (by decide) rfl dX10_isJoin_99 ?_
        refine tr_isub hX dX10_isJoin_100 ?_
        refine tr_aload_n hX 1 dX10_isJoin_101 rfl rfl ?_
        refine tr_getI hX 36 17 (by decide) rfl rfl rfl (by decide) gX10 wm_713 dX10_isJoin_102 ?_
        refine tr_icmp_gt hX 112 dX10_isJoin_105 (by decide) ?_ ?_
        · refine tr_iconst (v := 0) hX dX10_isJoin_112 rfl ?_
          exact tr_zret hX hR rfl dX10_isJoin_113
        · refine tr_iconst (v := 1) hX dX10_isJoin_108 rfl ?_
          refine tr_goto hX 113 dX10_isJoin_109 (by decide) ?_
          exact tr_zret hX hR rfl dX10_isJoin_113
set_option maxRecDepth 20000 in
set_option maxHeartbeats 2000000 in
theorem w_X10_isJoin {G : Gx} (hX : ok G cX10_isJoin 4 RX10 (some .boolean) 0 0) (hR : okR G) (hE : va_D (AW G.1) (wd G.1 (fun _ _ => 0))) (N : Nat) (s : Hp) (x1 x2 : Int32) : T G (f_X10_isJoin N s x1 x2) s 0 [(0, rf G.1 36), (1, .int x1), (2, .int x2)] [] := by
  unfold f_X10_isJoin
  refine tr_aload_n hX 0 dX10_isJoin_0 rfl rfl ?_
  refine tr_getR hX 36 13 (by decide) rfl rfl rfl (by decide) gX10 wm_709 dX10_isJoin_1 ?_
  refine tr_iload_n hX 1 dX10_isJoin_4 rfl rfl ?_
  refine tr_iald hX 47 (by decide) rfl dX10_isJoin_5 ?_
  refine tr_aload_n hX 0 dX10_isJoin_6 rfl rfl ?_
  refine tr_getR hX 36 13 (by decide) rfl rfl rfl (by decide) gX10 wm_709 dX10_isJoin_7 ?_
  refine tr_iload_n hX 2 dX10_isJoin_10 rfl rfl ?_
  refine tr_iald hX 47 (by decide) rfl dX10_isJoin_11 ?_
  refine tr_icmp_le hX 31 dX10_isJoin_12 (by decide) ?_ ?_
  · refine tr_aload_n hX 0 dX10_isJoin_31 rfl rfl ?_
    refine tr_getR hX 36 13 (by decide) rfl rfl rfl (by decide) gX10 wm_709 dX10_isJoin_32 ?_
    refine tr_iload_n hX 2 dX10_isJoin_35 rfl rfl ?_
    refine tr_iald hX 47 (by decide) rfl dX10_isJoin_36 ?_
    refine tr_aload_n hX 0 dX10_isJoin_37 rfl rfl ?_
    refine tr_getR hX 36 13 (by decide) rfl rfl rfl (by decide) gX10 wm_709 dX10_isJoin_38 ?_
    refine tr_iload_n hX 1 dX10_isJoin_41 rfl rfl ?_
    refine tr_iald hX 47 (by decide) rfl dX10_isJoin_42 ?_
    refine tr_isub hX dX10_isJoin_43 ?_
    exact w_X10_isJoin_44 hX hR hE N s x1 x2 ((s 47 (ix x2)) - (s 47 (ix x1)))
  · refine tr_aload_n hX 0 dX10_isJoin_15 rfl rfl ?_
    refine tr_getR hX 36 13 (by decide) rfl rfl rfl (by decide) gX10 wm_709 dX10_isJoin_16 ?_
    refine tr_iload_n hX 1 dX10_isJoin_19 rfl rfl ?_
    refine tr_iald hX 47 (by decide) rfl dX10_isJoin_20 ?_
    refine tr_aload_n hX 0 dX10_isJoin_21 rfl rfl ?_
    refine tr_getR hX 36 13 (by decide) rfl rfl rfl (by decide) gX10 wm_709 dX10_isJoin_22 ?_
    refine tr_iload_n hX 2 dX10_isJoin_25 rfl rfl ?_
    refine tr_iald hX 47 (by decide) rfl dX10_isJoin_26 ?_
    refine tr_isub hX dX10_isJoin_27 ?_
    refine tr_goto hX 44 dX10_isJoin_28 (by decide) ?_
    exact w_X10_isJoin_44 hX hR hE N s x1 x2 ((s 47 (ix x1)) - (s 47 (ix x2)))
theorem c_X10_isJoin (E : Ex) (hE : va_D (AW E) (wd E (fun _ _ => 0))) (N : Nat) (s : Hp) (x1 x2 : Int32) (r : Int32 × Hp) (h : f_X10_isJoin N s x1 x2 = some r) : CtrI E yX10_isJoin cX10_isJoin 4 (some .boolean) 0 0 [rf E 36, .int x1, .int x2] s r :=
  ctrI_of (by decide +kernel) hE (Nat.le_of_ble_eq_true rfl) h (fun G hX hR hG => by subst hG; exact w_X10_isJoin hX hR hE N s x1 x2)
set_option maxRecDepth 20000 in
set_option maxHeartbeats 2000000 in
theorem w_X10_spreads_70 {G : Gx} (hX : ok G cX10_spreads 5 RX10 (some .boolean) 1 23) (hR : okR G) (hE : va_D (AW G.1) (wd G.1 (fun _ _ => 0))) (N : Nat) (k4 : Hp → Int32 → Int32 → Int32 → Option (Int32 × Hp)) (hk4 : ∀ (s : Hp) (x1 x2 x3 : Int32), T G (k4 s x1 x2 x3) s 4 [(0, rf G.1 36), (1, .int x1), (2, .int x2), (3, .int x3)] []) (k28 : Hp → Int32 → Int32 → Int32 → Int32 → Option (Int32 × Hp)) (hk28 : ∀ (s : Hp) (x1 x2 x3 x4 : Int32), T G (k28 s x1 x2 x3 x4) s 28 [(0, rf G.1 36), (1, .int x1), (2, .int x2), (3, .int x3), (4, .int x4)] []) (s : Hp) (x1 x2 x3 x4 : Int32) : T G (f_X10_spreads_70 N k4 k28 s x1 x2 x3 x4) s 70 [(0, rf G.1 36), (1, .int x1), (2, .int x2), (3, .int x3), (4, .int x4)] [] := by
  unfold f_X10_spreads_70
  refine tr_iincB (b := 1) (lv2 := fun y5 => [(4, .int y5), (0, rf G.1 36), (1, .int x1), (2, .int x2), (3, .int x3)]) hX 4 dX10_spreads_70 rfl rfl (by decide) (fun _ => rfl) fun y5 => ?_
  refine tr_goto hX 28 dX10_spreads_73 (by decide) ?_
  refine tr_lv (lv2 := [(0, rf G.1 36), (1, .int x1), (2, .int x2), (3, .int x3), (4, .int y5)]) [1, 2, 3, 4, 0] rfl ?_
  exact hk28 s x1 x2 x3 y5
set_option maxRecDepth 20000 in
set_option maxHeartbeats 2000000 in
theorem w_X10_spreads_76 {G : Gx} (hX : ok G cX10_spreads 5 RX10 (some .boolean) 1 23) (hR : okR G) (hE : va_D (AW G.1) (wd G.1 (fun _ _ => 0))) (N : Nat) (k4 : Hp → Int32 → Int32 → Int32 → Option (Int32 × Hp)) (hk4 : ∀ (s : Hp) (x1 x2 x3 : Int32), T G (k4 s x1 x2 x3) s 4 [(0, rf G.1 36), (1, .int x1), (2, .int x2), (3, .int x3)] []) (s : Hp) (x1 x2 x3 : Int32) : T G (f_X10_spreads_76 N k4 s x1 x2 x3) s 76 [(0, rf G.1 36), (1, .int x1), (2, .int x2), (3, .int x3)] [] := by
  unfold f_X10_spreads_76
  refine tr_iincB (b := 1) (lv2 := fun y4 => [(3, .int y4), (0, rf G.1 36), (1, .int x1), (2, .int x2)]) hX 3 dX10_spreads_76 rfl rfl (by decide) (fun _ => rfl) fun y4 => ?_
  refine tr_goto hX 4 dX10_spreads_79 (by decide) ?_
  refine tr_lv (lv2 := [(0, rf G.1 36), (1, .int x1), (2, .int x2), (3, .int y4)]) [1, 2, 3, 0] rfl ?_
  exact hk4 s x1 x2 y4
set_option maxRecDepth 20000 in
set_option maxHeartbeats 2000000 in
theorem w_X10_spreads_28 {G : Gx} (hX : ok G cX10_spreads 5 RX10 (some .boolean) 1 23) (hR : okR G) (hE : va_D (AW G.1) (wd G.1 (fun _ _ => 0))) (N : Nat) (k4 : Hp → Int32 → Int32 → Int32 → Option (Int32 × Hp)) (hk4 : ∀ (s : Hp) (x1 x2 x3 : Int32), T G (k4 s x1 x2 x3) s 4 [(0, rf G.1 36), (1, .int x1), (2, .int x2), (3, .int x3)] []) (k28 : Hp → Int32 → Int32 → Int32 → Int32 → Option (Int32 × Hp)) (hk28 : ∀ (s : Hp) (x1 x2 x3 x4 : Int32), T G (k28 s x1 x2 x3 x4) s 28 [(0, rf G.1 36), (1, .int x1), (2, .int x2), (3, .int x3), (4, .int x4)] []) (s : Hp) (x1 x2 x3 x4 : Int32) : T G (f_X10_spreads_28 N k4 k28 s x1 x2 x3 x4) s 28 [(0, rf G.1 36), (1, .int x1), (2, .int x2), (3, .int x3), (4, .int x4)] [] := by
  unfold f_X10_spreads_28
  refine tr_iload hX 4 dX10_spreads_28 rfl ?_
  refine tr_aload_n hX 0 dX10_spreads_30 rfl rfl ?_
  refine tr_getI hX 36 8 (by decide) rfl rfl rfl (by decide) gX10 wm_704 dX10_spreads_31 ?_
  refine tr_icmp_ge hX 76 dX10_spreads_34 (by decide) ?_ ?_
  · refine tr_lv (lv2 := [(0, rf G.1 36), (1, .int x1), (2, .int x2), (3, .int x3)]) [0, 1, 2, 3] rfl ?_
    exact w_X10_spreads_76 hX hR hE N k4 hk4 s x1 x2 x3
  · refine tr_aload_n hX 0 dX10_spreads_37 rfl rfl ?_
    refine tr_getR hX 36 19 (by decide) rfl rfl rfl (by decide) gX10 wm_715 dX10_spreads_38 ?_
    refine tr_iload hX 4 dX10_spreads_41 rfl ?_
    refine tr_iald hX 50 (by decide) rfl dX10_spreads_43 ?_
    refine tr_if_ge hX 70 dX10_spreads_44 (by decide) ?_ ?_
    · exact w_X10_spreads_70 hX hR hE N k4 hk4 k28 hk28 s x1 x2 x3 x4
    · refine tr_aload_n hX 0 dX10_spreads_47 rfl rfl ?_
      refine tr_iload_n hX 3 dX10_spreads_48 rfl rfl ?_
      refine tr_iload hX 4 dX10_spreads_49 rfl ?_
      refine tr_callV hX 36 [.int x3, .int x4] kv_X10_isJoin wm_854 (by decide) rfl rfl rfl (by decide) rfl rfl (Nat.le_of_ble_eq_true rfl) dX10_spreads_51 (fun vq sq hq => c_X10_isJoin G.1 hE N s x3 x4 (vq, sq) hq) fun v2 s1 => ?_
      refine tr_if_ne hX 60 dX10_spreads_54 (by decide) ?_ ?_
      · refine tr_aload_n hX 0 dX10_spreads_60 rfl rfl ?_
        refine tr_getR hX 36 19 (by decide) rfl rfl rfl (by decide) gX10 wm_715 dX10_spreads_61 ?_
        refine tr_iload hX 4 dX10_spreads_64 rfl ?_
        refine tr_iload_n hX 1 dX10_spreads_66 rfl rfl ?_
        refine tr_iast hX 50 (by decide) rfl dX10_spreads_67 fun s3 => ?_
        refine tr_iconst (v := 1) hX dX10_spreads_68 rfl ?_
        refine tr_istore_n (lv2 := [(2, .int 1), (0, rf G.1 36), (1, .int x1), (3, .int x3), (4, .int x4)]) hX dX10_spreads_69 rfl (by decide) rfl ?_
        refine tr_lv (lv2 := [(0, rf G.1 36), (1, .int x1), (2, .int 1), (3, .int x3), (4, .int x4)]) [1, 2, 0, 3, 4] rfl ?_
        exact w_X10_spreads_70 hX hR hE N k4 hk4 k28 hk28 s3 x1 1 x3 x4
      · refine tr_goto hX 70 dX10_spreads_57 (by decide) ?_
        exact w_X10_spreads_70 hX hR hE N k4 hk4 k28 hk28 s1 x1 x2 x3 x4
theorem wl_X10_spreads_28 {G : Gx} (hX : ok G cX10_spreads 5 RX10 (some .boolean) 1 23) (hR : okR G) (hE : va_D (AW G.1) (wd G.1 (fun _ _ => 0))) (N : Nat) (k4 : Hp → Int32 → Int32 → Int32 → Option (Int32 × Hp)) (hk4 : ∀ (s : Hp) (x1 x2 x3 : Int32), T G (k4 s x1 x2 x3) s 4 [(0, rf G.1 36), (1, .int x1), (2, .int x2), (3, .int x3)] []) : ∀ (n : Nat) (s : Hp) (x1 x2 x3 x4 : Int32), T G (lp (fun _ _ _ _ _ => none) (f_X10_spreads_28 N k4) n s x1 x2 x3 x4) s 28 [(0, rf G.1 36), (1, .int x1), (2, .int x2), (3, .int x3), (4, .int x4)] [] := by
  intro n
  induction n with
  | zero => exact fun s x1 x2 x3 x4 h => nomatch (show (none : Option (Int32 × Hp)) = some _ from h)
  | succ n ih => exact fun s x1 x2 x3 x4 => w_X10_spreads_28 hX hR hE N k4 hk4 _ ih s x1 x2 x3 x4
set_option maxRecDepth 20000 in
set_option maxHeartbeats 2000000 in
theorem w_X10_spreads_4 {G : Gx} (hX : ok G cX10_spreads 5 RX10 (some .boolean) 1 23) (hR : okR G) (hE : va_D (AW G.1) (wd G.1 (fun _ _ => 0))) (N : Nat) (k4 : Hp → Int32 → Int32 → Int32 → Option (Int32 × Hp)) (hk4 : ∀ (s : Hp) (x1 x2 x3 : Int32), T G (k4 s x1 x2 x3) s 4 [(0, rf G.1 36), (1, .int x1), (2, .int x2), (3, .int x3)] []) (s : Hp) (x1 x2 x3 : Int32) : T G (f_X10_spreads_4 N k4 s x1 x2 x3) s 4 [(0, rf G.1 36), (1, .int x1), (2, .int x2), (3, .int x3)] [] := by
  unfold f_X10_spreads_4
  refine tr_iload_n hX 3 dX10_spreads_4 rfl rfl ?_
  refine tr_aload_n hX 0 dX10_spreads_5 rfl rfl ?_
  refine tr_getI hX 36 8 (by decide) rfl rfl rfl (by decide) gX10 wm_704 dX10_spreads_6 ?_
  refine tr_icmp_ge hX 82 dX10_spreads_9 (by decide) ?_ ?_
  · refine tr_iload_n hX 2 dX10_spreads_82 rfl rfl ?_
    exact tr_zretC hX hR dX10_spreads_83
  · refine tr_aload_n hX 0 dX10_spreads_12 rfl rfl ?_
    refine tr_getR hX 36 19 (by decide) rfl rfl rfl (by decide) gX10 wm_715 dX10_spreads_13 ?_
    refine tr_iload_n hX 3 dX10_spreads_16 rfl rfl ?_
    refine tr_iald hX 50 (by decide) rfl dX10_spreads_17 ?_
    refine tr_iload_n hX 1 dX10_spreads_18 rfl rfl ?_
    refine tr_icmp_eq hX 25 dX10_spreads_19 (by decide) ?_ ?_
    · refine tr_iconst (v := 0) hX dX10_spreads_25 rfl ?_
      refine tr_istore (lv2 := [(4, .int 0), (0, rf G.1 36), (1, .int x1), (2, .int x2), (3, .int x3)]) hX dX10_spreads_26 (by decide) rfl ?_
      refine tr_lv (lv2 := [(0, rf G.1 36), (1, .int x1), (2, .int x2), (3, .int x3), (4, .int 0)]) [1, 2, 3, 4, 0] rfl ?_
      exact wl_X10_spreads_28 hX hR hE N k4 hk4 N s x1 x2 x3 0
    · refine tr_goto hX 76 dX10_spreads_22 (by decide) ?_
      exact w_X10_spreads_76 hX hR hE N k4 hk4 s x1 x2 x3
theorem wl_X10_spreads_4 {G : Gx} (hX : ok G cX10_spreads 5 RX10 (some .boolean) 1 23) (hR : okR G) (hE : va_D (AW G.1) (wd G.1 (fun _ _ => 0))) (N : Nat) : ∀ (n : Nat) (s : Hp) (x1 x2 x3 : Int32), T G (lp (fun _ _ _ _ => none) (f_X10_spreads_4 N) n s x1 x2 x3) s 4 [(0, rf G.1 36), (1, .int x1), (2, .int x2), (3, .int x3)] [] := by
  intro n
  induction n with
  | zero => exact fun s x1 x2 x3 h => nomatch (show (none : Option (Int32 × Hp)) = some _ from h)
  | succ n ih => exact fun s x1 x2 x3 => w_X10_spreads_4 hX hR hE N _ ih s x1 x2 x3
set_option maxRecDepth 20000 in
set_option maxHeartbeats 2000000 in
theorem w_X10_spreads {G : Gx} (hX : ok G cX10_spreads 5 RX10 (some .boolean) 1 23) (hR : okR G) (hE : va_D (AW G.1) (wd G.1 (fun _ _ => 0))) (N : Nat) (s : Hp) (x1 : Int32) : T G (f_X10_spreads N s x1) s 0 [(0, rf G.1 36), (1, .int x1)] [] := by
  unfold f_X10_spreads
  refine tr_iconst (v := 0) hX dX10_spreads_0 rfl ?_
  refine tr_istore_n (lv2 := [(2, .int 0), (0, rf G.1 36), (1, .int x1)]) hX dX10_spreads_1 rfl (by decide) rfl ?_
  refine tr_iconst (v := 0) hX dX10_spreads_2 rfl ?_
  refine tr_istore_n (lv2 := [(3, .int 0), (2, .int 0), (0, rf G.1 36), (1, .int x1)]) hX dX10_spreads_3 rfl (by decide) rfl ?_
  refine tr_lv (lv2 := [(0, rf G.1 36), (1, .int x1), (2, .int 0), (3, .int 0)]) [2, 3, 1, 0] rfl ?_
  exact wl_X10_spreads_4 hX hR hE N N s x1 0 0
theorem c_X10_spreads (E : Ex) (hE : va_D (AW E) (wd E (fun _ _ => 0))) (N : Nat) (s : Hp) (x1 : Int32) (r : Int32 × Hp) (h : f_X10_spreads N s x1 = some r) : CtrI E yX10_spreads cX10_spreads 5 (some .boolean) 1 23 [rf E 36, .int x1] s r :=
  ctrI_of (by decide +kernel) hE (Nat.le_of_ble_eq_true rfl) h (fun G hX hR hG => by subst hG; exact w_X10_spreads hX hR hE N s x1)
