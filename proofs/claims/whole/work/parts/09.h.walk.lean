set_option maxRecDepth 20000 in
set_option maxHeartbeats 2000000 in
theorem w_X10_join_98 {G : Gx} (hX : ok G cX10_join 3 RX10 none 2 47) (hR : okV G) (hE : va_D (AW G.1) (wd G.1 (fun _ _ => 0))) (N : Nat) (k30 : Hp → Int32 → Option (Int32 × Hp)) (hk30 : ∀ (s : Hp) (x1 : Int32), T G (k30 s x1) s 30 [(0, rf G.1 36), (1, .int x1)] []) (s : Hp) (x1 : Int32) : T G (f_X10_join_98 N k30 s x1) s 98 [(0, rf G.1 36), (1, .int x1)] [] := by
  unfold f_X10_join_98
  refine tr_iincB (b := 1) (lv2 := fun y9 => [(1, .int y9), (0, rf G.1 36)]) hX 1 dX10_join_98 rfl rfl (by decide) (fun _ => rfl) fun y9 => ?_
  refine tr_goto hX 30 dX10_join_101 (by decide) ?_
  refine tr_lv (lv2 := [(0, rf G.1 36), (1, .int y9)]) [1, 0] rfl ?_
  exact hk30 s y9
set_option maxRecDepth 20000 in
set_option maxHeartbeats 2000000 in
theorem w_X10_join_72 {G : Gx} (hX : ok G cX10_join 3 RX10 none 2 47) (hR : okV G) (hE : va_D (AW G.1) (wd G.1 (fun _ _ => 0))) (N : Nat) (k30 : Hp → Int32 → Option (Int32 × Hp)) (hk30 : ∀ (s : Hp) (x1 : Int32), T G (k30 s x1) s 30 [(0, rf G.1 36), (1, .int x1)] []) (k72 : Hp → Int32 → Int32 → Option (Int32 × Hp)) (hk72 : ∀ (s : Hp) (x1 x2 : Int32), T G (k72 s x1 x2) s 72 [(0, rf G.1 36), (1, .int x1), (2, .int x2)] []) (s : Hp) (x1 x2 : Int32) : T G (f_X10_join_72 N k30 k72 s x1 x2) s 72 [(0, rf G.1 36), (1, .int x1), (2, .int x2)] [] := by
  unfold f_X10_join_72
  refine tr_iload_n hX 2 dX10_join_72 rfl rfl ?_
  refine tr_if_eq hX 88 dX10_join_73 (by decide) ?_ ?_
  · refine tr_aload_n hX 0 dX10_join_88 rfl rfl ?_
    refine tr_dup hX dX10_join_89 rfl ?_
    refine tr_getI hX 36 18 (by decide) rfl rfl rfl (by decide) gX10 wm_714 dX10_join_90 ?_
    refine tr_iconst (v := 1) hX dX10_join_93 rfl ?_
    refine tr_iadd hX dX10_join_94 ?_
    refine tr_putI hX 36 18 tyX10 tyX10_ok nmX10 (by decide) rfl rfl rfl (by decide) gX10 wm_714 rfl (by decide +kernel) dX10_join_95 fun s6 => ?_
    refine tr_lv (lv2 := [(0, rf G.1 36), (1, .int x1)]) [0, 1] rfl ?_
    exact w_X10_join_98 hX hR hE N k30 hk30 s6 x1
  · refine tr_aload_n hX 0 dX10_join_76 rfl rfl ?_
    refine tr_aload_n hX 0 dX10_join_77 rfl rfl ?_
    refine tr_getI hX 36 18 (by decide) rfl rfl rfl (by decide) gX10 wm_714 dX10_join_78 ?_
    refine tr_callV hX 36 [.int (s 36 18)] kv_X10_spreads wm_850 (by decide) rfl rfl rfl (by decide) rfl rfl (Nat.le_of_ble_eq_true rfl) dX10_join_81 (fun vq sq hq => c_X10_spreads G.1 hE N s (s 36 18) (vq, sq) hq) fun v8 s7 => ?_
    refine tr_istore_n (lv2 := [(2, .int v8), (0, rf G.1 36), (1, .int x1)]) hX dX10_join_84 rfl (by decide) rfl ?_
    refine tr_goto hX 72 dX10_join_85 (by decide) ?_
    refine tr_lv (lv2 := [(0, rf G.1 36), (1, .int x1), (2, .int v8)]) [1, 2, 0] rfl ?_
    exact hk72 s7 x1 v8
theorem wl_X10_join_72 {G : Gx} (hX : ok G cX10_join 3 RX10 none 2 47) (hR : okV G) (hE : va_D (AW G.1) (wd G.1 (fun _ _ => 0))) (N : Nat) (k30 : Hp → Int32 → Option (Int32 × Hp)) (hk30 : ∀ (s : Hp) (x1 : Int32), T G (k30 s x1) s 30 [(0, rf G.1 36), (1, .int x1)] []) : ∀ (n : Nat) (s : Hp) (x1 x2 : Int32), T G (lp (fun _ _ _ => none) (f_X10_join_72 N k30) n s x1 x2) s 72 [(0, rf G.1 36), (1, .int x1), (2, .int x2)] [] := by
  intro n
  induction n with
  | zero => exact fun s x1 x2 h => nomatch (show (none : Option (Int32 × Hp)) = some _ from h)
  | succ n ih => exact fun s x1 x2 => w_X10_join_72 hX hR hE N k30 hk30 _ ih s x1 x2
set_option maxRecDepth 20000 in
set_option maxHeartbeats 2000000 in
theorem w_X10_join_30 {G : Gx} (hX : ok G cX10_join 3 RX10 none 2 47) (hR : okV G) (hE : va_D (AW G.1) (wd G.1 (fun _ _ => 0))) (N : Nat) (k30 : Hp → Int32 → Option (Int32 × Hp)) (hk30 : ∀ (s : Hp) (x1 : Int32), T G (k30 s x1) s 30 [(0, rf G.1 36), (1, .int x1)] []) (s : Hp) (x1 : Int32) : T G (f_X10_join_30 N k30 s x1) s 30 [(0, rf G.1 36), (1, .int x1)] [] := by
  unfold f_X10_join_30
  refine tr_iload_n hX 1 dX10_join_30 rfl rfl ?_
  refine tr_aload_n hX 0 dX10_join_31 rfl rfl ?_
  refine tr_getI hX 36 8 (by decide) rfl rfl rfl (by decide) gX10 wm_704 dX10_join_32 ?_
  refine tr_icmp_ge hX 104 dX10_join_35 (by decide) ?_ ?_
  · exact tr_vret hX hR dX10_join_104
  · refine tr_aload_n hX 0 dX10_join_38 rfl rfl ?_
    refine tr_getR hX 36 19 (by decide) rfl rfl rfl (by decide) gX10 wm_715 dX10_join_39 ?_
    refine tr_iload_n hX 1 dX10_join_42 rfl rfl ?_
    refine tr_iald hX 50 (by decide) rfl dX10_join_43 ?_
    refine tr_if_lt hX 50 dX10_join_44 (by decide) ?_ ?_
    · refine tr_aload_n hX 0 dX10_join_50 rfl rfl ?_
      refine tr_getR hX 36 19 (by decide) rfl rfl rfl (by decide) gX10 wm_715 dX10_join_51 ?_
      refine tr_iload_n hX 1 dX10_join_54 rfl rfl ?_
      refine tr_aload_n hX 0 dX10_join_55 rfl rfl ?_
      refine tr_getI hX 36 18 (by decide) rfl rfl rfl (by decide) gX10 wm_714 dX10_join_56 ?_
      refine tr_iast hX 50 (by decide) rfl dX10_join_59 fun s4 => ?_
      refine tr_aload_n hX 0 dX10_join_60 rfl rfl ?_
      refine tr_getR hX 36 20 (by decide) rfl rfl rfl (by decide) gX10 wm_716 dX10_join_61 ?_
      refine tr_aload_n hX 0 dX10_join_64 rfl rfl ?_
      refine tr_getI hX 36 18 (by decide) rfl rfl rfl (by decide) gX10 wm_714 dX10_join_65 ?_
      refine tr_iload_n hX 1 dX10_join_68 rfl rfl ?_
      refine tr_iast hX 51 (by decide) rfl dX10_join_69 fun s5 => ?_
      refine tr_iconst (v := 1) hX dX10_join_70 rfl ?_
      refine tr_istore_n (lv2 := [(2, .int 1), (0, rf G.1 36), (1, .int x1)]) hX dX10_join_71 rfl (by decide) rfl ?_
      refine tr_lv (lv2 := [(0, rf G.1 36), (1, .int x1), (2, .int 1)]) [1, 2, 0] rfl ?_
      exact wl_X10_join_72 hX hR hE N k30 hk30 N s5 x1 1
    · refine tr_goto hX 98 dX10_join_47 (by decide) ?_
      exact w_X10_join_98 hX hR hE N k30 hk30 s x1
theorem wl_X10_join_30 {G : Gx} (hX : ok G cX10_join 3 RX10 none 2 47) (hR : okV G) (hE : va_D (AW G.1) (wd G.1 (fun _ _ => 0))) (N : Nat) : ∀ (n : Nat) (s : Hp) (x1 : Int32), T G (lp (fun _ _ => none) (f_X10_join_30 N) n s x1) s 30 [(0, rf G.1 36), (1, .int x1)] [] := by
  intro n
  induction n with
  | zero => exact fun s x1 h => nomatch (show (none : Option (Int32 × Hp)) = some _ from h)
  | succ n ih => exact fun s x1 => w_X10_join_30 hX hR hE N _ ih s x1
set_option maxRecDepth 20000 in
set_option maxHeartbeats 2000000 in
theorem w_X10_join_7 {G : Gx} (hX : ok G cX10_join 3 RX10 none 2 47) (hR : okV G) (hE : va_D (AW G.1) (wd G.1 (fun _ _ => 0))) (N : Nat) (k7 : Hp → Int32 → Option (Int32 × Hp)) (hk7 : ∀ (s : Hp) (x1 : Int32), T G (k7 s x1) s 7 [(0, rf G.1 36), (1, .int x1)] []) (s : Hp) (x1 : Int32) : T G (f_X10_join_7 N k7 s x1) s 7 [(0, rf G.1 36), (1, .int x1)] [] := by
  unfold f_X10_join_7
  refine tr_iload_n hX 1 dX10_join_7 rfl rfl ?_
  refine tr_aload_n hX 0 dX10_join_8 rfl rfl ?_
  refine tr_getI hX 36 8 (by decide) rfl rfl rfl (by decide) gX10 wm_704 dX10_join_9 ?_
  refine tr_icmp_ge hX 28 dX10_join_12 (by decide) ?_ ?_
  · refine tr_iconst (v := 0) hX dX10_join_28 rfl ?_
    refine tr_istore_n (lv2 := [(1, .int 0), (0, rf G.1 36)]) hX dX10_join_29 rfl (by decide) rfl ?_
    refine tr_lv (lv2 := [(0, rf G.1 36), (1, .int 0)]) [1, 0] rfl ?_
    exact wl_X10_join_30 hX hR hE N N s 0
  · refine tr_aload_n hX 0 dX10_join_15 rfl rfl ?_
    refine tr_getR hX 36 19 (by decide) rfl rfl rfl (by decide) gX10 wm_715 dX10_join_16 ?_
    refine tr_iload_n hX 1 dX10_join_19 rfl rfl ?_
    refine tr_iconst (v := (-1)) hX dX10_join_20 rfl ?_
    refine tr_iast hX 50 (by decide) rfl dX10_join_21 fun s2 => ?_
    refine tr_iincB (b := 1) (lv2 := fun y3 => [(1, .int y3), (0, rf G.1 36)]) hX 1 dX10_join_22 rfl rfl (by decide) (fun _ => rfl) fun y3 => ?_
    refine tr_goto hX 7 dX10_join_25 (by decide) ?_
    refine tr_lv (lv2 := [(0, rf G.1 36), (1, .int y3)]) [1, 0] rfl ?_
    exact hk7 s2 y3
theorem wl_X10_join_7 {G : Gx} (hX : ok G cX10_join 3 RX10 none 2 47) (hR : okV G) (hE : va_D (AW G.1) (wd G.1 (fun _ _ => 0))) (N : Nat) : ∀ (n : Nat) (s : Hp) (x1 : Int32), T G (lp (fun _ _ => none) (f_X10_join_7 N) n s x1) s 7 [(0, rf G.1 36), (1, .int x1)] [] := by
  intro n
  induction n with
  | zero => exact fun s x1 h => nomatch (show (none : Option (Int32 × Hp)) = some _ from h)
  | succ n ih => exact fun s x1 => w_X10_join_7 hX hR hE N _ ih s x1
set_option maxRecDepth 20000 in
set_option maxHeartbeats 2000000 in
theorem w_X10_join {G : Gx} (hX : ok G cX10_join 3 RX10 none 2 47) (hR : okV G) (hE : va_D (AW G.1) (wd G.1 (fun _ _ => 0))) (N : Nat) (s : Hp) : T G (f_X10_join N s) s 0 [(0, rf G.1 36)] [] := by
  unfold f_X10_join
  refine tr_aload_n hX 0 dX10_join_0 rfl rfl ?_
  refine tr_iconst (v := 0) hX dX10_join_1 rfl ?_
  refine tr_putI hX 36 18 tyX10 tyX10_ok nmX10 (by decide) rfl rfl rfl (by decide) gX10 wm_714 rfl (by decide +kernel) dX10_join_2 fun s1 => ?_
  refine tr_iconst (v := 0) hX dX10_join_5 rfl ?_
  refine tr_istore_n (lv2 := [(1, .int 0), (0, rf G.1 36)]) hX dX10_join_6 rfl (by decide) rfl ?_
  refine tr_lv (lv2 := [(0, rf G.1 36), (1, .int 0)]) [1, 0] rfl ?_
  exact wl_X10_join_7 hX hR hE N N s1 0
theorem c_X10_join (E : Ex) (hE : va_D (AW E) (wd E (fun _ _ => 0))) (N : Nat) (s : Hp) (r : Int32 × Hp) (h : f_X10_join N s = some r) : CtrV E yX10_join cX10_join 3 none 2 47 [rf E 36] s r :=
  ctrV_of (by decide +kernel) hE (Nat.le_of_ble_eq_true rfl) h (fun G hX hR hG => by subst hG; exact w_X10_join hX hR hE N s)
set_option maxRecDepth 20000 in
set_option maxHeartbeats 2000000 in
theorem w_X10_senders {G : Gx} (hX : ok G cX10_senders 1 RX10 (some .int) 3 69) (hR : okR G) (hE : va_D (AW G.1) (wd G.1 (fun _ _ => 0))) (N : Nat) (s : Hp) : T G (f_X10_senders N s) s 0 [(0, rf G.1 36)] [] := by
  unfold f_X10_senders
  refine tr_aload_n hX 0 dX10_senders_0 rfl rfl ?_
  refine tr_callVv hX 36 [] kv_X10_join wm_846 (by decide) rfl rfl rfl (by decide) rfl rfl (Nat.le_of_ble_eq_true rfl) dX10_senders_1 (fun vq sq hq => c_X10_join G.1 hE N s (vq, sq) hq) fun v2 s1 => ?_
  refine tr_aload_n hX 0 dX10_senders_4 rfl rfl ?_
  refine tr_getI hX 36 18 (by decide) rfl rfl rfl (by decide) gX10 wm_714 dX10_senders_5 ?_
  exact tr_iret hX hR dX10_senders_8
theorem c_X10_senders (E : Ex) (hE : va_D (AW E) (wd E (fun _ _ => 0))) (N : Nat) (s : Hp) (r : Int32 × Hp) (h : f_X10_senders N s = some r) : CtrI E yX10_senders cX10_senders 1 (some .int) 3 69 [rf E 36] s r :=
  ctrI_of (by decide +kernel) hE (Nat.le_of_ble_eq_true rfl) h (fun G hX hR hG => by subst hG; exact w_X10_senders hX hR hE N s)
set_option maxRecDepth 20000 in
set_option maxHeartbeats 2000000 in
theorem w_X10_senderOf {G : Gx} (hX : ok G cX10_senderOf 2 RX10 (some .int) 3 69) (hR : okR G) (hE : va_D (AW G.1) (wd G.1 (fun _ _ => 0))) (N : Nat) (s : Hp) (x1 : Int32) : T G (f_X10_senderOf N s x1) s 0 [(0, rf G.1 36), (1, .int x1)] [] := by
  unfold f_X10_senderOf
  refine tr_iload_n hX 1 dX10_senderOf_0 rfl rfl ?_
  refine tr_iconst (v := 0) hX dX10_senderOf_1 rfl ?_
  refine tr_aload_n hX 0 dX10_senderOf_2 rfl rfl ?_
  refine tr_getI hX 36 8 (by decide) rfl rfl rfl (by decide) gX10 wm_704 dX10_senderOf_3 ?_
  refine tr_iconst (v := 1) hX dX10_senderOf_6 rfl ?_
  refine tr_isub hX dX10_senderOf_7 ?_
  refine tr_callS hX [.int x1, .int 0, .int ((s 36 8) - 1)] ks_X10_isIn wm_809 (by decide) rfl rfl (Nat.le_of_ble_eq_true rfl) dX10_senderOf_8 (fun vq sq hq => c_X10_isIn G.1 hE N s x1 0 ((s 36 8) - 1) (vq, sq) hq) fun v2 s1 => ?_
  refine tr_if_ne hX 16 dX10_senderOf_11 (by decide) ?_ ?_
  · refine tr_aload_n hX 0 dX10_senderOf_16 rfl rfl ?_
    refine tr_callVv hX 36 [] kv_X10_join wm_846 (by decide) rfl rfl rfl (by decide) rfl rfl (Nat.le_of_ble_eq_true rfl) dX10_senderOf_17 (fun vq sq hq => c_X10_join G.1 hE N s1 (vq, sq) hq) fun v4 s3 => ?_
    refine tr_aload_n hX 0 dX10_senderOf_20 rfl rfl ?_
    refine tr_getR hX 36 19 (by decide) rfl rfl rfl (by decide) gX10 wm_715 dX10_senderOf_21 ?_
    refine tr_iload_n hX 1 dX10_senderOf_24 rfl rfl ?_
    refine tr_iald hX 50 (by decide) rfl dX10_senderOf_25 ?_
    exact tr_iret hX hR dX10_senderOf_26
  · refine tr_iconst (v := (-1)) hX dX10_senderOf_14 rfl ?_
    exact tr_iret hX hR dX10_senderOf_15
theorem c_X10_senderOf (E : Ex) (hE : va_D (AW E) (wd E (fun _ _ => 0))) (N : Nat) (s : Hp) (x1 : Int32) (r : Int32 × Hp) (h : f_X10_senderOf N s x1 = some r) : CtrI E yX10_senderOf cX10_senderOf 2 (some .int) 3 69 [rf E 36, .int x1] s r :=
  ctrI_of (by decide +kernel) hE (Nat.le_of_ble_eq_true rfl) h (fun G hX hR hG => by subst hG; exact w_X10_senderOf hX hR hE N s x1)
set_option maxRecDepth 20000 in
set_option maxHeartbeats 2000000 in
theorem w_X10_isSender {G : Gx} (hX : ok G cX10_isSender 2 RX10 (some .boolean) 3 69) (hR : okR G) (hE : va_D (AW G.1) (wd G.1 (fun _ _ => 0))) (N : Nat) (s : Hp) (x1 : Int32) : T G (f_X10_isSender N s x1) s 0 [(0, rf G.1 36), (1, .int x1)] [] := by
  unfold f_X10_isSender
  refine tr_aload_n hX 0 dX10_isSender_0 rfl rfl ?_
  refine tr_callVv hX 36 [] kv_X10_join wm_846 (by decide) rfl rfl rfl (by decide) rfl rfl (Nat.le_of_ble_eq_true rfl) dX10_isSender_1 (fun vq sq hq => c_X10_join G.1 hE N s (vq, sq) hq) fun v2 s1 => ?_
  refine tr_iload_n hX 1 dX10_isSender_4 rfl rfl ?_
  refine tr_iconst (v := 0) hX dX10_isSender_5 rfl ?_
  refine tr_aload_n hX 0 dX10_isSender_6 rfl rfl ?_
  refine tr_getI hX 36 18 (by decide) rfl rfl rfl (by decide) gX10 wm_714 dX10_isSender_7 ?_
  refine tr_iconst (v := 1) hX dX10_isSender_10 rfl ?_
  refine tr_isub hX dX10_isSender_11 ?_
  refine tr_callS hX [.int x1, .int 0, .int ((s1 36 18) - 1)] ks_X10_isIn wm_809 (by decide) rfl rfl (Nat.le_of_ble_eq_true rfl) dX10_isSender_12 (fun vq sq hq => c_X10_isIn G.1 hE N s1 x1 0 ((s1 36 18) - 1) (vq, sq) hq) fun v4 s3 => ?_
  exact tr_zretC hX hR dX10_isSender_15
theorem c_X10_isSender (E : Ex) (hE : va_D (AW E) (wd E (fun _ _ => 0))) (N : Nat) (s : Hp) (x1 : Int32) (r : Int32 × Hp) (h : f_X10_isSender N s x1 = some r) : CtrI E yX10_isSender cX10_isSender 2 (some .boolean) 3 69 [rf E 36, .int x1] s r :=
  ctrI_of (by decide +kernel) hE (Nat.le_of_ble_eq_true rfl) h (fun G hX hR hG => by subst hG; exact w_X10_isSender hX hR hE N s x1)
set_option maxRecDepth 20000 in
set_option maxHeartbeats 2000000 in
theorem w_X10_liesIn {G : Gx} (hX : ok G cX10_liesIn 6 RX10 (some .boolean) 0 0) (hR : okR G) (hE : va_D (AW G.1) (wd G.1 (fun _ _ => 0))) (N : Nat) (s : Hp) (x1 x2 x3 : Int32) : T G (f_X10_liesIn N s x1 x2 x3) s 0 [(0, rf G.1 36), (1, .int x1), (2, .int x2), (3, .int x3)] [] := by
  unfold f_X10_liesIn
  refine tr_iload_n hX 2 dX10_liesIn_0 rfl rfl ?_
  refine tr_aload_n hX 0 dX10_liesIn_1 rfl rfl ?_
  refine tr_getR hX 36 1 (by decide) rfl rfl rfl (by decide) gX10 wm_697 dX10_liesIn_2 ?_
  refine tr_aload_n hX 0 dX10_liesIn_5 rfl rfl ?_
  refine tr_getR hX 36 9 (by decide) rfl rfl rfl (by decide) gX10 wm_705 dX10_liesIn_6 ?_
  refine tr_iload_n hX 1 dX10_liesIn_9 rfl rfl ?_
  refine tr_iald hX 43 (by decide) rfl dX10_liesIn_10 ?_
  refine tr_iald hX 37 (by decide) rfl dX10_liesIn_11 ?_
  refine tr_isub hX dX10_liesIn_12 ?_
  refine tr_istoreB (lv2 := fun y1 => [(4, .int y1), (0, rf G.1 36), (1, .int x1), (2, .int x2), (3, .int x3)]) hX dX10_liesIn_13 (by decide) (fun _ => rfl) fun y1 => ?_
  refine tr_iload_n hX 4 dX10_liesIn_15 rfl rfl ?_
  refine tr_aload_n hX 1 dX10_liesIn_16 rfl rfl ?_
  refine tr_getR hX 36 2 (by decide) rfl rfl rfl (by decide) gX10 wm_698 dX10_liesIn_17 ?_
  refine tr_aload_n hX 1 dX10_liesIn_20 rfl rfl ?_
  refine tr_getR hX 36 9 (by decide) rfl rfl rfl (by decide) gX10 wm_705 dX10_liesIn_21 ?_
  refine tr_iload_n hX 2 dX10_liesIn_24 rfl rfl ?_
  refine tr_iald hX 43 (by decide) rfl dX10_liesIn_25 ?_
  refine tr_iald hX 38 (by decide) rfl dX10_liesIn_26 ?_
  refine tr_isub hX dX10_liesIn_27 ?_
  refine tr_istoreB (lv2 := fun y2 => [(5, .int y2), (4, .int y1), (0, rf G.1 36), (1, .int x1), (2, .int x2), (3, .int x3)]) hX dX10_liesIn_28 (by decide) (fun _ => rfl) fun y2 => ?_
  refine tr_aload_n hX 2 dX10_liesIn_30 rfl rfl ?_
  refine tr_getR hX 36 15 (by decide) rfl rfl rfl (by decide) gX10 wm_711 dX10_liesIn_31 ?_
  refine tr_iconst (v := 4) hX dX10_liesIn_34 rfl ?_
  refine tr_iload_n hX 3 dX10_liesIn_35 rfl rfl ?_
  refine tr_imul hX dX10_liesIn_36 ?_
  refine tr_iald hX 49 (by decide) rfl dX10_liesIn_37 ?_
  refine tr_iload hX 0 dX10_liesIn_38 rfl ?_
  refine tr_imul hX dX10_liesIn_40 ?_
  refine tr_aload_n hX 2 dX10_liesIn_41 rfl rfl ?_
  refine tr_getR hX 36 15 (by decide) rfl rfl rfl (by decide) gX10 wm_711 dX10_liesIn_42 ?_
  refine tr_iconst (v := 4) hX dX10_liesIn_45 rfl ?_
  refine tr_iload_n hX 3 dX10_liesIn_46 rfl rfl ?_
  refine tr_imul hX dX10_liesIn_47 ?_
  refine tr_iconst (v := 1) hX dX10_liesIn_48 rfl ?_
  refine tr_iadd hX dX10_liesIn_49 ?_
  refine tr_iald hX 49 (by decide) rfl dX10_liesIn_50 ?_
  refine tr_iload hX 1 dX10_liesIn_51 rfl ?_
  refine tr_imul hX dX10_liesIn_53 ?_
  refine tr_isub hX dX10_liesIn_54 ?_
  refine tr_if_lt hX 92 dX10_liesIn_55 (by decide) ?_ ?_
  · refine tr_iconst (v := 0) hX dX10_liesIn_92 rfl ?_
    exact tr_zret hX hR rfl dX10_liesIn_93
  · refine tr_iload hX 1 dX10_liesIn_58 rfl ?_
    refine tr_aload_n hX 2 dX10_liesIn_60 rfl rfl ?_
    refine tr_getR hX 36 15 (by decide) rfl rfl rfl (by decide) gX10 wm_711 dX10_liesIn_61 ?_
    refine tr_iconst (v := 4) hX dX10_liesIn_64 rfl ?_
    refine tr_iload_n hX 3 dX10_liesIn_65 rfl rfl ?_
    refine tr_imul hX dX10_liesIn_66 ?_
    refine tr_iconst (v := 3) hX dX10_liesIn_67 rfl ?_
    refine tr_iadd hX dX10_liesIn_68 ?_
    refine tr_iald hX 49 (by decide) rfl dX10_liesIn_69 ?_
    refine tr_imul hX dX10_liesIn_70 ?_
    refine tr_iload hX 0 dX10_liesIn_71 rfl ?_
    refine tr_aload_n hX 2 dX10_liesIn_73 rfl rfl ?_
    refine tr_getR hX 36 15 (by decide) rfl rfl rfl (by decide) gX10 wm_711 dX10_liesIn_74 ?_
    refine tr_iconst (v := 4) hX dX10_liesIn_77 rfl ?_
    refine tr_iload_n hX 3 dX10_liesIn_78 rfl rfl ?_
    refine tr_imul hX dX10_liesIn_79 ?_
    refine tr_iconst (v := 2) hX dX10_liesIn_80 rfl ?_
    refine tr_iadd hX dX10_liesIn_81 ?_
    refine tr_iald hX 49 (by decide) rfl dX10_liesIn_82 ?_
    refine tr_imul hX dX10_liesIn_83 ?_
    refine tr_isub hX dX10_liesIn_84 ?_
    refine tr_if_lt hX 92 dX10_liesIn_85 (by decide) ?_ ?_
    · refine tr_iconst (v := 0) hX dX10_liesIn_92 rfl ?_
      exact tr_zret hX hR rfl dX10_liesIn_93
    · refine tr_iconst (v := 1) hX dX10_liesIn_88 rfl ?_
      refine tr_goto hX 93 dX10_liesIn_89 (by decide) ?_
      exact tr_zret hX hR rfl dX10_liesIn_93
theorem c_X10_liesIn (E : Ex) (hE : va_D (AW E) (wd E (fun _ _ => 0))) (N : Nat) (s : Hp) (x1 x2 x3 : Int32) (r : Int32 × Hp) (h : f_X10_liesIn N s x1 x2 x3 = some r) : CtrI E yX10_liesIn cX10_liesIn 6 (some .boolean) 0 0 [rf E 36, .int x1, .int x2, .int x3] s r :=
  ctrI_of (by decide +kernel) hE (Nat.le_of_ble_eq_true rfl) h (fun G hX hR hG => by subst hG; exact w_X10_liesIn hX hR hE N s x1 x2 x3)
set_option maxRecDepth 20000 in
set_option maxHeartbeats 2000000 in
theorem w_X10_isPlace_47 {G : Gx} (hX : ok G cX10_isPlace 4 RX10 (some .boolean) 1 25) (hR : okR G) (hE : va_D (AW G.1) (wd G.1 (fun _ _ => 0))) (N : Nat) (k2 : Hp → Int32 → Int32 → Int32 → Option (Int32 × Hp)) (hk2 : ∀ (s : Hp) (x1 x2 x3 : Int32), T G (k2 s x1 x2 x3) s 2 [(0, rf G.1 36), (1, .int x1), (2, .int x2), (3, .int x3)] []) (s : Hp) (x1 x2 x3 : Int32) : T G (f_X10_isPlace_47 N k2 s x1 x2 x3) s 47 [(0, rf G.1 36), (1, .int x1), (2, .int x2), (3, .int x3)] [] := by
  unfold f_X10_isPlace_47
  refine tr_iincB (b := 1) (lv2 := fun y3 => [(3, .int y3), (0, rf G.1 36), (1, .int x1), (2, .int x2)]) hX 3 dX10_isPlace_47 rfl rfl (by decide) (fun _ => rfl) fun y3 => ?_
  refine tr_goto hX 2 dX10_isPlace_50 (by decide) ?_
  refine tr_lv (lv2 := [(0, rf G.1 36), (1, .int x1), (2, .int x2), (3, .int y3)]) [1, 2, 3, 0] rfl ?_
  exact hk2 s x1 x2 y3
set_option maxRecDepth 20000 in
set_option maxHeartbeats 2000000 in
theorem w_X10_isPlace_2 {G : Gx} (hX : ok G cX10_isPlace 4 RX10 (some .boolean) 1 25) (hR : okR G) (hE : va_D (AW G.1) (wd G.1 (fun _ _ => 0))) (N : Nat) (k2 : Hp → Int32 → Int32 → Int32 → Option (Int32 × Hp)) (hk2 : ∀ (s : Hp) (x1 x2 x3 : Int32), T G (k2 s x1 x2 x3) s 2 [(0, rf G.1 36), (1, .int x1), (2, .int x2), (3, .int x3)] []) (s : Hp) (x1 x2 x3 : Int32) : T G (f_X10_isPlace_2 N k2 s x1 x2 x3) s 2 [(0, rf G.1 36), (1, .int x1), (2, .int x2), (3, .int x3)] [] := by
  unfold f_X10_isPlace_2
  refine tr_iload_n hX 3 dX10_isPlace_2 rfl rfl ?_
  refine tr_aload_n hX 0 dX10_isPlace_3 rfl rfl ?_
  refine tr_getI hX 36 8 (by decide) rfl rfl rfl (by decide) gX10 wm_704 dX10_isPlace_4 ?_
  refine tr_icmp_ge hX 53 dX10_isPlace_7 (by decide) ?_ ?_
  · refine tr_iconst (v := 1) hX dX10_isPlace_53 rfl ?_
    exact tr_zret hX hR rfl dX10_isPlace_54
  · refine tr_aload_n hX 0 dX10_isPlace_10 rfl rfl ?_
    refine tr_getR hX 36 19 (by decide) rfl rfl rfl (by decide) gX10 wm_715 dX10_isPlace_11 ?_
    refine tr_iload_n hX 3 dX10_isPlace_14 rfl rfl ?_
    refine tr_iald hX 50 (by decide) rfl dX10_isPlace_15 ?_
    refine tr_iload_n hX 1 dX10_isPlace_16 rfl rfl ?_
    refine tr_icmp_ne hX 47 dX10_isPlace_17 (by decide) ?_ ?_
    · exact w_X10_isPlace_47 hX hR hE N k2 hk2 s x1 x2 x3
    · refine tr_aload_n hX 0 dX10_isPlace_20 rfl rfl ?_
      refine tr_getR hX 36 14 (by decide) rfl rfl rfl (by decide) gX10 wm_710 dX10_isPlace_21 ?_
      refine tr_iload_n hX 3 dX10_isPlace_24 rfl rfl ?_
      refine tr_zald hX 48 (by decide) rfl dX10_isPlace_25 ?_
      refine tr_if_eq hX 47 dX10_isPlace_26 (by decide) ?_ ?_
      · exact w_X10_isPlace_47 hX hR hE N k2 hk2 s x1 x2 x3
      · refine tr_aload_n hX 0 dX10_isPlace_29 rfl rfl ?_
        refine tr_iload_n hX 3 dX10_isPlace_30 rfl rfl ?_
        refine tr_iload_n hX 2 dX10_isPlace_31 rfl rfl ?_
        refine tr_bipush (v := 32) hX dX10_isPlace_32 rfl ?_
        refine tr_iremC hX dX10_isPlace_34 (by decide) ?_
        refine tr_iload_n hX 2 dX10_isPlace_35 rfl rfl ?_
        refine tr_bipush (v := 32) hX dX10_isPlace_36 rfl ?_
        refine tr_idivC hX dX10_isPlace_38 (by decide) ?_
        refine tr_callV hX 36 [.int x3, .int (irm x2 32), .int (x2 / 32)] kv_X10_liesIn wm_874 (by decide) rfl rfl rfl (by decide) rfl rfl (Nat.le_of_ble_eq_true rfl) dX10_isPlace_39 (fun vq sq hq => c_X10_liesIn G.1 hE N s x3 (irm x2 32) (x2 / 32) (vq, sq) hq) fun v2 s1 => ?_
        refine tr_if_ne hX 47 dX10_isPlace_42 (by decide) ?_ ?_
        · exact w_X10_isPlace_47 hX hR hE N k2 hk2 s1 x1 x2 x3
        · refine tr_iconst (v := 0) hX dX10_isPlace_45 rfl ?_
          exact tr_zret hX hR rfl dX10_isPlace_46
theorem wl_X10_isPlace_2 {G : Gx} (hX : ok G cX10_isPlace 4 RX10 (some .boolean) 1 25) (hR : okR G) (hE : va_D (AW G.1) (wd G.1 (fun _ _ => 0))) (N : Nat) : ∀ (n : Nat) (s : Hp) (x1 x2 x3 : Int32), T G (lp (fun _ _ _ _ => none) (f_X10_isPlace_2 N) n s x1 x2 x3) s 2 [(0, rf G.1 36), (1, .int x1), (2, .int x2), (3, .int x3)] [] := by
  intro n
  induction n with
  | zero => exact fun s x1 x2 x3 h => nomatch (show (none : Option (Int32 × Hp)) = some _ from h)
  | succ n ih => exact fun s x1 x2 x3 => w_X10_isPlace_2 hX hR hE N _ ih s x1 x2 x3
set_option maxRecDepth 20000 in
set_option maxHeartbeats 2000000 in
theorem w_X10_isPlace {G : Gx} (hX : ok G cX10_isPlace 4 RX10 (some .boolean) 1 25) (hR : okR G) (hE : va_D (AW G.1) (wd G.1 (fun _ _ => 0))) (N : Nat) (s : Hp) (x1 x2 : Int32) : T G (f_X10_isPlace N s x1 x2) s 0 [(0, rf G.1 36), (1, .int x1), (2, .int x2)] [] := by
  unfold f_X10_isPlace
  refine tr_iconst (v := 0) hX dX10_isPlace_0 rfl ?_
  refine tr_istore_n (lv2 := [(3, .int 0), (0, rf G.1 36), (1, .int x1), (2, .int x2)]) hX dX10_isPlace_1 rfl (by decide) rfl ?_
  refine tr_lv (lv2 := [(0, rf G.1 36), (1, .int x1), (2, .int x2), (3, .int 0)]) [1, 2, 3, 0] rfl ?_
  exact wl_X10_isPlace_2 hX hR hE N N s x1 x2 0
theorem c_X10_isPlace (E : Ex) (hE : va_D (AW E) (wd E (fun _ _ => 0))) (N : Nat) (s : Hp) (x1 x2 : Int32) (r : Int32 × Hp) (h : f_X10_isPlace N s x1 x2 = some r) : CtrI E yX10_isPlace cX10_isPlace 4 (some .boolean) 1 25 [rf E 36, .int x1, .int x2] s r :=
  ctrI_of (by decide +kernel) hE (Nat.le_of_ble_eq_true rfl) h (fun G hX hR hG => by subst hG; exact w_X10_isPlace hX hR hE N s x1 x2)
set_option maxRecDepth 20000 in
set_option maxHeartbeats 2000000 in
theorem w_X10_sender_82 {G : Gx} (hX : ok G cX10_sender 9 RX10 (some .int) 4 90) (hR : okR G) (hE : va_D (AW G.1) (wd G.1 (fun _ _ => 0))) (N : Nat) (k57 : Hp → Int32 → Int32 → Int32 → Option (Int32 × Hp)) (hk57 : ∀ (s : Hp) (x1 x4 x5 : Int32), T G (k57 s x1 x4 x5) s 57 [(0, rf G.1 36), (1, .int x1), (4, .int x4), (5, .int x5)] []) (s : Hp) (x1 x5 t0 t1 : Int32) : T G (f_X10_sender_82 N k57 s x1 x5 t0 t1) s 82 [(0, rf G.1 36), (1, .int x1), (5, .int x5)] [.int t1, .int t0] := by
  unfold f_X10_sender_82
  refine tr_iadd hX dX10_sender_82 ?_
  refine tr_istoreB (lv2 := fun y10 => [(4, .int y10), (0, rf G.1 36), (1, .int x1), (5, .int x5)]) hX dX10_sender_83 (by decide) (fun _ => rfl) fun y10 => ?_
  refine tr_iincB (b := 1) (lv2 := fun y11 => [(5, .int y11), (4, .int y10), (0, rf G.1 36), (1, .int x1)]) hX 3 dX10_sender_85 rfl rfl (by decide) (fun _ => rfl) fun y11 => ?_
  refine tr_goto hX 57 dX10_sender_88 (by decide) ?_
  refine tr_lv (lv2 := [(0, rf G.1 36), (1, .int x1), (4, .int y10), (5, .int y11)]) [2, 3, 1, 0] rfl ?_
  exact hk57 s x1 y10 y11
set_option maxRecDepth 20000 in
set_option maxHeartbeats 2000000 in
theorem w_X10_sender_57 {G : Gx} (hX : ok G cX10_sender 9 RX10 (some .int) 4 90) (hR : okR G) (hE : va_D (AW G.1) (wd G.1 (fun _ _ => 0))) (N : Nat) (k57 : Hp → Int32 → Int32 → Int32 → Option (Int32 × Hp)) (hk57 : ∀ (s : Hp) (x1 x4 x5 : Int32), T G (k57 s x1 x4 x5) s 57 [(0, rf G.1 36), (1, .int x1), (4, .int x4), (5, .int x5)] []) (s : Hp) (x1 x4 x5 : Int32) : T G (f_X10_sender_57 N k57 s x1 x4 x5) s 57 [(0, rf G.1 36), (1, .int x1), (4, .int x4), (5, .int x5)] [] := by
  unfold f_X10_sender_57
  refine tr_iload hX 3 dX10_sender_57 rfl ?_
  refine tr_sipush (v := 1024) hX dX10_sender_59 rfl ?_
  refine tr_icmp_ge hX 91 dX10_sender_62 (by decide) ?_ ?_
  · refine tr_iload hX 2 dX10_sender_91 rfl ?_
    exact tr_iret hX hR dX10_sender_93
  · refine tr_iload hX 2 dX10_sender_65 rfl ?_
    refine tr_aload_n hX 0 dX10_sender_67 rfl rfl ?_
    refine tr_iload_n hX 1 dX10_sender_68 rfl rfl ?_
    refine tr_iload hX 3 dX10_sender_69 rfl ?_
    refine tr_callV hX 36 [.int x1, .int x5] kv_X10_isPlace wm_870 (by decide) rfl rfl rfl (by decide) rfl rfl (Nat.le_of_ble_eq_true rfl) dX10_sender_71 (fun vq sq hq => c_X10_isPlace G.1 hE N s x1 x5 (vq, sq) hq) fun v7 s6 => ?_
    refine tr_if_eq hX 81 dX10_sender_74 (by decide) ?_ ?_
    · refine tr_iconst (v := 0) hX dX10_sender_81 rfl ?_
      refine tr_lv (lv2 := [(0, rf G.1 36), (1, .int x1), (5, .int x5)]) [0, 1, 3] rfl ?_
      exact w_X10_sender_82 hX hR hE N k57 hk57 s6 x1 x5 x4 0
    · refine tr_iconst (v := 1) hX dX10_sender_77 rfl ?_
      refine tr_goto hX 82 dX10_sender_78 (by decide) ?_
      refine tr_lv (lv2 := [(0, rf G.1 36), (1, .int x1), (5, .int x5)]) [0, 1, 3] rfl ?_
      exact w_X10_sender_82 hX hR hE N k57 hk57 s6 x1 x5 x4 1
theorem wl_X10_sender_57 {G : Gx} (hX : ok G cX10_sender 9 RX10 (some .int) 4 90) (hR : okR G) (hE : va_D (AW G.1) (wd G.1 (fun _ _ => 0))) (N : Nat) : ∀ (n : Nat) (s : Hp) (x1 x4 x5 : Int32), T G (lp (fun _ _ _ _ => none) (f_X10_sender_57 N) n s x1 x4 x5) s 57 [(0, rf G.1 36), (1, .int x1), (4, .int x4), (5, .int x5)] [] := by
  intro n
  induction n with
  | zero => exact fun s x1 x4 x5 h => nomatch (show (none : Option (Int32 × Hp)) = some _ from h)
  | succ n ih => exact fun s x1 x4 x5 => w_X10_sender_57 hX hR hE N _ ih s x1 x4 x5
set_option maxRecDepth 20000 in
set_option maxHeartbeats 2000000 in
theorem w_X10_sender_246 {G : Gx} (hX : ok G cX10_sender 9 RX10 (some .int) 4 90) (hR : okR G) (hE : va_D (AW G.1) (wd G.1 (fun _ _ => 0))) (N : Nat) (k136 : Hp → Int32 → Int32 → Int32 → Int32 → Int32 → Int32 → Option (Int32 × Hp)) (hk136 : ∀ (s : Hp) (x1 x2 x4 x5 x6 x7 : Int32), T G (k136 s x1 x2 x4 x5 x6 x7) s 136 [(0, rf G.1 36), (1, .int x1), (2, .int x2), (4, .int x4), (5, .int x5), (6, .int x6), (7, .int x7)] []) (s : Hp) (x1 x2 x4 x5 x6 x7 : Int32) : T G (f_X10_sender_246 N k136 s x1 x2 x4 x5 x6 x7) s 246 [(0, rf G.1 36), (1, .int x1), (2, .int x2), (4, .int x4), (5, .int x5), (6, .int x6), (7, .int x7)] [] := by
  unfold f_X10_sender_246
  refine tr_iincB (b := 1) (lv2 := fun y14 => [(7, .int y14), (0, rf G.1 36), (1, .int x1), (2, .int x2), (4, .int x4), (5, .int x5), (6, .int x6)]) hX 6 dX10_sender_246 rfl rfl (by decide) (fun _ => rfl) fun y14 => ?_
  refine tr_goto hX 136 dX10_sender_249 (by decide) ?_
  refine tr_lv (lv2 := [(0, rf G.1 36), (1, .int x1), (2, .int x2), (4, .int x4), (5, .int x5), (6, .int x6), (7, .int y14)]) [1, 2, 3, 4, 5, 6, 0] rfl ?_
  exact hk136 s x1 x2 x4 x5 x6 y14
set_option maxRecDepth 20000 in
set_option maxHeartbeats 2000000 in
theorem w_X10_sender_242 {G : Gx} (hX : ok G cX10_sender 9 RX10 (some .int) 4 90) (hR : okR G) (hE : va_D (AW G.1) (wd G.1 (fun _ _ => 0))) (N : Nat) (k136 : Hp → Int32 → Int32 → Int32 → Int32 → Int32 → Int32 → Option (Int32 × Hp)) (hk136 : ∀ (s : Hp) (x1 x2 x4 x5 x6 x7 : Int32), T G (k136 s x1 x2 x4 x5 x6 x7) s 136 [(0, rf G.1 36), (1, .int x1), (2, .int x2), (4, .int x4), (5, .int x5), (6, .int x6), (7, .int x7)] []) (s : Hp) (x1 x2 x4 x5 x7 x8 : Int32) : T G (f_X10_sender_242 N k136 s x1 x2 x4 x5 x7 x8) s 242 [(0, rf G.1 36), (1, .int x1), (2, .int x2), (4, .int x4), (5, .int x5), (7, .int x7), (8, .int x8)] [] := by
  unfold f_X10_sender_242
  refine tr_iload hX 6 dX10_sender_242 rfl ?_
  refine tr_istore (lv2 := [(6, .int x8), (0, rf G.1 36), (1, .int x1), (2, .int x2), (4, .int x4), (5, .int x5), (7, .int x7), (8, .int x8)]) hX dX10_sender_244 (by decide) rfl ?_
  refine tr_lv (lv2 := [(0, rf G.1 36), (1, .int x1), (2, .int x2), (4, .int x4), (5, .int x5), (6, .int x8), (7, .int x7)]) [1, 2, 3, 4, 5, 0, 6] rfl ?_
  exact w_X10_sender_246 hX hR hE N k136 hk136 s x1 x2 x4 x5 x8 x7
set_option maxRecDepth 20000 in
set_option maxHeartbeats 2000000 in
theorem w_X10_sender_225 {G : Gx} (hX : ok G cX10_sender 9 RX10 (some .int) 4 90) (hR : okR G) (hE : va_D (AW G.1) (wd G.1 (fun _ _ => 0))) (N : Nat) (k136 : Hp → Int32 → Int32 → Int32 → Int32 → Int32 → Int32 → Option (Int32 × Hp)) (hk136 : ∀ (s : Hp) (x1 x2 x4 x5 x6 x7 : Int32), T G (k136 s x1 x2 x4 x5 x6 x7) s 136 [(0, rf G.1 36), (1, .int x1), (2, .int x2), (4, .int x4), (5, .int x5), (6, .int x6), (7, .int x7)] []) (s : Hp) (x1 x2 x4 x5 x6 x7 x8 : Int32) : T G (f_X10_sender_225 N k136 s x1 x2 x4 x5 x6 x7 x8) s 225 [(0, rf G.1 36), (1, .int x1), (2, .int x2), (4, .int x4), (5, .int x5), (6, .int x6), (7, .int x7), (8, .int x8)] [] := by
  unfold f_X10_sender_225
  refine tr_iload hX 7 dX10_sender_225 rfl ?_
  refine tr_iload hX 5 dX10_sender_227 rfl ?_
  refine tr_icmp_ge hX 246 dX10_sender_229 (by decide) ?_ ?_
  · refine tr_lv (lv2 := [(0, rf G.1 36), (1, .int x1), (2, .int x2), (4, .int x4), (5, .int x5), (6, .int x6), (7, .int x7)]) [0, 1, 2, 3, 4, 5, 6] rfl ?_
    exact w_X10_sender_246 hX hR hE N k136 hk136 s x1 x2 x4 x5 x6 x7
  · refine tr_goto hX 242 dX10_sender_232 (by decide) ?_
    refine tr_lv (lv2 := [(0, rf G.1 36), (1, .int x1), (2, .int x2), (4, .int x4), (5, .int x5), (7, .int x7), (8, .int x8)]) [0, 1, 2, 3, 4, 6, 7] rfl ?_
    exact w_X10_sender_242 hX hR hE N k136 hk136 s x1 x2 x4 x5 x7 x8
set_option maxRecDepth 20000 in
set_option maxHeartbeats 2000000 in
theorem w_X10_sender_213 {G : Gx} (hX : ok G cX10_sender 9 RX10 (some .int) 4 90) (hR : okR G) (hE : va_D (AW G.1) (wd G.1 (fun _ _ => 0))) (N : Nat) (k136 : Hp → Int32 → Int32 → Int32 → Int32 → Int32 → Int32 → Option (Int32 × Hp)) (hk136 : ∀ (s : Hp) (x1 x2 x4 x5 x6 x7 : Int32), T G (k136 s x1 x2 x4 x5 x6 x7) s 136 [(0, rf G.1 36), (1, .int x1), (2, .int x2), (4, .int x4), (5, .int x5), (6, .int x6), (7, .int x7)] []) (s : Hp) (x1 x2 x4 x5 x6 x7 t0 : Int32) : T G (f_X10_sender_213 N k136 s x1 x2 x4 x5 x6 x7 t0) s 213 [(0, rf G.1 36), (1, .int x1), (2, .int x2), (4, .int x4), (5, .int x5), (6, .int x6), (7, .int x7)] [.int t0] := by
  unfold f_X10_sender_213
  refine tr_istore (lv2 := [(8, .int t0), (0, rf G.1 36), (1, .int x1), (2, .int x2), (4, .int x4), (5, .int x5), (6, .int x6), (7, .int x7)]) hX dX10_sender_213 (by decide) rfl ?_
  refine tr_iload_n hX 3 dX10_sender_215 rfl rfl ?_
  refine tr_iconst (v := 3) hX dX10_sender_216 rfl ?_
  refine tr_icmp_eq hX 225 dX10_sender_217 (by decide) ?_ ?_
  · refine tr_lv (lv2 := [(0, rf G.1 36), (1, .int x1), (2, .int x2), (4, .int x4), (5, .int x5), (6, .int x6), (7, .int x7), (8, .int t0)]) [1, 2, 3, 4, 5, 6, 7, 0] rfl ?_
    exact w_X10_sender_225 hX hR hE N k136 hk136 s x1 x2 x4 x5 x6 x7 t0
  · refine tr_iload_n hX 3 dX10_sender_220 rfl rfl ?_
    refine tr_iconst (v := 5) hX dX10_sender_221 rfl ?_
    refine tr_icmp_ne hX 235 dX10_sender_222 (by decide) ?_ ?_
    · refine tr_iload hX 0 dX10_sender_235 rfl ?_
      refine tr_iload hX 6 dX10_sender_237 rfl ?_
      refine tr_icmp_le hX 246 dX10_sender_239 (by decide) ?_ ?_
      · refine tr_lv (lv2 := [(0, rf G.1 36), (1, .int x1), (2, .int x2), (4, .int x4), (5, .int x5), (6, .int x6), (7, .int x7)]) [1, 2, 3, 4, 5, 6, 7] rfl ?_
        exact w_X10_sender_246 hX hR hE N k136 hk136 s x1 x2 x4 x5 x6 x7
      · refine tr_lv (lv2 := [(0, rf G.1 36), (1, .int x1), (2, .int x2), (4, .int x4), (5, .int x5), (7, .int x7), (8, .int t0)]) [1, 2, 3, 4, 5, 7, 0] rfl ?_
        exact w_X10_sender_242 hX hR hE N k136 hk136 s x1 x2 x4 x5 x7 t0
    · refine tr_lv (lv2 := [(0, rf G.1 36), (1, .int x1), (2, .int x2), (4, .int x4), (5, .int x5), (6, .int x6), (7, .int x7), (8, .int t0)]) [1, 2, 3, 4, 5, 6, 7, 0] rfl ?_
      exact w_X10_sender_225 hX hR hE N k136 hk136 s x1 x2 x4 x5 x6 x7 t0
set_option maxRecDepth 20000 in
set_option maxHeartbeats 2000000 in
theorem w_X10_sender_275 {G : Gx} (hX : ok G cX10_sender 9 RX10 (some .int) 4 90) (hR : okR G) (hE : va_D (AW G.1) (wd G.1 (fun _ _ => 0))) (N : Nat) (k275 : Hp → Int32 → Int32 → Int32 → Option (Int32 × Hp)) (hk275 : ∀ (s : Hp) (x5 x7 x8 : Int32), T G (k275 s x5 x7 x8) s 275 [(0, rf G.1 36), (5, .int x5), (7, .int x7), (8, .int x8)] []) (s : Hp) (x5 x7 x8 : Int32) : T G (f_X10_sender_275 N k275 s x5 x7 x8) s 275 [(0, rf G.1 36), (5, .int x5), (7, .int x7), (8, .int x8)] [] := by
  unfold f_X10_sender_275
  refine tr_iload hX 3 dX10_sender_275 rfl ?_
  refine tr_aload_n hX 0 dX10_sender_277 rfl rfl ?_
  refine tr_getI hX 36 0 (by decide) rfl rfl rfl (by decide) gX10 wm_696 dX10_sender_278 ?_
  refine tr_icmp_ge hX 302 dX10_sender_281 (by decide) ?_ ?_
  · refine tr_iload hX 2 dX10_sender_302 rfl ?_
    exact tr_iret hX hR dX10_sender_304
  · refine tr_iload hX 2 dX10_sender_284 rfl ?_
    refine tr_iload hX 1 dX10_sender_286 rfl ?_
    refine tr_iload hX 3 dX10_sender_288 rfl ?_
    refine tr_ishr hX dX10_sender_290 ?_
    refine tr_iconst (v := 1) hX dX10_sender_291 rfl ?_
    refine tr_iand hX dX10_sender_292 ?_
    refine tr_iadd hX dX10_sender_293 ?_
    refine tr_istoreB (lv2 := fun y12 => [(7, .int y12), (0, rf G.1 36), (5, .int x5), (8, .int x8)]) hX dX10_sender_294 (by decide) (fun _ => rfl) fun y12 => ?_
    refine tr_iincB (b := 1) (lv2 := fun y13 => [(8, .int y13), (7, .int y12), (0, rf G.1 36), (5, .int x5)]) hX 3 dX10_sender_296 rfl rfl (by decide) (fun _ => rfl) fun y13 => ?_
    refine tr_goto hX 275 dX10_sender_299 (by decide) ?_
    refine tr_lv (lv2 := [(0, rf G.1 36), (5, .int x5), (7, .int y12), (8, .int y13)]) [2, 3, 1, 0] rfl ?_
    exact hk275 s x5 y12 y13
theorem wl_X10_sender_275 {G : Gx} (hX : ok G cX10_sender 9 RX10 (some .int) 4 90) (hR : okR G) (hE : va_D (AW G.1) (wd G.1 (fun _ _ => 0))) (N : Nat) : ∀ (n : Nat) (s : Hp) (x5 x7 x8 : Int32), T G (lp (fun _ _ _ _ => none) (f_X10_sender_275 N) n s x5 x7 x8) s 275 [(0, rf G.1 36), (5, .int x5), (7, .int x7), (8, .int x8)] [] := by
  intro n
  induction n with
  | zero => exact fun s x5 x7 x8 h => nomatch (show (none : Option (Int32 × Hp)) = some _ from h)
  | succ n ih => exact fun s x5 x7 x8 => w_X10_sender_275 hX hR hE N _ ih s x5 x7 x8
set_option maxRecDepth 20000 in
set_option maxHeartbeats 2000000 in
theorem w_X10_sender_136 {G : Gx} (hX : ok G cX10_sender 9 RX10 (some .int) 4 90) (hR : okR G) (hE : va_D (AW G.1) (wd G.1 (fun _ _ => 0))) (N : Nat) (k136 : Hp → Int32 → Int32 → Int32 → Int32 → Int32 → Int32 → Option (Int32 × Hp)) (hk136 : ∀ (s : Hp) (x1 x2 x4 x5 x6 x7 : Int32), T G (k136 s x1 x2 x4 x5 x6 x7) s 136 [(0, rf G.1 36), (1, .int x1), (2, .int x2), (4, .int x4), (5, .int x5), (6, .int x6), (7, .int x7)] []) (s : Hp) (x1 x2 x4 x5 x6 x7 : Int32) : T G (f_X10_sender_136 N k136 s x1 x2 x4 x5 x6 x7) s 136 [(0, rf G.1 36), (1, .int x1), (2, .int x2), (4, .int x4), (5, .int x5), (6, .int x6), (7, .int x7)] [] := by
  unfold f_X10_sender_136
  refine tr_iload hX 6 dX10_sender_136 rfl ?_
  refine tr_aload_n hX 0 dX10_sender_138 rfl rfl ?_
  refine tr_getI hX 36 8 (by decide) rfl rfl rfl (by decide) gX10 wm_704 dX10_sender_139 ?_
  refine tr_icmp_ge hX 252 dX10_sender_142 (by decide) ?_ ?_
  · refine tr_iload_n hX 2 dX10_sender_252 rfl rfl ?_
    refine tr_iconst (v := 1) hX dX10_sender_253 rfl ?_
    refine tr_icmp_ne hX 260 dX10_sender_254 (by decide) ?_ ?_
    · refine tr_iload_n hX 2 dX10_sender_260 rfl rfl ?_
      refine tr_bipush (v := 8) hX dX10_sender_261 rfl ?_
      refine tr_icmp_eq hX 269 dX10_sender_263 (by decide) ?_ ?_
      · refine tr_iconst (v := 0) hX dX10_sender_269 rfl ?_
        refine tr_istore (lv2 := [(7, .int 0), (0, rf G.1 36), (1, .int x1), (2, .int x2), (4, .int x4), (5, .int x5), (6, .int x6)]) hX dX10_sender_270 (by decide) rfl ?_
        refine tr_iconst (v := 0) hX dX10_sender_272 rfl ?_
        refine tr_istore (lv2 := [(8, .int 0), (7, .int 0), (0, rf G.1 36), (1, .int x1), (2, .int x2), (4, .int x4), (5, .int x5), (6, .int x6)]) hX dX10_sender_273 (by decide) rfl ?_
        refine tr_lv (lv2 := [(0, rf G.1 36), (5, .int x5), (7, .int 0), (8, .int 0)]) [2, 6, 1, 0] rfl ?_
        exact wl_X10_sender_275 hX hR hE N N s x5 0 0
      · refine tr_iload hX 5 dX10_sender_266 rfl ?_
        exact tr_iret hX hR dX10_sender_268
    · refine tr_iload hX 3 dX10_sender_257 rfl ?_
      exact tr_iret hX hR dX10_sender_259
  · refine tr_aload_n hX 0 dX10_sender_145 rfl rfl ?_
    refine tr_getR hX 36 19 (by decide) rfl rfl rfl (by decide) gX10 wm_715 dX10_sender_146 ?_
    refine tr_iload hX 6 dX10_sender_149 rfl ?_
    refine tr_iald hX 50 (by decide) rfl dX10_sender_151 ?_
    refine tr_iload_n hX 1 dX10_sender_152 rfl rfl ?_
    refine tr_icmp_eq hX 159 dX10_sender_153 (by decide) ?_ ?_
    · refine tr_iincB (b := 1) (lv2 := fun y8 => [(4, .int y8), (0, rf G.1 36), (1, .int x1), (2, .int x2), (5, .int x5), (6, .int x6), (7, .int x7)]) hX 3 dX10_sender_159 rfl rfl (by decide) (fun _ => rfl) fun y8 => ?_
      refine tr_iload hX 4 dX10_sender_162 rfl ?_
      refine tr_iconst (v := 1) hX dX10_sender_164 rfl ?_
      refine tr_aload_n hX 1 dX10_sender_165 rfl rfl ?_
      refine tr_getR hX 36 9 (by decide) rfl rfl rfl (by decide) gX10 wm_705 dX10_sender_166 ?_
      refine tr_iload hX 6 dX10_sender_169 rfl ?_
      refine tr_iald hX 43 (by decide) rfl dX10_sender_171 ?_
      refine tr_ishl hX dX10_sender_172 ?_
      refine tr_ior hX dX10_sender_173 ?_
      refine tr_istoreB (lv2 := fun y9 => [(5, .int y9), (4, .int y8), (0, rf G.1 36), (1, .int x1), (2, .int x2), (6, .int x6), (7, .int x7)]) hX dX10_sender_174 (by decide) (fun _ => rfl) fun y9 => ?_
      refine tr_iload_n hX 4 dX10_sender_176 rfl rfl ?_
      refine tr_iconst (v := 3) hX dX10_sender_177 rfl ?_
      refine tr_icmp_ne hX 191 dX10_sender_178 (by decide) ?_ ?_
      · refine tr_iload_n hX 4 dX10_sender_191 rfl rfl ?_
        refine tr_iconst (v := 4) hX dX10_sender_192 rfl ?_
        refine tr_icmp_ne hX 206 dX10_sender_193 (by decide) ?_ ?_
        · refine tr_aload_n hX 2 dX10_sender_206 rfl rfl ?_
          refine tr_getR hX 36 13 (by decide) rfl rfl rfl (by decide) gX10 wm_709 dX10_sender_207 ?_
          refine tr_iload hX 6 dX10_sender_210 rfl ?_
          refine tr_iald hX 47 (by decide) rfl dX10_sender_212 ?_
          refine tr_lv (lv2 := [(0, rf G.1 36), (1, .int x1), (2, .int x2), (4, .int y8), (5, .int y9), (6, .int x6), (7, .int x7)]) [2, 3, 4, 1, 0, 5, 6] rfl ?_
          exact w_X10_sender_213 hX hR hE N k136 hk136 s x1 x2 y8 y9 x6 x7 (s 47 (ix x7))
        · refine tr_aload_n hX 2 dX10_sender_196 rfl rfl ?_
          refine tr_getR hX 36 12 (by decide) rfl rfl rfl (by decide) gX10 wm_708 dX10_sender_197 ?_
          refine tr_iload hX 6 dX10_sender_200 rfl ?_
          refine tr_iald hX 46 (by decide) rfl dX10_sender_202 ?_
          refine tr_goto hX 213 dX10_sender_203 (by decide) ?_
          refine tr_lv (lv2 := [(0, rf G.1 36), (1, .int x1), (2, .int x2), (4, .int y8), (5, .int y9), (6, .int x6), (7, .int x7)]) [2, 3, 4, 1, 0, 5, 6] rfl ?_
          exact w_X10_sender_213 hX hR hE N k136 hk136 s x1 x2 y8 y9 x6 x7 (s 46 (ix x7))
      · refine tr_aload_n hX 2 dX10_sender_181 rfl rfl ?_
        refine tr_getR hX 36 11 (by decide) rfl rfl rfl (by decide) gX10 wm_707 dX10_sender_182 ?_
        refine tr_iload hX 6 dX10_sender_185 rfl ?_
        refine tr_iald hX 45 (by decide) rfl dX10_sender_187 ?_
        refine tr_goto hX 213 dX10_sender_188 (by decide) ?_
        refine tr_lv (lv2 := [(0, rf G.1 36), (1, .int x1), (2, .int x2), (4, .int y8), (5, .int y9), (6, .int x6), (7, .int x7)]) [2, 3, 4, 1, 0, 5, 6] rfl ?_
        exact w_X10_sender_213 hX hR hE N k136 hk136 s x1 x2 y8 y9 x6 x7 (s 45 (ix x7))
    · refine tr_goto hX 246 dX10_sender_156 (by decide) ?_
      exact w_X10_sender_246 hX hR hE N k136 hk136 s x1 x2 x4 x5 x6 x7
theorem wl_X10_sender_136 {G : Gx} (hX : ok G cX10_sender 9 RX10 (some .int) 4 90) (hR : okR G) (hE : va_D (AW G.1) (wd G.1 (fun _ _ => 0))) (N : Nat) : ∀ (n : Nat) (s : Hp) (x1 x2 x4 x5 x6 x7 : Int32), T G (lp (fun _ _ _ _ _ _ _ => none) (f_X10_sender_136 N) n s x1 x2 x4 x5 x6 x7) s 136 [(0, rf G.1 36), (1, .int x1), (2, .int x2), (4, .int x4), (5, .int x5), (6, .int x6), (7, .int x7)] [] := by
  intro n
  induction n with
  | zero => exact fun s x1 x2 x4 x5 x6 x7 h => nomatch (show (none : Option (Int32 × Hp)) = some _ from h)
  | succ n ih => exact fun s x1 x2 x4 x5 x6 x7 => w_X10_sender_136 hX hR hE N _ ih s x1 x2 x4 x5 x6 x7
set_option maxRecDepth 20000 in
set_option maxHeartbeats 2000000 in
theorem w_X10_sender_131 {G : Gx} (hX : ok G cX10_sender 9 RX10 (some .int) 4 90) (hR : okR G) (hE : va_D (AW G.1) (wd G.1 (fun _ _ => 0))) (N : Nat) (s : Hp) (x1 x2 x4 x5 t0 : Int32) : T G (f_X10_sender_131 N s x1 x2 x4 x5 t0) s 131 [(0, rf G.1 36), (1, .int x1), (2, .int x2), (4, .int x4), (5, .int x5)] [.int t0] := by
  unfold f_X10_sender_131
  refine tr_istore (lv2 := [(6, .int t0), (0, rf G.1 36), (1, .int x1), (2, .int x2), (4, .int x4), (5, .int x5)]) hX dX10_sender_131 (by decide) rfl ?_
  refine tr_iconst (v := 0) hX dX10_sender_133 rfl ?_
  refine tr_istore (lv2 := [(7, .int 0), (6, .int t0), (0, rf G.1 36), (1, .int x1), (2, .int x2), (4, .int x4), (5, .int x5)]) hX dX10_sender_134 (by decide) rfl ?_
  refine tr_lv (lv2 := [(0, rf G.1 36), (1, .int x1), (2, .int x2), (4, .int x4), (5, .int x5), (6, .int t0), (7, .int 0)]) [2, 3, 4, 5, 6, 1, 0] rfl ?_
  exact wl_X10_sender_136 hX hR hE N N s x1 x2 x4 x5 t0 0
set_option maxRecDepth 20000 in
set_option maxHeartbeats 2000000 in
theorem w_X10_sender {G : Gx} (hX : ok G cX10_sender 9 RX10 (some .int) 4 90) (hR : okR G) (hE : va_D (AW G.1) (wd G.1 (fun _ _ => 0))) (N : Nat) (s : Hp) (x1 x2 : Int32) : T G (f_X10_sender N s x1 x2) s 0 [(0, rf G.1 36), (1, .int x1), (2, .int x2)] [] := by
  unfold f_X10_sender
  refine tr_aload_n hX 0 dX10_sender_0 rfl rfl ?_
  refine tr_iload_n hX 1 dX10_sender_1 rfl rfl ?_
  refine tr_callV hX 36 [.int x1] kv_X10_isSender wm_866 (by decide) rfl rfl rfl (by decide) rfl rfl (Nat.le_of_ble_eq_true rfl) dX10_sender_2 (fun vq sq hq => c_X10_isSender G.1 hE N s x1 (vq, sq) hq) fun v2 s1 => ?_
  refine tr_if_eq hX 18 dX10_sender_5 (by decide) ?_ ?_
  · refine tr_iconst (v := (-1)) hX dX10_sender_18 rfl ?_
    exact tr_iret hX hR dX10_sender_19
  · refine tr_iload_n hX 2 dX10_sender_8 rfl rfl ?_
    refine tr_iconst (v := 0) hX dX10_sender_9 rfl ?_
    refine tr_bipush (v := 8) hX dX10_sender_10 rfl ?_
    refine tr_callS hX [.int x2, .int 0, .int 8] ks_X10_isIn wm_809 (by decide) rfl rfl (Nat.le_of_ble_eq_true rfl) dX10_sender_12 (fun vq sq hq => c_X10_isIn G.1 hE N s1 x2 0 8 (vq, sq) hq) fun v4 s3 => ?_
    refine tr_if_ne hX 20 dX10_sender_15 (by decide) ?_ ?_
    · refine tr_aload_n hX 0 dX10_sender_20 rfl rfl ?_
      refine tr_getR hX 36 20 (by decide) rfl rfl rfl (by decide) gX10 wm_716 dX10_sender_21 ?_
      refine tr_iload_n hX 1 dX10_sender_24 rfl rfl ?_
      refine tr_iald hX 51 (by decide) rfl dX10_sender_25 ?_
      refine tr_istore_nB (lv2 := fun y5 => [(3, .int y5), (0, rf G.1 36), (1, .int x1), (2, .int x2)]) hX dX10_sender_26 rfl (by decide) (fun _ => rfl) fun y5 => ?_
      refine tr_iload_n hX 3 dX10_sender_27 rfl rfl ?_
      refine tr_if_ne hX 33 dX10_sender_28 (by decide) ?_ ?_
      · refine tr_iload_n hX 3 dX10_sender_33 rfl rfl ?_
        refine tr_iconst (v := 2) hX dX10_sender_34 rfl ?_
        refine tr_icmp_ne hX 45 dX10_sender_35 (by decide) ?_ ?_
        · refine tr_iconst (v := 0) hX dX10_sender_45 rfl ?_
          refine tr_istore (lv2 := [(4, .int 0), (3, .int y5), (0, rf G.1 36), (1, .int x1), (2, .int x2)]) hX dX10_sender_46 (by decide) rfl ?_
          refine tr_iload_n hX 4 dX10_sender_48 rfl rfl ?_
          refine tr_bipush (v := 7) hX dX10_sender_49 rfl ?_
          refine tr_icmp_ne hX 94 dX10_sender_51 (by decide) ?_ ?_
          · refine tr_iconst (v := 0) hX dX10_sender_94 rfl ?_
            refine tr_istore (lv2 := [(5, .int 0), (4, .int 0), (3, .int y5), (0, rf G.1 36), (1, .int x1), (2, .int x2)]) hX dX10_sender_95 (by decide) rfl ?_
            refine tr_iload_n hX 5 dX10_sender_97 rfl rfl ?_
            refine tr_iconst (v := 3) hX dX10_sender_98 rfl ?_
            refine tr_icmp_ne hX 111 dX10_sender_99 (by decide) ?_ ?_
            · refine tr_iload_n hX 5 dX10_sender_111 rfl rfl ?_
              refine tr_iconst (v := 4) hX dX10_sender_112 rfl ?_
              refine tr_icmp_ne hX 125 dX10_sender_113 (by decide) ?_ ?_
              · refine tr_aload_n hX 3 dX10_sender_125 rfl rfl ?_
                refine tr_getR hX 36 13 (by decide) rfl rfl rfl (by decide) gX10 wm_709 dX10_sender_126 ?_
                refine tr_iload_n hX 2 dX10_sender_129 rfl rfl ?_
                refine tr_iald hX 47 (by decide) rfl dX10_sender_130 ?_
                refine tr_lv (lv2 := [(0, rf G.1 36), (1, .int x1), (2, .int x2), (4, .int 0), (5, .int 0)]) [3, 4, 5, 1, 0] rfl ?_
                exact w_X10_sender_131 hX hR hE N s3 x1 x2 0 0 (s3 47 (ix y5))
              · refine tr_aload_n hX 3 dX10_sender_116 rfl rfl ?_
                refine tr_getR hX 36 12 (by decide) rfl rfl rfl (by decide) gX10 wm_708 dX10_sender_117 ?_
                refine tr_iload_n hX 2 dX10_sender_120 rfl rfl ?_
                refine tr_iald hX 46 (by decide) rfl dX10_sender_121 ?_
                refine tr_goto hX 131 dX10_sender_122 (by decide) ?_
                refine tr_lv (lv2 := [(0, rf G.1 36), (1, .int x1), (2, .int x2), (4, .int 0), (5, .int 0)]) [3, 4, 5, 1, 0] rfl ?_
                exact w_X10_sender_131 hX hR hE N s3 x1 x2 0 0 (s3 46 (ix y5))
            · refine tr_aload_n hX 3 dX10_sender_102 rfl rfl ?_
              refine tr_getR hX 36 11 (by decide) rfl rfl rfl (by decide) gX10 wm_707 dX10_sender_103 ?_
              refine tr_iload_n hX 2 dX10_sender_106 rfl rfl ?_
              refine tr_iald hX 45 (by decide) rfl dX10_sender_107 ?_
              refine tr_goto hX 131 dX10_sender_108 (by decide) ?_
              refine tr_lv (lv2 := [(0, rf G.1 36), (1, .int x1), (2, .int x2), (4, .int 0), (5, .int 0)]) [3, 4, 5, 1, 0] rfl ?_
              exact w_X10_sender_131 hX hR hE N s3 x1 x2 0 0 (s3 45 (ix y5))
          · refine tr_iconst (v := 0) hX dX10_sender_54 rfl ?_
            refine tr_istore (lv2 := [(5, .int 0), (4, .int 0), (3, .int y5), (0, rf G.1 36), (1, .int x1), (2, .int x2)]) hX dX10_sender_55 (by decide) rfl ?_
            refine tr_lv (lv2 := [(0, rf G.1 36), (1, .int x1), (4, .int 0), (5, .int 0)]) [3, 4, 1, 0] rfl ?_
            exact wl_X10_sender_57 hX hR hE N N s3 x1 0 0
        · refine tr_aload_n hX 1 dX10_sender_38 rfl rfl ?_
          refine tr_getR hX 36 10 (by decide) rfl rfl rfl (by decide) gX10 wm_706 dX10_sender_39 ?_
          refine tr_iload_n hX 0 dX10_sender_42 rfl rfl ?_
          refine tr_iald hX 44 (by decide) rfl dX10_sender_43 ?_
          exact tr_iret hX hR dX10_sender_44
      · refine tr_iload_n hX 0 dX10_sender_31 rfl rfl ?_
        exact tr_iret hX hR dX10_sender_32
    · refine tr_iconst (v := (-1)) hX dX10_sender_18 rfl ?_
      exact tr_iret hX hR dX10_sender_19
theorem c_X10_sender (E : Ex) (hE : va_D (AW E) (wd E (fun _ _ => 0))) (N : Nat) (s : Hp) (x1 x2 : Int32) (r : Int32 × Hp) (h : f_X10_sender N s x1 x2 = some r) : CtrI E yX10_sender cX10_sender 9 (some .int) 4 90 [rf E 36, .int x1, .int x2] s r :=
  ctrI_of (by decide +kernel) hE (Nat.le_of_ble_eq_true rfl) h (fun G hX hR hG => by subst hG; exact w_X10_sender hX hR hE N s x1 x2)
set_option maxRecDepth 20000 in
set_option maxHeartbeats 2000000 in
theorem w_X10_place_50 {G : Gx} (hX : ok G cX10_place 5 RX10 (some .int) 4 90) (hR : okR G) (hE : va_D (AW G.1) (wd G.1 (fun _ _ => 0))) (N : Nat) (k19 : Hp → Int32 → Int32 → Int32 → Option (Int32 × Hp)) (hk19 : ∀ (s : Hp) (x1 x3 x4 : Int32), T G (k19 s x1 x3 x4) s 19 [(0, rf G.1 36), (1, .int x1), (3, .int x3), (4, .int x4)] []) (s : Hp) (x1 x3 x4 : Int32) : T G (f_X10_place_50 N k19 s x1 x3 x4) s 50 [(0, rf G.1 36), (1, .int x1), (3, .int x3), (4, .int x4)] [] := by
  unfold f_X10_place_50
  refine tr_iincB (b := 1) (lv2 := fun y6 => [(4, .int y6), (0, rf G.1 36), (1, .int x1), (3, .int x3)]) hX 3 dX10_place_50 rfl rfl (by decide) (fun _ => rfl) fun y6 => ?_
  refine tr_goto hX 19 dX10_place_53 (by decide) ?_
  refine tr_lv (lv2 := [(0, rf G.1 36), (1, .int x1), (3, .int x3), (4, .int y6)]) [1, 2, 3, 0] rfl ?_
  exact hk19 s x1 x3 y6
set_option maxRecDepth 20000 in
set_option maxHeartbeats 2000000 in
theorem w_X10_place_19 {G : Gx} (hX : ok G cX10_place 5 RX10 (some .int) 4 90) (hR : okR G) (hE : va_D (AW G.1) (wd G.1 (fun _ _ => 0))) (N : Nat) (k19 : Hp → Int32 → Int32 → Int32 → Option (Int32 × Hp)) (hk19 : ∀ (s : Hp) (x1 x3 x4 : Int32), T G (k19 s x1 x3 x4) s 19 [(0, rf G.1 36), (1, .int x1), (3, .int x3), (4, .int x4)] []) (s : Hp) (x1 x3 x4 : Int32) : T G (f_X10_place_19 N k19 s x1 x3 x4) s 19 [(0, rf G.1 36), (1, .int x1), (3, .int x3), (4, .int x4)] [] := by
  unfold f_X10_place_19
  refine tr_iload hX 3 dX10_place_19 rfl ?_
  refine tr_sipush (v := 1024) hX dX10_place_21 rfl ?_
  refine tr_icmp_ge hX 56 dX10_place_24 (by decide) ?_ ?_
  · refine tr_iconst (v := (-1)) hX dX10_place_56 rfl ?_
    exact tr_iret hX hR dX10_place_57
  · refine tr_aload_n hX 0 dX10_place_27 rfl rfl ?_
    refine tr_iload_n hX 1 dX10_place_28 rfl rfl ?_
    refine tr_iload hX 3 dX10_place_29 rfl ?_
    refine tr_callV hX 36 [.int x1, .int x4] kv_X10_isPlace wm_870 (by decide) rfl rfl rfl (by decide) rfl rfl (Nat.le_of_ble_eq_true rfl) dX10_place_31 (fun vq sq hq => c_X10_isPlace G.1 hE N s x1 x4 (vq, sq) hq) fun v4 s3 => ?_
    refine tr_if_ne hX 40 dX10_place_34 (by decide) ?_ ?_
    · refine tr_iload_n hX 2 dX10_place_40 rfl rfl ?_
      refine tr_if_ne hX 47 dX10_place_41 (by decide) ?_ ?_
      · refine tr_iincB (b := (-1)) (lv2 := fun y5 => [(3, .int y5), (0, rf G.1 36), (1, .int x1), (4, .int x4)]) hX 2 dX10_place_47 rfl rfl (by decide) (fun _ => rfl) fun y5 => ?_
        refine tr_lv (lv2 := [(0, rf G.1 36), (1, .int x1), (3, .int y5), (4, .int x4)]) [1, 2, 0, 3] rfl ?_
        exact w_X10_place_50 hX hR hE N k19 hk19 s3 x1 y5 x4
      · refine tr_iload hX 3 dX10_place_44 rfl ?_
        exact tr_iret hX hR dX10_place_46
    · refine tr_goto hX 50 dX10_place_37 (by decide) ?_
      exact w_X10_place_50 hX hR hE N k19 hk19 s3 x1 x3 x4
theorem wl_X10_place_19 {G : Gx} (hX : ok G cX10_place 5 RX10 (some .int) 4 90) (hR : okR G) (hE : va_D (AW G.1) (wd G.1 (fun _ _ => 0))) (N : Nat) : ∀ (n : Nat) (s : Hp) (x1 x3 x4 : Int32), T G (lp (fun _ _ _ _ => none) (f_X10_place_19 N) n s x1 x3 x4) s 19 [(0, rf G.1 36), (1, .int x1), (3, .int x3), (4, .int x4)] [] := by
  intro n
  induction n with
  | zero => exact fun s x1 x3 x4 h => nomatch (show (none : Option (Int32 × Hp)) = some _ from h)
  | succ n ih => exact fun s x1 x3 x4 => w_X10_place_19 hX hR hE N _ ih s x1 x3 x4
set_option maxRecDepth 20000 in
set_option maxHeartbeats 2000000 in
theorem w_X10_place {G : Gx} (hX : ok G cX10_place 5 RX10 (some .int) 4 90) (hR : okR G) (hE : va_D (AW G.1) (wd G.1 (fun _ _ => 0))) (N : Nat) (s : Hp) (x1 x2 : Int32) : T G (f_X10_place N s x1 x2) s 0 [(0, rf G.1 36), (1, .int x1), (2, .int x2)] [] := by
  unfold f_X10_place
  refine tr_aload_n hX 0 dX10_place_0 rfl rfl ?_
  refine tr_iload_n hX 1 dX10_place_1 rfl rfl ?_
  refine tr_callV hX 36 [.int x1] kv_X10_isSender wm_866 (by decide) rfl rfl rfl (by decide) rfl rfl (Nat.le_of_ble_eq_true rfl) dX10_place_2 (fun vq sq hq => c_X10_isSender G.1 hE N s x1 (vq, sq) hq) fun v2 s1 => ?_
  refine tr_if_eq hX 12 dX10_place_5 (by decide) ?_ ?_
  · refine tr_iconst (v := (-1)) hX dX10_place_12 rfl ?_
    exact tr_iret hX hR dX10_place_13
  · refine tr_iload_n hX 2 dX10_place_8 rfl rfl ?_
    refine tr_if_ge hX 14 dX10_place_9 (by decide) ?_ ?_
    · refine tr_iload_n hX 2 dX10_place_14 rfl rfl ?_
      refine tr_istore_n (lv2 := [(3, .int x2), (0, rf G.1 36), (1, .int x1), (2, .int x2)]) hX dX10_place_15 rfl (by decide) rfl ?_
      refine tr_iconst (v := 0) hX dX10_place_16 rfl ?_
      refine tr_istore (lv2 := [(4, .int 0), (3, .int x2), (0, rf G.1 36), (1, .int x1), (2, .int x2)]) hX dX10_place_17 (by decide) rfl ?_
      refine tr_lv (lv2 := [(0, rf G.1 36), (1, .int x1), (3, .int x2), (4, .int 0)]) [2, 3, 1, 0] rfl ?_
      exact wl_X10_place_19 hX hR hE N N s1 x1 x2 0
    · refine tr_iconst (v := (-1)) hX dX10_place_12 rfl ?_
      exact tr_iret hX hR dX10_place_13
theorem c_X10_place (E : Ex) (hE : va_D (AW E) (wd E (fun _ _ => 0))) (N : Nat) (s : Hp) (x1 x2 : Int32) (r : Int32 × Hp) (h : f_X10_place N s x1 x2 = some r) : CtrI E yX10_place cX10_place 5 (some .int) 4 90 [rf E 36, .int x1, .int x2] s r :=
  ctrI_of (by decide +kernel) hE (Nat.le_of_ble_eq_true rfl) h (fun G hX hR hG => by subst hG; exact w_X10_place hX hR hE N s x1 x2)
set_option maxRecDepth 20000 in
set_option maxHeartbeats 2000000 in
theorem w_X10_box_93 {G : Gx} (hX : ok G cX10_box 6 RX10 (some .int) 4 90) (hR : okR G) (hE : va_D (AW G.1) (wd G.1 (fun _ _ => 0))) (N : Nat) (k24 : Hp → Int32 → Int32 → Int32 → Int32 → Option (Int32 × Hp)) (hk24 : ∀ (s : Hp) (x1 x2 x3 x4 : Int32), T G (k24 s x1 x2 x3 x4) s 24 [(0, rf G.1 36), (1, .int x1), (2, .int x2), (3, .int x3), (4, .int x4)] []) (s : Hp) (x1 x2 x3 x4 : Int32) : T G (f_X10_box_93 N k24 s x1 x2 x3 x4) s 93 [(0, rf G.1 36), (1, .int x1), (2, .int x2), (3, .int x3), (4, .int x4)] [] := by
  unfold f_X10_box_93
  refine tr_iincB (b := 1) (lv2 := fun y7 => [(4, .int y7), (0, rf G.1 36), (1, .int x1), (2, .int x2), (3, .int x3)]) hX 4 dX10_box_93 rfl rfl (by decide) (fun _ => rfl) fun y7 => ?_
  refine tr_goto hX 24 dX10_box_96 (by decide) ?_
  refine tr_lv (lv2 := [(0, rf G.1 36), (1, .int x1), (2, .int x2), (3, .int x3), (4, .int y7)]) [1, 2, 3, 4, 0] rfl ?_
  exact hk24 s x1 x2 x3 y7
set_option maxRecDepth 20000 in
set_option maxHeartbeats 2000000 in
theorem w_X10_box_90 {G : Gx} (hX : ok G cX10_box 6 RX10 (some .int) 4 90) (hR : okR G) (hE : va_D (AW G.1) (wd G.1 (fun _ _ => 0))) (N : Nat) (k24 : Hp → Int32 → Int32 → Int32 → Int32 → Option (Int32 × Hp)) (hk24 : ∀ (s : Hp) (x1 x2 x3 x4 : Int32), T G (k24 s x1 x2 x3 x4) s 24 [(0, rf G.1 36), (1, .int x1), (2, .int x2), (3, .int x3), (4, .int x4)] []) (s : Hp) (x1 x2 x4 x5 : Int32) : T G (f_X10_box_90 N k24 s x1 x2 x4 x5) s 90 [(0, rf G.1 36), (1, .int x1), (2, .int x2), (4, .int x4), (5, .int x5)] [] := by
  unfold f_X10_box_90
  refine tr_iload hX 4 dX10_box_90 rfl ?_
  refine tr_istore_n (lv2 := [(3, .int x5), (0, rf G.1 36), (1, .int x1), (2, .int x2), (4, .int x4), (5, .int x5)]) hX dX10_box_92 rfl (by decide) rfl ?_
  refine tr_lv (lv2 := [(0, rf G.1 36), (1, .int x1), (2, .int x2), (3, .int x5), (4, .int x4)]) [1, 2, 3, 0, 4] rfl ?_
  exact w_X10_box_93 hX hR hE N k24 hk24 s x1 x2 x5 x4
set_option maxRecDepth 20000 in
set_option maxHeartbeats 2000000 in
theorem w_X10_box_63 {G : Gx} (hX : ok G cX10_box 6 RX10 (some .int) 4 90) (hR : okR G) (hE : va_D (AW G.1) (wd G.1 (fun _ _ => 0))) (N : Nat) (k24 : Hp → Int32 → Int32 → Int32 → Int32 → Option (Int32 × Hp)) (hk24 : ∀ (s : Hp) (x1 x2 x3 x4 : Int32), T G (k24 s x1 x2 x3 x4) s 24 [(0, rf G.1 36), (1, .int x1), (2, .int x2), (3, .int x3), (4, .int x4)] []) (s : Hp) (x1 x2 x3 x4 t0 : Int32) : T G (f_X10_box_63 N k24 s x1 x2 x3 x4 t0) s 63 [(0, rf G.1 36), (1, .int x1), (2, .int x2), (3, .int x3), (4, .int x4)] [.int t0] := by
  unfold f_X10_box_63
  refine tr_istore (lv2 := [(5, .int t0), (0, rf G.1 36), (1, .int x1), (2, .int x2), (3, .int x3), (4, .int x4)]) hX dX10_box_63 (by decide) rfl ?_
  refine tr_iload_n hX 4 dX10_box_65 rfl rfl ?_
  refine tr_if_lt hX 90 dX10_box_66 (by decide) ?_ ?_
  · refine tr_lv (lv2 := [(0, rf G.1 36), (1, .int x1), (2, .int x2), (4, .int x4), (5, .int t0)]) [1, 2, 3, 5, 0] rfl ?_
    exact w_X10_box_90 hX hR hE N k24 hk24 s x1 x2 x4 t0
  · refine tr_iload_n hX 3 dX10_box_69 rfl rfl ?_
    refine tr_iconst (v := 2) hX dX10_box_70 rfl ?_
    refine tr_iremC hX dX10_box_71 (by decide) ?_
    refine tr_if_ne hX 84 dX10_box_72 (by decide) ?_ ?_
    · refine tr_iload hX 0 dX10_box_84 rfl ?_
      refine tr_iload_n hX 4 dX10_box_86 rfl rfl ?_
      refine tr_icmp_le hX 93 dX10_box_87 (by decide) ?_ ?_
      · refine tr_lv (lv2 := [(0, rf G.1 36), (1, .int x1), (2, .int x2), (3, .int x3), (4, .int x4)]) [1, 2, 3, 4, 5] rfl ?_
        exact w_X10_box_93 hX hR hE N k24 hk24 s x1 x2 x3 x4
      · refine tr_lv (lv2 := [(0, rf G.1 36), (1, .int x1), (2, .int x2), (4, .int x4), (5, .int t0)]) [1, 2, 3, 5, 0] rfl ?_
        exact w_X10_box_90 hX hR hE N k24 hk24 s x1 x2 x4 t0
    · refine tr_iload hX 0 dX10_box_75 rfl ?_
      refine tr_iload_n hX 4 dX10_box_77 rfl rfl ?_
      refine tr_icmp_ge hX 93 dX10_box_78 (by decide) ?_ ?_
      · refine tr_lv (lv2 := [(0, rf G.1 36), (1, .int x1), (2, .int x2), (3, .int x3), (4, .int x4)]) [1, 2, 3, 4, 5] rfl ?_
        exact w_X10_box_93 hX hR hE N k24 hk24 s x1 x2 x3 x4
      · refine tr_goto hX 90 dX10_box_81 (by decide) ?_
        refine tr_lv (lv2 := [(0, rf G.1 36), (1, .int x1), (2, .int x2), (4, .int x4), (5, .int t0)]) [1, 2, 3, 5, 0] rfl ?_
        exact w_X10_box_90 hX hR hE N k24 hk24 s x1 x2 x4 t0
set_option maxRecDepth 20000 in
set_option maxHeartbeats 2000000 in
theorem w_X10_box_24 {G : Gx} (hX : ok G cX10_box 6 RX10 (some .int) 4 90) (hR : okR G) (hE : va_D (AW G.1) (wd G.1 (fun _ _ => 0))) (N : Nat) (k24 : Hp → Int32 → Int32 → Int32 → Int32 → Option (Int32 × Hp)) (hk24 : ∀ (s : Hp) (x1 x2 x3 x4 : Int32), T G (k24 s x1 x2 x3 x4) s 24 [(0, rf G.1 36), (1, .int x1), (2, .int x2), (3, .int x3), (4, .int x4)] []) (s : Hp) (x1 x2 x3 x4 : Int32) : T G (f_X10_box_24 N k24 s x1 x2 x3 x4) s 24 [(0, rf G.1 36), (1, .int x1), (2, .int x2), (3, .int x3), (4, .int x4)] [] := by
  unfold f_X10_box_24
  refine tr_iload hX 4 dX10_box_24 rfl ?_
  refine tr_sipush (v := 1024) hX dX10_box_26 rfl ?_
  refine tr_icmp_ge hX 99 dX10_box_29 (by decide) ?_ ?_
  · refine tr_iload_n hX 3 dX10_box_99 rfl rfl ?_
    exact tr_iret hX hR dX10_box_100
  · refine tr_aload_n hX 0 dX10_box_32 rfl rfl ?_
    refine tr_iload_n hX 1 dX10_box_33 rfl rfl ?_
    refine tr_iload hX 4 dX10_box_34 rfl ?_
    refine tr_callV hX 36 [.int x1, .int x4] kv_X10_isPlace wm_870 (by decide) rfl rfl rfl (by decide) rfl rfl (Nat.le_of_ble_eq_true rfl) dX10_box_36 (fun vq sq hq => c_X10_isPlace G.1 hE N s x1 x4 (vq, sq) hq) fun v6 s5 => ?_
    refine tr_if_ne hX 45 dX10_box_39 (by decide) ?_ ?_
    · refine tr_iload_n hX 2 dX10_box_45 rfl rfl ?_
      refine tr_iconst (v := 2) hX dX10_box_46 rfl ?_
      refine tr_icmp_ge hX 58 dX10_box_47 (by decide) ?_ ?_
      · refine tr_iload hX 4 dX10_box_58 rfl ?_
        refine tr_bipush (v := 32) hX dX10_box_60 rfl ?_
        refine tr_idivC hX dX10_box_62 (by decide) ?_
        exact w_X10_box_63 hX hR hE N k24 hk24 s5 x1 x2 x3 x4 (x4 / 32)
      · refine tr_iload hX 4 dX10_box_50 rfl ?_
        refine tr_bipush (v := 32) hX dX10_box_52 rfl ?_
        refine tr_iremC hX dX10_box_54 (by decide) ?_
        refine tr_goto hX 63 dX10_box_55 (by decide) ?_
        exact w_X10_box_63 hX hR hE N k24 hk24 s5 x1 x2 x3 x4 (irm x4 32)
    · refine tr_goto hX 93 dX10_box_42 (by decide) ?_
      exact w_X10_box_93 hX hR hE N k24 hk24 s5 x1 x2 x3 x4
theorem wl_X10_box_24 {G : Gx} (hX : ok G cX10_box 6 RX10 (some .int) 4 90) (hR : okR G) (hE : va_D (AW G.1) (wd G.1 (fun _ _ => 0))) (N : Nat) : ∀ (n : Nat) (s : Hp) (x1 x2 x3 x4 : Int32), T G (lp (fun _ _ _ _ _ => none) (f_X10_box_24 N) n s x1 x2 x3 x4) s 24 [(0, rf G.1 36), (1, .int x1), (2, .int x2), (3, .int x3), (4, .int x4)] [] := by
  intro n
  induction n with
  | zero => exact fun s x1 x2 x3 x4 h => nomatch (show (none : Option (Int32 × Hp)) = some _ from h)
  | succ n ih => exact fun s x1 x2 x3 x4 => w_X10_box_24 hX hR hE N _ ih s x1 x2 x3 x4
set_option maxRecDepth 20000 in
set_option maxHeartbeats 2000000 in
theorem w_X10_box {G : Gx} (hX : ok G cX10_box 6 RX10 (some .int) 4 90) (hR : okR G) (hE : va_D (AW G.1) (wd G.1 (fun _ _ => 0))) (N : Nat) (s : Hp) (x1 x2 : Int32) : T G (f_X10_box N s x1 x2) s 0 [(0, rf G.1 36), (1, .int x1), (2, .int x2)] [] := by
  unfold f_X10_box
  refine tr_aload_n hX 0 dX10_box_0 rfl rfl ?_
  refine tr_iload_n hX 1 dX10_box_1 rfl rfl ?_
  refine tr_callV hX 36 [.int x1] kv_X10_isSender wm_866 (by decide) rfl rfl rfl (by decide) rfl rfl (Nat.le_of_ble_eq_true rfl) dX10_box_2 (fun vq sq hq => c_X10_isSender G.1 hE N s x1 (vq, sq) hq) fun v2 s1 => ?_
  refine tr_if_eq hX 17 dX10_box_5 (by decide) ?_ ?_
  · refine tr_iconst (v := (-1)) hX dX10_box_17 rfl ?_
    exact tr_iret hX hR dX10_box_18
  · refine tr_iload_n hX 2 dX10_box_8 rfl rfl ?_
    refine tr_iconst (v := 0) hX dX10_box_9 rfl ?_
    refine tr_iconst (v := 3) hX dX10_box_10 rfl ?_
    refine tr_callS hX [.int x2, .int 0, .int 3] ks_X10_isIn wm_809 (by decide) rfl rfl (Nat.le_of_ble_eq_true rfl) dX10_box_11 (fun vq sq hq => c_X10_isIn G.1 hE N s1 x2 0 3 (vq, sq) hq) fun v4 s3 => ?_
    refine tr_if_ne hX 19 dX10_box_14 (by decide) ?_ ?_
    · refine tr_iconst (v := (-1)) hX dX10_box_19 rfl ?_
      refine tr_istore_n (lv2 := [(3, .int (-1)), (0, rf G.1 36), (1, .int x1), (2, .int x2)]) hX dX10_box_20 rfl (by decide) rfl ?_
      refine tr_iconst (v := 0) hX dX10_box_21 rfl ?_
      refine tr_istore (lv2 := [(4, .int 0), (3, .int (-1)), (0, rf G.1 36), (1, .int x1), (2, .int x2)]) hX dX10_box_22 (by decide) rfl ?_
      refine tr_lv (lv2 := [(0, rf G.1 36), (1, .int x1), (2, .int x2), (3, .int (-1)), (4, .int 0)]) [2, 3, 4, 1, 0] rfl ?_
      exact wl_X10_box_24 hX hR hE N N s3 x1 x2 (-1) 0
    · refine tr_iconst (v := (-1)) hX dX10_box_17 rfl ?_
      exact tr_iret hX hR dX10_box_18
theorem c_X10_box (E : Ex) (hE : va_D (AW E) (wd E (fun _ _ => 0))) (N : Nat) (s : Hp) (x1 x2 : Int32) (r : Int32 × Hp) (h : f_X10_box N s x1 x2 = some r) : CtrI E yX10_box cX10_box 6 (some .int) 4 90 [rf E 36, .int x1, .int x2] s r :=
  ctrI_of (by decide +kernel) hE (Nat.le_of_ble_eq_true rfl) h (fun G hX hR hG => by subst hG; exact w_X10_box hX hR hE N s x1 x2)
