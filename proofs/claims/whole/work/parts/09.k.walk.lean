set_option maxRecDepth 20000 in
set_option maxHeartbeats 2000000 in
theorem w_X10_best {G : Gx} (hX : ok G cX10_best 4 RX10 (some .int) 4 99) (hR : okR G) (hE : va_D (AW G.1) (wd G.1 (fun _ _ => 0))) (N : Nat) (s : Hp) (x1 x2 : Int32) : T G (f_X10_best N s x1 x2) s 0 [(0, rf G.1 36), (1, .int x1), (2, .int x2)] [] := by
  unfold f_X10_best
  refine tr_aload_n hX 0 dX10_best_0 rfl rfl ?_
  refine tr_iload_n hX 1 dX10_best_1 rfl rfl ?_
  refine tr_callV hX 36 [.int x1] kv_X10_isSender wm_866 (by decide) rfl rfl rfl (by decide) rfl rfl (Nat.le_of_ble_eq_true rfl) dX10_best_2 (fun vq sq hq => c_X10_isSender G.1 hE N s x1 (vq, sq) hq) fun v2 s1 => ?_
  refine tr_if_eq hX 24 dX10_best_5 (by decide) ?_ ?_
  · refine tr_iconst (v := (-1)) hX dX10_best_24 rfl ?_
    exact tr_iret hX hR dX10_best_25
  · refine tr_aload_n hX 0 dX10_best_8 rfl rfl ?_
    refine tr_getI hX 36 23 (by decide) rfl rfl rfl (by decide) gX10 wm_719 dX10_best_9 ?_
    refine tr_if_eq hX 24 dX10_best_12 (by decide) ?_ ?_
    · refine tr_iconst (v := (-1)) hX dX10_best_24 rfl ?_
      exact tr_iret hX hR dX10_best_25
    · refine tr_iload_n hX 2 dX10_best_15 rfl rfl ?_
      refine tr_iconst (v := 0) hX dX10_best_16 rfl ?_
      refine tr_iconst (v := 1) hX dX10_best_17 rfl ?_
      refine tr_callS hX [.int x2, .int 0, .int 1] ks_X10_isIn wm_809 (by decide) rfl rfl (Nat.le_of_ble_eq_true rfl) dX10_best_18 (fun vq sq hq => c_X10_isIn G.1 hE N s1 x2 0 1 (vq, sq) hq) fun v4 s3 => ?_
      refine tr_if_ne hX 26 dX10_best_21 (by decide) ?_ ?_
      · refine tr_aload_n hX 0 dX10_best_26 rfl rfl ?_
        refine tr_iload_n hX 1 dX10_best_27 rfl rfl ?_
        refine tr_callV hX 36 [.int x1] kv_X10_bestOf wm_967 (by decide) rfl rfl rfl (by decide) rfl rfl (Nat.le_of_ble_eq_true rfl) dX10_best_28 (fun vq sq hq => c_X10_bestOf G.1 hE N s3 x1 (vq, sq) hq) fun v6 s5 => ?_
        refine tr_istore_n (lv2 := [(3, .int v6), (0, rf G.1 36), (1, .int x1), (2, .int x2)]) hX dX10_best_31 rfl (by decide) rfl ?_
        refine tr_iload_n hX 3 dX10_best_32 rfl rfl ?_
        refine tr_if_ne hX 40 dX10_best_33 (by decide) ?_ ?_
        · refine tr_aload_n hX 1 dX10_best_40 rfl rfl ?_
          refine tr_iload_n hX 2 dX10_best_41 rfl rfl ?_
          refine tr_iload_n hX 0 dX10_best_42 rfl rfl ?_
          refine tr_callV hX 36 [.int x1, .int v6] kv_X10_answer wm_955 (by decide) rfl rfl rfl (by decide) rfl rfl (Nat.le_of_ble_eq_true rfl) dX10_best_43 (fun vq sq hq => c_X10_answer G.1 hE N s5 x1 v6 (vq, sq) hq) fun v8 s7 => ?_
          exact tr_iret hX hR dX10_best_46
        · refine tr_iload_n hX 0 dX10_best_36 rfl rfl ?_
          refine tr_goto hX 46 dX10_best_37 (by decide) ?_
          exact tr_iret hX hR dX10_best_46
      · refine tr_iconst (v := (-1)) hX dX10_best_24 rfl ?_
        exact tr_iret hX hR dX10_best_25
theorem c_X10_best (E : Ex) (hE : va_D (AW E) (wd E (fun _ _ => 0))) (N : Nat) (s : Hp) (x1 x2 : Int32) (r : Int32 × Hp) (h : f_X10_best N s x1 x2 = some r) : CtrI E yX10_best cX10_best 4 (some .int) 4 99 [rf E 36, .int x1, .int x2] s r :=
  ctrI_of (by decide +kernel) hE (Nat.le_of_ble_eq_true rfl) h (fun G hX hR hG => by subst hG; exact w_X10_best hX hR hE N s x1 x2)
set_option maxRecDepth 20000 in
set_option maxHeartbeats 2000000 in
theorem w_X10_wanderers_41 {G : Gx} (hX : ok G cX10_wanderers 4 RX10 (some .int) 4 99) (hR : okR G) (hE : va_D (AW G.1) (wd G.1 (fun _ _ => 0))) (N : Nat) (k8 : Hp → Int32 → Int32 → Option (Int32 × Hp)) (hk8 : ∀ (s : Hp) (x1 x2 : Int32), T G (k8 s x1 x2) s 8 [(0, rf G.1 36), (1, .int x1), (2, .int x2)] []) (s : Hp) (x2 t0 t1 : Int32) : T G (f_X10_wanderers_41 N k8 s x2 t0 t1) s 41 [(0, rf G.1 36), (2, .int x2)] [.int t1, .int t0] := by
  unfold f_X10_wanderers_41
  refine tr_iadd hX dX10_wanderers_41 ?_
  refine tr_istore_nB (lv2 := fun y7 => [(1, .int y7), (0, rf G.1 36), (2, .int x2)]) hX dX10_wanderers_42 rfl (by decide) (fun _ => rfl) fun y7 => ?_
  refine tr_iincB (b := 1) (lv2 := fun y8 => [(2, .int y8), (1, .int y7), (0, rf G.1 36)]) hX 2 dX10_wanderers_43 rfl rfl (by decide) (fun _ => rfl) fun y8 => ?_
  refine tr_goto hX 8 dX10_wanderers_46 (by decide) ?_
  refine tr_lv (lv2 := [(0, rf G.1 36), (1, .int y7), (2, .int y8)]) [2, 1, 0] rfl ?_
  exact hk8 s y7 y8
set_option maxRecDepth 20000 in
set_option maxHeartbeats 2000000 in
theorem w_X10_wanderers_36 {G : Gx} (hX : ok G cX10_wanderers 4 RX10 (some .int) 4 99) (hR : okR G) (hE : va_D (AW G.1) (wd G.1 (fun _ _ => 0))) (N : Nat) (k8 : Hp → Int32 → Int32 → Option (Int32 × Hp)) (hk8 : ∀ (s : Hp) (x1 x2 : Int32), T G (k8 s x1 x2) s 8 [(0, rf G.1 36), (1, .int x1), (2, .int x2)] []) (s : Hp) (x2 t0 : Int32) : T G (f_X10_wanderers_36 N k8 s x2 t0) s 36 [(0, rf G.1 36), (2, .int x2)] [.int t0] := by
  unfold f_X10_wanderers_36
  refine tr_iconst (v := 1) hX dX10_wanderers_36 rfl ?_
  refine tr_goto hX 41 dX10_wanderers_37 (by decide) ?_
  exact w_X10_wanderers_41 hX hR hE N k8 hk8 s x2 t0 1
set_option maxRecDepth 20000 in
set_option maxHeartbeats 2000000 in
theorem w_X10_wanderers_8 {G : Gx} (hX : ok G cX10_wanderers 4 RX10 (some .int) 4 99) (hR : okR G) (hE : va_D (AW G.1) (wd G.1 (fun _ _ => 0))) (N : Nat) (k8 : Hp → Int32 → Int32 → Option (Int32 × Hp)) (hk8 : ∀ (s : Hp) (x1 x2 : Int32), T G (k8 s x1 x2) s 8 [(0, rf G.1 36), (1, .int x1), (2, .int x2)] []) (s : Hp) (x1 x2 : Int32) : T G (f_X10_wanderers_8 N k8 s x1 x2) s 8 [(0, rf G.1 36), (1, .int x1), (2, .int x2)] [] := by
  unfold f_X10_wanderers_8
  refine tr_iload_n hX 2 dX10_wanderers_8 rfl rfl ?_
  refine tr_aload_n hX 0 dX10_wanderers_9 rfl rfl ?_
  refine tr_getI hX 36 18 (by decide) rfl rfl rfl (by decide) gX10 wm_714 dX10_wanderers_10 ?_
  refine tr_icmp_ge hX 49 dX10_wanderers_13 (by decide) ?_ ?_
  · refine tr_iload_n hX 1 dX10_wanderers_49 rfl rfl ?_
    exact tr_iret hX hR dX10_wanderers_50
  · refine tr_aload_n hX 0 dX10_wanderers_16 rfl rfl ?_
    refine tr_iload_n hX 2 dX10_wanderers_17 rfl rfl ?_
    refine tr_callV hX 36 [.int x2] kv_X10_bestOf wm_967 (by decide) rfl rfl rfl (by decide) rfl rfl (Nat.le_of_ble_eq_true rfl) dX10_wanderers_18 (fun vq sq hq => c_X10_bestOf G.1 hE N s x2 (vq, sq) hq) fun v4 s3 => ?_
    refine tr_istore_n (lv2 := [(3, .int v4), (0, rf G.1 36), (1, .int x1), (2, .int x2)]) hX dX10_wanderers_21 rfl (by decide) rfl ?_
    refine tr_iload_n hX 2 dX10_wanderers_22 rfl rfl ?_
    refine tr_iload_n hX 0 dX10_wanderers_23 rfl rfl ?_
    refine tr_if_lt hX 36 dX10_wanderers_24 (by decide) ?_ ?_
    · refine tr_lv (lv2 := [(0, rf G.1 36), (2, .int x2)]) [1, 3] rfl ?_
      exact w_X10_wanderers_36 hX hR hE N k8 hk8 s3 x2 x1
    · refine tr_aload_n hX 1 dX10_wanderers_27 rfl rfl ?_
      refine tr_iload_n hX 3 dX10_wanderers_28 rfl rfl ?_
      refine tr_iload_n hX 0 dX10_wanderers_29 rfl rfl ?_
      refine tr_callV hX 36 [.int x2, .int v4] kv_X10_answer wm_955 (by decide) rfl rfl rfl (by decide) rfl rfl (Nat.le_of_ble_eq_true rfl) dX10_wanderers_30 (fun vq sq hq => c_X10_answer G.1 hE N s3 x2 v4 (vq, sq) hq) fun v6 s5 => ?_
      refine tr_if_eq hX 40 dX10_wanderers_33 (by decide) ?_ ?_
      · refine tr_iconst (v := 0) hX dX10_wanderers_40 rfl ?_
        refine tr_lv (lv2 := [(0, rf G.1 36), (2, .int x2)]) [1, 3] rfl ?_
        exact w_X10_wanderers_41 hX hR hE N k8 hk8 s5 x2 x1 0
      · refine tr_lv (lv2 := [(0, rf G.1 36), (2, .int x2)]) [1, 3] rfl ?_
        exact w_X10_wanderers_36 hX hR hE N k8 hk8 s5 x2 x1
theorem wl_X10_wanderers_8 {G : Gx} (hX : ok G cX10_wanderers 4 RX10 (some .int) 4 99) (hR : okR G) (hE : va_D (AW G.1) (wd G.1 (fun _ _ => 0))) (N : Nat) : ∀ (n : Nat) (s : Hp) (x1 x2 : Int32), T G (lp (fun _ _ _ => none) (f_X10_wanderers_8 N) n s x1 x2) s 8 [(0, rf G.1 36), (1, .int x1), (2, .int x2)] [] := by
  intro n
  induction n with
  | zero => exact fun s x1 x2 h => nomatch (show (none : Option (Int32 × Hp)) = some _ from h)
  | succ n ih => exact fun s x1 x2 => w_X10_wanderers_8 hX hR hE N _ ih s x1 x2
set_option maxRecDepth 20000 in
set_option maxHeartbeats 2000000 in
theorem w_X10_wanderers {G : Gx} (hX : ok G cX10_wanderers 4 RX10 (some .int) 4 99) (hR : okR G) (hE : va_D (AW G.1) (wd G.1 (fun _ _ => 0))) (N : Nat) (s : Hp) : T G (f_X10_wanderers N s) s 0 [(0, rf G.1 36)] [] := by
  unfold f_X10_wanderers
  refine tr_aload_n hX 0 dX10_wanderers_0 rfl rfl ?_
  refine tr_callVv hX 36 [] kv_X10_join wm_846 (by decide) rfl rfl rfl (by decide) rfl rfl (Nat.le_of_ble_eq_true rfl) dX10_wanderers_1 (fun vq sq hq => c_X10_join G.1 hE N s (vq, sq) hq) fun v2 s1 => ?_
  refine tr_iconst (v := 0) hX dX10_wanderers_4 rfl ?_
  refine tr_istore_n (lv2 := [(1, .int 0), (0, rf G.1 36)]) hX dX10_wanderers_5 rfl (by decide) rfl ?_
  refine tr_iconst (v := 0) hX dX10_wanderers_6 rfl ?_
  refine tr_istore_n (lv2 := [(2, .int 0), (1, .int 0), (0, rf G.1 36)]) hX dX10_wanderers_7 rfl (by decide) rfl ?_
  refine tr_lv (lv2 := [(0, rf G.1 36), (1, .int 0), (2, .int 0)]) [2, 1, 0] rfl ?_
  exact wl_X10_wanderers_8 hX hR hE N N s1 0 0
theorem c_X10_wanderers (E : Ex) (hE : va_D (AW E) (wd E (fun _ _ => 0))) (N : Nat) (s : Hp) (r : Int32 × Hp) (h : f_X10_wanderers N s = some r) : CtrI E yX10_wanderers cX10_wanderers 4 (some .int) 4 99 [rf E 36] s r :=
  ctrI_of (by decide +kernel) hE (Nat.le_of_ble_eq_true rfl) h (fun G hX hR hG => by subst hG; exact w_X10_wanderers hX hR hE N s)
set_option maxRecDepth 20000 in
set_option maxHeartbeats 2000000 in
theorem w_X10_worth_95 {G : Gx} (hX : ok G cX10_worth 9 RX10 (some .int) 0 0) (hR : okR G) (hE : va_D (AW G.1) (wd G.1 (fun _ _ => 0))) (N : Nat) (k6 : Hp → Int32 → Int32 → Int32 → Int32 → Int32 → Option (Int32 × Hp)) (hk6 : ∀ (s : Hp) (x1 x2 x3 x4 x5 : Int32), T G (k6 s x1 x2 x3 x4 x5) s 6 [(0, rf G.1 36), (1, .int x1), (2, .int x2), (3, .int x3), (4, .int x4), (5, .int x5)] []) (k44 : Hp → Int32 → Int32 → Int32 → Int32 → Int32 → Int32 → Int32 → Option (Int32 × Hp)) (hk44 : ∀ (s : Hp) (x1 x2 x3 x4 x5 x7 x8 : Int32), T G (k44 s x1 x2 x3 x4 x5 x7 x8) s 44 [(0, rf G.1 36), (1, .int x1), (2, .int x2), (3, .int x3), (4, .int x4), (5, .int x5), (7, .int x7), (8, .int x8)] []) (s : Hp) (x1 x2 x3 x4 x5 x7 x8 : Int32) : T G (f_X10_worth_95 N k6 k44 s x1 x2 x3 x4 x5 x7 x8) s 95 [(0, rf G.1 36), (1, .int x1), (2, .int x2), (3, .int x3), (4, .int x4), (5, .int x5), (7, .int x7), (8, .int x8)] [] := by
  unfold f_X10_worth_95
  refine tr_iincB (b := 1) (lv2 := fun y6 => [(8, .int y6), (0, rf G.1 36), (1, .int x1), (2, .int x2), (3, .int x3), (4, .int x4), (5, .int x5), (7, .int x7)]) hX 7 dX10_worth_95 rfl rfl (by decide) (fun _ => rfl) fun y6 => ?_
  refine tr_goto hX 44 dX10_worth_98 (by decide) ?_
  refine tr_lv (lv2 := [(0, rf G.1 36), (1, .int x1), (2, .int x2), (3, .int x3), (4, .int x4), (5, .int x5), (7, .int x7), (8, .int y6)]) [1, 2, 3, 4, 5, 6, 7, 0] rfl ?_
  exact hk44 s x1 x2 x3 x4 x5 x7 y6
set_option maxRecDepth 20000 in
set_option maxHeartbeats 2000000 in
theorem w_X10_worth_44 {G : Gx} (hX : ok G cX10_worth 9 RX10 (some .int) 0 0) (hR : okR G) (hE : va_D (AW G.1) (wd G.1 (fun _ _ => 0))) (N : Nat) (k6 : Hp → Int32 → Int32 → Int32 → Int32 → Int32 → Option (Int32 × Hp)) (hk6 : ∀ (s : Hp) (x1 x2 x3 x4 x5 : Int32), T G (k6 s x1 x2 x3 x4 x5) s 6 [(0, rf G.1 36), (1, .int x1), (2, .int x2), (3, .int x3), (4, .int x4), (5, .int x5)] []) (k44 : Hp → Int32 → Int32 → Int32 → Int32 → Int32 → Int32 → Int32 → Option (Int32 × Hp)) (hk44 : ∀ (s : Hp) (x1 x2 x3 x4 x5 x7 x8 : Int32), T G (k44 s x1 x2 x3 x4 x5 x7 x8) s 44 [(0, rf G.1 36), (1, .int x1), (2, .int x2), (3, .int x3), (4, .int x4), (5, .int x5), (7, .int x7), (8, .int x8)] []) (s : Hp) (x1 x2 x3 x4 x5 x7 x8 : Int32) : T G (f_X10_worth_44 N k6 k44 s x1 x2 x3 x4 x5 x7 x8) s 44 [(0, rf G.1 36), (1, .int x1), (2, .int x2), (3, .int x3), (4, .int x4), (5, .int x5), (7, .int x7), (8, .int x8)] [] := by
  unfold f_X10_worth_44
  refine tr_iload hX 7 dX10_worth_44 rfl ?_
  refine tr_iload hX 5 dX10_worth_46 rfl ?_
  refine tr_icmp_ge hX 101 dX10_worth_48 (by decide) ?_ ?_
  · refine tr_iload hX 4 dX10_worth_101 rfl ?_
    refine tr_iload_n hX 2 dX10_worth_103 rfl rfl ?_
    refine tr_iload hX 5 dX10_worth_104 rfl ?_
    refine tr_iload_n hX 3 dX10_worth_106 rfl rfl ?_
    refine tr_imul hX dX10_worth_107 ?_
    refine tr_iadd hX dX10_worth_108 ?_
    refine tr_iload hX 6 dX10_worth_109 rfl ?_
    refine tr_isub hX dX10_worth_111 ?_
    refine tr_iadd hX dX10_worth_112 ?_
    refine tr_istoreB (lv2 := fun y3 => [(4, .int y3), (0, rf G.1 36), (1, .int x1), (2, .int x2), (3, .int x3), (5, .int x5), (7, .int x7), (8, .int x8)]) hX dX10_worth_113 (by decide) (fun _ => rfl) fun y3 => ?_
    refine tr_iincB (b := 1) (lv2 := fun y4 => [(5, .int y4), (4, .int y3), (0, rf G.1 36), (1, .int x1), (2, .int x2), (3, .int x3), (7, .int x7), (8, .int x8)]) hX 5 dX10_worth_115 rfl rfl (by decide) (fun _ => rfl) fun y4 => ?_
    refine tr_goto hX 6 dX10_worth_118 (by decide) ?_
    refine tr_lv (lv2 := [(0, rf G.1 36), (1, .int x1), (2, .int x2), (3, .int x3), (4, .int y3), (5, .int y4)]) [2, 3, 4, 5, 1, 0] rfl ?_
    exact hk6 s x1 x2 x3 y3 y4
  · refine tr_aload_n hX 0 dX10_worth_51 rfl rfl ?_
    refine tr_getR hX 36 33 (by decide) rfl rfl rfl (by decide) gX10 wm_729 dX10_worth_52 ?_
    refine tr_iload hX 7 dX10_worth_55 rfl ?_
    refine tr_iald hX 55 (by decide) rfl dX10_worth_57 ?_
    refine tr_aload_n hX 0 dX10_worth_58 rfl rfl ?_
    refine tr_getR hX 36 33 (by decide) rfl rfl rfl (by decide) gX10 wm_729 dX10_worth_59 ?_
    refine tr_iload hX 5 dX10_worth_62 rfl ?_
    refine tr_iald hX 55 (by decide) rfl dX10_worth_64 ?_
    refine tr_icmp_ne hX 95 dX10_worth_65 (by decide) ?_ ?_
    · exact w_X10_worth_95 hX hR hE N k6 hk6 k44 hk44 s x1 x2 x3 x4 x5 x7 x8
    · refine tr_iload_n hX 2 dX10_worth_68 rfl rfl ?_
      refine tr_iload hX 7 dX10_worth_69 rfl ?_
      refine tr_iconst (v := 1) hX dX10_worth_71 rfl ?_
      refine tr_iadd hX dX10_worth_72 ?_
      refine tr_iload_n hX 3 dX10_worth_73 rfl rfl ?_
      refine tr_imul hX dX10_worth_74 ?_
      refine tr_iadd hX dX10_worth_75 ?_
      refine tr_iconst (v := 1) hX dX10_worth_76 rfl ?_
      refine tr_isub hX dX10_worth_77 ?_
      refine tr_iload hX 6 dX10_worth_78 rfl ?_
      refine tr_icmp_le hX 95 dX10_worth_80 (by decide) ?_ ?_
      · exact w_X10_worth_95 hX hR hE N k6 hk6 k44 hk44 s x1 x2 x3 x4 x5 x7 x8
      · refine tr_iload_n hX 2 dX10_worth_83 rfl rfl ?_
        refine tr_iload hX 7 dX10_worth_84 rfl ?_
        refine tr_iconst (v := 1) hX dX10_worth_86 rfl ?_
        refine tr_iadd hX dX10_worth_87 ?_
        refine tr_iload_n hX 3 dX10_worth_88 rfl rfl ?_
        refine tr_imul hX dX10_worth_89 ?_
        refine tr_iadd hX dX10_worth_90 ?_
        refine tr_iconst (v := 1) hX dX10_worth_91 rfl ?_
        refine tr_isub hX dX10_worth_92 ?_
        refine tr_istoreB (lv2 := fun y5 => [(7, .int y5), (0, rf G.1 36), (1, .int x1), (2, .int x2), (3, .int x3), (4, .int x4), (5, .int x5), (8, .int x8)]) hX dX10_worth_93 (by decide) (fun _ => rfl) fun y5 => ?_
        refine tr_lv (lv2 := [(0, rf G.1 36), (1, .int x1), (2, .int x2), (3, .int x3), (4, .int x4), (5, .int x5), (7, .int y5), (8, .int x8)]) [1, 2, 3, 4, 5, 6, 0, 7] rfl ?_
        exact w_X10_worth_95 hX hR hE N k6 hk6 k44 hk44 s x1 x2 x3 x4 x5 y5 x8
theorem wl_X10_worth_44 {G : Gx} (hX : ok G cX10_worth 9 RX10 (some .int) 0 0) (hR : okR G) (hE : va_D (AW G.1) (wd G.1 (fun _ _ => 0))) (N : Nat) (k6 : Hp → Int32 → Int32 → Int32 → Int32 → Int32 → Option (Int32 × Hp)) (hk6 : ∀ (s : Hp) (x1 x2 x3 x4 x5 : Int32), T G (k6 s x1 x2 x3 x4 x5) s 6 [(0, rf G.1 36), (1, .int x1), (2, .int x2), (3, .int x3), (4, .int x4), (5, .int x5)] []) : ∀ (n : Nat) (s : Hp) (x1 x2 x3 x4 x5 x7 x8 : Int32), T G (lp (fun _ _ _ _ _ _ _ _ => none) (f_X10_worth_44 N k6) n s x1 x2 x3 x4 x5 x7 x8) s 44 [(0, rf G.1 36), (1, .int x1), (2, .int x2), (3, .int x3), (4, .int x4), (5, .int x5), (7, .int x7), (8, .int x8)] [] := by
  intro n
  induction n with
  | zero => exact fun s x1 x2 x3 x4 x5 x7 x8 h => nomatch (show (none : Option (Int32 × Hp)) = some _ from h)
  | succ n ih => exact fun s x1 x2 x3 x4 x5 x7 x8 => w_X10_worth_44 hX hR hE N k6 hk6 _ ih s x1 x2 x3 x4 x5 x7 x8
set_option maxRecDepth 20000 in
set_option maxHeartbeats 2000000 in
theorem w_X10_worth_6 {G : Gx} (hX : ok G cX10_worth 9 RX10 (some .int) 0 0) (hR : okR G) (hE : va_D (AW G.1) (wd G.1 (fun _ _ => 0))) (N : Nat) (k6 : Hp → Int32 → Int32 → Int32 → Int32 → Int32 → Option (Int32 × Hp)) (hk6 : ∀ (s : Hp) (x1 x2 x3 x4 x5 : Int32), T G (k6 s x1 x2 x3 x4 x5) s 6 [(0, rf G.1 36), (1, .int x1), (2, .int x2), (3, .int x3), (4, .int x4), (5, .int x5)] []) (s : Hp) (x1 x2 x3 x4 x5 : Int32) : T G (f_X10_worth_6 N k6 s x1 x2 x3 x4 x5) s 6 [(0, rf G.1 36), (1, .int x1), (2, .int x2), (3, .int x3), (4, .int x4), (5, .int x5)] [] := by
  unfold f_X10_worth_6
  refine tr_iload hX 5 dX10_worth_6 rfl ?_
  refine tr_iload_n hX 1 dX10_worth_8 rfl rfl ?_
  refine tr_icmp_ge hX 121 dX10_worth_9 (by decide) ?_ ?_
  · refine tr_iload hX 4 dX10_worth_121 rfl ?_
    exact tr_iret hX hR dX10_worth_123
  · refine tr_aload_n hX 0 dX10_worth_12 rfl rfl ?_
    refine tr_getR hX 36 35 (by decide) rfl rfl rfl (by decide) gX10 wm_731 dX10_worth_13 ?_
    refine tr_aload_n hX 0 dX10_worth_16 rfl rfl ?_
    refine tr_getR hX 36 33 (by decide) rfl rfl rfl (by decide) gX10 wm_729 dX10_worth_17 ?_
    refine tr_iload hX 5 dX10_worth_20 rfl ?_
    refine tr_iald hX 55 (by decide) rfl dX10_worth_22 ?_
    refine tr_iald hX 57 (by decide) rfl dX10_worth_23 ?_
    refine tr_istoreB (lv2 := fun y1 => [(6, .int y1), (0, rf G.1 36), (1, .int x1), (2, .int x2), (3, .int x3), (4, .int x4), (5, .int x5)]) hX dX10_worth_24 (by decide) (fun _ => rfl) fun y1 => ?_
    refine tr_aload_n hX 1 dX10_worth_26 rfl rfl ?_
    refine tr_getR hX 36 34 (by decide) rfl rfl rfl (by decide) gX10 wm_730 dX10_worth_27 ?_
    refine tr_bipush (v := 16) hX dX10_worth_30 rfl ?_
    refine tr_iload hX 6 dX10_worth_32 rfl ?_
    refine tr_imul hX dX10_worth_34 ?_
    refine tr_iload hX 0 dX10_worth_35 rfl ?_
    refine tr_iadd hX dX10_worth_37 ?_
    refine tr_iald hX 56 (by decide) rfl dX10_worth_38 ?_
    refine tr_istoreB (lv2 := fun y2 => [(7, .int y2), (6, .int y1), (0, rf G.1 36), (1, .int x1), (2, .int x2), (3, .int x3), (4, .int x4), (5, .int x5)]) hX dX10_worth_39 (by decide) (fun _ => rfl) fun y2 => ?_
    refine tr_iconst (v := 0) hX dX10_worth_41 rfl ?_
    refine tr_istore (lv2 := [(8, .int 0), (7, .int y2), (6, .int y1), (0, rf G.1 36), (1, .int x1), (2, .int x2), (3, .int x3), (4, .int x4), (5, .int x5)]) hX dX10_worth_42 (by decide) rfl ?_
    refine tr_lv (lv2 := [(0, rf G.1 36), (1, .int x1), (2, .int x2), (3, .int x3), (4, .int x4), (5, .int x5), (7, .int y2), (8, .int 0)]) [3, 4, 5, 6, 7, 8, 1, 0] rfl ?_
    exact wl_X10_worth_44 hX hR hE N k6 hk6 N s x1 x2 x3 x4 x5 y2 0
theorem wl_X10_worth_6 {G : Gx} (hX : ok G cX10_worth 9 RX10 (some .int) 0 0) (hR : okR G) (hE : va_D (AW G.1) (wd G.1 (fun _ _ => 0))) (N : Nat) : ∀ (n : Nat) (s : Hp) (x1 x2 x3 x4 x5 : Int32), T G (lp (fun _ _ _ _ _ _ => none) (f_X10_worth_6 N) n s x1 x2 x3 x4 x5) s 6 [(0, rf G.1 36), (1, .int x1), (2, .int x2), (3, .int x3), (4, .int x4), (5, .int x5)] [] := by
  intro n
  induction n with
  | zero => exact fun s x1 x2 x3 x4 x5 h => nomatch (show (none : Option (Int32 × Hp)) = some _ from h)
  | succ n ih => exact fun s x1 x2 x3 x4 x5 => w_X10_worth_6 hX hR hE N _ ih s x1 x2 x3 x4 x5
set_option maxRecDepth 20000 in
set_option maxHeartbeats 2000000 in
theorem w_X10_worth {G : Gx} (hX : ok G cX10_worth 9 RX10 (some .int) 0 0) (hR : okR G) (hE : va_D (AW G.1) (wd G.1 (fun _ _ => 0))) (N : Nat) (s : Hp) (x1 x2 x3 : Int32) : T G (f_X10_worth N s x1 x2 x3) s 0 [(0, rf G.1 36), (1, .int x1), (2, .int x2), (3, .int x3)] [] := by
  unfold f_X10_worth
  refine tr_iconst (v := 0) hX dX10_worth_0 rfl ?_
  refine tr_istore (lv2 := [(4, .int 0), (0, rf G.1 36), (1, .int x1), (2, .int x2), (3, .int x3)]) hX dX10_worth_1 (by decide) rfl ?_
  refine tr_iconst (v := 0) hX dX10_worth_3 rfl ?_
  refine tr_istore (lv2 := [(5, .int 0), (4, .int 0), (0, rf G.1 36), (1, .int x1), (2, .int x2), (3, .int x3)]) hX dX10_worth_4 (by decide) rfl ?_
  refine tr_lv (lv2 := [(0, rf G.1 36), (1, .int x1), (2, .int x2), (3, .int x3), (4, .int 0), (5, .int 0)]) [2, 3, 4, 5, 1, 0] rfl ?_
  exact wl_X10_worth_6 hX hR hE N N s x1 x2 x3 0 0
theorem c_X10_worth (E : Ex) (hE : va_D (AW E) (wd E (fun _ _ => 0))) (N : Nat) (s : Hp) (x1 x2 x3 : Int32) (r : Int32 × Hp) (h : f_X10_worth N s x1 x2 x3 = some r) : CtrI E yX10_worth cX10_worth 9 (some .int) 0 0 [rf E 36, .int x1, .int x2, .int x3] s r :=
  ctrI_of (by decide +kernel) hE (Nat.le_of_ble_eq_true rfl) h (fun G hX hR hG => by subst hG; exact w_X10_worth hX hR hE N s x1 x2 x3)
set_option maxRecDepth 20000 in
set_option maxHeartbeats 2000000 in
theorem w_X10_latestAhead_74 {G : Gx} (hX : ok G cX10_latestAhead 6 RX10 (some .int) 0 0) (hR : okR G) (hE : va_D (AW G.1) (wd G.1 (fun _ _ => 0))) (N : Nat) (k5 : Hp → Int32 → Int32 → Int32 → Int32 → Option (Int32 × Hp)) (hk5 : ∀ (s : Hp) (x1 x2 x3 x4 : Int32), T G (k5 s x1 x2 x3 x4) s 5 [(0, rf G.1 36), (1, .int x1), (2, .int x2), (3, .int x3), (4, .int x4)] []) (s : Hp) (x1 x2 x3 x4 : Int32) : T G (f_X10_latestAhead_74 N k5 s x1 x2 x3 x4) s 74 [(0, rf G.1 36), (1, .int x1), (2, .int x2), (3, .int x3), (4, .int x4)] [] := by
  unfold f_X10_latestAhead_74
  refine tr_iincB (b := 1) (lv2 := fun y1 => [(4, .int y1), (0, rf G.1 36), (1, .int x1), (2, .int x2), (3, .int x3)]) hX 4 dX10_latestAhead_74 rfl rfl (by decide) (fun _ => rfl) fun y1 => ?_
  refine tr_goto hX 5 dX10_latestAhead_77 (by decide) ?_
  refine tr_lv (lv2 := [(0, rf G.1 36), (1, .int x1), (2, .int x2), (3, .int x3), (4, .int y1)]) [1, 2, 3, 4, 0] rfl ?_
  exact hk5 s x1 x2 x3 y1
set_option maxRecDepth 20000 in
set_option maxHeartbeats 2000000 in
theorem w_X10_latestAhead_63 {G : Gx} (hX : ok G cX10_latestAhead 6 RX10 (some .int) 0 0) (hR : okR G) (hE : va_D (AW G.1) (wd G.1 (fun _ _ => 0))) (N : Nat) (k5 : Hp → Int32 → Int32 → Int32 → Int32 → Option (Int32 × Hp)) (hk5 : ∀ (s : Hp) (x1 x2 x3 x4 : Int32), T G (k5 s x1 x2 x3 x4) s 5 [(0, rf G.1 36), (1, .int x1), (2, .int x2), (3, .int x3), (4, .int x4)] []) (s : Hp) (x1 x2 x3 x4 t0 : Int32) : T G (f_X10_latestAhead_63 N k5 s x1 x2 x3 x4 t0) s 63 [(0, rf G.1 36), (1, .int x1), (2, .int x2), (3, .int x3), (4, .int x4)] [.int t0] := by
  unfold f_X10_latestAhead_63
  refine tr_istore (lv2 := [(5, .int t0), (0, rf G.1 36), (1, .int x1), (2, .int x2), (3, .int x3), (4, .int x4)]) hX dX10_latestAhead_63 (by decide) rfl ?_
  refine tr_iload hX 0 dX10_latestAhead_65 rfl ?_
  refine tr_iload_n hX 4 dX10_latestAhead_67 rfl rfl ?_
  refine tr_icmp_le hX 74 dX10_latestAhead_68 (by decide) ?_ ?_
  · refine tr_lv (lv2 := [(0, rf G.1 36), (1, .int x1), (2, .int x2), (3, .int x3), (4, .int x4)]) [1, 2, 3, 4, 5] rfl ?_
    exact w_X10_latestAhead_74 hX hR hE N k5 hk5 s x1 x2 x3 x4
  · refine tr_iload hX 0 dX10_latestAhead_71 rfl ?_
    refine tr_istore_n (lv2 := [(3, .int t0), (5, .int t0), (0, rf G.1 36), (1, .int x1), (2, .int x2), (4, .int x4)]) hX dX10_latestAhead_73 rfl (by decide) rfl ?_
    refine tr_lv (lv2 := [(0, rf G.1 36), (1, .int x1), (2, .int x2), (3, .int t0), (4, .int x4)]) [2, 3, 4, 0, 5] rfl ?_
    exact w_X10_latestAhead_74 hX hR hE N k5 hk5 s x1 x2 t0 x4
set_option maxRecDepth 20000 in
set_option maxHeartbeats 2000000 in
theorem w_X10_latestAhead_5 {G : Gx} (hX : ok G cX10_latestAhead 6 RX10 (some .int) 0 0) (hR : okR G) (hE : va_D (AW G.1) (wd G.1 (fun _ _ => 0))) (N : Nat) (k5 : Hp → Int32 → Int32 → Int32 → Int32 → Option (Int32 × Hp)) (hk5 : ∀ (s : Hp) (x1 x2 x3 x4 : Int32), T G (k5 s x1 x2 x3 x4) s 5 [(0, rf G.1 36), (1, .int x1), (2, .int x2), (3, .int x3), (4, .int x4)] []) (s : Hp) (x1 x2 x3 x4 : Int32) : T G (f_X10_latestAhead_5 N k5 s x1 x2 x3 x4) s 5 [(0, rf G.1 36), (1, .int x1), (2, .int x2), (3, .int x3), (4, .int x4)] [] := by
  unfold f_X10_latestAhead_5
  refine tr_iload hX 4 dX10_latestAhead_5 rfl ?_
  refine tr_aload_n hX 0 dX10_latestAhead_7 rfl rfl ?_
  refine tr_getI hX 36 3 (by decide) rfl rfl rfl (by decide) gX10 wm_699 dX10_latestAhead_8 ?_
  refine tr_icmp_ge hX 80 dX10_latestAhead_11 (by decide) ?_ ?_
  · refine tr_iload_n hX 3 dX10_latestAhead_80 rfl rfl ?_
    exact tr_iret hX hR dX10_latestAhead_81
  · refine tr_aload_n hX 0 dX10_latestAhead_14 rfl rfl ?_
    refine tr_getR hX 36 5 (by decide) rfl rfl rfl (by decide) gX10 wm_701 dX10_latestAhead_15 ?_
    refine tr_iload hX 4 dX10_latestAhead_18 rfl ?_
    refine tr_iald hX 40 (by decide) rfl dX10_latestAhead_20 ?_
    refine tr_iload_n hX 1 dX10_latestAhead_21 rfl rfl ?_
    refine tr_icmp_ne hX 74 dX10_latestAhead_22 (by decide) ?_ ?_
    · exact w_X10_latestAhead_74 hX hR hE N k5 hk5 s x1 x2 x3 x4
    · refine tr_aload_n hX 0 dX10_latestAhead_25 rfl rfl ?_
      refine tr_getR hX 36 6 (by decide) rfl rfl rfl (by decide) gX10 wm_702 dX10_latestAhead_26 ?_
      refine tr_iload hX 4 dX10_latestAhead_29 rfl ?_
      refine tr_iald hX 41 (by decide) rfl dX10_latestAhead_31 ?_
      refine tr_iload_n hX 2 dX10_latestAhead_32 rfl rfl ?_
      refine tr_icmp_lt hX 39 dX10_latestAhead_33 (by decide) ?_ ?_
      · refine tr_aload_n hX 0 dX10_latestAhead_39 rfl rfl ?_
        refine tr_getR hX 36 7 (by decide) rfl rfl rfl (by decide) gX10 wm_703 dX10_latestAhead_40 ?_
        refine tr_iload hX 4 dX10_latestAhead_43 rfl ?_
        refine tr_iald hX 42 (by decide) rfl dX10_latestAhead_45 ?_
        refine tr_iload_n hX 2 dX10_latestAhead_46 rfl rfl ?_
        refine tr_icmp_ge hX 60 dX10_latestAhead_47 (by decide) ?_ ?_
        · refine tr_iload_n hX 2 dX10_latestAhead_60 rfl rfl ?_
          refine tr_iconst (v := 1) hX dX10_latestAhead_61 rfl ?_
          refine tr_isub hX dX10_latestAhead_62 ?_
          exact w_X10_latestAhead_63 hX hR hE N k5 hk5 s x1 x2 x3 x4 (x2 - 1)
        · refine tr_aload_n hX 0 dX10_latestAhead_50 rfl rfl ?_
          refine tr_getR hX 36 7 (by decide) rfl rfl rfl (by decide) gX10 wm_703 dX10_latestAhead_51 ?_
          refine tr_iload hX 4 dX10_latestAhead_54 rfl ?_
          refine tr_iald hX 42 (by decide) rfl dX10_latestAhead_56 ?_
          refine tr_goto hX 63 dX10_latestAhead_57 (by decide) ?_
          exact w_X10_latestAhead_63 hX hR hE N k5 hk5 s x1 x2 x3 x4 (s 42 (ix x4))
      · refine tr_goto hX 74 dX10_latestAhead_36 (by decide) ?_
        exact w_X10_latestAhead_74 hX hR hE N k5 hk5 s x1 x2 x3 x4
theorem wl_X10_latestAhead_5 {G : Gx} (hX : ok G cX10_latestAhead 6 RX10 (some .int) 0 0) (hR : okR G) (hE : va_D (AW G.1) (wd G.1 (fun _ _ => 0))) (N : Nat) : ∀ (n : Nat) (s : Hp) (x1 x2 x3 x4 : Int32), T G (lp (fun _ _ _ _ _ => none) (f_X10_latestAhead_5 N) n s x1 x2 x3 x4) s 5 [(0, rf G.1 36), (1, .int x1), (2, .int x2), (3, .int x3), (4, .int x4)] [] := by
  intro n
  induction n with
  | zero => exact fun s x1 x2 x3 x4 h => nomatch (show (none : Option (Int32 × Hp)) = some _ from h)
  | succ n ih => exact fun s x1 x2 x3 x4 => w_X10_latestAhead_5 hX hR hE N _ ih s x1 x2 x3 x4
set_option maxRecDepth 20000 in
set_option maxHeartbeats 2000000 in
theorem w_X10_latestAhead {G : Gx} (hX : ok G cX10_latestAhead 6 RX10 (some .int) 0 0) (hR : okR G) (hE : va_D (AW G.1) (wd G.1 (fun _ _ => 0))) (N : Nat) (s : Hp) (x1 x2 : Int32) : T G (f_X10_latestAhead N s x1 x2) s 0 [(0, rf G.1 36), (1, .int x1), (2, .int x2)] [] := by
  unfold f_X10_latestAhead
  refine tr_iconst (v := (-1)) hX dX10_latestAhead_0 rfl ?_
  refine tr_istore_n (lv2 := [(3, .int (-1)), (0, rf G.1 36), (1, .int x1), (2, .int x2)]) hX dX10_latestAhead_1 rfl (by decide) rfl ?_
  refine tr_iconst (v := 0) hX dX10_latestAhead_2 rfl ?_
  refine tr_istore (lv2 := [(4, .int 0), (3, .int (-1)), (0, rf G.1 36), (1, .int x1), (2, .int x2)]) hX dX10_latestAhead_3 (by decide) rfl ?_
  refine tr_lv (lv2 := [(0, rf G.1 36), (1, .int x1), (2, .int x2), (3, .int (-1)), (4, .int 0)]) [2, 3, 4, 1, 0] rfl ?_
  exact wl_X10_latestAhead_5 hX hR hE N N s x1 x2 (-1) 0
theorem c_X10_latestAhead (E : Ex) (hE : va_D (AW E) (wd E (fun _ _ => 0))) (N : Nat) (s : Hp) (x1 x2 : Int32) (r : Int32 × Hp) (h : f_X10_latestAhead N s x1 x2 = some r) : CtrI E yX10_latestAhead cX10_latestAhead 6 (some .int) 0 0 [rf E 36, .int x1, .int x2] s r :=
  ctrI_of (by decide +kernel) hE (Nat.le_of_ble_eq_true rfl) h (fun G hX hR hG => by subst hG; exact w_X10_latestAhead hX hR hE N s x1 x2)
set_option maxRecDepth 20000 in
set_option maxHeartbeats 2000000 in
theorem w_X10_sweep_93 {G : Gx} (hX : ok G cX10_sweep 10 RX10 (some .int) 1 28) (hR : okR G) (hE : va_D (AW G.1) (wd G.1 (fun _ _ => 0))) (N : Nat) (k62 : Hp → Int32 → Int32 → Int32 → Int32 → Int32 → Int32 → Option (Int32 × Hp)) (hk62 : ∀ (s : Hp) (x1 x2 x3 x4 x5 x6 : Int32), T G (k62 s x1 x2 x3 x4 x5 x6) s 62 [(0, rf G.1 36), (1, .int x1), (2, .int x2), (3, .int x3), (4, .int x4), (5, .int x5), (6, .int x6)] []) (s : Hp) (x1 x2 x3 x4 x5 x6 : Int32) : T G (f_X10_sweep_93 N k62 s x1 x2 x3 x4 x5 x6) s 93 [(0, rf G.1 36), (1, .int x1), (2, .int x2), (3, .int x3), (4, .int x4), (5, .int x5), (6, .int x6)] [] := by
  unfold f_X10_sweep_93
  refine tr_iincB (b := 1) (lv2 := fun y11 => [(6, .int y11), (0, rf G.1 36), (1, .int x1), (2, .int x2), (3, .int x3), (4, .int x4), (5, .int x5)]) hX 6 dX10_sweep_93 rfl rfl (by decide) (fun _ => rfl) fun y11 => ?_
  refine tr_goto hX 62 dX10_sweep_96 (by decide) ?_
  refine tr_lv (lv2 := [(0, rf G.1 36), (1, .int x1), (2, .int x2), (3, .int x3), (4, .int x4), (5, .int x5), (6, .int y11)]) [1, 2, 3, 4, 5, 6, 0] rfl ?_
  exact hk62 s x1 x2 x3 x4 x5 y11
set_option maxRecDepth 20000 in
set_option maxHeartbeats 2000000 in
theorem w_X10_sweep_111 {G : Gx} (hX : ok G cX10_sweep 10 RX10 (some .int) 1 28) (hR : okR G) (hE : va_D (AW G.1) (wd G.1 (fun _ _ => 0))) (N : Nat) (k102 : Hp → Int32 → Int32 → Int32 → Int32 → Int32 → Option (Int32 × Hp)) (hk102 : ∀ (s : Hp) (x2 x3 x4 x5 x6 : Int32), T G (k102 s x2 x3 x4 x5 x6) s 102 [(0, rf G.1 36), (2, .int x2), (3, .int x3), (4, .int x4), (5, .int x5), (6, .int x6)] []) (k111 : Hp → Int32 → Int32 → Int32 → Int32 → Int32 → Int32 → Option (Int32 × Hp)) (hk111 : ∀ (s : Hp) (x2 x3 x4 x5 x6 x7 : Int32), T G (k111 s x2 x3 x4 x5 x6 x7) s 111 [(0, rf G.1 36), (2, .int x2), (3, .int x3), (4, .int x4), (5, .int x5), (6, .int x6), (7, .int x7)] []) (s : Hp) (x2 x3 x4 x5 x6 x7 : Int32) : T G (f_X10_sweep_111 N k102 k111 s x2 x3 x4 x5 x6 x7) s 111 [(0, rf G.1 36), (2, .int x2), (3, .int x3), (4, .int x4), (5, .int x5), (6, .int x6), (7, .int x7)] [] := by
  unfold f_X10_sweep_111
  refine tr_iload hX 6 dX10_sweep_111 rfl ?_
  refine tr_bipush (v := 16) hX dX10_sweep_113 rfl ?_
  refine tr_icmp_ge hX 150 dX10_sweep_115 (by decide) ?_ ?_
  · refine tr_aload_n hX 0 dX10_sweep_150 rfl rfl ?_
    refine tr_getR hX 36 33 (by decide) rfl rfl rfl (by decide) gX10 wm_729 dX10_sweep_151 ?_
    refine tr_iload hX 5 dX10_sweep_154 rfl ?_
    refine tr_iconst (v := 0) hX dX10_sweep_156 rfl ?_
    refine tr_iast hX 55 (by decide) rfl dX10_sweep_157 fun s15 => ?_
    refine tr_iincB (b := 1) (lv2 := fun y16 => [(6, .int y16), (0, rf G.1 36), (2, .int x2), (3, .int x3), (4, .int x4), (5, .int x5), (7, .int x7)]) hX 5 dX10_sweep_158 rfl rfl (by decide) (fun _ => rfl) fun y16 => ?_
    refine tr_goto hX 102 dX10_sweep_161 (by decide) ?_
    refine tr_lv (lv2 := [(0, rf G.1 36), (2, .int x2), (3, .int x3), (4, .int x4), (5, .int x5), (6, .int y16)]) [1, 2, 3, 4, 5, 0] rfl ?_
    exact hk102 s15 x2 x3 x4 x5 y16
  · refine tr_aload_n hX 0 dX10_sweep_118 rfl rfl ?_
    refine tr_getR hX 36 34 (by decide) rfl rfl rfl (by decide) gX10 wm_730 dX10_sweep_119 ?_
    refine tr_bipush (v := 16) hX dX10_sweep_122 rfl ?_
    refine tr_iload hX 5 dX10_sweep_124 rfl ?_
    refine tr_imul hX dX10_sweep_126 ?_
    refine tr_iload hX 6 dX10_sweep_127 rfl ?_
    refine tr_iadd hX dX10_sweep_129 ?_
    refine tr_aload_n hX 0 dX10_sweep_130 rfl rfl ?_
    refine tr_iload hX 6 dX10_sweep_131 rfl ?_
    refine tr_iload_n hX 1 dX10_sweep_133 rfl rfl ?_
    refine tr_iload hX 5 dX10_sweep_134 rfl ?_
    refine tr_iload hX 3 dX10_sweep_136 rfl ?_
    refine tr_imul hX dX10_sweep_138 ?_
    refine tr_iadd hX dX10_sweep_139 ?_
    refine tr_callV hX 36 [.int x7, .int (x2 + (x6 * x4))] kv_X10_latestAhead wm_983 (by decide) rfl rfl rfl (by decide) rfl rfl (Nat.le_of_ble_eq_true rfl) dX10_sweep_140 (fun vq sq hq => c_X10_latestAhead G.1 hE N s x7 (x2 + (x6 * x4)) (vq, sq) hq) fun v18 s17 => ?_
    refine tr_iast hX 56 (by decide) rfl dX10_sweep_143 fun s19 => ?_
    refine tr_iincB (b := 1) (lv2 := fun y20 => [(7, .int y20), (0, rf G.1 36), (2, .int x2), (3, .int x3), (4, .int x4), (5, .int x5), (6, .int x6)]) hX 6 dX10_sweep_144 rfl rfl (by decide) (fun _ => rfl) fun y20 => ?_
    refine tr_goto hX 111 dX10_sweep_147 (by decide) ?_
    refine tr_lv (lv2 := [(0, rf G.1 36), (2, .int x2), (3, .int x3), (4, .int x4), (5, .int x5), (6, .int x6), (7, .int y20)]) [1, 2, 3, 4, 5, 6, 0] rfl ?_
    exact hk111 s19 x2 x3 x4 x5 x6 y20
theorem wl_X10_sweep_111 {G : Gx} (hX : ok G cX10_sweep 10 RX10 (some .int) 1 28) (hR : okR G) (hE : va_D (AW G.1) (wd G.1 (fun _ _ => 0))) (N : Nat) (k102 : Hp → Int32 → Int32 → Int32 → Int32 → Int32 → Option (Int32 × Hp)) (hk102 : ∀ (s : Hp) (x2 x3 x4 x5 x6 : Int32), T G (k102 s x2 x3 x4 x5 x6) s 102 [(0, rf G.1 36), (2, .int x2), (3, .int x3), (4, .int x4), (5, .int x5), (6, .int x6)] []) : ∀ (n : Nat) (s : Hp) (x2 x3 x4 x5 x6 x7 : Int32), T G (lp (fun _ _ _ _ _ _ _ => none) (f_X10_sweep_111 N k102) n s x2 x3 x4 x5 x6 x7) s 111 [(0, rf G.1 36), (2, .int x2), (3, .int x3), (4, .int x4), (5, .int x5), (6, .int x6), (7, .int x7)] [] := by
  intro n
  induction n with
  | zero => exact fun s x2 x3 x4 x5 x6 x7 h => nomatch (show (none : Option (Int32 × Hp)) = some _ from h)
  | succ n ih => exact fun s x2 x3 x4 x5 x6 x7 => w_X10_sweep_111 hX hR hE N k102 hk102 _ ih s x2 x3 x4 x5 x6 x7
set_option maxRecDepth 20000 in
set_option maxHeartbeats 2000000 in
theorem w_X10_sweep_301 {G : Gx} (hX : ok G cX10_sweep 10 RX10 (some .int) 1 28) (hR : okR G) (hE : va_D (AW G.1) (wd G.1 (fun _ _ => 0))) (N : Nat) (k170 : Hp → Int32 → Int32 → Int32 → Int32 → Int32 → Int32 → Option (Int32 × Hp)) (hk170 : ∀ (s : Hp) (x2 x3 x4 x5 x6 x7 : Int32), T G (k170 s x2 x3 x4 x5 x6 x7) s 170 [(0, rf G.1 36), (2, .int x2), (3, .int x3), (4, .int x4), (5, .int x5), (6, .int x6), (7, .int x7)] []) (s : Hp) (x2 x3 x4 x5 x6 x7 : Int32) : T G (f_X10_sweep_301 N k170 s x2 x3 x4 x5 x6 x7) s 301 [(0, rf G.1 36), (2, .int x2), (3, .int x3), (4, .int x4), (5, .int x5), (6, .int x6), (7, .int x7)] [] := by
  unfold f_X10_sweep_301
  refine tr_goto hX 170 dX10_sweep_301 (by decide) ?_
  exact hk170 s x2 x3 x4 x5 x6 x7
set_option maxRecDepth 20000 in
set_option maxHeartbeats 2000000 in
theorem w_X10_sweep_283 {G : Gx} (hX : ok G cX10_sweep 10 RX10 (some .int) 1 28) (hR : okR G) (hE : va_D (AW G.1) (wd G.1 (fun _ _ => 0))) (N : Nat) (k170 : Hp → Int32 → Int32 → Int32 → Int32 → Int32 → Int32 → Option (Int32 × Hp)) (hk170 : ∀ (s : Hp) (x2 x3 x4 x5 x6 x7 : Int32), T G (k170 s x2 x3 x4 x5 x6 x7) s 170 [(0, rf G.1 36), (2, .int x2), (3, .int x3), (4, .int x4), (5, .int x5), (6, .int x6), (7, .int x7)] []) (s : Hp) (x2 x3 x4 x5 x6 x9 t0 : Int32) : T G (f_X10_sweep_283 N k170 s x2 x3 x4 x5 x6 x9 t0) s 283 [(0, rf G.1 36), (2, .int x2), (3, .int x3), (4, .int x4), (5, .int x5), (6, .int x6), (9, .int x9)] [.int t0] := by
  unfold f_X10_sweep_283
  refine tr_istore (lv2 := [(7, .int t0), (0, rf G.1 36), (2, .int x2), (3, .int x3), (4, .int x4), (5, .int x5), (6, .int x6), (9, .int x9)]) hX dX10_sweep_283 (by decide) rfl ?_
  refine tr_iload hX 0 dX10_sweep_285 rfl ?_
  refine tr_if_eq hX 301 dX10_sweep_287 (by decide) ?_ ?_
  · refine tr_lv (lv2 := [(0, rf G.1 36), (2, .int x2), (3, .int x3), (4, .int x4), (5, .int x5), (6, .int x6), (7, .int t0)]) [1, 2, 3, 4, 5, 6, 0] rfl ?_
    exact w_X10_sweep_301 hX hR hE N k170 hk170 s x2 x3 x4 x5 x6 t0
  · refine tr_aload_n hX 1 dX10_sweep_290 rfl rfl ?_
    refine tr_getR hX 36 33 (by decide) rfl rfl rfl (by decide) gX10 wm_729 dX10_sweep_291 ?_
    refine tr_iload hX 7 dX10_sweep_294 rfl ?_
    refine tr_dup2 hX dX10_sweep_296 rfl rfl ?_
    refine tr_iald hX 55 (by decide) rfl dX10_sweep_297 ?_
    refine tr_iconst (v := 1) hX dX10_sweep_298 rfl ?_
    refine tr_iadd hX dX10_sweep_299 ?_
    refine tr_iast hX 55 (by decide) rfl dX10_sweep_300 fun s26 => ?_
    refine tr_lv (lv2 := [(0, rf G.1 36), (2, .int x2), (3, .int x3), (4, .int x4), (5, .int x5), (6, .int x6), (7, .int t0)]) [1, 2, 3, 4, 5, 6, 0] rfl ?_
    exact w_X10_sweep_301 hX hR hE N k170 hk170 s26 x2 x3 x4 x5 x6 t0
set_option maxRecDepth 20000 in
set_option maxHeartbeats 2000000 in
theorem w_X10_sweep_273 {G : Gx} (hX : ok G cX10_sweep 10 RX10 (some .int) 1 28) (hR : okR G) (hE : va_D (AW G.1) (wd G.1 (fun _ _ => 0))) (N : Nat) (k170 : Hp → Int32 → Int32 → Int32 → Int32 → Int32 → Int32 → Option (Int32 × Hp)) (hk170 : ∀ (s : Hp) (x2 x3 x4 x5 x6 x7 : Int32), T G (k170 s x2 x3 x4 x5 x6 x7) s 170 [(0, rf G.1 36), (2, .int x2), (3, .int x3), (4, .int x4), (5, .int x5), (6, .int x6), (7, .int x7)] []) (s : Hp) (x2 x3 x4 x5 x6 x9 : Int32) : T G (f_X10_sweep_273 N k170 s x2 x3 x4 x5 x6 x9) s 273 [(0, rf G.1 36), (2, .int x2), (3, .int x3), (4, .int x4), (5, .int x5), (6, .int x6), (9, .int x9)] [] := by
  unfold f_X10_sweep_273
  refine tr_iload hX 6 dX10_sweep_273 rfl ?_
  refine tr_if_lt hX 282 dX10_sweep_275 (by decide) ?_ ?_
  · refine tr_iconst (v := 0) hX dX10_sweep_282 rfl ?_
    exact w_X10_sweep_283 hX hR hE N k170 hk170 s x2 x3 x4 x5 x6 x9 0
  · refine tr_iconst (v := 1) hX dX10_sweep_278 rfl ?_
    refine tr_goto hX 283 dX10_sweep_279 (by decide) ?_
    exact w_X10_sweep_283 hX hR hE N k170 hk170 s x2 x3 x4 x5 x6 x9 1
set_option maxRecDepth 20000 in
set_option maxHeartbeats 2000000 in
theorem w_X10_sweep_240 {G : Gx} (hX : ok G cX10_sweep 10 RX10 (some .int) 1 28) (hR : okR G) (hE : va_D (AW G.1) (wd G.1 (fun _ _ => 0))) (N : Nat) (k170 : Hp → Int32 → Int32 → Int32 → Int32 → Int32 → Int32 → Option (Int32 × Hp)) (hk170 : ∀ (s : Hp) (x2 x3 x4 x5 x6 x7 : Int32), T G (k170 s x2 x3 x4 x5 x6 x7) s 170 [(0, rf G.1 36), (2, .int x2), (3, .int x3), (4, .int x4), (5, .int x5), (6, .int x6), (7, .int x7)] []) (k240 : Hp → Int32 → Int32 → Int32 → Int32 → Int32 → Int32 → Option (Int32 × Hp)) (hk240 : ∀ (s : Hp) (x2 x3 x4 x5 x6 x9 : Int32), T G (k240 s x2 x3 x4 x5 x6 x9) s 240 [(0, rf G.1 36), (2, .int x2), (3, .int x3), (4, .int x4), (5, .int x5), (6, .int x6), (9, .int x9)] []) (s : Hp) (x2 x3 x4 x5 x6 x9 : Int32) : T G (f_X10_sweep_240 N k170 k240 s x2 x3 x4 x5 x6 x9) s 240 [(0, rf G.1 36), (2, .int x2), (3, .int x3), (4, .int x4), (5, .int x5), (6, .int x6), (9, .int x9)] [] := by
  unfold f_X10_sweep_240
  refine tr_iload hX 6 dX10_sweep_240 rfl ?_
  refine tr_if_lt hX 273 dX10_sweep_242 (by decide) ?_ ?_
  · exact w_X10_sweep_273 hX hR hE N k170 hk170 s x2 x3 x4 x5 x6 x9
  · refine tr_aload_n hX 0 dX10_sweep_245 rfl rfl ?_
    refine tr_getR hX 36 33 (by decide) rfl rfl rfl (by decide) gX10 wm_729 dX10_sweep_246 ?_
    refine tr_iload hX 6 dX10_sweep_249 rfl ?_
    refine tr_iald hX 55 (by decide) rfl dX10_sweep_251 ?_
    refine tr_iload hX 4 dX10_sweep_252 rfl ?_
    refine tr_iconst (v := 1) hX dX10_sweep_254 rfl ?_
    refine tr_isub hX dX10_sweep_255 ?_
    refine tr_icmp_ne hX 273 dX10_sweep_256 (by decide) ?_ ?_
    · exact w_X10_sweep_273 hX hR hE N k170 hk170 s x2 x3 x4 x5 x6 x9
    · refine tr_aload_n hX 0 dX10_sweep_259 rfl rfl ?_
      refine tr_getR hX 36 33 (by decide) rfl rfl rfl (by decide) gX10 wm_729 dX10_sweep_260 ?_
      refine tr_iload hX 6 dX10_sweep_263 rfl ?_
      refine tr_iconst (v := 0) hX dX10_sweep_265 rfl ?_
      refine tr_iast hX 55 (by decide) rfl dX10_sweep_266 fun s24 => ?_
      refine tr_iincB (b := (-1)) (lv2 := fun y25 => [(9, .int y25), (0, rf G.1 36), (2, .int x2), (3, .int x3), (4, .int x4), (5, .int x5), (6, .int x6)]) hX 6 dX10_sweep_267 rfl rfl (by decide) (fun _ => rfl) fun y25 => ?_
      refine tr_goto hX 240 dX10_sweep_270 (by decide) ?_
      refine tr_lv (lv2 := [(0, rf G.1 36), (2, .int x2), (3, .int x3), (4, .int x4), (5, .int x5), (6, .int x6), (9, .int y25)]) [1, 2, 3, 4, 5, 6, 0] rfl ?_
      exact hk240 s24 x2 x3 x4 x5 x6 y25
theorem wl_X10_sweep_240 {G : Gx} (hX : ok G cX10_sweep 10 RX10 (some .int) 1 28) (hR : okR G) (hE : va_D (AW G.1) (wd G.1 (fun _ _ => 0))) (N : Nat) (k170 : Hp → Int32 → Int32 → Int32 → Int32 → Int32 → Int32 → Option (Int32 × Hp)) (hk170 : ∀ (s : Hp) (x2 x3 x4 x5 x6 x7 : Int32), T G (k170 s x2 x3 x4 x5 x6 x7) s 170 [(0, rf G.1 36), (2, .int x2), (3, .int x3), (4, .int x4), (5, .int x5), (6, .int x6), (7, .int x7)] []) : ∀ (n : Nat) (s : Hp) (x2 x3 x4 x5 x6 x9 : Int32), T G (lp (fun _ _ _ _ _ _ _ => none) (f_X10_sweep_240 N k170) n s x2 x3 x4 x5 x6 x9) s 240 [(0, rf G.1 36), (2, .int x2), (3, .int x3), (4, .int x4), (5, .int x5), (6, .int x6), (9, .int x9)] [] := by
  intro n
  induction n with
  | zero => exact fun s x2 x3 x4 x5 x6 x9 h => nomatch (show (none : Option (Int32 × Hp)) = some _ from h)
  | succ n ih => exact fun s x2 x3 x4 x5 x6 x9 => w_X10_sweep_240 hX hR hE N k170 hk170 _ ih s x2 x3 x4 x5 x6 x9
set_option maxRecDepth 20000 in
set_option maxHeartbeats 2000000 in
theorem w_X10_sweep_235 {G : Gx} (hX : ok G cX10_sweep 10 RX10 (some .int) 1 28) (hR : okR G) (hE : va_D (AW G.1) (wd G.1 (fun _ _ => 0))) (N : Nat) (k170 : Hp → Int32 → Int32 → Int32 → Int32 → Int32 → Int32 → Option (Int32 × Hp)) (hk170 : ∀ (s : Hp) (x2 x3 x4 x5 x6 x7 : Int32), T G (k170 s x2 x3 x4 x5 x6 x7) s 170 [(0, rf G.1 36), (2, .int x2), (3, .int x3), (4, .int x4), (5, .int x5), (6, .int x6), (7, .int x7)] []) (s : Hp) (x2 x3 x4 x5 x6 : Int32) : T G (f_X10_sweep_235 N k170 s x2 x3 x4 x5 x6) s 235 [(0, rf G.1 36), (2, .int x2), (3, .int x3), (4, .int x4), (5, .int x5), (6, .int x6)] [] := by
  unfold f_X10_sweep_235
  refine tr_iload_n hX 2 dX10_sweep_235 rfl rfl ?_
  refine tr_iconst (v := 1) hX dX10_sweep_236 rfl ?_
  refine tr_isub hX dX10_sweep_237 ?_
  refine tr_istoreB (lv2 := fun y21 => [(9, .int y21), (0, rf G.1 36), (2, .int x2), (3, .int x3), (4, .int x4), (5, .int x5), (6, .int x6)]) hX dX10_sweep_238 (by decide) (fun _ => rfl) fun y21 => ?_
  refine tr_lv (lv2 := [(0, rf G.1 36), (2, .int x2), (3, .int x3), (4, .int x4), (5, .int x5), (6, .int x6), (9, .int y21)]) [1, 2, 3, 4, 5, 6, 0] rfl ?_
  exact wl_X10_sweep_240 hX hR hE N k170 hk170 N s x2 x3 x4 x5 x6 y21
set_option maxRecDepth 20000 in
set_option maxHeartbeats 2000000 in
theorem w_X10_sweep_204 {G : Gx} (hX : ok G cX10_sweep 10 RX10 (some .int) 1 28) (hR : okR G) (hE : va_D (AW G.1) (wd G.1 (fun _ _ => 0))) (N : Nat) (k170 : Hp → Int32 → Int32 → Int32 → Int32 → Int32 → Int32 → Option (Int32 × Hp)) (hk170 : ∀ (s : Hp) (x2 x3 x4 x5 x6 x7 : Int32), T G (k170 s x2 x3 x4 x5 x6 x7) s 170 [(0, rf G.1 36), (2, .int x2), (3, .int x3), (4, .int x4), (5, .int x5), (6, .int x6), (7, .int x7)] []) (k204 : Hp → Int32 → Int32 → Int32 → Int32 → Int32 → Int32 → Option (Int32 × Hp)) (hk204 : ∀ (s : Hp) (x2 x3 x4 x5 x6 x9 : Int32), T G (k204 s x2 x3 x4 x5 x6 x9) s 204 [(0, rf G.1 36), (2, .int x2), (3, .int x3), (4, .int x4), (5, .int x5), (6, .int x6), (9, .int x9)] []) (s : Hp) (x2 x3 x4 x5 x6 x9 : Int32) : T G (f_X10_sweep_204 N k170 k204 s x2 x3 x4 x5 x6 x9) s 204 [(0, rf G.1 36), (2, .int x2), (3, .int x3), (4, .int x4), (5, .int x5), (6, .int x6), (9, .int x9)] [] := by
  unfold f_X10_sweep_204
  refine tr_iload hX 6 dX10_sweep_204 rfl ?_
  refine tr_iload_n hX 2 dX10_sweep_206 rfl rfl ?_
  refine tr_icmp_ge hX 235 dX10_sweep_207 (by decide) ?_ ?_
  · refine tr_lv (lv2 := [(0, rf G.1 36), (2, .int x2), (3, .int x3), (4, .int x4), (5, .int x5), (6, .int x6)]) [0, 1, 2, 3, 4, 5] rfl ?_
    exact w_X10_sweep_235 hX hR hE N k170 hk170 s x2 x3 x4 x5 x6
  · refine tr_aload_n hX 0 dX10_sweep_210 rfl rfl ?_
    refine tr_getR hX 36 32 (by decide) rfl rfl rfl (by decide) gX10 wm_728 dX10_sweep_211 ?_
    refine tr_iload hX 6 dX10_sweep_214 rfl ?_
    refine tr_aload_n hX 0 dX10_sweep_216 rfl rfl ?_
    refine tr_getR hX 36 35 (by decide) rfl rfl rfl (by decide) gX10 wm_731 dX10_sweep_217 ?_
    refine tr_aload_n hX 0 dX10_sweep_220 rfl rfl ?_
    refine tr_getR hX 36 33 (by decide) rfl rfl rfl (by decide) gX10 wm_729 dX10_sweep_221 ?_
    refine tr_iload hX 6 dX10_sweep_224 rfl ?_
    refine tr_iald hX 55 (by decide) rfl dX10_sweep_226 ?_
    refine tr_iald hX 57 (by decide) rfl dX10_sweep_227 ?_
    refine tr_iast hX 54 (by decide) rfl dX10_sweep_228 fun s22 => ?_
    refine tr_iincB (b := 1) (lv2 := fun y23 => [(9, .int y23), (0, rf G.1 36), (2, .int x2), (3, .int x3), (4, .int x4), (5, .int x5), (6, .int x6)]) hX 6 dX10_sweep_229 rfl rfl (by decide) (fun _ => rfl) fun y23 => ?_
    refine tr_goto hX 204 dX10_sweep_232 (by decide) ?_
    refine tr_lv (lv2 := [(0, rf G.1 36), (2, .int x2), (3, .int x3), (4, .int x4), (5, .int x5), (6, .int x6), (9, .int y23)]) [1, 2, 3, 4, 5, 6, 0] rfl ?_
    exact hk204 s22 x2 x3 x4 x5 x6 y23
theorem wl_X10_sweep_204 {G : Gx} (hX : ok G cX10_sweep 10 RX10 (some .int) 1 28) (hR : okR G) (hE : va_D (AW G.1) (wd G.1 (fun _ _ => 0))) (N : Nat) (k170 : Hp → Int32 → Int32 → Int32 → Int32 → Int32 → Int32 → Option (Int32 × Hp)) (hk170 : ∀ (s : Hp) (x2 x3 x4 x5 x6 x7 : Int32), T G (k170 s x2 x3 x4 x5 x6 x7) s 170 [(0, rf G.1 36), (2, .int x2), (3, .int x3), (4, .int x4), (5, .int x5), (6, .int x6), (7, .int x7)] []) : ∀ (n : Nat) (s : Hp) (x2 x3 x4 x5 x6 x9 : Int32), T G (lp (fun _ _ _ _ _ _ _ => none) (f_X10_sweep_204 N k170) n s x2 x3 x4 x5 x6 x9) s 204 [(0, rf G.1 36), (2, .int x2), (3, .int x3), (4, .int x4), (5, .int x5), (6, .int x6), (9, .int x9)] [] := by
  intro n
  induction n with
  | zero => exact fun s x2 x3 x4 x5 x6 x9 h => nomatch (show (none : Option (Int32 × Hp)) = some _ from h)
  | succ n ih => exact fun s x2 x3 x4 x5 x6 x9 => w_X10_sweep_204 hX hR hE N k170 hk170 _ ih s x2 x3 x4 x5 x6 x9
set_option maxRecDepth 20000 in
set_option maxHeartbeats 2000000 in
theorem w_X10_sweep_170 {G : Gx} (hX : ok G cX10_sweep 10 RX10 (some .int) 1 28) (hR : okR G) (hE : va_D (AW G.1) (wd G.1 (fun _ _ => 0))) (N : Nat) (k170 : Hp → Int32 → Int32 → Int32 → Int32 → Int32 → Int32 → Option (Int32 × Hp)) (hk170 : ∀ (s : Hp) (x2 x3 x4 x5 x6 x7 : Int32), T G (k170 s x2 x3 x4 x5 x6 x7) s 170 [(0, rf G.1 36), (2, .int x2), (3, .int x3), (4, .int x4), (5, .int x5), (6, .int x6), (7, .int x7)] []) (s : Hp) (x2 x3 x4 x5 x6 x7 : Int32) : T G (f_X10_sweep_170 N k170 s x2 x3 x4 x5 x6 x7) s 170 [(0, rf G.1 36), (2, .int x2), (3, .int x3), (4, .int x4), (5, .int x5), (6, .int x6), (7, .int x7)] [] := by
  unfold f_X10_sweep_170
  refine tr_iload hX 6 dX10_sweep_170 rfl ?_
  refine tr_if_eq hX 304 dX10_sweep_172 (by decide) ?_ ?_
  · refine tr_iload hX 5 dX10_sweep_304 rfl ?_
    exact tr_iret hX hR dX10_sweep_306
  · refine tr_aload_n hX 0 dX10_sweep_175 rfl rfl ?_
    refine tr_iload_n hX 2 dX10_sweep_176 rfl rfl ?_
    refine tr_iload_n hX 1 dX10_sweep_177 rfl rfl ?_
    refine tr_iload hX 3 dX10_sweep_178 rfl ?_
    refine tr_callV hX 36 [.int x3, .int x2, .int x4] kv_X10_worth wm_987 (by decide) rfl rfl rfl (by decide) rfl rfl (Nat.le_of_ble_eq_true rfl) dX10_sweep_180 (fun vq sq hq => c_X10_worth G.1 hE N s x3 x2 x4 (vq, sq) hq) fun v13 s12 => ?_
    refine tr_istore (lv2 := [(8, .int v13), (0, rf G.1 36), (2, .int x2), (3, .int x3), (4, .int x4), (5, .int x5), (6, .int x6), (7, .int x7)]) hX dX10_sweep_183 (by decide) rfl ?_
    refine tr_iload hX 0 dX10_sweep_185 rfl ?_
    refine tr_iload hX 6 dX10_sweep_187 rfl ?_
    refine tr_icmp_le hX 235 dX10_sweep_189 (by decide) ?_ ?_
    · refine tr_lv (lv2 := [(0, rf G.1 36), (2, .int x2), (3, .int x3), (4, .int x4), (5, .int x5), (6, .int x6)]) [1, 2, 3, 4, 5, 6] rfl ?_
      exact w_X10_sweep_235 hX hR hE N k170 hk170 s12 x2 x3 x4 x5 x6
    · refine tr_iload hX 0 dX10_sweep_192 rfl ?_
      refine tr_istore (lv2 := [(6, .int v13), (8, .int v13), (0, rf G.1 36), (2, .int x2), (3, .int x3), (4, .int x4), (5, .int x5), (7, .int x7)]) hX dX10_sweep_194 (by decide) rfl ?_
      refine tr_aload_n hX 2 dX10_sweep_196 rfl rfl ?_
      refine tr_iload_n hX 4 dX10_sweep_197 rfl rfl ?_
      refine tr_putI hX 36 31 tyX10 tyX10_ok nmX10 (by decide) rfl rfl rfl (by decide) gX10 wm_727 rfl (by decide +kernel) dX10_sweep_198 fun s14 => ?_
      refine tr_iconst (v := 0) hX dX10_sweep_201 rfl ?_
      refine tr_istore (lv2 := [(9, .int 0), (6, .int v13), (8, .int v13), (0, rf G.1 36), (2, .int x2), (3, .int x3), (4, .int x4), (5, .int x5), (7, .int x7)]) hX dX10_sweep_202 (by decide) rfl ?_
      refine tr_lv (lv2 := [(0, rf G.1 36), (2, .int x2), (3, .int x3), (4, .int x4), (5, .int x5), (6, .int v13), (9, .int 0)]) [3, 4, 5, 6, 7, 1, 0] rfl ?_
      exact wl_X10_sweep_204 hX hR hE N k170 hk170 N s14 x2 x3 x4 x5 v13 0
theorem wl_X10_sweep_170 {G : Gx} (hX : ok G cX10_sweep 10 RX10 (some .int) 1 28) (hR : okR G) (hE : va_D (AW G.1) (wd G.1 (fun _ _ => 0))) (N : Nat) : ∀ (n : Nat) (s : Hp) (x2 x3 x4 x5 x6 x7 : Int32), T G (lp (fun _ _ _ _ _ _ _ => none) (f_X10_sweep_170 N) n s x2 x3 x4 x5 x6 x7) s 170 [(0, rf G.1 36), (2, .int x2), (3, .int x3), (4, .int x4), (5, .int x5), (6, .int x6), (7, .int x7)] [] := by
  intro n
  induction n with
  | zero => exact fun s x2 x3 x4 x5 x6 x7 h => nomatch (show (none : Option (Int32 × Hp)) = some _ from h)
  | succ n ih => exact fun s x2 x3 x4 x5 x6 x7 => w_X10_sweep_170 hX hR hE N _ ih s x2 x3 x4 x5 x6 x7
set_option maxRecDepth 20000 in
set_option maxHeartbeats 2000000 in
theorem w_X10_sweep_102 {G : Gx} (hX : ok G cX10_sweep 10 RX10 (some .int) 1 28) (hR : okR G) (hE : va_D (AW G.1) (wd G.1 (fun _ _ => 0))) (N : Nat) (k102 : Hp → Int32 → Int32 → Int32 → Int32 → Int32 → Option (Int32 × Hp)) (hk102 : ∀ (s : Hp) (x2 x3 x4 x5 x6 : Int32), T G (k102 s x2 x3 x4 x5 x6) s 102 [(0, rf G.1 36), (2, .int x2), (3, .int x3), (4, .int x4), (5, .int x5), (6, .int x6)] []) (s : Hp) (x2 x3 x4 x5 x6 : Int32) : T G (f_X10_sweep_102 N k102 s x2 x3 x4 x5 x6) s 102 [(0, rf G.1 36), (2, .int x2), (3, .int x3), (4, .int x4), (5, .int x5), (6, .int x6)] [] := by
  unfold f_X10_sweep_102
  refine tr_iload hX 5 dX10_sweep_102 rfl ?_
  refine tr_iload_n hX 2 dX10_sweep_104 rfl rfl ?_
  refine tr_icmp_ge hX 164 dX10_sweep_105 (by decide) ?_ ?_
  · refine tr_iconst (v := (-1)) hX dX10_sweep_164 rfl ?_
    refine tr_istore (lv2 := [(6, .int (-1)), (0, rf G.1 36), (2, .int x2), (3, .int x3), (4, .int x4), (5, .int x5)]) hX dX10_sweep_165 (by decide) rfl ?_
    refine tr_iconst (v := 1) hX dX10_sweep_167 rfl ?_
    refine tr_istore (lv2 := [(7, .int 1), (6, .int (-1)), (0, rf G.1 36), (2, .int x2), (3, .int x3), (4, .int x4), (5, .int x5)]) hX dX10_sweep_168 (by decide) rfl ?_
    refine tr_lv (lv2 := [(0, rf G.1 36), (2, .int x2), (3, .int x3), (4, .int x4), (5, .int x5), (6, .int (-1)), (7, .int 1)]) [2, 3, 4, 5, 6, 1, 0] rfl ?_
    exact wl_X10_sweep_170 hX hR hE N N s x2 x3 x4 x5 (-1) 1
  · refine tr_iconst (v := 0) hX dX10_sweep_108 rfl ?_
    refine tr_istore (lv2 := [(7, .int 0), (0, rf G.1 36), (2, .int x2), (3, .int x3), (4, .int x4), (5, .int x5), (6, .int x6)]) hX dX10_sweep_109 (by decide) rfl ?_
    refine tr_lv (lv2 := [(0, rf G.1 36), (2, .int x2), (3, .int x3), (4, .int x4), (5, .int x5), (6, .int x6), (7, .int 0)]) [1, 2, 3, 4, 5, 6, 0] rfl ?_
    exact wl_X10_sweep_111 hX hR hE N k102 hk102 N s x2 x3 x4 x5 x6 0
theorem wl_X10_sweep_102 {G : Gx} (hX : ok G cX10_sweep 10 RX10 (some .int) 1 28) (hR : okR G) (hE : va_D (AW G.1) (wd G.1 (fun _ _ => 0))) (N : Nat) : ∀ (n : Nat) (s : Hp) (x2 x3 x4 x5 x6 : Int32), T G (lp (fun _ _ _ _ _ _ => none) (f_X10_sweep_102 N) n s x2 x3 x4 x5 x6) s 102 [(0, rf G.1 36), (2, .int x2), (3, .int x3), (4, .int x4), (5, .int x5), (6, .int x6)] [] := by
  intro n
  induction n with
  | zero => exact fun s x2 x3 x4 x5 x6 h => nomatch (show (none : Option (Int32 × Hp)) = some _ from h)
  | succ n ih => exact fun s x2 x3 x4 x5 x6 => w_X10_sweep_102 hX hR hE N _ ih s x2 x3 x4 x5 x6
set_option maxRecDepth 20000 in
set_option maxHeartbeats 2000000 in
theorem w_X10_sweep_62 {G : Gx} (hX : ok G cX10_sweep 10 RX10 (some .int) 1 28) (hR : okR G) (hE : va_D (AW G.1) (wd G.1 (fun _ _ => 0))) (N : Nat) (k62 : Hp → Int32 → Int32 → Int32 → Int32 → Int32 → Int32 → Option (Int32 × Hp)) (hk62 : ∀ (s : Hp) (x1 x2 x3 x4 x5 x6 : Int32), T G (k62 s x1 x2 x3 x4 x5 x6) s 62 [(0, rf G.1 36), (1, .int x1), (2, .int x2), (3, .int x3), (4, .int x4), (5, .int x5), (6, .int x6)] []) (s : Hp) (x1 x2 x3 x4 x5 x6 : Int32) : T G (f_X10_sweep_62 N k62 s x1 x2 x3 x4 x5 x6) s 62 [(0, rf G.1 36), (1, .int x1), (2, .int x2), (3, .int x3), (4, .int x4), (5, .int x5), (6, .int x6)] [] := by
  unfold f_X10_sweep_62
  refine tr_iload hX 6 dX10_sweep_62 rfl ?_
  refine tr_bipush (v := 16) hX dX10_sweep_64 rfl ?_
  refine tr_icmp_ge hX 99 dX10_sweep_66 (by decide) ?_ ?_
  · refine tr_iconst (v := 0) hX dX10_sweep_99 rfl ?_
    refine tr_istore (lv2 := [(6, .int 0), (0, rf G.1 36), (1, .int x1), (2, .int x2), (3, .int x3), (4, .int x4), (5, .int x5)]) hX dX10_sweep_100 (by decide) rfl ?_
    refine tr_lv (lv2 := [(0, rf G.1 36), (2, .int x2), (3, .int x3), (4, .int x4), (5, .int x5), (6, .int 0)]) [1, 3, 4, 5, 6, 0] rfl ?_
    exact wl_X10_sweep_102 hX hR hE N N s x2 x3 x4 x5 0
  · refine tr_iload_n hX 1 dX10_sweep_69 rfl rfl ?_
    refine tr_iload hX 6 dX10_sweep_70 rfl ?_
    refine tr_ishr hX dX10_sweep_72 ?_
    refine tr_iconst (v := 1) hX dX10_sweep_73 rfl ?_
    refine tr_iand hX dX10_sweep_74 ?_
    refine tr_if_ne hX 81 dX10_sweep_75 (by decide) ?_ ?_
    · refine tr_aload_n hX 0 dX10_sweep_81 rfl rfl ?_
      refine tr_getR hX 36 35 (by decide) rfl rfl rfl (by decide) gX10 wm_731 dX10_sweep_82 ?_
      refine tr_iload hX 5 dX10_sweep_85 rfl ?_
      refine tr_iload hX 6 dX10_sweep_87 rfl ?_
      refine tr_iast hX 57 (by decide) rfl dX10_sweep_89 fun s9 => ?_
      refine tr_iincB (b := 1) (lv2 := fun y10 => [(5, .int y10), (0, rf G.1 36), (1, .int x1), (2, .int x2), (3, .int x3), (4, .int x4), (6, .int x6)]) hX 5 dX10_sweep_90 rfl rfl (by decide) (fun _ => rfl) fun y10 => ?_
      refine tr_lv (lv2 := [(0, rf G.1 36), (1, .int x1), (2, .int x2), (3, .int x3), (4, .int x4), (5, .int y10), (6, .int x6)]) [1, 2, 3, 4, 5, 0, 6] rfl ?_
      exact w_X10_sweep_93 hX hR hE N k62 hk62 s9 x1 x2 x3 x4 y10 x6
    · refine tr_goto hX 93 dX10_sweep_78 (by decide) ?_
      exact w_X10_sweep_93 hX hR hE N k62 hk62 s x1 x2 x3 x4 x5 x6
theorem wl_X10_sweep_62 {G : Gx} (hX : ok G cX10_sweep 10 RX10 (some .int) 1 28) (hR : okR G) (hE : va_D (AW G.1) (wd G.1 (fun _ _ => 0))) (N : Nat) : ∀ (n : Nat) (s : Hp) (x1 x2 x3 x4 x5 x6 : Int32), T G (lp (fun _ _ _ _ _ _ _ => none) (f_X10_sweep_62 N) n s x1 x2 x3 x4 x5 x6) s 62 [(0, rf G.1 36), (1, .int x1), (2, .int x2), (3, .int x3), (4, .int x4), (5, .int x5), (6, .int x6)] [] := by
  intro n
  induction n with
  | zero => exact fun s x1 x2 x3 x4 x5 x6 h => nomatch (show (none : Option (Int32 × Hp)) = some _ from h)
  | succ n ih => exact fun s x1 x2 x3 x4 x5 x6 => w_X10_sweep_62 hX hR hE N _ ih s x1 x2 x3 x4 x5 x6
set_option maxRecDepth 20000 in
set_option maxHeartbeats 2000000 in
theorem w_X10_sweep {G : Gx} (hX : ok G cX10_sweep 10 RX10 (some .int) 1 28) (hR : okR G) (hE : va_D (AW G.1) (wd G.1 (fun _ _ => 0))) (N : Nat) (s : Hp) (x1 x2 x3 x4 : Int32) : T G (f_X10_sweep N s x1 x2 x3 x4) s 0 [(0, rf G.1 36), (1, .int x1), (2, .int x2), (3, .int x3), (4, .int x4)] [] := by
  unfold f_X10_sweep
  refine tr_iload_n hX 1 dX10_sweep_0 rfl rfl ?_
  refine tr_iconst (v := 1) hX dX10_sweep_1 rfl ?_
  refine tr_ldc (v := 65535) hX wm_982 dX10_sweep_2 ?_
  refine tr_callS hX [.int x1, .int 1, .int 65535] ks_X10_isIn wm_809 (by decide) rfl rfl (Nat.le_of_ble_eq_true rfl) dX10_sweep_4 (fun vq sq hq => c_X10_isIn G.1 hE N s x1 1 65535 (vq, sq) hq) fun v2 s1 => ?_
  refine tr_if_eq hX 54 dX10_sweep_7 (by decide) ?_ ?_
  · refine tr_iconst (v := (-1)) hX dX10_sweep_54 rfl ?_
    exact tr_iret hX hR dX10_sweep_55
  · refine tr_iload_n hX 2 dX10_sweep_10 rfl rfl ?_
    refine tr_iconst (v := 0) hX dX10_sweep_11 rfl ?_
    refine tr_sipush (v := 9999) hX dX10_sweep_12 rfl ?_
    refine tr_callS hX [.int x2, .int 0, .int 9999] ks_X10_isIn wm_809 (by decide) rfl rfl (Nat.le_of_ble_eq_true rfl) dX10_sweep_15 (fun vq sq hq => c_X10_isIn G.1 hE N s1 x2 0 9999 (vq, sq) hq) fun v4 s3 => ?_
    refine tr_if_eq hX 54 dX10_sweep_18 (by decide) ?_ ?_
    · refine tr_iconst (v := (-1)) hX dX10_sweep_54 rfl ?_
      exact tr_iret hX hR dX10_sweep_55
    · refine tr_iload_n hX 3 dX10_sweep_21 rfl rfl ?_
      refine tr_iconst (v := 1) hX dX10_sweep_22 rfl ?_
      refine tr_iconst (v := 4) hX dX10_sweep_23 rfl ?_
      refine tr_callS hX [.int x3, .int 1, .int 4] ks_X10_isIn wm_809 (by decide) rfl rfl (Nat.le_of_ble_eq_true rfl) dX10_sweep_24 (fun vq sq hq => c_X10_isIn G.1 hE N s3 x3 1 4 (vq, sq) hq) fun v6 s5 => ?_
      refine tr_if_eq hX 54 dX10_sweep_27 (by decide) ?_ ?_
      · refine tr_iconst (v := (-1)) hX dX10_sweep_54 rfl ?_
        exact tr_iret hX hR dX10_sweep_55
      · refine tr_iload hX 4 dX10_sweep_30 rfl ?_
        refine tr_iconst (v := 1) hX dX10_sweep_32 rfl ?_
        refine tr_sipush (v := 240) hX dX10_sweep_33 rfl ?_
        refine tr_callS hX [.int x4, .int 1, .int 240] ks_X10_isIn wm_809 (by decide) rfl rfl (Nat.le_of_ble_eq_true rfl) dX10_sweep_36 (fun vq sq hq => c_X10_isIn G.1 hE N s5 x4 1 240 (vq, sq) hq) fun v8 s7 => ?_
        refine tr_if_eq hX 54 dX10_sweep_39 (by decide) ?_ ?_
        · refine tr_iconst (v := (-1)) hX dX10_sweep_54 rfl ?_
          exact tr_iret hX hR dX10_sweep_55
        · refine tr_iload_n hX 2 dX10_sweep_42 rfl rfl ?_
          refine tr_iload_n hX 3 dX10_sweep_43 rfl rfl ?_
          refine tr_iload hX 4 dX10_sweep_44 rfl ?_
          refine tr_imul hX dX10_sweep_46 ?_
          refine tr_iadd hX dX10_sweep_47 ?_
          refine tr_sipush (v := 10000) hX dX10_sweep_48 rfl ?_
          refine tr_icmp_le hX 56 dX10_sweep_51 (by decide) ?_ ?_
          · refine tr_iconst (v := 0) hX dX10_sweep_56 rfl ?_
            refine tr_istore (lv2 := [(5, .int 0), (0, rf G.1 36), (1, .int x1), (2, .int x2), (3, .int x3), (4, .int x4)]) hX dX10_sweep_57 (by decide) rfl ?_
            refine tr_iconst (v := 0) hX dX10_sweep_59 rfl ?_
            refine tr_istore (lv2 := [(6, .int 0), (5, .int 0), (0, rf G.1 36), (1, .int x1), (2, .int x2), (3, .int x3), (4, .int x4)]) hX dX10_sweep_60 (by decide) rfl ?_
            refine tr_lv (lv2 := [(0, rf G.1 36), (1, .int x1), (2, .int x2), (3, .int x3), (4, .int x4), (5, .int 0), (6, .int 0)]) [2, 3, 4, 5, 6, 1, 0] rfl ?_
            exact wl_X10_sweep_62 hX hR hE N N s7 x1 x2 x3 x4 0 0
          · refine tr_iconst (v := (-1)) hX dX10_sweep_54 rfl ?_
            exact tr_iret hX hR dX10_sweep_55
theorem c_X10_sweep (E : Ex) (hE : va_D (AW E) (wd E (fun _ _ => 0))) (N : Nat) (s : Hp) (x1 x2 x3 x4 : Int32) (r : Int32 × Hp) (h : f_X10_sweep N s x1 x2 x3 x4 = some r) : CtrI E yX10_sweep cX10_sweep 10 (some .int) 1 28 [rf E 36, .int x1, .int x2, .int x3, .int x4] s r :=
  ctrI_of (by decide +kernel) hE (Nat.le_of_ble_eq_true rfl) h (fun G hX hR hG => by subst hG; exact w_X10_sweep hX hR hE N s x1 x2 x3 x4)
set_option maxRecDepth 20000 in
set_option maxHeartbeats 2000000 in
theorem w_X10_slot {G : Gx} (hX : ok G cX10_slot 2 RX10 (some .int) 1 22) (hR : okR G) (hE : va_D (AW G.1) (wd G.1 (fun _ _ => 0))) (N : Nat) (s : Hp) (x1 : Int32) : T G (f_X10_slot N s x1) s 0 [(0, rf G.1 36), (1, .int x1)] [] := by
  unfold f_X10_slot
  refine tr_iload_n hX 1 dX10_slot_0 rfl rfl ?_
  refine tr_iconst (v := 0) hX dX10_slot_1 rfl ?_
  refine tr_aload_n hX 0 dX10_slot_2 rfl rfl ?_
  refine tr_getI hX 36 31 (by decide) rfl rfl rfl (by decide) gX10 wm_727 dX10_slot_3 ?_
  refine tr_iconst (v := 1) hX dX10_slot_6 rfl ?_
  refine tr_isub hX dX10_slot_7 ?_
  refine tr_callS hX [.int x1, .int 0, .int ((s 36 31) - 1)] ks_X10_isIn wm_809 (by decide) rfl rfl (Nat.le_of_ble_eq_true rfl) dX10_slot_8 (fun vq sq hq => c_X10_isIn G.1 hE N s x1 0 ((s 36 31) - 1) (vq, sq) hq) fun v2 s1 => ?_
  refine tr_if_eq hX 23 dX10_slot_11 (by decide) ?_ ?_
  · refine tr_iconst (v := (-1)) hX dX10_slot_23 rfl ?_
    exact tr_iret hX hR dX10_slot_24
  · refine tr_aload_n hX 0 dX10_slot_14 rfl rfl ?_
    refine tr_getR hX 36 32 (by decide) rfl rfl rfl (by decide) gX10 wm_728 dX10_slot_15 ?_
    refine tr_iload_n hX 1 dX10_slot_18 rfl rfl ?_
    refine tr_iald hX 54 (by decide) rfl dX10_slot_19 ?_
    refine tr_goto hX 24 dX10_slot_20 (by decide) ?_
    exact tr_iret hX hR dX10_slot_24
theorem c_X10_slot (E : Ex) (hE : va_D (AW E) (wd E (fun _ _ => 0))) (N : Nat) (s : Hp) (x1 : Int32) (r : Int32 × Hp) (h : f_X10_slot N s x1 = some r) : CtrI E yX10_slot cX10_slot 2 (some .int) 1 22 [rf E 36, .int x1] s r :=
  ctrI_of (by decide +kernel) hE (Nat.le_of_ble_eq_true rfl) h (fun G hX hR hG => by subst hG; exact w_X10_slot hX hR hE N s x1)
