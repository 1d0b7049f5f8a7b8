set_option maxRecDepth 20000 in
set_option maxHeartbeats 2000000 in
theorem w_X10_clause {G : Gx} (hX : ok G cX10_clause 3 RX10 (some .int) 4 89) (hR : okR G) (hE : va_D (AW G.1) (wd G.1 (fun _ _ => 0))) (N : Nat) (s : Hp) (x1 : Int32) : T G (f_X10_clause N s x1) s 0 [(0, rf G.1 36), (1, .int x1)] [] := by
  unfold f_X10_clause
  refine tr_iload_n hX 1 dX10_clause_0 rfl rfl ?_
  refine tr_iconst (v := 5) hX dX10_clause_1 rfl ?_
  refine tr_icmp_ne hX 14 dX10_clause_2 (by decide) ?_ ?_
  · refine tr_iload_n hX 1 dX10_clause_14 rfl rfl ?_
    refine tr_bipush (v := 6) hX dX10_clause_15 rfl ?_
    refine tr_icmp_ne hX 30 dX10_clause_17 (by decide) ?_ ?_
    · refine tr_iload_n hX 1 dX10_clause_30 rfl rfl ?_
      refine tr_bipush (v := 7) hX dX10_clause_31 rfl ?_
      refine tr_icmp_ne hX 46 dX10_clause_33 (by decide) ?_ ?_
      · refine tr_aload_n hX 0 dX10_clause_46 rfl rfl ?_
        refine tr_bipush (v := 6) hX dX10_clause_47 rfl ?_
        refine tr_bipush (v := 31) hX dX10_clause_49 rfl ?_
        refine tr_iconst (v := 0) hX dX10_clause_51 rfl ?_
        refine tr_callV hX 36 [.int 6, .int 31, .int 0] kv_X10_span wm_943 (by decide) rfl rfl rfl (by decide) rfl rfl (Nat.le_of_ble_eq_true rfl) dX10_clause_52 (fun vq sq hq => c_X10_span G.1 hE N s 6 31 0 (vq, sq) hq) fun v2 s1 => ?_
        refine tr_istore_n (lv2 := [(2, .int v2), (0, rf G.1 36), (1, .int x1)]) hX dX10_clause_55 rfl (by decide) rfl ?_
        refine tr_iload_n hX 0 dX10_clause_56 rfl rfl ?_
        refine tr_if_eq hX 64 dX10_clause_57 (by decide) ?_ ?_
        · refine tr_aload_n hX 1 dX10_clause_64 rfl rfl ?_
          refine tr_bipush (v := 8) hX dX10_clause_65 rfl ?_
          refine tr_bipush (v := 31) hX dX10_clause_67 rfl ?_
          refine tr_iconst (v := 0) hX dX10_clause_69 rfl ?_
          refine tr_callV hX 36 [.int 8, .int 31, .int 0] kv_X10_span wm_943 (by decide) rfl rfl rfl (by decide) rfl rfl (Nat.le_of_ble_eq_true rfl) dX10_clause_70 (fun vq sq hq => c_X10_span G.1 hE N s1 8 31 0 (vq, sq) hq) fun v4 s3 => ?_
          exact tr_iret hX hR dX10_clause_73
        · refine tr_iload_n hX 0 dX10_clause_60 rfl rfl ?_
          refine tr_goto hX 73 dX10_clause_61 (by decide) ?_
          exact tr_iret hX hR dX10_clause_73
      · refine tr_aload_n hX 0 dX10_clause_36 rfl rfl ?_
        refine tr_iconst (v := 4) hX dX10_clause_37 rfl ?_
        refine tr_sipush (v := 999) hX dX10_clause_38 rfl ?_
        refine tr_iconst (v := 0) hX dX10_clause_41 rfl ?_
        refine tr_callV hX 36 [.int 4, .int 999, .int 0] kv_X10_span wm_943 (by decide) rfl rfl rfl (by decide) rfl rfl (Nat.le_of_ble_eq_true rfl) dX10_clause_42 (fun vq sq hq => c_X10_span G.1 hE N s 4 999 0 (vq, sq) hq) fun v6 s5 => ?_
        exact tr_iret hX hR dX10_clause_45
    · refine tr_aload_n hX 0 dX10_clause_20 rfl rfl ?_
      refine tr_iconst (v := 2) hX dX10_clause_21 rfl ?_
      refine tr_sipush (v := 1439) hX dX10_clause_22 rfl ?_
      refine tr_iconst (v := 1) hX dX10_clause_25 rfl ?_
      refine tr_callV hX 36 [.int 2, .int 1439, .int 1] kv_X10_span wm_943 (by decide) rfl rfl rfl (by decide) rfl rfl (Nat.le_of_ble_eq_true rfl) dX10_clause_26 (fun vq sq hq => c_X10_span G.1 hE N s 2 1439 1 (vq, sq) hq) fun v8 s7 => ?_
      exact tr_iret hX hR dX10_clause_29
  · refine tr_aload_n hX 0 dX10_clause_5 rfl rfl ?_
    refine tr_iconst (v := 0) hX dX10_clause_6 rfl ?_
    refine tr_bipush (v := 15) hX dX10_clause_7 rfl ?_
    refine tr_iconst (v := 0) hX dX10_clause_9 rfl ?_
    refine tr_callV hX 36 [.int 0, .int 15, .int 0] kv_X10_span wm_943 (by decide) rfl rfl rfl (by decide) rfl rfl (Nat.le_of_ble_eq_true rfl) dX10_clause_10 (fun vq sq hq => c_X10_span G.1 hE N s 0 15 0 (vq, sq) hq) fun v10 s9 => ?_
    exact tr_iret hX hR dX10_clause_13
theorem c_X10_clause (E : Ex) (hE : va_D (AW E) (wd E (fun _ _ => 0))) (N : Nat) (s : Hp) (x1 : Int32) (r : Int32 × Hp) (h : f_X10_clause N s x1 = some r) : CtrI E yX10_clause cX10_clause 3 (some .int) 4 89 [rf E 36, .int x1] s r :=
  ctrI_of (by decide +kernel) hE (Nat.le_of_ble_eq_true rfl) h (fun G hX hR hG => by subst hG; exact w_X10_clause hX hR hE N s x1)
set_option maxRecDepth 20000 in
set_option maxHeartbeats 2000000 in
theorem w_X10_read_62 {G : Gx} (hX : ok G cX10_read 4 RX10 (some .int) 5 111) (hR : okR G) (hE : va_D (AW G.1) (wd G.1 (fun _ _ => 0))) (N : Nat) (k4 : Hp → Int32 → Int32 → Option (Int32 × Hp)) (hk4 : ∀ (s : Hp) (x1 x2 : Int32), T G (k4 s x1 x2) s 4 [(0, rf G.1 36), (1, .int x1), (2, .int x2)] []) (s : Hp) (x1 x2 t1 t2 : Int32) : T G (f_X10_read_62 N k4 s x1 x2 t1 t2) s 62 [(0, rf G.1 36), (1, .int x1), (2, .int x2)] [.int t2, .int t1, rf G.1 53] := by
  unfold f_X10_read_62
  refine tr_iast hX 53 (by decide) rfl dX10_read_62 fun s12 => ?_
  refine tr_iincB (b := 1) (lv2 := fun y13 => [(2, .int y13), (0, rf G.1 36), (1, .int x1)]) hX 2 dX10_read_63 rfl rfl (by decide) (fun _ => rfl) fun y13 => ?_
  refine tr_goto hX 4 dX10_read_66 (by decide) ?_
  refine tr_lv (lv2 := [(0, rf G.1 36), (1, .int x1), (2, .int y13)]) [1, 2, 0] rfl ?_
  exact hk4 s12 x1 y13
set_option maxRecDepth 20000 in
set_option maxHeartbeats 2000000 in
theorem w_X10_read_78 {G : Gx} (hX : ok G cX10_read 4 RX10 (some .int) 5 111) (hR : okR G) (hE : va_D (AW G.1) (wd G.1 (fun _ _ => 0))) (N : Nat) (k78 : Hp → Int32 → Option (Int32 × Hp)) (hk78 : ∀ (s : Hp) (x1 : Int32), T G (k78 s x1) s 78 [(0, rf G.1 36), (1, .int x1)] []) (s : Hp) (x1 : Int32) : T G (f_X10_read_78 N k78 s x1) s 78 [(0, rf G.1 36), (1, .int x1)] [] := by
  unfold f_X10_read_78
  refine tr_aload_n hX 0 dX10_read_78 rfl rfl ?_
  refine tr_getI hX 36 29 (by decide) rfl rfl rfl (by decide) gX10 wm_725 dX10_read_79 ?_
  refine tr_if_eq hX 147 dX10_read_82 (by decide) ?_ ?_
  · refine tr_iconst (v := 0) hX dX10_read_147 rfl ?_
    exact tr_iret hX hR dX10_read_148
  · refine tr_aload_n hX 0 dX10_read_85 rfl rfl ?_
    refine tr_getI hX 36 29 (by decide) rfl rfl rfl (by decide) gX10 wm_725 dX10_read_86 ?_
    refine tr_istore_nB (lv2 := fun y4 => [(2, .int y4), (0, rf G.1 36), (1, .int x1)]) hX dX10_read_89 rfl (by decide) (fun _ => rfl) fun y4 => ?_
    refine tr_iload_n hX 0 dX10_read_90 rfl rfl ?_
    refine tr_iconst (v := 5) hX dX10_read_91 rfl ?_
    refine tr_icmp_ge hX 97 dX10_read_92 (by decide) ?_ ?_
    · refine tr_iload_n hX 2 dX10_read_97 rfl rfl ?_
      refine tr_iload_n hX 0 dX10_read_98 rfl rfl ?_
      refine tr_ishr hX dX10_read_99 ?_
      refine tr_iconst (v := 1) hX dX10_read_100 rfl ?_
      refine tr_iand hX dX10_read_101 ?_
      refine tr_iconst (v := 1) hX dX10_read_102 rfl ?_
      refine tr_icmp_ne hX 108 dX10_read_103 (by decide) ?_ ?_
      · refine tr_iload_n hX 2 dX10_read_108 rfl rfl ?_
        refine tr_iconst (v := 1) hX dX10_read_109 rfl ?_
        refine tr_iload_n hX 0 dX10_read_110 rfl rfl ?_
        refine tr_ishl hX dX10_read_111 ?_
        refine tr_ior hX dX10_read_112 ?_
        refine tr_istore_nB (lv2 := fun y5 => [(1, .int y5), (2, .int y4), (0, rf G.1 36)]) hX dX10_read_113 rfl (by decide) (fun _ => rfl) fun y5 => ?_
        refine tr_aload_n hX 2 dX10_read_114 rfl rfl ?_
        refine tr_callVv hX 36 [] kv_X10_nextToken wm_918 (by decide) rfl rfl rfl (by decide) rfl rfl (Nat.le_of_ble_eq_true rfl) dX10_read_115 (fun vq sq hq => c_X10_nextToken G.1 hE N s (vq, sq) hq) fun v7 s6 => ?_
        refine tr_aload_n hX 2 dX10_read_118 rfl rfl ?_
        refine tr_iload_n hX 1 dX10_read_119 rfl rfl ?_
        refine tr_callV hX 36 [.int y4] kv_X10_clause wm_939 (by decide) rfl rfl rfl (by decide) rfl rfl (Nat.le_of_ble_eq_true rfl) dX10_read_120 (fun vq sq hq => c_X10_clause G.1 hE N s6 y4 (vq, sq) hq) fun v9 s8 => ?_
        refine tr_istore_n (lv2 := [(3, .int v9), (1, .int y5), (2, .int y4), (0, rf G.1 36)]) hX dX10_read_123 rfl (by decide) rfl ?_
        refine tr_iload_n hX 0 dX10_read_124 rfl rfl ?_
        refine tr_if_eq hX 130 dX10_read_125 (by decide) ?_ ?_
        · refine tr_aload_n hX 3 dX10_read_130 rfl rfl ?_
          refine tr_getI hX 36 29 (by decide) rfl rfl rfl (by decide) gX10 wm_725 dX10_read_131 ?_
          refine tr_iconst (v := 2) hX dX10_read_134 rfl ?_
          refine tr_icmp_eq hX 140 dX10_read_135 (by decide) ?_ ?_
          · refine tr_aload_n hX 3 dX10_read_140 rfl rfl ?_
            refine tr_callVv hX 36 [] kv_X10_nextToken wm_918 (by decide) rfl rfl rfl (by decide) rfl rfl (Nat.le_of_ble_eq_true rfl) dX10_read_141 (fun vq sq hq => c_X10_nextToken G.1 hE N s8 (vq, sq) hq) fun v11 s10 => ?_
            refine tr_goto hX 78 dX10_read_144 (by decide) ?_
            refine tr_lv (lv2 := [(0, rf G.1 36), (1, .int y5)]) [3, 1] rfl ?_
            exact hk78 s10 y5
          · refine tr_iconst (v := 1) hX dX10_read_138 rfl ?_
            exact tr_iret hX hR dX10_read_139
        · refine tr_iload_n hX 0 dX10_read_128 rfl rfl ?_
          exact tr_iret hX hR dX10_read_129
      · refine tr_iconst (v := 2) hX dX10_read_106 rfl ?_
        exact tr_iret hX hR dX10_read_107
    · refine tr_iconst (v := 1) hX dX10_read_95 rfl ?_
      exact tr_iret hX hR dX10_read_96
theorem wl_X10_read_78 {G : Gx} (hX : ok G cX10_read 4 RX10 (some .int) 5 111) (hR : okR G) (hE : va_D (AW G.1) (wd G.1 (fun _ _ => 0))) (N : Nat) : ∀ (n : Nat) (s : Hp) (x1 : Int32), T G (lp (fun _ _ => none) (f_X10_read_78 N) n s x1) s 78 [(0, rf G.1 36), (1, .int x1)] [] := by
  intro n
  induction n with
  | zero => exact fun s x1 h => nomatch (show (none : Option (Int32 × Hp)) = some _ from h)
  | succ n ih => exact fun s x1 => w_X10_read_78 hX hR hE N _ ih s x1
set_option maxRecDepth 20000 in
set_option maxHeartbeats 2000000 in
theorem w_X10_read_4 {G : Gx} (hX : ok G cX10_read 4 RX10 (some .int) 5 111) (hR : okR G) (hE : va_D (AW G.1) (wd G.1 (fun _ _ => 0))) (N : Nat) (k4 : Hp → Int32 → Int32 → Option (Int32 × Hp)) (hk4 : ∀ (s : Hp) (x1 x2 : Int32), T G (k4 s x1 x2) s 4 [(0, rf G.1 36), (1, .int x1), (2, .int x2)] []) (s : Hp) (x1 x2 : Int32) : T G (f_X10_read_4 N k4 s x1 x2) s 4 [(0, rf G.1 36), (1, .int x1), (2, .int x2)] [] := by
  unfold f_X10_read_4
  refine tr_iload_n hX 2 dX10_read_4 rfl rfl ?_
  refine tr_bipush (v := 10) hX dX10_read_5 rfl ?_
  refine tr_icmp_ge hX 69 dX10_read_7 (by decide) ?_ ?_
  · refine tr_aload_n hX 0 dX10_read_69 rfl rfl ?_
    refine tr_iconst (v := 0) hX dX10_read_70 rfl ?_
    refine tr_putI hX 36 27 tyX10 tyX10_ok nmX10 (by decide) rfl rfl rfl (by decide) gX10 wm_723 rfl (by decide +kernel) dX10_read_71 fun s1 => ?_
    refine tr_aload_n hX 0 dX10_read_74 rfl rfl ?_
    refine tr_callVv hX 36 [] kv_X10_nextToken wm_918 (by decide) rfl rfl rfl (by decide) rfl rfl (Nat.le_of_ble_eq_true rfl) dX10_read_75 (fun vq sq hq => c_X10_nextToken G.1 hE N s1 (vq, sq) hq) fun v3 s2 => ?_
    refine tr_lv (lv2 := [(0, rf G.1 36), (1, .int x1)]) [0, 1] rfl ?_
    exact wl_X10_read_78 hX hR hE N N s2 x1
  · refine tr_aload_n hX 0 dX10_read_10 rfl rfl ?_
    refine tr_getR hX 36 24 (by decide) rfl rfl rfl (by decide) gX10 wm_720 dX10_read_11 ?_
    refine tr_bipush (v := 100) hX dX10_read_14 rfl ?_
    refine tr_iload_n hX 2 dX10_read_16 rfl rfl ?_
    refine tr_iadd hX dX10_read_17 ?_
    refine tr_iload_n hX 2 dX10_read_18 rfl rfl ?_
    refine tr_iconst (v := 2) hX dX10_read_19 rfl ?_
    refine tr_iremC hX dX10_read_20 (by decide) ?_
    refine tr_if_ne hX 28 dX10_read_21 (by decide) ?_ ?_
    · refine tr_iload_n hX 2 dX10_read_28 rfl rfl ?_
      refine tr_iconst (v := 1) hX dX10_read_29 rfl ?_
      refine tr_icmp_ne hX 38 dX10_read_30 (by decide) ?_ ?_
      · refine tr_iload_n hX 2 dX10_read_38 rfl rfl ?_
        refine tr_iconst (v := 3) hX dX10_read_39 rfl ?_
        refine tr_icmp_ne hX 49 dX10_read_40 (by decide) ?_ ?_
        · refine tr_iload_n hX 2 dX10_read_49 rfl rfl ?_
          refine tr_iconst (v := 5) hX dX10_read_50 rfl ?_
          refine tr_icmp_ne hX 60 dX10_read_51 (by decide) ?_ ?_
          · refine tr_bipush (v := 31) hX dX10_read_60 rfl ?_
            exact w_X10_read_62 hX hR hE N k4 hk4 s x1 x2 (100 + x2) 31
          · refine tr_sipush (v := 999) hX dX10_read_54 rfl ?_
            refine tr_goto hX 62 dX10_read_57 (by decide) ?_
            exact w_X10_read_62 hX hR hE N k4 hk4 s x1 x2 (100 + x2) 999
        · refine tr_sipush (v := 1439) hX dX10_read_43 rfl ?_
          refine tr_goto hX 62 dX10_read_46 (by decide) ?_
          exact w_X10_read_62 hX hR hE N k4 hk4 s x1 x2 (100 + x2) 1439
      · refine tr_bipush (v := 15) hX dX10_read_33 rfl ?_
        refine tr_goto hX 62 dX10_read_35 (by decide) ?_
        exact w_X10_read_62 hX hR hE N k4 hk4 s x1 x2 (100 + x2) 15
    · refine tr_iconst (v := 0) hX dX10_read_24 rfl ?_
      refine tr_goto hX 62 dX10_read_25 (by decide) ?_
      exact w_X10_read_62 hX hR hE N k4 hk4 s x1 x2 (100 + x2) 0
theorem wl_X10_read_4 {G : Gx} (hX : ok G cX10_read 4 RX10 (some .int) 5 111) (hR : okR G) (hE : va_D (AW G.1) (wd G.1 (fun _ _ => 0))) (N : Nat) : ∀ (n : Nat) (s : Hp) (x1 x2 : Int32), T G (lp (fun _ _ _ => none) (f_X10_read_4 N) n s x1 x2) s 4 [(0, rf G.1 36), (1, .int x1), (2, .int x2)] [] := by
  intro n
  induction n with
  | zero => exact fun s x1 x2 h => nomatch (show (none : Option (Int32 × Hp)) = some _ from h)
  | succ n ih => exact fun s x1 x2 => w_X10_read_4 hX hR hE N _ ih s x1 x2
set_option maxRecDepth 20000 in
set_option maxHeartbeats 2000000 in
theorem w_X10_read {G : Gx} (hX : ok G cX10_read 4 RX10 (some .int) 5 111) (hR : okR G) (hE : va_D (AW G.1) (wd G.1 (fun _ _ => 0))) (N : Nat) (s : Hp) : T G (f_X10_read N s) s 0 [(0, rf G.1 36)] [] := by
  unfold f_X10_read
  refine tr_iconst (v := 0) hX dX10_read_0 rfl ?_
  refine tr_istore_n (lv2 := [(1, .int 0), (0, rf G.1 36)]) hX dX10_read_1 rfl (by decide) rfl ?_
  refine tr_iconst (v := 0) hX dX10_read_2 rfl ?_
  refine tr_istore_n (lv2 := [(2, .int 0), (1, .int 0), (0, rf G.1 36)]) hX dX10_read_3 rfl (by decide) rfl ?_
  refine tr_lv (lv2 := [(0, rf G.1 36), (1, .int 0), (2, .int 0)]) [2, 1, 0] rfl ?_
  exact wl_X10_read_4 hX hR hE N N s 0 0
theorem c_X10_read (E : Ex) (hE : va_D (AW E) (wd E (fun _ _ => 0))) (N : Nat) (s : Hp) (r : Int32 × Hp) (h : f_X10_read N s = some r) : CtrI E yX10_read cX10_read 4 (some .int) 5 111 [rf E 36] s r :=
  ctrI_of (by decide +kernel) hE (Nat.le_of_ble_eq_true rfl) h (fun G hX hR hG => by subst hG; exact w_X10_read hX hR hE N s)
set_option maxRecDepth 20000 in
set_option maxHeartbeats 2000000 in
theorem w_X10_licence_54 {G : Gx} (hX : ok G cX10_licence 2 RX10 (some .int) 6 134) (hR : okR G) (hE : va_D (AW G.1) (wd G.1 (fun _ _ => 0))) (N : Nat) (k54 : Hp → Int32 → Option (Int32 × Hp)) (hk54 : ∀ (s : Hp) (x1 : Int32), T G (k54 s x1) s 54 [(0, rf G.1 36), (1, .int x1)] []) (s : Hp) (x1 : Int32) : T G (f_X10_licence_54 N k54 s x1) s 54 [(0, rf G.1 36), (1, .int x1)] [] := by
  unfold f_X10_licence_54
  refine tr_iload_n hX 1 dX10_licence_54 rfl rfl ?_
  refine tr_bipush (v := 10) hX dX10_licence_55 rfl ?_
  refine tr_icmp_ge hX 89 dX10_licence_57 (by decide) ?_ ?_
  · refine tr_aload_n hX 0 dX10_licence_89 rfl rfl ?_
    refine tr_dup hX dX10_licence_90 rfl ?_
    refine tr_getI hX 36 23 (by decide) rfl rfl rfl (by decide) gX10 wm_719 dX10_licence_91 ?_
    refine tr_iconst (v := 1) hX dX10_licence_94 rfl ?_
    refine tr_iadd hX dX10_licence_95 ?_
    refine tr_putI hX 36 23 tyX10 tyX10_ok nmX10 (by decide) rfl rfl rfl (by decide) gX10 wm_719 rfl (by decide +kernel) dX10_licence_96 fun s6 => ?_
    refine tr_aload_n hX 0 dX10_licence_99 rfl rfl ?_
    refine tr_getI hX 36 23 (by decide) rfl rfl rfl (by decide) gX10 wm_719 dX10_licence_100 ?_
    refine tr_iconst (v := 1) hX dX10_licence_103 rfl ?_
    refine tr_isub hX dX10_licence_104 ?_
    exact tr_iret hX hR dX10_licence_105
  · refine tr_aload_n hX 0 dX10_licence_60 rfl rfl ?_
    refine tr_getR hX 36 24 (by decide) rfl rfl rfl (by decide) gX10 wm_720 dX10_licence_61 ?_
    refine tr_bipush (v := 10) hX dX10_licence_64 rfl ?_
    refine tr_aload_n hX 0 dX10_licence_66 rfl rfl ?_
    refine tr_getI hX 36 23 (by decide) rfl rfl rfl (by decide) gX10 wm_719 dX10_licence_67 ?_
    refine tr_imul hX dX10_licence_70 ?_
    refine tr_iload_n hX 1 dX10_licence_71 rfl rfl ?_
    refine tr_iadd hX dX10_licence_72 ?_
    refine tr_aload_n hX 0 dX10_licence_73 rfl rfl ?_
    refine tr_getR hX 36 24 (by decide) rfl rfl rfl (by decide) gX10 wm_720 dX10_licence_74 ?_
    refine tr_bipush (v := 100) hX dX10_licence_77 rfl ?_
    refine tr_iload_n hX 1 dX10_licence_79 rfl rfl ?_
    refine tr_iadd hX dX10_licence_80 ?_
    refine tr_iald hX 53 (by decide) rfl dX10_licence_81 ?_
    refine tr_iast hX 53 (by decide) rfl dX10_licence_82 fun s7 => ?_
    refine tr_iincB (b := 1) (lv2 := fun y8 => [(1, .int y8), (0, rf G.1 36)]) hX 1 dX10_licence_83 rfl rfl (by decide) (fun _ => rfl) fun y8 => ?_
    refine tr_goto hX 54 dX10_licence_86 (by decide) ?_
    refine tr_lv (lv2 := [(0, rf G.1 36), (1, .int y8)]) [1, 0] rfl ?_
    exact hk54 s7 y8
theorem wl_X10_licence_54 {G : Gx} (hX : ok G cX10_licence 2 RX10 (some .int) 6 134) (hR : okR G) (hE : va_D (AW G.1) (wd G.1 (fun _ _ => 0))) (N : Nat) : ∀ (n : Nat) (s : Hp) (x1 : Int32), T G (lp (fun _ _ => none) (f_X10_licence_54 N) n s x1) s 54 [(0, rf G.1 36), (1, .int x1)] [] := by
  intro n
  induction n with
  | zero => exact fun s x1 h => nomatch (show (none : Option (Int32 × Hp)) = some _ from h)
  | succ n ih => exact fun s x1 => w_X10_licence_54 hX hR hE N _ ih s x1
set_option maxRecDepth 20000 in
set_option maxHeartbeats 2000000 in
theorem w_X10_licence_35 {G : Gx} (hX : ok G cX10_licence 2 RX10 (some .int) 6 134) (hR : okR G) (hE : va_D (AW G.1) (wd G.1 (fun _ _ => 0))) (N : Nat) (s : Hp) (t1 : Int32) : T G (f_X10_licence_35 N s t1) s 35 [(0, rf G.1 36)] [.int t1, rf G.1 36] := by
  unfold f_X10_licence_35
  refine tr_putI hX 36 26 tyX10 tyX10_ok nmX10 (by decide) rfl rfl rfl (by decide) gX10 wm_722 rfl (by decide +kernel) dX10_licence_35 fun s4 => ?_
  refine tr_aload_n hX 0 dX10_licence_38 rfl rfl ?_
  refine tr_iconst (v := 0) hX dX10_licence_39 rfl ?_
  refine tr_putI hX 36 22 tyX10 tyX10_ok nmX10 (by decide) rfl rfl rfl (by decide) gX10 wm_718 rfl (by decide +kernel) dX10_licence_40 fun s5 => ?_
  refine tr_aload_n hX 0 dX10_licence_43 rfl rfl ?_
  refine tr_getI hX 36 25 (by decide) rfl rfl rfl (by decide) gX10 wm_721 dX10_licence_44 ?_
  refine tr_if_eq hX 52 dX10_licence_47 (by decide) ?_ ?_
  · refine tr_iconst (v := 0) hX dX10_licence_52 rfl ?_
    refine tr_istore_n (lv2 := [(1, .int 0), (0, rf G.1 36)]) hX dX10_licence_53 rfl (by decide) rfl ?_
    refine tr_lv (lv2 := [(0, rf G.1 36), (1, .int 0)]) [1, 0] rfl ?_
    exact wl_X10_licence_54 hX hR hE N N s5 0
  · refine tr_iconst (v := (-1)) hX dX10_licence_50 rfl ?_
    exact tr_iret hX hR dX10_licence_51
set_option maxRecDepth 20000 in
set_option maxHeartbeats 2000000 in
theorem w_X10_licence {G : Gx} (hX : ok G cX10_licence 2 RX10 (some .int) 6 134) (hR : okR G) (hE : va_D (AW G.1) (wd G.1 (fun _ _ => 0))) (N : Nat) (s : Hp) : T G (f_X10_licence N s) s 0 [(0, rf G.1 36)] [] := by
  unfold f_X10_licence
  refine tr_aload_n hX 0 dX10_licence_0 rfl rfl ?_
  refine tr_getI hX 36 23 (by decide) rfl rfl rfl (by decide) gX10 wm_719 dX10_licence_1 ?_
  refine tr_bipush (v := 10) hX dX10_licence_4 rfl ?_
  refine tr_icmp_ne hX 11 dX10_licence_6 (by decide) ?_ ?_
  · refine tr_aload_n hX 0 dX10_licence_11 rfl rfl ?_
    refine tr_aload_n hX 0 dX10_licence_12 rfl rfl ?_
    refine tr_callV hX 36 [] kv_X10_read wm_914 (by decide) rfl rfl rfl (by decide) rfl rfl (Nat.le_of_ble_eq_true rfl) dX10_licence_13 (fun vq sq hq => c_X10_read G.1 hE N s (vq, sq) hq) fun v2 s1 => ?_
    refine tr_putI hX 36 25 tyX10 tyX10_ok nmX10 (by decide) rfl rfl rfl (by decide) gX10 wm_721 rfl (by decide +kernel) dX10_licence_16 fun s3 => ?_
    refine tr_aload_n hX 0 dX10_licence_19 rfl rfl ?_
    refine tr_aload_n hX 0 dX10_licence_20 rfl rfl ?_
    refine tr_getI hX 36 25 (by decide) rfl rfl rfl (by decide) gX10 wm_721 dX10_licence_21 ?_
    refine tr_if_ne hX 31 dX10_licence_24 (by decide) ?_ ?_
    · refine tr_aload_n hX 0 dX10_licence_31 rfl rfl ?_
      refine tr_getI hX 36 28 (by decide) rfl rfl rfl (by decide) gX10 wm_724 dX10_licence_32 ?_
      exact w_X10_licence_35 hX hR hE N s3 (s3 36 28)
    · refine tr_iconst (v := (-1)) hX dX10_licence_27 rfl ?_
      refine tr_goto hX 35 dX10_licence_28 (by decide) ?_
      exact w_X10_licence_35 hX hR hE N s3 (-1)
  · refine tr_iconst (v := (-1)) hX dX10_licence_9 rfl ?_
    exact tr_iret hX hR dX10_licence_10
theorem c_X10_licence (E : Ex) (hE : va_D (AW E) (wd E (fun _ _ => 0))) (N : Nat) (s : Hp) (r : Int32 × Hp) (h : f_X10_licence N s = some r) : CtrI E yX10_licence cX10_licence 2 (some .int) 6 134 [rf E 36] s r :=
  ctrI_of (by decide +kernel) hE (Nat.le_of_ble_eq_true rfl) h (fun G hX hR hG => by subst hG; exact w_X10_licence hX hR hE N s)
set_option maxRecDepth 20000 in
set_option maxHeartbeats 2000000 in
theorem w_X10_fault {G : Gx} (hX : ok G cX10_fault 2 RX10 (some .int) 0 0) (hR : okR G) (hE : va_D (AW G.1) (wd G.1 (fun _ _ => 0))) (N : Nat) (s : Hp) (x1 : Int32) : T G (f_X10_fault N s x1) s 0 [(0, rf G.1 36), (1, .int x1)] [] := by
  unfold f_X10_fault
  refine tr_iload_n hX 1 dX10_fault_0 rfl rfl ?_
  refine tr_if_ne hX 11 dX10_fault_1 (by decide) ?_ ?_
  · refine tr_iload_n hX 1 dX10_fault_11 rfl rfl ?_
    refine tr_iconst (v := 1) hX dX10_fault_12 rfl ?_
    refine tr_icmp_ne hX 23 dX10_fault_13 (by decide) ?_ ?_
    · refine tr_iconst (v := (-1)) hX dX10_fault_23 rfl ?_
      exact tr_iret hX hR dX10_fault_24
    · refine tr_aload_n hX 0 dX10_fault_16 rfl rfl ?_
      refine tr_getI hX 36 26 (by decide) rfl rfl rfl (by decide) gX10 wm_722 dX10_fault_17 ?_
      refine tr_goto hX 24 dX10_fault_20 (by decide) ?_
      exact tr_iret hX hR dX10_fault_24
  · refine tr_aload_n hX 0 dX10_fault_4 rfl rfl ?_
    refine tr_getI hX 36 25 (by decide) rfl rfl rfl (by decide) gX10 wm_721 dX10_fault_5 ?_
    refine tr_goto hX 24 dX10_fault_8 (by decide) ?_
    exact tr_iret hX hR dX10_fault_24
theorem c_X10_fault (E : Ex) (hE : va_D (AW E) (wd E (fun _ _ => 0))) (N : Nat) (s : Hp) (x1 : Int32) (r : Int32 × Hp) (h : f_X10_fault N s x1 = some r) : CtrI E yX10_fault cX10_fault 2 (some .int) 0 0 [rf E 36, .int x1] s r :=
  ctrI_of (by decide +kernel) hE (Nat.le_of_ble_eq_true rfl) h (fun G hX hR hG => by subst hG; exact w_X10_fault hX hR hE N s x1)
set_option maxRecDepth 20000 in
set_option maxHeartbeats 2000000 in
theorem w_X10_isTime_62 {G : Gx} (hX : ok G cX10_isTime 6 RX10 (some .boolean) 1 22) (hR : okR G) (hE : va_D (AW G.1) (wd G.1 (fun _ _ => 0))) (N : Nat) (s : Hp) : T G (f_X10_isTime_62 N s) s 62 [] [] := by
  unfold f_X10_isTime_62
  refine tr_iconst (v := 1) hX dX10_isTime_62 rfl ?_
  refine tr_goto hX 67 dX10_isTime_63 (by decide) ?_
  exact tr_zret hX hR rfl dX10_isTime_67
set_option maxRecDepth 20000 in
set_option maxHeartbeats 2000000 in
theorem w_X10_isTime {G : Gx} (hX : ok G cX10_isTime 6 RX10 (some .boolean) 1 22) (hR : okR G) (hE : va_D (AW G.1) (wd G.1 (fun _ _ => 0))) (N : Nat) (s : Hp) (x1 x2 : Int32) : T G (f_X10_isTime N s x1 x2) s 0 [(0, rf G.1 36), (1, .int x1), (2, .int x2)] [] := by
  unfold f_X10_isTime
  refine tr_aload_n hX 0 dX10_isTime_0 rfl rfl ?_
  refine tr_getR hX 36 24 (by decide) rfl rfl rfl (by decide) gX10 wm_720 dX10_isTime_1 ?_
  refine tr_bipush (v := 10) hX dX10_isTime_4 rfl ?_
  refine tr_iload_n hX 1 dX10_isTime_6 rfl rfl ?_
  refine tr_imul hX dX10_isTime_7 ?_
  refine tr_iconst (v := 2) hX dX10_isTime_8 rfl ?_
  refine tr_iadd hX dX10_isTime_9 ?_
  refine tr_iald hX 53 (by decide) rfl dX10_isTime_10 ?_
  refine tr_istore_nB (lv2 := fun y1 => [(3, .int y1), (0, rf G.1 36), (1, .int x1), (2, .int x2)]) hX dX10_isTime_11 rfl (by decide) (fun _ => rfl) fun y1 => ?_
  refine tr_aload_n hX 1 dX10_isTime_12 rfl rfl ?_
  refine tr_getR hX 36 24 (by decide) rfl rfl rfl (by decide) gX10 wm_720 dX10_isTime_13 ?_
  refine tr_bipush (v := 10) hX dX10_isTime_16 rfl ?_
  refine tr_iload_n hX 2 dX10_isTime_18 rfl rfl ?_
  refine tr_imul hX dX10_isTime_19 ?_
  refine tr_iconst (v := 3) hX dX10_isTime_20 rfl ?_
  refine tr_iadd hX dX10_isTime_21 ?_
  refine tr_iald hX 53 (by decide) rfl dX10_isTime_22 ?_
  refine tr_istoreB (lv2 := fun y2 => [(4, .int y2), (3, .int y1), (0, rf G.1 36), (1, .int x1), (2, .int x2)]) hX dX10_isTime_23 (by decide) (fun _ => rfl) fun y2 => ?_
  refine tr_iload_n hX 4 dX10_isTime_25 rfl rfl ?_
  refine tr_sipush (v := 1440) hX dX10_isTime_26 rfl ?_
  refine tr_iremC hX dX10_isTime_29 (by decide) ?_
  refine tr_istoreB (lv2 := fun y3 => [(5, .int y3), (4, .int y2), (3, .int y1), (0, rf G.1 36), (1, .int x1), (2, .int x2)]) hX dX10_isTime_30 (by decide) (fun _ => rfl) fun y3 => ?_
  refine tr_iload_n hX 2 dX10_isTime_32 rfl rfl ?_
  refine tr_iload hX 1 dX10_isTime_33 rfl ?_
  refine tr_icmp_gt hX 49 dX10_isTime_35 (by decide) ?_ ?_
  · refine tr_iload hX 0 dX10_isTime_49 rfl ?_
    refine tr_iload_n hX 2 dX10_isTime_51 rfl rfl ?_
    refine tr_icmp_ge hX 62 dX10_isTime_52 (by decide) ?_ ?_
    · refine tr_lv (lv2 := []) [] rfl ?_
      exact w_X10_isTime_62 hX hR hE N s
    · refine tr_iload hX 0 dX10_isTime_55 rfl ?_
      refine tr_iload hX 1 dX10_isTime_57 rfl ?_
      refine tr_icmp_gt hX 66 dX10_isTime_59 (by decide) ?_ ?_
      · refine tr_iconst (v := 0) hX dX10_isTime_66 rfl ?_
        exact tr_zret hX hR rfl dX10_isTime_67
      · refine tr_lv (lv2 := []) [] rfl ?_
        exact w_X10_isTime_62 hX hR hE N s
  · refine tr_iload hX 0 dX10_isTime_38 rfl ?_
    refine tr_iload_n hX 2 dX10_isTime_40 rfl rfl ?_
    refine tr_iload hX 1 dX10_isTime_41 rfl ?_
    refine tr_callS hX [.int y3, .int y1, .int y2] ks_X10_isIn wm_809 (by decide) rfl rfl (Nat.le_of_ble_eq_true rfl) dX10_isTime_43 (fun vq sq hq => c_X10_isIn G.1 hE N s y3 y1 y2 (vq, sq) hq) fun v5 s4 => ?_
    refine tr_goto hX 67 dX10_isTime_46 (by decide) ?_
    exact tr_zretC hX hR dX10_isTime_67
theorem c_X10_isTime (E : Ex) (hE : va_D (AW E) (wd E (fun _ _ => 0))) (N : Nat) (s : Hp) (x1 x2 : Int32) (r : Int32 × Hp) (h : f_X10_isTime N s x1 x2 = some r) : CtrI E yX10_isTime cX10_isTime 6 (some .boolean) 1 22 [rf E 36, .int x1, .int x2] s r :=
  ctrI_of (by decide +kernel) hE (Nat.le_of_ble_eq_true rfl) h (fun G hX hR hG => by subst hG; exact w_X10_isTime hX hR hE N s x1 x2)
set_option maxRecDepth 20000 in
set_option maxHeartbeats 2000000 in
theorem w_X10_answer_139 {G : Gx} (hX : ok G cX10_answer 9 RX10 (some .int) 2 48) (hR : okR G) (hE : va_D (AW G.1) (wd G.1 (fun _ _ => 0))) (N : Nat) (k44 : Hp → Int32 → Int32 → Int32 → Int32 → Int32 → Option (Int32 × Hp)) (hk44 : ∀ (s : Hp) (x1 x2 x3 x4 x5 : Int32), T G (k44 s x1 x2 x3 x4 x5) s 44 [(0, rf G.1 36), (1, .int x1), (2, .int x2), (3, .int x3), (4, .int x4), (5, .int x5)] []) (s : Hp) (x1 x2 x3 x4 x5 : Int32) : T G (f_X10_answer_139 N k44 s x1 x2 x3 x4 x5) s 139 [(0, rf G.1 36), (1, .int x1), (2, .int x2), (3, .int x3), (4, .int x4), (5, .int x5)] [] := by
  unfold f_X10_answer_139
  refine tr_iincB (b := 1) (lv2 := fun y16 => [(5, .int y16), (0, rf G.1 36), (1, .int x1), (2, .int x2), (3, .int x3), (4, .int x4)]) hX 5 dX10_answer_139 rfl rfl (by decide) (fun _ => rfl) fun y16 => ?_
  refine tr_goto hX 44 dX10_answer_142 (by decide) ?_
  refine tr_lv (lv2 := [(0, rf G.1 36), (1, .int x1), (2, .int x2), (3, .int x3), (4, .int x4), (5, .int y16)]) [1, 2, 3, 4, 5, 0] rfl ?_
  exact hk44 s x1 x2 x3 x4 y16
set_option maxRecDepth 20000 in
set_option maxHeartbeats 2000000 in
theorem w_X10_answer_107 {G : Gx} (hX : ok G cX10_answer 9 RX10 (some .int) 2 48) (hR : okR G) (hE : va_D (AW G.1) (wd G.1 (fun _ _ => 0))) (N : Nat) (k44 : Hp → Int32 → Int32 → Int32 → Int32 → Int32 → Option (Int32 × Hp)) (hk44 : ∀ (s : Hp) (x1 x2 x3 x4 x5 : Int32), T G (k44 s x1 x2 x3 x4 x5) s 44 [(0, rf G.1 36), (1, .int x1), (2, .int x2), (3, .int x3), (4, .int x4), (5, .int x5)] []) (k107 : Hp → Int32 → Int32 → Int32 → Int32 → Int32 → Int32 → Option (Int32 × Hp)) (hk107 : ∀ (s : Hp) (x1 x2 x3 x4 x5 x6 : Int32), T G (k107 s x1 x2 x3 x4 x5 x6) s 107 [(0, rf G.1 36), (1, .int x1), (2, .int x2), (3, .int x3), (4, .int x4), (5, .int x5), (6, .int x6)] []) (s : Hp) (x1 x2 x3 x4 x5 x6 : Int32) : T G (f_X10_answer_107 N k44 k107 s x1 x2 x3 x4 x5 x6) s 107 [(0, rf G.1 36), (1, .int x1), (2, .int x2), (3, .int x3), (4, .int x4), (5, .int x5), (6, .int x6)] [] := by
  unfold f_X10_answer_107
  refine tr_iload hX 6 dX10_answer_107 rfl ?_
  refine tr_aload_n hX 0 dX10_answer_109 rfl rfl ?_
  refine tr_getR hX 36 12 (by decide) rfl rfl rfl (by decide) gX10 wm_708 dX10_answer_110 ?_
  refine tr_iload hX 5 dX10_answer_113 rfl ?_
  refine tr_iald hX 46 (by decide) rfl dX10_answer_115 ?_
  refine tr_icmp_gt hX 139 dX10_answer_116 (by decide) ?_ ?_
  · refine tr_lv (lv2 := [(0, rf G.1 36), (1, .int x1), (2, .int x2), (3, .int x3), (4, .int x4), (5, .int x5)]) [0, 1, 2, 3, 4, 5] rfl ?_
    exact w_X10_answer_139 hX hR hE N k44 hk44 s x1 x2 x3 x4 x5
  · refine tr_iload hX 4 dX10_answer_119 rfl ?_
    refine tr_if_eq hX 139 dX10_answer_121 (by decide) ?_ ?_
    · refine tr_lv (lv2 := [(0, rf G.1 36), (1, .int x1), (2, .int x2), (3, .int x3), (4, .int x4), (5, .int x5)]) [0, 1, 2, 3, 4, 5] rfl ?_
      exact w_X10_answer_139 hX hR hE N k44 hk44 s x1 x2 x3 x4 x5
    · refine tr_aload_n hX 0 dX10_answer_124 rfl rfl ?_
      refine tr_iload_n hX 2 dX10_answer_125 rfl rfl ?_
      refine tr_iload hX 6 dX10_answer_126 rfl ?_
      refine tr_callV hX 36 [.int x2, .int x6] kv_X10_isTime wm_959 (by decide) rfl rfl rfl (by decide) rfl rfl (Nat.le_of_ble_eq_true rfl) dX10_answer_128 (fun vq sq hq => c_X10_isTime G.1 hE N s x2 x6 (vq, sq) hq) fun v14 s13 => ?_
      refine tr_istore (lv2 := [(4, .int v14), (0, rf G.1 36), (1, .int x1), (2, .int x2), (3, .int x3), (5, .int x5), (6, .int x6)]) hX dX10_answer_131 (by decide) rfl ?_
      refine tr_iincB (b := 1) (lv2 := fun y15 => [(6, .int y15), (4, .int v14), (0, rf G.1 36), (1, .int x1), (2, .int x2), (3, .int x3), (5, .int x5)]) hX 6 dX10_answer_133 rfl rfl (by decide) (fun _ => rfl) fun y15 => ?_
      refine tr_goto hX 107 dX10_answer_136 (by decide) ?_
      refine tr_lv (lv2 := [(0, rf G.1 36), (1, .int x1), (2, .int x2), (3, .int x3), (4, .int v14), (5, .int x5), (6, .int y15)]) [2, 3, 4, 5, 1, 6, 0] rfl ?_
      exact hk107 s13 x1 x2 x3 v14 x5 y15
theorem wl_X10_answer_107 {G : Gx} (hX : ok G cX10_answer 9 RX10 (some .int) 2 48) (hR : okR G) (hE : va_D (AW G.1) (wd G.1 (fun _ _ => 0))) (N : Nat) (k44 : Hp → Int32 → Int32 → Int32 → Int32 → Int32 → Option (Int32 × Hp)) (hk44 : ∀ (s : Hp) (x1 x2 x3 x4 x5 : Int32), T G (k44 s x1 x2 x3 x4 x5) s 44 [(0, rf G.1 36), (1, .int x1), (2, .int x2), (3, .int x3), (4, .int x4), (5, .int x5)] []) : ∀ (n : Nat) (s : Hp) (x1 x2 x3 x4 x5 x6 : Int32), T G (lp (fun _ _ _ _ _ _ _ => none) (f_X10_answer_107 N k44) n s x1 x2 x3 x4 x5 x6) s 107 [(0, rf G.1 36), (1, .int x1), (2, .int x2), (3, .int x3), (4, .int x4), (5, .int x5), (6, .int x6)] [] := by
  intro n
  induction n with
  | zero => exact fun s x1 x2 x3 x4 x5 x6 h => nomatch (show (none : Option (Int32 × Hp)) = some _ from h)
  | succ n ih => exact fun s x1 x2 x3 x4 x5 x6 => w_X10_answer_107 hX hR hE N k44 hk44 _ ih s x1 x2 x3 x4 x5 x6
set_option maxRecDepth 20000 in
set_option maxHeartbeats 2000000 in
theorem w_X10_answer_281 {G : Gx} (hX : ok G cX10_answer 9 RX10 (some .int) 2 48) (hR : okR G) (hE : va_D (AW G.1) (wd G.1 (fun _ _ => 0))) (N : Nat) (k161 : Hp → Int32 → Int32 → Int32 → Int32 → Int32 → Option (Int32 × Hp)) (hk161 : ∀ (s : Hp) (x1 x3 x5 x6 x7 : Int32), T G (k161 s x1 x3 x5 x6 x7) s 161 [(0, rf G.1 36), (1, .int x1), (3, .int x3), (5, .int x5), (6, .int x6), (7, .int x7)] []) (s : Hp) (x1 x3 x5 x6 x7 : Int32) : T G (f_X10_answer_281 N k161 s x1 x3 x5 x6 x7) s 281 [(0, rf G.1 36), (1, .int x1), (3, .int x3), (5, .int x5), (6, .int x6), (7, .int x7)] [] := by
  unfold f_X10_answer_281
  refine tr_iincB (b := 1) (lv2 := fun y17 => [(7, .int y17), (0, rf G.1 36), (1, .int x1), (3, .int x3), (5, .int x5), (6, .int x6)]) hX 5 dX10_answer_281 rfl rfl (by decide) (fun _ => rfl) fun y17 => ?_
  refine tr_goto hX 161 dX10_answer_284 (by decide) ?_
  refine tr_lv (lv2 := [(0, rf G.1 36), (1, .int x1), (3, .int x3), (5, .int x5), (6, .int x6), (7, .int y17)]) [1, 2, 3, 4, 5, 0] rfl ?_
  exact hk161 s x1 x3 x5 x6 y17
set_option maxRecDepth 20000 in
set_option maxHeartbeats 2000000 in
theorem w_X10_answer_279 {G : Gx} (hX : ok G cX10_answer 9 RX10 (some .int) 2 48) (hR : okR G) (hE : va_D (AW G.1) (wd G.1 (fun _ _ => 0))) (N : Nat) (k161 : Hp → Int32 → Int32 → Int32 → Int32 → Int32 → Option (Int32 × Hp)) (hk161 : ∀ (s : Hp) (x1 x3 x5 x6 x7 : Int32), T G (k161 s x1 x3 x5 x6 x7) s 161 [(0, rf G.1 36), (1, .int x1), (3, .int x3), (5, .int x5), (6, .int x6), (7, .int x7)] []) (s : Hp) (x1 x3 x5 x7 t0 : Int32) : T G (f_X10_answer_279 N k161 s x1 x3 x5 x7 t0) s 279 [(0, rf G.1 36), (1, .int x1), (3, .int x3), (5, .int x5), (7, .int x7)] [.int t0] := by
  unfold f_X10_answer_279
  refine tr_istore (lv2 := [(6, .int t0), (0, rf G.1 36), (1, .int x1), (3, .int x3), (5, .int x5), (7, .int x7)]) hX dX10_answer_279 (by decide) rfl ?_
  refine tr_lv (lv2 := [(0, rf G.1 36), (1, .int x1), (3, .int x3), (5, .int x5), (6, .int t0), (7, .int x7)]) [1, 2, 3, 4, 0, 5] rfl ?_
  exact w_X10_answer_281 hX hR hE N k161 hk161 s x1 x3 x5 t0 x7
set_option maxRecDepth 20000 in
set_option maxHeartbeats 2000000 in
theorem w_X10_answer_278 {G : Gx} (hX : ok G cX10_answer 9 RX10 (some .int) 2 48) (hR : okR G) (hE : va_D (AW G.1) (wd G.1 (fun _ _ => 0))) (N : Nat) (k161 : Hp → Int32 → Int32 → Int32 → Int32 → Int32 → Option (Int32 × Hp)) (hk161 : ∀ (s : Hp) (x1 x3 x5 x6 x7 : Int32), T G (k161 s x1 x3 x5 x6 x7) s 161 [(0, rf G.1 36), (1, .int x1), (3, .int x3), (5, .int x5), (6, .int x6), (7, .int x7)] []) (s : Hp) (x1 x3 x5 x7 : Int32) : T G (f_X10_answer_278 N k161 s x1 x3 x5 x7) s 278 [(0, rf G.1 36), (1, .int x1), (3, .int x3), (5, .int x5), (7, .int x7)] [] := by
  unfold f_X10_answer_278
  refine tr_iconst (v := 0) hX dX10_answer_278 rfl ?_
  exact w_X10_answer_279 hX hR hE N k161 hk161 s x1 x3 x5 x7 0
set_option maxRecDepth 20000 in
set_option maxHeartbeats 2000000 in
theorem w_X10_answer_262 {G : Gx} (hX : ok G cX10_answer 9 RX10 (some .int) 2 48) (hR : okR G) (hE : va_D (AW G.1) (wd G.1 (fun _ _ => 0))) (N : Nat) (k161 : Hp → Int32 → Int32 → Int32 → Int32 → Int32 → Option (Int32 × Hp)) (hk161 : ∀ (s : Hp) (x1 x3 x5 x6 x7 : Int32), T G (k161 s x1 x3 x5 x6 x7) s 161 [(0, rf G.1 36), (1, .int x1), (3, .int x3), (5, .int x5), (6, .int x6), (7, .int x7)] []) (s : Hp) (x1 x3 x6 x7 x8 t0 : Int32) : T G (f_X10_answer_262 N k161 s x1 x3 x6 x7 x8 t0) s 262 [(0, rf G.1 36), (1, .int x1), (3, .int x3), (6, .int x6), (7, .int x7), (8, .int x8)] [.int t0] := by
  unfold f_X10_answer_262
  refine tr_istore (lv2 := [(5, .int t0), (0, rf G.1 36), (1, .int x1), (3, .int x3), (6, .int x6), (7, .int x7), (8, .int x8)]) hX dX10_answer_262 (by decide) rfl ?_
  refine tr_iload hX 4 dX10_answer_264 rfl ?_
  refine tr_if_eq hX 278 dX10_answer_266 (by decide) ?_ ?_
  · refine tr_lv (lv2 := [(0, rf G.1 36), (1, .int x1), (3, .int x3), (5, .int t0), (7, .int x7)]) [1, 2, 3, 0, 5] rfl ?_
    exact w_X10_answer_278 hX hR hE N k161 hk161 s x1 x3 t0 x7
  · refine tr_iload hX 6 dX10_answer_269 rfl ?_
    refine tr_if_eq hX 278 dX10_answer_271 (by decide) ?_ ?_
    · refine tr_lv (lv2 := [(0, rf G.1 36), (1, .int x1), (3, .int x3), (5, .int t0), (7, .int x7)]) [1, 2, 3, 0, 5] rfl ?_
      exact w_X10_answer_278 hX hR hE N k161 hk161 s x1 x3 t0 x7
    · refine tr_iconst (v := 1) hX dX10_answer_274 rfl ?_
      refine tr_goto hX 279 dX10_answer_275 (by decide) ?_
      refine tr_lv (lv2 := [(0, rf G.1 36), (1, .int x1), (3, .int x3), (5, .int t0), (7, .int x7)]) [1, 2, 3, 0, 5] rfl ?_
      exact w_X10_answer_279 hX hR hE N k161 hk161 s x1 x3 t0 x7 1
set_option maxRecDepth 20000 in
set_option maxHeartbeats 2000000 in
theorem w_X10_answer_257 {G : Gx} (hX : ok G cX10_answer 9 RX10 (some .int) 2 48) (hR : okR G) (hE : va_D (AW G.1) (wd G.1 (fun _ _ => 0))) (N : Nat) (k161 : Hp → Int32 → Int32 → Int32 → Int32 → Int32 → Option (Int32 × Hp)) (hk161 : ∀ (s : Hp) (x1 x3 x5 x6 x7 : Int32), T G (k161 s x1 x3 x5 x6 x7) s 161 [(0, rf G.1 36), (1, .int x1), (3, .int x3), (5, .int x5), (6, .int x6), (7, .int x7)] []) (s : Hp) (x1 x3 x6 x7 x8 : Int32) : T G (f_X10_answer_257 N k161 s x1 x3 x6 x7 x8) s 257 [(0, rf G.1 36), (1, .int x1), (3, .int x3), (6, .int x6), (7, .int x7), (8, .int x8)] [] := by
  unfold f_X10_answer_257
  refine tr_iconst (v := 1) hX dX10_answer_257 rfl ?_
  refine tr_goto hX 262 dX10_answer_258 (by decide) ?_
  exact w_X10_answer_262 hX hR hE N k161 hk161 s x1 x3 x6 x7 x8 1
set_option maxRecDepth 20000 in
set_option maxHeartbeats 2000000 in
theorem w_X10_answer_245 {G : Gx} (hX : ok G cX10_answer 9 RX10 (some .int) 2 48) (hR : okR G) (hE : va_D (AW G.1) (wd G.1 (fun _ _ => 0))) (N : Nat) (k161 : Hp → Int32 → Int32 → Int32 → Int32 → Int32 → Option (Int32 × Hp)) (hk161 : ∀ (s : Hp) (x1 x3 x5 x6 x7 : Int32), T G (k161 s x1 x3 x5 x6 x7) s 161 [(0, rf G.1 36), (1, .int x1), (3, .int x3), (5, .int x5), (6, .int x6), (7, .int x7)] []) (s : Hp) (x1 x3 x5 x6 x7 t0 : Int32) : T G (f_X10_answer_245 N k161 s x1 x3 x5 x6 x7 t0) s 245 [(0, rf G.1 36), (1, .int x1), (3, .int x3), (5, .int x5), (6, .int x6), (7, .int x7)] [.int t0] := by
  unfold f_X10_answer_245
  refine tr_istore (lv2 := [(8, .int t0), (0, rf G.1 36), (1, .int x1), (3, .int x3), (5, .int x5), (6, .int x6), (7, .int x7)]) hX dX10_answer_245 (by decide) rfl ?_
  refine tr_iload hX 4 dX10_answer_247 rfl ?_
  refine tr_if_ne hX 257 dX10_answer_249 (by decide) ?_ ?_
  · refine tr_lv (lv2 := [(0, rf G.1 36), (1, .int x1), (3, .int x3), (6, .int x6), (7, .int x7), (8, .int t0)]) [1, 2, 3, 5, 6, 0] rfl ?_
    exact w_X10_answer_257 hX hR hE N k161 hk161 s x1 x3 x6 x7 t0
  · refine tr_iload hX 0 dX10_answer_252 rfl ?_
    refine tr_if_eq hX 261 dX10_answer_254 (by decide) ?_ ?_
    · refine tr_iconst (v := 0) hX dX10_answer_261 rfl ?_
      refine tr_lv (lv2 := [(0, rf G.1 36), (1, .int x1), (3, .int x3), (6, .int x6), (7, .int x7), (8, .int t0)]) [1, 2, 3, 5, 6, 0] rfl ?_
      exact w_X10_answer_262 hX hR hE N k161 hk161 s x1 x3 x6 x7 t0 0
    · refine tr_lv (lv2 := [(0, rf G.1 36), (1, .int x1), (3, .int x3), (6, .int x6), (7, .int x7), (8, .int t0)]) [1, 2, 3, 5, 6, 0] rfl ?_
      exact w_X10_answer_257 hX hR hE N k161 hk161 s x1 x3 x6 x7 t0
set_option maxRecDepth 20000 in
set_option maxHeartbeats 2000000 in
theorem w_X10_answer_244 {G : Gx} (hX : ok G cX10_answer 9 RX10 (some .int) 2 48) (hR : okR G) (hE : va_D (AW G.1) (wd G.1 (fun _ _ => 0))) (N : Nat) (k161 : Hp → Int32 → Int32 → Int32 → Int32 → Int32 → Option (Int32 × Hp)) (hk161 : ∀ (s : Hp) (x1 x3 x5 x6 x7 : Int32), T G (k161 s x1 x3 x5 x6 x7) s 161 [(0, rf G.1 36), (1, .int x1), (3, .int x3), (5, .int x5), (6, .int x6), (7, .int x7)] []) (s : Hp) (x1 x3 x5 x6 x7 : Int32) : T G (f_X10_answer_244 N k161 s x1 x3 x5 x6 x7) s 244 [(0, rf G.1 36), (1, .int x1), (3, .int x3), (5, .int x5), (6, .int x6), (7, .int x7)] [] := by
  unfold f_X10_answer_244
  refine tr_iconst (v := 0) hX dX10_answer_244 rfl ?_
  exact w_X10_answer_245 hX hR hE N k161 hk161 s x1 x3 x5 x6 x7 0
set_option maxRecDepth 20000 in
set_option maxHeartbeats 2000000 in
theorem w_X10_answer_161 {G : Gx} (hX : ok G cX10_answer 9 RX10 (some .int) 2 48) (hR : okR G) (hE : va_D (AW G.1) (wd G.1 (fun _ _ => 0))) (N : Nat) (k161 : Hp → Int32 → Int32 → Int32 → Int32 → Int32 → Option (Int32 × Hp)) (hk161 : ∀ (s : Hp) (x1 x3 x5 x6 x7 : Int32), T G (k161 s x1 x3 x5 x6 x7) s 161 [(0, rf G.1 36), (1, .int x1), (3, .int x3), (5, .int x5), (6, .int x6), (7, .int x7)] []) (s : Hp) (x1 x3 x5 x6 x7 : Int32) : T G (f_X10_answer_161 N k161 s x1 x3 x5 x6 x7) s 161 [(0, rf G.1 36), (1, .int x1), (3, .int x3), (5, .int x5), (6, .int x6), (7, .int x7)] [] := by
  unfold f_X10_answer_161
  refine tr_iload hX 5 dX10_answer_161 rfl ?_
  refine tr_sipush (v := 1024) hX dX10_answer_163 rfl ?_
  refine tr_icmp_ge hX 287 dX10_answer_166 (by decide) ?_ ?_
  · refine tr_iload hX 3 dX10_answer_287 rfl ?_
    refine tr_if_ne hX 296 dX10_answer_289 (by decide) ?_ ?_
    · refine tr_iload hX 4 dX10_answer_296 rfl ?_
      refine tr_if_eq hX 305 dX10_answer_298 (by decide) ?_ ?_
      · refine tr_iconst (v := 5) hX dX10_answer_305 rfl ?_
        exact tr_iret hX hR dX10_answer_306
      · refine tr_iconst (v := 0) hX dX10_answer_301 rfl ?_
        refine tr_goto hX 306 dX10_answer_302 (by decide) ?_
        exact tr_iret hX hR dX10_answer_306
    · refine tr_iconst (v := 4) hX dX10_answer_292 rfl ?_
      refine tr_goto hX 306 dX10_answer_293 (by decide) ?_
      exact tr_iret hX hR dX10_answer_306
  · refine tr_aload_n hX 0 dX10_answer_169 rfl rfl ?_
    refine tr_iload_n hX 1 dX10_answer_170 rfl rfl ?_
    refine tr_iload hX 5 dX10_answer_171 rfl ?_
    refine tr_callV hX 36 [.int x1, .int x7] kv_X10_isPlace wm_870 (by decide) rfl rfl rfl (by decide) rfl rfl (Nat.le_of_ble_eq_true rfl) dX10_answer_173 (fun vq sq hq => c_X10_isPlace G.1 hE N s x1 x7 (vq, sq) hq) fun v8 s7 => ?_
    refine tr_if_ne hX 182 dX10_answer_176 (by decide) ?_ ?_
    · refine tr_iload hX 5 dX10_answer_182 rfl ?_
      refine tr_bipush (v := 32) hX dX10_answer_184 rfl ?_
      refine tr_iremC hX dX10_answer_186 (by decide) ?_
      refine tr_aload_n hX 0 dX10_answer_187 rfl rfl ?_
      refine tr_getR hX 36 24 (by decide) rfl rfl rfl (by decide) gX10 wm_720 dX10_answer_188 ?_
      refine tr_iload_n hX 2 dX10_answer_191 rfl rfl ?_
      refine tr_bipush (v := 6) hX dX10_answer_192 rfl ?_
      refine tr_iadd hX dX10_answer_194 ?_
      refine tr_iald hX 53 (by decide) rfl dX10_answer_195 ?_
      refine tr_aload_n hX 0 dX10_answer_196 rfl rfl ?_
      refine tr_getR hX 36 24 (by decide) rfl rfl rfl (by decide) gX10 wm_720 dX10_answer_197 ?_
      refine tr_iload_n hX 2 dX10_answer_200 rfl rfl ?_
      refine tr_bipush (v := 7) hX dX10_answer_201 rfl ?_
      refine tr_iadd hX dX10_answer_203 ?_
      refine tr_iald hX 53 (by decide) rfl dX10_answer_204 ?_
      refine tr_callS hX [.int (irm x7 32), .int (s7 53 (ix (x3 + 6))), .int (s7 53 (ix (x3 + 7)))] ks_X10_isIn wm_809 (by decide) rfl rfl (Nat.le_of_ble_eq_true rfl) dX10_answer_205 (fun vq sq hq => c_X10_isIn G.1 hE N s7 (irm x7 32) (s7 53 (ix (x3 + 6))) (s7 53 (ix (x3 + 7))) (vq, sq) hq) fun v10 s9 => ?_
      refine tr_if_eq hX 244 dX10_answer_208 (by decide) ?_ ?_
      · exact w_X10_answer_244 hX hR hE N k161 hk161 s9 x1 x3 x5 x6 x7
      · refine tr_iload hX 5 dX10_answer_211 rfl ?_
        refine tr_bipush (v := 32) hX dX10_answer_213 rfl ?_
        refine tr_idivC hX dX10_answer_215 (by decide) ?_
        refine tr_aload_n hX 0 dX10_answer_216 rfl rfl ?_
        refine tr_getR hX 36 24 (by decide) rfl rfl rfl (by decide) gX10 wm_720 dX10_answer_217 ?_
        refine tr_iload_n hX 2 dX10_answer_220 rfl rfl ?_
        refine tr_bipush (v := 8) hX dX10_answer_221 rfl ?_
        refine tr_iadd hX dX10_answer_223 ?_
        refine tr_iald hX 53 (by decide) rfl dX10_answer_224 ?_
        refine tr_aload_n hX 0 dX10_answer_225 rfl rfl ?_
        refine tr_getR hX 36 24 (by decide) rfl rfl rfl (by decide) gX10 wm_720 dX10_answer_226 ?_
        refine tr_iload_n hX 2 dX10_answer_229 rfl rfl ?_
        refine tr_bipush (v := 9) hX dX10_answer_230 rfl ?_
        refine tr_iadd hX dX10_answer_232 ?_
        refine tr_iald hX 53 (by decide) rfl dX10_answer_233 ?_
        refine tr_callS hX [.int (x7 / 32), .int (s9 53 (ix (x3 + 8))), .int (s9 53 (ix (x3 + 9)))] ks_X10_isIn wm_809 (by decide) rfl rfl (Nat.le_of_ble_eq_true rfl) dX10_answer_234 (fun vq sq hq => c_X10_isIn G.1 hE N s9 (x7 / 32) (s9 53 (ix (x3 + 8))) (s9 53 (ix (x3 + 9))) (vq, sq) hq) fun v12 s11 => ?_
        refine tr_if_eq hX 244 dX10_answer_237 (by decide) ?_ ?_
        · exact w_X10_answer_244 hX hR hE N k161 hk161 s11 x1 x3 x5 x6 x7
        · refine tr_iconst (v := 1) hX dX10_answer_240 rfl ?_
          refine tr_goto hX 245 dX10_answer_241 (by decide) ?_
          exact w_X10_answer_245 hX hR hE N k161 hk161 s11 x1 x3 x5 x6 x7 1
    · refine tr_goto hX 281 dX10_answer_179 (by decide) ?_
      exact w_X10_answer_281 hX hR hE N k161 hk161 s7 x1 x3 x5 x6 x7
theorem wl_X10_answer_161 {G : Gx} (hX : ok G cX10_answer 9 RX10 (some .int) 2 48) (hR : okR G) (hE : va_D (AW G.1) (wd G.1 (fun _ _ => 0))) (N : Nat) : ∀ (n : Nat) (s : Hp) (x1 x3 x5 x6 x7 : Int32), T G (lp (fun _ _ _ _ _ _ => none) (f_X10_answer_161 N) n s x1 x3 x5 x6 x7) s 161 [(0, rf G.1 36), (1, .int x1), (3, .int x3), (5, .int x5), (6, .int x6), (7, .int x7)] [] := by
  intro n
  induction n with
  | zero => exact fun s x1 x3 x5 x6 x7 h => nomatch (show (none : Option (Int32 × Hp)) = some _ from h)
  | succ n ih => exact fun s x1 x3 x5 x6 x7 => w_X10_answer_161 hX hR hE N _ ih s x1 x3 x5 x6 x7
set_option maxRecDepth 20000 in
set_option maxHeartbeats 2000000 in
theorem w_X10_answer_44 {G : Gx} (hX : ok G cX10_answer 9 RX10 (some .int) 2 48) (hR : okR G) (hE : va_D (AW G.1) (wd G.1 (fun _ _ => 0))) (N : Nat) (k44 : Hp → Int32 → Int32 → Int32 → Int32 → Int32 → Option (Int32 × Hp)) (hk44 : ∀ (s : Hp) (x1 x2 x3 x4 x5 : Int32), T G (k44 s x1 x2 x3 x4 x5) s 44 [(0, rf G.1 36), (1, .int x1), (2, .int x2), (3, .int x3), (4, .int x4), (5, .int x5)] []) (s : Hp) (x1 x2 x3 x4 x5 : Int32) : T G (f_X10_answer_44 N k44 s x1 x2 x3 x4 x5) s 44 [(0, rf G.1 36), (1, .int x1), (2, .int x2), (3, .int x3), (4, .int x4), (5, .int x5)] [] := by
  unfold f_X10_answer_44
  refine tr_iload hX 5 dX10_answer_44 rfl ?_
  refine tr_aload_n hX 0 dX10_answer_46 rfl rfl ?_
  refine tr_getI hX 36 8 (by decide) rfl rfl rfl (by decide) gX10 wm_704 dX10_answer_47 ?_
  refine tr_icmp_ge hX 145 dX10_answer_50 (by decide) ?_ ?_
  · refine tr_iload hX 4 dX10_answer_145 rfl ?_
    refine tr_if_ne hX 152 dX10_answer_147 (by decide) ?_ ?_
    · refine tr_iconst (v := 0) hX dX10_answer_152 rfl ?_
      refine tr_istore (lv2 := [(5, .int 0), (0, rf G.1 36), (1, .int x1), (2, .int x2), (3, .int x3), (4, .int x4)]) hX dX10_answer_153 (by decide) rfl ?_
      refine tr_iconst (v := 1) hX dX10_answer_155 rfl ?_
      refine tr_istore (lv2 := [(6, .int 1), (5, .int 0), (0, rf G.1 36), (1, .int x1), (2, .int x2), (3, .int x3), (4, .int x4)]) hX dX10_answer_156 (by decide) rfl ?_
      refine tr_iconst (v := 0) hX dX10_answer_158 rfl ?_
      refine tr_istore (lv2 := [(7, .int 0), (6, .int 1), (5, .int 0), (0, rf G.1 36), (1, .int x1), (2, .int x2), (3, .int x3), (4, .int x4)]) hX dX10_answer_159 (by decide) rfl ?_
      refine tr_lv (lv2 := [(0, rf G.1 36), (1, .int x1), (3, .int x3), (5, .int 0), (6, .int 1), (7, .int 0)]) [3, 4, 6, 2, 1, 0] rfl ?_
      exact wl_X10_answer_161 hX hR hE N N s x1 x3 0 1 0
    · refine tr_iconst (v := 3) hX dX10_answer_150 rfl ?_
      exact tr_iret hX hR dX10_answer_151
  · refine tr_aload_n hX 0 dX10_answer_53 rfl rfl ?_
    refine tr_getR hX 36 19 (by decide) rfl rfl rfl (by decide) gX10 wm_715 dX10_answer_54 ?_
    refine tr_iload hX 5 dX10_answer_57 rfl ?_
    refine tr_iald hX 50 (by decide) rfl dX10_answer_59 ?_
    refine tr_iload_n hX 1 dX10_answer_60 rfl rfl ?_
    refine tr_icmp_eq hX 67 dX10_answer_61 (by decide) ?_ ?_
    · refine tr_aload_n hX 0 dX10_answer_67 rfl rfl ?_
      refine tr_getR hX 36 13 (by decide) rfl rfl rfl (by decide) gX10 wm_709 dX10_answer_68 ?_
      refine tr_iload hX 5 dX10_answer_71 rfl ?_
      refine tr_iald hX 47 (by decide) rfl dX10_answer_73 ?_
      refine tr_aload_n hX 0 dX10_answer_74 rfl rfl ?_
      refine tr_getR hX 36 24 (by decide) rfl rfl rfl (by decide) gX10 wm_720 dX10_answer_75 ?_
      refine tr_iload_n hX 3 dX10_answer_78 rfl rfl ?_
      refine tr_iconst (v := 4) hX dX10_answer_79 rfl ?_
      refine tr_iadd hX dX10_answer_80 ?_
      refine tr_iald hX 53 (by decide) rfl dX10_answer_81 ?_
      refine tr_aload_n hX 0 dX10_answer_82 rfl rfl ?_
      refine tr_getR hX 36 24 (by decide) rfl rfl rfl (by decide) gX10 wm_720 dX10_answer_83 ?_
      refine tr_iload_n hX 3 dX10_answer_86 rfl rfl ?_
      refine tr_iconst (v := 5) hX dX10_answer_87 rfl ?_
      refine tr_iadd hX dX10_answer_88 ?_
      refine tr_iald hX 53 (by decide) rfl dX10_answer_89 ?_
      refine tr_callS hX [.int (s 47 (ix x5)), .int (s 53 (ix (x3 + 4))), .int (s 53 (ix (x3 + 5)))] ks_X10_isIn wm_809 (by decide) rfl rfl (Nat.le_of_ble_eq_true rfl) dX10_answer_90 (fun vq sq hq => c_X10_isIn G.1 hE N s (s 47 (ix x5)) (s 53 (ix (x3 + 4))) (s 53 (ix (x3 + 5))) (vq, sq) hq) fun v5 s4 => ?_
      refine tr_if_ne hX 98 dX10_answer_93 (by decide) ?_ ?_
      · refine tr_aload_n hX 0 dX10_answer_98 rfl rfl ?_
        refine tr_getR hX 36 11 (by decide) rfl rfl rfl (by decide) gX10 wm_707 dX10_answer_99 ?_
        refine tr_iload hX 5 dX10_answer_102 rfl ?_
        refine tr_iald hX 45 (by decide) rfl dX10_answer_104 ?_
        refine tr_istoreB (lv2 := fun y6 => [(6, .int y6), (0, rf G.1 36), (1, .int x1), (2, .int x2), (3, .int x3), (4, .int x4), (5, .int x5)]) hX dX10_answer_105 (by decide) (fun _ => rfl) fun y6 => ?_
        refine tr_lv (lv2 := [(0, rf G.1 36), (1, .int x1), (2, .int x2), (3, .int x3), (4, .int x4), (5, .int x5), (6, .int y6)]) [1, 2, 3, 4, 5, 6, 0] rfl ?_
        exact wl_X10_answer_107 hX hR hE N k44 hk44 N s4 x1 x2 x3 x4 x5 y6
      · refine tr_iconst (v := 2) hX dX10_answer_96 rfl ?_
        exact tr_iret hX hR dX10_answer_97
    · refine tr_goto hX 139 dX10_answer_64 (by decide) ?_
      exact w_X10_answer_139 hX hR hE N k44 hk44 s x1 x2 x3 x4 x5
theorem wl_X10_answer_44 {G : Gx} (hX : ok G cX10_answer 9 RX10 (some .int) 2 48) (hR : okR G) (hE : va_D (AW G.1) (wd G.1 (fun _ _ => 0))) (N : Nat) : ∀ (n : Nat) (s : Hp) (x1 x2 x3 x4 x5 : Int32), T G (lp (fun _ _ _ _ _ _ => none) (f_X10_answer_44 N) n s x1 x2 x3 x4 x5) s 44 [(0, rf G.1 36), (1, .int x1), (2, .int x2), (3, .int x3), (4, .int x4), (5, .int x5)] [] := by
  intro n
  induction n with
  | zero => exact fun s x1 x2 x3 x4 x5 h => nomatch (show (none : Option (Int32 × Hp)) = some _ from h)
  | succ n ih => exact fun s x1 x2 x3 x4 x5 => w_X10_answer_44 hX hR hE N _ ih s x1 x2 x3 x4 x5
set_option maxRecDepth 20000 in
set_option maxHeartbeats 2000000 in
theorem w_X10_answer {G : Gx} (hX : ok G cX10_answer 9 RX10 (some .int) 2 48) (hR : okR G) (hE : va_D (AW G.1) (wd G.1 (fun _ _ => 0))) (N : Nat) (s : Hp) (x1 x2 : Int32) : T G (f_X10_answer N s x1 x2) s 0 [(0, rf G.1 36), (1, .int x1), (2, .int x2)] [] := by
  unfold f_X10_answer
  refine tr_bipush (v := 10) hX dX10_answer_0 rfl ?_
  refine tr_iload_n hX 2 dX10_answer_2 rfl rfl ?_
  refine tr_imul hX dX10_answer_3 ?_
  refine tr_istore_nB (lv2 := fun y1 => [(3, .int y1), (0, rf G.1 36), (1, .int x1), (2, .int x2)]) hX dX10_answer_4 rfl (by decide) (fun _ => rfl) fun y1 => ?_
  refine tr_aload_n hX 1 dX10_answer_5 rfl rfl ?_
  refine tr_getR hX 36 10 (by decide) rfl rfl rfl (by decide) gX10 wm_706 dX10_answer_6 ?_
  refine tr_aload_n hX 1 dX10_answer_9 rfl rfl ?_
  refine tr_getR hX 36 20 (by decide) rfl rfl rfl (by decide) gX10 wm_716 dX10_answer_10 ?_
  refine tr_iload_n hX 2 dX10_answer_13 rfl rfl ?_
  refine tr_iald hX 51 (by decide) rfl dX10_answer_14 ?_
  refine tr_iald hX 44 (by decide) rfl dX10_answer_15 ?_
  refine tr_aload_n hX 1 dX10_answer_16 rfl rfl ?_
  refine tr_getR hX 36 24 (by decide) rfl rfl rfl (by decide) gX10 wm_720 dX10_answer_17 ?_
  refine tr_iload_n hX 0 dX10_answer_20 rfl rfl ?_
  refine tr_iald hX 53 (by decide) rfl dX10_answer_21 ?_
  refine tr_aload_n hX 1 dX10_answer_22 rfl rfl ?_
  refine tr_getR hX 36 24 (by decide) rfl rfl rfl (by decide) gX10 wm_720 dX10_answer_23 ?_
  refine tr_iload_n hX 0 dX10_answer_26 rfl rfl ?_
  refine tr_iconst (v := 1) hX dX10_answer_27 rfl ?_
  refine tr_iadd hX dX10_answer_28 ?_
  refine tr_iald hX 53 (by decide) rfl dX10_answer_29 ?_
  refine tr_callS hX [.int (s 44 (ix (s 51 (ix x1)))), .int (s 53 (ix y1)), .int (s 53 (ix (y1 + 1)))] ks_X10_isIn wm_809 (by decide) rfl rfl (Nat.le_of_ble_eq_true rfl) dX10_answer_30 (fun vq sq hq => c_X10_isIn G.1 hE N s (s 44 (ix (s 51 (ix x1)))) (s 53 (ix y1)) (s 53 (ix (y1 + 1))) (vq, sq) hq) fun v3 s2 => ?_
  refine tr_if_ne hX 38 dX10_answer_33 (by decide) ?_ ?_
  · refine tr_iconst (v := 1) hX dX10_answer_38 rfl ?_
    refine tr_istore (lv2 := [(4, .int 1), (3, .int y1), (0, rf G.1 36), (1, .int x1), (2, .int x2)]) hX dX10_answer_39 (by decide) rfl ?_
    refine tr_iconst (v := 0) hX dX10_answer_41 rfl ?_
    refine tr_istore (lv2 := [(5, .int 0), (4, .int 1), (3, .int y1), (0, rf G.1 36), (1, .int x1), (2, .int x2)]) hX dX10_answer_42 (by decide) rfl ?_
    refine tr_lv (lv2 := [(0, rf G.1 36), (1, .int x1), (2, .int x2), (3, .int y1), (4, .int 1), (5, .int 0)]) [3, 4, 5, 2, 1, 0] rfl ?_
    exact wl_X10_answer_44 hX hR hE N N s2 x1 x2 y1 1 0
  · refine tr_iconst (v := 1) hX dX10_answer_36 rfl ?_
    exact tr_iret hX hR dX10_answer_37
theorem c_X10_answer (E : Ex) (hE : va_D (AW E) (wd E (fun _ _ => 0))) (N : Nat) (s : Hp) (x1 x2 : Int32) (r : Int32 × Hp) (h : f_X10_answer N s x1 x2 = some r) : CtrI E yX10_answer cX10_answer 9 (some .int) 2 48 [rf E 36, .int x1, .int x2] s r :=
  ctrI_of (by decide +kernel) hE (Nat.le_of_ble_eq_true rfl) h (fun G hX hR hG => by subst hG; exact w_X10_answer hX hR hE N s x1 x2)
set_option maxRecDepth 20000 in
set_option maxHeartbeats 2000000 in
theorem w_X10_fits {G : Gx} (hX : ok G cX10_fits 3 RX10 (some .int) 4 90) (hR : okR G) (hE : va_D (AW G.1) (wd G.1 (fun _ _ => 0))) (N : Nat) (s : Hp) (x1 x2 : Int32) : T G (f_X10_fits N s x1 x2) s 0 [(0, rf G.1 36), (1, .int x1), (2, .int x2)] [] := by
  unfold f_X10_fits
  refine tr_aload_n hX 0 dX10_fits_0 rfl rfl ?_
  refine tr_iload_n hX 1 dX10_fits_1 rfl rfl ?_
  refine tr_callV hX 36 [.int x1] kv_X10_isSender wm_866 (by decide) rfl rfl rfl (by decide) rfl rfl (Nat.le_of_ble_eq_true rfl) dX10_fits_2 (fun vq sq hq => c_X10_isSender G.1 hE N s x1 (vq, sq) hq) fun v2 s1 => ?_
  refine tr_if_eq hX 31 dX10_fits_5 (by decide) ?_ ?_
  · refine tr_iconst (v := (-1)) hX dX10_fits_31 rfl ?_
    exact tr_iret hX hR dX10_fits_32
  · refine tr_iload_n hX 2 dX10_fits_8 rfl rfl ?_
    refine tr_iconst (v := 0) hX dX10_fits_9 rfl ?_
    refine tr_aload_n hX 0 dX10_fits_10 rfl rfl ?_
    refine tr_getI hX 36 23 (by decide) rfl rfl rfl (by decide) gX10 wm_719 dX10_fits_11 ?_
    refine tr_iconst (v := 1) hX dX10_fits_14 rfl ?_
    refine tr_isub hX dX10_fits_15 ?_
    refine tr_callS hX [.int x2, .int 0, .int ((s1 36 23) - 1)] ks_X10_isIn wm_809 (by decide) rfl rfl (Nat.le_of_ble_eq_true rfl) dX10_fits_16 (fun vq sq hq => c_X10_isIn G.1 hE N s1 x2 0 ((s1 36 23) - 1) (vq, sq) hq) fun v4 s3 => ?_
    refine tr_if_eq hX 31 dX10_fits_19 (by decide) ?_ ?_
    · refine tr_iconst (v := (-1)) hX dX10_fits_31 rfl ?_
      exact tr_iret hX hR dX10_fits_32
    · refine tr_aload_n hX 0 dX10_fits_22 rfl rfl ?_
      refine tr_iload_n hX 1 dX10_fits_23 rfl rfl ?_
      refine tr_iload_n hX 2 dX10_fits_24 rfl rfl ?_
      refine tr_callV hX 36 [.int x1, .int x2] kv_X10_answer wm_955 (by decide) rfl rfl rfl (by decide) rfl rfl (Nat.le_of_ble_eq_true rfl) dX10_fits_25 (fun vq sq hq => c_X10_answer G.1 hE N s3 x1 x2 (vq, sq) hq) fun v6 s5 => ?_
      refine tr_goto hX 32 dX10_fits_28 (by decide) ?_
      exact tr_iret hX hR dX10_fits_32
theorem c_X10_fits (E : Ex) (hE : va_D (AW E) (wd E (fun _ _ => 0))) (N : Nat) (s : Hp) (x1 x2 : Int32) (r : Int32 × Hp) (h : f_X10_fits N s x1 x2 = some r) : CtrI E yX10_fits cX10_fits 3 (some .int) 4 90 [rf E 36, .int x1, .int x2] s r :=
  ctrI_of (by decide +kernel) hE (Nat.le_of_ble_eq_true rfl) h (fun G hX hR hG => by subst hG; exact w_X10_fits hX hR hE N s x1 x2)
set_option maxRecDepth 20000 in
set_option maxHeartbeats 2000000 in
theorem w_X10_rankOf {G : Gx} (hX : ok G cX10_rankOf 1 RX10 (some .int) 0 0) (hR : okR G) (hE : va_D (AW G.1) (wd G.1 (fun _ _ => 0))) (N : Nat) (s : Hp) (x0 : Int32) : T G (f_X10_rankOf N s x0) s 0 [(0, .int x0)] [] := by
  unfold f_X10_rankOf
  refine tr_iload_n hX 0 dX10_rankOf_0 rfl rfl ?_
  refine tr_if_ne hX 8 dX10_rankOf_1 (by decide) ?_ ?_
  · refine tr_bipush (v := 6) hX dX10_rankOf_8 rfl ?_
    refine tr_iload_n hX 0 dX10_rankOf_10 rfl rfl ?_
    refine tr_isub hX dX10_rankOf_11 ?_
    exact tr_iret hX hR dX10_rankOf_12
  · refine tr_iconst (v := 0) hX dX10_rankOf_4 rfl ?_
    refine tr_goto hX 12 dX10_rankOf_5 (by decide) ?_
    exact tr_iret hX hR dX10_rankOf_12
theorem c_X10_rankOf (E : Ex) (hE : va_D (AW E) (wd E (fun _ _ => 0))) (N : Nat) (s : Hp) (x0 : Int32) (r : Int32 × Hp) (h : f_X10_rankOf N s x0 = some r) : CtrI E yX10_rankOf cX10_rankOf 1 (some .int) 0 0 [.int x0] s r :=
  ctrI_of (by decide +kernel) hE (Nat.le_of_ble_eq_true rfl) h (fun G hX hR hG => by subst hG; exact w_X10_rankOf hX hR hE N s x0)
set_option maxRecDepth 20000 in
set_option maxHeartbeats 2000000 in
theorem w_X10_bestOf_39 {G : Gx} (hX : ok G cX10_bestOf 4 RX10 (some .int) 3 76) (hR : okR G) (hE : va_D (AW G.1) (wd G.1 (fun _ _ => 0))) (N : Nat) (k4 : Hp → Int32 → Int32 → Int32 → Option (Int32 × Hp)) (hk4 : ∀ (s : Hp) (x1 x2 x3 : Int32), T G (k4 s x1 x2 x3) s 4 [(0, rf G.1 36), (1, .int x1), (2, .int x2), (3, .int x3)] []) (s : Hp) (x1 x2 x3 : Int32) : T G (f_X10_bestOf_39 N k4 s x1 x2 x3) s 39 [(0, rf G.1 36), (1, .int x1), (2, .int x2), (3, .int x3)] [] := by
  unfold f_X10_bestOf_39
  refine tr_iincB (b := 1) (lv2 := fun y9 => [(3, .int y9), (0, rf G.1 36), (1, .int x1), (2, .int x2)]) hX 3 dX10_bestOf_39 rfl rfl (by decide) (fun _ => rfl) fun y9 => ?_
  refine tr_goto hX 4 dX10_bestOf_42 (by decide) ?_
  refine tr_lv (lv2 := [(0, rf G.1 36), (1, .int x1), (2, .int x2), (3, .int y9)]) [1, 2, 3, 0] rfl ?_
  exact hk4 s x1 x2 y9
set_option maxRecDepth 20000 in
set_option maxHeartbeats 2000000 in
theorem w_X10_bestOf_37 {G : Gx} (hX : ok G cX10_bestOf 4 RX10 (some .int) 3 76) (hR : okR G) (hE : va_D (AW G.1) (wd G.1 (fun _ _ => 0))) (N : Nat) (k4 : Hp → Int32 → Int32 → Int32 → Option (Int32 × Hp)) (hk4 : ∀ (s : Hp) (x1 x2 x3 : Int32), T G (k4 s x1 x2 x3) s 4 [(0, rf G.1 36), (1, .int x1), (2, .int x2), (3, .int x3)] []) (s : Hp) (x1 x3 : Int32) : T G (f_X10_bestOf_37 N k4 s x1 x3) s 37 [(0, rf G.1 36), (1, .int x1), (3, .int x3)] [] := by
  unfold f_X10_bestOf_37
  refine tr_iload_n hX 2 dX10_bestOf_37 rfl rfl ?_
  refine tr_istore_n (lv2 := [(2, .int x3), (0, rf G.1 36), (1, .int x1), (3, .int x3)]) hX dX10_bestOf_38 rfl (by decide) rfl ?_
  refine tr_lv (lv2 := [(0, rf G.1 36), (1, .int x1), (2, .int x3), (3, .int x3)]) [1, 2, 0, 3] rfl ?_
  exact w_X10_bestOf_39 hX hR hE N k4 hk4 s x1 x3 x3
set_option maxRecDepth 20000 in
set_option maxHeartbeats 2000000 in
theorem w_X10_bestOf_4 {G : Gx} (hX : ok G cX10_bestOf 4 RX10 (some .int) 3 76) (hR : okR G) (hE : va_D (AW G.1) (wd G.1 (fun _ _ => 0))) (N : Nat) (k4 : Hp → Int32 → Int32 → Int32 → Option (Int32 × Hp)) (hk4 : ∀ (s : Hp) (x1 x2 x3 : Int32), T G (k4 s x1 x2 x3) s 4 [(0, rf G.1 36), (1, .int x1), (2, .int x2), (3, .int x3)] []) (s : Hp) (x1 x2 x3 : Int32) : T G (f_X10_bestOf_4 N k4 s x1 x2 x3) s 4 [(0, rf G.1 36), (1, .int x1), (2, .int x2), (3, .int x3)] [] := by
  unfold f_X10_bestOf_4
  refine tr_iload_n hX 3 dX10_bestOf_4 rfl rfl ?_
  refine tr_aload_n hX 0 dX10_bestOf_5 rfl rfl ?_
  refine tr_getI hX 36 23 (by decide) rfl rfl rfl (by decide) gX10 wm_719 dX10_bestOf_6 ?_
  refine tr_icmp_ge hX 45 dX10_bestOf_9 (by decide) ?_ ?_
  · refine tr_iload_n hX 2 dX10_bestOf_45 rfl rfl ?_
    exact tr_iret hX hR dX10_bestOf_46
  · refine tr_iload_n hX 2 dX10_bestOf_12 rfl rfl ?_
    refine tr_if_lt hX 37 dX10_bestOf_13 (by decide) ?_ ?_
    · refine tr_lv (lv2 := [(0, rf G.1 36), (1, .int x1), (3, .int x3)]) [0, 1, 3] rfl ?_
      exact w_X10_bestOf_37 hX hR hE N k4 hk4 s x1 x3
    · refine tr_aload_n hX 0 dX10_bestOf_16 rfl rfl ?_
      refine tr_iload_n hX 1 dX10_bestOf_17 rfl rfl ?_
      refine tr_iload_n hX 3 dX10_bestOf_18 rfl rfl ?_
      refine tr_callV hX 36 [.int x1, .int x3] kv_X10_answer wm_955 (by decide) rfl rfl rfl (by decide) rfl rfl (Nat.le_of_ble_eq_true rfl) dX10_bestOf_19 (fun vq sq hq => c_X10_answer G.1 hE N s x1 x3 (vq, sq) hq) fun v2 s1 => ?_
      refine tr_callS hX [.int v2] ks_X10_rankOf wm_971 (by decide) rfl rfl (Nat.le_of_ble_eq_true rfl) dX10_bestOf_22 (fun vq sq hq => c_X10_rankOf G.1 hE N s1 v2 (vq, sq) hq) fun v4 s3 => ?_
      refine tr_aload_n hX 0 dX10_bestOf_25 rfl rfl ?_
      refine tr_iload_n hX 1 dX10_bestOf_26 rfl rfl ?_
      refine tr_iload_n hX 2 dX10_bestOf_27 rfl rfl ?_
      refine tr_callV hX 36 [.int x1, .int x2] kv_X10_answer wm_955 (by decide) rfl rfl rfl (by decide) rfl rfl (Nat.le_of_ble_eq_true rfl) dX10_bestOf_28 (fun vq sq hq => c_X10_answer G.1 hE N s3 x1 x2 (vq, sq) hq) fun v6 s5 => ?_
      refine tr_callS hX [.int v6] ks_X10_rankOf wm_971 (by decide) rfl rfl (Nat.le_of_ble_eq_true rfl) dX10_bestOf_31 (fun vq sq hq => c_X10_rankOf G.1 hE N s5 v6 (vq, sq) hq) fun v8 s7 => ?_
      refine tr_icmp_ge hX 39 dX10_bestOf_34 (by decide) ?_ ?_
      · exact w_X10_bestOf_39 hX hR hE N k4 hk4 s7 x1 x2 x3
      · refine tr_lv (lv2 := [(0, rf G.1 36), (1, .int x1), (3, .int x3)]) [0, 1, 3] rfl ?_
        exact w_X10_bestOf_37 hX hR hE N k4 hk4 s7 x1 x3
theorem wl_X10_bestOf_4 {G : Gx} (hX : ok G cX10_bestOf 4 RX10 (some .int) 3 76) (hR : okR G) (hE : va_D (AW G.1) (wd G.1 (fun _ _ => 0))) (N : Nat) : ∀ (n : Nat) (s : Hp) (x1 x2 x3 : Int32), T G (lp (fun _ _ _ _ => none) (f_X10_bestOf_4 N) n s x1 x2 x3) s 4 [(0, rf G.1 36), (1, .int x1), (2, .int x2), (3, .int x3)] [] := by
  intro n
  induction n with
  | zero => exact fun s x1 x2 x3 h => nomatch (show (none : Option (Int32 × Hp)) = some _ from h)
  | succ n ih => exact fun s x1 x2 x3 => w_X10_bestOf_4 hX hR hE N _ ih s x1 x2 x3
set_option maxRecDepth 20000 in
set_option maxHeartbeats 2000000 in
theorem w_X10_bestOf {G : Gx} (hX : ok G cX10_bestOf 4 RX10 (some .int) 3 76) (hR : okR G) (hE : va_D (AW G.1) (wd G.1 (fun _ _ => 0))) (N : Nat) (s : Hp) (x1 : Int32) : T G (f_X10_bestOf N s x1) s 0 [(0, rf G.1 36), (1, .int x1)] [] := by
  unfold f_X10_bestOf
  refine tr_iconst (v := (-1)) hX dX10_bestOf_0 rfl ?_
  refine tr_istore_n (lv2 := [(2, .int (-1)), (0, rf G.1 36), (1, .int x1)]) hX dX10_bestOf_1 rfl (by decide) rfl ?_
  refine tr_iconst (v := 0) hX dX10_bestOf_2 rfl ?_
  refine tr_istore_n (lv2 := [(3, .int 0), (2, .int (-1)), (0, rf G.1 36), (1, .int x1)]) hX dX10_bestOf_3 rfl (by decide) rfl ?_
  refine tr_lv (lv2 := [(0, rf G.1 36), (1, .int x1), (2, .int (-1)), (3, .int 0)]) [2, 3, 1, 0] rfl ?_
  exact wl_X10_bestOf_4 hX hR hE N N s x1 (-1) 0
theorem c_X10_bestOf (E : Ex) (hE : va_D (AW E) (wd E (fun _ _ => 0))) (N : Nat) (s : Hp) (x1 : Int32) (r : Int32 × Hp) (h : f_X10_bestOf N s x1 = some r) : CtrI E yX10_bestOf cX10_bestOf 4 (some .int) 3 76 [rf E 36, .int x1] s r :=
  ctrI_of (by decide +kernel) hE (Nat.le_of_ble_eq_true rfl) h (fun G hX hR hG => by subst hG; exact w_X10_bestOf hX hR hE N s x1)
